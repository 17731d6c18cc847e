/-! ===== the tables' words that keep ===== -/
def xT : List Cond := lw_tbl.filter goodWord
theorem xT_good {w : Cond} (h : w ∈ xT) : (w.onTables && w.keeps) = true ∨ ∃ ty, w = .arrayClass ty := good_of_word (List.mem_filter.mp h).2
theorem xT_in {w : Cond} (h : w ∈ lw_tbl) (hg : goodWord w = true) : w ∈ xT := List.mem_filter.mpr ⟨h, hg⟩
theorem xT_tb {w : Cond} (h : w ∈ tables_1) (hg : goodWord w = true) : w ∈ xT := xT_in (List.mem_append_right _ h) hg
theorem xT_hts {args : Array Value} {s : State} (h : ∀ w ∈ lw_tbl, w.before args s = true) : ∀ w ∈ xT, w.before args s = true := fun w hw => h w (List.mem_filter.mp hw).1
theorem xT_GoodIn {y : MethodName} {cc : ByteArray} {nL : Nat} {ret : Option FieldType} (h : Cond.code y cc nL ret ∈ xT) : GoodIn xT (.code y cc nL ret :: xT) := by
  intro w hw
  rcases List.mem_cons.mp hw with rfl | hw
  · exact ⟨h, xT_good h⟩
  · exact ⟨hw, xT_good hw⟩
/-! ===== a side's world: cells at numbered addresses, of fixed shapes, holding ints ===== -/
abbrev xS : Type := Nat → Nat → Int32
abbrev xSh : Type := Nat ⊕ (Nat × List (Option Nat)) ⊕ List Nat
abbrev xG : Type := va_G × (ClassId × ClassId × String) × (Nat → Nat) × Nat × (Nat → xSh)
def gD (G : xG) : va_G := G.1
def gI (G : xG) : ClassId := G.2.1.1
def gR (G : xG) : ClassId := G.2.1.2.1
def gC (G : xG) : String := G.2.1.2.2
def gA (G : xG) : Nat → Nat := G.2.2.1
def gN (G : xG) : Nat := G.2.2.2.1
def gS (G : xG) : Nat → xSh := G.2.2.2.2
def gT (G : xG) : List (ClassId × FieldType) := [(gI G, .int), (gR G, .object (gC G))]
def gF (G : xG) : Nat → Prop := fun q => ∃ k, k < gN G ∧ gA G k = q
def xV (G : xG) (σ : xS) (k j : Nat) (o : Option Nat) : Value := match o with
  | none => .int (σ k j)
  | some k' => .ref (gA G k')
def xFs (G : xG) (σ : xS) (k : Nat) (fs : List (Option Nat)) : List Value := fs.mapIdx (fun j o => xV G σ k j o)
def xCell (G : xG) (σ : xS) (k : Nat) : va_E := match gS G k with
  | .inl n => .inl (gI G, n, .inl (σ k))
  | .inr (.inl (ci, fs)) => .inr (ci, xFs G σ k fs)
  | .inr (.inr rs) => .inl (gR G, rs.length, .inr (.inr (.inr (.inr (fun j => (rs[j]?).map (gA G))))))
def xW (G : xG) (σ : xS) : va_W := (List.range (gN G)).map (fun k => (gA G k, xCell G σ k))
def xInj (G : xG) : Prop := ∀ i j, i < gN G → j < gN G → gA G i = gA G j → i = j
/-- an int row of a world anew -/
def xup (σ : xS) (k : Nat) (f : Nat → Int32) : xS := fun j => if j = k then f else σ j
theorem xup_s (σ : xS) (k : Nat) (f : Nat → Int32) : xup σ k f k = f := if_pos rfl
theorem xup_n (σ : xS) {k j : Nat} (f : Nat → Int32) (h : j ≠ k) : xup σ k f j = σ j := if_neg h
theorem xW_at {G : xG} {σ : xS} {k : Nat} (hk : k < gN G) : (xW G σ)[k]? = some (gA G k, xCell G σ k) := by
  simp [xW, hk]
theorem xW_atI {G : xG} {σ : xS} {k n : Nat} (hk : k < gN G) (hs : gS G k = .inl n) : (xW G σ)[k]? = some (gA G k, .inl (gI G, n, .inl (σ k))) := by
  rw [xW_at hk]; simp [xCell, hs]
theorem xW_atO {G : xG} {σ : xS} {k ci : Nat} {fs : List (Option Nat)} (hk : k < gN G) (hs : gS G k = .inr (.inl (ci, fs))) : (xW G σ)[k]? = some (gA G k, .inr (ci, xFs G σ k fs)) := by
  rw [xW_at hk]; simp [xCell, hs]
theorem xW_atR {G : xG} {σ : xS} {k : Nat} {rs : List Nat} (hk : k < gN G) (hs : gS G k = .inr (.inr rs)) : (xW G σ)[k]? = some (gA G k, .inl (gR G, rs.length, .inr (.inr (.inr (.inr (fun j => (rs[j]?).map (gA G))))))) := by
  rw [xW_at hk]; simp [xCell, hs]
theorem xFs_at {G : xG} {σ : xS} {k j : Nat} {fs : List (Option Nat)} {o : Option Nat} (h : fs[j]? = some o) : (xFs G σ k fs)[j]? = some (xV G σ k j o) := by
  simp [xFs, List.getElem?_mapIdx, h]
theorem xCell_n {G : xG} {σ : xS} {k j : Nat} (f : Nat → Int32) (h : j ≠ k) : xCell G (xup σ k f) j = xCell G σ j := by
  unfold xCell xFs xV
  rw [xup_n σ f h]
theorem xW_set {G : xG} {σ σ' : xS} {k : Nat} {e : va_E} (hk : k < gN G) (he : xCell G σ' k = e) (ho : ∀ j, j ≠ k → xCell G σ' j = xCell G σ j) : (xW G σ).set k (gA G k, e) = xW G σ' := by
  apply List.ext_getElem?
  intro j
  by_cases hj : j = k
  · subst hj
    rw [List.getElem?_set_self (by simp [xW, hk]), xW_at hk, he]
  · rw [List.getElem?_set_ne (Ne.symm hj)]
    simp only [xW, List.getElem?_map]
    cases h : (List.range (gN G))[j]? with
    | none => rfl
    | some x =>
      have : x = j := by
        have := List.getElem?_eq_some_iff.mp h
        obtain ⟨h1, h2⟩ := this
        simpa using h2.symm
      subst this
      simp [ho x hj]
theorem xW_setI {G : xG} {σ : xS} {k n : Nat} {f : Nat → Int32} (hk : k < gN G) (hs : gS G k = .inl n) : (xW G σ).set k (gA G k, .inl (gI G, n, .inl f)) = xW G (xup σ k f) :=
  xW_set hk (by unfold xCell; rw [hs]; simp [xup_s]) (fun j hj => xCell_n f hj)
theorem xW_setO {G : xG} {σ : xS} {k ci j : Nat} {fs : List (Option Nat)} {x : Int32} (hk : k < gN G) (hs : gS G k = .inr (.inl (ci, fs))) (hj : fs[j]? = some none) : (xW G σ).set k (gA G k, .inr (ci, (xFs G σ k fs).set j (.int x))) = xW G (xup σ k (upd (σ k) j x)) := by
  refine xW_set hk ?_ (fun i hi => xCell_n _ hi)
  unfold xCell
  rw [hs]
  show Sum.inr (ci, xFs G (xup σ k (upd (σ k) j x)) k fs) = _
  congr 2
  apply List.ext_getElem?
  intro i
  by_cases hi : i = j
  · subst hi
    have hl : i < fs.length := (List.getElem?_eq_some_iff.mp hj).1
    rw [List.getElem?_set_self (by simp [xFs, hl]), xFs_at hj]
    simp [xV, xup_s, upd]
  · rw [List.getElem?_set_ne (Ne.symm hi)]
    simp only [xFs, List.getElem?_mapIdx]
    cases fs[i]? with
    | none => rfl
    | some o => cases o <;> simp [xV, xup_s, upd, hi]
theorem xD_of {G : xG} {σ : xS} (h : xInj G) : va_D (gF G) (xW G σ) := by
  refine ⟨fun i j p q hi hj hpq => ?_, fun k q hk => ?_⟩
  · have hi' : i < gN G := by have := (List.getElem?_eq_some_iff.mp hi).1; simpa [xW] using this
    have hj' : j < gN G := by have := (List.getElem?_eq_some_iff.mp hj).1; simpa [xW] using this
    rw [xW_at hi'] at hi
    rw [xW_at hj'] at hj
    cases hi
    cases hj
    exact h i j hi' hj' hpq
  · have hk' : k < gN G := by have := (List.getElem?_eq_some_iff.mp hk).1; simpa [xW] using this
    rw [xW_at hk'] at hk
    cases hk
    exact ⟨k, hk', rfl⟩
/-! ===== what nobody writes: static rows, String constants ===== -/
def xAbove : List Int32 := [0, 0, 0, 0, 1, 2, 3]
def xBodies : List Int32 := [10, 11, 12, 13, 20, 0, 0, 0, 0, 30, 0, 0, 0, 0, 40, 0, 0, 0, 0, 50, 0, 60, 0, 0, 0, 0, 70, 71]
def xNames : List Int32 := [99, 121, 98, 100, 109, 104]
def xTx : List (List Int32) := [[99, 121, 98], [100, 109, 104]]
/-- null or a reference, as a number -/
def xNv : Nat → Value
  | 0 => .null
  | q + 1 => .ref q
theorem xNv_or (q : Nat) : xNv q = .null ∨ ∃ r, xNv q = .ref r := match q with
  | 0 => Or.inl rfl
  | r + 1 => Or.inr ⟨r, rfl⟩
def xSt (a : Nat → Nat) (A : Nat → Prop) (U : State) (H : Heap) : Prop :=
  (va_Z "OldLight" "ABOVE" "[I" (.ref (a 1000)) A U H ∧ va_T .int (a 1000) 7 (fun j => .int (xAbove.getD j 0)) A U H) ∧
  (va_Z "OldLight$Speaker" "BODIES" "[I" (.ref (a 1001)) A U H ∧ va_T .int (a 1001) 28 (fun j => .int (xBodies.getD j 0)) A U H) ∧
  (va_Z "OldLight$Reader" "NAMES" "[C" (.ref (a 1002)) A U H ∧ va_T .char (a 1002) 6 (fun j => .int (xNames.getD j 0)) A U H) ∧
  (va_Z "java/lang/String" "COMPACT_STRINGS" "Z" (.int 1) A U H ∧ va_Z "jdk/internal/util/Preconditions" "SIOOBE_FORMATTER" "Ljava/util/function/BiFunction;" (xNv (a 1003)) A U H) ∧
  vk_S 2 [3, 3] xTx (fun i => a (1010 + i)) (fun i => a (1020 + i)) A U H
theorem xSt.moved {a : Nat → Nat} {A : Nat → Prop} {u U : State} {H : Heap} (hvm : u.vm.Alike U.vm) (h : xSt a A u H) : xSt a A U H := by
  obtain ⟨⟨h1, h2⟩, ⟨h3, h4⟩, ⟨h5, h6⟩, ⟨h7, h9⟩, h8⟩ := h
  exact ⟨⟨h1.moved hvm, h2.moved hvm⟩, ⟨h3.moved hvm, h4.moved hvm⟩, ⟨h5.moved hvm, h6.moved hvm⟩, ⟨h7.moved hvm, h9.moved hvm⟩, h8.moved hvm⟩
theorem xSt.kept {a : Nat → Nat} {A : Nat → Prop} {U : State} {H H1 : Heap} (h : xSt a A U H) (hq : ∀ a : Nat, a < H.size → ¬ A a → H1[a]? = H[a]?) : xSt a A U H1 := by
  obtain ⟨⟨h1, h2⟩, ⟨h3, h4⟩, ⟨h5, h6⟩, ⟨h7, h9⟩, h8⟩ := h
  exact ⟨⟨h1.kept hq, h2.kept hq⟩, ⟨h3.kept hq, h4.kept hq⟩, ⟨h5.kept hq, h6.kept hq⟩, ⟨h7.kept hq, h9.kept hq⟩, h8.kept hq⟩
theorem xSt.narrow {a : Nat → Nat} {A B : Nat → Prop} {U : State} {H : Heap} (h : xSt a A U H) (hAB : ∀ q, B q → A q) : xSt a B U H := by
  obtain ⟨⟨h1, h2⟩, ⟨h3, h4⟩, ⟨h5, h6⟩, ⟨h7, h9⟩, h8⟩ := h
  exact ⟨⟨h1.narrow hAB, h2.narrow hAB⟩, ⟨h3.narrow hAB, h4.narrow hAB⟩, ⟨h5.narrow hAB, h6.narrow hAB⟩, ⟨h7.narrow hAB, h9.narrow hAB⟩, h8.narrow hAB⟩
/-- words that a call carries on by name: links between nest mates -/
def xNw (U : State) : Prop := (∀ q ∈ xNestM, va_Nw (.methodLinkNest q.1 q.2.1 q.2.2.1 q.2.2.2) U) ∧ ∀ q ∈ xNestF, va_Nw (.fieldLinkNest q.1 q.2.1 q.2.2.1 q.2.2.2.1 q.2.2.2.2.1 q.2.2.2.2.2) U
def xOk (G : xG) (U : State) (H : Heap) : Prop := va_K (gD G) vwCl (gT G) U ∧ xInj G ∧ xSt (gA G) (gF G) U H ∧ xNw U
theorem xOk.go {G : xG} {u U : State} {H H1 : Heap} (h : xOk G u H) (hW : u.WarmedH U.vm) (hq : ∀ a : Nat, a < H.size → ¬ gF G a → H1[a]? = H[a]?) : xOk G U H1 :=
  ⟨h.1.moved hW.alike, h.2.1, (h.2.2.1.moved hW.alike).kept hq, fun q hm => va_Nw.warmM hW (h.2.2.2.1 q hm), fun q hm => va_Nw.warmF hW (h.2.2.2.2 q hm)⟩
theorem xOk.blind {G : xG} {u U : State} {H : Heap} (h : xOk G u H) (hv : u.vm = U.vm) : xOk G U H :=
  have ha : u.vm.Alike U.vm := hv ▸ Vm.Alike.refl u.vm
  ⟨h.1.moved ha, h.2.1, h.2.2.1.moved ha, fun q hm => va_Nw.same rfl hv (h.2.2.2.1 q hm), fun q hm => va_Nw.same rfl hv (h.2.2.2.2 q hm)⟩
def xPic (G : xG) (σ : xS) (H : Heap) : Prop := va_P (gD G) vwCl (xW G σ) H
def xPre (G : xG) (σ : xS) : State → Prop := fun U => xPic G σ U.heap ∧ xOk G U U.heap
def xPost (G : xG) (Φ : Option Value → xS → Prop) : Array Value → State → Outcome → State → Prop := fun _ st oc t => (∃ (v : Option Value) (σ' : xS), oc = .returned v ∧ Φ v σ' ∧ xPic G σ' t.heap) ∧ va_F (gF G) st t
def xRm (n : Nat) : Room := { frames := n, cells := 0, slots := 0, locals := 40 * n }
/-! ===== a method's contract; a walk within a method ===== -/
def xMet (l : Launch) (G : xG) (n : Nat) (y : MethodName) (cc : ByteArray) (nL : Nat) (ret : Option FieldType) (av : List Value) (σ : xS) (Φ : Option Value → xS → Prop) : Prop :=
  Met l y (.code y cc nL ret :: xT) (xRm n) (va_Pc av (xPre G σ)) (xPost G Φ) 0 0 (gF G)
def wk (l : Launch) (G : xG) (n : Nat) (own : String) (cc : ByteArray) (nL : Nat) (ret : Option FieldType) (Φ : Option Value → xS → Prop) (pc : Nat) (lv : List (Nat × Value)) (st : List Value) (σ : xS) : Prop :=
  ∀ (p : Program) (e : Env) (s : State) (m : MethodId) (args : Array Value) (below : List Frame) (meth : Method) (c : Code),
    p.tables.exec = Jvm.exec → c.code = cc → meth.sig.returnType = ret → c.maxLocals = nL → s.vm.findClass own = some m.cls → (∀ w ∈ xT, w.before args s = true) → meth.locks = false → xOk G s s.heap →
    ∀ (H : Heap) (locs : List Loc) (ls : Array Slot), lv_has ls nL lv → xPic G σ H → va_S (gF G) s.heap H locs →
      W p l e (xRm n) s m args below meth c H locs 0 0 (MQ below (xPost G Φ) args s 0 0 (gF G)) (F0 m pc ls st)
theorem xMet.of {l : Launch} {G : xG} {n : Nat} {y : MethodName} {cc : ByteArray} {nL : Nat} {ret : Option FieldType} {av : List Value} {σ : xS} {Φ : Option Value → xS → Prop} (hy : plainName y.cls = true) (hlen : (lg_sl av).length ≤ nL) (h : wk l G n y.cls cc nL ret Φ 0 (lv_args 0 av) [] σ) : xMet l G n y cc nL ret av σ Φ := by
  refine Met.ofW (cc := cc) (maxL := nL) (ret := ret) (ws' := xT) hy rfl ?_
  intro p e s m args below meth c s₁ B hml hv
  obtain ⟨rfl, hP, hO⟩ := hv
  have hts := atoms_spec (ws := .code y cc nL ret :: xT) B.pre
  have hl := lv_entry av (n := nL) hlen
  rw [lg_entry_eq]
  exact h p e s m _ below meth c B.exec B.bytes B.returns hml (findClass_of_methodNamed B.named) (fun w hw => hts w (List.mem_cons_of_mem _ hw)) B.notSynchronized hO s.heap [] _ hl hP va_S.rf
/-! ===== answers ===== -/
def xI (r : Int32) (σ : xS) : Option Value → xS → Prop := fun v t => v = some (.int r) ∧ t = σ
def xU (σ : xS) : Option Value → xS → Prop := fun v t => v = none ∧ t = σ
def xR (G : xG) (k : Nat) (σ : xS) : Option Value → xS → Prop := fun v t => v = some (.ref (gA G k)) ∧ t = σ
def xbind {α β : Type} (o : Option (α × xS)) (k : α → xS → Option β) : Option β := match o with
  | none => none
  | some (x, s) => k x s
theorem xbind_some {α β : Type} {o : Option (α × xS)} {k : α → xS → Option β} {r : β} (h : xbind o k = some r) : ∃ x s, o = some (x, s) ∧ k x s = some r := by
  cases o with
  | none => cases h
  | some q => exact ⟨q.1, q.2, rfl, h⟩
theorem xbind_eq {α β : Type} {o : Option (α × xS)} {k : α → xS → Option β} {x : α} {s : xS} (h : o = some (x, s)) : xbind o k = k x s := by rw [h]; rfl
def xlet {α β : Type} (x : α) (f : α → β) : β := f x
theorem xlet_some {α β : Type} {x : α} {f : α → β} {r : β} (h : xlet x f = r) : ∃ y, y = x ∧ f y = r := ⟨x, rfl, h⟩
/-- a loop: its body gets what goes on with it -/
def xloop {V β : Type} (body : (V → xS → Option β) → V → xS → Option β) : Nat → V → xS → Option β
  | 0 => fun _ _ => none
  | n + 1 => body (xloop body n)
theorem xloop_s {V β : Type} (body : (V → xS → Option β) → V → xS → Option β) (n : Nat) : xloop body (n + 1) = body (xloop body n) := rfl
theorem xloop_0 {V β : Type} {body : (V → xS → Option β) → V → xS → Option β} {v : V} {σ : xS} {r : β} (h : xloop body 0 v σ = some r) : False := by cases h
theorem xif_some {β : Type} {c : Prop} [Decidable c] {A : Option β} {r : β} (h : (if c then A else none) = some r) : c ∧ A = some r := by
  by_cases hc : c
  · rw [if_pos hc] at h; exact ⟨hc, h⟩
  · rw [if_neg hc] at h; cases h
theorem xif_none {β : Type} {c : Prop} [Decidable c] {A : Option β} {r : β} (h : (if c then none else A) = some r) : ¬ c ∧ A = some r := by
  by_cases hc : c
  · rw [if_pos hc] at h; cases h
  · rw [if_neg hc] at h; exact ⟨hc, h⟩
/-- an index within a row of n -/
abbrev xin (i : Int32) (n : Nat) : Prop := 0 ≤ i.toInt ∧ i.toInt < (n : Int)
theorem xin_vp {i : Int32} {n : Nat} (h : xin i n) : vp_in i n := vp_in_iff.mpr h
