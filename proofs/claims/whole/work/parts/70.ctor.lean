/-! ===== constructors: what they stand on ===== -/
def cNestM : List (String × Nat × MethodName × String) := [("OldLight", 9, yX0_init, "OldLight"), ("OldLight$Bay", 36, yX4_init, "OldLight"), ("OldLight", 18, yX3_init, "OldLight"), ("OldLight", 25, yX2_init, "OldLight"), ("OldLight", 48, yX1_init, "OldLight"), ("OldLight", 55, yX5_init, "OldLight"), ("OldLight$Reader", 27, yX4_init, "OldLight"), ("OldLight", 62, yX7_init, "OldLight"), ("OldLight", 69, yX6_init, "OldLight")]
def cXt (a : Nat → Nat) (U : State) : Prop := (∀ q ∈ cNestM, va_Nw (.methodLinkNest q.1 q.2.1 q.2.2.1 q.2.2.2) U) ∧ (va_AO "OldLight$Sheet" U ∧ va_AO "java/lang/String" U) ∧ vk_R RX9 27 "cyb" (a 1010) U ∧ vk_R RX9 29 "dmh" (a 1011) U
def bOk (D : va_G) (cI : ClassId) (a : Nat → Nat) (B : Nat → Prop) (U : State) (H : Heap) : Prop := va_K D vwCl [(cI, .int)] U ∧ xSt a B U H ∧ xNw U ∧ cXt a U
theorem bOk.go {D : va_G} {cI : ClassId} {a : Nat → Nat} {B : Nat → Prop} {u U : State} {H H1 : Heap} (h : bOk D cI a B u H) (hW : u.WarmedH U.vm) (hq : ∀ x : Nat, x < H.size → ¬ B x → H1[x]? = H[x]?) : bOk D cI a B U H1 :=
  ⟨h.1.moved hW.alike, (h.2.1.moved hW.alike).kept hq, ⟨fun q hm => va_Nw.warmM hW (h.2.2.1.1 q hm), fun q hm => va_Nw.warmF hW (h.2.2.1.2 q hm)⟩, fun q hm => va_Nw.warmM hW (h.2.2.2.1 q hm), ⟨h.2.2.2.2.1.1.moved hW.alike, h.2.2.2.2.1.2.moved hW.alike⟩, h.2.2.2.2.2.1.warm hW, h.2.2.2.2.2.2.warm hW⟩
theorem bOk.blind {D : va_G} {cI : ClassId} {a : Nat → Nat} {B : Nat → Prop} {u U : State} {H : Heap} (h : bOk D cI a B u H) (hv : u.vm = U.vm) : bOk D cI a B U H :=
  have ha : u.vm.Alike U.vm := hv ▸ Vm.Alike.refl u.vm
  ⟨h.1.moved ha, h.2.1.moved ha, ⟨fun q hm => va_Nw.same rfl hv (h.2.2.1.1 q hm), fun q hm => va_Nw.same rfl hv (h.2.2.1.2 q hm)⟩, fun q hm => va_Nw.same rfl hv (h.2.2.2.1 q hm), ⟨h.2.2.2.2.1.1.moved ha, h.2.2.2.2.1.2.moved ha⟩, h.2.2.2.2.2.1.same hv.symm, h.2.2.2.2.2.2.same hv.symm⟩
def cA (h0 : Nat) (e0 : va_E) (sz : Nat) : Nat → Prop := va_A [(h0, e0)] sz
def cRm (n mc ms : Nat) : Room := { frames := n, cells := mc, slots := ms, locals := 40 * n }
def cPre (D : va_G) (cI : ClassId) (a : Nat → Nat) (B : Nat → Prop) (h0 : Nat) (e0 : va_E) (sz : Nat) : State → Prop := fun U => U.heap.size = sz ∧ va_P D vwCl [(h0, e0)] U.heap ∧ bOk D cI a B U U.heap
/-- what a constructor leaves: the cells of its segment, the first of them the object itself -/
def cPost (D : va_G) (h0 : Nat) (e0 : va_E) (sz : Nat) (seg : (Nat → Nat) → va_W) : Array Value → State → Outcome → State → Prop := va_Qv (fun ad : Nat → Nat => ad 0 = h0) (fun ad t => va_P D vwCl (seg ad) t.heap ∧ va_D (cA h0 e0 sz) (seg ad)) (cA h0 e0 sz)
def cMet (l : Launch) (D : va_G) (cI : ClassId) (a : Nat → Nat) (B : Nat → Prop) (n mc ms : Nat) (y : MethodName) (cc : ByteArray) (h0 : Nat) (e0 : va_E) (sz : Nat) (Qc : Array Value → State → Outcome → State → Prop) : Prop :=
  Met l y (.code y cc 1 none :: xT) (cRm n mc ms) (va_Pc [.ref h0] (cPre D cI a B h0 e0 sz)) Qc mc ms (cA h0 e0 sz)
def ck (l : Launch) (D : va_G) (cI : ClassId) (a : Nat → Nat) (B : Nat → Prop) (n mc ms : Nat) (own : String) (cc : ByteArray) (Qc : Array Value → State → Outcome → State → Prop) (h0 : Nat) (e0 : va_E) (sz ci : Nat) (pc : Nat) (st : List Value) (cells slots : Nat) (tys : List (ClassId × FieldType)) (fs : List Value) (tl : va_W) : Prop :=
  ∀ (p : Program) (e : Env) (s : State) (m : MethodId) (args : Array Value) (below : List Frame) (meth : Method) (c : Code),
    p.tables.exec = Jvm.exec → c.code = cc → meth.sig.returnType = none → c.maxLocals = 1 → s.vm.findClass own = some m.cls → (∀ w ∈ xT, w.before args s = true) → meth.name = "<init>" → meth.locks = false → s.heap.size = sz → bOk D cI a B s s.heap → va_K D vwCl ((cI, .int) :: tys) s →
    ∀ (H : Heap) (locs : List Loc) (ls : Array Slot), lv_has ls 1 [(0, .ref h0)] → va_P D vwCl ((h0, .inr (ci, fs)) :: tl) H → va_D (cA h0 e0 sz) ((h0, .inr (ci, fs)) :: tl) → va_S (cA h0 e0 sz) s.heap H locs →
      W p l e (cRm n mc ms) s m args below meth c H locs cells slots (MQ below Qc args s mc ms (cA h0 e0 sz)) (F0 m pc ls st)
theorem cMet.of {l : Launch} {D : va_G} {cI : ClassId} {a : Nat → Nat} {B : Nat → Prop} {n mc ms : Nat} {y : MethodName} {cc : ByteArray} {Qc : Array Value → State → Outcome → State → Prop} {h0 sz ci : Nat} {fs : List Value} (hy : plainName y.cls = true) (hi : y.name = "<init>") (h : ck l D cI a B n mc ms y.cls cc Qc h0 (.inr (ci, fs)) sz ci 0 [] 0 0 [] fs []) : cMet l D cI a B n mc ms y cc h0 (.inr (ci, fs)) sz Qc := by
  refine Met.ofW (cc := cc) (maxL := 1) (ret := none) (ws' := xT) hy rfl ?_
  intro p e s m args below meth c s₁ B' hml hv
  obtain ⟨rfl, hsz, hP, hO⟩ := hv
  have hts := atoms_spec (ws := .code y cc 1 none :: xT) B'.pre
  have hl := lv_entry ([.ref h0]) (n := 1) (Nat.le_of_ble_eq_true rfl)
  rw [lg_entry_eq]
  have hD : va_D (cA h0 (.inr (ci, fs)) sz) [(h0, .inr (ci, fs))] := by
    refine ⟨fun i j p q hi hj _ => ?_, fun k q hk => va_A.in hk⟩
    have hi' := (List.getElem?_eq_some_iff.mp hi).1
    have hj' := (List.getElem?_eq_some_iff.mp hj).1
    simp at hi' hj'
    omega
  exact h p e s m _ below meth c B'.exec B'.bytes B'.returns hml (findClass_of_methodNamed B'.named) (fun w hw => hts w (List.mem_cons_of_mem _ hw)) ((name_of_methodNamed B'.named B'.method).1.trans hi) B'.notSynchronized hsz hO hO.1 s.heap [] _ hl hP hD va_S.rf
theorem cA_new {h0 : Nat} {e0 : va_E} {sz : Nat} {s : State} (hs : s.heap.size = sz) : ∀ q, s.heap.size ≤ q → cA h0 e0 sz q := fun q h => Or.inr (by rw [← hs]; exact h)
theorem va_nd_range (n : Nat) : va_nd (List.range n) = true := by
  have h : ∀ (l : List Nat), l.Nodup → va_nd l = true := by
    intro l
    induction l with
    | nil => intro _; rfl
    | cons x l ih =>
      intro h
      obtain ⟨h1, h2⟩ := List.nodup_cons.mp h
      simp only [va_nd, Bool.and_eq_true, decide_eq_true_eq]
      exact ⟨h1, ih h2⟩
  exact h _ List.nodup_range
theorem va_pre_map {α : Type} (l r : List α) : (List.range l.length).map (fun i => (l ++ r)[i]?) = l.map some := by
  apply List.ext_getElem?
  intro i
  simp only [List.getElem?_map]
  by_cases h : i < l.length
  · simp [h, List.getElem?_append_left h]
  · simp [h]
theorem x_xSt_congr {a b : Nat → Nat} {A : Nat → Prop} {U : State} {H : Heap} (hab : ∀ k, 1000 ≤ k → a k = b k) (h : xSt a A U H) : xSt b A U H := by
  unfold xSt at h ⊢
  rw [← hab 1000 (by omega), ← hab 1001 (by omega), ← hab 1002 (by omega), ← hab 1003 (by omega), ← (funext fun i => hab (1010 + i) (by omega) : (fun i => a (1010 + i)) = fun i => b (1010 + i)), ← (funext fun i => hab (1020 + i) (by omega) : (fun i => a (1020 + i)) = fun i => b (1020 + i))]
  exact h
/-! ===== a call of a world's method from a frame that holds more than the world ===== -/
theorem x_runC {p : Program} {l : Launch} {e : Env} {R : Room} {s : State} {m : MethodId} {args : Array Value} {below : List Frame} {meth : Method} {c : Code} {H : Heap} {locs : List Loc} {Q : State → Prop} {pc cells slots : Nat} {ls : Array Slot} {st0 rest : List Value} {G : xG} {Φ : Option Value → xS → Prop} {a : Array Value} {H0 : Heap} {A0 : Nat → Prop}
    (hr : va_Run p l e R s m args below meth c H locs cells slots 0 0 (F0 m pc ls st0) rest (xPost G Φ a) (gF G)) (hS : va_S A0 H0 H locs) (hA : ∀ q, gF G q → A0 q)
    (kk : ∀ (v : Option Value) (σ' : xS) (H1 : Heap) (locs1 : List Loc), Φ v σ' → xPic G σ' H1 → H.size ≤ H1.size → (∀ q : Nat, q < H.size → ¬ gF G q → H1[q]? = H[q]?) → va_S A0 H0 H1 locs1 → W p l e R s m args below meth c H1 locs1 cells slots Q (F0 m (pc + 3) ls (v.toList ++ rest))) : W p l e R s m args below meth c H locs cells slots Q (F0 m pc ls st0) := by
  intro T hT X
  obtain ⟨v, st₀, t, T', L, h0, X', hL, e1, e2, ⟨⟨v', σ', hv, hp, hb⟩, hz, hk⟩, st⟩ := hr T hT X
  cases hv
  rw [h0] at hz hk
  obtain ⟨t2, a1, b1⟩ := kk v σ' T'.heap (locs ++ L) hp (by rw [e1]; exact hb) (by rw [e1]; exact hz) (fun q h1 h2 => by rw [e1]; exact hk q h1 h2)
    ⟨Nat.le_trans hS.1 (by rw [e1]; exact hz), fun q h1 h2 => by rw [e1, hk q (Nat.lt_of_lt_of_le h1 hS.1) (fun h => h2 (hA q h))]; exact hS.2.1 q h1 h2, fun q hq => by
      rcases List.mem_append.mp hq with h | h
      · exact hS.2.2 q h
      · exact hA _ (hL q h)⟩ T' rfl X'
  exact ⟨t2, st t2 a1, b1⟩
theorem x_preC {G : xG} {σ : xS} {s : State} {H : Heap} {av : List Value} (hP : xPic G σ H) (hO : xOk G s H) : FrameBlind (va_Pc av (xPre G σ)) ∧ ∀ U : State, U.heap = H → s.WarmedH U.vm → va_Pc av (xPre G σ) av.toArray U := by
  refine ⟨fun a U g mk q => ?_, fun U hU hW => ⟨rfl, by rw [hU]; exact hP, by rw [hU]; exact hO.go hW (fun _ _ _ => rfl)⟩⟩
  obtain ⟨q0, q1, q2⟩ := q
  exact ⟨q0, q1, q2.blind (u := U) (U := U.calling g mk a) rfl⟩
section CK
variable {l : Launch} {D : va_G} {cI : ClassId} {a : Nat → Nat} {B : Nat → Prop} {n mc ms : Nat} {own : String} {cc : ByteArray} {Qc : Array Value → State → Outcome → State → Prop} {h0 : Nat} {e0 : va_E} {sz ci pc : Nat} {st : List Value} {cells slots : Nat} {tys : List (ClassId × FieldType)} {fs : List Value} {tl : va_W}
theorem ck_al0 (hd : decode cc pc = .ok (.aload_n 0, 1)) (kk : ck l D cI a B n mc ms own cc Qc h0 e0 sz ci (pc + 1) (.ref h0 :: st) cells slots tys fs tl) : ck l D cI a B n mc ms own cc Qc h0 e0 sz ci pc st cells slots tys fs tl := by
  intro p e s m args below meth c hx hb hr hml ho ht hi hk hs hO hK H locs ls hl hP hD hS
  exact lv_aload_n hx hb hd rfl (lv_at hl 0 rfl) (kk p e s m args below meth c hx hb hr hml ho ht hi hk hs hO hK H locs ls hl hP hD hS)
theorem ck_iconst {z : Int} {v : Int32} (hd : decode cc pc = .ok (.iconst z, 1)) (hv : Int32.ofInt z = v) (kk : ck l D cI a B n mc ms own cc Qc h0 e0 sz ci (pc + 1) (.int v :: st) cells slots tys fs tl) : ck l D cI a B n mc ms own cc Qc h0 e0 sz ci pc st cells slots tys fs tl := by
  intro p e s m args below meth c hx hb hr hml ho ht hi hk hs hO hK H locs ls hl hP hD hS
  exact lv_iconst hx hb hd hv (kk p e s m args below meth c hx hb hr hml ho ht hi hk hs hO hK H locs ls hl hP hD hS)
theorem ck_bipush {z : Int} {v : Int32} (hd : decode cc pc = .ok (.bipush z, 2)) (hv : (Int8.ofInt z).toInt32 = v) (kk : ck l D cI a B n mc ms own cc Qc h0 e0 sz ci (pc + 2) (.int v :: st) cells slots tys fs tl) : ck l D cI a B n mc ms own cc Qc h0 e0 sz ci pc st cells slots tys fs tl := by
  intro p e s m args below meth c hx hb hr hml ho ht hi hk hs hO hK H locs ls hl hP hD hS
  exact lv_bipush hx hb hd hv (kk p e s m args below meth c hx hb hr hml ho ht hi hk hs hO hK H locs ls hl hP hD hS)
theorem ck_sipush {z : Int} {v : Int32} (hd : decode cc pc = .ok (.sipush z, 3)) (hv : (Int16.ofInt z).toInt32 = v) (kk : ck l D cI a B n mc ms own cc Qc h0 e0 sz ci (pc + 3) (.int v :: st) cells slots tys fs tl) : ck l D cI a B n mc ms own cc Qc h0 e0 sz ci pc st cells slots tys fs tl := by
  intro p e s m args below meth c hx hb hr hml ho ht hi hk hs hO hK H locs ls hl hP hD hS
  exact lv_sipush hx hb hd hv (kk p e s m args below meth c hx hb hr hml ho ht hi hk hs hO hK H locs ls hl hP hD hS)
theorem ck_dup {q : Nat} (hd : decode cc pc = .ok (.dup, 1)) (kk : ck l D cI a B n mc ms own cc Qc h0 e0 sz ci (pc + 1) (.ref q :: .ref q :: st) cells slots tys fs tl) : ck l D cI a B n mc ms own cc Qc h0 e0 sz ci pc (.ref q :: st) cells slots tys fs tl := by
  intro p e s m args below meth c hx hb hr hml ho ht hi hk hs hO hK H locs ls hl hP hD hS
  exact lv_dup hx hb hd rfl (kk p e s m args below meth c hx hb hr hml ho ht hi hk hs hO hK H locs ls hl hP hD hS)
theorem ck_oinit {idx : Nat} (hw : Cond.methodLink own idx objectInit ∈ xT) (hw2 : Cond.instanceMethod objectInit ∈ xT) (hw3 : Cond.code objectInit ⟨#[0xb1]⟩ 1 none ∈ xT) (hn : 1 ≤ n) (hst : (st.map fun v => v.category).sum ≤ 8) (hd : decode cc pc = .ok (.invokespecial idx, 3)) (kk : ck l D cI a B n mc ms own cc Qc h0 e0 sz ci (pc + 3) st cells slots tys fs tl) : ck l D cI a B n mc ms own cc Qc h0 e0 sz ci pc (.ref h0 :: st) cells slots tys fs tl := by
  intro p e s m args below meth c hx hb hr hml ho ht hi hk hs hO hK H locs ls hl hP hD hS
  refine W.objInit hx hb ho (ht _ hw) (ht _ hw2) (ht _ hw3) rfl (by rw [hml]; exact hl.1) rfl hd hn (by show 2 * 0 + _ + 12 ≤ 40 * n; omega) ?_
  exact kk p e s m args below meth c hx hb hr hml ho ht hi hk hs hO hK H locs ls hl hP hD hS
theorem ck_put {C : String} {T : u_T} {N index : Nat} (ty0 : Nat → FieldType) (hc : vwCl[ci]? = some (C, T, N)) (hin : ∀ w ∈ u_ws C T N, w ∈ xT) (hty : ∀ k, k < N → parseFieldDescriptor (T k).2.2.1 = some (ty0 k)) (hnm : ∀ a, a < N → ∀ b, b < N → a ≠ b → (T a).2.1 ≠ (T b).2.1) (j : Nat) (hj : j < N) (hw : Cond.fieldLink own index C (T j).2.1 (T j).2.2.1 ∈ xT) (hfin : (T j).2.2.2 = false) {ty : FieldType} {v : Value} {fs1 : List Value} (htj : parseFieldDescriptor (T j).2.2.1 = some ty) (hnr : narrow ty v = v) (hfit : fits ty v = true) (hl0 : j < fs.length) (hf : fs.set j v = fs1) (hsm : (T j).1 = C) (hd : decode cc pc = .ok (.putfield index, 3)) (kk : ck l D cI a B n mc ms own cc Qc h0 e0 sz ci (pc + 3) st cells slots tys fs1 tl) : ck l D cI a B n mc ms own cc Qc h0 e0 sz ci pc (v :: .ref h0 :: st) cells slots tys fs tl := by
  intro p e s m args below meth c hx hb hr hml ho ht hi hk hs hO hK H locs ls hl hP hD hS
  subst hf
  exact va_put (D := D) (ci := ci) (v := v) (C := C) (T := T) (N := N) hx hb ht hin ty0 hty hnm ho hK hP hD hS 0 rfl hc j hj (ht _ hw) (fun _ h => by rw [hsm] at h; exact h) hfin htj hnr hfit hl0 hd (fun H1 locs1 hP1 hD1 hS1 => kk p e s m args below meth c hx hb hr hml ho ht hi hk hs hO hK H1 locs1 ls hl hP1 hD1 hS1)
theorem ck_putF {C : String} {T : u_T} {N index : Nat} (ty0 : Nat → FieldType) (hc : vwCl[ci]? = some (C, T, N)) (hin : ∀ w ∈ u_ws C T N, w ∈ xT) (hty : ∀ k, k < N → parseFieldDescriptor (T k).2.2.1 = some (ty0 k)) (hnm : ∀ a, a < N → ∀ b, b < N → a ≠ b → (T a).2.1 ≠ (T b).2.1) (j : Nat) (hj : j < N) (hw : Cond.fieldLink own index C (T j).2.1 (T j).2.2.1 ∈ xT) (hfin : (T j).2.2.2 = true) {ty : FieldType} {v : Value} {fs1 : List Value} (htj : parseFieldDescriptor (T j).2.2.1 = some ty) (hnr : narrow ty v = v) (hfit : fits ty v = true) (hl0 : j < fs.length) (hf : fs.set j v = fs1) (hsm : (T j).1 = C) (hown : (T j).1 = own) (hd : decode cc pc = .ok (.putfield index, 3)) (kk : ck l D cI a B n mc ms own cc Qc h0 e0 sz ci (pc + 3) st cells slots tys fs1 tl) : ck l D cI a B n mc ms own cc Qc h0 e0 sz ci pc (v :: .ref h0 :: st) cells slots tys fs tl := by
  intro p e s m args below meth c hx hb hr hml ho ht hi hk hs hO hK H locs ls hl hP hD hS
  subst hf
  exact va_putF (D := D) (ci := ci) (v := v) (C := C) (T := T) (N := N) hx hb ht hin ty0 hty hnm ho hK hP hD hS 0 rfl hc j hj (ht _ hw) (fun _ h => by rw [hsm] at h; exact h) hfin hi hown htj hnr hfit hl0 hd (fun H1 locs1 hP1 hD1 hS1 => kk p e s m args below meth c hx hb hr hml ho ht hi hk hs hO hK H1 locs1 ls hl hP1 hD1 hS1)
theorem ck_newa {x : Int32} {N : Nat} (hw : Cond.arrayClass .int ∈ xT) (hn : ¬ x < 0) (hN : x.toNatClampNeg = N) (hby : N * componentBytes .int ≤ 536870912) (hcl : cells + 1 ≤ mc) (hsl : slots + N ≤ ms) (hd : decode cc pc = .ok (.newarray .int, 2)) (kk : ∀ q : Nat, ck l D cI a B n mc ms own cc Qc h0 e0 sz ci (pc + 2) (.ref q :: st) (cells + 1) (slots + N) tys fs (tl ++ [(q, .inl (cI, N, .inl fun _ => 0))])) : ck l D cI a B n mc ms own cc Qc h0 e0 sz ci pc (.int x :: st) cells slots tys fs tl := by
  intro p e s m args below meth c hx hb hr hml ho ht hi hk hs hO hK H locs ls hl hP hD hS
  refine va_newa (D := D) (atype := .int) (ty := .int) (a0 := (N, .inl fun _ => 0)) hx hb (ht _ hw) rfl hK hP hD hS (cA_new hs) (fun _ => rfl) hn hN hby hcl hsl hd (fun q cB H1 hK1 hP1 hD1 hS1 => ?_)
  have e1 : cB = cI := by
    have h1 : s.vm.findClass ("[" ++ (FieldType.int).toString) = some cB := (hK1.2 ((cI, FieldType.int) :: tys).length (cB, .int) (by simp)).2
    have h2 : s.vm.findClass ("[" ++ (FieldType.int).toString) = some cI := (hK.2 0 (cI, .int) rfl).2
    exact Option.some.inj (h1.symm.trans h2)
  subst e1
  exact kk q p e s m args below meth c hx hb hr hml ho ht hi hk hs hO hK H1 locs ls hl hP1 hD1 hS1
theorem ck_new {X : String} {T : u_T} {N cj i1 i2 n' mc' ms' : Nat} {y : MethodName} {cc' : ByteArray} {host : String} {seg : (Nat → Nat) → va_W} {fs0 : List Value} {ty0 : Nat → FieldType} (hM : ∀ q sz', (∀ z, cA q (.inr (cj, fs0)) sz' z → B z) → cMet l D cI a B n' mc' ms' y cc' q (.inr (cj, fs0)) sz' (cPost D q (.inr (cj, fs0)) sz' seg))
    (hw1 : Cond.classLink own i1 X ∈ xT) (hw2 : Cond.instantiable X N ∈ xT) (hw3 : Cond.initialized X ∈ xT) (hw4 : (own, i2, y, host) ∈ cNestM) (hw5 : Cond.instanceMethod y ∈ xT) (hw6 : Cond.code y cc' 1 none ∈ xT) (hyX : y.cls = X) (hy : y.name = "<init>" ∧ (y.cls ≠ "java/lang/invoke/MethodHandle" ∧ y.cls ≠ "java/lang/invoke/VarHandle" ∧ (parseMethodDescriptor y.desc).map (fun d => d.parameters.length) = some 0))
    (hin : ∀ w ∈ u_ws X T N, w ∈ xT) (hty : ∀ k, k < N → parseFieldDescriptor (T k).2.2.1 = some (ty0 k)) (hc : vwCl[cj]? = some (X, T, N)) (hfs : ∀ j, j < N → defaultValue (ty0 j) = vp_V fs0 j) (hB : ∀ z, cA h0 e0 sz z → B z) (hn : n' + 1 ≤ n) (hcl : cells + 1 + mc' ≤ mc) (hsl : slots + N + ms' ≤ ms) (hst : (st.map fun v => v.category).sum ≤ 7)
    (hd1 : decode cc pc = .ok (.new i1, 3)) (hd2 : decode cc (pc + 3) = .ok (.dup, 1)) (hd3 : decode cc (pc + 4) = .ok (.invokespecial i2, 3))
    (kk : ∀ ad : Nat → Nat, ck l D cI a B n mc ms own cc Qc h0 e0 sz ci (pc + 7) (.ref (ad 0) :: st) (cells + 1 + mc') (slots + N + ms') tys fs (tl ++ seg ad)) : ck l D cI a B n mc ms own cc Qc h0 e0 sz ci pc st cells slots tys fs tl := by
  intro p e s m args below meth c hx hb hr hml ho ht hi hk hs hO hK H locs ls hl hP hD hS
  refine va_new (D := D) (ci := cj) (fs := fs0) (C := X) (T := T) (N := N) hx hb ht hin ty0 hty ho (ht _ hw1) (ht _ hw2) (ht _ hw3) hK hP hD hS (cA_new hs) hc hfs (by show cells + 1 ≤ mc; omega) (by show slots + N ≤ ms; omega) hd1 (fun q H1 hP1 hD1 hS1 => ?_)
  refine lv_dup hx hb hd2 rfl ?_
  have hPc : va_P D vwCl [(q, .inr (cj, fs0))] H1 := hP1.sub [tl.length + 1] (by simp)
  have hFc := va_free (wc := [(q, .inr (cj, fs0))]) hD1 hS1 (cA_new hs) [tl.length + 1] (by simp)
  have hFB : ∀ z, cA q (.inr (cj, fs0)) H1.size z → B z := fun z h => hB z (hFc z h)
  have hq1 : ∀ x : Nat, x < s.heap.size → ¬ B x → H1[x]? = s.heap[x]? := fun x h1 h2 => hS1.2.1 x h1 (fun h => h2 (hB x h))
  refine va_callv (va_runIN (As := []) (rest := .ref q :: st) (own := own) (Ts := xT) (nL := 1) (mc := mc') (ms := ms') ⟨hx, hb, hml, ho, ht⟩ (hM q H1.size hFB) ⟨va_cnB (ws' := xT) 0 ht (xT_GoodIn hw6) rfl rfl rfl (hO.2.2.2.1 _ hw4) (by rw [hyX]; exact ht _ hw3) hy.2 ⟨hn, by show 8 + (1 + 11) + 40 * n' ≤ 40 * n; omega⟩, hy.1, ht _ hw5⟩ ⟨fun a U g mk q => by obtain ⟨q0, q1, q2, q3⟩ := q; exact ⟨q0, q1, q2, q3.blind (u := U) (U := U.calling g mk a) rfl⟩, fun U hU hW => ⟨rfl, by rw [hU], by rw [hU]; exact hPc, by rw [hU]; exact hO.go hW hq1⟩⟩ rfl rfl hl.1 rfl (lv_room (by simp only [List.map_cons, List.sum_cons]; show 1 + _ ≤ 8; omega)) hd3 ⟨hcl, hsl⟩) hS1 (fun q _ h => hFc q h) hFc (fun ad t H2 locs2 ht2 hvm hw hB2 hz1 hk1 hS2 => ?_)
  obtain ⟨hP2, hD2⟩ := hB2
  rw [ht2] at hP2
  have hw : ad 0 = q := hw
  subst hw
  obtain ⟨hP3, hD3⟩ := va_join (wr := (h0, .inr (ci, fs)) :: tl) (w1 := seg ad) hP1 hD1 [tl.length + 1] (List.range ((h0, (Sum.inr (ci, fs) : va_E)) :: tl).length) (by simp) (va_pre_map _ _) (va_nd_range _) (fun i h1 h2 => by simp only [List.mem_range, List.length_cons, List.mem_singleton] at h1 h2; omega) hk1 hFc hP2 hD2
  exact kk ad p e s m args below meth c hx hb hr hml ho ht hi hk hs hO hK H2 locs2 ls hl hP3 hD3 hS2
theorem ck_newq {X : String} {idx : Nat} {x : Int32} {N : Nat} (hw : Cond.classLink own idx X ∈ xT) (ho2 : ∀ U, cXt a U → va_AO X U) (hn : ¬ x < 0) (hN : x.toNatClampNeg = N) (hby : N * 4 ≤ 536870912) (hcl : cells + 1 ≤ mc) (hsl : slots + N ≤ ms) (hd : decode cc pc = .ok (.anewarray idx, 3)) (kk : ∀ (q : Nat) (cR : ClassId), ck l D cI a B n mc ms own cc Qc h0 e0 sz ci (pc + 3) (.ref q :: st) (cells + 1) (slots + N) (tys ++ [(cR, .object X)]) fs (tl ++ [(q, .inl (cR, N, .inr (.inr (.inr (.inr fun _ => none)))))])) : ck l D cI a B n mc ms own cc Qc h0 e0 sz ci pc (.int x :: st) cells slots tys fs tl := by
  intro p e s m args below meth c hx hb hr hml ho ht hi hk hs hO hK H locs ls hl hP hD hS
  refine va_newq (D := D) hx hb ho (ht _ hw) (ho2 s hO.2.2.2) hK hP hD hS (cA_new hs) hn hN hby hcl hsl hd (fun q cR H1 hK1 hP1 hD1 hS1 => ?_)
  exact kk q cR p e s m args below meth c hx hb hr hml ho ht hi hk hs hO hK1 H1 locs ls hl hP1 hD1 hS1
theorem ck_astq {r : vw_C} {cR : ClassId} {N v q : Nat} {vs : List Value} {f : Nat → Option Nat} {i : Int32} {tl1 : va_W} (j t0 qk cj : Nat) (ha : tl[j]? = some (q, .inl (cR, N, .inr (.inr (.inr (.inr f)))))) (htt : tys[t0]? = some (cR, .object r.1)) (hv : tl[qk]? = some (v, .inr (cj, vs))) (hc : vwCl[cj]? = some r) (hin : vp_in i N) (hf : tl.set j (q, .inl (cR, N, .inr (.inr (.inr (.inr (va_up f i.toNatClampNeg (some v))))))) = tl1) (hd : decode cc pc = .ok (.aastore, 1)) (kk : ck l D cI a B n mc ms own cc Qc h0 e0 sz ci (pc + 1) st cells slots tys fs tl1) : ck l D cI a B n mc ms own cc Qc h0 e0 sz ci pc (.ref v :: .int i :: .ref q :: st) cells slots tys fs tl := by
  intro p e s m args below meth c hx hb hr hml ho ht hi hk hs hO hK H locs ls hl hP hD hS
  subst hf
  exact va_astq (D := D) (r := r) (vs := vs) (f := f) hx hb hK hP hD hS (j + 1) (t0 + 1) (qk + 1) cj ha htt hv hc hin hd (fun H1 locs1 hP1 hD1 hS1 => kk p e s m args below meth c hx hb hr hml ho ht hi hk hs hO hK H1 locs1 ls hl hP1 hD1 hS1)
theorem ck_lds {tx : String} {idx v : Nat} (hz : ∀ U, cXt a U → vk_R own idx tx v U) (hd : decode cc pc = .ok (.ldc idx, 2)) (kk : ck l D cI a B n mc ms own cc Qc h0 e0 sz ci (pc + 2) (.ref v :: st) cells slots tys fs tl) : ck l D cI a B n mc ms own cc Qc h0 e0 sz ci pc st cells slots tys fs tl := by
  intro p e s m args below meth c hx hb hr hml ho ht hi hk hs hO hK H locs ls hl hP hD hS
  exact va_ldcS hx hb ho (hz s hO.2.2.2) hd (kk p e s m args below meth c hx hb hr hml ho ht hi hk hs hO hK H locs ls hl hP hD hS)
theorem ck_asts {cR : ClassId} {N q k : Nat} {f : Nat → Option Nat} {i : Int32} {tl1 : va_W} (j t0 : Nat) (hB : ∀ z, cA h0 e0 sz z → B z) (ha : tl[j]? = some (q, .inl (cR, N, .inr (.inr (.inr (.inr f)))))) (htt : tys[t0]? = some (cR, .object "java/lang/String")) (hk2 : k < 2) (hin : vp_in i N) (hf : tl.set j (q, .inl (cR, N, .inr (.inr (.inr (.inr (va_up f i.toNatClampNeg (some (a (1010 + k)))))))) ) = tl1) (hd : decode cc pc = .ok (.aastore, 1)) (kk : ck l D cI a B n mc ms own cc Qc h0 e0 sz ci (pc + 1) st cells slots tys fs tl1) : ck l D cI a B n mc ms own cc Qc h0 e0 sz ci pc (.ref (a (1010 + k)) :: .int i :: .ref q :: st) cells slots tys fs tl := by
  intro p e s m args below meth c hx hb hr hml ho ht hi hk hs hO hK H locs ls hl hP hD hS
  subst hf
  have hSB : va_S B s.heap H locs := ⟨hS.1, fun x h1 h2 => hS.2.1 x h1 (fun h => h2 (hB x h)), fun x hx => hB _ (hS.2.2 x hx)⟩
  obtain ⟨cell, g1, g2, g3⟩ := vk_recv hO.2.1.2.2.2.2 hk2 hSB
  obtain ⟨kC, hkC, -⟩ := Vm.findClass_spec g3
  have hAny : va_Any "java/lang/String" s H (a (1010 + k)) := ⟨cell, g1, g2, ⟨kC, hkC⟩, fun comp h => by
    have : cell.cls = comp := Option.some.inj (g3.symm.trans h)
    rw [this]
    show s.vm.assignableAux (255 + 1) comp comp = true
    rw [Vm.assignableAux]
    simp only [beq_self_eq_true, Bool.true_or]⟩
  exact va_astqM (D := D) (f := f) hx hb hK hP hD hS (j + 1) (t0 + 1) ha htt hAny hin hd (fun H1 locs1 hP1 hD1 hS1 => kk p e s m args below meth c hx hb hr hml ho ht hi hk hs hO hK H1 locs1 ls hl hP1 hD1 hS1)
theorem ck_ret {seg : (Nat → Nat) → va_W} (ad : Nat → Nat) (had : ad 0 = h0) (hseg : (h0, .inr (ci, fs)) :: tl = seg ad) (hcl : cells ≤ mc) (hsl : slots ≤ ms) (hd : decode cc pc = .ok (.return_, 1)) : ck l D cI a B n mc ms own cc (cPost D h0 e0 sz seg) h0 e0 sz ci pc [] cells slots tys fs tl := by
  intro p e s m args below meth c hx hb hr hml ho ht hi hk hs hO hK H locs ls hl hP hD hS
  refine W.widen (k := mc) (n := ms) hcl hsl ?_
  rw [hseg] at hP hD
  exact W.vret hx hb hr (fun t ht2 hW => ⟨⟨ad, rfl, had, by rw [ht2]; exact hP, hD⟩, hS.F ht2⟩) hS.2.2 hd
end CK
