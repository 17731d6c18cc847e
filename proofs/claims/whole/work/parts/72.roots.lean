/-! ===== OldLight(), OldLightModel() ===== -/
section CK
variable {l : Launch} {D : va_G} {kI : ClassId} {a : Nat → Nat} {B : Nat → Prop} {n mc ms : Nat} {own : String} {cc : ByteArray} {Qc : Array Value → State → Outcome → State → Prop} {h0 : Nat} {e0 : va_E} {sz ci pc : Nat} {st : List Value} {cells slots : Nat} {tys : List (ClassId × FieldType)} {fs : List Value} {tl : va_W}
theorem ck_get {C : String} {T : u_T} {N index : Nat} {v : Value} (hc : vwCl[ci]? = some (C, T, N)) (hin : ∀ w ∈ u_ws C T N, w ∈ xT) (j : Nat) (hj : j < N) (hw : Cond.fieldLink own index C (T j).2.1 (T j).2.2.1 ∈ xT) (hsm : (T j).1 = C) (hv : fs[j]? = some v) (hd : decode cc pc = .ok (.getfield index, 3)) (kk : ck l D kI a B n mc ms own cc Qc h0 e0 sz ci (pc + 3) (v :: st) cells slots tys fs tl) : ck l D kI a B n mc ms own cc Qc h0 e0 sz ci pc (.ref h0 :: st) cells slots tys fs tl := by
  intro p e s m args below meth c hx hb hr hml ho ht hi hk hs hO hK H locs ls hl hP hD hS
  exact va_get (D := D) (ci := ci) (C := C) (T := T) (N := N) hx hb ht hin ho hK hP 0 rfl hc j hj (ht _ hw) (fun _ h => by rw [hsm] at h; exact h) hv hd (kk p e s m args below meth c hx hb hr hml ho ht hi hk hs hO hK H locs ls hl hP hD hS)
theorem ck_iast {q N jj : Nat} {f : Nat → Int32} {i x : Int32} {tl1 : va_W} (j : Nat) (ha : tl[j]? = some (q, .inl (kI, N, .inl f))) (hin : vp_in i N) (hj : i.toNatClampNeg = jj) (hf : tl.set j (q, .inl (kI, N, .inl (upd f jj x))) = tl1) (hd : decode cc pc = .ok (.iastore, 1)) (kk : ck l D kI a B n mc ms own cc Qc h0 e0 sz ci (pc + 1) st cells slots tys fs tl1) : ck l D kI a B n mc ms own cc Qc h0 e0 sz ci pc (.int x :: .int i :: .ref q :: st) cells slots tys fs tl := by
  intro p e s m args below meth c hx hb hr hml ho ht hi hk hs hO hK H locs ls hl hP hD hS
  subst hf
  subst hj
  exact va_iast (D := D) hx hb hK hP hD hS (j + 1) 0 ha rfl hin hd (fun H1 locs1 hP1 hD1 hS1 => kk p e s m args below meth c hx hb hr hml ho ht hi hk hs hO hK H1 locs1 ls hl hP1 hD1 hS1)
/-- what a root's constructor leaves: its world, at addresses that are its own -/
def wPost (D : va_G) (kI : ClassId) (a : Nat → Nat) (h0 : Nat) (e0 : va_E) (sz : Nat) (C : String) (N : Nat) (sh : Nat → xSh) (σ : xS) : Array Value → State → Outcome → State → Prop :=
  va_Qv (fun u : (Nat → Nat) × ClassId => u.1 0 = h0 ∧ ∀ k, 1000 ≤ k → a k = u.1 k) (fun u t => va_K D vwCl [(kI, .int), (u.2, .object C)] t ∧ xInj (D, (kI, u.2, C), u.1, N, sh) ∧ (∀ q, gF (D, (kI, u.2, C), u.1, N, sh) q → cA h0 e0 sz q) ∧ xPic (D, (kI, u.2, C), u.1, N, sh) σ t.heap) (cA h0 e0 sz)
theorem ck_world {cR : ClassId} {C : String} {ad : Nat → Nat} {N : Nat} {sh : Nat → xSh} {σ : xS} {ws : va_W} {s : State} {H : Heap} {locs : List Loc} (hs : s.heap.size = sz) (is : List Nat) (hnd : va_nd is = true) (hW : is.map (fun i => ws[i]?) = (xW (D, (kI, cR, C), ad, N, sh) σ).map some) (hab : ∀ k, 1000 ≤ k → a k = ad k) (hB : ∀ z, cA h0 e0 sz z → B z) (hO : bOk D kI a B s s.heap) (hK : va_K D vwCl [(kI, .int), (cR, .object C)] s) (hP : va_P D vwCl ws H) (hD : va_D (cA h0 e0 sz) ws) (hS : va_S (cA h0 e0 sz) s.heap H locs) :
    xPic (D, (kI, cR, C), ad, N, sh) σ H ∧ xOk (D, (kI, cR, C), ad, N, sh) s H ∧ (∀ q, gF (D, (kI, cR, C), ad, N, sh) q → cA h0 e0 sz q) := by
  have hD1 : va_D (cA h0 e0 sz) (xW (D, (kI, cR, C), ad, N, sh) σ) := hD.sub is hnd hW
  have hP1 : va_P D vwCl (xW (D, (kI, cR, C), ad, N, sh) σ) H := by
    refine hP.sub is ?_
    have h : ∀ (l : List Nat) (w : va_W), l.map (fun i => ws[i]?) = w.map some → l.filterMap (fun i => ws[i]?) = w := by
      intro l
      induction l with
      | nil => intro w h; cases w with
        | nil => rfl
        | cons x w => cases h
      | cons i l ih => intro w h; cases w with
        | nil => cases h
        | cons x w =>
          simp only [List.map_cons, List.cons.injEq] at h
          rw [List.filterMap_cons, h.1, ih w h.2]
    exact h _ _ hW
  have hF : ∀ q, gF (D, (kI, cR, C), ad, N, sh) q → cA h0 e0 sz q := fun q ⟨k, hk, hq⟩ => by
    have := hD1.2 k _ (xW_at (G := (D, (kI, cR, C), ad, N, sh)) (σ := σ) hk)
    rw [← hq]; exact this
  refine ⟨hP1, ⟨hK, fun i j hi hj h => hD1.1 i j _ _ (xW_at (G := (D, (kI, cR, C), ad, N, sh)) (σ := σ) hi) (xW_at (G := (D, (kI, cR, C), ad, N, sh)) (σ := σ) hj) h, ?_, hO.2.2.1⟩, hF⟩
  exact x_xSt_congr (a := a) (b := ad) hab ((hO.2.1.kept (fun x h1 h2 => hS.2.1 x h1 (fun h => h2 (hB x h)))).narrow (fun q h => hB q (hF q h)))
/-- the last call of a root's constructor: a void method of its world -/
theorem ck_lastV {cR : ClassId} {C : String} {ad : Nat → Nat} {N : Nat} {sh : Nat → xSh} {σ σ1 : xS} {y : MethodName} {cc' : ByteArray} {nL' n' k idx o cj N1 : Nat} {gs : List (Option Nat)} {X : String} {T : u_T} {As : List Value} (hM : ∀ ad cR, xMet l (D, (kI, cR, C), ad, N, sh) n' y cc' nL' none (.ref (ad o) :: As) σ (xU σ1)) (cw : xCV own idx y cc' nL' none k) (hn : n' + 1 ≤ n) (is : List Nat) (hnd : va_nd is = true) (hW : is.map (fun i => ((h0, (Sum.inr (ci, fs) : va_E)) :: tl)[i]?) = (xW (D, (kI, cR, C), ad, N, sh) σ).map some) (hab : ∀ k, 1000 ≤ k → a k = ad k) (had : ad 0 = h0) (hB : ∀ z, cA h0 e0 sz z → B z)
    (hN : o < N) (hgs : sh o = .inr (.inl (cj, gs))) (hc : vwCl[cj]? = some (X, T, N1)) (hX : X = y.cls) (hA : As.length = k) (hcl : cells ≤ mc) (hsl : slots ≤ ms) (hd : decode cc pc = .ok (.invokevirtual idx, 3)) (hd2 : decode cc (pc + 3) = .ok (.return_, 1)) : ck l D kI a B n mc ms own cc (wPost D kI a h0 e0 sz C N sh σ1) h0 e0 sz ci pc (As.reverse ++ [.ref (ad o)]) cells slots [(cR, .object C)] fs tl := by
  intro p e s m args below meth c hx hb hr hml ho ht hi hk hs hO hK H locs ls hl hP hD hS
  obtain ⟨hP1, hO1, hF⟩ := ck_world (a := a) (σ := σ) (C := C) (N := N) (sh := sh) hs is hnd hW hab hB hO hK hP hD hS
  obtain ⟨⟨hy, hcode, hini, hm⟩, hw1, hw2, hw3⟩ := cw
  obtain ⟨hpb, hpp⟩ := x_preC (av := .ref (ad o) :: As) hP1 hO1
  subst hX
  refine W.widen (k := mc) (n := ms) hcl hsl ?_
  refine x_runC (va_runV (C := y.cls) (mc := 0) (ms := 0) (n := k) (own := own) (Ts := xT) (nL := 1) (rest := []) ⟨hx, hb, hml, ho, ht⟩ (hM ad cR) ⟨callB_of k ht (xT_GoodIn hcode) rfl rfl rfl (ht _ hini) (ht _ hw1) hy ⟨hn, by show 8 + (nL' + 11) + 40 * n' ≤ 40 * n; omega⟩, ht _ hw2, ht _ hw3⟩ ⟨hpb, va_recv hO1.1 hP1 hc (xW_atO (G := (D, (kI, cR, C), ad, N, sh)) hN hgs), hpp⟩ rfl hA hl.1 rfl (lv_room (by decide)) hd ⟨Nat.le_refl _, Nat.le_refl _⟩) hS hF (fun v σ' H1 locs1 hΦ hP2 hz hk2 hS1 => ?_)
  obtain ⟨rfl, rfl⟩ := hΦ
  exact W.vret hx hb hr (fun t ht2 hW => ⟨⟨(ad, cR), rfl, ⟨had, hab⟩, hK.moved hW.alike, hO1.2.1, hF, by rw [ht2]; exact hP2⟩, hS1.F ht2⟩) hS1.2.2 hd2
/-- the same, of a method that gives an int, which is dropped -/
theorem ck_lastP {cR : ClassId} {C : String} {ad : Nat → Nat} {N : Nat} {sh : Nat → xSh} {r : Int32} {σ σ1 : xS} {y : MethodName} {cc' : ByteArray} {nL' n' k idx o cj N1 : Nat} {gs : List (Option Nat)} {X : String} {T : u_T} {As : List Value} (hM : ∀ ad cR, xMet l (D, (kI, cR, C), ad, N, sh) n' y cc' nL' (some .int) (.ref (ad o) :: As) σ (xI r σ1)) (cw : xCV own idx y cc' nL' (some .int) k) (hn : n' + 1 ≤ n) (is : List Nat) (hnd : va_nd is = true) (hW : is.map (fun i => ((h0, (Sum.inr (ci, fs) : va_E)) :: tl)[i]?) = (xW (D, (kI, cR, C), ad, N, sh) σ).map some) (hab : ∀ k, 1000 ≤ k → a k = ad k) (had : ad 0 = h0) (hB : ∀ z, cA h0 e0 sz z → B z)
    (hN : o < N) (hgs : sh o = .inr (.inl (cj, gs))) (hc : vwCl[cj]? = some (X, T, N1)) (hX : X = y.cls) (hA : As.length = k) (hcl : cells ≤ mc) (hsl : slots ≤ ms) (hd : decode cc pc = .ok (.invokevirtual idx, 3)) (hd2 : decode cc (pc + 3) = .ok (.pop, 1)) (hd3 : decode cc (pc + 4) = .ok (.return_, 1)) : ck l D kI a B n mc ms own cc (wPost D kI a h0 e0 sz C N sh σ1) h0 e0 sz ci pc (As.reverse ++ [.ref (ad o)]) cells slots [(cR, .object C)] fs tl := by
  intro p e s m args below meth c hx hb hr hml ho ht hi hk hs hO hK H locs ls hl hP hD hS
  obtain ⟨hP1, hO1, hF⟩ := ck_world (a := a) (σ := σ) (C := C) (N := N) (sh := sh) hs is hnd hW hab hB hO hK hP hD hS
  obtain ⟨⟨hy, hcode, hini, hm⟩, hw1, hw2, hw3⟩ := cw
  obtain ⟨hpb, hpp⟩ := x_preC (av := .ref (ad o) :: As) hP1 hO1
  subst hX
  refine W.widen (k := mc) (n := ms) hcl hsl ?_
  refine x_runC (va_runV (C := y.cls) (mc := 0) (ms := 0) (n := k) (own := own) (Ts := xT) (nL := 1) (rest := []) ⟨hx, hb, hml, ho, ht⟩ (hM ad cR) ⟨callB_of k ht (xT_GoodIn hcode) rfl rfl rfl (ht _ hini) (ht _ hw1) hy ⟨hn, by show 8 + (nL' + 11) + 40 * n' ≤ 40 * n; omega⟩, ht _ hw2, ht _ hw3⟩ ⟨hpb, va_recv hO1.1 hP1 hc (xW_atO (G := (D, (kI, cR, C), ad, N, sh)) hN hgs), hpp⟩ rfl hA hl.1 rfl (lv_room (by decide)) hd ⟨Nat.le_refl _, Nat.le_refl _⟩) hS hF (fun v σ' H1 locs1 hΦ hP2 hz hk2 hS1 => ?_)
  obtain ⟨rfl, rfl⟩ := hΦ
  refine lv_pop hx hb hd2 rfl ?_
  exact W.vret hx hb hr (fun t ht2 hW => ⟨⟨(ad, cR), rfl, ⟨had, hab⟩, hK.moved hW.alike, hO1.2.1, hF, by rw [ht2]; exact hP2⟩, hS1.F ht2⟩) hS1.2.2 hd3
end CK
section CK
variable {l : Launch} {D : va_G} {kI : ClassId} {a : Nat → Nat} {B : Nat → Prop} {n mc ms : Nat} {own : String} {cc : ByteArray} {Qc : Array Value → State → Outcome → State → Prop} {h0 : Nat} {e0 : va_E} {sz ci pc : Nat} {st : List Value} {cells slots : Nat} {tys : List (ClassId × FieldType)} {fs : List Value} {tl : va_W}
theorem ck_row {q N : Nat} {cR : ClassId} {f g : Nat → Option Nat} (j : Nat) (ha : tl[j]? = some (q, .inl (cR, N, .inr (.inr (.inr (.inr f)))))) (hf : f = g) (kk : ck l D kI a B n mc ms own cc Qc h0 e0 sz ci pc st cells slots tys fs (tl.set j (q, .inl (cR, N, .inr (.inr (.inr (.inr g))))))) : ck l D kI a B n mc ms own cc Qc h0 e0 sz ci pc st cells slots tys fs tl := by
  subst hf
  have e : tl.set j (q, .inl (cR, N, .inr (.inr (.inr (.inr f))))) = tl := by
    apply List.ext_getElem?
    intro i
    by_cases hij : i = j
    · subst hij
      rw [List.getElem?_set_self (List.getElem?_eq_some_iff.mp ha).1, ha]
    · rw [List.getElem?_set_ne (Ne.symm hij)]
  rw [e] at kk
  exact kk
end CK
theorem dfX8 : ∀ j, j < 13 → defaultValue (tyX8 j) = vp_V [.null, .null, .null, .null, .null, .null, .int 0, .null, .null, .null, .null, .null, .null] j
  | 0, _ => rfl
  | 1, _ => rfl
  | 2, _ => rfl
  | 3, _ => rfl
  | 4, _ => rfl
  | 5, _ => rfl
  | 6, _ => rfl
  | 7, _ => rfl
  | 8, _ => rfl
  | 9, _ => rfl
  | 10, _ => rfl
  | 11, _ => rfl
  | 12, _ => rfl
  | j + 13, h => absurd h (by omega)
theorem dfX9 : ∀ j, j < 24 → defaultValue (tyX9 j) = vp_V [.null, .null, .null, .int 0, .null, .null, .null, .int 0, .int 0, .int 0, .int 0, .null, .int 0, .null, .null, .null, .int 0, .int 0, .int 0, .int 0, .null, .null, .null, .null] j
  | 0, _ => rfl
  | 1, _ => rfl
  | 2, _ => rfl
  | 3, _ => rfl
  | 4, _ => rfl
  | 5, _ => rfl
  | 6, _ => rfl
  | 7, _ => rfl
  | 8, _ => rfl
  | 9, _ => rfl
  | 10, _ => rfl
  | 11, _ => rfl
  | 12, _ => rfl
  | 13, _ => rfl
  | 14, _ => rfl
  | 15, _ => rfl
  | 16, _ => rfl
  | 17, _ => rfl
  | 18, _ => rfl
  | 19, _ => rfl
  | 20, _ => rfl
  | 21, _ => rfl
  | 22, _ => rfl
  | 23, _ => rfl
  | j + 24, h => absurd h (by omega)
theorem qn_M_X8 : Cond.methodLink RX8 1 objectInit ∈ xT := xT_tb (xt_1 (List.mem_of_getElem? (i := 23) (by decide +kernel))) (by decide +kernel)
theorem qn_L_X8_7 : Cond.classLink RX8 7 RX0 ∈ xT := xT_tb (xt_1 (List.mem_of_getElem? (i := 26) (by decide +kernel))) (by decide +kernel)
theorem qn_N_X0 : Cond.instantiable RX0 9 ∈ xT := xT_tb (xt_1 (List.mem_of_getElem? (i := 27) (by decide +kernel))) (by decide +kernel)
theorem qn_J_X0 : Cond.initialized RX0 ∈ xT := xT_tb (xt_1 (List.mem_of_getElem? (i := 2) (by decide +kernel))) (by decide +kernel)
theorem qn_I_X0 : Cond.instanceMethod yX0_init ∈ xT := xT_tb (xt_1 (List.mem_of_getElem? (i := 29) (by decide +kernel))) (by decide +kernel)
theorem qn_C_X0 : Cond.code yX0_init cX0_init 1 none ∈ xT := xT_tb (xt_1 (List.mem_of_getElem? (i := 30) rfl)) (by decide +kernel)
theorem qn_F_X8_10 : Cond.fieldLink RX8 10 "OldLight" "bay" "LOldLight$Bay;" ∈ xT := xT_tb (xt_2 (List.mem_of_getElem? (i := 7) (by decide +kernel))) (by decide +kernel)
theorem qn_L_X8_16 : Cond.classLink RX8 16 RX3 ∈ xT := xT_tb (xt_1 (List.mem_of_getElem? (i := 88) (by decide +kernel))) (by decide +kernel)
theorem qn_N_X3 : Cond.instantiable RX3 7 ∈ xT := xT_tb (xt_1 (List.mem_of_getElem? (i := 89) (by decide +kernel))) (by decide +kernel)
theorem qn_J_X3 : Cond.initialized RX3 ∈ xT := xT_tb (xt_1 (List.mem_of_getElem? (i := 4) (by decide +kernel))) (by decide +kernel)
theorem qn_I_X3 : Cond.instanceMethod yX3_init ∈ xT := xT_tb (xt_1 (List.mem_of_getElem? (i := 91) (by decide +kernel))) (by decide +kernel)
theorem qn_C_X3 : Cond.code yX3_init cX3_init 1 none ∈ xT := xT_tb (xt_1 (List.mem_of_getElem? (i := 92) rfl)) (by decide +kernel)
theorem qn_F_X8_19 : Cond.fieldLink RX8 19 "OldLight" "fleet" "LOldLight$Fleet;" ∈ xT := xT_tb (xt_2 (List.mem_of_getElem? (i := 8) (by decide +kernel))) (by decide +kernel)
theorem qn_L_X8_23 : Cond.classLink RX8 23 RX2 ∈ xT := xT_tb (xt_1 (List.mem_of_getElem? (i := 123) (by decide +kernel))) (by decide +kernel)
theorem qn_N_X2 : Cond.instantiable RX2 5 ∈ xT := xT_tb (xt_1 (List.mem_of_getElem? (i := 124) (by decide +kernel))) (by decide +kernel)
theorem qn_J_X2 : Cond.initialized RX2 ∈ xT := xT_tb (xt_1 (List.mem_of_getElem? (i := 5) (by decide +kernel))) (by decide +kernel)
theorem qn_I_X2 : Cond.instanceMethod yX2_init ∈ xT := xT_tb (xt_1 (List.mem_of_getElem? (i := 126) (by decide +kernel))) (by decide +kernel)
theorem qn_C_X2 : Cond.code yX2_init cX2_init 1 none ∈ xT := xT_tb (xt_1 (List.mem_of_getElem? (i := 127) rfl)) (by decide +kernel)
theorem qn_F_X8_26 : Cond.fieldLink RX8 26 "OldLight" "desk" "LOldLight$Desk;" ∈ xT := xT_tb (xt_2 (List.mem_of_getElem? (i := 9) (by decide +kernel))) (by decide +kernel)
theorem qn_F_X8_30 : Cond.fieldLink RX8 30 "OldLight" "keptBay" "LOldLight$Bay;" ∈ xT := xT_tb (xt_2 (List.mem_of_getElem? (i := 10) (by decide +kernel))) (by decide +kernel)
theorem qn_F_X8_33 : Cond.fieldLink RX8 33 "OldLight" "keptFleet" "LOldLight$Fleet;" ∈ xT := xT_tb (xt_2 (List.mem_of_getElem? (i := 11) (by decide +kernel))) (by decide +kernel)
theorem qn_F_X8_36 : Cond.fieldLink RX8 36 "OldLight" "keptDesk" "LOldLight$Desk;" ∈ xT := xT_tb (xt_2 (List.mem_of_getElem? (i := 12) (by decide +kernel))) (by decide +kernel)
theorem qn_F_X8_39 : Cond.fieldLink RX8 39 "OldLight" "images" "I" ∈ xT := xT_tb (xt_2 (List.mem_of_getElem? (i := 13) (by decide +kernel))) (by decide +kernel)
theorem qn_F_X8_43 : Cond.fieldLink RX8 43 "OldLight" "thought" "LOldLight$Fleet;" ∈ xT := xT_tb (xt_2 (List.mem_of_getElem? (i := 14) (by decide +kernel))) (by decide +kernel)
theorem qn_L_X8_46 : Cond.classLink RX8 46 RX1 ∈ xT := xT_tb (xt_1 (List.mem_of_getElem? (i := 150) (by decide +kernel))) (by decide +kernel)
theorem qn_N_X1 : Cond.instantiable RX1 5 ∈ xT := xT_tb (xt_1 (List.mem_of_getElem? (i := 151) (by decide +kernel))) (by decide +kernel)
theorem qn_J_X1 : Cond.initialized RX1 ∈ xT := xT_tb (xt_1 (List.mem_of_getElem? (i := 6) (by decide +kernel))) (by decide +kernel)
theorem qn_I_X1 : Cond.instanceMethod yX1_init ∈ xT := xT_tb (xt_1 (List.mem_of_getElem? (i := 153) (by decide +kernel))) (by decide +kernel)
theorem qn_C_X1 : Cond.code yX1_init cX1_init 1 none ∈ xT := xT_tb (xt_1 (List.mem_of_getElem? (i := 154) rfl)) (by decide +kernel)
theorem qn_F_X8_49 : Cond.fieldLink RX8 49 "OldLight" "chart" "LOldLight$Chart;" ∈ xT := xT_tb (xt_2 (List.mem_of_getElem? (i := 15) (by decide +kernel))) (by decide +kernel)
theorem qn_L_X8_53 : Cond.classLink RX8 53 RX5 ∈ xT := xT_tb (xt_1 (List.mem_of_getElem? (i := 174) (by decide +kernel))) (by decide +kernel)
theorem qn_N_X5 : Cond.instantiable RX5 5 ∈ xT := xT_tb (xt_1 (List.mem_of_getElem? (i := 175) (by decide +kernel))) (by decide +kernel)
theorem qn_J_X5 : Cond.initialized RX5 ∈ xT := xT_tb (xt_1 (List.mem_of_getElem? (i := 7) (by decide +kernel))) (by decide +kernel)
theorem qn_I_X5 : Cond.instanceMethod yX5_init ∈ xT := xT_tb (xt_1 (List.mem_of_getElem? (i := 177) (by decide +kernel))) (by decide +kernel)
theorem qn_C_X5 : Cond.code yX5_init cX5_init 1 none ∈ xT := xT_tb (xt_1 (List.mem_of_getElem? (i := 178) rfl)) (by decide +kernel)
theorem qn_F_X8_56 : Cond.fieldLink RX8 56 "OldLight" "reader" "LOldLight$Reader;" ∈ xT := xT_tb (xt_2 (List.mem_of_getElem? (i := 16) (by decide +kernel))) (by decide +kernel)
theorem qn_L_X8_60 : Cond.classLink RX8 60 RX7 ∈ xT := xT_tb (xt_1 (List.mem_of_getElem? (i := 199) (by decide +kernel))) (by decide +kernel)
theorem qn_N_X7 : Cond.instantiable RX7 5 ∈ xT := xT_tb (xt_1 (List.mem_of_getElem? (i := 200) (by decide +kernel))) (by decide +kernel)
theorem qn_J_X7 : Cond.initialized RX7 ∈ xT := xT_tb (xt_1 (List.mem_of_getElem? (i := 8) (by decide +kernel))) (by decide +kernel)
theorem qn_I_X7 : Cond.instanceMethod yX7_init ∈ xT := xT_tb (xt_1 (List.mem_of_getElem? (i := 202) (by decide +kernel))) (by decide +kernel)
theorem qn_C_X7 : Cond.code yX7_init cX7_init 1 none ∈ xT := xT_tb (xt_1 (List.mem_of_getElem? (i := 203) rfl)) (by decide +kernel)
theorem qn_F_X8_63 : Cond.fieldLink RX8 63 "OldLight" "speaker" "LOldLight$Speaker;" ∈ xT := xT_tb (xt_2 (List.mem_of_getElem? (i := 17) (by decide +kernel))) (by decide +kernel)
theorem qn_L_X8_67 : Cond.classLink RX8 67 RX6 ∈ xT := xT_tb (xt_1 (List.mem_of_getElem? (i := 223) (by decide +kernel))) (by decide +kernel)
theorem qn_N_X6 : Cond.instantiable RX6 3 ∈ xT := xT_tb (xt_1 (List.mem_of_getElem? (i := 225) (by decide +kernel))) (by decide +kernel)
theorem qn_J_X6 : Cond.initialized RX6 ∈ xT := xT_tb (xt_1 (List.mem_of_getElem? (i := 9) (by decide +kernel))) (by decide +kernel)
theorem qn_I_X6 : Cond.instanceMethod yX6_init ∈ xT := xT_tb (xt_1 (List.mem_of_getElem? (i := 227) (by decide +kernel))) (by decide +kernel)
theorem qn_C_X6 : Cond.code yX6_init cX6_init 1 none ∈ xT := xT_tb (xt_1 (List.mem_of_getElem? (i := 228) rfl)) (by decide +kernel)
theorem qn_F_X8_70 : Cond.fieldLink RX8 70 "OldLight" "sheets" "[LOldLight$Sheet;" ∈ xT := xT_tb (xt_2 (List.mem_of_getElem? (i := 18) (by decide +kernel))) (by decide +kernel)
theorem qn_F_X8_74 : Cond.fieldLink RX8 74 "OldLight" "errors" "[I" ∈ xT := xT_tb (xt_2 (List.mem_of_getElem? (i := 19) (by decide +kernel))) (by decide +kernel)
theorem qn_M_X9 : Cond.methodLink RX9 3 objectInit ∈ xT := xT_tb (xt_4 (List.mem_of_getElem? (i := 4) (by decide +kernel))) (by decide +kernel)
theorem qn_F_X9_9 : Cond.fieldLink RX9 9 "OldLightModel" "now" "[I" ∈ xT := xT_tb (xt_4 (List.mem_of_getElem? (i := 24) (by decide +kernel))) (by decide +kernel)
theorem qn_F_X9_13 : Cond.fieldLink RX9 13 "OldLightModel" "kept" "[I" ∈ xT := xT_tb (xt_4 (List.mem_of_getElem? (i := 25) (by decide +kernel))) (by decide +kernel)
theorem qn_F_X9_16 : Cond.fieldLink RX9 16 "OldLightModel" "aside" "[I" ∈ xT := xT_tb (xt_4 (List.mem_of_getElem? (i := 26) (by decide +kernel))) (by decide +kernel)
theorem qn_F_X9_19 : Cond.fieldLink RX9 19 "OldLightModel" "errors" "[I" ∈ xT := xT_tb (xt_4 (List.mem_of_getElem? (i := 28) (by decide +kernel))) (by decide +kernel)
theorem qn_F_X9_22 : Cond.fieldLink RX9 22 "OldLightModel" "depthFound" "[I" ∈ xT := xT_tb (xt_4 (List.mem_of_getElem? (i := 29) (by decide +kernel))) (by decide +kernel)
theorem qn_L_X9_25 : Cond.classLink RX9 25 "java/lang/String" ∈ xT := xT_tb (xt_4 (List.mem_of_getElem? (i := 5) (by decide +kernel))) (by decide +kernel)
theorem qn_F_X9_31 : Cond.fieldLink RX9 31 "OldLightModel" "NAMED" "[Ljava/lang/String;" ∈ xT := xT_tb (xt_4 (List.mem_of_getElem? (i := 30) (by decide +kernel))) (by decide +kernel)
theorem qn_F_X9_35 : Cond.fieldLink RX9 35 "OldLightModel" "code" "[I" ∈ xT := xT_tb (xt_4 (List.mem_of_getElem? (i := 35) (by decide +kernel))) (by decide +kernel)
theorem qn_F_X9_38 : Cond.fieldLink RX9 38 "OldLightModel" "named" "[I" ∈ xT := xT_tb (xt_4 (List.mem_of_getElem? (i := 37) (by decide +kernel))) (by decide +kernel)
theorem qn_F_X9_41 : Cond.fieldLink RX9 41 "OldLightModel" "pile" "[I" ∈ xT := xT_tb (xt_4 (List.mem_of_getElem? (i := 38) (by decide +kernel))) (by decide +kernel)
theorem qn_F_X9_44 : Cond.fieldLink RX9 44 "OldLightModel" "trace" "[I" ∈ xT := xT_tb (xt_4 (List.mem_of_getElem? (i := 39) (by decide +kernel))) (by decide +kernel)
theorem qn_F_X9_47 : Cond.fieldLink RX9 47 "OldLightModel" "widths" "[I" ∈ xT := xT_tb (xt_4 (List.mem_of_getElem? (i := 44) (by decide +kernel))) (by decide +kernel)
theorem qn_F_X9_50 : Cond.fieldLink RX9 50 "OldLightModel" "sizes" "[I" ∈ xT := xT_tb (xt_4 (List.mem_of_getElem? (i := 45) (by decide +kernel))) (by decide +kernel)
theorem qn_F_X9_53 : Cond.fieldLink RX9 53 "OldLightModel" "numbers" "[I" ∈ xT := xT_tb (xt_4 (List.mem_of_getElem? (i := 46) (by decide +kernel))) (by decide +kernel)
theorem qn_F_X9_56 : Cond.fieldLink RX9 56 "OldLightModel" "carried" "[I" ∈ xT := xT_tb (xt_4 (List.mem_of_getElem? (i := 47) (by decide +kernel))) (by decide +kernel)
