/-! ===== SHIP, OFSHIP, AS ===== -/
theorem VN.more {N : Row} (h : VN N) (h7 : shipsN N < 7) (ha : 0 ≤ (N (36 + 5 * shipsN N)).toInt ∧ (N (36 + 5 * shipsN N)).toInt < (N 1).toInt) : VN (upd N 2 (N 2 + 1)) := by
  have hI := h.H.sI
  have e2 : N 2 + 1 = nI (shipsN N + 1) := by rw [← nI_s, ← hI]
  obtain ⟨a1, a2, a3, a4, a5, a6, a7, a8, a9, a10, a11⟩ := h
  have nN : ∀ j, ¬ j = 2 → upd N 2 (N 2 + 1) j = N j := fun j hj => upd_n _ _ hj
  have c2 : upd N 2 (N 2 + 1) 2 = nI (shipsN N + 1) := by rw [upd_s, e2]
  refine ⟨by rw [nN _ (by omega)]; exact a1, by rw [c2, i_nI (by omega)]; omega, by rw [nN _ (by omega)]; exact a3, by rw [nN _ (by omega)]; exact a4, by rw [nN _ (by omega), nN _ (by omega)]; exact a5, by rw [nN _ (by omega)]; exact a6, by rw [nN _ (by omega)]; exact a7, fun i hi => ?_, fun i hi => by rw [nN _ (by omega)]; exact a9 i hi, VT_ag (fun j hj => nN _ (by omega)) a10, VT_ag (fun j hj => nN _ (by omega)) a11⟩
  rw [nN (33 + 5 * i) (by omega), nN (36 + 5 * i) (by omega), nN (37 + 5 * i) (by omega), nN 1 (by omega), c2, nI_N (by omega)]
  obtain ⟨b1, b2, b3⟩ := a8 i hi
  refine ⟨b1, fun q => ?_, b3⟩
  by_cases e : i = shipsN N
  · subst e; exact ha
  · exact b2 (by show i < shipsN N; omega)
theorem Rel.more {c m : xS} (h : Rel c m) (h7 : shipsN (m 1) < 7) (ha : 0 ≤ (m 1 (36 + 5 * shipsN (m 1))).toInt ∧ (m 1 (36 + 5 * shipsN (m 1))).toInt < (m 1 1).toInt) : Rel (xup c 21 (upd (c 21) 0 (c 21 0 + 1))) (xup m 1 (upd (m 1) 2 (m 1 2 + 1))) := by
  have nN : ∀ j, ¬ j = 2 → upd (m 1) 2 (m 1 2 + 1) j = m 1 j := fun j hj => upd_n _ _ hj
  refine h.snap ?_ ?_ ((EqX.rf _ _).up _ (by unfold LSN; simp)) ((EqX.rf _ _).up _ (by unfold LMN; simp))
  · rw [xup_s]
    refine ⟨(h.B.go (fun q a b _ _ => xup_n _ _ (by omega))).ag ⟨fun q a b => nN q (by omega), fun q a => nN q (by omega)⟩ (nN _ (by omega)) (nN _ (by omega)), (h.L.go (xup_n _ _ (by omega))).ag (nN _ (by omega)) (nN _ (by omega)), ?_, (h.D.go (fun q a b => xup_n _ _ (by omega))).ag (nN _ (by omega)) (nN _ (by omega)) (nN _ (by omega)) (fun q a b => nN q (by omega)), h.V.more h7 ha, by rw [nN _ (by omega)]; exact h.1.2.2.2.2.2⟩
    obtain ⟨f0, f1, f2⟩ := h.F
    refine ⟨by rw [xup_s, upd_s, upd_s, f0], by rw [xup_s, upd_n _ _ (by decide), nN _ (by omega)]; exact f1, fun j hj => ?_⟩
    rw [xup_n _ _ (by decide), xup_n _ _ (by decide), xup_n _ _ (by decide), xup_n _ _ (by decide), xup_n _ _ (by decide), nN _ (by omega), nN _ (by omega), nN _ (by omega), nN _ (by omega), nN _ (by omega)]
    exact f2 j hj
  · exact h.2.1.ag (xup_n _ _ (by decide)) (by rw [xup_s]; exact ⟨fun q a b => nN q (by omega), fun q a => nN q (by omega)⟩)
theorem op_ship (p q v : Int32) : OpR (sX8_ship p q v) (sX9_ship p q v) := by
  intro c m h
  have hV := h.V
  unfold sX8_ship sX9_ship sX8_ship_L25 sX9_ship_L22
  simp only [zX8_isKindAndM, zX9_isKindM, zX9_isDigit, zX8_within, zX8_isCell, zX9_isCell, xb_s, bif0, fC1, fM1, fC4, fM4]
  by_cases h1 : 0 ≤ p ∧ p ≤ 69
  · rw [if_pos h1, if_pos h1]
    by_cases h2 : 0 ≤ q ∧ q ≤ 9
    · rw [if_pos h2, if_pos h2, h.B.1]
      by_cases h3 : 0 ≤ v ∧ v ≤ m 1 1 - 1
      · rw [if_pos h3, if_pos h3, h.F.1]
        have hI := hV.H.sI
        by_cases h4 : shipsN (m 1) = 7
        · rw [if_neg (show ¬ m 1 2 < 7 by rw [hI, h4]; decide), if_pos (show m 1 2 = 7 by rw [hI, h4]; decide)]
          exact errR h (by decide) _ rfl rfl
        · have h7 : shipsN (m 1) < 7 := by have := hV.H.s7; omega
          rw [if_pos (show m 1 2 < 7 by rw [hI]; exact (nI_ltI (a := shipsN (m 1)) (b := 7) (by omega) (by omega)).mpr h7), if_neg (show ¬ m 1 2 = 7 by rw [hI]; exact fun e => h4 ((nI_eq (a := shipsN (m 1)) (b := 7) (by omega) (by omega)).mp e))]
          obtain ⟨i, hi, rfl⟩ := inCell hV.H h3
          have h8 := hV.H.c8
          have hc : (cellsN (m 1) : Int) = (m 1 1).toInt := by have := hV.1; unfold cellsN; rw [i_N]; omega
          generalize hs : shipsN (m 1) = s at h7 hI
          have hx : xin (nI s) 7 := xin_n h7 (by omega)
          have hn : (nI s).toNatClampNeg = s := nI_N (by omega)
          unfold sX9_shipComes
          rw [hI]
          simp only [xlet_e, if_pos hx]
          rw [hn]
          have ga : ∀ f m, sX9_shipAt (nI s) (nI f) m = some (nI (33 + 5 * s + f), m) := fun f m => zX9_shipAt s f m
          have g0 : ∀ m, sX9_shipAt (nI s) 0 m = some (nI (33 + 5 * s + 0), m) := ga 0
          have g1 : ∀ m, sX9_shipAt (nI s) 1 m = some (nI (33 + 5 * s + 1), m) := ga 1
          have g2 : ∀ m, sX9_shipAt (nI s) 2 m = some (nI (33 + 5 * s + 2), m) := ga 2
          have g3 : ∀ m, sX9_shipAt (nI s) 3 m = some (nI (33 + 5 * s + 3), m) := ga 3
          have g4 : ∀ m, sX9_shipAt (nI s) 4 m = some (nI (33 + 5 * s + 4), m) := ga 4
          have gx : ∀ f, f < 5 → xin (nI (33 + 5 * s + f)) 242 := fun f hf => xin_n (by omega) (by omega)
          have gn : ∀ f, f < 5 → (nI (33 + 5 * s + f)).toNatClampNeg = 33 + 5 * s + f := fun f hf => nI_N (by omega)
          rw [g0, xb_s, if_pos (gx 0 (by omega)), gn 0 (by omega)]
          have r1 := h.ship h7 (k := 0) (p := p / 10) (by omega) (hV.ship h7 (by omega) (fun _ => kindM h1) (fun e => absurd e (by omega)) (fun e => absurd e (by omega)))
          have w1 : xup m 1 (upd (m 1) (33 + 5 * s + 0) (p / 10)) 1 1 = m 1 1 ∧ shipsN (xup m 1 (upd (m 1) (33 + 5 * s + 0) (p / 10)) 1) = s := ⟨by rw [xup_s, upd_n _ _ (by omega)], by rw [xup_s]; unfold shipsN; rw [upd_n _ _ (by omega), hI, hn]⟩
          generalize xup m 1 (upd (m 1) (33 + 5 * s + 0) (p / 10)) = m1 at r1 w1 ⊢
          change Rel (xup c 22 (upd (c 22) s (p / 10))) m1 at r1
          generalize xup c 22 (upd (c 22) s (p / 10)) = c1 at r1 ⊢
          rw [g1, xb_s, if_pos (gx 1 (by omega)), gn 1 (by omega)]
          have r2 := r1.ship h7 (k := 1) (p := p - p / 10 * 10) (by omega) (r1.V.ship h7 (by omega) (fun e => absurd e (by omega)) (fun e => absurd e (by omega)) (fun e => absurd e (by omega)))
          have w2 : xup m1 1 (upd (m1 1) (33 + 5 * s + 1) (p - p / 10 * 10)) 1 1 = m 1 1 ∧ shipsN (xup m1 1 (upd (m1 1) (33 + 5 * s + 1) (p - p / 10 * 10)) 1) = s := ⟨by rw [xup_s, upd_n _ _ (by omega)]; exact w1.1, by rw [xup_s]; unfold shipsN; rw [upd_n _ _ (by omega)]; exact w1.2⟩
          generalize xup m1 1 (upd (m1 1) (33 + 5 * s + 1) (p - p / 10 * 10)) = m2 at r2 w2 ⊢
          change Rel (xup c1 23 (upd (c1 23) s (p - p / 10 * 10))) m2 at r2
          generalize xup c1 23 (upd (c1 23) s (p - p / 10 * 10)) = c2 at r2 ⊢
          rw [g2, xb_s, if_pos (gx 2 (by omega)), gn 2 (by omega)]
          have r3 := r2.ship h7 (k := 2) (p := q) (by omega) (r2.V.ship h7 (by omega) (fun e => absurd e (by omega)) (fun e => absurd e (by omega)) (fun e => absurd e (by omega)))
          have w3 : xup m2 1 (upd (m2 1) (33 + 5 * s + 2) q) 1 1 = m 1 1 ∧ shipsN (xup m2 1 (upd (m2 1) (33 + 5 * s + 2) q) 1) = s := ⟨by rw [xup_s, upd_n _ _ (by omega)]; exact w2.1, by rw [xup_s]; unfold shipsN; rw [upd_n _ _ (by omega)]; exact w2.2⟩
          generalize xup m2 1 (upd (m2 1) (33 + 5 * s + 2) q) = m3 at r3 w3 ⊢
          change Rel (xup c2 24 (upd (c2 24) s q)) m3 at r3
          generalize xup c2 24 (upd (c2 24) s q) = c3 at r3 ⊢
          rw [g3, xb_s, if_pos (gx 3 (by omega)), gn 3 (by omega)]
          have hat : 0 ≤ (nI i).toInt ∧ (nI i).toInt < (m3 1 1).toInt := by rw [w3.1, i_nI (by omega)]; omega
          have r4 := r3.ship h7 (k := 3) (p := nI i) (by omega) (r3.V.ship h7 (by omega) (fun e => absurd e (by omega)) (fun _ => hat) (fun e => absurd e (by omega)))
          have w4 : xup m3 1 (upd (m3 1) (33 + 5 * s + 3) (nI i)) 1 1 = m 1 1 ∧ shipsN (xup m3 1 (upd (m3 1) (33 + 5 * s + 3) (nI i)) 1) = s ∧ xup m3 1 (upd (m3 1) (33 + 5 * s + 3) (nI i)) 1 (36 + 5 * s) = nI i := ⟨by rw [xup_s, upd_n _ _ (by omega)]; exact w3.1, by rw [xup_s]; unfold shipsN; rw [upd_n _ _ (by omega)]; exact w3.2, by rw [xup_s, show 36 + 5 * s = 33 + 5 * s + 3 by omega, upd_s]⟩
          rw [w3.1] at hat
          generalize xup m3 1 (upd (m3 1) (33 + 5 * s + 3) (nI i)) = m4 at r4 w4 ⊢
          change Rel (xup c3 25 (upd (c3 25) s (nI i))) m4 at r4
          generalize xup c3 25 (upd (c3 25) s (nI i)) = c4 at r4 ⊢
          rw [g4, xb_s, if_pos (gx 4 (by omega)), gn 4 (by omega)]
          have r5 := r4.ship h7 (k := 4) (p := 0) (by omega) (r4.V.ship h7 (by omega) (fun e => absurd e (by omega)) (fun e => absurd e (by omega)) (fun _ => Or.inl rfl))
          have w5 : xup m4 1 (upd (m4 1) (33 + 5 * s + 4) 0) 1 1 = m 1 1 ∧ shipsN (xup m4 1 (upd (m4 1) (33 + 5 * s + 4) 0) 1) = s ∧ xup m4 1 (upd (m4 1) (33 + 5 * s + 4) 0) 1 (36 + 5 * s) = nI i := ⟨by rw [xup_s, upd_n _ _ (by omega)]; exact w4.1, by rw [xup_s]; unfold shipsN; rw [upd_n _ _ (by omega)]; exact w4.2.1, by rw [xup_s, upd_n _ _ (by omega)]; exact w4.2.2⟩
          generalize xup m4 1 (upd (m4 1) (33 + 5 * s + 4) 0) = m5 at r5 w5 ⊢
          change Rel (xup c4 26 (upd (c4 26) s 0)) m5 at r5
          generalize xup c4 26 (upd (c4 26) s 0) = c5 at r5 ⊢
          exact ⟨_, _, _, rfl, by rw [xb_s], r5.more (by rw [w5.2.1]; exact h7) (by rw [w5.2.1, w5.2.2, w5.1]; exact hat)⟩
      · rw [if_neg h3, if_neg h3]
        exact errR h (by decide) _ rfl rfl
    · rw [if_neg h2, if_neg h2]
      exact errR h (by decide) _ rfl rfl
  · rw [if_neg h1, if_neg h1]
    exact errR h (by decide) _ rfl rfl
/-- the KIND above -/
def abv (a : Nat) : Nat := if a = 4 then 1 else if a = 5 then 2 else if a = 6 then 3 else 0
def undL (P : Nat) : Nat → Nat → Bool
  | 0, _ => false
  | r + 1, a => (a == P) || undL P r (abv a)
def undM (P : Nat) : Nat → Nat → Bool
  | 0, _ => false
  | r + 1, a => (a == P) || ((a != 0) && undM P r (abv a))
def dpt (a : Nat) : Nat := if a = 0 then 0 else if a < 4 then 1 else 2
theorem abv_tab : ∀ a, a < 7 → xAbove.getD (nI a).toNatClampNeg 0 = nI (abv a) := by decide +kernel
theorem abv7 : ∀ a, a < 7 → abv a < 7 := by decide +kernel
theorem abv_d : ∀ a, a < 7 → a ≠ 0 → dpt (abv a) < dpt a := by decide +kernel
theorem dpt3 : ∀ a, a < 7 → dpt a < 4 := by decide +kernel
theorem und_eq : ∀ a, a < 7 → ∀ P, P < 7 → undM P 4 a = undL P 7 a := by decide +kernel
theorem abvM : ∀ a, a < 7 → (if nI a = 0 then (-1 : Int32) else if nI a = 4 then 1 else if nI a = 5 then 2 else if nI a = 6 then 3 else 0) = if a = 0 then -1 else nI (abv a) := by decide +kernel
theorem undC {P : Nat} (hP : P < 7) (c : xS) : ∀ (r n k a : Nat), k + r = 7 → r < n → a < 7 → xloop (sX8_isUnder_L4 (nI P)) n (nI a, nI k) c = some (bI (undL P r a = true), c) := by
  intro r
  induction r with
  | zero =>
    intro n k a hk hn ha
    obtain ⟨n, rfl⟩ : ∃ z, n = z + 1 := ⟨n - 1, by omega⟩
    have hk' : k = 7 := by omega
    subst hk'
    rw [xloop_s]
    generalize xloop (sX8_isUnder_L4 (nI P)) n = self
    simp only [sX8_isUnder_L4]
    rw [if_pos (show (6 : Int32) < nI 7 by decide)]
    rfl
  | succ r ih =>
    intro n k a hk hn ha
    obtain ⟨n, rfl⟩ : ∃ z, n = z + 1 := ⟨n - 1, by omega⟩
    have q1 := ih n (k + 1) (abv a) (by omega) (by omega) (abv7 a ha)
    have hx : xin (nI a) 7 := xin_n ha (by omega)
    rw [xloop_s]
    generalize xloop (sX8_isUnder_L4 (nI P)) n = self at q1 ⊢
    simp only [sX8_isUnder_L4, xlet_e, if_pos hx]
    rw [if_neg (show ¬ (6 : Int32) < nI k by rw [i_lt, i_nI (by omega)]; show ¬ (6 : Int) < _; omega), abv_tab a ha, nI_s]
    by_cases e : a = P
    · rw [if_pos (by rw [e])]
      rw [bI_t (by unfold undL; simp [e])]
    · rw [if_neg (fun z => e ((nI_eq (by omega) (by omega)).mp z)), q1]
      congr 2
      apply bI_c
      rw [undL]
      simp [e]
theorem undMm {P : Nat} (hP : P < 7) (m : xS) : ∀ (r n a : Nat), dpt a < r → r < n → a < 7 → xloop (sX9_isUnder_L2 (nI P)) n (nI a) m = some (bI (undM P r a = true), m) := by
  intro r
  induction r with
  | zero => intro n a h; exact absurd h (Nat.not_lt_zero _)
  | succ r ih =>
    intro n a hd hn ha
    obtain ⟨n, rfl⟩ : ∃ z, n = z + 2 := ⟨n - 2, by omega⟩
    have q1 := fun (h0 : a ≠ 0) => ih (n + 1) (abv a) (by have := abv_d a ha h0; omega) (by omega) (abv7 a ha)
    rw [xloop_s]
    generalize hs : xloop (sX9_isUnder_L2 (nI P)) (n + 1) = self at q1 ⊢
    simp only [sX9_isUnder_L2, sX9_isUnder_L19, sX9_above, xlet_e, xb_s]
    rw [if_neg (nI_nneg (show a < 2147483648 by omega)), if_neg (nI_nneg (show a < 2147483648 by omega)), abvM a ha]
    by_cases e : a = P
    · rw [if_pos (by rw [e])]
      rw [bI_t (by unfold undM; simp [e]), if_pos (Or.inr rfl)]
    · rw [if_neg (fun z => e ((nI_eq (by omega) (by omega)).mp z))]
      by_cases h0 : a = 0
      · rw [if_pos h0, ← hs, xloop_s]
        generalize xloop (sX9_isUnder_L2 (nI P)) n = self2
        simp only [sX9_isUnder_L2, sX9_isUnder_L19, xlet_e]
        rw [if_pos (show (-1 : Int32) < 0 by decide), if_pos (show (-1 : Int32) < 0 by decide), if_pos (Or.inl rfl), bI_f (by unfold undM; simp [h0]; exact fun z => e (by rw [h0, z]))]
      · rw [if_neg h0, q1 h0]
        congr 2
        apply bI_c
        rw [undM]
        simp [e, h0]
theorem zX8_isUnder {a P : Nat} (ha : a < 7) (hP : P < 7) (c : xS) : sX8_isUnder (nI a) (nI P) c = some (bI (undL P 7 a = true), c) := undC hP c 7 xF 0 a rfl (by rw [xF_eq]; omega) ha
theorem zX9_isUnder {a P : Nat} (ha : a < 7) (hP : P < 7) (m : xS) : sX9_isUnder (nI a) (nI P) m = some (bI (undL P 7 a = true), m) := by
  have h := undMm hP m 4 xF a (dpt3 a ha) (by rw [xF_eq]; omega) ha
  rw [und_eq a ha P hP] at h
  exact h
theorem op_as (p q : Int32) : OpR (sX8_as p q) (sX9_as p q) := by
  intro c m h
  have hV := h.V
  unfold sX8_as sX9_as sX8_as_L18 sX9_as_L18
  simp only [zX8_isShip, zX9_isShip, zX8_within, zX9_within, xb_s, bif0, fC1, fM1, fC5, fM5]
  rw [h.F.1]
  by_cases h1 : 0 ≤ p ∧ p ≤ m 1 2 - 1
  · rw [if_pos h1, if_pos h1]
    obtain ⟨s, hs, rfl⟩ := inShip h.V.H h1
    have hs7 : s < 7 := by have := h.V.H.s7; omega
    have hx : xin (nI s) 7 := xin_n hs7 (by omega)
    by_cases h2 : 0 ≤ q ∧ q ≤ 6
    · rw [if_pos h2, if_pos h2]
      obtain ⟨P, hP, rfl⟩ := inN (n := 7) h2 (by decide)
      have hk := (hV.2.2.2.2.2.2.2.1 s hs7).1
      obtain ⟨a, ha, ea⟩ := nI_ex (n := 7) hk.1 (by omega)
      have e0 : c 22 s = nI a := (shipIs5 h hs7 (k := 0) (by omega)).trans ea
      have e1 : c 23 s = m 1 (33 + 5 * s + 1) := shipIs5 h hs7 (k := 1) (by omega)
      have g0 : sX9_shipIs (nI s) 0 m = some (m 1 (33 + 5 * s + 0), m) := zX9_shipIs (f := 0) hs7 (by omega) m
      have g1 : sX9_shipIs (nI s) 1 m = some (m 1 (33 + 5 * s + 1), m) := zX9_shipIs (f := 1) hs7 (by omega) m
      simp only [if_pos hx]
      have ea : m 1 (33 + 5 * s + 0) = nI a := ea
      rw [nI_N (by omega), e0, zX8_isUnder ha hP, xb_s, bif0, e1, g0, xb_s, ea, zX9_isUnder ha hP, xb_s, bif0, g1, xb_s]
      by_cases h3 : undL P 7 a = true
      · rw [if_pos h3, if_pos h3]
        exact ⟨_, c, m, rfl, rfl, h⟩
      · rw [if_neg h3, if_neg h3]
        exact errR h (by decide) _ rfl rfl
    · rw [if_neg h2, if_neg h2]
      exact errR h (by decide) _ rfl rfl
  · rw [if_neg h1, if_neg h1]
    exact errR h (by decide) _ rfl rfl
theorem op_ofShip (p q : Int32) : OpR (sX8_ofShip p q) (sX9_ofShip p q) := by
  intro c m h
  have hV := h.V
  unfold sX8_ofShip sX9_ofShip sX8_ofShip_L17 sX9_ofShip_L17
  simp only [zX8_isShip, zX9_isShip, zX8_within, zX9_within, xb_s, bif0, fC1, fM1]
  rw [h.F.1]
  by_cases h1 : 0 ≤ p ∧ p ≤ m 1 2 - 1
  · rw [if_pos h1, if_pos h1]
    obtain ⟨s, hs, rfl⟩ := inShip h.V.H h1
    have hs7 : s < 7 := by have := h.V.H.s7; omega
    have hx : xin (nI s) 7 := xin_n hs7 (by omega)
    by_cases h2 : 0 ≤ q ∧ q ≤ 5
    · rw [if_pos h2, if_pos h2]
      obtain ⟨j, hj, rfl⟩ := inN (n := 6) h2 (by decide)
      have g : ∀ k, k < 5 → sX9_shipIs (nI s) (nI k) m = some (c (22 + k) s, m) := fun k hk => by rw [shipIs5 h hs7 hk]; exact zX9_shipIs hs7 hk m
      have g3 : sX9_shipIs (nI s) 3 m = some (c 25 s, m) := g 3 (by omega)
      simp only [if_pos hx]
      rw [g3, xb_s, nI_N (by omega)]
      rcases (show j = 0 ∨ j = 1 ∨ j = 2 ∨ j = 3 ∨ j = 4 ∨ j = 5 by omega) with rfl | rfl | rfl | rfl | rfl | rfl
      · rw [if_pos (show nI 0 = 0 from rfl), if_neg (show ¬ (5 : Int32) ≤ nI 0 by decide), g 0 (by omega), xb_s]
        exact ⟨_, c, m, rfl, rfl, h⟩
      · rw [if_neg (show ¬ nI 1 = 0 by decide), if_pos (show nI 1 = 1 from rfl), if_neg (show ¬ (5 : Int32) ≤ nI 1 by decide), g 1 (by omega), xb_s]
        exact ⟨_, c, m, rfl, rfl, h⟩
      · rw [if_neg (show ¬ nI 2 = 0 by decide), if_neg (show ¬ nI 2 = 1 by decide), if_pos (show nI 2 = 2 from rfl), if_neg (show ¬ (5 : Int32) ≤ nI 2 by decide), g 2 (by omega), xb_s]
        exact ⟨_, c, m, rfl, rfl, h⟩
      · rw [if_neg (show ¬ nI 3 = 0 by decide), if_neg (show ¬ nI 3 = 1 by decide), if_neg (show ¬ nI 3 = 2 by decide), if_pos (show nI 3 = 3 from rfl), if_neg (show ¬ (5 : Int32) ≤ nI 3 by decide), g 3 (by omega), xb_s]
        exact ⟨_, c, m, rfl, rfl, h⟩
      · rw [if_neg (show ¬ nI 4 = 0 by decide), if_neg (show ¬ nI 4 = 1 by decide), if_neg (show ¬ nI 4 = 2 by decide), if_neg (show ¬ nI 4 = 3 by decide), if_pos (show nI 4 = 4 from rfl), if_neg (show ¬ (5 : Int32) ≤ nI 4 by decide), g 4 (by omega), xb_s]
        exact ⟨_, c, m, rfl, rfl, h⟩
      · rw [if_neg (show ¬ nI 5 = 0 by decide), if_neg (show ¬ nI 5 = 1 by decide), if_neg (show ¬ nI 5 = 2 by decide), if_neg (show ¬ nI 5 = 3 by decide), if_neg (show ¬ nI 5 = 4 by decide), if_pos (show (5 : Int32) ≤ nI 5 by decide)]
        unfold sX8_believedNext
        simp only [if_pos hx, xlet_e]
        rw [nI_N (by omega)]
        have e25 : c 25 s = m 1 (36 + 5 * s) := by have := shipIs5 h hs7 (k := 3) (by omega); rw [show 33 + 5 * s + 3 = 36 + 5 * s by omega] at this; exact this
        obtain ⟨i, hi, ei⟩ := hV.H.at hs
        have h8 := hV.H.c8
        rw [e25, ei]
        by_cases h3 : i = 0
        · subst h3
          rw [if_pos (show nI 0 = 0 from rfl), if_pos (show nI 0 = 0 from rfl), xb_s]
          exact ⟨_, c, m, rfl, rfl, h⟩
        · have h30 : ¬ nI i = (0 : Int32) := fun z => h3 ((nI_eq (a := i) (b := 0) (by omega) (by omega)).mp z)
          rw [if_neg h30, if_neg h30]
          obtain ⟨c1, q1, q2, q3, q4⟩ := drwB h (bk_ok h)
          rw [upd_same] at q2
          obtain ⟨i, rfl⟩ : ∃ z, i = z + 1 := ⟨i - 1, by omega⟩
          have hk := (hV.2.2.2.2.2.2.2.1 s hs7).1
          obtain ⟨m', k1, k2, k3⟩ := zX9_believes (s := s) (i := i) hV.H.2.2.2.2.1 h.2.1 hs7 (by omega) hk hV.H.2.2.1 hV.H.2.2.2.1
          have e22 : c1 22 s = m 1 (33 + 5 * s) := shipIs5 q4 hs7 (k := 0) (by omega)
          have e23 : c1 23 s = m 1 (34 + 5 * s) := by have := shipIs5 q4 hs7 (k := 1) (by omega); rw [show 33 + 5 * s + 1 = 34 + 5 * s by omega] at this; exact this
          rw [h.L.1, q1, xb_s, nI_pm, k1, xb_s, e22, e23, zX1_believed q2 h8 (by omega) hk, xb_s, xb_s]
          exact ⟨_, c1, m', rfl, rfl, q4.scrM (k2.mono (by unfold LSM; simp)) k3⟩
    · rw [if_neg h2, if_neg h2]
      exact errR h (by decide) _ rfl rfl
  · rw [if_neg h1, if_neg h1]
    exact errR h (by decide) _ rfl rfl
