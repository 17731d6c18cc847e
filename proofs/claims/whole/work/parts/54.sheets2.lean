theorem op_beds (p : Int32) : OpR (sX8_beds p) (sX9_beds p) := by
  intro c m h
  have hV := h.V.H
  have h8 := hV.c8
  unfold sX8_beds sX9_beds
  simp only [zX8_isSheet, zX9_isSheet, xb_s, bif0, fC1, fM1, fC2, fM2, xlet_e]
  by_cases h1 : 0 ≤ p ∧ p ≤ 3
  · rw [if_pos h1, if_pos h1]
    obtain ⟨i, hi, rfl⟩ := inN (n := 4) h1 (by decide)
    have hx : xin (nI i) 4 := xin_n hi (by omega)
    obtain ⟨a1, a2, a3, a4, a5⟩ := h.2.2.2.2.1 i hi
    simp only [if_pos hx]
    rw [nI_N (by omega), zX6_isMissing h hi, xb_s, bif0]
    by_cases h3 : m 11 i = 0
    · rw [if_pos h3, if_pos h3]
      exact errR h (by decide) _ rfl rfl
    · rw [if_neg h3, if_neg h3, h.B.1, a2]
      obtain ⟨l, hl, el⟩ := nI_ex (n := 41) a5.1 (by omega)
      rw [hV.cI, el, minB (by omega) (by omega)]
      have fin : ∀ (w : Int32) (c' m' : xS), SnapR c' 1 21 39 (m' 1) → EqX [2] c c' → EqX [1] m m' → ∃ v c2 m2, (some (w, c') : Option (Int32 × xS)) = some (v, c2) ∧ xbind (sX9_forgetDepths m') (fun _ s => some (w, s)) = some (v, m2) ∧ Rel c2 m2 := by
        intro w c' m' hS hC hM
        obtain ⟨m2, g1, g2, g3⟩ := zX9_forget m'
        refine ⟨w, c', m2, rfl, by rw [g1, xb_s], h.snap ?_ (cache0 g3) (hC.mono (by unfold LSN; simp)) ((hM.mono (by unfold LMN; simp)).tr (g2.mono (by unfold LMN; simp)))⟩
        rw [g2 1 (by simp)]; exact hS
      have key : ∀ (r n1 n2 k : Nat) (c' m' : xS), k + r = min (cellsN (m 1)) l → r < n1 → r < n2 → SnapR c' 1 21 39 (m' 1) → EqX [2] c c' → EqX [1] m m' → m' 1 1 = m 1 1 → ∃ v c2 m2, xloop (sX8_beds_L51 (57 + 2 * i) (nI (min (cellsN (m 1)) l))) n1 (nI k) c' = some (v, c2) ∧ xloop (sX9_beds_L33 (nI i)) n2 (nI k) m' = some (v, m2) ∧ Rel c2 m2 := by
        intro r
        induction r with
        | zero =>
          intro n1 n2 k c' m' hk hn1 hn2 hS hC hM h11
          obtain ⟨n1, rfl⟩ : ∃ z, n1 = z + 1 := ⟨n1 - 1, by omega⟩
          obtain ⟨n2, rfl⟩ : ∃ z, n2 = z + 1 := ⟨n2 - 1, by omega⟩
          have hk' : k = min (cellsN (m 1)) l := by omega
          rw [xloop_s, xloop_s]
          generalize xloop (sX8_beds_L51 (57 + 2 * i) (nI (min (cellsN (m 1)) l))) n1 = self1
          generalize xloop (sX9_beds_L33 (nI i)) n2 = self2
          simp only [sX8_beds_L51, sX9_beds_L33, sX9_beds_L95, zX9_isCell, xb_s, bif0, if_pos hx, xlet_e]
          rw [← hk', if_pos (Int32.le_refl _), nI_N (by omega), hM 12 (by simp), el]
          by_cases q1 : l ≤ k
          · rw [if_pos (nI_le q1 (by omega))]
            exact fin _ c' m' hS hC hM
          · rw [if_neg (nI_ge (by omega) (by omega)), if_neg (show ¬ (0 ≤ nI k ∧ nI k ≤ m' 1 1 - 1) from fun z => by
              have hz := z.2
              have hc := hV.cI
              rw [h11, hc, i_le, i_sub (by rw [i_nI (by omega)]; show _ ≤ (cellsN (m 1) : Int) - 1; omega) (by rw [i_nI (by omega)]; show (cellsN (m 1) : Int) - 1 ≤ _; omega), i_nI (by omega), i_nI (by omega)] at hz
              have hz : (k : Int) ≤ (cellsN (m 1) : Int) - 1 := hz
              omega)]
            exact fin _ c' m' hS hC hM
        | succ r ih =>
          intro n1 n2 k c' m' hk hn1 hn2 hS hC hM h11
          obtain ⟨n1, rfl⟩ : ∃ z, n1 = z + 1 := ⟨n1 - 1, by omega⟩
          obtain ⟨n2, rfl⟩ : ∃ z, n2 = z + 1 := ⟨n2 - 1, by omega⟩
          have hkc : k < cellsN (m 1) := by omega
          have hkl : k < l := by omega
          have hxk : xin (nI k) 40 := xin_n (by omega) (by omega)
          have hx8 : xin (nI k) 8 := xin_n (by omega) (by omega)
          have hx6 : xin (nI (40 * i + k)) 160 := xin_n (by omega) (by omega)
          have hx2 : xin (nI (9 + 3 * k + 0)) 242 := xin_n (by omega) (by omega)
          have g0 : ∀ m, sX9_cellAt (nI k) 0 m = some (nI (9 + 3 * k + 0), m) := fun m => cellAt3 k 0 m
          have hi1 := fun c' m' => ih n1 n2 (k + 1) c' m' (by omega) (by omega) (by omega)
          have hcI := hV.cI
          rw [xloop_s, xloop_s]
          generalize xloop (sX8_beds_L51 (57 + 2 * i) (nI (min (cellsN (m 1)) l))) n1 = self1 at hi1 ⊢
          generalize xloop (sX9_beds_L33 (nI i)) n2 = self2 at hi1 ⊢
          simp only [sX8_beds_L51, sX9_beds_L33, sX9_beds_L95, zX8_within, zX9_isCell, zX9_isDigit, xb_s, bif0, if_pos hx, if_pos hxk, if_pos hx8, e40, if_pos hx6, g0, if_pos hx2, xlet_e]
          rw [if_neg (nI_ge (show k < min (cellsN (m 1)) l by omega) (by omega)), nI_N (show i < 2147483648 by omega), hM 12 (by simp), el, if_neg (nI_ge hkl (by omega)), if_pos (show 0 ≤ nI k ∧ nI k ≤ m' 1 1 - 1 from ⟨nI_le (Nat.zero_le k) (by omega), by
              rw [h11, hcI, i_le, i_sub (by rw [i_nI (by omega)]; show _ ≤ (cellsN (m 1) : Int) - 1; omega) (by rw [i_nI (by omega)]; show (cellsN (m 1) : Int) - 1 ≤ _; omega), i_nI (by omega), i_nI (by omega)]
              show (k : Int) ≤ (cellsN (m 1) : Int) - 1
              omega⟩), nI_N (show k < 2147483648 by omega), nI_N (show 40 * i + k < 2147483648 by omega), nI_N (show 9 + 3 * k + 0 < 2147483648 by omega), hC (57 + 2 * i + 1) (by simp; omega), hM 13 (by simp), a3 k (by omega), nI_s]
          by_cases q : 0 ≤ m 13 (40 * i + k) ∧ m 13 (40 * i + k) ≤ 9
          · rw [if_pos q, if_pos q]
            exact hi1 _ _ (by rw [xup_s]; exact hS.cell (i := k) (t := 0) (by omega) (by omega) _) (hC.up _ (by simp)) (hM.up _ (by simp)) (by rw [xup_s, upd_n _ _ (by omega)]; exact h11)
          · rw [if_neg q, if_neg q]
            exact fin _ c' m' hS hC hM
      exact key (min (cellsN (m 1)) l) xF xF 0 c m (by omega) (by rw [xF_eq]; omega) (by rw [xF_eq]; omega) h.1 (EqX.rf _ _) (EqX.rf _ _) rfl
  · rw [if_neg h1, if_neg h1]
    exact errR h (by decide) _ rfl rfl
