/-! ===== WHICH, BAY ===== -/
def allN (q : Nat → Bool) : Nat → Bool
  | 0 => true
  | k + 1 => allN q k && q k
theorem allN_f {q : Nat → Bool} {j : Nat} (h : q j = false) : ∀ k, j < k → allN q k = false := by
  intro k
  induction k with
  | zero => intro h; exact absurd h (Nat.not_lt_zero _)
  | succ k ih =>
    intro hk
    by_cases e : j = k
    · subst e; simp [allN, h]
    · simp [allN, ih (by omega)]
def okS (N : Row) (f : Nat → Int32) (bk : Int32) (j : Nat) : Bool := decide (f j < 0) || decide (f j = shw N bk j)
theorem zX8_isShownAs {c m : xS} (h : Rel c m) {i : Nat} (hi : i < 4) (hl : m 12 i = m 1 1) (bk : Int32) : ∃ c', sX8_isShownAs (57 + 2 * i) bk c = some (bI (allN (okS (m 1) (fun j => m 13 (40 * i + j)) bk) (cellsN (m 1)) = true), c') ∧ Rel c' m := by
  have hV := h.V.H
  have h8 := hV.c8
  have key : ∀ (r n k : Nat) (c : xS), k + r = cellsN (m 1) → r < n → Rel c m → allN (okS (m 1) (fun j => m 13 (40 * i + j)) bk) k = true → ∃ c', xloop (sX8_isShownAs_L2 (57 + 2 * i) bk) n (nI k) c = some (bI (allN (okS (m 1) (fun j => m 13 (40 * i + j)) bk) (cellsN (m 1)) = true), c') ∧ Rel c' m := by
    intro r
    induction r with
    | zero =>
      intro n k c hk hn hR ha
      obtain ⟨n, rfl⟩ : ∃ z, n = z + 1 := ⟨n - 1, by omega⟩
      have hk' : k = cellsN (m 1) := by omega
      subst hk'
      rw [xloop_s]
      generalize xloop (sX8_isShownAs_L2 (57 + 2 * i) bk) n = self
      simp only [sX8_isShownAs_L2]
      rw [(hR.2.2.2.2.1 i hi).2.1, hl, hV.cI, if_pos (Int32.le_refl _), bI_t ha]
      exact ⟨c, rfl, hR⟩
    | succ r ih =>
      intro n k c hk hn hR ha
      obtain ⟨n, rfl⟩ : ∃ z, n = z + 1 := ⟨n - 1, by omega⟩
      have hx : xin (nI k) 40 := xin_n (by omega) (by omega)
      obtain ⟨c1, g1, g2⟩ := zX0_shownBy hR.B hV.2.2.2.2.1 hR.L.2 (i := k) (by omega) bk
      have hR1 : Rel c1 m := hR.scrC (g2.mono (by unfold LSC; simp))
      have hi1 := fun c => ih n (k + 1) c (by omega) (by omega)
      rw [xloop_s]
      generalize xloop (sX8_isShownAs_L2 (57 + 2 * i) bk) n = self at hi1 ⊢
      simp only [sX8_isShownAs_L2, sX8_isShownAs_L39, xlet_e, if_pos hx]
      rw [(hR.2.2.2.2.1 i hi).2.1, hl, hV.cI, if_neg (nI_ge (show k < cellsN (m 1) by omega) (by omega)), nI_N (by omega), (hR.2.2.2.2.1 i hi).2.2.1 k (by omega), g1, xb_s, nI_s]
      by_cases q1 : m 13 (40 * i + k) < 0
      · rw [if_pos q1]
        exact hi1 c hR (by simp [allN, ha, okS, q1])
      · rw [if_neg q1]
        by_cases q2 : m 13 (40 * i + k) = shw (m 1) bk k
        · rw [if_pos q2]
          exact hi1 c1 hR1 (by simp [allN, ha, okS, q2])
        · rw [if_neg q2, bI_f (by rw [allN_f (j := k) (by simp [okS, q1, q2]) _ (by omega)]; simp)]
          exact ⟨c1, rfl, hR1⟩
  exact key (cellsN (m 1)) xF 0 c (by omega) (by rw [xF_eq]; omega) h rfl
theorem zX9_isShownSo {c m : xS} (h : Rel c m) {i : Nat} (hi : i < 4) {bk : Int32} (hb : 0 ≤ bk.toInt ∧ bk.toInt ≤ 99) : ∃ m', sX9_isShownSo (nI i) bk m = some (bI (allN (okS (m 1) (fun j => m 13 (40 * i + j)) bk) (cellsN (m 1)) = true), m') ∧ EqX [5, 8, 9] m m' ∧ Rel c m' := by
  have hV := h.V.H
  have h8 := hV.c8
  have key : ∀ (r n k : Nat) (m' : xS), k + r = cellsN (m 1) → r < n → EqX [5, 8, 9] m m' → Rel c m' → ∃ m'', xloop (sX9_isShownSo_L5 (nI i) bk) n (bI (allN (okS (m 1) (fun j => m 13 (40 * i + j)) bk) k = true), nI k) m' = some (bI (allN (okS (m 1) (fun j => m 13 (40 * i + j)) bk) (cellsN (m 1)) = true), m'') ∧ EqX [5, 8, 9] m m'' ∧ Rel c m'' := by
    intro r
    induction r with
    | zero =>
      intro n k m' hk hn hE hR
      obtain ⟨n, rfl⟩ : ∃ z, n = z + 1 := ⟨n - 1, by omega⟩
      have hk' : k = cellsN (m 1) := by omega
      subst hk'
      rw [xloop_s]
      generalize xloop (sX9_isShownSo_L5 (nI i) bk) n = self
      simp only [sX9_isShownSo_L5]
      rw [hE 1 (by simp), hV.cI, if_pos (Int32.le_refl _), if_pos bI_01]
      exact ⟨m', rfl, hE, hR⟩
    | succ r ih =>
      intro n k m' hk hn hE hR
      obtain ⟨n, rfl⟩ : ∃ z, n = z + 1 := ⟨n - 1, by omega⟩
      have e1 : m' 1 = m 1 := hE 1 (by simp)
      have e40 : (40 : Int32) * nI i + nI k = nI (40 * i + k) := by
        rw [show (40 : Int32) = nI 40 from rfl, pk_mul, nI_add]
      have hx : xin (nI (40 * i + k)) 160 := xin_n (by omega) (by omega)
      obtain ⟨m1, g1, g2, g3⟩ := zX9_shown (m := m') (by rw [e1]; exact hV.2.2.2.2.1) hR.2.1 (i := k) (by omega) (bk := bk) (by rw [e1]; exact yrOk_of h.V.2.2.1 (by omega))
      have hR1 : Rel c m1 := hR.scrM (g2.mono (by unfold LSM; simp)) g3
      have hi1 := fun m' => ih n (k + 1) m' (by omega) (by omega)
      rw [xloop_s]
      generalize xloop (sX9_isShownSo_L5 (nI i) bk) n = self at hi1 ⊢
      simp only [sX9_isShownSo_L5, sX9_isShownSo_L56, sX9_isShownSo_L51, xlet_e, e40, if_pos hx]
      rw [e1, hV.cI, if_neg (nI_ge (show k < cellsN (m 1) by omega) (by omega)), nI_N (by omega), hE 13 (by simp), g1, xb_s, e1, nI_s, bif0]
      by_cases q0 : allN (okS (m 1) (fun j => m 13 (40 * i + j)) bk) k = true
      · rw [if_pos q0]
        by_cases q1 : m 13 (40 * i + k) < 0
        · rw [if_pos q1]
          have h := hi1 m' hE hR
          rw [bI_t (by simp [allN, q0, okS, q1])] at h
          exact h
        · rw [if_neg q1]
          have h := hi1 m1 (hE.tr g2) hR1
          by_cases q2 : m 13 (40 * i + k) = shw (m 1) bk k
          · rw [if_pos q2]
            rw [bI_t (by simp [allN, q0, okS, q2])] at h
            exact h
          · rw [if_neg q2]
            rw [bI_f (by simp [allN, okS, q1, q2])] at h
            exact h
      · rw [if_neg q0]
        have h := hi1 m' hE hR
        rw [bI_f (by simp [allN, q0])] at h
        exact h
  exact key (cellsN (m 1)) xF 0 m (by omega) (by rw [xF_eq]; omega) (EqX.rf _ _) h
theorem zX6_isMissing {c m : xS} (h : Rel c m) {i : Nat} (hi : i < 4) : sX6_isMissing (57 + 2 * i) c = some (bI (m 11 i = 0), c) := by
  unfold sX6_isMissing
  simp only [xlet_e]
  rw [(h.2.2.2.2.1 i hi).1, b01]
theorem op_which (p q : Int32) : OpR (sX8_which p q) (sX9_which p q) := by
  intro c m h
  have hV := h.V
  unfold sX8_which sX9_which sX8_which_L16 sX9_which_L16 sX8_which_L50 sX9_which_L47
  simp only [zX8_isSheet, zX9_isSheet, zX8_within, zX9_within, xb_s, bif0, fC1, fM1, fC2, fM2, xlet_e]
  by_cases h1 : 0 ≤ p ∧ p ≤ 3
  · rw [if_pos h1, if_pos h1]
    obtain ⟨i, hi, rfl⟩ := inN (n := 4) h1 (by decide)
    have hx : xin (nI i) 4 := xin_n hi (by omega)
    by_cases h2 : 0 ≤ q ∧ q ≤ 1
    · rw [if_pos h2, if_pos h2]
      obtain ⟨j, hj, rfl⟩ := inN (n := 2) h2 (by decide)
      simp only [if_pos hx]
      rw [nI_N (by omega), zX6_isMissing h hi, xb_s, bif0]
      by_cases h3 : m 11 i = 0
      · rw [if_pos h3, if_pos h3]
        exact errR h (by decide) _ rfl rfl
      · rw [if_neg h3, if_neg h3, (h.2.2.2.2.1 i hi).2.1, h.B.1]
        by_cases h4 : m 12 i = m 1 1
        · rw [if_pos h4, if_pos h4]
          have key : ∀ (b n1 n2 : Nat) (a k : Nat) (c m : xS), b ≤ 100 → a + b ≤ 100 → b < n1 → b < n2 → Rel c m → m 12 i = m 1 1 → ∀ f, ((a = 0 ∧ f = (-1 : Int32)) ∨ (0 < a ∧ k < 100 ∧ f = nI k)) → ∃ w c' m', xloop (sX8_which_L66 (nI j) (57 + 2 * i)) n1 (nI a, f, nI b - 1) c = some (w, c') ∧ xloop (sX9_which_L64 (nI i) (nI j)) n2 (nI a, f, nI b - 1) m = some (w, m') ∧ Rel c' m' := by
            intro b
            induction b with
            | zero =>
              intro n1 n2 a k c m _ hab hn1 hn2 hR hl f hf
              obtain ⟨n1, rfl⟩ : ∃ z, n1 = z + 1 := ⟨n1 - 1, by omega⟩
              obtain ⟨n2, rfl⟩ : ∃ z, n2 = z + 1 := ⟨n2 - 1, by omega⟩
              rw [xloop_s, xloop_s]
              generalize xloop (sX8_which_L66 (nI j) (57 + 2 * i)) n1 = self1
              generalize xloop (sX9_which_L64 (nI i) (nI j)) n2 = self2
              simp only [sX8_which_L66, sX9_which_L64]
              rw [if_pos m1_lt, if_pos m1_lt]
              by_cases h5 : nI j = 0
              · rw [if_pos h5, if_pos h5]
                exact ⟨_, c, m, rfl, rfl, hR⟩
              · rw [if_neg h5, if_neg h5, fC2, fM2]
                rcases hf with ⟨rfl, rfl⟩ | ⟨ha, hk, rfl⟩
                · rw [if_pos (show nI 0 ≤ 0 by decide), if_neg (show ¬ (0 : Int32) ≤ -1 by decide)]
                  exact errR hR (by decide) _ rfl rfl
                · rw [if_neg (show ¬ nI a ≤ (0 : Int32) from nI_ge (a := 0) ha (by omega)), if_pos (show (0 : Int32) ≤ nI k from nI_le (Nat.zero_le k) (by omega))]
                  exact ⟨_, c, m, rfl, rfl, hR⟩
            | succ b ih =>
              intro n1 n2 a k c m hb hab hn1 hn2 hR hl f hf
              obtain ⟨n1, rfl⟩ : ∃ z, n1 = z + 1 := ⟨n1 - 1, by omega⟩
              obtain ⟨n2, rfl⟩ : ∃ z, n2 = z + 1 := ⟨n2 - 1, by omega⟩
              obtain ⟨c1, g1, g2⟩ := zX8_isShownAs hR hi hl (nI b)
              obtain ⟨m1, k1, k2, k3⟩ := zX9_isShownSo g2 hi (bk := nI b) (by rw [i_nI (by omega)]; omega)
              have hl1 : m1 12 i = m1 1 1 := by rw [k2 12 (by simp), k2 1 (by simp)]; exact hl
              have hi1 := fun a k => ih n1 n2 a k c1 m1 (by omega)
              rw [xloop_s, xloop_s]
              generalize xloop (sX8_which_L66 (nI j) (57 + 2 * i)) n1 = self1 at hi1 ⊢
              generalize xloop (sX9_which_L64 (nI i) (nI j)) n2 = self2 at hi1 ⊢
              simp only [sX8_which_L66, sX9_which_L64, sX8_which_L88, sX9_which_L89, sX9_which_L103, xlet_e]
              rw [nI_pm, if_neg (nI_nneg (show b < 2147483648 by omega)), if_neg (nI_nneg (show b < 2147483648 by omega)), g1, xb_s, k1, xb_s, bif0, bif0, bif0, x_m1]
              by_cases h6 : allN (okS (m 1) (fun j => m 13 (40 * i + j)) (nI b)) (cellsN (m 1)) = true
              · rw [if_pos h6, if_pos h6, if_pos h6, nI_s]
                exact hi1 (a + 1) b (by omega) (by omega) (by omega) k3 hl1 _ (Or.inr ⟨by omega, by omega, rfl⟩)
              · rw [if_neg h6, if_neg h6, if_neg h6, Int32.add_zero]
                exact hi1 a k (by omega) (by omega) (by omega) k3 hl1 _ hf
          rw [show (99 : Int32) = nI 100 - 1 by decide]
          exact key 100 xF xF 0 0 c m (by omega) (by omega) (by rw [xF_eq]; omega) (by rw [xF_eq]; omega) h h4 (-1) (Or.inl ⟨rfl, rfl⟩)
        · rw [if_neg h4, if_neg h4]
          exact errR h (by decide) _ rfl rfl
    · rw [if_neg h2, if_neg h2]
      exact errR h (by decide) _ rfl rfl
  · rw [if_neg h1, if_neg h1]
    exact errR h (by decide) _ rfl rfl
