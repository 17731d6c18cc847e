theorem i64 (x : Int32) : x.toInt64.toInt = x.toInt := Int32.toInt_toInt64 x
theorem i64_add (a b : Int32) : (a.toInt64 + b.toInt64).toInt = a.toInt + b.toInt := by
  have h1 := i_lb a
  have h2 := i_ub a
  have h3 := i_lb b
  have h4 := i_ub b
  rw [Int64.toInt_add, i64, i64]
  exact Int.bmod_eq_of_le (by omega) (by omega)
theorem i64_lt {x y : Int64} : x < y ↔ x.toInt < y.toInt := Int64.lt_iff_toInt_lt
theorem i64_le {x y : Int64} : x ≤ y ↔ x.toInt ≤ y.toInt := Int64.le_iff_toInt_le
theorem zX6_holds {c : xS} {o : Nat} {l : Nat} (hl : l < 41) (e : c o 1 = nI l) (p q : Int32) : sX6_holds o p q c = some (bI (0 ≤ p.toInt ∧ 0 ≤ q.toInt ∧ p.toInt + q.toInt ≤ (l : Int)), c) := by
  unfold sX6_holds
  simp only [xlet_e]
  rw [e]
  have hz : (0 : Int32).toInt = 0 := rfl
  by_cases h1 : p < 0
  · rw [if_pos h1, if_pos (Or.inl rfl), bI_f (by rw [i_lt, hz] at h1; omega)]
  · rw [if_neg h1]
    rw [i_lt, hz] at h1
    by_cases h2 : q < 0
    · rw [if_pos h2, if_pos (Or.inl rfl), bI_f (by rw [i_lt, hz] at h2; omega)]
    · rw [if_neg h2]
      rw [i_lt, hz] at h2
      by_cases h3 : nI l < p
      · rw [if_pos h3, if_pos (Or.inl rfl), bI_f (by rw [i_lt, i_nI (by omega)] at h3; omega)]
      · rw [if_neg h3]
        rw [i_lt, i_nI (by omega)] at h3
        have e2 : (nI l - p).toInt = l - p.toInt := by
          rw [i_sub (by rw [i_nI (by omega)]; omega) (by rw [i_nI (by omega)]; omega), i_nI (by omega)]
        by_cases h4 : nI l - p < q
        · rw [if_pos h4, if_pos (Or.inl rfl), bI_f (by rw [i_lt, e2] at h4; omega)]
        · rw [if_neg h4, if_pos (Or.inr rfl), bI_t (by rw [i_lt, e2] at h4; omega)]
theorem zX9_move2 (m : xS) {i a n : Nat} (hi : i < 4) (h40 : a + n ≤ 40) (P3 : Int32) (P4 : Int32) (P5 : Int32) (e3 : P3 = nI i) (e4 : P4 = nI a) (e5 : P5 = nI n) : ∃ m', xloop (sX9_move_L165 P3 P4 P5) xF 0 m = some (P5, m') ∧ EqX [13] m m' ∧ ∀ q, m' 13 q = if 40 * i + a ≤ q ∧ q < 40 * i + a + n then m 14 (q - (40 * i + a)) else m 13 q := by
  subst e3 e4 e5
  have key : ∀ (r w k : Nat) (m' : xS), k + r = n → r < w → EqX [13] m m' → (∀ q, m' 13 q = if 40 * i + a ≤ q ∧ q < 40 * i + a + k then m 14 (q - (40 * i + a)) else m 13 q) → ∃ m'', xloop (sX9_move_L165 (nI i) (nI a) (nI n)) w (nI k) m' = some (nI n, m'') ∧ EqX [13] m m'' ∧ ∀ q, m'' 13 q = if 40 * i + a ≤ q ∧ q < 40 * i + a + n then m 14 (q - (40 * i + a)) else m 13 q := by
    intro r
    induction r with
    | zero =>
      intro w k m' hk hw hE hz
      obtain ⟨w, rfl⟩ : ∃ z, w = z + 1 := ⟨w - 1, by omega⟩
      have hk' : k = n := by omega
      subst hk'
      rw [xloop_s]
      generalize xloop (sX9_move_L165 (nI i) (nI a) (nI k)) w = self
      simp only [sX9_move_L165]
      rw [if_pos (Int32.le_refl _)]
      exact ⟨m', rfl, hE, hz⟩
    | succ r ih =>
      intro w k m' hk hw hE hz
      obtain ⟨w, rfl⟩ : ∃ z, w = z + 1 := ⟨w - 1, by omega⟩
      have hx : xin (nI k) 40 := xin_n (by omega) (by omega)
      have ea : (40 : Int32) * nI i + nI a + nI k = nI (40 * i + a + k) := by rw [e40, nI_add]
      have hx2 : xin (nI (40 * i + a + k)) 160 := xin_n (by omega) (by omega)
      have hi1 := fun m' => ih w (k + 1) m' (by omega) (by omega)
      rw [xloop_s]
      generalize xloop (sX9_move_L165 (nI i) (nI a) (nI n)) w = self at hi1 ⊢
      simp only [sX9_move_L165, xlet_e, ea, if_pos hx, if_pos hx2]
      rw [if_neg (nI_ge (show k < n by omega) (by omega)), nI_N (by omega), nI_N (by omega), nI_s]
      refine hi1 _ (hE.up _ (by simp)) (fun q => ?_)
      rw [xup_s]
      by_cases e : q = 40 * i + a + k
      · subst e
        rw [upd_s, if_pos (by omega), hE 14 (by simp), show 40 * i + a + k - (40 * i + a) = k by omega]
      · rw [upd_n _ _ e, hz q]
        by_cases q1 : 40 * i + a ≤ q ∧ q < 40 * i + a + k
        · rw [if_pos q1, if_pos (by omega)]
        · rw [if_neg q1, if_neg (by omega)]
  exact key n xF 0 m (by omega) (by rw [xF_eq]; omega) (EqX.rf _ _) (fun q => by rw [if_neg (by omega)])
theorem zX9_move1 (m : xS) {i a i2 a2 n : Nat} (hi : i < 4) (h40 : a + n ≤ 40) (hi2 : i2 < 4) (h42 : a2 + n ≤ 40) : ∃ m', xloop (sX9_move_L128 (nI i) (nI a) (nI i2) (nI a2) (nI n)) xF 0 m = some (nI n, m') ∧ EqX [13, 14] m m' ∧ ∀ q, m' 13 q = if 40 * i2 + a2 ≤ q ∧ q < 40 * i2 + a2 + n then m 13 (40 * i + a + (q - (40 * i2 + a2))) else m 13 q := by
  have key : ∀ (r w k : Nat) (m' : xS), k + r = n → r < w → EqX [14] m m' → (∀ q, q < k → m' 14 q = m 13 (40 * i + a + q)) → ∃ m'', xloop (sX9_move_L128 (nI i) (nI a) (nI i2) (nI a2) (nI n)) w (nI k) m' = some (nI n, m'') ∧ EqX [13, 14] m m'' ∧ ∀ q, m'' 13 q = if 40 * i2 + a2 ≤ q ∧ q < 40 * i2 + a2 + n then m 13 (40 * i + a + (q - (40 * i2 + a2))) else m 13 q := by
    intro r
    induction r with
    | zero =>
      intro w k m' hk hw hE hz
      obtain ⟨w, rfl⟩ : ∃ z, w = z + 1 := ⟨w - 1, by omega⟩
      have hk' : k = n := by omega
      subst hk'
      rw [xloop_s]
      generalize xloop (sX9_move_L128 (nI i) (nI a) (nI i2) (nI a2) (nI k)) w = self
      obtain ⟨m2, g1, g2, g3⟩ := zX9_move2 m' hi2 h42 (nI i2) (nI a2) (nI k) rfl rfl rfl
      simp only [sX9_move_L128]
      rw [if_pos (Int32.le_refl _), g1]
      refine ⟨m2, rfl, (hE.mono (by simp)).tr (g2.mono (by simp)), fun q => ?_⟩
      rw [g3 q, hE 13 (by simp)]
      by_cases q1 : 40 * i2 + a2 ≤ q ∧ q < 40 * i2 + a2 + k
      · rw [if_pos q1, if_pos q1, hz _ (by omega)]
      · rw [if_neg q1, if_neg q1]
    | succ r ih =>
      intro w k m' hk hw hE hz
      obtain ⟨w, rfl⟩ : ∃ z, w = z + 1 := ⟨w - 1, by omega⟩
      have hx : xin (nI k) 40 := xin_n (by omega) (by omega)
      have ea : (40 : Int32) * nI i + nI a + nI k = nI (40 * i + a + k) := by rw [e40, nI_add]
      have hx2 : xin (nI (40 * i + a + k)) 160 := xin_n (by omega) (by omega)
      have hi1 := fun m' => ih w (k + 1) m' (by omega) (by omega)
      rw [xloop_s]
      generalize xloop (sX9_move_L128 (nI i) (nI a) (nI i2) (nI a2) (nI n)) w = self at hi1 ⊢
      simp only [sX9_move_L128, xlet_e, ea, if_pos hx, if_pos hx2]
      rw [if_neg (nI_ge (show k < n by omega) (by omega)), nI_N (by omega), nI_N (by omega), nI_s]
      refine hi1 _ (hE.up _ (by simp)) (fun q hq => ?_)
      rw [xup_s]
      by_cases e : q = k
      · subst e; rw [upd_s, hE 13 (by simp)]
      · rw [upd_n _ _ e]; exact hz q (by omega)
  exact key n xF 0 m (by omega) (by rw [xF_eq]; omega) (EqX.rf _ _) (fun q hq => absurd hq (Nat.not_lt_zero q))
theorem op_move (p a p2 a2 n : Int32) : OpR (sX8_move p a p2 a2 n) (sX9_move p a p2 a2 n) := by
  intro c m h
  unfold sX8_move sX9_move sX8_move_L100 sX8_move_L52 sX8_move_L14 sX9_move_L118 sX9_move_L39 sX9_move_L14
  simp only [zX8_isSheet, zX9_isSheet, xb_s, bif0, fC1, fM1, fC2, fM2, fC5, fM5, xlet_e]
  by_cases h1 : 0 ≤ p ∧ p ≤ 3
  · rw [if_pos h1, if_pos h1]
    by_cases h2 : 0 ≤ p2 ∧ p2 ≤ 3
    · rw [if_pos h2, if_pos h2]
      obtain ⟨i, hi, rfl⟩ := inN (n := 4) h1 (by decide)
      obtain ⟨i2, hi2, rfl⟩ := inN (n := 4) h2 (by decide)
      have hx : xin (nI i) 4 := xin_n hi (by omega)
      have hx2 : xin (nI i2) 4 := xin_n hi2 (by omega)
      obtain ⟨s1, s2, s3, s4, s5⟩ := h.2.2.2.2.1 i hi
      obtain ⟨t1, t2, t3, t4, t5⟩ := h.2.2.2.2.1 i2 hi2
      simp only [if_pos hx, if_pos hx2]
      rw [nI_N (by omega), nI_N (by omega), zX6_isMissing h hi, xb_s, bif0]
      by_cases h3 : m 11 i = 0
      · rw [if_pos h3, if_pos h3]
        exact errR h (by decide) _ rfl rfl
      · rw [if_neg h3, if_neg h3, zX6_isMissing h hi2, xb_s, bif0]
        by_cases h4 : m 11 i2 = 0
        · rw [if_pos h4, if_pos h4]
          exact errR h (by decide) _ rfl rfl
        · rw [if_neg h4, if_neg h4, s1, t1]
          by_cases h5 : m 11 i = m 11 i2
          · rw [if_pos h5, if_pos h5]
            obtain ⟨l, hl, el⟩ := nI_ex (n := 41) s5.1 (by omega)
            obtain ⟨l2, hl2, el2⟩ := nI_ex (n := 41) t5.1 (by omega)
            rw [zX6_holds hl (by rw [s2, el]), xb_s, bif0, zX6_holds hl2 (by rw [t2, el2]), xb_s, bif0]
            have hz : (0 : Int32).toInt = 0 := rfl
            have neg : ∀ x : Int32, (x < 0) = (x.toInt < 0) := fun x => propext i_lt
            have c1 : (0 < lg_cmp (a.toInt64 + n.toInt64) ((m 12 i).toInt64)) = ((l : Int) < a.toInt + n.toInt) := by
              rw [propext (lg_cmp_gt _ _), propext i64_lt, i64_add, i64, el, i_nI (by omega)]
            have c2 : (lg_cmp (a2.toInt64 + n.toInt64) ((m 12 i2).toInt64) ≤ 0) = (a2.toInt + n.toInt ≤ (l2 : Int)) := by
              rw [propext (lg_cmp_le _ _), propext i64_le, i64_add, i64, el2, i_nI (by omega)]
            simp only [neg, c1, c2]
            by_cases g0 : n.toInt < 0
            · rw [if_pos g0, if_neg (by omega)]
              exact errR h (by decide) _ rfl rfl
            · rw [if_neg g0]
              by_cases g1 : a.toInt < 0
              · rw [if_pos g1, if_neg (by omega)]
                exact errR h (by decide) _ rfl rfl
              · rw [if_neg g1]
                by_cases g2 : a2.toInt < 0
                · rw [if_pos g2]
                  by_cases g3 : 0 ≤ a.toInt ∧ 0 ≤ n.toInt ∧ a.toInt + n.toInt ≤ (l : Int)
                  · rw [if_pos g3, if_neg (by omega)]
                    exact errR h (by decide) _ rfl rfl
                  · rw [if_neg g3]
                    exact errR h (by decide) _ rfl rfl
                · rw [if_neg g2]
                  by_cases g3 : (l : Int) < a.toInt + n.toInt
                  · rw [if_pos g3, if_neg (by omega)]
                    exact errR h (by decide) _ rfl rfl
                  · rw [if_neg g3, if_pos (by omega)]
                    by_cases g4 : a2.toInt + n.toInt ≤ (l2 : Int)
                    · rw [if_pos g4, if_pos (by omega), if_pos (by omega)]
                      obtain ⟨A, hA, rfl⟩ := nI_ex (x := a) (n := 41) (by omega) (by omega)
                      obtain ⟨A2, hA2, rfl⟩ := nI_ex (x := a2) (n := 41) (by omega) (by omega)
                      obtain ⟨n, hn, rfl⟩ := nI_ex (x := n) (n := 41) (by omega) (by omega)
                      rw [i_nI (by omega), i_nI (by omega)] at g3 g4
                      obtain ⟨m', k1, k2, k3⟩ := zX9_move1 m (i := i) (a := A) (i2 := i2) (a2 := A2) (n := n) hi (by omega) hi2 (by omega)
                      rw [nI_N (by omega), nI_N (by omega), nI_N (by omega)]
                      refine ⟨nI n, _, m', rfl, k1, h.sht ((EqX.rf _ _).up _ (by simp; omega)) (k2.mono (by simp)) (fun j hj => ?_)⟩
                      obtain ⟨a1, a2, a3, a4, a5⟩ := h.2.2.2.2.1 j hj
                      refine ⟨by rw [xup_n _ _ (by omega), k2 11 (by simp)]; exact a1, by rw [xup_n _ _ (by omega), k2 12 (by simp)]; exact a2, fun t ht => ?_, by rw [k2 11 (by simp)]; exact a4, by rw [k2 12 (by simp)]; exact a5⟩
                      rw [k3]
                      by_cases e : j = i2
                      · subst e
                        rw [xup_s]
                        by_cases q : A2 ≤ t ∧ t < A2 + n
                        · rw [pk_cpy_in q.1 q.2, if_pos (by omega), s3 _ (by omega), show 40 * i + A + (40 * j + t - (40 * j + A2)) = 40 * i + (A + (t - A2)) by omega]
                        · rw [pk_cpy_out (by omega), if_neg (by omega)]
                          exact a3 t ht
                      · rw [xup_n _ _ (by omega), if_neg (by omega)]
                        exact a3 t ht
                    · rw [if_neg g4, if_neg (by omega)]
                      exact errR h (by decide) _ rfl rfl
          · rw [if_neg h5, if_neg h5]
            exact errR h (by decide) _ rfl rfl
    · rw [if_neg h2, if_neg h2]
      exact errR h (by decide) _ rfl rfl
  · rw [if_neg h1, if_neg h1]
    exact errR h (by decide) _ rfl rfl
