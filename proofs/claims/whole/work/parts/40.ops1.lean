/-! ===== acts that read depths ===== -/
theorem Rel.V {c m : xS} (h : Rel c m) : VN (m 1) := h.1.2.2.2.2.1
theorem Rel.B {c m : xS} (h : Rel c m) : BayR c 1 (m 1) := h.1.1
theorem Rel.L {c m : xS} (h : Rel c m) : LensR c 1 (m 1) := h.1.2.1
theorem Rel.F {c m : xS} (h : Rel c m) : FleetR c 21 (m 1) := h.1.2.2.1
theorem Rel.D {c m : xS} (h : Rel c m) : DeskR c 39 (m 1) := h.1.2.2.2.1
theorem bandsI {a b c : Prop} [Decidable a] [Decidable b] [Decidable c] {β : Type} (A B : β) : (if a then (if b then A else B) else B) = if a ∧ b then A else B := by
  by_cases h1 : a
  · by_cases h2 : b
    · rw [if_pos h1, if_pos h2, if_pos ⟨h1, h2⟩]
    · rw [if_pos h1, if_neg h2, if_neg (fun q => h2 q.2)]
  · rw [if_neg h1, if_neg (fun q => h1 q.1)]
/-- a depth on both sides -/
theorem depB {c m : xS} (h : Rel c m) {i : Nat} (hi : i < 8) {y : Int32} (hy : y.toInt < 1000) : ∃ c' m', sX0_depthIn 1 (nI i) y c = some (dep (m 1) i y, c') ∧ sX9_depthIn (nI i) y m = some (dep (m 1) i y, m') ∧ EqX [7, 10] c c' ∧ EqX [5, 8, 9] m m' ∧ Rel c' m' := by
  have hV := h.V.H
  obtain ⟨c', g1, e1⟩ := zX0_depthIn h.B hV.2.2.2.2.1 hi y
  obtain ⟨m', g2, e2, hc⟩ := zX9_depthIn hV.2.2.2.2.1 h.2.1 hi hy
  exact ⟨c', m', g1, g2, e1, e2, (h.scrC (e1.mono (by unfold LSC; simp))).scrM (e2.mono (by unfold LSM; simp)) hc⟩
theorem yr_ok {c m : xS} (h : Rel c m) : (m 1 3).toInt < 1000 := by have := h.V.2.2.1; omega
theorem op_depth (p q : Int32) : OpR (sX8_depth p q) (sX9_depth p q) := by
  intro c m h
  unfold sX8_depth sX9_depth sX8_depth_L20 sX9_depth_L29
  rw [zX8_isCell, zX9_isCell, xb_s, xb_s, h.B.1]
  simp only [zX8_within, zX9_within, xb_s, bif0, fC1, fM1]
  by_cases h1 : 0 ≤ p ∧ p ≤ m 1 1 - 1
  · rw [if_pos h1, if_pos h1]
    by_cases h2 : -99 ≤ q ∧ q ≤ 999
    · rw [if_pos h2, if_pos h2]
      obtain ⟨i, hi, rfl⟩ := inCell h.V.H h1
      have hq : q.toInt < 1000 := by have h3 := h2.2; rw [i_le] at h3; have : (999 : Int32).toInt = 999 := rfl; omega
      obtain ⟨c', m', g1, g2, -, -, hR⟩ := depB h (show i < 8 by have := h.V.H.c8; omega) hq
      exact ⟨_, c', m', by rw [g1, xb_s], by rw [g2, xb_s], hR⟩
    · rw [if_neg h2, if_neg h2]
      exact errR h (by decide) _ rfl rfl
  · rw [if_neg h1, if_neg h1]
    exact errR h (by decide) _ rfl rfl
theorem op_deep (p q : Int32) : OpR (sX8_deep p q) (sX9_deep p q) := by
  intro c m h
  unfold sX8_deep sX9_deep sX8_deep_L18 sX9_deep_L18
  rw [zX8_isCell, zX9_isCell, xb_s, xb_s, h.B.1]
  simp only [zX8_within, zX9_within, xb_s, bif0, fC1, fM1]
  by_cases h1 : 0 ≤ p ∧ p ≤ m 1 1 - 1
  · rw [if_pos h1, if_pos h1]
    by_cases h2 : 0 ≤ q ∧ q ≤ 19
    · rw [if_pos h2, if_pos h2]
      obtain ⟨i, hi, rfl⟩ := inCell h.V.H h1
      have hi8 : i < 8 := by have := h.V.H.c8; omega
      have key : ∀ (r n1 n2 a : Nat) (c m : xS), Rel c m → a + r = 100 → r < n1 → r < n2 → ∃ w c' m', xloop (sX8_deep_L26 (nI i) q) n1 (nI a) c = some (w, c') ∧ xloop (sX9_deep_L27 (nI i) q) n2 (nI a) m = some (w, m') ∧ Rel c' m' := by
        intro r
        induction r with
        | zero =>
          intro n1 n2 a c m h ha hn1 hn2
          obtain ⟨n1, rfl⟩ : ∃ z, n1 = z + 1 := ⟨n1 - 1, by omega⟩
          obtain ⟨n2, rfl⟩ : ∃ z, n2 = z + 1 := ⟨n2 - 1, by omega⟩
          have ha' : a = 100 := by omega
          subst ha'
          rw [xloop_s, xloop_s]
          simp only [sX8_deep_L26, sX9_deep_L27, sX9_deep_L56]
          rw [if_pos (by decide), if_pos (by decide), if_neg (by decide), fC2, fM2]
          exact errR h (by decide) _ rfl rfl
        | succ r ih =>
          intro n1 n2 a c m h ha hn1 hn2
          obtain ⟨n1, rfl⟩ : ∃ z, n1 = z + 1 := ⟨n1 - 1, by omega⟩
          obtain ⟨n2, rfl⟩ : ∃ z, n2 = z + 1 := ⟨n2 - 1, by omega⟩
          have h99 : ¬ (99 : Int32) < nI a := by rw [i_lt, i_nI (by omega)]; show ¬ (99 : Int) < _; omega
          have h99' : nI a ≤ (99 : Int32) := by rw [i_le, i_nI (by omega)]; show _ ≤ (99 : Int); omega
          have hy : (m 1 3 - nI a).toInt < 1000 := by
            have := h.V.2.2.1
            rw [yr_sub this (by rw [i_nI (by omega)]; omega), i_nI (by omega)]; omega
          obtain ⟨c', m', g1, g2, -, -, hR⟩ := depB h hi8 hy
          rw [xloop_s, xloop_s]
          simp only [sX8_deep_L26, sX9_deep_L27, sX9_deep_L56, xlet_e]
          rw [if_neg h99, if_neg h99, h.B.2.1, g1, g2, xb_s, xb_s, if_pos h99', nI_s]
          by_cases h3 : dep (m 1) i (m 1 3 - nI a) < q
          · have h3' : ¬ q ≤ dep (m 1) i (m 1 3 - nI a) := by rw [i_le]; rw [i_lt] at h3; omega
            rw [if_pos h3, if_neg h3']
            exact ih n1 n2 (a + 1) c' m' hR (by omega) (by omega) (by omega)
          · have h3' : q ≤ dep (m 1) i (m 1 3 - nI a) := by rw [i_le]; rw [i_lt] at h3; omega
            rw [if_neg h3, if_pos h3']
            exact ⟨_, c', m', rfl, rfl, hR⟩
      exact key 100 xF xF 0 c m h rfl (by rw [xF_eq]; omega) (by rw [xF_eq]; omega)
    · rw [if_neg h2, if_neg h2]
      exact errR h (by decide) _ rfl rfl
  · rw [if_neg h1, if_neg h1]
    exact errR h (by decide) _ rfl rfl
/-- how many cells are false by a setting -/
def falseN (N : Row) (bk : Int32) : Nat := cntN (fun j => decide (¬ dep N j (N 3 - bk) = dep N j (N 3))) (cellsN N)
theorem zX1_countFalse {c : xS} {N : Row} {bk : Int32} (hV : VH N) (h1 : c 45 1 = N 1) (hD : DrawnR c N bk (cellsN N)) : sX1_countFalse c = some (nI (falseN N bk), c) := by
  have hc8 := hV.c8
  have key : ∀ (r n k : Nat), k + r = cellsN N → r < n → xloop sX1_countFalse_L4 n (nI (cntN (fun j => decide (¬ dep N j (N 3 - bk) = dep N j (N 3))) k), nI k) c = some (nI (falseN N bk), c) := by
    intro r
    induction r with
    | zero =>
      intro n k hk hn
      obtain ⟨n, rfl⟩ : ∃ z, n = z + 1 := ⟨n - 1, by omega⟩
      have hk' : k = cellsN N := by omega
      subst hk'
      rw [xloop_s]
      simp only [sX1_countFalse_L4]
      rw [h1, hV.cI, if_pos (Int32.le_refl _)]
      rfl
    | succ r ih =>
      intro n k hk hn
      obtain ⟨n, rfl⟩ : ∃ z, n = z + 1 := ⟨n - 1, by omega⟩
      have hx : xin (nI k) 8 := xin_n (by omega) (by omega)
      obtain ⟨d1, d2, -⟩ := hD k (by omega)
      have hs := cntN_s (fun j => decide (¬ dep N j (N 3 - bk) = dep N j (N 3))) k
      have hi := ih n (k + 1) (by omega) (by omega)
      rw [xloop_s]
      simp only [sX1_countFalse_L4, sX1_countFalse_L30, xlet_e, if_pos hx]
      rw [h1, hV.cI, if_neg (nI_ge (show k < cellsN N by omega) (by omega)), nI_N (by omega), d1, d2, nI_s, nI_s]
      by_cases h2 : dep N k (N 3 - bk) = dep N k (N 3)
      · rw [if_pos h2]
        rw [if_neg (by simp [h2])] at hs
        rw [hs] at hi
        exact hi
      · rw [if_neg h2]
        rw [if_pos (by simp [h2])] at hs
        rw [hs] at hi
        exact hi
  exact key (cellsN N) xF 0 (by omega) (by rw [xF_eq]; omega)
theorem zX9_falseBy {m : xS} (hV : VH (m 1)) (hc : cacheOk m) {bk : Int32} (hy : yrOk (m 1) bk) : ∃ m', sX9_falseBy bk m = some (nI (falseN (m 1) bk), m') ∧ EqX [5, 8, 9] m m' ∧ cacheOk m' := by
  have hc8 := hV.c8
  have key : ∀ (r n k : Nat) (m' : xS), k + r = cellsN (m 1) → r < n → EqX [5, 8, 9] m m' → cacheOk m' → ∃ m'', xloop (sX9_falseBy_L4 bk) n (nI (cntN (fun j => decide (¬ dep (m 1) j (m 1 3 - bk) = dep (m 1) j (m 1 3))) k), nI k) m' = some (nI (falseN (m 1) bk), m'') ∧ EqX [5, 8, 9] m m'' ∧ cacheOk m'' := by
    intro r
    induction r with
    | zero =>
      intro n k m' hk hn hE hc'
      obtain ⟨n, rfl⟩ : ∃ z, n = z + 1 := ⟨n - 1, by omega⟩
      have hk' : k = cellsN (m 1) := by omega
      subst hk'
      rw [xloop_s]
      simp only [sX9_falseBy_L4]
      rw [hE 1 (by simp), hV.cI, if_pos (Int32.le_refl _)]
      exact ⟨m', rfl, hE, hc'⟩
    | succ r ih =>
      intro n k m' hk hn hE hc'
      obtain ⟨n, rfl⟩ : ∃ z, n = z + 1 := ⟨n - 1, by omega⟩
      have e1 : m' 1 = m 1 := hE 1 (by simp)
      obtain ⟨m1, g1, k1, q1⟩ := zX9_depthIn (m := m') (by rw [e1]; exact hV.2.2.2.2.1) hc' (show k < 8 by omega) (y := m 1 3 - bk) hy.2
      have e2 : m1 1 = m 1 := by rw [k1 1 (by simp), e1]
      obtain ⟨m2, g2, k2, q2⟩ := zX9_trueDepth (m := m1) (by rw [e2]; exact hV.2.2.2.2.1) q1 (show k < 8 by omega) (by rw [e2]; exact hy.1)
      rw [e1] at g1
      rw [e2] at g2
      have hs := cntN_s (fun j => decide (¬ dep (m 1) j (m 1 3 - bk) = dep (m 1) j (m 1 3))) k
      have hi := ih n (k + 1) m2 (by omega) (by omega) ((hE.tr k1).tr k2) q2
      rw [xloop_s]
      simp only [sX9_falseBy_L4, sX9_falseBy_L41, xlet_e]
      rw [e1, hV.cI, if_neg (nI_ge (show k < cellsN (m 1) by omega) (by omega)), g1, xb_s, g2, xb_s, nI_s]
      by_cases h2 : dep (m 1) k (m 1 3 - bk) = dep (m 1) k (m 1 3)
      · rw [if_pos h2]
        rw [if_neg (by simp [h2])] at hs
        rw [hs] at hi
        rw [show nI (cntN (fun j => decide (¬ dep (m 1) j (m 1 3 - bk) = dep (m 1) j (m 1 3))) k) + 0 = nI (cntN (fun j => decide (¬ dep (m 1) j (m 1 3 - bk) = dep (m 1) j (m 1 3))) k) from nI_add _ 0]
        exact hi
      · rw [if_neg h2, nI_s]
        rw [if_pos (by simp [h2])] at hs
        rw [hs] at hi
        exact hi
  exact key (cellsN (m 1)) xF 0 m (by omega) (by rw [xF_eq]; omega) (EqX.rf _ m) hc
theorem falseN_le {N : Row} (hV : VH N) (bk : Int32) : falseN N bk ≤ 8 := by
  have h1 := cntN_le (fun j => decide (¬ dep N j (N 3 - bk) = dep N j (N 3))) (cellsN N)
  have h2 := hV.c8
  unfold falseN
  omega
theorem op_leastFalse (p : Int32) : OpR (sX8_leastFalse p) (sX9_leastFalse p) := by
  intro c m h
  unfold sX8_leastFalse sX9_leastFalse
  simp only [zX8_within, zX9_within, xb_s, bif0, fC1, fM1]
  by_cases h1 : 0 ≤ p ∧ p ≤ 1
  · rw [if_pos h1, if_pos h1]
    have drw : ∀ (c m : xS), Rel c m → ∀ b : Nat, b < 100 → ∃ c', (∀ k : Unit → xS → Option (Int32 × xS), xbind (sX1_draw 1 (nI b) c) k = k () c') ∧ sX1_countFalse c' = some (nI (falseN (m 1) (nI b)), c') ∧ Rel c' m := by
      intro c m h b hb
      obtain ⟨c', g1, e1, -, g2, g3⟩ := zX1_draw (nI b) h.B h.V.H
      exact ⟨c', fun k => by rw [g1, xb_s], zX1_countFalse h.V.H g2 g3, h.scrC (e1.mono (by unfold LC LSC; simp))⟩
    have fb : ∀ (c m : xS), Rel c m → ∀ b : Nat, b < 100 → ∃ m', sX9_falseBy (nI b) m = some (nI (falseN (m 1) (nI b)), m') ∧ m' 1 = m 1 ∧ Rel c m' := by
      intro c m h b hb
      obtain ⟨m', g1, e1, g2⟩ := zX9_falseBy (bk := nI b) h.V.H h.2.1 (yrOk_of h.V.2.2.1 (by rw [i_nI (by omega)]; omega))
      exact ⟨m', g1, e1 1 (by simp), h.scrM (e1.mono (by unfold LSM; simp)) g2⟩
    have key : ∀ (r n1 n2 b best : Nat) (c m : xS), Rel c m → b + r = 100 → best < 100 → r < n1 → r < n2 → ∃ w c' m', xloop (sX8_leastFalse_L23 p) n1 (nI best, nI (falseN (m 1) (nI best)), nI b) c = some (w, c') ∧ xloop (sX9_leastFalse_L20 p) n2 (nI best, nI b) m = some (w, m') ∧ Rel c' m' := by
      intro r
      induction r with
      | zero =>
        intro n1 n2 b best c m h hb hbest hn1 hn2
        obtain ⟨n1, rfl⟩ : ∃ z, n1 = z + 1 := ⟨n1 - 1, by omega⟩
        obtain ⟨n2, rfl⟩ : ∃ z, n2 = z + 1 := ⟨n2 - 1, by omega⟩
        have hb' : b = 100 := by omega
        subst hb'
        rw [xloop_s, xloop_s]
        simp only [sX8_leastFalse_L23, sX9_leastFalse_L20, xlet_e]
        rw [if_pos (show (99 : Int32) < nI 100 by decide), if_pos (show (99 : Int32) < nI 100 by decide)]
        by_cases h2 : p = 0
        · rw [if_pos h2, if_pos h2]
          exact ⟨_, c, m, rfl, rfl, h⟩
        · rw [if_neg h2, if_neg h2]
          obtain ⟨m', g1, -, hR⟩ := fb c m h best hbest
          exact ⟨_, c, m', rfl, by rw [g1, xb_s], hR⟩
      | succ r ih =>
        intro n1 n2 b best c m h hb hbest hn1 hn2
        obtain ⟨n1, rfl⟩ : ∃ z, n1 = z + 1 := ⟨n1 - 1, by omega⟩
        obtain ⟨n2, rfl⟩ : ∃ z, n2 = z + 1 := ⟨n2 - 1, by omega⟩
        have h99 : ¬ (99 : Int32) < nI b := by rw [i_lt, i_nI (by omega)]; show ¬ (99 : Int) < _; omega
        obtain ⟨c1, g1, g2, hR1⟩ := drw c m h b (by omega)
        obtain ⟨m1, g3, e3, hR2⟩ := fb c1 m hR1 b (by omega)
        obtain ⟨m2, g4, e4, hR3⟩ := fb c1 m1 hR2 best hbest
        rw [e3] at g4 e4
        have l1 := falseN_le h.V.H (nI b)
        have l2 := falseN_le h.V.H (nI best)
        rw [xloop_s, xloop_s]
        simp only [sX8_leastFalse_L23, sX8_leastFalse_L64, sX9_leastFalse_L20, sX9_leastFalse_L44, xlet_e]
        rw [if_neg h99, if_neg h99, g1, g2, xb_s, g3, xb_s, g4, xb_s, nI_s]
        by_cases h2 : nI (falseN (m 1) (nI best)) ≤ nI (falseN (m 1) (nI b))
        · rw [if_pos h2, if_pos h2]
          have := ih n1 n2 (b + 1) best c1 m2 hR3 (by omega) hbest (by omega) (by omega)
          rw [e4] at this
          exact this
        · rw [if_neg h2, if_neg h2]
          have := ih n1 n2 (b + 1) b c1 m2 hR3 (by omega) (by omega) (by omega) (by omega)
          rw [e4] at this
          exact this
    obtain ⟨c1, g1, g2, hR1⟩ := drw c m h 1 (by omega)
    obtain ⟨n1, hn1⟩ : ∃ z, xF = z + 1 := ⟨99999, xF_eq⟩
    obtain ⟨w, c', m', k1, k2, k3⟩ := key 98 n1 xF 2 1 c1 m hR1 rfl (by omega) (by have := xF_eq; omega) (by rw [xF_eq]; omega)
    refine ⟨w, c', m', ?_, k2, k3⟩
    have l1 := falseN_le h.V.H (nI 1)
    rw [hn1, xloop_s]
    simp only [sX8_leastFalse_L23, sX8_leastFalse_L64, xlet_e]
    have g1' := g1
    rw [if_neg (by decide)]
    show xbind (sX1_draw 1 (nI 1) c) _ = _
    rw [g1, g2, xb_s, if_neg (by rw [i_le, i_nI (by omega)]; show ¬ (9 : Int) ≤ _; omega)]
    exact k1
  · rw [if_neg h1, if_neg h1]
    exact errR h (by decide) _ rfl rfl
theorem op_ofCell (p q : Int32) : OpR (sX8_ofCell p q) (sX9_ofCell p q) := by
  intro c m h
  unfold sX8_ofCell sX9_ofCell sX8_ofCell_L17 sX9_ofCell_L17
  rw [zX8_isCell, zX9_isCell, xb_s, xb_s, h.B.1]
  simp only [zX8_within, zX9_within, xb_s, bif0, fC1, fM1]
  by_cases h1 : 0 ≤ p ∧ p ≤ m 1 1 - 1
  · rw [if_pos h1, if_pos h1]
    by_cases h2 : 0 ≤ q ∧ q ≤ 5
    · rw [if_pos h2, if_pos h2]
      obtain ⟨i, hi, rfl⟩ := inCell h.V.H h1
      have hi8 : i < 8 := by have := h.V.H.c8; omega
      have hx : xin (nI i) 8 := xin_n hi8 (by omega)
      obtain ⟨j, hj, rfl⟩ := inN (n := 6) h2 (by decide)
      obtain ⟨b1, b2, b3⟩ := h.B.2.2.1 i hi8
      simp only [if_pos hx]
      rw [nI_N (by omega)]
      rcases (show j = 0 ∨ j = 1 ∨ j = 2 ∨ j = 3 ∨ j = 4 ∨ j = 5 by omega) with rfl | rfl | rfl | rfl | rfl | rfl
      · refine ⟨m 1 (9 + 3 * i), c, m, ?_, ?_, h⟩
        · rw [if_pos (show nI 0 = 0 from rfl), ← b1]
        · rw [if_neg (show ¬ (3 : Int32) ≤ nI 0 by decide), zX9_cellIs hi8 (by omega), xb_s, Nat.add_zero]
      · refine ⟨m 1 (10 + 3 * i), c, m, ?_, ?_, h⟩
        · rw [if_neg (show ¬ nI 1 = 0 by decide), if_pos (show nI 1 = 1 from rfl), ← b2]
        · rw [if_neg (show ¬ (3 : Int32) ≤ nI 1 by decide), zX9_cellIs hi8 (by omega), xb_s, show 9 + 3 * i + 1 = 10 + 3 * i by omega]
      · refine ⟨m 1 (11 + 3 * i), c, m, ?_, ?_, h⟩
        · rw [if_neg (show ¬ nI 2 = 0 by decide), if_neg (show ¬ nI 2 = 1 by decide), if_pos (show nI 2 = 2 from rfl), ← b3]
        · rw [if_neg (show ¬ (3 : Int32) ≤ nI 2 by decide), zX9_cellIs hi8 (by omega), xb_s, show 9 + 3 * i + 2 = 11 + 3 * i by omega]
      · obtain ⟨c', m', g1, g2, -, -, hR⟩ := depB h hi8 (yr_ok h)
        refine ⟨dep (m 1) i (m 1 3), c', m', ?_, ?_, hR⟩
        · rw [if_neg (show ¬ nI 3 = 0 by decide), if_neg (show ¬ nI 3 = 1 by decide), if_neg (show ¬ nI 3 = 2 by decide), if_pos (show nI 3 = 3 from rfl), h.B.2.1, g1, xb_s]
        · rw [if_pos (show (3 : Int32) ≤ nI 3 by decide), if_pos (show nI 3 = 3 from rfl)]
          unfold sX9_trueDepth
          rw [g2, xb_s, xb_s]
      · obtain ⟨c', g1, e1⟩ := zX0_shownBy h.B h.V.H.2.2.2.2.1 h.L.2 hi8 (m 1 4)
        obtain ⟨m', g2, e2, hc⟩ := zX9_shown h.V.H.2.2.2.2.1 h.2.1 hi8 (bk := m 1 4) h.V.H.2.2.1
        refine ⟨shw (m 1) (m 1 4) i, c', m', ?_, ?_, (h.scrC (e1.mono (by unfold LSC; simp))).scrM (e2.mono (by unfold LSM; simp)) hc⟩
        · rw [if_neg (show ¬ nI 4 = 0 by decide), if_neg (show ¬ nI 4 = 1 by decide), if_neg (show ¬ nI 4 = 2 by decide), if_neg (show ¬ nI 4 = 3 by decide), if_pos (show nI 4 = 4 from rfl), h.L.1, g1, xb_s]
        · rw [if_pos (show (3 : Int32) ≤ nI 4 by decide), if_neg (show ¬ nI 4 = 3 by decide), if_pos (show nI 4 = 4 from rfl), g2, xb_s]
      · refine ⟨nI (atS (m 1) (nI i)), c, m, ?_, ?_, h⟩
        · rw [if_neg (show ¬ nI 5 = 0 by decide), if_neg (show ¬ nI 5 = 1 by decide), if_neg (show ¬ nI 5 = 2 by decide), if_neg (show ¬ nI 5 = 3 by decide), if_neg (show ¬ nI 5 = 4 by decide), zX3_setAt h.F h.V.H, xb_s]
        · rw [if_pos (show (3 : Int32) ≤ nI 5 by decide), if_neg (show ¬ nI 5 = 3 by decide), if_neg (show ¬ nI 5 = 4 by decide), zX9_shipsAt h.V.H, xb_s]
    · rw [if_neg h2, if_neg h2]
      exact errR h (by decide) _ rfl rfl
  · rw [if_neg h1, if_neg h1]
    exact errR h (by decide) _ rfl rfl
