/-! ===== what is shown and believed ===== -/
theorem i_sub1 {x : Int32} (h : 0 < x.toInt) : (x - 1).toInt = x.toInt - 1 := by
  have h1 := i_ub x
  exact i_sub (by show _ ≤ x.toInt - 1; omega) (by show x.toInt - 1 ≤ _; omega)
/-- years that an act asks for are below 1000 -/
def yrOk (N : Row) (bk : Int32) : Prop := (N 3).toInt < 1000 ∧ (N 3 - bk).toInt < 1000
theorem zX9_trueDepth {m : xS} (hv : VT (m 1) 0) (hc : cacheOk m) {i : Nat} (hi : i < 8) (hy : (m 1 3).toInt < 1000) : ∃ m', sX9_trueDepth (nI i) m = some (dep (m 1) i (m 1 3), m') ∧ EqX [5, 8, 9] m m' ∧ cacheOk m' := by
  obtain ⟨m', h, hE, hc'⟩ := zX9_depthIn hv hc hi hy
  refine ⟨m', ?_, hE, hc'⟩
  unfold sX9_trueDepth
  rw [h, xb_s]
theorem zX9_shown {m : xS} (hv : VT (m 1) 0) (hc : cacheOk m) {i : Nat} (hi : i < 8) {bk : Int32} (hy : yrOk (m 1) bk) : ∃ m', sX9_shown (nI i) bk m = some (shw (m 1) bk i, m') ∧ EqX [5, 8, 9] m m' ∧ cacheOk m' := by
  unfold sX9_shown
  simp only [sX9_shown_L32]
  rw [zX9_hasBit, xb_s, bif0]
  unfold shw
  by_cases h : hb (m 1 5) i
  · rw [if_pos h, if_pos h]
    obtain ⟨m', h', hE, hc'⟩ := zX9_depthIn hv hc hi hy.2
    exact ⟨m', by rw [h', xb_s], hE, hc'⟩
  · rw [if_neg h, if_neg h]
    obtain ⟨m', h', hE, hc'⟩ := zX9_depthIn hv hc hi hy.1
    exact ⟨m', by rw [h', xb_s], hE, hc'⟩
theorem zX0_shownBy {c : xS} {N : Row} (hB : BayR c 1 N) (hv : VT N 0) (h5 : c 1 3 = N 5) {i : Nat} (hi : i < 8) (bk : Int32) : ∃ c', sX0_shownBy 1 bk (nI i) c = some (shw N bk i, c') ∧ EqX [7, 10] c c' := by
  unfold sX0_shownBy
  simp only [xlet_e, sX0_shownBy_L26]
  rw [h5, zX8_has, xb_s, bif0, hB.2.1]
  obtain ⟨c', h', hE⟩ := zX0_depthIn hB hv hi (if hb (N 5) i then N 3 - bk else N 3)
  exact ⟨c', by rw [h', xb_s]; rfl, hE⟩
theorem bel_ag {N N' : Row} (h : agB N N') (h3 : N' 3 = N 3) (h4 : N' 4 = N 4) (h5 : N' 5 = N 5) {i : Nat} (hi : i < 8) (k m : Int32) : bel N' k m i = bel N k m i := by
  unfold bel shw
  rw [h3, h4, h5]
  simp only [dep_ag h hi]
theorem kind7 {k : Int32} (h : 0 ≤ k.toInt ∧ k.toInt ≤ 6) : k = 0 ∨ k = 1 ∨ k = 2 ∨ k = 3 ∨ k = 4 ∨ k = 5 ∨ k = 6 := by
  obtain ⟨j, hj, rfl⟩ := nI_ex (n := 7) h.1 (by omega)
  rcases (show j = 0 ∨ j = 1 ∨ j = 2 ∨ j = 3 ∨ j = 4 ∨ j = 5 ∨ j = 6 by omega) with rfl | rfl | rfl | rfl | rfl | rfl | rfl <;> decide
theorem zX1_believed {c : xS} {N : Row} (hC : ChartR c N) (hcells : cellsN N ≤ 8) {i : Nat} (hi : i < cellsN N) {k : Int32} (hk : 0 ≤ k.toInt ∧ k.toInt ≤ 6) (m : Int32) : sX1_believed k m (nI i) c = some (bel N k m i, c) := by
  obtain ⟨h0, -, hR⟩ := hC
  obtain ⟨ht, hp, ho⟩ := hR i hi
  have hx : xin (nI i) 8 := xin_n (by omega) (by omega)
  unfold sX1_believed
  simp only [xlet_e, sX1_believed_L34, sX1_believed_L130, if_pos hx]
  rw [h0, zX8_has, xb_s, nI_N (by omega), ht, hp, ho]
  simp only [bif0]
  unfold bel shw
  rcases kind7 hk with rfl | rfl | rfl | rfl | rfl | rfl | rfl <;> (by_cases hbit : hb (N 5) i) <;> (first | (simp [if_pos hbit]; done) | (simp [if_neg hbit]; done))
theorem zX9_believes {m : xS} (hv : VT (m 1) 0) (hc : cacheOk m) {s i : Nat} (hs : s < 7) (hi : i < 8) (hk : 0 ≤ (m 1 (33 + 5 * s)).toInt ∧ (m 1 (33 + 5 * s)).toInt ≤ 6) (hy : yrOk (m 1) (m 1 4)) (hy2 : yrOk (m 1) (2 * m 1 4)) :
    ∃ m', sX9_believes (nI s) (nI i) m = some (bel (m 1) (m 1 (33 + 5 * s)) (m 1 (34 + 5 * s)) i, m') ∧ EqX [5, 8, 9] m m' ∧ cacheOk m' := by
  obtain ⟨m1, h1, hE1, hc1⟩ := zX9_shown hv hc hi hy
  have e1 : m1 1 = m 1 := hE1 1 (by simp)
  have g1 : sX9_shipIs (nI s) 1 m1 = some (m 1 (34 + 5 * s), m1) := by
    have h := zX9_shipIs (f := 1) hs (by omega) m1
    rw [e1, show 33 + 5 * s + 1 = 34 + 5 * s by omega] at h
    exact h
  have g0 : sX9_shipIs (nI s) 0 m1 = some (m 1 (33 + 5 * s), m1) := by
    have h := zX9_shipIs (f := 0) hs (by omega) m1
    rw [e1] at h
    exact h
  obtain ⟨m2, h2, hE2, hc2⟩ := zX9_trueDepth (m := m1) (by rw [e1]; exact hv) hc1 hi (by rw [e1]; exact hy.1)
  rw [e1] at h2
  obtain ⟨m3, h3, hE3, hc3⟩ := zX9_shown (m := m1) (by rw [e1]; exact hv) hc1 hi (bk := 2 * m 1 4) (by rw [e1]; exact hy2)
  rw [e1] at h3
  have e3 : m3 1 = m 1 := by rw [hE3 1 (by simp), e1]
  obtain ⟨m4, h4, hE4, hc4⟩ := zX9_trueDepth (m := m3) (by rw [e3]; exact hv) hc3 hi (by rw [e3]; exact hy.1)
  rw [e3] at h4
  unfold sX9_believes
  rw [h1, xb_s, g1, xb_s, g0, xb_s]
  simp only [e1, h2, h3, xb_s, h4]
  unfold bel
  generalize m 1 (33 + 5 * s) = k at hk ⊢
  rcases kind7 hk with rfl | rfl | rfl | rfl | rfl | rfl | rfl
  · exact ⟨m1, by simp, hE1, hc1⟩
  · exact ⟨m1, by simp, hE1, hc1⟩
  · exact ⟨m2, by simp, hE1.tr hE2, hc2⟩
  · exact ⟨m2, by simp, hE1.tr hE2, hc2⟩
  · exact ⟨m1, by simp, hE1, hc1⟩
  · exact ⟨m2, by simp, hE1.tr hE2, hc2⟩
  · exact ⟨m4, by simp, (hE1.tr hE3).tr hE4, hc4⟩
/-! ===== a ship's hour ===== -/
/-- what an hour leaves -/
def agH (N N' : Row) : Prop := ∀ j, j ≠ 0 → (j < 33 ∨ 68 ≤ j) → N' j = N j
theorem agH.rf (N : Row) : agH N N := fun _ _ _ => rfl
theorem agH.tr {a b c : Row} (h1 : agH a b) (h2 : agH b c) : agH a c := fun j h0 hj => (h2 j h0 hj).trans (h1 j h0 hj)
theorem agH.B {N N' : Row} (h : agH N N') : agB N N' := ⟨fun j h1 h2 => h j (by omega) (Or.inl h2), fun j h1 => h j (by omega) (Or.inr (by omega))⟩
theorem agH.cells {N N' : Row} (h : agH N N') : cellsN N' = cellsN N := by unfold cellsN; rw [h 1 (by omega) (Or.inl (by omega))]
theorem agH.ships {N N' : Row} (h : agH N N') : shipsN N' = shipsN N := by unfold shipsN; rw [h 2 (by omega) (Or.inl (by omega))]
theorem sailR_ag (N : Row) {s : Nat} (hs : s < 7) : agH N (sailR N s) := by
  intro j h0 hj
  unfold sailR
  by_cases h1 : bel N (N (33 + 5 * s)) (N (34 + 5 * s)) (N (36 + 5 * s) - 1).toNatClampNeg < N (35 + 5 * s)
  · rw [if_pos h1]
    by_cases h2 : gv N 1 (N (35 + 5 * s)) (N (34 + 5 * s)) (N 0) = 1 ∧ N (36 + 5 * s) + 1 ≤ N 1 - 1
    · rw [if_pos h2, upd_n _ _ (by omega)]
    · rw [if_neg h2]
  · rw [if_neg h1, upd_n _ _ (by omega), upd_n _ _ (by omega)]
theorem hourL_ag (N : Row) : ∀ k, k ≤ 7 → agH N (hourL N k) := by
  intro k
  induction k with
  | zero => intro _; exact agH.rf N
  | succ k ih =>
    intro hk
    have h := ih (by omega)
    unfold hourL
    by_cases h1 : hourL N k (37 + 5 * k) = 0 ∧ ¬ hourL N k (36 + 5 * k) ≤ 0
    · rw [if_pos h1]; exact h.tr (sailR_ag _ (by omega))
    · rw [if_neg h1]; exact h
/-- the numbers of a SHIP that an HOUR may change are those of AT and LOST -/
theorem sailR_keep (N : Row) (s : Nat) {j : Nat} (h1 : j ≠ 36 + 5 * s) (h2 : j ≠ 37 + 5 * s) : sailR N s j = N j := by
  unfold sailR
  by_cases h3 : bel N (N (33 + 5 * s)) (N (34 + 5 * s)) (N (36 + 5 * s) - 1).toNatClampNeg < N (35 + 5 * s)
  · rw [if_pos h3]
    by_cases h4 : gv N 1 (N (35 + 5 * s)) (N (34 + 5 * s)) (N 0) = 1 ∧ N (36 + 5 * s) + 1 ≤ N 1 - 1
    · rw [if_pos h4, upd_n _ _ h1]
    · rw [if_neg h4]
  · rw [if_neg h3, upd_n _ _ h2, upd_n _ _ h1]
/-- what an hour needs of the row -/
def VH (N : Row) : Prop := (3 ≤ (N 1).toInt ∧ (N 1).toInt ≤ 8) ∧ (0 ≤ (N 2).toInt ∧ (N 2).toInt ≤ 7) ∧ yrOk N (N 4) ∧ yrOk N (2 * N 4) ∧ VT N 0 ∧ VT N 1 ∧
  ∀ j, j < 7 → (0 ≤ (N (33 + 5 * j)).toInt ∧ (N (33 + 5 * j)).toInt ≤ 6) ∧ (j < shipsN N → 0 ≤ (N (36 + 5 * j)).toInt ∧ (N (36 + 5 * j)).toInt < (N 1).toInt) ∧ (N (37 + 5 * j) = 0 ∨ N (37 + 5 * j) = 1)
theorem VH.c8 {N : Row} (h : VH N) : cellsN N ≤ 8 := by have := h.1; unfold cellsN; rw [i_N]; omega
theorem VH.cI {N : Row} (h : VH N) : N 1 = nI (cellsN N) := by have := h.1; exact i_of (by unfold cellsN; rw [i_N]; omega) (by unfold cellsN; rw [i_N]; omega)
theorem VH.s7 {N : Row} (h : VH N) : shipsN N ≤ 7 := by have := h.2.1; unfold shipsN; rw [i_N]; omega
theorem VH.sI {N : Row} (h : VH N) : N 2 = nI (shipsN N) := by have := h.2.1; exact i_of (by unfold shipsN; rw [i_N]; omega) (by unfold shipsN; rw [i_N]; omega)
theorem VH.at {N : Row} (h : VH N) {s : Nat} (hs : s < shipsN N) : ∃ i, i < cellsN N ∧ N (36 + 5 * s) = nI i := by
  have h7 := h.s7
  obtain ⟨-, h2, -⟩ := h.2.2.2.2.2.2 s (by omega)
  obtain ⟨h3, h4⟩ := h2 hs
  have h1 := h.1
  refine nI_ex h3 ?_
  unfold cellsN; rw [i_N]; omega
theorem VT_ag {N N' : Row} {u : Nat} (h : ∀ j, 138 ≤ j → N' j = N j) (hv : VT N u) : VT N' u := by
  have h1 : lenN N' u = lenN N u := by unfold lenN; rw [h _ (by omega)]
  have h2 : codeN N' u = codeN N u := by funext i; exact h _ (by omega)
  unfold VT
  rw [h1, h2, h _ (by omega)]
  exact hv
theorem VH.sail {N : Row} (h : VH N) {s : Nat} (hs : s < shipsN N) (hp : ¬ N (36 + 5 * s) ≤ 0) : VH (sailR N s) := by
  have h7 := h.s7
  have hag := sailR_ag N (show s < 7 by omega)
  obtain ⟨i, hi, he⟩ := h.at hs
  have hc8 := h.c8
  have hcI := h.cI
  have hi0 : 0 < i := by
    rcases Nat.eq_zero_or_pos i with q | q
    · exact absurd (by rw [he, q]; decide) hp
    · exact q
  have k1 := hag 1 (by omega) (Or.inl (by omega))
  have k2 := hag 2 (by omega) (Or.inl (by omega))
  have k3 := hag 3 (by omega) (Or.inl (by omega))
  have k4 := hag 4 (by omega) (Or.inl (by omega))
  obtain ⟨a1, a2, a3, a4, a5, a6, a7⟩ := h
  refine ⟨by rw [k1]; exact a1, by rw [k2]; exact a2, ?_, ?_, VT_ag hag.B.2 a5, VT_ag hag.B.2 a6, ?_⟩
  · unfold yrOk; rw [k3, k4]; exact a3
  · unfold yrOk; rw [k3, k4]; exact a4
  · intro j hj
    rw [hag.ships, k1]
    obtain ⟨b1, b2, b3⟩ := a7 j hj
    refine ⟨by rw [sailR_keep N s (by omega) (by omega)]; exact b1, fun hjs => ?_, ?_⟩
    · by_cases e : j = s
      · subst e
        unfold sailR
        split
        · split
          · rename_i _ q
            rw [upd_s, he, nI_s, i_nI (by omega)]
            obtain ⟨-, q2⟩ := q
            rw [he, nI_s, hcI, nI_d (by omega), nI_leI (by omega) (by omega)] at q2
            rw [hcI, i_nI (by omega)]
            omega
          · exact b2 hjs
        · rw [upd_n _ _ (by omega), upd_s, he, nI_d hi0, i_nI (by omega), hcI, i_nI (by omega)]
          omega
      · rw [sailR_keep N s (by omega) (by omega)]; exact b2 hjs
    · by_cases e : j = s
      · subst e
        unfold sailR
        split
        · split
          · rw [upd_n _ _ (by omega)]; exact b3
          · exact b3
        · rw [upd_s]
          split
          · exact Or.inl rfl
          · exact Or.inr rfl
      · rw [sailR_keep N s (by omega) (by omega)]; exact b3
theorem VH_hourL {N : Row} (h : VH N) : ∀ k, k ≤ shipsN N → VH (hourL N k) := by
  intro k
  induction k with
  | zero => intro _; exact h
  | succ k ih =>
    intro hk
    have h1 := ih (by omega)
    have h7 := h.s7
    have hag := hourL_ag N k (by omega)
    show VH (if hourL N k (37 + 5 * k) = 0 ∧ ¬ hourL N k (36 + 5 * k) ≤ 0 then sailR (hourL N k) k else hourL N k)
    split
    · rename_i q
      exact h1.sail (by rw [hag.ships]; omega) q.2
    · exact h1
theorem hourR_ag (N : Row) (h : shipsN N ≤ 7) : agH N (hourR N) := by
  intro j h0 hj
  unfold hourR
  rw [upd_n _ _ h0]
  exact hourL_ag N _ h j h0 hj
theorem VH.up0 {N : Row} (h : VH N) (x : Int32) : VH (upd N 0 x) := by
  have k : ∀ j, j ≠ 0 → upd N 0 x j = N j := fun j hj => upd_n _ _ hj
  have hs : shipsN (upd N 0 x) = shipsN N := by unfold shipsN; rw [k 2 (by omega)]
  obtain ⟨a1, a2, a3, a4, a5, a6, a7⟩ := h
  refine ⟨by rw [k 1 (by omega)]; exact a1, by rw [k 2 (by omega)]; exact a2, ?_, ?_, VT_ag (fun j hj => k j (by omega)) a5, VT_ag (fun j hj => k j (by omega)) a6, ?_⟩
  · unfold yrOk; rw [k 3 (by omega), k 4 (by omega)]; exact a3
  · unfold yrOk; rw [k 3 (by omega), k 4 (by omega)]; exact a4
  · intro j hj
    rw [k (33 + 5 * j) (by omega), k (36 + 5 * j) (by omega), k (37 + 5 * j) (by omega), k 1 (by omega), hs]
    exact a7 j hj
theorem VH_hourR {N : Row} (h : VH N) : VH (hourR N) := (VH_hourL h _ (Nat.le_refl _)).up0 _
theorem VH_hoursR {N : Row} (h : VH N) : ∀ k, VH (hoursR N k) := by
  intro k
  induction k with
  | zero => exact h
  | succ k ih => exact VH_hourR ih
theorem hoursR_ag {N : Row} (h : VH N) : ∀ k, agH N (hoursR N k) := by
  intro k
  induction k with
  | zero => exact agH.rf N
  | succ k ih => exact ih.tr (hourR_ag _ (VH_hoursR h k).s7)
theorem hoursR_s (N : Row) (k : Nat) : hoursR N (k + 1) = hourR (hoursR N k) := by rw [hoursR]
