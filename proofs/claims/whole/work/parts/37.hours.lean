/-! ===== hours ===== -/
theorem sailR_0 (N : Row) (s : Nat) : sailR N s 0 = N 0 := sailR_keep N s (by omega) (by omega)
theorem hourL_0 (N : Row) : ∀ k, hourL N k 0 = N 0 := by
  intro k
  induction k with
  | zero => rfl
  | succ k ih =>
    show (if hourL N k (37 + 5 * k) = 0 ∧ ¬ hourL N k (36 + 5 * k) ≤ 0 then sailR (hourL N k) k else hourL N k) 0 = N 0
    split
    · rw [sailR_0]; exact ih
    · exact ih
theorem hourL_s (N : Row) (k : Nat) : hourL N (k + 1) = if hourL N k (37 + 5 * k) = 0 ∧ ¬ hourL N k (36 + 5 * k) ≤ 0 then sailR (hourL N k) k else hourL N k := by rw [hourL]
theorem LF_bay {f : Nat} (hf : f = 21 ∨ f = 33) {c c' : xS} (h : EqX (LF f) c c') : ∀ k, 1 ≤ k → k ≤ 1 + 9 → k ≠ 1 + 6 → k ≠ 1 + 9 → c' k = c k := fun k h1 h2 h3 h4 => h k (by unfold LF; simp; omega)
theorem LF_chart {f : Nat} (hf : f = 21 ∨ f = 33) {c c' : xS} (h : EqX (LF f) c c') : ∀ k, 45 ≤ k → k ≤ 48 → c' k = c k := fun k h1 h2 => h k (by unfold LF; simp; omega)
theorem zX8_hour_loop {c : xS} {N : Row} {f : Nat} (hf : f = 21 ∨ f = 33) (hC : ChartR c N) (hB : BayR c 1 N) (hV : VH N) :
    ∀ (r n k : Nat) (c' : xS), k + r = shipsN N → r < n → FleetR c' f (hourL N k) → EqX (LF f) c c' →
      ∃ c'', xloop (sX8_passHour_L2 f) n (nI k) c' = some ((), c'') ∧ FleetR c'' f (hourR N) ∧ EqX (LF f) c c'' := by
  have h7 := hV.s7
  have hsI := hV.sI
  intro r
  induction r with
  | zero =>
    intro n k c' hk hn hF hE
    obtain ⟨n, rfl⟩ : ∃ q, n = q + 1 := ⟨n - 1, by omega⟩
    have hk' : k = shipsN N := by omega
    subst hk'
    have hag := hourL_ag N (shipsN N) h7
    rw [xloop_s]
    simp only [sX8_passHour_L2, xlet_e]
    rw [hF.1, hag 2 (by omega) (Or.inl (by omega)), hsI, if_pos (Int32.le_refl _), hF.2.1, hourL_0]
    exact ⟨_, rfl, hF.hour _, hE.up _ (by unfold LF; simp)⟩
  | succ r ih =>
    intro n k c' hk hn hF hE
    obtain ⟨n, rfl⟩ : ∃ q, n = q + 1 := ⟨n - 1, by omega⟩
    have hag := hourL_ag N k (by omega)
    have hx : xin (nI k) 7 := xin_n (by omega) (by omega)
    rw [xloop_s]
    simp only [sX8_passHour_L2, sX8_passHour_L34, xlet_e, if_pos hx]
    obtain ⟨-, -, -, g4, g5⟩ := hF.2.2 k (by omega)
    rw [hF.1, hag 2 (by omega) (Or.inl (by omega)), hsI, if_neg (nI_ge (show k < shipsN N by omega) (by omega)), nI_N (by omega), g4, g5, nI_s]
    have hs := hourL_s N k
    by_cases h1 : hourL N k (37 + 5 * k) = 0
    · rw [if_pos h1]
      by_cases h2 : hourL N k (36 + 5 * k) ≤ 0
      · rw [if_pos h2]
        rw [if_neg (fun q => q.2 h2)] at hs
        exact ih n (k + 1) c' (by omega) (by omega) (by rw [hs]; exact hF) hE
      · rw [if_neg h2]
        rw [if_pos ⟨h1, h2⟩] at hs
        obtain ⟨c1, g1, g2, g3⟩ := zX8_sail hf hF ((hC.go (LF_chart hf hE)).H hV.c8 hag) ((hB.go (LF_bay hf hE)).H hag) (VH_hourL hV k (by omega)) (s := k) (by rw [hag.ships]; omega) h2
        rw [g1, xb_s]
        exact ih n (k + 1) c1 (by omega) (by omega) (by rw [hs]; exact g2) (hE.tr g3)
    · rw [if_neg h1]
      rw [if_neg (fun q => h1 q.1)] at hs
      exact ih n (k + 1) c' (by omega) (by omega) (by rw [hs]; exact hF) hE
theorem zX8_passHour {c : xS} {N : Row} {f : Nat} (hf : f = 21 ∨ f = 33) (hF : FleetR c f N) (hC : ChartR c N) (hB : BayR c 1 N) (hV : VH N) :
    ∃ c', sX8_passHour f c = some ((), c') ∧ FleetR c' f (hourR N) ∧ EqX (LF f) c c' :=
  zX8_hour_loop hf hC hB hV (shipsN N) xF 0 c (by omega) (by have := hV.s7; rw [xF_eq]; omega) hF (EqX.rf _ c)
theorem zX9_hour_loop {m : xS} (hV : VH (m 1)) :
    ∀ (r n k : Nat) (m' : xS), k + r = shipsN (m 1) → r < n → m' 1 = hourL (m 1) k → EqX [1, 5, 8, 9] m m' → cacheOk m' →
      ∃ m'', xloop sX9_hour_L2 n (nI k) m' = some ((), m'') ∧ m'' 1 = hourR (m 1) ∧ EqX [1, 5, 8, 9] m m'' ∧ cacheOk m'' := by
  have h7 := hV.s7
  have hsI := hV.sI
  intro r
  induction r with
  | zero =>
    intro n k m' hk hn hF hE hc
    obtain ⟨n, rfl⟩ : ∃ q, n = q + 1 := ⟨n - 1, by omega⟩
    have hk' : k = shipsN (m 1) := by omega
    subst hk'
    have hag := hourL_ag (m 1) (shipsN (m 1)) h7
    rw [xloop_s]
    simp only [sX9_hour_L2, xlet_e]
    rw [hF, hag 2 (by omega) (Or.inl (by omega)), hsI, if_pos (Int32.le_refl _), hourL_0]
    refine ⟨_, rfl, by rw [xup_s]; rfl, hE.up _ (by simp), hc.ag (by rw [xup_n _ _ (by decide)]) ?_⟩
    rw [xup_s, hF]
    exact ⟨fun j _ _ => upd_n _ _ (by omega), fun j _ => upd_n _ _ (by omega)⟩
  | succ r ih =>
    intro n k m' hk hn hF hE hc
    obtain ⟨n, rfl⟩ : ∃ q, n = q + 1 := ⟨n - 1, by omega⟩
    have hag := hourL_ag (m 1) k (by omega)
    have g3 : sX9_shipIs (nI k) 3 m' = some (m' 1 (36 + 5 * k), m') := by have h := zX9_shipIs (i := k) (f := 3) (by omega) (by omega) m'; rw [show 33 + 5 * k + 3 = 36 + 5 * k by omega] at h; exact h
    have g4 : sX9_shipIs (nI k) 4 m' = some (m' 1 (37 + 5 * k), m') := by have h := zX9_shipIs (i := k) (f := 4) (by omega) (by omega) m'; rw [show 33 + 5 * k + 4 = 37 + 5 * k by omega] at h; exact h
    rw [xloop_s]
    simp only [sX9_hour_L2, sX9_hour_L35, xlet_e]
    rw [g4, xb_s, g3, xb_s, hF, hag 2 (by omega) (Or.inl (by omega)), hsI, if_neg (nI_ge (show k < shipsN (m 1) by omega) (by omega)), nI_s]
    have hs := hourL_s (m 1) k
    by_cases h1 : hourL (m 1) k (37 + 5 * k) = 0
    · rw [if_pos h1]
      by_cases h2 : hourL (m 1) k (36 + 5 * k) ≤ 0
      · rw [if_pos h2]
        rw [if_neg (fun q => q.2 h2)] at hs
        exact ih n (k + 1) m' (by omega) (by omega) (by rw [hs]; exact hF) hE hc
      · rw [if_neg h2]
        rw [if_pos ⟨h1, h2⟩] at hs
        obtain ⟨m1, g1, g2, g3, g4⟩ := zX9_sails (m := m') (s := k) (by rw [hF]; exact VH_hourL hV k (by omega)) hc (by rw [hF, hag.ships]; omega) (by rw [hF]; exact h2)
        rw [g1, xb_s]
        exact ih n (k + 1) m1 (by omega) (by omega) (by rw [hs, g2, hF]) (hE.tr g3) g4
    · rw [if_neg h1]
      rw [if_neg (fun q => h1 q.1)] at hs
      exact ih n (k + 1) m' (by omega) (by omega) (by rw [hs]; exact hF) hE hc
theorem zX9_hour {m : xS} (hV : VH (m 1)) (hc : cacheOk m) : ∃ m', sX9_hour m = some ((), m') ∧ m' 1 = hourR (m 1) ∧ EqX [1, 5, 8, 9] m m' ∧ cacheOk m' :=
  zX9_hour_loop hV (shipsN (m 1)) xF 0 m (by omega) (by have := hV.s7; rw [xF_eq]; omega) rfl (EqX.rf _ m) hc
theorem zX9_hoursGo_loop {m : xS} {L : Nat} (hL : L < 1000) (hV : VH (m 1)) :
    ∀ (r n k : Nat) (m' : xS), k + r = L → r < n → m' 1 = hoursR (m 1) k → EqX [1, 5, 8, 9] m m' → cacheOk m' →
      ∃ m'', xloop (sX9_hoursGo_L2 (nI L)) n (nI k) m' = some ((), m'') ∧ m'' 1 = hoursR (m 1) L ∧ EqX [1, 5, 8, 9] m m'' ∧ cacheOk m'' := by
  intro r
  induction r with
  | zero =>
    intro n k m' hk hn hF hE hc
    obtain ⟨n, rfl⟩ : ∃ q, n = q + 1 := ⟨n - 1, by omega⟩
    have hk' : k = L := by omega
    subst hk'
    rw [xloop_s]
    simp only [sX9_hoursGo_L2]
    rw [if_pos (Int32.le_refl _)]
    exact ⟨m', rfl, hF, hE, hc⟩
  | succ r ih =>
    intro n k m' hk hn hF hE hc
    obtain ⟨n, rfl⟩ : ∃ q, n = q + 1 := ⟨n - 1, by omega⟩
    rw [xloop_s]
    simp only [sX9_hoursGo_L2, xlet_e]
    obtain ⟨m1, g1, g2, g3, g4⟩ := zX9_hour (m := m') (by rw [hF]; exact VH_hoursR hV k) hc
    rw [if_neg (nI_ge (show k < L by omega) (by omega)), g1, xb_s, nI_s]
    exact ih n (k + 1) m1 (by omega) (by omega) (by rw [g2, hF, hoursR_s]) (hE.tr g3) g4
theorem zX9_hoursGo {m : xS} {L : Nat} (hL : L < 1000) (hV : VH (m 1)) (hc : cacheOk m) : ∃ m', sX9_hoursGo (nI L) m = some ((), m') ∧ m' 1 = hoursR (m 1) L ∧ EqX [1, 5, 8, 9] m m' ∧ cacheOk m' :=
  zX9_hoursGo_loop hL hV L xF 0 m (by omega) (by rw [xF_eq]; omega) rfl (EqX.rf _ m) hc
/-! ===== the chart drawn ===== -/
def DrawnR (c : xS) (N : Row) (bk : Int32) (k : Nat) : Prop := ∀ j, j < k → c 46 j = dep N j (N 3) ∧ c 47 j = dep N j (N 3 - bk) ∧ c 48 j = dep N j (N 3 - 2 * bk)
def LC : List Nat := [7, 10, 45, 46, 47, 48]
theorem LC_bay {c c' : xS} (h : EqX LC c c') : ∀ k, 1 ≤ k → k ≤ 1 + 9 → k ≠ 1 + 6 → k ≠ 1 + 9 → c' k = c k := fun k h1 h2 h3 h4 => h k (by unfold LC; simp; omega)
theorem zX1_draw_loop {c : xS} {N : Row} {bk : Int32} (hB : BayR c 1 N) (hv : VT N 0) (hc8 : cellsN N ≤ 8) :
    ∀ (r n j : Nat) (c' : xS), j + r = cellsN N → r < n → EqX LC c c' → c' 45 1 = nI (cellsN N) → DrawnR c' N bk j →
      ∃ c'', xloop (sX1_draw_L18 1 bk) n (nI j) c' = some ((), c'') ∧ EqX LC c c'' ∧ c'' 45 = c' 45 ∧ DrawnR c'' N bk (cellsN N) := by
  intro r
  induction r with
  | zero =>
    intro n j c' hj hn hE h45 hD
    obtain ⟨n, rfl⟩ : ∃ q, n = q + 1 := ⟨n - 1, by omega⟩
    have hj' : j = cellsN N := by omega
    subst hj'
    rw [xloop_s]
    simp only [sX1_draw_L18]
    rw [h45, if_pos (Int32.le_refl _)]
    exact ⟨c', rfl, hE, rfl, hD⟩
  | succ r ih =>
    intro n j c' hj hn hE h45 hD
    obtain ⟨n, rfl⟩ : ∃ q, n = q + 1 := ⟨n - 1, by omega⟩
    have hj8 : j < 8 := by omega
    have hx : xin (nI j) 8 := xin_n hj8 (by omega)
    have hB0 := hB.go (LC_bay hE)
    obtain ⟨c1, g1, e1⟩ := zX0_depthIn hB0 hv hj8 (N 3)
    generalize hc2 : xup c1 46 (upd (c1 46) j (dep N j (N 3))) = c2
    have hE2 : EqX LC c c2 := by rw [← hc2]; exact (hE.tr (e1.mono (by unfold LC; simp))).up _ (by unfold LC; simp)
    have hB2 := hB.go (LC_bay hE2)
    obtain ⟨c3, g3, e3⟩ := zX0_depthIn hB2 hv hj8 (N 3 - bk)
    generalize hc4 : xup c3 47 (upd (c3 47) j (dep N j (N 3 - bk))) = c4
    have hE4 : EqX LC c c4 := by rw [← hc4]; exact (hE2.tr (e3.mono (by unfold LC; simp))).up _ (by unfold LC; simp)
    have hB4 := hB.go (LC_bay hE4)
    obtain ⟨c5, g5, e5⟩ := zX0_depthIn hB4 hv hj8 (N 3 - 2 * bk)
    generalize hc6 : xup c5 48 (upd (c5 48) j (dep N j (N 3 - 2 * bk))) = c6
    have hE6 : EqX LC c c6 := by rw [← hc6]; exact (hE4.tr (e5.mono (by unfold LC; simp))).up _ (by unfold LC; simp)
    rw [xloop_s]
    simp only [sX1_draw_L18, xlet_e, if_pos hx]
    rw [h45, if_neg (nI_ge (show j < cellsN N by omega) (by omega)), hB0.2.1, g1, xb_s, nI_N (by omega), hc2, hB2.2.1, g3, xb_s, hc4, hB4.2.1, g5, xb_s, hc6, nI_s]
    have k45 : c6 45 = c' 45 := by
      rw [← hc6, xup_n _ _ (by decide), e5 45 (by simp), ← hc4, xup_n _ _ (by decide), e3 45 (by simp), ← hc2, xup_n _ _ (by decide), e1 45 (by simp)]
    have k46 : c6 46 = upd (c' 46) j (dep N j (N 3)) := by
      rw [← hc6, xup_n _ _ (by decide), e5 46 (by simp), ← hc4, xup_n _ _ (by decide), e3 46 (by simp), ← hc2, xup_s, e1 46 (by simp)]
    have k47 : c6 47 = upd (c' 47) j (dep N j (N 3 - bk)) := by
      rw [← hc6, xup_n _ _ (by decide), e5 47 (by simp), ← hc4, xup_s, e3 47 (by simp), ← hc2, xup_n _ _ (by decide), e1 47 (by simp)]
    have k48 : c6 48 = upd (c' 48) j (dep N j (N 3 - 2 * bk)) := by
      rw [← hc6, xup_s, e5 48 (by simp), ← hc4, xup_n _ _ (by decide), e3 48 (by simp), ← hc2, xup_n _ _ (by decide), e1 48 (by simp)]
    obtain ⟨c7, g7, e7, k7, d7⟩ := ih n (j + 1) c6 (by omega) (by omega) hE6 (by rw [k45]; exact h45) (fun q hq => by
      rw [k46, k47, k48]
      by_cases e : q = j
      · subst e; rw [upd_s, upd_s, upd_s]; exact ⟨rfl, rfl, rfl⟩
      · rw [upd_n _ _ e, upd_n _ _ e, upd_n _ _ e]; exact hD q (by omega))
    exact ⟨c7, g7, e7, by rw [k7, k45], d7⟩
theorem zX1_draw {c : xS} {N : Row} (bk : Int32) (hB : BayR c 1 N) (hV : VH N) :
    ∃ c', sX1_draw 1 bk c = some ((), c') ∧ EqX LC c c' ∧ c' 45 0 = c 1 3 ∧ c' 45 1 = N 1 ∧ DrawnR c' N bk (cellsN N) := by
  unfold sX1_draw
  simp only [xlet_e]
  generalize hc1 : xup (xup c 45 (upd (c 45) 0 (c 1 3))) 45 (upd (xup c 45 (upd (c 45) 0 (c 1 3)) 45) 1 (xup c 45 (upd (c 45) 0 (c 1 3)) 1 0)) = c1
  have hE1 : EqX LC c c1 := by rw [← hc1]; exact ((EqX.rf _ c).up _ (by unfold LC; simp)).up _ (by unfold LC; simp)
  have h0 : c1 45 0 = c 1 3 := by rw [← hc1, xup_s, xup_s, upd_n _ _ (by decide), upd_s]
  have h1 : c1 45 1 = N 1 := by rw [← hc1, xup_s, upd_s, xup_n _ _ (by decide), hB.1]
  obtain ⟨c2, g, hE, k, hD⟩ := zX1_draw_loop (bk := bk) hB hV.2.2.2.2.1 hV.c8 (cellsN N) xF 0 c1 (by omega) (by have := hV.c8; rw [xF_eq]; omega) hE1 (by rw [h1]; exact hV.cI) (fun j hj => absurd hj (Nat.not_lt_zero j))
  exact ⟨c2, g, hE, by rw [k]; exact h0, by rw [k]; exact h1, hD⟩
/-! ===== what would be ===== -/
theorem FleetR.ag {c : xS} {f : Nat} {N N' : Row} (h : FleetR c f N) (h0 : N' 0 = N 0) (h2 : N' 2 = N 2) (ha : ∀ j, 33 ≤ j → j < 68 → N' j = N j) : FleetR c f N' := by
  obtain ⟨g0, g1, g2⟩ := h
  refine ⟨by rw [h2]; exact g0, by rw [h0]; exact g1, fun j hj => ?_⟩
  rw [ha (33 + 5 * j) (by omega) (by omega), ha (34 + 5 * j) (by omega) (by omega), ha (35 + 5 * j) (by omega) (by omega), ha (36 + 5 * j) (by omega) (by omega), ha (37 + 5 * j) (by omega) (by omega)]
  exact g2 j hj
theorem cpy_at {f g : Nat → Int32} {n j : Nat} (h : j < n) : va_cpy f g 0 0 n j = f j := by
  unfold va_cpy
  rw [if_pos ⟨Nat.zero_le _, by omega⟩]
  simp
def LK (f : Nat) : List Nat := [f, f + 1, f + 2, f + 3, f + 4, f + 5]
theorem zX3_copyFrom {c : xS} {f g : Nat} {N : Row} (hF : FleetR c g N) (hd : f + 5 < g ∨ g + 5 < f) : ∃ c', sX3_copyFrom f g c = some ((), c') ∧ FleetR c' f N ∧ EqX (LK f) c c' := by
  obtain ⟨h0, h1, h2⟩ := hF
  unfold sX3_copyFrom
  simp only [xlet_e]
  refine ⟨_, rfl, ⟨?_, ?_, fun j hj => ?_⟩, ((((((EqX.rf (LK f) c).up _ (by unfold LK; simp)).up _ (by unfold LK; simp)).up _ (by unfold LK; simp)).up _ (by unfold LK; simp)).up _ (by unfold LK; simp)).up _ (by unfold LK; simp) |>.up _ (by unfold LK; simp)⟩
  · rw [xup_n _ _ (by omega), xup_n _ _ (by omega), xup_n _ _ (by omega), xup_n _ _ (by omega), xup_n _ _ (by omega), xup_s, upd_n _ _ (by decide), xup_s, upd_s, h0]
  · rw [xup_n _ _ (by omega), xup_n _ _ (by omega), xup_n _ _ (by omega), xup_n _ _ (by omega), xup_n _ _ (by omega), xup_s, upd_s, xup_n _ _ (by omega), h1]
  · obtain ⟨a1, a2, a3, a4, a5⟩ := h2 j hj
    refine ⟨?_, ?_, ?_, ?_, ?_⟩
    · rw [xup_n _ _ (by omega), xup_n _ _ (by omega), xup_n _ _ (by omega), xup_n _ _ (by omega), xup_s]
      refine (cpy_at hj).trans ?_
      rw [xup_n _ _ (by omega), xup_n _ _ (by omega)]; exact a1
    · rw [xup_n _ _ (by omega), xup_n _ _ (by omega), xup_n _ _ (by omega), xup_s]
      refine (cpy_at hj).trans ?_
      rw [xup_n _ _ (by omega), xup_n _ _ (by omega), xup_n _ _ (by omega)]; exact a2
    · rw [xup_n _ _ (by omega), xup_n _ _ (by omega), xup_s]
      refine (cpy_at hj).trans ?_
      rw [xup_n _ _ (by omega), xup_n _ _ (by omega), xup_n _ _ (by omega), xup_n _ _ (by omega)]; exact a3
    · rw [xup_n _ _ (by omega), xup_s]
      refine (cpy_at hj).trans ?_
      rw [xup_n _ _ (by omega), xup_n _ _ (by omega), xup_n _ _ (by omega), xup_n _ _ (by omega), xup_n _ _ (by omega)]; exact a4
    · rw [xup_s]
      refine (cpy_at hj).trans ?_
      rw [xup_n _ _ (by omega), xup_n _ _ (by omega), xup_n _ _ (by omega), xup_n _ _ (by omega), xup_n _ _ (by omega), xup_n _ _ (by omega)]; exact a5
def LT : List Nat := [7, 10, 33, 34, 35, 36, 37, 38]
theorem zX8_think_loop {c : xS} {N : Row} {L : Nat} (hL : L < 1000) (hC : ChartR c N) (hB : BayR c 1 N) (hV : VH N) :
    ∀ (r n k : Nat) (c' : xS), k + r = L → r < n → FleetR c' 33 (hoursR N k) → EqX LT c c' →
      ∃ c'', xloop (sX8_think_L13 (nI L)) n (nI k) c' = some ((), c'') ∧ FleetR c'' 33 (hoursR N L) ∧ EqX LT c c'' := by
  intro r
  induction r with
  | zero =>
    intro n k c' hk hn hF hE
    obtain ⟨n, rfl⟩ : ∃ q, n = q + 1 := ⟨n - 1, by omega⟩
    have hk' : k = L := by omega
    subst hk'
    rw [xloop_s]
    simp only [sX8_think_L13]
    rw [if_pos (Int32.le_refl _)]
    exact ⟨c', rfl, hF, hE⟩
  | succ r ih =>
    intro n k c' hk hn hF hE
    obtain ⟨n, rfl⟩ : ∃ q, n = q + 1 := ⟨n - 1, by omega⟩
    rw [xloop_s]
    simp only [sX8_think_L13, xlet_e]
    have hag := hoursR_ag hV k
    obtain ⟨c1, g1, g2, g3⟩ := zX8_passHour (c := c') (N := hoursR N k) (Or.inr rfl) hF ((hC.go (fun q h1 h2 => hE q (by unfold LT; simp; omega))).H hV.c8 hag) ((hB.go (fun q h1 h2 h3 h4 => hE q (by unfold LT; simp; omega))).H hag) (VH_hoursR hV k)
    rw [if_neg (nI_ge (show k < L by omega) (by omega)), g1, xb_s, nI_s]
    exact ih n (k + 1) c1 (by omega) (by omega) (by rw [hoursR_s]; exact g2) (hE.tr (g3.mono (by unfold LF LT; simp)))
theorem zX8_think {c : xS} {N : Row} {L : Nat} (hL : L < 1000) (hF : FleetR c 21 N) (hC : ChartR c N) (hB : BayR c 1 N) (hV : VH N) :
    ∃ c', sX8_think (nI L) c = some ((), c') ∧ FleetR c' 33 (hoursR N L) ∧ EqX LT c c' := by
  obtain ⟨c1, g1, g2, g3⟩ := zX3_copyFrom (f := 33) (g := 21) hF (by omega)
  have hE : EqX LT c c1 := g3.mono (by unfold LK LT; simp)
  obtain ⟨c2, k1, k2, k3⟩ := zX8_think_loop (c := c1) hL (hC.go (fun q h1 h2 => hE q (by unfold LT; simp; omega))) (hB.go (fun q h1 h2 h3 h4 => hE q (by unfold LT; simp; omega))) hV L xF 0 c1 (by omega) (by rw [xF_eq]; omega) g2 (EqX.rf _ c1)
  refine ⟨c2, ?_, k2, hE.tr k3⟩
  unfold sX8_think
  rw [g1, xb_s]
  exact k1
