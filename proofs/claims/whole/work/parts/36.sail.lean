/-! ===== pictures kept ===== -/
theorem FleetR.go {c c' : xS} {f : Nat} {N : Row} (h : FleetR c f N) (he : ∀ k, f ≤ k → k ≤ f + 5 → c' k = c k) : FleetR c' f N := by
  obtain ⟨h0, h1, h2⟩ := h
  refine ⟨by rw [he f (by omega) (by omega)]; exact h0, by rw [he f (by omega) (by omega)]; exact h1, fun j hj => ?_⟩
  rw [he (f + 1) (by omega) (by omega), he (f + 2) (by omega) (by omega), he (f + 3) (by omega) (by omega), he (f + 4) (by omega) (by omega), he (f + 5) (by omega) (by omega)]
  exact h2 j hj
theorem LawR.go {c c' : xS} {k : Nat} {N : Row} {u : Nat} (h : LawR c k N u) (h1 : c' k = c k) (h2 : c' (k + 1) = c (k + 1)) : LawR c' k N u := by
  obtain ⟨a, b⟩ := h
  exact ⟨by rw [h1]; exact a, fun j hj => by rw [h2]; exact b j hj⟩
theorem BayR.go {c c' : xS} {b : Nat} {N : Row} (h : BayR c b N) (he : ∀ k, b ≤ k → k ≤ b + 9 → k ≠ b + 6 → k ≠ b + 9 → c' k = c k) : BayR c' b N := by
  obtain ⟨h0, h1, h2, h3, h4⟩ := h
  refine ⟨by rw [he b (by omega) (by omega) (by omega) (by omega)]; exact h0, by rw [he b (by omega) (by omega) (by omega) (by omega)]; exact h1, fun j hj => ?_, h3.go (he _ (by omega) (by omega) (by omega) (by omega)) (he _ (by omega) (by omega) (by omega) (by omega)), h4.go (he _ (by omega) (by omega) (by omega) (by omega)) (he _ (by omega) (by omega) (by omega) (by omega))⟩
  rw [he (b + 1) (by omega) (by omega) (by omega) (by omega), he (b + 2) (by omega) (by omega) (by omega) (by omega), he (b + 3) (by omega) (by omega) (by omega) (by omega)]
  exact h2 j hj
theorem ChartR.go {c c' : xS} {N : Row} (h : ChartR c N) (he : ∀ k, 45 ≤ k → k ≤ 48 → c' k = c k) : ChartR c' N := by
  obtain ⟨h0, h1, h2⟩ := h
  refine ⟨by rw [he 45 (by omega) (by omega)]; exact h0, by rw [he 45 (by omega) (by omega)]; exact h1, fun j hj => ?_⟩
  rw [he 46 (by omega) (by omega), he 47 (by omega) (by omega), he 48 (by omega) (by omega)]
  exact h2 j hj
theorem LawR.ag {c : xS} {k : Nat} {N N' : Row} {u : Nat} (h : LawR c k N u) (ha : ∀ j, 138 ≤ j → N' j = N j) : LawR c k N' u := by
  have h1 : lenN N' u = lenN N u := by unfold lenN; rw [ha _ (by omega)]
  have h2 : codeN N' u = codeN N u := by funext i; exact ha _ (by omega)
  obtain ⟨a, b⟩ := h
  exact ⟨by rw [ha _ (by omega)]; exact a, by rw [h1, h2]; exact b⟩
theorem BayR.ag {c : xS} {b : Nat} {N N' : Row} (h : BayR c b N) (ha : agB N N') (h1 : N' 1 = N 1) (h3 : N' 3 = N 3) : BayR c b N' := by
  obtain ⟨g0, g1, g2, g3, g4⟩ := h
  refine ⟨by rw [h1]; exact g0, by rw [h3]; exact g1, fun j hj => ?_, g3.ag ha.2, g4.ag ha.2⟩
  rw [ha.1 (9 + 3 * j) (by omega) (by omega), ha.1 (10 + 3 * j) (by omega) (by omega), ha.1 (11 + 3 * j) (by omega) (by omega)]
  exact g2 j hj
theorem ChartR.ag {c : xS} {N N' : Row} (h : ChartR c N) (hc : cellsN N ≤ 8) (ha : agB N N') (h1 : N' 1 = N 1) (h3 : N' 3 = N 3) (h4 : N' 4 = N 4) (h5 : N' 5 = N 5) : ChartR c N' := by
  obtain ⟨g0, g1, g2⟩ := h
  have hcN : cellsN N' = cellsN N := by unfold cellsN; rw [h1]
  refine ⟨by rw [h5]; exact g0, by rw [h1]; exact g1, fun j hj => ?_⟩
  rw [hcN] at hj
  rw [h3, h4, dep_ag ha (by omega), dep_ag ha (by omega), dep_ag ha (by omega)]
  exact g2 j hj
theorem ChartR.H {c : xS} {N N' : Row} (h : ChartR c N) (hc : cellsN N ≤ 8) (ha : agH N N') : ChartR c N' :=
  h.ag hc ha.B (ha 1 (by omega) (Or.inl (by omega))) (ha 3 (by omega) (Or.inl (by omega))) (ha 4 (by omega) (Or.inl (by omega))) (ha 5 (by omega) (Or.inl (by omega)))
theorem BayR.H {c : xS} {b : Nat} {N N' : Row} (h : BayR c b N) (ha : agH N N') : BayR c b N' :=
  h.ag ha.B (ha 1 (by omega) (Or.inl (by omega))) (ha 3 (by omega) (Or.inl (by omega)))
theorem FleetR.at {c : xS} {f : Nat} {N : Row} (h : FleetR c f N) {s : Nat} (hs : s < 7) (x : Int32) : FleetR (xup c (f + 4) (upd (c (f + 4)) s x)) f (upd N (36 + 5 * s) x) := by
  obtain ⟨h0, h1, h2⟩ := h
  refine ⟨by rw [xup_n _ _ (by omega), upd_n _ _ (by omega)]; exact h0, by rw [xup_n _ _ (by omega), upd_n _ _ (by omega)]; exact h1, fun j hj => ?_⟩
  rw [xup_n c _ (show f + 1 ≠ f + 4 by omega), xup_n c _ (show f + 2 ≠ f + 4 by omega), xup_n c _ (show f + 3 ≠ f + 4 by omega), xup_n c _ (show f + 5 ≠ f + 4 by omega), xup_s, upd_n N _ (show 33 + 5 * j ≠ 36 + 5 * s by omega), upd_n N _ (show 34 + 5 * j ≠ 36 + 5 * s by omega), upd_n N _ (show 35 + 5 * j ≠ 36 + 5 * s by omega), upd_n N _ (show 37 + 5 * j ≠ 36 + 5 * s by omega)]
  obtain ⟨g1, g2, g3, g4, g5⟩ := h2 j hj
  refine ⟨g1, g2, g3, ?_, g5⟩
  by_cases e : j = s
  · subst e; rw [upd_s, upd_s]
  · rw [upd_n _ _ e, upd_n _ _ (by omega)]; exact g4
theorem FleetR.lost {c : xS} {f : Nat} {N : Row} (h : FleetR c f N) {s : Nat} (hs : s < 7) (x : Int32) : FleetR (xup c (f + 5) (upd (c (f + 5)) s x)) f (upd N (37 + 5 * s) x) := by
  obtain ⟨h0, h1, h2⟩ := h
  refine ⟨by rw [xup_n _ _ (by omega), upd_n _ _ (by omega)]; exact h0, by rw [xup_n _ _ (by omega), upd_n _ _ (by omega)]; exact h1, fun j hj => ?_⟩
  rw [xup_n c _ (show f + 1 ≠ f + 5 by omega), xup_n c _ (show f + 2 ≠ f + 5 by omega), xup_n c _ (show f + 3 ≠ f + 5 by omega), xup_n c _ (show f + 4 ≠ f + 5 by omega), xup_s, upd_n N _ (show 33 + 5 * j ≠ 37 + 5 * s by omega), upd_n N _ (show 34 + 5 * j ≠ 37 + 5 * s by omega), upd_n N _ (show 35 + 5 * j ≠ 37 + 5 * s by omega), upd_n N _ (show 36 + 5 * j ≠ 37 + 5 * s by omega)]
  obtain ⟨g1, g2, g3, g4, g5⟩ := h2 j hj
  refine ⟨g1, g2, g3, g4, ?_⟩
  by_cases e : j = s
  · subst e; rw [upd_s, upd_s]
  · rw [upd_n _ _ e, upd_n _ _ (by omega)]; exact g5
theorem FleetR.hour {c : xS} {f : Nat} {N : Row} (h : FleetR c f N) (x : Int32) : FleetR (xup c f (upd (c f) 1 x)) f (upd N 0 x) := by
  obtain ⟨h0, h1, h2⟩ := h
  refine ⟨by rw [xup_s, upd_n _ _ (by omega), upd_n _ _ (by omega)]; exact h0, by rw [xup_s, upd_s, upd_s], fun j hj => ?_⟩
  rw [xup_n c _ (show f + 1 ≠ f by omega), xup_n c _ (show f + 2 ≠ f by omega), xup_n c _ (show f + 3 ≠ f by omega), xup_n c _ (show f + 4 ≠ f by omega), xup_n c _ (show f + 5 ≠ f by omega), upd_n N _ (show 33 + 5 * j ≠ 0 by omega), upd_n N _ (show 34 + 5 * j ≠ 0 by omega), upd_n N _ (show 35 + 5 * j ≠ 0 by omega), upd_n N _ (show 36 + 5 * j ≠ 0 by omega), upd_n N _ (show 37 + 5 * j ≠ 0 by omega)]
  exact h2 j hj
/-- the rows that an hour of a fleet may change -/
def LF (f : Nat) : List Nat := [f, f + 4, f + 5, 7, 10]
theorem zX8_sail {c : xS} {N : Row} {f s : Nat} (hf : f = 21 ∨ f = 33) (hF : FleetR c f N) (hC : ChartR c N) (hB : BayR c 1 N) (hV : VH N) (hs : s < shipsN N) (hp : ¬ N (36 + 5 * s) ≤ 0) :
    ∃ c', sX8_sail f (nI s) c = some ((), c') ∧ FleetR c' f (sailR N s) ∧ EqX (LF f) c c' := by
  have h7 := hV.s7
  have hc8 := hV.c8
  have hcI := hV.cI
  obtain ⟨i, hi, he⟩ := hV.at hs
  have hi0 : 0 < i := by
    rcases Nat.eq_zero_or_pos i with q | q
    · exact absurd (by rw [he, q]; decide) hp
    · exact q
  have hx : xin (nI s) 7 := xin_n (by omega) (by omega)
  obtain ⟨g1, g2, g3, g4, g5⟩ := hF.2.2 s (by omega)
  obtain ⟨hk, -, -⟩ := hV.2.2.2.2.2.2 s (by omega)
  have hbel := zX1_believed hC hc8 (show i - 1 < cellsN N by omega) hk (N (34 + 5 * s))
  unfold sX8_sail
  simp only [xlet_e, sX8_sail_L78, if_pos hx]
  rw [nI_N (show s < 2147483648 by omega), g1, g2, g3, g4, he, nI_d hi0, hbel, xb_s]
  have hsr : sailR N s = if bel N (N (33 + 5 * s)) (N (34 + 5 * s)) (i - 1) < N (35 + 5 * s) then
      (if gv N 1 (N (35 + 5 * s)) (N (34 + 5 * s)) (N 0) = 1 ∧ nI i + 1 ≤ N 1 - 1 then upd N (36 + 5 * s) (nI i + 1) else N)
      else upd (upd N (36 + 5 * s) (nI (i - 1))) (37 + 5 * s) (if N (35 + 5 * s) ≤ dep N (i - 1) (N 3) then 0 else 1) := by
    unfold sailR
    rw [he, nI_d hi0, nI_N (by omega)]
  rw [hsr]
  by_cases h1 : bel N (N (33 + 5 * s)) (N (34 + 5 * s)) (i - 1) < N (35 + 5 * s)
  · rw [if_pos h1, if_pos h1]
    obtain ⟨c1, hg, hE⟩ := zX0_give (c := c) (show 1 < 2 by omega) (N (35 + 5 * s)) (N (34 + 5 * s)) (N 0) hB.2.2.2.1 hB.2.2.2.2 hV.2.2.2.2.2.1
    have hg : sX0_give 1 1 (N (35 + 5 * s)) (N (34 + 5 * s)) (N 0) c = some (gv N 1 (N (35 + 5 * s)) (N (34 + 5 * s)) (N 0), c1) := hg
    have hE' : EqX (LF f) c c1 := hE.mono (by unfold LF; simp)
    have hF1 : FleetR c1 f N := hF.go (fun k hk1 hk2 => hE k (by simp; omega))
    rw [hF.2.1, hg, xb_s]
    by_cases h2 : gv N 1 (N (35 + 5 * s)) (N (34 + 5 * s)) (N 0) = 1
    · rw [if_pos h2]
      obtain ⟨-, -, -, q4, -⟩ := hF1.2.2 s (by omega)
      have e0 : c1 1 0 = nI (cellsN N) := by rw [hE 1 (by simp), hB.1, hcI]
      rw [e0, q4, he, nI_d (by omega), nI_s]
      by_cases h3 : nI (cellsN N - 1) ≤ nI i
      · rw [if_pos h3]
        have h3' := (nI_leI (by omega) (by omega)).mp h3
        rw [if_neg (by rw [hcI, nI_d (by omega), nI_leI (by omega) (by omega)]; omega)]
        exact ⟨c1, rfl, hF1, hE'⟩
      · rw [if_neg h3]
        have h3' : ¬ cellsN N - 1 ≤ i := fun q => h3 ((nI_leI (by omega) (by omega)).mpr q)
        rw [if_pos ⟨h2, by rw [hcI, nI_d (by omega), nI_leI (by omega) (by omega)]; omega⟩]
        exact ⟨_, rfl, hF1.at (by omega) _, hE'.up _ (by unfold LF; simp)⟩
    · rw [if_neg h2, if_neg (fun q => h2 q.1)]
      exact ⟨c1, rfl, hF1, hE'⟩
  · rw [if_neg h1, if_neg h1, if_pos (xin_n (show i - 1 < 8 by omega) (by omega)), nI_N (show i - 1 < 2147483648 by omega), xup_n _ _ (show 46 ≠ f + 4 by omega), (hC.2.2 (i - 1) (by omega)).1]
    have hF2 := (hF.at (show s < 7 by omega) (nI (i - 1))).lost (show s < 7 by omega) (if N (35 + 5 * s) ≤ dep N (i - 1) (N 3) then 0 else 1)
    exact ⟨_, rfl, hF2, ((EqX.rf _ c).up _ (by unfold LF; simp)).up _ (by unfold LF; simp)⟩
theorem cacheOk.ag {m m' : xS} (h : cacheOk m) (h5 : m' 5 = m 5) (ha : agB (m 1) (m' 1)) : cacheOk m' := by
  intro i t hi ht
  rw [h5, dep_ag ha hi]
  exact h i t hi ht
theorem zX9_isCell {m : xS} (p : Int32) : sX9_isCell p m = some (bI (0 ≤ p ∧ p ≤ m 1 1 - 1), m) := by
  unfold sX9_isCell
  rw [zX9_within, xb_s, b_r]
theorem zX9_sails {m : xS} {s : Nat} (hV : VH (m 1)) (hc : cacheOk m) (hs : s < shipsN (m 1)) (hp : ¬ m 1 (36 + 5 * s) ≤ 0) :
    ∃ m', sX9_sails (nI s) m = some ((), m') ∧ m' 1 = sailR (m 1) s ∧ EqX [1, 5, 8, 9] m m' ∧ cacheOk m' := by
  have h7 := hV.s7
  have hc8 := hV.c8
  have hcI := hV.cI
  obtain ⟨i, hi, he⟩ := hV.at hs
  have hi0 : 0 < i := by
    rcases Nat.eq_zero_or_pos i with q | q
    · exact absurd (by rw [he, q]; decide) hp
    · exact q
  obtain ⟨hk, -, -⟩ := hV.2.2.2.2.2.2 s (by omega)
  have hs7 : s < 7 := by omega
  have gI : ∀ (q : xS) (f : Nat), f < 5 → sX9_shipIs (nI s) (nI f) q = some (q 1 (33 + 5 * s + f), q) := fun q f hf => zX9_shipIs hs7 hf q
  have g1 : ∀ q : xS, sX9_shipIs (nI s) 1 q = some (q 1 (34 + 5 * s), q) := fun q => by have h := gI q 1 (by omega); rw [show 33 + 5 * s + 1 = 34 + 5 * s by omega] at h; exact h
  have g2 : ∀ q : xS, sX9_shipIs (nI s) 2 q = some (q 1 (35 + 5 * s), q) := fun q => by have h := gI q 2 (by omega); rw [show 33 + 5 * s + 2 = 35 + 5 * s by omega] at h; exact h
  have g3 : ∀ q : xS, sX9_shipIs (nI s) 3 q = some (q 1 (36 + 5 * s), q) := fun q => by have h := gI q 3 (by omega); rw [show 33 + 5 * s + 3 = 36 + 5 * s by omega] at h; exact h
  have a3 : ∀ q : xS, sX9_shipAt (nI s) 3 q = some (nI (36 + 5 * s), q) := fun q => by have h := zX9_shipAt s 3 q; rw [show 33 + 5 * s + 3 = 36 + 5 * s by omega] at h; exact h
  have a4 : ∀ q : xS, sX9_shipAt (nI s) 4 q = some (nI (37 + 5 * s), q) := fun q => by have h := zX9_shipAt s 4 q; rw [show 33 + 5 * s + 4 = 37 + 5 * s by omega] at h; exact h
  have hx3 : xin (nI (36 + 5 * s)) 242 := xin_n (by omega) (by omega)
  have hx4 : xin (nI (37 + 5 * s)) 242 := xin_n (by omega) (by omega)
  obtain ⟨m1, hb, hE1, hc1⟩ := zX9_believes hV.2.2.2.2.1 hc hs7 (show i - 1 < 8 by omega) hk hV.2.2.1 hV.2.2.2.1
  have e1 : m1 1 = m 1 := hE1 1 (by simp)
  unfold sX9_sails
  simp only [xlet_e, sX9_sails_L67]
  rw [g3, xb_s, he, nI_d hi0, hb, xb_s, g2, xb_s, e1]
  have hsr : sailR (m 1) s = if bel (m 1) (m 1 (33 + 5 * s)) (m 1 (34 + 5 * s)) (i - 1) < m 1 (35 + 5 * s) then
      (if gv (m 1) 1 (m 1 (35 + 5 * s)) (m 1 (34 + 5 * s)) (m 1 0) = 1 ∧ nI i + 1 ≤ m 1 1 - 1 then upd (m 1) (36 + 5 * s) (nI i + 1) else m 1)
      else upd (upd (m 1) (36 + 5 * s) (nI (i - 1))) (37 + 5 * s) (if m 1 (35 + 5 * s) ≤ dep (m 1) (i - 1) (m 1 3) then 0 else 1) := by
    unfold sailR
    rw [he, nI_d hi0, nI_N (by omega)]
  rw [hsr]
  by_cases h1 : bel (m 1) (m 1 (33 + 5 * s)) (m 1 (34 + 5 * s)) (i - 1) < m 1 (35 + 5 * s)
  · rw [if_pos h1, if_pos h1]
    simp only [g2, g1, xb_s]
    rw [e1]
    obtain ⟨m2, hg, hE2⟩ := zX9_given (m := m1) (show 1 < 2 by omega) (m 1 (35 + 5 * s)) (m 1 (34 + 5 * s)) (m 1 0) (by rw [e1]; exact hV.2.2.2.2.2.1)
    have hg : sX9_given 1 (m 1 (35 + 5 * s)) (m 1 (34 + 5 * s)) (m 1 0) m1 = some (gv (m 1) 1 (m 1 (35 + 5 * s)) (m 1 (34 + 5 * s)) (m 1 0), m2) := by rw [e1] at hg; exact hg
    have e2 : m2 1 = m 1 := by rw [hE2 1 (by simp), e1]
    have hE : EqX [1, 5, 8, 9] m m2 := (hE1.mono (by simp)).tr (hE2.mono (by simp))
    have hc2 : cacheOk m2 := hc1.ag (hE2 5 (by simp)) (by rw [e1, e2]; exact ⟨fun _ _ _ => rfl, fun _ _ => rfl⟩)
    rw [hg, xb_s]
    by_cases h2 : gv (m 1) 1 (m 1 (35 + 5 * s)) (m 1 (34 + 5 * s)) (m 1 0) = 1
    · rw [if_pos h2, zX9_isCell, xb_s, bif0, e2, a3, xb_s, if_pos hx3, nI_N (by omega), nI_s]
      by_cases h3 : nI (i + 1) ≤ m 1 1 - 1
      · rw [if_pos ⟨nI_le (Nat.zero_le _) (by omega), h3⟩, if_pos ⟨h2, h3⟩, e2]
        refine ⟨_, rfl, by rw [xup_s], hE.up _ (by simp), hc2.ag (by rw [xup_n _ _ (by decide)]) ?_⟩
        rw [xup_s, e2]
        exact ⟨fun j _ _ => upd_n _ _ (by omega), fun j _ => upd_n _ _ (by omega)⟩
      · rw [if_neg (fun q => h3 q.2), if_neg (fun q => h3 q.2)]
        exact ⟨m2, rfl, e2, hE, hc2⟩
    · rw [if_neg h2, if_neg (fun q => h2 q.1)]
      exact ⟨m2, rfl, e2, hE, hc2⟩
  · rw [if_neg h1, if_neg h1, a3, xb_s, if_pos hx3, nI_N (show 36 + 5 * s < 2147483648 by omega), a4, xb_s]
    have hag : agH (m 1) (upd (m 1) (36 + 5 * s) (nI (i - 1))) := fun j _ _ => upd_n _ _ (by omega)
    have hc3 : cacheOk (xup m1 1 (upd (m1 1) (36 + 5 * s) (nI (i - 1)))) := hc1.ag (by rw [xup_n _ _ (by decide)]) (by rw [xup_s, e1]; exact hag.B)
    obtain ⟨m4, h4, hE4, hc4⟩ := zX9_trueDepth (m := xup m1 1 (upd (m1 1) (36 + 5 * s) (nI (i - 1)))) (i := i - 1) (by rw [xup_s, e1]; exact VT_ag hag.B.2 hV.2.2.2.2.1) hc3 (by omega) (by rw [xup_s, e1, hag 3 (by omega) (Or.inl (by omega))]; exact hV.2.2.1.1)
    rw [h4, xb_s, g2, xb_s]
    have e4 : m4 1 = upd (m 1) (36 + 5 * s) (nI (i - 1)) := by rw [hE4 1 (by simp), xup_s, e1]
    rw [xup_s, e1, hag 3 (by omega) (Or.inl (by omega)), dep_ag hag.B (show i - 1 < 8 by omega), e4, upd_n _ _ (show 35 + 5 * s ≠ 36 + 5 * s by omega), if_pos hx4, nI_N (by omega)]
    have hE : EqX [1, 5, 8, 9] m m4 := ((hE1.mono (by simp)).up _ (by simp)).tr (hE4.mono (by simp))
    refine ⟨_, rfl, by rw [xup_s], hE.up _ (by simp), hc4.ag (by rw [xup_n _ _ (by decide)]) ?_⟩
    rw [xup_s, e4]
    exact ⟨fun j _ _ => upd_n _ _ (by omega), fun j _ => upd_n _ _ (by omega)⟩
