/-! ===== BAY, TELL, CHECK ===== -/
def flV (t : Nat) : Int32 := if t = 0 then 5 else if t = 1 then 1 else 0
theorem zX0_renew (c : xS) (p : Int32) : ∃ c', sX0_renew 1 p c = some ((), c') ∧ EqX [1, 2, 3, 4] c c' ∧ (∀ j, c' 1 j = if j = 3 then 0 else if j = 0 then p else c 1 j) ∧ ∀ j, j < 8 → ∀ t, t < 3 → c' (2 + t) j = flV t := by
  unfold sX0_renew
  simp only [xlet_e]
  generalize h1 : xup (xup c 1 (upd (c 1) 0 p)) 1 (upd (xup c 1 (upd (c 1) 0 p) 1) 3 0) = c1
  have E1 : EqX [1, 2, 3, 4] c c1 := by rw [← h1]; exact ((EqX.rf _ _).up _ (by simp)).up _ (by simp)
  have V1 : ∀ j, c1 1 j = if j = 3 then 0 else if j = 0 then p else c 1 j := by
    intro j; rw [← h1, xup_s, xup_s]; unfold upd; rfl
  have key : ∀ (r n k : Nat) (c' : xS), k + r = 8 → r < n → EqX [1, 2, 3, 4] c c' → c' 1 = c1 1 → (∀ j, j < k → ∀ t, t < 3 → c' (2 + t) j = flV t) → ∃ c'', xloop (sX0_renew_L12 1) n (nI k) c' = some ((), c'') ∧ EqX [1, 2, 3, 4] c c'' ∧ c'' 1 = c1 1 ∧ ∀ j, j < 8 → ∀ t, t < 3 → c'' (2 + t) j = flV t := by
    intro r
    induction r with
    | zero =>
      intro n k c' hk hn hE hc hz
      obtain ⟨n, rfl⟩ : ∃ z, n = z + 1 := ⟨n - 1, by omega⟩
      have hk' : k = 8 := by omega
      subst hk'
      rw [xloop_s]
      generalize xloop (sX0_renew_L12 1) n = self
      simp only [sX0_renew_L12]
      rw [if_pos (by decide)]
      exact ⟨c', rfl, hE, hc, hz⟩
    | succ r ih =>
      intro n k c' hk hn hE hc hz
      obtain ⟨n, rfl⟩ : ∃ z, n = z + 1 := ⟨n - 1, by omega⟩
      have hx : xin (nI k) 8 := xin_n (by omega) (by omega)
      have hi := fun c'' => ih n (k + 1) c'' (by omega) (by omega)
      rw [xloop_s]
      generalize xloop (sX0_renew_L12 1) n = self at hi ⊢
      simp only [sX0_renew_L12, xlet_e, if_pos hx]
      rw [if_neg (show ¬ (8 : Int32) ≤ nI k from nI_ge (a := k) (b := 8) (by omega) (by omega)), nI_s, nI_N (by omega)]
      refine hi _ (((hE.up _ (by simp)).up _ (by simp)).up _ (by simp)) ?_ (fun j hj t ht => ?_)
      · rw [xup_n _ _ (by decide), xup_n _ _ (by decide), xup_n _ _ (by decide)]; exact hc
      · by_cases e : j = k
        · subst e
          rcases (show t = 0 ∨ t = 1 ∨ t = 2 by omega) with rfl | rfl | rfl
          · rw [xup_n _ _ (by decide), xup_n _ _ (by decide), show 2 + 0 = 1 + 1 from rfl, xup_s, upd_s]; rfl
          · rw [xup_n _ _ (by decide), show 2 + 1 = 1 + 2 from rfl, xup_s, upd_s]; rfl
          · rw [show 2 + 2 = 1 + 3 from rfl, xup_s, upd_s]; rfl
        · have h0 := hz j (by omega) t ht
          rcases (show t = 0 ∨ t = 1 ∨ t = 2 by omega) with rfl | rfl | rfl
          · rw [xup_n _ _ (by decide), xup_n _ _ (by decide), show 2 + 0 = 1 + 1 from rfl, xup_s, upd_n _ _ e]; exact h0
          · rw [xup_n _ _ (by decide), show 2 + 1 = 1 + 2 from rfl, xup_s, upd_n _ _ e, xup_n _ _ (by decide)]; exact h0
          · rw [show 2 + 2 = 1 + 3 from rfl, xup_s, upd_n _ _ e, xup_n _ _ (by decide), xup_n _ _ (by decide)]; exact h0
  obtain ⟨c', g1, g2, g3, g4⟩ := key 8 xF 0 c1 rfl (by rw [xF_eq]; omega) E1 rfl (fun j hj => absurd hj (Nat.not_lt_zero j))
  exact ⟨c', g1, g2, fun j => by rw [g3]; exact V1 j, g4⟩
theorem zX9_flat (m : xS) (p : Int32) : ∃ m', sX9_flat p m = some (m 1 1, m') ∧ EqX [1, 5] m m' ∧ cacheOk m' ∧ m' 1 1 = p ∧ m' 1 5 = 0 ∧ (∀ q, ¬ q = 1 → ¬ q = 5 → (q < 9 ∨ 33 ≤ q) → m' 1 q = m 1 q) ∧ ∀ j, j < 8 → ∀ t, t < 3 → m' 1 (9 + 3 * j + t) = flV t := by
  have key : ∀ (r n k : Nat) (m' : xS), k + r = 8 → r < n → EqX [1, 5] m m' → (∀ q, (q < 9 ∨ 33 ≤ q) → m' 1 q = m 1 q) → (∀ j, j < k → ∀ t, t < 3 → m' 1 (9 + 3 * j + t) = flV t) → ∃ m'', xloop (sX9_flat_L2 p) n (nI k) m' = some (m 1 1, m'') ∧ EqX [1, 5] m m'' ∧ cacheOk m'' ∧ m'' 1 1 = p ∧ m'' 1 5 = 0 ∧ (∀ q, ¬ q = 1 → ¬ q = 5 → (q < 9 ∨ 33 ≤ q) → m'' 1 q = m 1 q) ∧ ∀ j, j < 8 → ∀ t, t < 3 → m'' 1 (9 + 3 * j + t) = flV t := by
    intro r
    induction r with
    | zero =>
      intro n k m' hk hn hE ho hz
      obtain ⟨n, rfl⟩ : ∃ z, n = z + 1 := ⟨n - 1, by omega⟩
      have hk' : k = 8 := by omega
      subst hk'
      rw [xloop_s]
      generalize xloop (sX9_flat_L2 p) n = self
      simp only [sX9_flat_L2, xlet_e]
      rw [if_pos (show (8 : Int32) ≤ nI 8 by decide)]
      obtain ⟨m1, g1, g2, g3⟩ := zX9_forget (xup m' 1 (upd (m' 1) 5 0))
      have e1 : m1 1 = upd (m' 1) 5 0 := by rw [g2 1 (by simp), xup_s]
      have gt : sX9_turn 1 p m1 = some (m1 1 1, xup m1 1 (upd (m1 1) 1 p)) := zX9_turn (k := 1) (by omega) p m1
      rw [g1, xb_s, gt, xb_s]
      refine ⟨xup m1 1 (upd (m1 1) 1 p), ?_, ((hE.up _ (by simp)).tr (g2.mono (by simp))).up _ (by simp), cache0 (fun j hj => by rw [xup_n _ _ (by decide)]; exact g3 j hj), by rw [xup_s, upd_s], by rw [xup_s, upd_n _ _ (by decide), e1, upd_s], fun q a b d => by rw [xup_s, upd_n _ _ a, e1, upd_n _ _ b]; exact ho q d, fun j hj t ht => by rw [xup_s, upd_n _ _ (by omega), e1, upd_n _ _ (by omega)]; exact hz j hj t ht⟩
      rw [e1, upd_n _ _ (by decide), ho 1 (by omega)]
    | succ r ih =>
      intro n k m' hk hn hE ho hz
      obtain ⟨n, rfl⟩ : ∃ z, n = z + 1 := ⟨n - 1, by omega⟩
      have hi := fun c'' => ih n (k + 1) c'' (by omega) (by omega)
      have g0 : ∀ m, sX9_cellAt (nI k) 0 m = some (nI (9 + 3 * k + 0), m) := fun m => cellAt3 k 0 m
      have g1 : ∀ m, sX9_cellAt (nI k) 1 m = some (nI (9 + 3 * k + 1), m) := fun m => cellAt3 k 1 m
      have g2 : ∀ m, sX9_cellAt (nI k) 2 m = some (nI (9 + 3 * k + 2), m) := fun m => cellAt3 k 2 m
      have gx : ∀ t, t < 3 → xin (nI (9 + 3 * k + t)) 242 := fun t ht => xin_n (by omega) (by omega)
      rw [xloop_s]
      generalize xloop (sX9_flat_L2 p) n = self at hi ⊢
      simp only [sX9_flat_L2, xlet_e, g0, g1, g2, xb_s, if_pos (gx 0 (by omega)), if_pos (gx 1 (by omega)), if_pos (gx 2 (by omega))]
      rw [if_neg (show ¬ (8 : Int32) ≤ nI k from nI_ge (a := k) (b := 8) (by omega) (by omega)), nI_s, nI_N (by omega), nI_N (by omega), nI_N (by omega)]
      refine hi _ (((hE.up _ (by simp)).up _ (by simp)).up _ (by simp)) (fun q hq => ?_) (fun j hj t ht => ?_)
      · rw [xup_s, upd_n _ _ (by omega), xup_s, upd_n _ _ (by omega), xup_s, upd_n _ _ (by omega)]; exact ho q hq
      · by_cases e : j = k
        · subst e
          rcases (show t = 0 ∨ t = 1 ∨ t = 2 by omega) with rfl | rfl | rfl
          · rw [xup_s, upd_n _ _ (by omega), xup_s, upd_n _ _ (by omega), xup_s, upd_s]; rfl
          · rw [xup_s, upd_n _ _ (by omega), xup_s, upd_s]; rfl
          · rw [xup_s, upd_s]; rfl
        · rw [xup_s, upd_n _ _ (by omega), xup_s, upd_n _ _ (by omega), xup_s, upd_n _ _ (by omega)]
          exact hz j (by omega) t ht
  exact key 8 xF 0 m rfl (by rw [xF_eq]; omega) (EqX.rf _ _) (fun _ _ => rfl) (fun j hj => absurd hj (Nat.not_lt_zero j))
theorem op_bay (p : Int32) : OpR (sX8_bay p) (sX9_bay p) := by
  intro c m h
  have hV := h.V
  unfold sX8_bay sX9_bay
  simp only [zX8_within, zX9_within, xb_s, bif0, fC1, fM1, fC3, fM3, xlet_e]
  by_cases h1 : 3 ≤ p ∧ p ≤ 8
  · rw [if_pos h1, if_pos h1, h.F.1]
    by_cases h2 : m 1 2 ≤ 0
    · rw [if_pos h2, if_pos h2]
      obtain ⟨c', g1, g2, g3, g4⟩ := zX0_renew c p
      obtain ⟨m', k1, k2, k3, k4, k5, k6, k7⟩ := zX9_flat m p
      have e : ∀ k, ¬ k ∈ [1, 2, 3, 4] → c' k = c k := g2
      have hp : 3 ≤ p.toInt ∧ p.toInt ≤ 8 := ⟨i_le.mp h1.1, i_le.mp h1.2⟩
      have h20 : (m 1 2).toInt = 0 := by
        have a := hV.2.1
        have b := i_le.mp h2
        have : (0 : Int32).toInt = 0 := rfl
        omega
      obtain ⟨a1, a2, a3, a4, a5, a6, a7, a8, a9, a10, a11⟩ := hV
      have hv' : VT (m' 1) 0 ∧ VT (m' 1) 1 := ⟨VT_ag (fun j hj => k6 j (by omega) (by omega) (by omega)) a10, VT_ag (fun j hj => k6 j (by omega) (by omega) (by omega)) a11⟩
      rw [g1, xb_s, k1, xb_s, h.B.1]
      refine ⟨_, c', m', rfl, rfl, h.snap ⟨⟨?_, ?_, cellsR_i.mpr (fun j hj t ht => ?_), ?_, ?_⟩, ⟨?_, ?_⟩, ?_, ?_, ?_, ?_⟩ k3 (g2.mono (by unfold LSN; simp)) (k2.mono (by unfold LMN; simp))⟩
      · rw [g3, if_neg (by decide), if_pos rfl, k4]
      · rw [g3, if_neg (by decide), if_neg (by decide), k6 3 (by omega) (by omega) (by omega)]; exact h.B.2.1
      · rw [show 1 + 1 + t = 2 + t by omega, g4 j hj t ht, k7 j hj t ht]
      · exact h.B.2.2.2.1.gg (e _ (by simp)) (e _ (by simp)) (fun j hj => k6 j (by omega) (by omega) (by omega))
      · exact h.B.2.2.2.2.gg (e _ (by simp)) (e _ (by simp)) (fun j hj => k6 j (by omega) (by omega) (by omega))
      · rw [g3, if_neg (by decide), if_neg (by decide), k6 4 (by omega) (by omega) (by omega)]; exact h.L.1
      · rw [g3, if_pos rfl, k5]
      · exact (h.F.go (fun k a b => e k (by simp; omega))).ag (k6 0 (by omega) (by omega) (by omega)) (k6 2 (by omega) (by omega) (by omega)) (fun j a b => k6 j (by omega) (by omega) (by omega))
      · exact (h.D.go (fun k a b => e k (by simp; omega))).ag (k6 6 (by omega) (by omega) (by omega)) (k6 7 (by omega) (by omega) (by omega)) (k6 8 (by omega) (by omega) (by omega)) (fun j a b => k6 j (by omega) (by omega) (by omega))
      · refine ⟨by rw [k4]; exact hp, by rw [k6 2 (by omega) (by omega) (by omega)]; exact a2, by rw [k6 3 (by omega) (by omega) (by omega)]; exact a3, by rw [k6 4 (by omega) (by omega) (by omega)]; exact a4, ?_, by rw [k6 7 (by omega) (by omega) (by omega)]; exact a6, by rw [k6 8 (by omega) (by omega) (by omega)]; exact a7, fun j hj => ?_, fun j hj => by rw [k6 _ (by omega) (by omega) (by omega)]; exact a9 j hj, hv'.1, hv'.2⟩
        · rw [k5]
          refine ⟨by decide, ?_⟩
          have : (0 : Int32).toInt = 0 := rfl
          rw [this]
          exact Int.pow_pos (by decide)
        · rw [k6 (33 + 5 * j) (by omega) (by omega) (by omega), k6 (36 + 5 * j) (by omega) (by omega) (by omega), k6 (37 + 5 * j) (by omega) (by omega) (by omega), k6 2 (by omega) (by omega) (by omega)]
          refine ⟨(a8 j hj).1, fun hh => ?_, (a8 j hj).2.2⟩
          rw [i_N] at hh
          omega
      · rw [k6 0 (by omega) (by omega) (by omega)]; exact h.1.2.2.2.2.2
    · rw [if_neg h2, if_neg h2]
      exact errR h (by decide) _ rfl rfl
  · rw [if_neg h1, if_neg h1]
    exact errR h (by decide) _ rfl rfl
theorem VN.desk {N : Row} (h : VN N) {q : Nat} {p : Int32} (hq : q = 8 ∨ (118 ≤ q ∧ q < 138)) (h8 : q = 8 → 0 ≤ p.toInt ∧ p.toInt ≤ 20) : VN (upd N q p) := by
  have hV := h
  obtain ⟨a1, a2, a3, a4, a5, a6, a7, a8, a9, a10, a11⟩ := h
  have nN : ∀ j, ¬ j = q → upd N q p j = N j := fun j hj => upd_n _ _ hj
  refine hV.chg (nN _ (by omega)) (nN _ (by omega)) (by rw [nN _ (by omega)]; exact a3) (by rw [nN _ (by omega)]; exact a4) (by rw [nN _ (by omega)]; exact a5) (by rw [nN _ (by omega)]; exact a6) ?_ (fun i hi => ?_) (fun i hi => by rw [nN _ (by omega)]; exact a9 i hi) ⟨VT_ag (fun j hj => nN _ (by omega)) a10, VT_ag (fun j hj => nN _ (by omega)) a11⟩
  · by_cases e : q = 8
    · subst e; rw [upd_s]; exact h8 rfl
    · rw [nN _ (by omega)]; exact a7
  · rw [nN _ (by omega), nN _ (by omega), nN _ (by omega)]; exact a8 i hi
theorem Rel.waitN {c m : xS} (h : Rel c m) {p : Int32} (h8 : 0 ≤ p.toInt ∧ p.toInt ≤ 20) : Rel (xup c 39 (upd (c 39) 2 p)) (xup m 1 (upd (m 1) 8 p)) := by
  have nN : ∀ j, ¬ j = 8 → upd (m 1) 8 p j = m 1 j := fun j hj => upd_n _ _ hj
  refine h.snap ?_ ?_ ((EqX.rf _ _).up _ (by unfold LSN; simp)) ((EqX.rf _ _).up _ (by unfold LMN; simp))
  · rw [xup_s]
    refine ⟨(h.B.go (fun q a b _ _ => xup_n _ _ (by omega))).ag ⟨fun q a b => nN q (by omega), fun q a => nN q (by omega)⟩ (nN _ (by omega)) (nN _ (by omega)), (h.L.go (xup_n _ _ (by omega))).ag (nN _ (by omega)) (nN _ (by omega)), (h.F.go (fun q a b => xup_n _ _ (by omega))).ag (nN _ (by omega)) (nN _ (by omega)) (fun q a b => nN q (by omega)), ?_, h.V.desk (Or.inl rfl) (fun _ => h8), by rw [nN _ (by omega)]; exact h.1.2.2.2.2.2⟩
    obtain ⟨d0, d1, d2, d3, d4⟩ := h.D
    refine ⟨by rw [xup_s, upd_n _ _ (by decide), nN _ (by omega)]; exact d0, by rw [xup_s, upd_n _ _ (by decide), nN _ (by omega)]; exact d1, by rw [xup_s, upd_s, upd_s], fun j hj => by rw [xup_n _ _ (by decide), nN _ (by omega)]; exact d3 j hj, fun j hj => by rw [xup_n _ _ (by decide), nN _ (by omega)]; exact d4 j hj⟩
  · exact h.2.1.ag (xup_n _ _ (by decide)) (by rw [xup_s]; exact ⟨fun q a b => nN q (by omega), fun q a => nN q (by omega)⟩)
theorem Rel.waitV {c m : xS} (h : Rel c m) {k : Nat} (hk : k < 20) (p : Int32) : Rel (xup c 41 (upd (c 41) k p)) (xup m 1 (upd (m 1) (118 + k) p)) := by
  have nN : ∀ j, ¬ j = 118 + k → upd (m 1) (118 + k) p j = m 1 j := fun j hj => upd_n _ _ hj
  refine h.snap ?_ ?_ ((EqX.rf _ _).up _ (by unfold LSN; simp)) ((EqX.rf _ _).up _ (by unfold LMN; simp))
  · rw [xup_s]
    refine ⟨(h.B.go (fun q a b _ _ => xup_n _ _ (by omega))).ag ⟨fun q a b => nN q (by omega), fun q a => nN q (by omega)⟩ (nN _ (by omega)) (nN _ (by omega)), (h.L.go (xup_n _ _ (by omega))).ag (nN _ (by omega)) (nN _ (by omega)), (h.F.go (fun q a b => xup_n _ _ (by omega))).ag (nN _ (by omega)) (nN _ (by omega)) (fun q a b => nN q (by omega)), ?_, h.V.desk (Or.inr (by omega)) (fun e => absurd e (by omega)), by rw [nN _ (by omega)]; exact h.1.2.2.2.2.2⟩
    obtain ⟨d0, d1, d2, d3, d4⟩ := h.D
    refine ⟨by rw [xup_n _ _ (by decide), nN _ (by omega)]; exact d0, by rw [xup_n _ _ (by decide), nN _ (by omega)]; exact d1, by rw [xup_n _ _ (by decide), nN _ (by omega)]; exact d2, fun j hj => by rw [xup_n _ _ (by decide), nN _ (by omega)]; exact d3 j hj, fun j hj => ?_⟩
    rw [xup_s]
    by_cases e : j = k
    · subst e; rw [upd_s, upd_s]
    · rw [upd_n _ _ e, nN _ (by omega)]; exact d4 j hj
  · exact h.2.1.ag (xup_n _ _ (by decide)) (by rw [xup_s]; exact ⟨fun q a b => nN q (by omega), fun q a => nN q (by omega)⟩)
theorem op_tell (p : Int32) : OpR (sX8_tell p) (sX9_tell p) := by
  intro c m h
  unfold sX8_tell sX9_tell
  simp only [fC4, fM4, xlet_e]
  have h8 := h.V.2.2.2.2.2.2.1
  obtain ⟨w, hw, ew⟩ := nI_ex (n := 21) h8.1 (by omega)
  rw [h.D.2.2.1, ew]
  have e118 : (118 : Int32) + nI w = nI (118 + w) := by rw [show (118 : Int32) = nI 118 from rfl, nI_add]
  rw [e118]
  by_cases h1 : w = 20
  · subst h1
    rw [if_neg (show ¬ nI 20 < 20 by decide), if_pos (show nI 20 = 20 from rfl)]
    exact errR h (by decide) _ rfl rfl
  · have hx : xin (nI w) 20 := xin_n (by omega) (by omega)
    have hx2 : xin (nI (118 + w)) 242 := xin_n (by omega) (by omega)
    rw [if_pos (show nI w < 20 from (nI_ltI (a := w) (b := 20) (by omega) (by omega)).mpr (by omega)), if_neg (show ¬ nI w = 20 from fun e => h1 ((nI_eq (a := w) (b := 20) (by omega) (by omega)).mp e)), if_pos hx, if_pos hx2, nI_N (by omega), nI_N (by omega)]
    have r1 := h.waitV (k := w) (by omega) p
    have e1 : xup m 1 (upd (m 1) (118 + w) p) 1 8 = nI w := by rw [xup_s, upd_n _ _ (by omega), ew]
    have e2 : xup c 41 (upd (c 41) w p) 39 2 = nI w := by rw [xup_n _ _ (by decide), h.D.2.2.1, ew]
    generalize xup m 1 (upd (m 1) (118 + w) p) = m1 at r1 e1 ⊢
    generalize xup c 41 (upd (c 41) w p) = c1 at r1 e2 ⊢
    rw [e1, e2, nI_s]
    have r2 := r1.waitN (p := nI (w + 1)) (by rw [i_nI (by omega)]; omega)
    have hv : xup m1 1 (upd (m1 1) 8 (nI (w + 1))) 1 8 = xup c1 39 (upd (c1 39) 2 (nI (w + 1))) 39 2 := by rw [xup_s, upd_s, xup_s, upd_s]
    rw [hv]
    exact ⟨_, _, _, rfl, rfl, r2⟩
theorem op_check : OpR sX8_check sX9_check := by
  intro c m h0
  unfold sX8_check sX9_check
  simp only [xlet_e]
  have h8 := h0.V.2.2.2.2.2.2.1
  obtain ⟨w, hw, ew⟩ := nI_ex (n := 21) h8.1 (by omega)
  rw [h0.D.2.2.1, ew]
  have h := h0.waitN (p := 0) (by decide)
  have hwait : ∀ j, j < 20 → xup m 1 (upd (m 1) 8 0) 1 (118 + j) = m 1 (118 + j) := fun j hj => by rw [xup_s, upd_n _ _ (by omega)]
  generalize xup c 39 (upd (c 39) 2 0) = c at h ⊢
  generalize xup m 1 (upd (m 1) 8 0) = m' at h hwait ⊢
  have hV := h.V.H
  obtain ⟨c1, g1, g2, g3, g4⟩ := drwB h (bk_ok h)
  rw [upd_same] at g2
  obtain ⟨c2, t1, t2, t3, t4⟩ := thkB g4 g2 (fun _ _ _ => rfl) (bk_ok h) (n := 0) (by omega)
  have t1 : sX8_think 0 c1 = some ((), c2) := t1
  have t2 : FleetR c2 33 (m' 1) := t2
  obtain ⟨m1, k1, k2, k3, k4⟩ := asd h
  rw [h.L.1, g1, xb_s, t1, xb_s, k1]
  have hC : ChartR c2 (m' 1) := g2.go (fun q x y => t3 q (by unfold LT; simp; omega))
  have hR : Rel c2 m1 := k4.scrC ((g3.mono (by unfold LC LSC; simp)).tr (t3.mono (by unfold LT LSC; simp)))
  have key : ∀ (r n1 n2 k : Nat) (c3 m3 : xS), k + r = w → r < n1 → r + 1 < n2 → Rel c3 m1 → FleetR c3 33 (hoursR (m' 1) k) → ChartR c3 (m' 1) → m3 1 = hoursR (m' 1) k → EqX [1, 5, 8, 9] m1 m3 → cacheOk m3 → ∃ v c' mm, xloop (sX8_check_L41 (nI w)) n1 (nI k) c3 = some (v, c') ∧ xloop (sX9_check_L31 (nI w)) n2 (0, nI k) m3 = some (v, mm) ∧ Rel c' mm := by
    intro r
    induction r with
    | zero =>
      intro n1 n2 k c3 m3 hk hn1 hn2 hR3 hF hC3 h1 hE hc
      obtain ⟨n1, rfl⟩ : ∃ z, n1 = z + 1 := ⟨n1 - 1, by omega⟩
      obtain ⟨n2, rfl⟩ : ∃ z, n2 = z + 1 := ⟨n2 - 1, by omega⟩
      have hk' : k = w := by omega
      subst hk'
      obtain ⟨mm, b1, -, -, b2⟩ := back hR3 k3 hE (by rw [h1, k2]; exact (hoursR_ag hV k).B2) hc 0
      rw [xloop_s, xloop_s]
      generalize xloop (sX8_check_L41 (nI k)) n1 = self1
      generalize xloop (sX9_check_L31 (nI k)) n2 = self2
      simp only [sX8_check_L41, sX9_check_L31, sX9_check_L74]
      rw [if_pos (Int32.le_refl _), if_pos (Int32.le_refl _), b1, xb_s]
      exact ⟨0, c3, mm, rfl, rfl, b2⟩
    | succ r ih =>
      intro n1 n2 k c3 m3 hk hn1 hn2 hR3 hF hC3 h1 hE hc
      obtain ⟨n1, rfl⟩ : ∃ z, n1 = z + 1 := ⟨n1 - 1, by omega⟩
      obtain ⟨n2, rfl⟩ : ∃ z, n2 = z + 2 := ⟨n2 - 2, by omega⟩
      have hVk := VH_hoursR hV k
      have hagk := hoursR_ag hV k
      obtain ⟨c4, p1, p2, p3⟩ := zX8_passHour (Or.inr rfl) hF (hC3.H hV.c8 hagk) (((by have := hR3.B; rw [k2] at this; exact this : BayR c3 1 (m' 1))).H hagk) hVk
      obtain ⟨m4, q1, q2, q3, q4⟩ := zX9_hour (m := m3) (by rw [h1]; exact hVk) hc
      have hR4 : Rel c4 m1 := hR3.scrC (p3.mono (by unfold LF LSC; simp))
      have q2' : m4 1 = hoursR (m' 1) (k + 1) := by rw [q2, h1, hoursR_s]
      have p2' : FleetR c4 33 (hoursR (m' 1) (k + 1)) := by rw [hoursR_s]; exact p2
      have hVs := VH_hoursR hV (k + 1)
      have hx : xin (nI k) 20 := xin_n (by omega) (by omega)
      have e118 : (118 : Int32) + nI k = nI (118 + k) := by rw [show (118 : Int32) = nI 118 from rfl, nI_add]
      have hx2 : xin (nI (118 + k)) 242 := xin_n (by omega) (by omega)
      have hi := ih n1 (n2 + 1) (k + 1) c4 m4 (by omega) (by omega) (by omega) hR4 p2' (hC3.go (fun q x y => p3 q (by unfold LF; simp; omega))) q2' (hE.tr q3) q4
      have ew1 : c4 41 k = m' 1 (118 + k) := by have := hR4.D.2.2.2.2 k (by omega); rw [k2] at this; exact this
      have ew2 : m4 1 (118 + k) = m' 1 (118 + k) := by rw [q2']; exact hoursR_ag hV (k + 1) _ (by omega) (by omega)
      obtain ⟨mm, b1, -, -, b2⟩ := back hR4 k3 (hE.tr q3) (by rw [q2', k2]; exact (hoursR_ag hV (k + 1)).B2) q4 (1 + nI k)
      rw [xloop_s, xloop_s]
      generalize xloop (sX8_check_L41 (nI w)) n1 = self1 at hi ⊢
      generalize hs2 : xloop (sX9_check_L31 (nI w)) (n2 + 1) = self2 at hi ⊢
      simp only [sX8_check_L41, sX9_check_L31, sX9_check_L74, sX9_check_L67, xlet_e, e118, if_pos hx, if_pos hx2]
      have hlt : ¬ nI w ≤ nI k := nI_ge (by omega) (by omega)
      rw [if_neg hlt, if_neg hlt, if_pos trivial, p1, xb_s, q1, xb_s, zX3_countAt p2' hVs, xb_s, zX9_manyIn (by rw [q2']; exact hVs), xb_s, nI_N (by omega), nI_N (by omega), ew1, ew2, q2', nI_s]
      by_cases h5 : m' 1 (118 + k) = nI (inC (hoursR (m' 1) (k + 1)))
      · rw [if_pos h5, if_pos h5]
        exact hi
      · rw [if_neg h5, if_neg h5, ← hs2, xloop_s]
        generalize xloop (sX9_check_L31 (nI w)) n2 = self3
        simp only [sX9_check_L31, sX9_check_L74]
        have hz : ¬ (1 : Int32) + nI k = 0 := by
          rw [show (1 : Int32) = nI 1 from rfl, nI_add]
          exact fun e => absurd ((nI_eq (a := 1 + k) (b := 0) (by omega) (by omega)).mp e) (by omega)
        rw [if_neg hz, b1, xb_s]
        refine ⟨1 + nI k, c4, mm, rfl, ?_, b2⟩
        split <;> rfl
  exact key w xF xF 0 c2 m1 (by omega) (by rw [xF_eq]; omega) (by rw [xF_eq]; omega) hR t2 hC k2 (EqX.rf _ _) hR.2.1
