/-! ===== SHEETS ===== -/
theorem Rel.sht {c m c' m' : xS} (h : Rel c m) (hC : EqX [57, 58, 59, 60, 61, 62, 63, 64] c c') (hM : EqX [11, 12, 13, 14] m m') (hS : ∀ i, i < 4 → SheetR c' m' i) : Rel c' m' := by
  obtain ⟨s1, s2, s3, s4, -, s6, t1, t2, t3⟩ := h
  have kc : ∀ q, ¬ q ∈ [57, 58, 59, 60, 61, 62, 63, 64] → c' q = c q := hC
  have km : ∀ q, ¬ q ∈ [11, 12, 13, 14] → m' q = m q := hM
  refine ⟨?_, s2.go (km 1 (by simp)) (km 5 (by simp)), by rw [kc 0 (by simp), km 0 (by simp)]; exact s3, fun hz => ?_, hS, fun e a b => ?_, ?_⟩
  · rw [km 1 (by simp)]
    exact s1.go (fun q a b _ _ => kc q (by simp; omega)) (fun q a b => kc q (by simp; omega)) (fun q a b => kc q (by simp; omega))
  · rw [km 0 (by simp)] at hz
    rw [km 2 (by simp)]
    exact (s4 hz).go (fun q a b _ _ => kc q (by simp; omega)) (fun q a b => kc q (by simp; omega)) (fun q a b => kc q (by simp; omega))
  · rw [kc 65 (by simp), km 4 (by simp)]; exact s6 e a b
  · unfold TraceR
    rw [kc 54 (by simp), kc 55 (by simp), km 0 (by simp), km 10 (by simp)]
    exact ⟨t1, t2, t3⟩
theorem e40 (i j : Nat) : (40 : Int32) * nI i + nI j = nI (40 * i + j) := by
  rw [show (40 : Int32) = nI 40 from rfl, pk_mul, nI_add]
theorem zX6_renew (c : xS) {i : Nat} (hi : i < 4) (p q : Int32) : ∃ c', sX6_renew (57 + 2 * i) p q c = some ((), c') ∧ EqX [57 + 2 * i, 57 + 2 * i + 1] c c' ∧ c' (57 + 2 * i) 0 = p ∧ c' (57 + 2 * i) 1 = q ∧ ∀ j, j < 40 → c' (57 + 2 * i + 1) j = 0 := by
  unfold sX6_renew
  simp only [xlet_e]
  generalize h1 : xup (xup c (57 + 2 * i) (upd (c (57 + 2 * i)) 0 p)) (57 + 2 * i) _ = c1
  have E1 : EqX [57 + 2 * i, 57 + 2 * i + 1] c c1 := by rw [← h1]; exact ((EqX.rf _ _).up _ (by simp)).up _ (by simp)
  have V0 : c1 (57 + 2 * i) 0 = p := by rw [← h1, xup_s, upd_n _ _ (by decide), xup_s, upd_s]
  have V1 : c1 (57 + 2 * i) 1 = q := by rw [← h1, xup_s, upd_s]
  have key : ∀ (r n k : Nat) (c' : xS), k + r = 40 → r < n → EqX [57 + 2 * i, 57 + 2 * i + 1] c c' → c' (57 + 2 * i) = c1 (57 + 2 * i) → (∀ j, j < k → c' (57 + 2 * i + 1) j = 0) → ∃ c'', xloop (sX6_renew_L12 (57 + 2 * i)) n (nI k) c' = some ((), c'') ∧ EqX [57 + 2 * i, 57 + 2 * i + 1] c c'' ∧ c'' (57 + 2 * i) = c1 (57 + 2 * i) ∧ ∀ j, j < 40 → c'' (57 + 2 * i + 1) j = 0 := by
    intro r
    induction r with
    | zero =>
      intro n k c' hk hn hE hc hz
      obtain ⟨n, rfl⟩ : ∃ z, n = z + 1 := ⟨n - 1, by omega⟩
      have hk' : k = 40 := by omega
      subst hk'
      rw [xloop_s]
      generalize xloop (sX6_renew_L12 (57 + 2 * i)) n = self
      simp only [sX6_renew_L12]
      rw [if_pos (by decide)]
      exact ⟨c', rfl, hE, hc, hz⟩
    | succ r ih =>
      intro n k c' hk hn hE hc hz
      obtain ⟨n, rfl⟩ : ∃ z, n = z + 1 := ⟨n - 1, by omega⟩
      have hx : xin (nI k) 40 := xin_n (by omega) (by omega)
      have hi := fun c'' => ih n (k + 1) c'' (by omega) (by omega)
      rw [xloop_s]
      generalize xloop (sX6_renew_L12 (57 + 2 * i)) n = self at hi ⊢
      simp only [sX6_renew_L12, xlet_e, if_pos hx]
      rw [if_neg (show ¬ (40 : Int32) ≤ nI k from nI_ge (a := k) (b := 40) (by omega) (by omega)), nI_s, nI_N (by omega)]
      refine hi _ (hE.up _ (by simp)) (by rw [xup_n _ _ (by omega)]; exact hc) (fun j hj => ?_)
      rw [xup_s]
      by_cases e : j = k
      · subst e; rw [upd_s]
      · rw [upd_n _ _ e]; exact hz j (by omega)
  obtain ⟨c', g1, g2, g3, g4⟩ := key 40 xF 0 c1 rfl (by rw [xF_eq]; omega) E1 rfl (fun j hj => absurd hj (Nat.not_lt_zero j))
  exact ⟨c', g1, g2, by rw [g3]; exact V0, by rw [g3]; exact V1, g4⟩
theorem zX9_sheet_loop (m : xS) {i : Nat} (hi : i < 4) : ∃ m', xloop (sX9_sheet_L93 (nI i)) xF 0 m = some (1, m') ∧ EqX [13] m m' ∧ (∀ j, j < 40 → m' 13 (40 * i + j) = 0) ∧ ∀ q, (q < 40 * i ∨ 40 * i + 40 ≤ q) → m' 13 q = m 13 q := by
  have key : ∀ (r n k : Nat) (m' : xS), k + r = 40 → r < n → EqX [13] m m' → (∀ j, j < k → m' 13 (40 * i + j) = 0) → (∀ q, (q < 40 * i ∨ 40 * i + 40 ≤ q) → m' 13 q = m 13 q) → ∃ m'', xloop (sX9_sheet_L93 (nI i)) n (nI k) m' = some (1, m'') ∧ EqX [13] m m'' ∧ (∀ j, j < 40 → m'' 13 (40 * i + j) = 0) ∧ ∀ q, (q < 40 * i ∨ 40 * i + 40 ≤ q) → m'' 13 q = m 13 q := by
    intro r
    induction r with
    | zero =>
      intro n k m' hk hn hE hz ho
      obtain ⟨n, rfl⟩ : ∃ z, n = z + 1 := ⟨n - 1, by omega⟩
      have hk' : k = 40 := by omega
      subst hk'
      rw [xloop_s]
      generalize xloop (sX9_sheet_L93 (nI i)) n = self
      simp only [sX9_sheet_L93]
      rw [if_pos (by decide)]
      exact ⟨m', rfl, hE, hz, ho⟩
    | succ r ih =>
      intro n k m' hk hn hE hz ho
      obtain ⟨n, rfl⟩ : ∃ z, n = z + 1 := ⟨n - 1, by omega⟩
      have hx : xin (nI (40 * i + k)) 160 := xin_n (by omega) (by omega)
      have hi := fun c'' => ih n (k + 1) c'' (by omega) (by omega)
      rw [xloop_s]
      generalize xloop (sX9_sheet_L93 (nI i)) n = self at hi ⊢
      simp only [sX9_sheet_L93, xlet_e, e40, if_pos hx]
      rw [if_neg (show ¬ (40 : Int32) ≤ nI k from nI_ge (a := k) (b := 40) (by omega) (by omega)), nI_s, nI_N (by omega)]
      refine hi _ (hE.up _ (by simp)) (fun j hj => ?_) (fun q hq => ?_)
      · rw [xup_s]
        by_cases e : j = k
        · subst e; rw [upd_s]
        · rw [upd_n _ _ (by omega)]; exact hz j (by omega)
      · rw [xup_s, upd_n _ _ (by omega)]; exact ho q hq
  exact key 40 xF 0 m rfl (by rw [xF_eq]; omega) (EqX.rf _ _) (fun j hj => absurd hj (Nat.not_lt_zero j)) (fun _ _ => rfl)
theorem shtOp {c m : xS} (h : Rel c m) {i : Nat} (hi : i < 4) (b l : Int32) (hb : b = 0 ∨ b = 8 ∨ b = 16 ∨ b = 32) (hl : 0 ≤ l.toInt ∧ l.toInt ≤ 40) : ∃ r c' m', xbind (sX6_renew (57 + 2 * i) b l c) (fun _ s => some ((1 : Int32), s)) = some (r, c') ∧ xloop (sX9_sheet_L93 (nI i)) xF 0 (xup (xup m 11 (upd (m 11) i b)) 12 (upd (xup m 11 (upd (m 11) i b) 12) i l)) = some (r, m') ∧ Rel c' m' := by
  obtain ⟨c', g1, g2, g3, g4, g5⟩ := zX6_renew c hi b l
  obtain ⟨m', k1, k2, k3, k4⟩ := zX9_sheet_loop (xup (xup m 11 (upd (m 11) i b)) 12 (upd (xup m 11 (upd (m 11) i b) 12) i l)) hi
  have m11 : m' 11 = upd (m 11) i b := by rw [k2 11 (by simp), xup_n _ _ (by decide), xup_s]
  have m12 : m' 12 = upd (m 12) i l := by rw [k2 12 (by simp), xup_s, xup_n _ _ (by decide)]
  have e : ∀ k, ¬ k ∈ [57 + 2 * i, 57 + 2 * i + 1] → c' k = c k := g2
  refine ⟨1, c', m', by rw [g1, xb_s], k1, h.sht (g2.mono (by simp; omega)) ((((EqX.rf _ _).up _ (by simp)).up _ (by simp)).tr (k2.mono (by simp))) (fun j hj => ?_)⟩
  by_cases q : j = i
  · subst q
    refine ⟨by rw [g3, m11, upd_s], by rw [g4, m12, upd_s], fun t ht => by rw [g5 t ht, k3 t ht], by rw [m11, upd_s]; exact hb, by rw [m12, upd_s]; exact hl⟩
  · have hS := h.2.2.2.2.1 j hj
    obtain ⟨a1, a2, a3, a4, a5⟩ := hS
    refine ⟨by rw [e _ (by simp; omega), m11, upd_n _ _ q]; exact a1, by rw [e _ (by simp; omega), m12, upd_n _ _ q]; exact a2, fun t ht => ?_, by rw [m11, upd_n _ _ q]; exact a4, by rw [m12, upd_n _ _ q]; exact a5⟩
    rw [e _ (by simp; omega), k4 _ (by omega), xup_n _ _ (by decide), xup_n _ _ (by decide)]; exact a3 t ht
theorem op_sheet (p b l : Int32) : OpR (sX8_sheet p b l) (sX9_sheet p b l) := by
  intro c m h
  unfold sX8_sheet sX9_sheet sX8_sheet_L29 sX9_sheet_L29 sX8_sheet_L35 sX9_sheet_L36 sX9_sheet_L51 sX9_sheet_L68 sX9_sheet_L89
  simp only [zX8_isSheet, zX9_isSheet, xb_s, bif0, fC1, fM1, fC3, fM3, xlet_e]
  by_cases h1 : 0 ≤ p ∧ p ≤ 3
  · rw [if_pos h1, if_pos h1]
    obtain ⟨i, hi, rfl⟩ := inN (n := 4) h1 (by decide)
    have hx : xin (nI i) 4 := xin_n hi (by omega)
    simp only [if_pos hx]
    rw [nI_N (by omega)]
    by_cases b0 : b = 0
    · simp only [if_pos b0]
      subst b0
      exact shtOp h hi 0 0 (Or.inl rfl) (by decide)
    · simp only [if_neg b0]
      have go : (b = 8 ∨ b = 16 ∨ b = 32) → ∃ r c' m', (if 0 ≤ l then if l ≤ 40 then xbind (sX6_renew (57 + 2 * i) b l c) (fun _ s82 => some ((1 : Int32), s82)) else some (-1000000001, cErr c 1) else some (-1000000003, cErr c 3)) = some (r, c') ∧ (if 0 ≤ l then if l ≤ 40 then xloop (sX9_sheet_L93 (nI i)) xF 0 (xup (xup m 11 (upd (m 11) i b)) 12 (upd (xup m 11 (upd (m 11) i b) 12) i l)) else some (-1000000001, mErr m 1) else some (-1000000003, mErr m 3)) = some (r, m') ∧ Rel c' m' := by
        intro hb
        by_cases l0 : 0 ≤ l
        · rw [if_pos l0, if_pos l0]
          by_cases l1 : l ≤ 40
          · rw [if_pos l1, if_pos l1]
            exact shtOp h hi b l (Or.inr hb) ⟨i_le.mp l0, i_le.mp l1⟩
          · rw [if_neg l1, if_neg l1]
            exact errR h (by decide) _ rfl rfl
        · rw [if_neg l0, if_neg l0]
          exact errR h (by decide) _ rfl rfl
      by_cases b1 : b = 8
      · simp only [if_pos b1]; exact go (Or.inl b1)
      · simp only [if_neg b1]
        by_cases b2 : b = 16
        · simp only [if_pos b2]; exact go (Or.inr (Or.inl b2))
        · simp only [if_neg b2]
          by_cases b3 : b = 32
          · simp only [if_pos b3]; exact go (Or.inr (Or.inr b3))
          · simp only [if_neg b3]
            exact errR h (by decide) _ rfl rfl
  · rw [if_neg h1, if_neg h1]
    exact errR h (by decide) _ rfl rfl
theorem putOp {c m : xS} (h : Rel c m) {i j : Nat} (hi : i < 4) (hj : j < 40) (v : Int32) : Rel (xup c (57 + 2 * i + 1) (upd (c (57 + 2 * i + 1)) j v)) (xup m 13 (upd (m 13) (40 * i + j) v)) := by
  refine h.sht ((EqX.rf _ _).up _ (by simp; omega)) ((EqX.rf _ _).up _ (by simp)) (fun q hq => ?_)
  obtain ⟨a1, a2, a3, a4, a5⟩ := h.2.2.2.2.1 q hq
  refine ⟨by rw [xup_n _ _ (by omega), xup_n _ _ (by decide)]; exact a1, by rw [xup_n _ _ (by omega), xup_n _ _ (by decide)]; exact a2, fun t ht => ?_, by rw [xup_n _ _ (by decide)]; exact a4, by rw [xup_n _ _ (by decide)]; exact a5⟩
  rw [xup_s]
  by_cases e : q = i
  · subst e
    rw [xup_s]
    by_cases e2 : t = j
    · subst e2; rw [upd_s, upd_s]
    · rw [upd_n _ _ e2, upd_n _ _ (by omega)]; exact a3 t ht
  · rw [xup_n _ _ (by omega), upd_n _ _ (by omega)]; exact a3 t ht
theorem inLen {m : xS} {i : Nat} (hl : 0 ≤ (m 12 i).toInt ∧ (m 12 i).toInt ≤ 40) {p : Int32} (h : 0 ≤ p ∧ p ≤ m 12 i - 1) : ∃ j : Nat, j < 40 ∧ (j : Int) < (m 12 i).toInt ∧ p = nI j := by
  have h2 := h.2
  rw [i_le, i_sub (by show _ ≤ (m 12 i).toInt - 1; omega) (by show (m 12 i).toInt - 1 ≤ _; omega)] at h2
  have h2 : p.toInt ≤ (m 12 i).toInt - 1 := h2
  obtain ⟨j, hj, rfl⟩ := nI_ex (n := 40) (i_le.mp h.1) (by omega)
  rw [i_nI (by omega)] at h2
  exact ⟨j, hj, by omega, rfl⟩
theorem op_put (p q v : Int32) : OpR (sX8_put p q v) (sX9_put p q v) := by
  intro c m h
  unfold sX8_put sX9_put sX9_put_L97
  simp only [zX8_isSheet, zX9_isSheet, zX8_within, zX9_within, xb_s, bif0, fC1, fM1, fC2, fM2, xlet_e]
  by_cases h1 : 0 ≤ p ∧ p ≤ 3
  · rw [if_pos h1, if_pos h1]
    obtain ⟨i, hi, rfl⟩ := inN (n := 4) h1 (by decide)
    have hx : xin (nI i) 4 := xin_n hi (by omega)
    obtain ⟨a1, a2, a3, a4, a5⟩ := h.2.2.2.2.1 i hi
    simp only [if_pos hx]
    rw [nI_N (by omega), zX6_isMissing h hi, xb_s, bif0]
    by_cases h3 : m 11 i = 0
    · rw [if_pos h3, if_pos h3]
      exact errR h (by decide) _ rfl rfl
    · rw [if_neg h3, if_neg h3, a2]
      by_cases h4 : 0 ≤ q ∧ q ≤ m 12 i - 1
      · rw [if_pos h4, if_pos h4]
        obtain ⟨j, hj, -, rfl⟩ := inLen a5 h4
        have hxj : xin (nI j) 40 := xin_n hj (by omega)
        have hxk : xin (nI (40 * i + j)) 160 := xin_n (by omega) (by omega)
        unfold sX6_lowest
        simp only [xlet_e, e40, if_pos hxj, if_pos hxk]
        rw [a1, nI_N (by omega), nI_N (by omega)]
        by_cases b8 : m 11 i = 8
        · rw [if_pos b8, if_pos b8, xb_s]
          exact ⟨1, _, _, rfl, rfl, putOp h hi hj _⟩
        · rw [if_neg b8, if_neg b8, xb_s]
          by_cases b16 : m 11 i = 16
          · rw [if_pos b16, if_pos b16]
            exact ⟨1, _, _, rfl, rfl, putOp h hi hj _⟩
          · rw [if_neg b16, if_neg b16]
            exact ⟨1, _, _, rfl, rfl, putOp h hi hj _⟩
      · rw [if_neg h4, if_neg h4]
        exact errR h (by decide) _ rfl rfl
  · rw [if_neg h1, if_neg h1]
    exact errR h (by decide) _ rfl rfl
theorem minB {a b : Nat} (ha : a < 1000) (hb : b < 1000) : (if nI a < nI b then nI a else nI b) = nI (min a b) := by
  by_cases h : a < b
  · rw [if_pos ((nI_ltI (by omega) (by omega)).mpr h), Nat.min_eq_left (by omega)]
  · rw [if_neg (fun z => h ((nI_ltI (by omega) (by omega)).mp z)), Nat.min_eq_right (by omega)]
theorem op_judge (p : Int32) : OpR (sX8_judge p) (sX9_judge p) := by
  intro c m h
  have hV := h.V.H
  have h7 := hV.s7
  unfold sX8_judge sX9_judge
  simp only [zX8_isSheet, zX9_isSheet, xb_s, bif0, fC1, fM1, fC2, fM2, xlet_e]
  by_cases h1 : 0 ≤ p ∧ p ≤ 3
  · rw [if_pos h1, if_pos h1]
    obtain ⟨i, hi, rfl⟩ := inN (n := 4) h1 (by decide)
    have hx : xin (nI i) 4 := xin_n hi (by omega)
    obtain ⟨a1, a2, a3, a4, a5⟩ := h.2.2.2.2.1 i hi
    simp only [if_pos hx]
    rw [nI_N (by omega), zX6_isMissing h hi, xb_s, bif0]
    by_cases h3 : m 11 i = 0
    · rw [if_pos h3, if_pos h3]
      exact errR h (by decide) _ rfl rfl
    · rw [if_neg h3, if_neg h3, h.F.1, a2]
      obtain ⟨l, hl, el⟩ := nI_ex (n := 41) a5.1 (by omega)
      rw [hV.sI, el, minB (by omega) (by omega)]
      have hS : ∀ k, k < shipsN (m 1) → c 25 k = m 1 (36 + 5 * k) := fun k hk => by have := shipIs5 h (s := k) (k := 3) (by omega) (by omega); rw [show 33 + 5 * k + 3 = 36 + 5 * k by omega] at this; exact this
      have gS : ∀ k, k < shipsN (m 1) → sX9_shipIs (nI k) 3 m = some (m 1 (36 + 5 * k), m) := fun k hk => by have z := zX9_shipIs (i := k) (f := 3) (by omega) (by omega) m; rw [show 33 + 5 * k + 3 = 36 + 5 * k by omega] at z; exact z
      have key : ∀ (r n1 n2 k : Nat), k + r = min (shipsN (m 1)) l → r < n1 → r < n2 → ∃ w, xloop (sX8_judge_L51 (57 + 2 * i) (nI (min (shipsN (m 1)) l))) n1 (nI k) c = some (w, c) ∧ xloop (sX9_judge_L33 (nI i)) n2 (nI k) m = some (w, m) := by
        intro r
        induction r with
        | zero =>
          intro n1 n2 k hk hn1 hn2
          obtain ⟨n1, rfl⟩ : ∃ z, n1 = z + 1 := ⟨n1 - 1, by omega⟩
          obtain ⟨n2, rfl⟩ : ∃ z, n2 = z + 1 := ⟨n2 - 1, by omega⟩
          have hk' : k = min (shipsN (m 1)) l := by omega
          subst hk'
          rw [xloop_s, xloop_s]
          generalize xloop (sX8_judge_L51 (57 + 2 * i) (nI (min (shipsN (m 1)) l))) n1 = self1
          generalize xloop (sX9_judge_L33 (nI i)) n2 = self2
          simp only [sX8_judge_L51, sX9_judge_L33, sX9_judge_L77, zX9_isShip, xb_s, bif0, if_pos hx, xlet_e]
          rw [if_pos (Int32.le_refl _), nI_N (by omega), a2, h.F.1, el, hV.sI]
          by_cases q1 : l ≤ shipsN (m 1)
          · rw [Nat.min_eq_right q1, if_pos (Int32.le_refl _), if_pos rfl]
            by_cases q2 : nI l = nI (shipsN (m 1))
            · rw [if_pos q2]; exact ⟨_, rfl, rfl⟩
            · rw [if_neg q2]; exact ⟨_, rfl, rfl⟩
          · rw [Nat.min_eq_left (by omega), if_neg (nI_ge (by omega) (by omega)), if_neg (show ¬ (0 ≤ nI (shipsN (m 1)) ∧ nI (shipsN (m 1)) ≤ nI (shipsN (m 1)) - 1) from fun z => by
              have hz := z.2
              rw [i_le, i_sub (by rw [i_nI (by omega)]; show _ ≤ (shipsN (m 1) : Int) - 1; omega) (by rw [i_nI (by omega)]; show (shipsN (m 1) : Int) - 1 ≤ _; omega), i_nI (by omega)] at hz
              have hz : (shipsN (m 1) : Int) ≤ (shipsN (m 1) : Int) - 1 := hz
              omega), if_neg (fun z => absurd ((nI_eq (by omega) (by omega)).mp z) (by omega)), if_neg (fun z => absurd ((nI_eq (by omega) (by omega)).mp z) (by omega))]
            exact ⟨_, rfl, rfl⟩
        | succ r ih =>
          intro n1 n2 k hk hn1 hn2
          obtain ⟨n1, rfl⟩ : ∃ z, n1 = z + 1 := ⟨n1 - 1, by omega⟩
          obtain ⟨n2, rfl⟩ : ∃ z, n2 = z + 1 := ⟨n2 - 1, by omega⟩
          have hks : k < shipsN (m 1) := by omega
          have hkl : k < l := by omega
          have hxk : xin (nI k) 40 := xin_n (by omega) (by omega)
          have hx7 : xin (nI k) 7 := xin_n (by omega) (by omega)
          have hx6 : xin (nI (40 * i + k)) 160 := xin_n (by omega) (by omega)
          have hi := ih n1 n2 (k + 1) (by omega) (by omega) (by omega)
          rw [xloop_s, xloop_s]
          generalize xloop (sX8_judge_L51 (57 + 2 * i) (nI (min (shipsN (m 1)) l))) n1 = self1 at hi ⊢
          generalize xloop (sX9_judge_L33 (nI i)) n2 = self2 at hi ⊢
          simp only [sX8_judge_L51, sX9_judge_L33, sX9_judge_L77, zX9_isShip, xb_s, bif0, if_pos hx, if_pos hxk, if_pos hx7, e40, if_pos hx6, xlet_e, gS k hks]
          rw [if_neg (nI_ge (show k < min (shipsN (m 1)) l by omega) (by omega)), nI_N (show i < 2147483648 by omega), el, if_neg (nI_ge hkl (by omega)), hV.sI, if_pos (show 0 ≤ nI k ∧ nI k ≤ nI (shipsN (m 1)) - 1 from ⟨nI_le (Nat.zero_le k) (by omega), by
              rw [i_le, i_sub (by rw [i_nI (by omega)]; show _ ≤ (shipsN (m 1) : Int) - 1; omega) (by rw [i_nI (by omega)]; show (shipsN (m 1) : Int) - 1 ≤ _; omega), i_nI (by omega), i_nI (by omega)]
              show (k : Int) ≤ (shipsN (m 1) : Int) - 1
              omega⟩), nI_N (by omega), nI_N (by omega), a3 k (by omega), hS k hks, nI_s]
          by_cases q : m 13 (40 * i + k) = m 1 (36 + 5 * k)
          · rw [if_pos q, if_pos q]
            exact hi
          · rw [if_neg q, if_neg q, if_neg (fun z => absurd ((nI_eq (by omega) (by omega)).mp z) (by omega))]
            exact ⟨_, rfl, rfl⟩
      obtain ⟨w, k1, k2⟩ := key (min (shipsN (m 1)) l) xF xF 0 (by omega) (by rw [xF_eq]; omega) (by rw [xF_eq]; omega)
      exact ⟨w, c, m, k1, k2, h⟩
  · rw [if_neg h1, if_neg h1]
    exact errR h (by decide) _ rfl rfl
