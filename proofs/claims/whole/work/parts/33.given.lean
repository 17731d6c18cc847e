theorem i_num_ge {w : Int32} (h : numW w) : ¬ 20000 ≤ w ∧ ¬ 10000 ≤ w := by
  obtain ⟨h1, h2⟩ := h
  exact ⟨by rw [i_le]; show ¬ (20000 : Int) ≤ _; omega, by rw [i_le]; show ¬ (10000 : Int) ≤ _; omega⟩
theorem binW_ge2 {w : Int32} (h : binW w) : 20000 ≤ w := binW_cases (P := fun w => 20000 ≤ w) h (by decide) (by decide) (by decide) (by decide) (by decide) (by decide) (by decide) (by decide) (by decide) (by decide)
/-- the reference's pile -/
theorem zX9_worked_loop {m : xS} {u : Nat} {a b d : Int32} (hu : u < 2) (hl : lenN (m 1) u ≤ 50) (hlen : m 1 (138 + 52 * u) = nI (lenN (m 1) u)) (hv : okC (codeN (m 1) u) (lenN (m 1) u)) (hna : ∀ j, j < 3 → m 8 j = na3 a b d j) :
    ∀ (r n i : Nat) (m' : xS), i + r = lenN (m 1) u → r < n → EqX [9] m m' → (∀ j, j < hts (codeN (m 1) u) i → m' 9 j = evF (na3 a b d) (codeN (m 1) u) i j) →
      ∃ m'', xloop (sX9_worked_L4 (nI (139 + 52 * u))) n (nI (hts (codeN (m 1) u) i), nI (139 + 52 * u + i)) m' = some (valT (m 1) u a b d, m'') ∧ EqX [9] m m'' := by
  have hp1 : nI (139 + 52 * u) - 1 = nI (138 + 52 * u) := by rw [nI_d (by omega)]; congr 1; omega
  have hx1 : xin (nI (138 + 52 * u)) 242 := xin_n (by omega) (by omega)
  intro r
  induction r with
  | zero =>
    intro n i m' hi hn hE hP
    obtain ⟨n, rfl⟩ : ∃ q, n = q + 1 := ⟨n - 1, by omega⟩
    have hi' : i = lenN (m 1) u := by omega
    subst hi'
    have h1 : hts (codeN (m 1) u) (lenN (m 1) u) = 1 := hv.1
    refine ⟨m', ?_, hE⟩
    rw [xloop_s]
    simp only [sX9_worked_L4]
    rw [hp1, if_pos hx1, nI_N (by omega), hE 1 (by simp), hlen, nI_add, if_pos (Int32.le_refl _), hP 0 (by omega)]
    rfl
  | succ r ih =>
    intro n i m' hi hn hE hP
    obtain ⟨n, rfl⟩ : ∃ q, n = q + 1 := ⟨n - 1, by omega⟩
    have hiL : i < lenN (m 1) u := by omega
    have hN : m' 1 = m 1 := hE 1 (by simp)
    have h8 : m' 8 = m 8 := hE 8 (by simp)
    have hh := hts_le (codeN (m 1) u) i
    have hx : xin (nI (139 + 52 * u + i)) 242 := xin_n (by omega) (by omega)
    have step : ∀ (j : Nat) (c2 : xS), hts (codeN (m 1) u) (i + 1) = j → EqX [9] m c2 → (∀ q, q < j → c2 9 q = evF (na3 a b d) (codeN (m 1) u) (i + 1) q) → ∃ m'', xloop (sX9_worked_L4 (nI (139 + 52 * u))) n (nI j, nI (139 + 52 * u + i) + 1) c2 = some (valT (m 1) u a b d, m'') ∧ EqX [9] m m'' := by
      intro j c2 hj hE2 hP2
      subst hj
      rw [nI_s]
      exact ih n (i + 1) c2 (by omega) (by omega) hE2 hP2
    rw [xloop_s]
    generalize xloop (sX9_worked_L4 (nI (139 + 52 * u))) n = self at step ⊢
    have hs := hts_s (codeN (m 1) u) i
    have he := evF_s (na3 a b d) (codeN (m 1) u) i
    have hok := hv.2 i hiL
    have hw0 : m 1 (139 + 52 * u + i) = codeN (m 1) u i := rfl
    rw [he] at step
    rw [hs] at step
    generalize hts (codeN (m 1) u) i = h at *
    generalize codeN (m 1) u i = w at *
    generalize evF (na3 a b d) (codeN (m 1) u) i = F at *
    simp only [sX9_worked_L4, sX9_worked_L63, sX9_worked_L101, sX9_worked_L135, xlet_e]
    rw [hp1, if_pos hx1, nI_N (show 138 + 52 * u < 2147483648 by omega), hN, hlen, nI_add, if_neg (nI_ge (show 139 + 52 * u + i < 139 + 52 * u + lenN (m 1) u by omega) (by omega)), if_pos hx, nI_N (show 139 + 52 * u + i < 2147483648 by omega), hw0]
    have hxh : xin (nI h) 60 := xin_n (by omega) (by omega)
    have push : ∀ v : Int32, (if w < 20000 then upd F h (if w < 10000 then w else na3 a b d (w - 10000).toNatClampNeg) else if w = 20010 then upd F (h - 1) (if F (h - 1) = 0 then 1 else 0) else upd F (h - 2) (opV w (F (h - 2)) (F (h - 1)))) = upd F h v → w < 20000 →
        ∃ m'', self (nI h + 1, nI (139 + 52 * u + i) + 1) (xup m' 9 (upd (m' 9) h v)) = some (valT (m 1) u a b d, m'') ∧ EqX [9] m m'' := by
      intro v hv2 hw2
      rw [nI_s h]
      refine step (h + 1) _ (by rw [if_pos hw2]) (hE.up _ (by simp)) (fun q hq => ?_)
      rw [hv2, xup_s]
      exact upd_c1 v hP q hq
    rcases hok with hw | hw | ⟨hw, hh1⟩ | ⟨hw, hh2⟩
    · obtain ⟨e1, e2, e3, e4, e5⟩ := numW_ce hw
      obtain ⟨f1, f2⟩ := i_num_ge hw
      rw [if_neg f1, if_neg f2, if_pos hxh, nI_N (show h < 2147483648 by omega)]
      exact push w (by rw [if_pos e2, if_pos e3]) e2
    · rcases hw with rfl | rfl | rfl
      · rw [if_neg (by decide), if_pos (by decide), if_pos (by decide), if_pos hxh, nI_N (show h < 2147483648 by omega), h8, show ((10000 : Int32) - 10000).toNatClampNeg = 0 from rfl, hna 0 (by omega)]
        exact push a (by rw [if_pos (by decide), if_neg (by decide)]; rfl) (by decide)
      · rw [if_neg (by decide), if_pos (by decide), if_pos (by decide), if_pos hxh, nI_N (show h < 2147483648 by omega), h8, show ((10001 : Int32) - 10000).toNatClampNeg = 1 from rfl, hna 1 (by omega)]
        exact push b (by rw [if_pos (by decide), if_neg (by decide)]; rfl) (by decide)
      · rw [if_neg (by decide), if_pos (by decide), if_pos (by decide), if_pos hxh, nI_N (show h < 2147483648 by omega), h8, show ((10002 : Int32) - 10000).toNatClampNeg = 2 from rfl, hna 2 (by omega)]
        exact push d (by rw [if_pos (by decide), if_neg (by decide)]; rfl) (by decide)
    · subst hw
      rw [if_pos (by decide), if_pos rfl, nI_d (by omega), if_pos (xin_n (show h - 1 < 60 by omega) (by omega)), if_pos (xin_n (show h - 1 < 60 by omega) (by omega)), nI_N (show h - 1 < 2147483648 by omega), hP (h - 1) (by omega)]
      refine step h _ (by rw [if_neg (by decide), if_pos rfl]) (hE.up _ (by simp)) (fun q hq => ?_)
      rw [if_neg (show ¬ (20010 : Int32) < 20000 by decide), if_pos (show (20010 : Int32) = 20010 from rfl), xup_s]
      exact upd_c _ hP q hq
    · have e3 := binW_ge hw
      have e4 := binW_ne hw
      rw [if_pos (binW_ge2 hw), if_neg e4, nI_p (by omega), nI_d (by omega), if_pos (xin_n (show h - 1 - 1 < 60 by omega) (by omega)), if_pos (xin_n (show h - 1 < 60 by omega) (by omega)), zX9_done hw, xb_s, if_pos (xin_n (show h - 1 - 1 < 60 by omega) (by omega)), nI_N (show h - 1 < 2147483648 by omega), nI_N (show h - 1 - 1 < 2147483648 by omega), hP (h - 1) (by omega), hP (h - 1 - 1) (by omega)]
      refine step (h - 1) _ (by rw [if_neg e3, if_neg e4]) (hE.up _ (by simp)) (fun q hq => ?_)
      rw [if_neg e3, if_neg e4, xup_s]
      exact upd_c _ hP q (by omega)
theorem VT_len {N : Row} {u : Nat} (hv : VT N u) : lenN N u ≤ 50 ∧ N (138 + 52 * u) = nI (lenN N u) := by
  obtain ⟨h1, h2, -⟩ := hv
  have hl : lenN N u ≤ 50 := by unfold lenN; rw [i_N]; omega
  exact ⟨hl, i_of (by omega) (by unfold lenN; rw [i_N]; omega)⟩
theorem VT_ok {N : Row} {u : Nat} (hv : VT N u) (h0 : 0 < lenN N u) : okC (codeN N u) (lenN N u) := by
  rcases hv.2.2 with h | h
  · omega
  · exact h
theorem u_2 {P : Nat → Prop} {u : Nat} (hu : u < 2) (h0 : P 0) (h1 : P 1) : P u := by
  rcases (show u = 0 ∨ u = 1 by omega) with rfl | rfl <;> assumption
theorem zX9_given {m : xS} {u : Nat} (hu : u < 2) (a b d : Int32) (hv : VT (m 1) u) : ∃ m', sX9_given (nI u) a b d m = some (gv (m 1) u a b d, m') ∧ EqX [8, 9] m m' := by
  obtain ⟨hl, hlen⟩ := VT_len hv
  unfold sX9_given
  simp only [xlet_e, sX9_given_L32, sX9_given_L61, sX9_given_L72, sX9_held, xb_s]
  generalize hm1 : xup (xup (xup m 8 (upd (m 8) 0 a)) 8 (upd (xup m 8 (upd (m 8) 0 a) 8) 1 b)) 8 (upd (xup (xup m 8 (upd (m 8) 0 a)) 8 (upd (xup m 8 (upd (m 8) 0 a) 8) 1 b) 8) 2 d) = m1
  have hE1 : EqX [8] m m1 := by
    rw [← hm1]
    exact ((EqX.rf [8] m).up _ (by simp)).up _ (by simp) |>.up _ (by simp)
  have hna : ∀ j, j < 3 → m1 8 j = na3 a b d j := by
    intro j hj
    rw [← hm1]
    rcases (show j = 0 ∨ j = 1 ∨ j = 2 by omega) with rfl | rfl | rfl <;> simp [xup_s, upd, na3]
  have h1 : m1 1 = m 1 := hE1 1 (by simp)
  have hu0 : (138 : Int32) + 52 * nI u = nI (138 + 52 * u) := u_2 (P := fun u => (138 : Int32) + 52 * nI u = nI (138 + 52 * u)) hu rfl rfl
  have hu1 : nI (138 + 52 * u) + 1 = nI (139 + 52 * u) := by rw [nI_s]; congr 1; omega
  have ht : sX9_hasText (nI u) m1 = some (bI (¬ nI (lenN (m 1) u) ≤ 0), m1) := by
    unfold sX9_hasText
    simp only [xlet_e]
    rw [hu0, if_pos (xin_n (by omega) (by omega)), nI_N (by omega), h1, hlen, b10]
  have hif : (if nI u = 0 then (19 : Int32) else 1) = if u = 0 then 19 else 1 := u_2 (P := fun u => (if nI u = 0 then (19 : Int32) else 1) = if u = 0 then 19 else 1) hu rfl rfl
  have hif2 : (if nI u = 0 then d else (0 : Int32)) = if u = 0 then d else 0 := u_2 (P := fun u => (if nI u = 0 then d else (0 : Int32)) = if u = 0 then d else 0) hu rfl rfl
  rw [ht, xb_s, bif0]
  by_cases h0 : 0 < lenN (m 1) u
  · rw [if_pos (nI_gt0 h0 (by omega))]
    obtain ⟨m2, hm2, hE2⟩ := zX9_worked_loop (m := m1) (a := a) (b := b) (d := d) hu (by rw [h1]; exact hl) (by rw [h1]; exact hlen) (by rw [h1]; exact VT_ok hv h0) hna (lenN (m1 1) u) xF 0 m1 (by omega) (by rw [h1, xF_eq]; omega) (EqX.rf _ m1) (fun j hj => absurd hj (Nat.not_lt_zero j))
    have hw : sX9_worked ((138 : Int32) + 52 * nI u + 1) m1 = some (valT (m 1) u a b d, m2) := by
      unfold sX9_worked
      rw [hu0, hu1, ← h1]
      exact hm2
    rw [hw, xb_s]
    refine ⟨m2, ?_, (hE1.mono (by simp)).tr (hE2.mono (by simp))⟩
    unfold gv clampT
    rw [hlen, if_neg (nI_gt0 h0 (by omega)), hif]
  · have h00 : lenN (m 1) u = 0 := by omega
    rw [if_neg (fun q => q (by rw [h00]; decide))]
    refine ⟨m1, ?_, hE1.mono (by simp)⟩
    unfold gv clampT
    rw [hlen, h00, if_pos (show nI 0 ≤ 0 by decide), hif, hif2]
theorem minI (x y : Int32) : (if y < x then y else x) = if x < y then x else y := by
  by_cases h1 : y < x
  · rw [if_pos h1]
    by_cases h2 : x < y
    · rw [i_lt] at h1 h2; omega
    · rw [if_neg h2]
  · rw [if_neg h1]
    by_cases h2 : x < y
    · rw [if_pos h2]
    · rw [if_neg h2]
      rw [i_lt] at h1 h2
      rw [i_eq]
      omega
theorem zX0_give {c : xS} {N : Row} {u : Nat} (hu : u < 2) (a b d : Int32) (h0R : LawR c 5 N 0) (h1R : LawR c 8 N 1) (hv : VT N u) : ∃ c', sX0_give 1 (nI u) a b d c = some (gv N u a b d, c') ∧ EqX [7, 10] c c' := by
  obtain ⟨hl, hlen⟩ := VT_len hv
  have hLo : ∀ k, k = (if u = 0 then 5 else 8) → LawR c k N u ∧ k ∈ lLaw ∧ k + 2 ∈ [7, 10] := by
    intro k hk
    rcases (show u = 0 ∨ u = 1 by omega) with rfl | rfl
    · rw [hk]; exact ⟨h0R, by decide, by simp⟩
    · rw [hk]; exact ⟨h1R, by decide, by simp⟩
  have hlaw : sX0_lawOf 1 (nI u) c = some (if u = 0 then 5 else 8, c) := u_2 (P := fun u => sX0_lawOf 1 (nI u) c = some (if u = 0 then 5 else 8, c)) hu rfl rfl
  obtain ⟨hL, hin, hk2⟩ := hLo _ rfl
  generalize (if u = 0 then 5 else 8) = k at hlaw hL hin hk2
  have hemp : sX4_isEmpty k c = some (bI (nI (lenN N u) = 0), c) := by
    unfold sX4_isEmpty
    simp only [xlet_e]
    rw [hL.1, hlen, b01]
  have hif : (if nI u = 0 then (19 : Int32) else 1) = if u = 0 then 19 else 1 := u_2 (P := fun u => (if nI u = 0 then (19 : Int32) else 1) = if u = 0 then 19 else 1) hu rfl rfl
  have hif2 : (if nI u = 0 then d else (0 : Int32)) = if u = 0 then d else 0 := u_2 (P := fun u => (if nI u = 0 then d else (0 : Int32)) = if u = 0 then d else 0) hu rfl rfl
  unfold sX0_give
  rw [hlaw, xb_s, if_pos hin]
  simp only [xlet_e, sX0_give_L17, sX0_give_L41, sX0_give_L56]
  rw [hemp, xb_s, bif0]
  by_cases h0 : lenN N u = 0
  · rw [if_pos (by rw [h0]; rfl)]
    refine ⟨c, ?_, EqX.rf _ c⟩
    unfold gv clampT
    rw [hlen, h0, if_pos (show nI 0 ≤ 0 by decide), hif, hif2, minI]
  · rw [if_neg (fun q => nI_gt0 (show 1 ≤ lenN N u by omega) (by omega) (by rw [q]; exact Int32.le_refl _))]
    obtain ⟨c1, hc1, hE1⟩ := zX4_value a b d hL hv (by omega)
    rw [hc1, xb_s]
    refine ⟨c1, ?_, hE1.mono (fun q hq => by simp at hq; rw [hq]; exact hk2)⟩
    unfold gv clampT
    rw [hlen, if_neg (nI_gt0 (show 1 ≤ lenN N u by omega) (by omega)), hif, minI]
