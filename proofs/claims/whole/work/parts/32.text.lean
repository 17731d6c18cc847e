/-! ===== texts worked out: both sides ===== -/
theorem hts_le (code : Nat → Int32) : ∀ i, hts code i ≤ i := by
  intro i
  induction i with
  | zero => exact Nat.le_refl 0
  | succ i ih =>
    show (if code i < 20000 then hts code i + 1 else if code i = 20010 then hts code i else hts code i - 1) ≤ i + 1
    by_cases h1 : code i < 20000
    · rw [if_pos h1]; omega
    · rw [if_neg h1]
      by_cases h2 : code i = 20010
      · rw [if_pos h2]; omega
      · rw [if_neg h2]; omega
theorem binW_cases {P : Int32 → Prop} {w : Int32} (h : binW w) (h0 : P 20000) (h1 : P 20001) (h2 : P 20002) (h3 : P 20003) (h4 : P 20004) (h5 : P 20005) (h6 : P 20006) (h7 : P 20007) (h8 : P 20008) (h9 : P 20009) : P w := by
  rcases h with rfl | rfl | rfl | rfl | rfl | rfl | rfl | rfl | rfl | rfl <;> assumption
theorem binW_ge {w : Int32} (h : binW w) : ¬ w < 20000 := binW_cases (P := fun w => ¬ w < 20000) h (by decide) (by decide) (by decide) (by decide) (by decide) (by decide) (by decide) (by decide) (by decide) (by decide)
theorem binW_ne {w : Int32} (h : binW w) : ¬ w = 20010 := binW_cases (P := fun w => ¬ w = 20010) h (by decide) (by decide) (by decide) (by decide) (by decide) (by decide) (by decide) (by decide) (by decide) (by decide)
theorem binW_ce {w : Int32} (h : binW w) : ce w < -3 ∧ ¬ ce w = -33 := binW_cases (P := fun w => ce w < -3 ∧ ¬ ce w = -33) h (by decide) (by decide) (by decide) (by decide) (by decide) (by decide) (by decide) (by decide) (by decide) (by decide)
theorem numW_ce {w : Int32} (h : numW w) : ce w = w ∧ w < 20000 ∧ w < 10000 ∧ ¬ w < -3 ∧ ¬ w < 0 := by
  obtain ⟨h1, h2⟩ := h
  have ne : ∀ z : Int32, 10000 ≤ z.toInt → ¬ w = z := fun z hz e => by rw [e] at h2; omega
  refine ⟨?_, by rw [i_lt]; show _ < (20000 : Int); omega, by rw [i_lt]; show _ < (10000 : Int); omega, by rw [i_lt]; show ¬ _ < (-3 : Int); omega, by rw [i_lt]; show ¬ _ < (0 : Int); omega⟩
  unfold ce
  rw [if_neg (ne 20000 (by decide)), if_neg (ne 20001 (by decide)), if_neg (ne 20002 (by decide)), if_neg (ne 20003 (by decide)), if_neg (ne 20004 (by decide)), if_neg (ne 20005 (by decide)), if_neg (ne 20006 (by decide)), if_neg (ne 20007 (by decide)), if_neg (ne 20008 (by decide)), if_neg (ne 20009 (by decide)), if_neg (ne 20010 (by decide)), if_neg (ne 10000 (by decide)), if_neg (ne 10001 (by decide)), if_neg (ne 10002 (by decide))]
theorem zX4_joined {w : Int32} (h : binW w) (a b : Int32) (s : xS) : sX4_joined (-(ce w)) a b s = some (opV w a b, s) := by
  unfold sX4_joined opV
  simp only [xlet_e]
  rcases h with rfl | rfl | rfl | rfl | rfl | rfl | rfl | rfl | rfl | rfl
  · rfl
  · rfl
  · rfl
  · rfl
  · rfl
  · rfl
  · rfl
  · rfl
  · by_cases hb : b = 0
    · subst hb; rfl
    · simp [ce, hb]
  · by_cases hb : b = 0
    · subst hb; rfl
    · simp [ce, hb]
theorem zX9_done {w : Int32} (h : binW w) (a b : Int32) (s : xS) : sX9_done w a b s = some (opV w a b, s) := by
  unfold sX9_done opV
  simp only [xlet_e]
  rcases h with rfl | rfl | rfl | rfl | rfl | rfl | rfl | rfl | rfl | rfl
  · rfl
  · rfl
  · rfl
  · rfl
  · rfl
  · rfl
  · rfl
  · rfl
  · by_cases hb : b = 0
    · subst hb; rfl
    · simp [hb]
  · by_cases hb : b = 0
    · subst hb; rfl
    · simp [hb]
theorem upd_s (f : Nat → Int32) (k : Nat) (x : Int32) : upd f k x k = x := if_pos rfl
theorem upd_n (f : Nat → Int32) {k j : Nat} (x : Int32) (h : j ≠ k) : upd f k x j = f j := if_neg h
theorem upd_c {f g : Nat → Int32} {n k : Nat} (x : Int32) (h : ∀ j, j < n → f j = g j) : ∀ j, j < n → upd f k x j = upd g k x j := by
  intro j hj
  by_cases e : j = k
  · subst e; rw [upd_s, upd_s]
  · rw [upd_n f x e, upd_n g x e]; exact h j hj
theorem upd_c1 {f g : Nat → Int32} {n : Nat} (x : Int32) (h : ∀ j, j < n → f j = g j) : ∀ j, j < n + 1 → upd f n x j = upd g n x j := by
  intro j hj
  by_cases e : j = n
  · subst e; rw [upd_s, upd_s]
  · rw [upd_n f x e, upd_n g x e]; exact h j (by omega)
theorem nI_s (n : Nat) : nI n + 1 = nI (n + 1) := nI_1 n
theorem nI_p {n : Nat} (h : 0 < n) : nI n + -1 = nI (n - 1) := by
  obtain ⟨m, rfl⟩ : ∃ m, n = m + 1 := ⟨n - 1, by omega⟩
  rw [pk_m1]; rfl
theorem nI_d {n : Nat} (h : 0 < n) : nI n - 1 = nI (n - 1) := by
  obtain ⟨m, rfl⟩ : ∃ m, n = m + 1 := ⟨n - 1, by omega⟩
  rw [nI_pred]; rfl
theorem nI_gt1 {h : Nat} (h2 : 2 ≤ h) (hb : h < 2147483648) : ¬ nI h ≤ 1 := by
  rw [i_le, i_nI hb]; show ¬ (h : Int) ≤ 1; omega
theorem nI_gt0 {h : Nat} (h2 : 1 ≤ h) (hb : h < 2147483648) : ¬ nI h ≤ 0 := by
  rw [i_le, i_nI hb]; show ¬ (h : Int) ≤ 0; omega
theorem nameW_cases {P : Int32 → Prop} {w : Int32} (h : nameW w) (h0 : P 10000) (h1 : P 10001) (h2 : P 10002) : P w := by
  rcases h with rfl | rfl | rfl <;> assumption
/-- the class's pile -/
theorem zX4_value_loop {k : Nat} {c : xS} {N : Row} {u : Nat} {a b d : Int32} (hL : LawR c k N u) (hl : lenN N u ≤ 50) (hlen : N (138 + 52 * u) = nI (lenN N u)) (hv : okC (codeN N u) (lenN N u)) :
    ∀ (r n i : Nat) (c' : xS), i + r = lenN N u → r < n → EqX [k + 2] c c' → (∀ j, j < hts (codeN N u) i → c' (k + 2) j = evF (na3 a b d) (codeN N u) i j) →
      ∃ c'', xloop (sX4_value_L6 k a b d) n (nI (hts (codeN N u) i), nI i) c' = some (valT N u a b d, c'') ∧ EqX [k + 2] c c'' := by
  intro r
  induction r with
  | zero =>
    intro n i c' hi hn hE hP
    obtain ⟨n, rfl⟩ : ∃ m, n = m + 1 := ⟨n - 1, by omega⟩
    have hi' : i = lenN N u := by omega
    subst hi'
    have h0 : c' k 0 = nI (lenN N u) := by rw [hE k (by simp), hL.1, hlen]
    have h1 : hts (codeN N u) (lenN N u) = 1 := hv.1
    refine ⟨c', ?_, hE⟩
    rw [xloop_s]
    simp only [sX4_value_L6]
    rw [h0, if_pos (Int32.le_refl _), h1, if_neg (by decide), hP 0 (by omega)]
    rfl
  | succ r ih =>
    intro n i c' hi hn hE hP
    obtain ⟨n, rfl⟩ : ∃ m, n = m + 1 := ⟨n - 1, by omega⟩
    have hiL : i < lenN N u := by omega
    have h0 : c' k 0 = nI (lenN N u) := by rw [hE k (by simp), hL.1, hlen]
    have hc : c' (k + 1) i = ce (codeN N u i) := by rw [hE (k + 1) (by simp)]; exact hL.2 i hiL
    have hh := hts_le (codeN N u) i
    have hx : xin (nI i) 50 := xin_n (by omega) (by omega)
    have step : ∀ (j : Nat) (c2 : xS), hts (codeN N u) (i + 1) = j → EqX [k + 2] c c2 → (∀ q, q < j → c2 (k + 2) q = evF (na3 a b d) (codeN N u) (i + 1) q) → ∃ c'', xloop (sX4_value_L6 k a b d) n (nI j, nI i + 1) c2 = some (valT N u a b d, c'') ∧ EqX [k + 2] c c'' := by
      intro j c2 hj hE2 hP2
      subst hj
      rw [nI_s]
      exact ih n (i + 1) c2 (by omega) (by omega) hE2 hP2
    rw [xloop_s]
    generalize xloop (sX4_value_L6 k a b d) n = self at step ⊢
    have hs := hts_s (codeN N u) i
    have he := evF_s (na3 a b d) (codeN N u) i
    have hok := hv.2 i hiL
    rw [he] at step
    rw [hs] at step
    generalize hts (codeN N u) i = h at *
    generalize codeN N u i = w at *
    generalize evF (na3 a b d) (codeN N u) i = F at *
    simp only [sX4_value_L6, sX4_value_L76, sX4_value_L120, sX4_value_L164, xlet_e]
    rw [h0, if_neg (nI_ge hiL (by omega)), if_pos hx, nI_N (show i < 2147483648 by omega), hc]
    have hxh : xin (nI h) 50 := xin_n (by omega) (by omega)
    have hh50 : ¬ 50 ≤ nI h := by rw [i_le, i_nI (by omega)]; show ¬ (50 : Int) ≤ _; omega
    have push : ∀ v : Int32, hts (codeN N u) (i + 1) = h + 1 → (if w < 20000 then upd F h (if w < 10000 then w else na3 a b d (w - 10000).toNatClampNeg) else if w = 20010 then upd F (h - 1) (if F (h - 1) = 0 then 1 else 0) else upd F (h - 2) (opV w (F (h - 2)) (F (h - 1)))) = upd F h v → w < 20000 →
        ∃ c'', self (nI h + 1, nI i + 1) (xup c' (k + 2) (upd (c' (k + 2)) h v)) = some (valT N u a b d, c'') ∧ EqX [k + 2] c c'' := by
      intro v _ hv2 hw2
      rw [nI_s h]
      refine step (h + 1) _ (by rw [if_pos hw2]) (hE.up _ (by simp)) (fun q hq => ?_)
      rw [hv2, xup_s]
      exact upd_c1 v hP q hq
    rcases hok with hw | hw | ⟨hw, hh1⟩ | ⟨hw, hh2⟩
    · obtain ⟨e1, e2, e3, e4, e5⟩ := numW_ce hw
      rw [e1, if_neg e4, if_neg hh50, if_neg e5, if_pos hxh, nI_N (show h < 2147483648 by omega)]
      exact push w (by rw [hs, if_pos e2]) (by rw [if_pos e2, if_pos e3]) e2
    · rcases hw with rfl | rfl | rfl
      · rw [show ce 10000 = -1 from rfl, if_neg (by decide), if_neg hh50, if_pos hxh, nI_N (show h < 2147483648 by omega), if_pos (show (-1 : Int32) < 0 by decide), if_pos (show (-1 : Int32) = -1 from rfl)]
        exact push a (by rw [hs]; rfl) (by rw [if_pos (by decide), if_neg (by decide)]; rfl) (by decide)
      · rw [show ce 10001 = -2 from rfl, if_neg (by decide), if_neg hh50, if_pos hxh, nI_N (show h < 2147483648 by omega), if_pos (show (-2 : Int32) < 0 by decide), if_neg (show ¬ (-2 : Int32) = -1 by decide), if_neg (show ¬ (-2 : Int32) = -3 by decide)]
        exact push b (by rw [hs]; rfl) (by rw [if_pos (by decide), if_neg (by decide)]; rfl) (by decide)
      · rw [show ce 10002 = -3 from rfl, if_neg (by decide), if_neg hh50, if_pos hxh, nI_N (show h < 2147483648 by omega), if_pos (show (-3 : Int32) < 0 by decide), if_neg (show ¬ (-3 : Int32) = -1 by decide), if_pos (show (-3 : Int32) = -3 from rfl)]
        exact push d (by rw [hs]; rfl) (by rw [if_pos (by decide), if_neg (by decide)]; rfl) (by decide)
    · subst hw
      rw [show ce 20010 = -33 from rfl, if_pos (by decide), if_pos rfl, if_neg (nI_gt0 hh1 (by omega)), nI_d (by omega), if_pos (xin_n (show h - 1 < 50 by omega) (by omega)), if_pos (xin_n (show h - 1 < 50 by omega) (by omega)), nI_N (show h - 1 < 2147483648 by omega), hP (h - 1) (by omega)]
      refine step h _ (by rw [if_neg (by decide), if_pos rfl]) (hE.up _ (by simp)) (fun q hq => ?_)
      rw [if_neg (show ¬ (20010 : Int32) < 20000 by decide), if_pos (show (20010 : Int32) = 20010 from rfl), xup_s]
      exact upd_c _ hP q hq
    · obtain ⟨e1, e2⟩ := binW_ce hw
      have e3 := binW_ge hw
      have e4 := binW_ne hw
      rw [if_pos e1, if_neg e2, if_neg (nI_gt1 hh2 (by omega)), nI_p (by omega), nI_d (by omega), if_pos (xin_n (show h - 1 - 1 < 50 by omega) (by omega)), if_pos (xin_n (show h - 1 < 50 by omega) (by omega)), zX4_joined hw, xb_s, if_pos (xin_n (show h - 1 - 1 < 50 by omega) (by omega)), nI_N (show h - 1 < 2147483648 by omega), nI_N (show h - 1 - 1 < 2147483648 by omega), hP (h - 1) (by omega), hP (h - 1 - 1) (by omega)]
      refine step (h - 1) _ (by rw [if_neg e3, if_neg e4]) (hE.up _ (by simp)) (fun q hq => ?_)
      rw [if_neg e3, if_neg e4, xup_s]
      exact upd_c _ hP q (by omega)
theorem zX4_value {k : Nat} {c : xS} {N : Row} {u : Nat} (a b d : Int32) (hL : LawR c k N u) (hv : VT N u) (h0 : 0 < lenN N u) : ∃ c', sX4_value k a b d c = some (valT N u a b d, c') ∧ EqX [k + 2] c c' := by
  obtain ⟨h1, h2, h3⟩ := hv
  have hl : lenN N u ≤ 50 := by unfold lenN; rw [i_N]; omega
  have hlen : N (138 + 52 * u) = nI (lenN N u) := i_of (by omega) (by unfold lenN; rw [i_N]; omega)
  rcases h3 with h3 | h3
  · omega
  · exact zX4_value_loop hL hl hlen h3 (lenN N u) xF 0 c (by omega) (by rw [xF_eq]; omega) (EqX.rf _ c) (fun j hj => absurd hj (Nat.not_lt_zero j))
