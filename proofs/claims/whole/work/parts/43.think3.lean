/-- the reference: who is in behind n hours, over a row changed by lens or ships -/
theorem inB {c m : xS} (h : Rel c m) (hs : asideR m) {N' : Row} (hV : VH N') (hN : ∀ j, (9 ≤ j ∧ j < 33) ∨ 138 ≤ j → N' j = m 1 j) {n : Nat} (hn : n < 1000) : ∃ m', sX9_inBehind (nI n) (xup m 1 N') = some (nI (atS (hoursR N' n) 0), m') ∧ m' 1 = m 1 ∧ asideR m' ∧ Rel c m' := by
  have e0 : xup m 1 N' 1 = N' := xup_s _ _ _
  have hc0 : cacheOk (xup m 1 N') := h.2.1.ag (xup_n _ _ (by decide)) (by rw [e0]; exact ⟨fun j a b => hN j (by omega), fun j a => hN j (by omega)⟩)
  obtain ⟨m1, g1, g2, g3, g4⟩ := hgo hV e0 hc0 hn
  have hV1 := VH_hoursR hV n
  obtain ⟨m', b1, b2, b3, b4⟩ := back (m := m) h hs (((EqX.rf [1, 5, 8, 9] m).up N' (by simp)).tr g3) (fun j hj => by rw [g2, (hoursR_ag hV n).B2 j hj]; exact hN j hj) g4 (nI (atS (hoursR N' n) 0))
  refine ⟨m', ?_, b2, b3, b4⟩
  unfold sX9_inBehind
  rw [g1, zX9_shipsAt (by rw [g2]; exact hV1), xb_s, g2, b1, xb_s]
theorem lensV {c m : xS} (h : Rel c m) {bk : Int32} (hb : 0 ≤ bk.toInt ∧ bk.toInt ≤ 99) : VH (upd (m 1) 4 bk) := h.V.H.lens (fun j a _ => upd_n _ _ a) (by rw [upd_s]; exact hb) h.V.2.2.1
theorem op_setting (p q : Int32) : OpR (sX8_setting p q) (sX9_setting p q) := by
  intro c m h
  unfold sX8_setting sX9_setting sX8_setting_L29 sX9_setting_L28
  simp only [zX8_within, zX9_within, xb_s, bif0, fC1, fM1]
  rw [h.F.1]
  have hV := h.V.H
  have h7 := hV.s7
  have hpow : 2 ^ shipsN (m 1) ≤ 2 ^ 7 := Nat.pow_le_pow_right (by omega) h7
  have hpos : 0 < 2 ^ shipsN (m 1) := Nat.two_pow_pos _
  rw [hV.sI, shl_tab _ (by omega), nI_d hpos]
  by_cases h1 : 0 ≤ p ∧ p ≤ nI (2 ^ shipsN (m 1) - 1)
  · rw [if_pos h1, if_pos h1]
    by_cases h2 : 0 ≤ q ∧ q ≤ 20
    · rw [if_pos h2, if_pos h2]
      obtain ⟨P, hP, rfl⟩ := inN (n := 128) h1 (by rw [i_nI (by omega)]; omega)
      obtain ⟨L, hL, rfl⟩ := inN (n := 21) h2 (by decide)
      obtain ⟨m1, k1, k2, k3, k4⟩ := asd h
      rw [k1]
      have key : ∀ (r n1 n2 b : Nat) (c m : xS), Rel c m → asideR m → b + r = 100 → r < n1 → r + 1 < n2 → ∃ w c' m', xloop (sX8_setting_L37 (nI P) (nI L)) n1 (nI b) c = some (w, c') ∧ xloop (sX9_setting_L51 (nI P) (nI L)) n2 (-1, nI b) m = some (w, m') ∧ Rel c' m' := by
        intro r
        induction r with
        | zero =>
          intro n1 n2 b c m h hs hb hn1 hn2
          obtain ⟨n1, rfl⟩ : ∃ z, n1 = z + 1 := ⟨n1 - 1, by omega⟩
          obtain ⟨n2, rfl⟩ : ∃ z, n2 = z + 1 := ⟨n2 - 1, by omega⟩
          have hb' : b = 100 := by omega
          subst hb'
          rw [xloop_s, xloop_s]
          simp only [sX8_setting_L37, sX9_setting_L51, sX9_setting_L95]
          rw [if_pos (show (99 : Int32) < nI 100 by decide), if_pos (show (99 : Int32) < nI 100 by decide), if_neg (by decide), fC2, fM2]
          exact errR h (by decide) _ rfl rfl
        | succ r ih =>
          intro n1 n2 b c m h hs hb hn1 hn2
          obtain ⟨n1, rfl⟩ : ∃ z, n1 = z + 1 := ⟨n1 - 1, by omega⟩
          obtain ⟨n2, rfl⟩ : ∃ z, n2 = z + 2 := ⟨n2 - 2, by omega⟩
          have h99 : ¬ (99 : Int32) < nI b := by rw [i_lt, i_nI (by omega)]; show ¬ (99 : Int) < _; omega
          have hbk : 0 ≤ (nI b).toInt ∧ (nI b).toInt ≤ 99 := by rw [i_nI (by omega)]; omega
          have hVb := lensV h hbk
          obtain ⟨c1, g1, g2, g3, g4⟩ := drwB h hbk
          obtain ⟨c2, t1, t2, t3, t4⟩ := thkB g4 g2 (fun j a _ => upd_n _ _ a) (by rw [upd_s]; exact hbk) (n := L) (by omega)
          have hVL := VH_hoursR hVb L
          have hA := atS_lt hVL 0
          obtain ⟨m2, q1, q2, q3, q4⟩ := inB (c := c2) (h.scrC ((g3.mono (by unfold LC LSC; simp)).tr (t3.mono (by unfold LT LSC; simp)))) hs hVb (fun j hj => upd_n _ _ (by omega)) (n := L) (by omega)
          rw [xloop_s, xloop_s]
          simp only [sX8_setting_L37, sX9_setting_L51, sX9_setting_L88, xlet_e]
          rw [if_neg h99, if_neg h99, if_neg (show ¬ (0 : Int32) ≤ -1 by decide), g1, xb_s, t1, xb_s, zX3_setAt t2 hVL, xb_s, q1, xb_s, nI_s]
          by_cases h3 : nI (atS (hoursR (upd (m 1) 4 (nI b)) L) 0) &&& nI P = nI P
          · rw [if_pos h3, if_pos ((sub_tab _ hA _ hP).mp h3)]
            refine ⟨_, c2, m2, rfl, ?_, q4⟩
            rw [xloop_s]
            simp only [sX9_setting_L51, sX9_setting_L95]
            have h0 : (0 : Int32) ≤ nI b := nI_le (Nat.zero_le b) (by omega)
            by_cases h4 : (99 : Int32) < nI (b + 1)
            · rw [if_pos h4, if_pos h0]
            · rw [if_neg h4, if_pos h0, if_pos h0]
          · rw [if_neg h3, if_neg (fun z => h3 ((sub_tab _ hA _ hP).mpr z))]
            exact ih n1 (n2 + 1) (b + 1) c2 m2 q4 q3 (by omega) (by omega) (by omega)
      exact key 100 xF xF 0 c m1 k4 k3 rfl (by rw [xF_eq]; omega) (by rw [xF_eq]; omega)
    · rw [if_neg h2, if_neg h2]
      exact errR h (by decide) _ rfl rfl
  · rw [if_neg h1, if_neg h1]
    exact errR h (by decide) _ rfl rfl
/-! ===== odds ===== -/
/-- the class's divisor, the reference's: numbers up to 20, one by one -/
def gdL (a b : Nat) : Nat → Nat → Nat → Nat
  | 0, acc, _ => acc
  | r + 1, acc, d => gdL a b r (if a % d = 0 then (if b % d = 0 then d else acc) else acc) (d + 1)
def euL : Nat → Nat → Nat → Nat
  | 0, x, _ => x
  | f + 1, x, y => if y = 0 then x else euL f y (x % y)
theorem gcd_tab : ∀ g, g < 21 → gdL g 20 19 1 2 = euL 30 20 g ∧ 0 < gdL g 20 19 1 2 ∧ gdL g 20 19 1 2 < 21 := by decide +kernel
theorem zX8_gd {g : Nat} (hg : g < 21) (c : xS) : sX8_greatestDivisor (nI g) 20 c = some (nI (gdL g 20 19 1 2), c) := by
  have key : ∀ (r n acc d : Nat), d + r = 21 → 2 ≤ d → r < n → xloop (sX8_greatestDivisor_L4 (nI g) 20) n (nI acc, nI d) c = some (nI (gdL g 20 r acc d), c) := by
    intro r
    induction r with
    | zero =>
      intro n acc d hd h2 hn
      obtain ⟨n, rfl⟩ : ∃ z, n = z + 1 := ⟨n - 1, by omega⟩
      have hd' : d = 21 := by omega
      subst hd'
      rw [xloop_s]
      simp only [sX8_greatestDivisor_L4]
      rw [if_pos (by decide)]
      rfl
    | succ r ih =>
      intro n acc d hd h2 hn
      obtain ⟨n, rfl⟩ : ∃ z, n = z + 1 := ⟨n - 1, by omega⟩
      rw [xloop_s]
      simp only [sX8_greatestDivisor_L4, sX8_greatestDivisor_L23, xlet_e]
      have hd0 : ¬ nI d = 0 := nI_ne0 (by omega) (by omega)
      have e20 : (20 : Int32) - 20 / nI d * nI d = nI (20 % d) := pk_rem (a := 20) (by omega) (by omega) (by omega)
      rw [if_neg (show ¬ (20 : Int32) < nI d by rw [i_lt, i_nI (by omega)]; show ¬ (20 : Int) < _; omega), if_neg hd0, pk_rem (by omega) (by omega) (by omega), if_neg hd0, e20, nI_s]
      have z : ∀ x : Nat, x < 2147483648 → (nI x = 0 ↔ x = 0) := fun x hx => by rw [← nI_0]; exact nI_eq (by omega) (by omega)
      have m1 : g % d < d := Nat.mod_lt _ (by omega)
      have m2 : 20 % d < d := Nat.mod_lt _ (by omega)
      show _ = some (nI (gdL g 20 r (if g % d = 0 then (if 20 % d = 0 then d else acc) else acc) (d + 1)), c)
      by_cases h3 : g % d = 0
      · rw [if_pos ((z _ (by omega)).mpr h3), if_pos h3]
        by_cases h4 : 20 % d = 0
        · rw [if_pos ((z _ (by omega)).mpr h4), if_pos h4]
          exact ih n d (d + 1) (by omega) (by omega) (by omega)
        · rw [if_neg (fun q => h4 ((z _ (by omega)).mp q)), if_neg h4]
          exact ih n acc (d + 1) (by omega) (by omega) (by omega)
      · rw [if_neg (fun q => h3 ((z _ (by omega)).mp q)), if_neg h3]
        exact ih n acc (d + 1) (by omega) (by omega) (by omega)
  exact key 19 xF 1 2 rfl (Nat.le_refl 2) (by rw [xF_eq]; omega)
theorem zX9_eu {q : Int32} {a : Int32} (m : xS) : ∀ (f n x y : Nat), x < 21 → y < 21 → y < f → f ≤ n → xloop (sX9_odds_L99 q a) n (nI x, nI y) m = (if nI (euL f x y) = 0 then none else some ((if q = 0 then a else 20) / nI (euL f x y), m)) := by
  intro f
  induction f with
  | zero => intro n x y _ _ hy; omega
  | succ f ih =>
    intro n x y hx hy hf hn
    obtain ⟨n, rfl⟩ : ∃ z, n = z + 1 := ⟨n - 1, by omega⟩
    rw [xloop_s]
    simp only [sX9_odds_L99, sX9_odds_L133, xlet_e]
    show _ = (if nI (if y = 0 then x else euL f y (x % y)) = 0 then none else some ((if q = 0 then a else 20) / nI (if y = 0 then x else euL f y (x % y)), m))
    by_cases h0 : y = 0
    · subst h0
      rw [if_pos (show nI 0 = 0 from rfl), if_pos rfl]
    · have hy0 : ¬ nI y = 0 := nI_ne0 (by omega) (by omega)
      have hml : x % y < y := Nat.mod_lt _ (by omega)
      rw [if_neg hy0, if_neg hy0, if_neg h0, pk_rem (by omega) (by omega) (by omega)]
      exact ih n y (x % y) hy (by omega) (by omega) (by omega)
theorem zX9_odds_end {q : Int32} {g : Nat} (hg : g < 21) (m : xS) : xloop (sX9_odds_L99 q (nI g)) xF (20, nI g) m = some ((if q = 0 then nI g else 20) / nI (gdL g 20 19 1 2), m) := by
  have h := zX9_eu (q := q) (a := nI g) m 30 xF 20 g (by omega) hg (by omega) (by rw [xF_eq]; omega)
  obtain ⟨h1, h2, h3⟩ := gcd_tab g hg
  rw [← h1, if_neg (nI_ne0 h2 (by omega))] at h
  exact h
theorem op_odds (p n q : Int32) : OpR (sX8_odds p n q) (sX9_odds p n q) := by
  intro c m h
  unfold sX8_odds sX9_odds sX8_odds_L27 sX9_odds_L24
  simp only [zX8_isShip, zX9_isShip, zX9_isBehind, zX8_within, zX9_within, xb_s, bif0, fC1, fM1]
  rw [h.F.1]
  by_cases h1 : 0 ≤ p ∧ p ≤ m 1 2 - 1
  · rw [if_pos h1, if_pos h1]
    by_cases h2 : 0 ≤ n ∧ n ≤ 60
    · rw [if_pos h2, if_pos h2]
      by_cases h3 : 0 ≤ q ∧ q ≤ 1
      · rw [if_pos h3, if_pos h3]
        obtain ⟨L, hL, rfl⟩ := inN (n := 61) h2 (by decide)
        obtain ⟨s, hs, rfl⟩ := inShip h.V.H h1
        have hs7 : s < 7 := by have := h.V.H.s7; omega
        have hx : xin (nI s) 7 := xin_n hs7 (by omega)
        obtain ⟨m1, k1, k2, k3, k4⟩ := asd h
        rw [k1]
        have key : ∀ (r n1 n2 b g : Nat) (c m : xS), Rel c m → asideR m → s < shipsN (m 1) → b + r = 20 → g ≤ b → r < n1 → r < n2 → ∃ w c' m', xloop (sX8_odds_L39 (nI s) (nI L) q) n1 (nI g, nI b) c = some (w, c') ∧ xloop (sX9_odds_L48 (nI s) (nI L) q) n2 (nI g, nI b) m = some (w, m') ∧ Rel c' m' := by
          intro r
          induction r with
          | zero =>
            intro n1 n2 b g c m h has hss hbb hg hn1 hn2
            obtain ⟨n1, rfl⟩ : ∃ z, n1 = z + 1 := ⟨n1 - 1, by omega⟩
            obtain ⟨n2, rfl⟩ : ∃ z, n2 = z + 1 := ⟨n2 - 1, by omega⟩
            have hb' : b = 20 := by omega
            subst hb'
            obtain ⟨-, e2, e3⟩ := gcd_tab g (by omega)
            rw [xloop_s, xloop_s]
            simp only [sX8_odds_L39, sX9_odds_L48, sX8_odds_L105, xlet_e]
            rw [if_pos (show (20 : Int32) ≤ nI 20 by decide), if_pos (show (20 : Int32) ≤ nI 20 by decide), zX8_gd (by omega), xb_s, zX9_odds_end (by omega), if_neg (nI_ne0 e2 (by omega))]
            exact ⟨_, c, m, rfl, rfl, h⟩
          | succ r ih =>
            intro n1 n2 b g c m h has hss hbb hg hn1 hn2
            obtain ⟨n1, rfl⟩ : ∃ z, n1 = z + 1 := ⟨n1 - 1, by omega⟩
            obtain ⟨n2, rfl⟩ : ∃ z, n2 = z + 1 := ⟨n2 - 1, by omega⟩
            have h20 : ¬ (20 : Int32) ≤ nI b := by rw [i_le, i_nI (by omega)]; show ¬ (20 : Int) ≤ _; omega
            have hbk : 0 ≤ (nI b).toInt ∧ (nI b).toInt ≤ 99 := by rw [i_nI (by omega)]; omega
            have hVb := lensV h hbk
            obtain ⟨c1, g1, g2, g3, g4⟩ := drwB h hbk
            obtain ⟨c2, t1, t2, t3, t4⟩ := thkB g4 g2 (fun j a _ => upd_n _ _ a) (by rw [upd_s]; exact hbk) (n := L) (by omega)
            have hVL := VH_hoursR hVb L
            have hA := atS_lt hVL 0
            obtain ⟨m2, q1, q2, q3, q4⟩ := inB (c := c2) (h.scrC ((g3.mono (by unfold LC LSC; simp)).tr (t3.mono (by unfold LT LSC; simp)))) has hVb (fun j hj => upd_n _ _ (by omega)) (n := L) (by omega)
            have hsh : shipsN (hoursR (upd (m 1) 4 (nI b)) L) = shipsN (m 1) := by
              rw [(hoursR_ag hVb L).ships]; unfold shipsN; rw [upd_n _ _ (by decide)]
            rw [xloop_s, xloop_s]
            simp only [sX8_odds_L39, sX8_odds_L79, sX9_odds_L48, sX9_odds_L82, xlet_e, if_pos hx]
            rw [if_neg h20, if_neg h20, g1, xb_s, t1, xb_s, nI_N (by omega), (t2.2.2 s hs7).2.2.2.1, q1, xb_s, zX9_hasBit, xb_s, bif0, nI_s, nI_s]
            have hbit : hb (nI (atS (hoursR (upd (m 1) 4 (nI b)) L) 0)) s ↔ hoursR (upd (m 1) 4 (nI b)) L (36 + 5 * s) = 0 := by
              rw [hb_tab _ (by omega) s (by omega)]
              unfold atS
              rw [setN_bit, hsh]
              unfold atQ
              simp [hss]
            by_cases h4 : hoursR (upd (m 1) 4 (nI b)) L (36 + 5 * s) = 0
            · rw [if_pos h4, if_pos (hbit.mpr h4), nI_s]
              exact ih n1 n2 (b + 1) (g + 1) c2 m2 q4 q3 (by rw [q2]; exact hss) (by omega) (by omega) (by omega) (by omega)
            · rw [if_neg h4, if_neg (fun z => h4 (hbit.mp z))]
              have e0 : nI g + 0 = nI g := nI_add g 0
              rw [e0]
              exact ih n1 n2 (b + 1) g c2 m2 q4 q3 (by rw [q2]; exact hss) (by omega) (by omega) (by omega) (by omega)
        exact key 20 xF xF 0 0 c m1 k4 k3 (by rw [k2]; exact hs) rfl (by omega) (by rw [xF_eq]; omega) (by rw [xF_eq]; omega)
      · rw [if_neg h3, if_neg h3]
        exact errR h (by decide) _ rfl rfl
    · rw [if_neg h2, if_neg h2]
      exact errR h (by decide) _ rfl rfl
  · rw [if_neg h1, if_neg h1]
    exact errR h (by decide) _ rfl rfl
/-! ===== draws ===== -/
theorem FleetR.draft {c : xS} {f : Nat} {N : Row} (h : FleetR c f N) {s : Nat} (hs : s < 7) (x : Int32) : FleetR (xup c (f + 3) (upd (c (f + 3)) s x)) f (upd N (35 + 5 * s) x) := by
  obtain ⟨h0, h1, h2⟩ := h
  refine ⟨by rw [xup_n _ _ (by omega), upd_n _ _ (by omega)]; exact h0, by rw [xup_n _ _ (by omega), upd_n _ _ (by omega)]; exact h1, fun j hj => ?_⟩
  rw [xup_n c _ (show f + 1 ≠ f + 3 by omega), xup_n c _ (show f + 2 ≠ f + 3 by omega), xup_n c _ (show f + 4 ≠ f + 3 by omega), xup_n c _ (show f + 5 ≠ f + 3 by omega), xup_s, upd_n N _ (show 33 + 5 * j ≠ 35 + 5 * s by omega), upd_n N _ (show 34 + 5 * j ≠ 35 + 5 * s by omega), upd_n N _ (show 36 + 5 * j ≠ 35 + 5 * s by omega), upd_n N _ (show 37 + 5 * j ≠ 35 + 5 * s by omega)]
  obtain ⟨g1, g2, g3, g4, g5⟩ := h2 j hj
  refine ⟨g1, g2, ?_, g4, g5⟩
  by_cases e : j = s
  · subst e; rw [upd_s, upd_s]
  · rw [upd_n _ _ e, upd_n _ _ (by omega)]; exact g3
theorem VH.draft {N : Row} (h : VH N) {s : Nat} (hs : s < 7) (x : Int32) : VH (upd N (35 + 5 * s) x) := by
  have k : ∀ j, j ≠ 35 + 5 * s → upd N (35 + 5 * s) x j = N j := fun j hj => upd_n _ _ hj
  have hsh : shipsN (upd N (35 + 5 * s) x) = shipsN N := by unfold shipsN; rw [k 2 (by omega)]
  obtain ⟨a1, a2, a3, a4, a5, a6, a7⟩ := h
  refine ⟨by rw [k 1 (by omega)]; exact a1, by rw [k 2 (by omega)]; exact a2, ?_, ?_, VT_ag (fun j hj => k j (by omega)) a5, VT_ag (fun j hj => k j (by omega)) a6, ?_⟩
  · unfold yrOk; rw [k 3 (by omega), k 4 (by omega)]; exact a3
  · unfold yrOk; rw [k 3 (by omega), k 4 (by omega)]; exact a4
  · intro j hj
    rw [k (33 + 5 * j) (by omega), k (36 + 5 * j) (by omega), k (37 + 5 * j) (by omega), k 1 (by omega), hsh]
    exact a7 j hj
