theorem backC {c m m1 : xS} (h : Rel c m) (hs : asideR m) (hE : EqX [1, 5, 8, 9] m m1) (hN : ∀ j, (9 ≤ j ∧ j < 33) ∨ 138 ≤ j → m1 1 j = m 1 j) (hc : cacheOk m1) : ∃ m', (∀ k : Unit → xS → Option (Int32 × xS), xbind (sX9_copy 3 1 m1) k = k () m') ∧ m' 1 = m 1 ∧ asideR m' ∧ Rel c m' := by
  obtain ⟨m', g1, g2, g3, g4⟩ := back h hs hE hN hc 0
  refine ⟨m', fun k => ?_, g2, g3, g4⟩
  unfold sX9_putBack at g1
  cases hq : sX9_copy 3 1 m1 with
  | none => rw [hq] at g1; cases g1
  | some w =>
    obtain ⟨u, m2⟩ := w
    rw [hq, xb_s] at g1
    rw [(Prod.mk.inj (Option.some.inj g1)).2, xb_s]
theorem lost_keepL {N : Row} {j : Nat} (hj : j < 7) (h : N (37 + 5 * j) = 1) : ∀ k, hourL N k (37 + 5 * j) = 1 := by
  intro k
  induction k with
  | zero => exact h
  | succ k ih =>
    rw [hourL_s]
    by_cases h1 : hourL N k (37 + 5 * k) = 0 ∧ ¬ hourL N k (36 + 5 * k) ≤ 0
    · rw [if_pos h1]
      by_cases e : j = k
      · subst e; rw [ih] at h1; exact absurd h1.1 (by decide)
      · rw [sailR_keep _ k (by omega) (by omega)]; exact ih
    · rw [if_neg h1]; exact ih
theorem lost_keep {N : Row} {j : Nat} (hj : j < 7) (h : N (37 + 5 * j) = 1) : ∀ k, hoursR N k (37 + 5 * j) = 1 := by
  intro k
  induction k with
  | zero => exact h
  | succ k ih =>
    rw [hoursR_s]
    unfold hourR
    rw [upd_n _ _ (by omega)]
    exact lost_keepL hj ih _
theorem lostQ_mono {N : Row} (hV : VH N) (k : Nat) : ∀ j, j < shipsN N → lostQ N j = true → lostQ (hoursR N k) j = true := by
  intro j hj h
  have h7 := hV.s7
  exact decide_eq_true (lost_keep (by omega) (of_decide_eq_true h) k)
theorem x_m1 (x : Int32) : x + -1 = x - 1 := (Int32.sub_eq_add_neg x 1).symm
theorem nI_pm (b : Nat) : nI (b + 1) - 1 = nI b := nI_pred b
theorem m1_lt : (nI 0 - 1 : Int32) < 0 := by decide
theorem nI_nneg {b : Nat} (h : b < 2147483648) : ¬ nI b < 0 := by rw [i_lt, i_nI h]; show ¬ _ < (0 : Int); omega
/-- ships that are lost newly -/
def newQ (N N' : Row) : Nat → Bool := fun s => lostQ N' s && !lostQ N s
theorem zX8_newly {c : xS} {N N' : Row} {r : Nat} (hF : FleetR c 21 N) (hF' : FleetR c 33 N') (hV : VH N) (hV' : VH N') (hr : r < shipsN N) (h1 : newQ N N' r = true) (h2 : ∀ j, j < r → newQ N N' j = false) : sX8_leastNewlyLost c = some (nI r, c) := by
  have h7 := hV.s7
  have key : ∀ (b n : Nat) (v : Int32), b ≤ shipsN N → b < n → (b ≤ r → v = nI r) → xloop sX8_leastNewlyLost_L12 n (v, nI b - 1) c = some (nI r, c) := by
    intro b
    induction b with
    | zero =>
      intro n v hb hn hv
      obtain ⟨n, rfl⟩ : ∃ z, n = z + 1 := ⟨n - 1, by omega⟩
      rw [xloop_s]
      simp only [sX8_leastNewlyLost_L12]
      rw [if_pos m1_lt, hv (Nat.zero_le _)]
    | succ b ih =>
      intro n v hb hn hv
      obtain ⟨n, rfl⟩ : ∃ z, n = z + 1 := ⟨n - 1, by omega⟩
      have hx : xin (nI b) 7 := xin_n (by omega) (by omega)
      obtain ⟨-, -, -, -, f5⟩ := hF.2.2 b (by omega)
      obtain ⟨-, -, -, -, f5'⟩ := hF'.2.2 b (by omega)
      rw [xloop_s]
      simp only [sX8_leastNewlyLost_L12, sX8_leastNewlyLost_L39, xlet_e]
      rw [nI_pm, if_neg (nI_nneg (by omega)), if_pos hx, if_pos hx, nI_N (by omega), f5, f5', x_m1]
      have hq : (N' (37 + 5 * b) ≤ N (37 + 5 * b)) ↔ newQ N N' b = false := by
        unfold newQ lostQ
        rcases (hV.2.2.2.2.2.2 b (by omega)).2.2 with e | e <;> rcases (hV'.2.2.2.2.2.2 b (by omega)).2.2 with e' | e' <;> rw [e, e'] <;> decide
      by_cases h3 : N' (37 + 5 * b) ≤ N (37 + 5 * b)
      · rw [if_pos h3]
        refine ih n v (by omega) (by omega) (fun hbr => ?_)
        by_cases e : b = r
        · subst e; rw [hq.mp h3] at h1; cases h1
        · exact hv (by omega)
      · rw [if_neg h3]
        refine ih n (nI b) (by omega) (by omega) (fun hbr => ?_)
        by_cases e : b = r
        · rw [e]
        · exact absurd (hq.mpr (h2 b (by omega))) h3
  unfold sX8_leastNewlyLost
  simp only [xlet_e]
  rw [hF.1, hV.sI]
  exact key (shipsN N) xF 0 (Nat.le_refl _) (by rw [xF_eq]; omega) (fun hh => by omega)
theorem op_lost (p : Int32) : OpR (sX8_lost p) (sX9_lost p) := by
  intro c m h
  unfold sX8_lost sX9_lost
  simp only [zX8_within, zX9_within, xb_s, bif0, fC1, fM1]
  by_cases h1 : 0 ≤ p ∧ p ≤ 1
  · rw [if_pos h1, if_pos h1]
    have hV := h.V.H
    have h7 := hV.s7
    obtain ⟨c1, g1, g2, g3, g4⟩ := drwB h (bk_ok h)
    rw [upd_same] at g2
    obtain ⟨c2, t1, t2, t3, t4⟩ := thkB g4 g2 (fun _ _ _ => rfl) (bk_ok h) (n := 0) (by omega)
    have t1 : sX8_think 0 c1 = some ((), c2) := t1
    obtain ⟨m1, k1, k2, k3, k4⟩ := asd h
    have hC2 : ChartR c2 (m 1) := g2.go (fun q a b => t3 q (by unfold LT; simp; omega))
    have h2 : Rel c2 m1 := k4.scrC ((g3.mono (by unfold LC LSC; simp)).tr (t3.mono (by unfold LT LSC; simp)))
    have hF0 := h.F
    have hL0 := h.L.1
    generalize hN : m 1 = N at *
    rw [zX3_countLost hF0 hV, xb_s, hL0, g1, xb_s, t1, xb_s, k1, zX9_lostNow (by rw [k2]; exact hV), xb_s, k2]
    have L58 : ∀ (a : Nat) (c3 m3 : xS), a ≤ 60 → Rel c3 m1 → EqX [1, 5, 8, 9] m1 m3 → m3 1 = hoursR N a → cacheOk m3 → ∃ m', m' 1 = N ∧ Rel c3 m' ∧ sX9_lost_L58 p (nI a) (nI (lostS N)) m3 =
        (if nI (setN (newQ N (hoursR N a)) (shipsN N)) = 0 then some (-1000000002, mErr m' 2) else if p = 0 then some (nI a, m') else xbind (sX9_bits ((nI (setN (newQ N (hoursR N a)) (shipsN N)) &&& (-(nI (setN (newQ N (hoursR N a)) (shipsN N))))) - 1) m') (fun r s => some (r, s))) := by
      intro a c3 m3 ha hR hE e3 hc
      have hVa := VH_hoursR hV a
      have hsh : shipsN (hoursR N a) = shipsN N := (hoursR_ag hV a).ships
      obtain ⟨m', b1, b2, -, b3⟩ := backC hR k3 hE (by rw [e3, k2]; exact (hoursR_ag hV a).B2) hc
      refine ⟨m', by rw [b2, k2], b3, ?_⟩
      unfold sX9_lost_L58
      simp only [xlet_e]
      rw [zX9_lostNow (by rw [e3]; exact hVa), xb_s, b1, e3]
      unfold lostS
      rw [hsh, set_andn _ _ h7]
      simp only [fM2, xb_s]
      rfl
    have key : ∀ (r n1 n2 a : Nat) (c3 m3 : xS), a + 1 + r = 61 → r < n1 → r + 1 < n2 → FleetR c3 33 (hoursR N a) → EqX LT c2 c3 → m3 1 = hoursR N a → EqX [1, 5, 8, 9] m1 m3 → cacheOk m3 → (∀ j, j < shipsN N → lostQ N j = lostQ (hoursR N a) j) →
        ∃ w c' m', xloop (sX8_lost_L48 p (nI (lostC N))) n1 (nI (a + 1)) c3 = some (w, c') ∧ xloop (sX9_lost_L34 p (nI (lostS N))) n2 (nI a) m3 = some (w, m') ∧ Rel c' m' := by
      intro r
      induction r with
      | zero =>
        intro n1 n2 a c3 m3 ha hn1 hn2 f1 f2 f3 f4 f5 f6
        obtain ⟨n1, rfl⟩ : ∃ z, n1 = z + 1 := ⟨n1 - 1, by omega⟩
        obtain ⟨n2, rfl⟩ : ∃ z, n2 = z + 1 := ⟨n2 - 1, by omega⟩
        have ha' : a = 60 := by omega
        subst ha'
        have hR3 : Rel c3 m1 := h2.scrC (f2.mono (by unfold LT LSC; simp))
        obtain ⟨m', e1, e2, e3⟩ := L58 60 c3 m3 (by omega) hR3 f4 f3 f5
        rw [xloop_s, xloop_s]
        simp only [sX8_lost_L48, sX9_lost_L34]
        rw [if_pos (show (60 : Int32) < nI (60 + 1) by decide), if_pos (show (60 : Int32) ≤ nI 60 by decide), e3, fC2, xb_s]
        have hz : setN (newQ N (hoursR N 60)) (shipsN N) = 0 := by
          rw [setN_c (q := fun _ => false) _ (fun j hj => by unfold newQ; rw [f6 j hj]; simp)]
          clear hn1 hn2
          induction shipsN N with
          | zero => rfl
          | succ k ih => rw [setN_s, if_neg (by decide)]; exact ih
        rw [hz, if_pos (show nI 0 = 0 from rfl)]
        exact errR e2 (by decide) _ rfl rfl
      | succ r ih =>
        intro n1 n2 a c3 m3 ha hn1 hn2 f1 f2 f3 f4 f5 f6
        obtain ⟨n1, rfl⟩ : ∃ z, n1 = z + 1 := ⟨n1 - 1, by omega⟩
        obtain ⟨n2, rfl⟩ : ∃ z, n2 = z + 2 := ⟨n2 - 2, by omega⟩
        have hR3 : Rel c3 m1 := h2.scrC (f2.mono (by unfold LT LSC; simp))
        have hVa := VH_hoursR hV a
        have hVa1 := VH_hoursR hV (a + 1)
        have hsh : shipsN (hoursR N a) = shipsN N := (hoursR_ag hV a).ships
        have hsh1 : shipsN (hoursR N (a + 1)) = shipsN N := (hoursR_ag hV (a + 1)).ships
        have hB3 : BayR c3 1 (hoursR N a) := by have := hR3.B.H (N' := hoursR N a) (by rw [k2]; exact hoursR_ag hV a); exact this
        obtain ⟨c4, p1, p2, p3⟩ := zX8_passHour (c := c3) (N := hoursR N a) (Or.inr rfl) f1 ((hC2.go (fun q x y => f2 q (by unfold LT; simp; omega))).H hV.c8 (hoursR_ag hV a)) hB3 hVa
        rw [← hoursR_s] at p2
        have f2' : EqX LT c2 c4 := f2.tr (p3.mono (by unfold LF LT; simp))
        obtain ⟨m4, q1, q2, q3, q4⟩ := zX9_hour (m := m3) (by rw [f3]; exact hVa) f5
        rw [f3, ← hoursR_s] at q2
        have f4' := f4.tr q3
        have hset : lostS N = lostS (hoursR N a) := by unfold lostS; rw [hsh]; exact setN_c _ f6
        have hcm := cnt_mono (p := lostQ N) (q := lostQ (hoursR N (a + 1))) (shipsN N) (lostQ_mono hV (a + 1))
        have hcnt : lostC (hoursR N (a + 1)) = cntN (lostQ (hoursR N (a + 1))) (shipsN N) := by unfold lostC; rw [hsh1]
        have hle : ∀ q : Nat → Bool, cntN q (shipsN N) ≤ 7 := fun q => Nat.le_trans (cntN_le q _) h7
        rw [xloop_s, xloop_s]
        simp only [sX8_lost_L48, xlet_e]
        rw [if_neg (show ¬ (60 : Int32) < nI (a + 1) by rw [i_lt, i_nI (by omega)]; show ¬ (60 : Int) < _; omega), p1, xb_s, zX3_countLost p2 hVa1, xb_s, nI_s]
        have hm : ∀ self : Int32 → xS → Option (Int32 × xS), sX9_lost_L34 p (nI (lostS N)) self (nI a) m3 = self (nI (a + 1)) m4 := by
          intro self
          simp only [sX9_lost_L34, xlet_e]
          rw [if_neg (show ¬ (60 : Int32) ≤ nI a by rw [i_le, i_nI (by omega)]; show ¬ (60 : Int) ≤ _; omega), zX9_lostNow (by rw [f3]; exact hVa), xb_s, f3, ← hset, if_pos rfl, q1, xb_s, nI_s]
        rw [hm]
        by_cases hq : nI (lostC (hoursR N (a + 1))) ≤ nI (lostC N)
        · rw [if_pos hq]
          have hq' : lostC (hoursR N (a + 1)) ≤ lostC N := by
            rw [nI_leI (by have := hle (lostQ (hoursR N (a + 1))); omega) (by have := hle (lostQ N); unfold lostC; omega)] at hq
            exact hq
          have hall := hcm.2 (by have := hcm.1; unfold lostC at hq' hcnt; omega)
          exact ih n1 (n2 + 1) (a + 1) c4 m4 (by omega) (by omega) (by omega) p2 f2' q2 f4' q4 hall
        · rw [if_neg hq]
          have hne : ¬ ∀ j, j < shipsN N → lostQ N j = lostQ (hoursR N (a + 1)) j := by
            intro hh
            apply hq
            rw [hcnt, ← cntN_c _ hh]
            exact Int32.le_refl _
          obtain ⟨s, hs, hs2⟩ : ∃ s, s < shipsN N ∧ newQ N (hoursR N (a + 1)) s = true := by
            apply Classical.byContradiction
            intro hno
            apply hne
            intro j hj
            have hmono := lostQ_mono hV (a + 1) j hj
            have hj2 : ¬ newQ N (hoursR N (a + 1)) j = true := fun z => hno ⟨j, hj, z⟩
            unfold newQ at hj2
            cases e1 : lostQ N j with
            | true => exact (hmono e1).symm
            | false =>
              cases e2 : lostQ (hoursR N (a + 1)) j with
              | false => rfl
              | true => rw [e1, e2] at hj2; exact absurd rfl hj2
          obtain ⟨l, ⟨hl1, hl2⟩, hl3⟩ := pk_least (fun s => s < shipsN N ∧ newQ N (hoursR N (a + 1)) s = true) ⟨s, hs, hs2⟩
          have hl4 : ∀ j, j < l → newQ N (hoursR N (a + 1)) j = false := by
            intro j hj
            have z := hl3 j hj
            cases e : newQ N (hoursR N (a + 1)) j with
            | false => rfl
            | true => exact absurd ⟨by omega, e⟩ z
          have hR4 : Rel c4 m1 := h2.scrC (f2'.mono (by unfold LT LSC; simp))
          obtain ⟨m', e1, e2, e3⟩ := L58 (a + 1) c4 m4 (by omega) hR4 f4' q2 q4
          have hlast : xloop (sX9_lost_L34 p (nI (lostS N))) (n2 + 1) (nI (a + 1)) m4 = sX9_lost_L58 p (nI (a + 1)) (nI (lostS N)) m4 := by
            rw [xloop_s]
            simp only [sX9_lost_L34]
            by_cases h60 : (60 : Int32) ≤ nI (a + 1)
            · rw [if_pos h60]
            · rw [if_neg h60, zX9_lostNow (by rw [q2]; exact hVa1), xb_s, q2, if_neg]
              intro z
              apply hne
              have z2 : lostS (hoursR N (a + 1)) = lostS N := by
                have l1 := lostS_lt hVa1
                have l2 := lostS_lt hV
                exact (nI_eq (by omega) (by omega)).mp z
              unfold lostS at z2
              rw [hsh1] at z2
              intro j hj
              exact (set_inj z2 j hj).symm
          rw [hlast, e3]
          have hbit : (setN (newQ N (hoursR N (a + 1))) (shipsN N)).testBit l = true := by rw [setN_bit]; simp [hl1, hl2]
          have hlow : ∀ j, j < l → (setN (newQ N (hoursR N (a + 1))) (shipsN N)).testBit j = false := by intro j hj; rw [setN_bit, hl4 j hj]; simp
          have hD := set_lt (q := newQ N (hoursR N (a + 1))) h7
          have hz : ¬ nI (setN (newQ N (hoursR N (a + 1))) (shipsN N)) = 0 := by
            intro z
            have z2 : setN (newQ N (hoursR N (a + 1))) (shipsN N) = 0 := (nI_eq (by omega) (by omega)).mp (z.trans nI_0.symm)
            rw [z2] at hbit
            simp at hbit
          rw [if_neg hz]
          by_cases hp : p = 0
          · rw [if_pos hp, if_pos hp]
            exact ⟨_, c4, m', rfl, rfl, e2⟩
          · rw [if_neg hp, if_neg hp]
            obtain ⟨t1, t2⟩ := low_tab _ hD l (by omega) hbit hlow
            have hpw : 2 ^ l ≤ 2 ^ 6 := Nat.pow_le_pow_right (by omega) (by omega)
            rw [t1, zX9_bits (by omega), xb_s, t2, zX8_newly (N := N) (N' := hoursR N (a + 1)) (by have := hR4.F; rw [k2] at this; exact this) p2 hV hVa1 hl1 hl2 hl4, xb_s]
            exact ⟨_, c4, m', rfl, rfl, e2⟩
    exact key 60 xF xF 0 c2 m1 rfl (by rw [xF_eq]; omega) (by rw [xF_eq]; omega) t2 (EqX.rf _ c2) k2 (EqX.rf _ m1) k4.2.1 (fun _ _ => rfl)
  · rw [if_neg h1, if_neg h1]
    exact errR h (by decide) _ rfl rfl
