theorem drC (p : Int32) (self : Int32 → xS → Option (Int32 × xS)) (a : Int32) (c : xS) : sX8_draws_L53 p self a c = if a < 0 then xbind (sX8_refuse 2 c) (fun r s => some (r, s)) else xbind (sX8_think 0 c) (fun _ s => if xin p 7 then xloop (sX8_draws_L74 p a self) xF 0 (xup s 36 (upd (s 36) p.toNatClampNeg a)) else none) := by
  unfold sX8_draws_L53 xlet
  rfl
theorem drM (p : Int32) (self : Int32 × Int32 → xS → Option (Int32 × xS)) (a b : Int32) (m : xS) : sX9_draws_L48 p self (a, b) m = if b < 0 then sX9_draws_L92 a m else if 0 ≤ a then sX9_draws_L92 a m else xbind (sX9_shipAt p 2 m) (fun r s => if xin r 242 then xbind (sX9_inBehind 60 (xup s 1 (upd (s 1) r.toNatClampNeg b))) (fun r70 s70 => xbind (sX9_hasBit r70 p s70) (fun r74 s74 => self ((if r74 = 0 then -1 else b), b + -1) s74)) else none) := by
  unfold sX9_draws_L48 sX9_draws_L85 xlet
  rfl
theorem op_draws (p : Int32) : OpR (sX8_draws p) (sX9_draws p) := by
  intro c m h
  unfold sX8_draws sX9_draws
  simp only [zX8_isShip, zX9_isShip, xb_s, bif0, fC1, fM1, fC3, fM3]
  rw [h.F.1]
  by_cases h1 : 0 ≤ p ∧ p ≤ m 1 2 - 1
  · rw [if_pos h1, if_pos h1]
    obtain ⟨s, hs, rfl⟩ := inShip h.V.H h1
    have hV := h.V.H
    have hs7 : s < 7 := by have := h.V.H.s7; omega
    have hx : xin (nI s) 7 := xin_n hs7 (by omega)
    have gl : sX9_shipIs (nI s) 4 m = some (m 1 (37 + 5 * s), m) := by have z := zX9_shipIs (i := s) (f := 4) hs7 (by omega) m; rw [show 33 + 5 * s + 4 = 37 + 5 * s by omega] at z; exact z
    rw [if_pos hx, nI_N (by omega), gl, xb_s, (h.F.2.2 s hs7).2.2.2.2]
    rcases (hV.2.2.2.2.2.2 s hs7).2.2 with hl | hl
    · rw [hl, if_pos rfl, if_neg (show ¬ (0 : Int32) = 1 by decide)]
      obtain ⟨c1, g1, g2, g3, g4⟩ := drwB h (bk_ok h)
      rw [upd_same] at g2
      obtain ⟨m1, k1, k2, k3, k4⟩ := asd h
      rw [h.L.1, g1, xb_s, k1]
      have hR1 : Rel c1 m1 := k4.scrC (g3.mono (by unfold LC LSC; simp))
      have key : ∀ (d n1 n2 : Nat) (c m2 : xS), d ≤ 10 → Rel c m2 → asideR m2 → m2 1 = m 1 → ChartR c (m 1) → d < n1 → d + 1 < n2 → ∃ w c' m', xloop (sX8_draws_L53 (nI s)) n1 (nI d - 1) c = some (w, c') ∧ xloop (sX9_draws_L48 (nI s)) n2 (-1, nI d - 1) m2 = some (w, m') ∧ Rel c' m' := by
        intro d
        induction d with
        | zero =>
          intro n1 n2 c m2 _ hR has e1 hC hn1 hn2
          obtain ⟨n1, rfl⟩ : ∃ z, n1 = z + 1 := ⟨n1 - 1, by omega⟩
          obtain ⟨n2, rfl⟩ : ∃ z, n2 = z + 1 := ⟨n2 - 1, by omega⟩
          rw [xloop_s, xloop_s]
          simp only [sX8_draws_L53, sX9_draws_L48, sX9_draws_L92]
          rw [if_pos m1_lt, if_pos m1_lt, if_neg (by decide), fC2, fM2]
          exact errR hR (by decide) _ rfl rfl
        | succ d ih =>
          intro n1 n2 c m2 hd hR has e1 hC hn1 hn2
          obtain ⟨n1, rfl⟩ : ∃ z, n1 = z + 1 := ⟨n1 - 1, by omega⟩
          obtain ⟨n2, rfl⟩ : ∃ z, n2 = z + 2 := ⟨n2 - 2, by omega⟩
          have hVd := hV.draft hs7 (nI d)
          have hagd : ∀ j, (9 ≤ j ∧ j < 33) ∨ 138 ≤ j → upd (m 1) (35 + 5 * s) (nI d) j = m 1 j := fun j hj => upd_n _ _ (by omega)
          have hagH : agH (m 1) (upd (m 1) (35 + 5 * s) (nI d)) := fun j a b => upd_n _ _ (by omega)
          obtain ⟨c2, t1, t2, t3, t4⟩ := thkB hR (N' := m 1) hC (fun j _ _ => by rw [e1]) (bk_ok h) (n := 0) (by omega)
          have t1 : sX8_think 0 c = some ((), c2) := t1
          have hF3 := t2.draft (s := s) hs7 (nI d)
          have hF3 : FleetR (xup c2 36 (upd (c2 36) s (nI d))) 33 (upd (m 1) (35 + 5 * s) (nI d)) := hF3
          have hE3 : EqX LT c (xup c2 36 (upd (c2 36) s (nI d))) := t3.up _ (by unfold LT; simp)
          have a35 : xin (nI (35 + 5 * s)) 242 := xin_n (by omega) (by omega)
          have ga : sX9_shipAt (nI s) 2 m2 = some (nI (35 + 5 * s), m2) := by have z := zX9_shipAt s 2 m2; rw [show 33 + 5 * s + 2 = 35 + 5 * s by omega] at z; exact z
          rw [xloop_s, xloop_s]
          generalize hself : xloop (sX8_draws_L53 (nI s)) n1 = self
          generalize hself2 : xloop (sX9_draws_L48 (nI s)) (n2 + 1) = self2
          rw [drC, drM]
          simp only [if_pos hx]
          rw [nI_pm, if_neg (nI_nneg (by omega)), if_neg (nI_nneg (by omega)), if_neg (show ¬ (0 : Int32) ≤ -1 by decide), t1, xb_s, nI_N (by omega), ga, xb_s, if_pos a35, nI_N (by omega)]
          have inner : ∀ (r n k : Nat) (c3 : xS), k + r = 60 → r < n → FleetR c3 33 (hoursR (upd (m 1) (35 + 5 * s) (nI d)) k) → EqX LT c c3 → ∃ c4, FleetR c4 33 (hoursR (upd (m 1) (35 + 5 * s) (nI d)) 60) ∧ EqX LT c c4 ∧ xloop (sX8_draws_L74 (nI s) (nI d) self) n (nI k) c3 = (if c4 37 s = 0 then some (nI d, c4) else self (nI d + -1) c4) := by
            intro r
            induction r with
            | zero =>
              intro n k c3 hk hn hF hE
              obtain ⟨n, rfl⟩ : ∃ z, n = z + 1 := ⟨n - 1, by omega⟩
              have hk' : k = 60 := by omega
              subst hk'
              refine ⟨c3, hF, hE, ?_⟩
              rw [xloop_s]
              simp only [sX8_draws_L74, xlet_e]
              rw [if_pos (show (60 : Int32) ≤ nI 60 by decide), if_pos hx, nI_N (by omega)]
            | succ r ih2 =>
              intro n k c3 hk hn hF hE
              obtain ⟨n, rfl⟩ : ∃ z, n = z + 1 := ⟨n - 1, by omega⟩
              have hagk := hoursR_ag hVd k
              obtain ⟨c4, p1, p2, p3⟩ := zX8_passHour (c := c3) (N := hoursR (upd (m 1) (35 + 5 * s) (nI d)) k) (Or.inr rfl) hF (((hC.go (fun q x y => hE q (by unfold LT; simp; omega))).H hV.c8 hagH).H hVd.c8 hagk) (((hR.B.go (fun q x y z w => hE q (by unfold LT; simp; omega))).H (N' := upd (m 1) (35 + 5 * s) (nI d)) (by rw [e1]; exact hagH)).H hagk) (VH_hoursR hVd k)
              rw [xloop_s]
              simp only [sX8_draws_L74, xlet_e]
              rw [if_neg (show ¬ (60 : Int32) ≤ nI k by rw [i_le, i_nI (by omega)]; show ¬ (60 : Int) ≤ _; omega), p1, xb_s, nI_s]
              exact ih2 n (k + 1) c4 (by omega) (by omega) (by rw [hoursR_s]; exact p2) (hE.tr (p3.mono (by unfold LF LT; simp)))
          obtain ⟨c4, i1, i2, i3⟩ := inner 60 xF 0 _ rfl (by rw [xF_eq]; omega) hF3 hE3
          have i3 : xloop (sX8_draws_L74 (nI s) (nI d) self) xF 0 (xup c2 36 (upd (c2 36) s (nI d))) = (if c4 37 s = 0 then some (nI d, c4) else self (nI d + -1) c4) := i3
          have hR4 : Rel c4 m2 := hR.scrC (i2.mono (by unfold LT LSC; simp))
          obtain ⟨m3, q1, q2, q3, q4⟩ := inB hR4 has hVd (fun j hj => by rw [e1]; exact hagd j hj) (n := 60) (by omega)
          have q1 : sX9_inBehind 60 (xup m2 1 (upd (m 1) (35 + 5 * s) (nI d))) = some (nI (atS (hoursR (upd (m 1) (35 + 5 * s) (nI d)) 60) 0), m3) := q1
          have hVL := VH_hoursR hVd 60
          have hA := atS_lt hVL 0
          have hsh : shipsN (hoursR (upd (m 1) (35 + 5 * s) (nI d)) 60) = shipsN (m 1) := by
            rw [(hoursR_ag hVd 60).ships, hagH.ships]
          have hbit : hb (nI (atS (hoursR (upd (m 1) (35 + 5 * s) (nI d)) 60) 0)) s ↔ hoursR (upd (m 1) (35 + 5 * s) (nI d)) 60 (36 + 5 * s) = 0 := by
            rw [hb_tab _ (by omega) s (by omega)]
            unfold atS
            rw [setN_bit, hsh]
            unfold atQ
            simp [hs]
          rw [i3, e1, q1, xb_s, zX9_hasBit, xb_s, bif0, (i1.2.2 s hs7).2.2.2.1, x_m1]
          by_cases h4 : hoursR (upd (m 1) (35 + 5 * s) (nI d)) 60 (36 + 5 * s) = 0
          · rw [if_pos h4, if_pos (hbit.mpr h4)]
            refine ⟨_, c4, m3, rfl, ?_, q4⟩
            rw [← hself2, xloop_s]
            simp only [sX9_draws_L48, sX9_draws_L92]
            have h0 : (0 : Int32) ≤ nI d := nI_le (Nat.zero_le d) (by omega)
            by_cases h5 : nI d - 1 < 0
            · rw [if_pos h5, if_pos h0]
            · rw [if_neg h5, if_pos h0, if_pos h0]
          · rw [if_neg h4, if_neg (fun z => h4 (hbit.mp z)), ← hself, ← hself2]
            exact ih n1 (n2 + 1) c4 m3 (by omega) q4 q3 (by rw [q2, e1]) (hC.go (fun q x y => i2 q (by unfold LT; simp; omega))) (by omega) (by omega)
      rw [show (9 : Int32) = nI 10 - 1 by decide]
      exact key 10 xF xF c1 m1 (Nat.le_refl _) hR1 k3 k2 g2 (by rw [xF_eq]; omega) (by rw [xF_eq]; omega)
    · rw [hl, if_neg (show ¬ (1 : Int32) = 0 by decide), if_pos rfl]
      exact errR h (by decide) _ rfl rfl
  · rw [if_neg h1, if_neg h1]
    exact errR h (by decide) _ rfl rfl
