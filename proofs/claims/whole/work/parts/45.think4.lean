/-! ===== dark, traffic, which ===== -/
theorem VH.beam {N : Row} (h : VH N) (x : Int32) : VH (upd N 5 x) := by
  have k : ∀ j, j ≠ 5 → upd N 5 x j = N j := fun j hj => upd_n _ _ hj
  have hs : shipsN (upd N 5 x) = shipsN N := by unfold shipsN; rw [k 2 (by omega)]
  obtain ⟨a1, a2, a3, a4, a5, a6, a7⟩ := h
  refine ⟨by rw [k 1 (by omega)]; exact a1, by rw [k 2 (by omega)]; exact a2, ?_, ?_, VT_ag (fun j hj => k j (by omega)) a5, VT_ag (fun j hj => k j (by omega)) a6, ?_⟩
  · unfold yrOk; rw [k 3 (by omega), k 4 (by omega)]; exact a3
  · unfold yrOk; rw [k 3 (by omega), k 4 (by omega)]; exact a4
  · intro j hj
    rw [k (33 + 5 * j) (by omega), k (36 + 5 * j) (by omega), k (37 + 5 * j) (by omega), k 1 (by omega), hs]
    exact a7 j hj
theorem dkC (p r : Int32) (self : Int32 × Int32 × Int32 → xS → Option (Int32 × xS)) (a f o : Int32) (c : xS) : sX8_dark_L51 p r self (a, f, o) c =
    if ((1 : Int32) <<< ((c 1 0) &&& 31)) ≤ o then (if a < 0 then xbind (sX8_refuse 2 c) (fun r s => some (r, s)) else some (a, c))
    else if (o &&& ((c 1 3) ^^^ (-1))) = 0 then xbind (sJ6_bitCount_0f7a4 o c) (fun r82 s82 => if f ≤ r82 then self (a, f, o + 1) s82 else
      xbind (sX8_think p (xup s82 45 (upd (s82 45) 0 ((s82 1 3) &&& (o ^^^ (-1)))))) (fun _ s111 => xbind (sX3_countLost 33 s111) (fun r118 s118 => if r < r118 then self (a, f, o + 1) s118 else xbind (sJ6_bitCount_0f7a4 o s118) (fun r130 s130 => self (o, r130, o + 1) s130))))
    else self (a, f, o + 1) c := by
  unfold sX8_dark_L51 sX8_dark_L135 xlet
  rfl
theorem dkM (p r : Int32) (self : Int32 × Int32 → xS → Option (Int32 × xS)) (a o : Int32) (m : xS) : sX9_dark_L41 p r self (a, o) m =
    if ((1 : Int32) <<< ((m 1 1) &&& 31)) ≤ o then (if 0 ≤ a then some (a, m) else xbind (sX9_finding (-1000000002) m) (fun r s => some (r, s)))
    else if (o &&& ((m 1 5) ^^^ (-1))) = 0 then (if a < 0 then sX9_dark_L84 p a o r self m else xbind (sX9_bits o m) (fun r74 s74 => xbind (sX9_bits a s74) (fun r78 s78 => if r78 ≤ r74 then self (a, o + 1) s78 else sX9_dark_L84 p a o r self s78)))
    else self (a, o + 1) m := by
  unfold sX9_dark_L41 sX9_dark_L124 xlet
  rfl
theorem dkM2 (p r : Int32) (self : Int32 × Int32 → xS → Option (Int32 × xS)) (a o : Int32) (m : xS) : sX9_dark_L84 p a o r self m =
    xbind (sX9_hoursGo p (xup m 1 (upd (m 1) 5 ((m 1 5) &&& (o ^^^ (-1)))))) (fun _ s99 => xbind (sX9_lostNow s99) (fun r104 s104 => xbind (sX9_bits r104 s104) (fun r107 s107 => xbind (sX9_putBack r107 s107) (fun r110 s110 => self ((if r < r110 then a else o), o + 1) s110)))) := by
  unfold sX9_dark_L84 sX9_dark_L123 sX9_dark_L124 xlet
  rfl
theorem op_dark (p : Int32) : OpR (sX8_dark p) (sX9_dark p) := by
  intro c m h
  unfold sX8_dark sX9_dark
  simp only [zX8_within, zX9_within, xb_s, bif0, fC1, fM1]
  by_cases h1 : 0 ≤ p ∧ p ≤ 20
  · rw [if_pos h1, if_pos h1]
    obtain ⟨L, hL, rfl⟩ := inN (n := 21) h1 (by decide)
    have hV := h.V.H
    have h7 := hV.s7
    have hc8 := hV.c8
    obtain ⟨c1, g1, g2, g3, g4⟩ := drwB h (bk_ok h)
    rw [upd_same] at g2
    obtain ⟨m1, k1, k2, k3, k4⟩ := asd h
    have hF0 := h.F
    have hL0 := h.L.1
    rw [zX3_countLost hF0 hV, xb_s, hL0, g1, xb_s, k1, zX9_lostNow (by rw [k2]; exact hV), xb_s, zX9_bits (by rw [k2]; have := lostS_lt hV; omega), xb_s, k2, pop_lostS hV]
    have hR1 : Rel c1 m1 := k4.scrC (g3.mono (by unfold LC LSC; simp))
    have hlim : (2 : Nat) ^ cellsN (m 1) ≤ 2 ^ 8 := Nat.pow_le_pow_right (by omega) hc8
    generalize hN : m 1 = N at *
    have hlC : lostC N ≤ 7 := by have := cntN_le (lostQ N) (shipsN N); unfold lostC; omega
    have key : ∀ (r n1 n2 o : Nat) (a f : Int32) (c m2 : xS), o + r = 2 ^ cellsN N → Rel c m2 → asideR m2 → m2 1 = N → c 45 1 = N 1 → DrawnR c N (N 4) (cellsN N) →
        ((a = -1 ∧ f = 9) ∨ ∃ B, B < 256 ∧ a = nI B ∧ f = nI (popN B)) → r < n1 → r < n2 →
        ∃ w c' m', xloop (sX8_dark_L51 (nI L) (nI (lostC N))) n1 (a, f, nI o) c = some (w, c') ∧ xloop (sX9_dark_L41 (nI L) (nI (lostC N))) n2 (a, nI o) m2 = some (w, m') ∧ Rel c' m' := by
      intro r
      induction r with
      | zero =>
        intro n1 n2 o a f c m2 ho hR has e1 h45 hD hB hn1 hn2
        obtain ⟨n1, rfl⟩ : ∃ z, n1 = z + 1 := ⟨n1 - 1, by omega⟩
        obtain ⟨n2, rfl⟩ : ∃ z, n2 = z + 1 := ⟨n2 - 1, by omega⟩
        have ho' : o = 2 ^ cellsN N := by omega
        rw [xloop_s, xloop_s, dkC, dkM, hR.B.1, e1, hV.cI, shl9_tab _ (by omega), ho', if_pos (Int32.le_refl _), if_pos (Int32.le_refl _)]
        rcases hB with ⟨rfl, rfl⟩ | ⟨B, hB, rfl, rfl⟩
        · rw [if_pos (by decide), if_neg (by decide), fC2, fM2]
          exact errR hR (by decide) _ rfl rfl
        · rw [if_neg (nI_nneg (by omega)), if_pos (show (0 : Int32) ≤ nI B from nI_le (Nat.zero_le B) (by omega))]
          exact ⟨_, c, m2, rfl, rfl, hR⟩
      | succ r ih =>
        intro n1 n2 o a f c m2 ho hR has e1 h45 hD hB hn1 hn2
        obtain ⟨n1, rfl⟩ : ∃ z, n1 = z + 1 := ⟨n1 - 1, by omega⟩
        obtain ⟨n2, rfl⟩ : ∃ z, n2 = z + 1 := ⟨n2 - 1, by omega⟩
        have ho256 : o < 256 := by omega
        have hgo' : ¬ nI (2 ^ cellsN N) ≤ nI o := nI_ge (by omega) (by omega)
        have hpo := popN_le o
        have again : ∀ (a' f' : Int32) (c' m' : xS), Rel c' m' → asideR m' → m' 1 = N → c' 45 1 = N 1 → DrawnR c' N (N 4) (cellsN N) → ((a' = -1 ∧ f' = 9) ∨ ∃ B, B < 256 ∧ a' = nI B ∧ f' = nI (popN B)) → ∃ w c'' m'', xloop (sX8_dark_L51 (nI L) (nI (lostC N))) n1 (a', f', nI o + 1) c' = some (w, c'') ∧ xloop (sX9_dark_L41 (nI L) (nI (lostC N))) n2 (a', nI o + 1) m' = some (w, m'') ∧ Rel c'' m'' := by
          intro a' f' c' m' q1 q2 q3 q4 q5 q6
          rw [nI_s]
          exact ih n1 n2 (o + 1) a' f' c' m' (by omega) q1 q2 q3 q4 q5 q6 (by omega) (by omega)
        rw [xloop_s, xloop_s]
        generalize hs1 : xloop (sX8_dark_L51 (nI L) (nI (lostC N))) n1 = self1 at again ⊢
        generalize hs2 : xloop (sX9_dark_L41 (nI L) (nI (lostC N))) n2 = self2 at again ⊢
        rw [dkC, dkM, hR.B.1, hR.L.2, e1, hV.cI, shl9_tab _ (by omega), if_neg hgo', if_neg hgo']
        by_cases h2 : nI o &&& (N 5 ^^^ (-1)) = 0
        · rw [if_pos h2, if_pos h2, zJ6_bitCount ho256, xb_s]
          -- the set is tried on both sides
          have tried : ∃ c' m' r', (sX8_think (nI L) (xup c 45 (upd (c 45) 0 ((c 1 3) &&& (nI o ^^^ (-1))))) = some ((), c')) ∧ sX3_countLost 33 c' = some (nI r', c') ∧ r' ≤ 7 ∧ sX9_dark_L84 (nI L) a (nI o) (nI (lostC N)) self2 m2 = self2 ((if nI (lostC N) < nI r' then a else nI o), nI o + 1) m' ∧ Rel c' m' ∧ asideR m' ∧ m' 1 = N ∧ c' 45 1 = N 1 ∧ DrawnR c' N (N 4) (cellsN N) := by
            generalize hx : (c 1 3) &&& (nI o ^^^ (-1)) = x
            have hx2 : N 5 &&& (nI o ^^^ (-1)) = x := by rw [← hx, hR.L.2, e1]
            have hVx := hV.beam x
            have hc45 : EqX LC c (xup c 45 (upd (c 45) 0 x)) := (EqX.rf _ c).up _ (by unfold LC; simp)
            have hRx : Rel (xup c 45 (upd (c 45) 0 x)) m2 := hR.scrC (hc45.mono (by unfold LC LSC; simp))
            have hcx : cellsN (upd N 5 x) = cellsN N := by unfold cellsN; rw [upd_n _ _ (by decide)]
            have hagx : agB N (upd N 5 x) := ⟨fun j a b => upd_n _ _ (by omega), fun j a => upd_n _ _ (by omega)⟩
            have hCx : ChartR (xup c 45 (upd (c 45) 0 x)) (upd N 5 x) := by
              refine ⟨by rw [xup_s, upd_s, upd_s], by rw [xup_s, upd_n _ _ (by decide), upd_n _ _ (by decide)]; exact h45, fun j hj => ?_⟩
              rw [hcx] at hj
              obtain ⟨d1, d2, d3⟩ := hD j hj
              rw [xup_n _ _ (by decide), xup_n _ _ (by decide), xup_n _ _ (by decide), upd_n N _ (show 3 ≠ 5 by decide), upd_n N _ (show 4 ≠ 5 by decide), dep_ag hagx (by omega), dep_ag hagx (by omega), dep_ag hagx (by omega)]
              exact ⟨d1, d2, d3⟩
            obtain ⟨c2, t1, t2, t3, t4⟩ := thkB hRx (N' := upd N 5 x) hCx (fun j _ hj => by rw [upd_n _ _ hj, e1]) (by rw [upd_n _ _ (by decide)]; have := bk_ok h; rw [hN] at this; exact this) (n := L) (by omega)
            have hVL := VH_hoursR hVx L
            have hcnt : lostC (hoursR (upd N 5 x) L) ≤ 7 := by
              have q1 := cntN_le (lostQ (hoursR (upd N 5 x) L)) (shipsN (hoursR (upd N 5 x) L))
              have q2 := hVL.s7
              unfold lostC; omega
            have e0 : xup m2 1 (upd (m2 1) 5 x) 1 = upd N 5 x := by rw [xup_s, e1]
            have hcM : cacheOk (xup m2 1 (upd (m2 1) 5 x)) := hR.2.1.ag (xup_n _ _ (by decide)) (by rw [e0, e1]; exact hagx)
            obtain ⟨m3, q1, q2, q3, q4⟩ := hgo hVx e0 hcM (n := L) (by omega)
            obtain ⟨m4, b1, b2, b3, b4⟩ := back (c := c2) (m := m2) (m1 := m3) (hR.scrC ((hc45.mono (by unfold LC LSC; simp)).tr (t3.mono (by unfold LT LSC; simp)))) has (((EqX.rf [1, 5, 8, 9] m2).up _ (by simp)).tr q3) (fun j hj => by rw [q2, (hoursR_ag hVx L).B2 j hj, upd_n _ _ (by omega), e1]) q4 (nI (lostC (hoursR (upd N 5 x) L)))
            refine ⟨c2, m4, lostC (hoursR (upd N 5 x) L), t1, zX3_countLost t2 hVL, hcnt, ?_, b4, b3, by rw [b2, e1], ?_, ?_⟩
            · rw [dkM2, show m2 1 5 = N 5 by rw [e1], hx2, q1, zX9_lostNow (by rw [q2]; exact hVL), xb_s, q2, zX9_bits (by have := lostS_lt hVL; omega), xb_s, pop_lostS hVL, b1, xb_s]
            · rw [t3 45 (by unfold LT; simp), xup_s, upd_n _ _ (by decide)]; exact h45
            · intro j hj
              rw [t3 46 (by unfold LT; simp), t3 47 (by unfold LT; simp), t3 48 (by unfold LT; simp), xup_n _ _ (by decide), xup_n _ _ (by decide), xup_n _ _ (by decide)]
              exact hD j hj
          obtain ⟨c', m', r', y1, y2, y3, y4, y5, y6, y7, y8, y9⟩ := tried
          have hlt : nI (lostC N) < nI r' ↔ lostC N < r' := nI_ltI (by omega) (by omega)
          have both : ∀ (hyes : ((a = -1 ∧ f = 9) ∨ ∃ B, B < 256 ∧ a = nI B ∧ f = nI (popN B))), ∃ w c'' m'', (if nI (lostC N) < nI r' then self1 (a, f, nI o + 1) c' else self1 (nI o, nI (popN o), nI o + 1) c') = some (w, c'') ∧ self2 ((if nI (lostC N) < nI r' then a else nI o), nI o + 1) m' = some (w, m'') ∧ Rel c'' m'' := by
            intro hyes
            by_cases h3 : nI (lostC N) < nI r'
            · rw [if_pos h3, if_pos h3]
              exact again a f c' m' y5 y6 y7 y8 y9 hyes
            · rw [if_neg h3, if_neg h3]
              exact again (nI o) (nI (popN o)) c' m' y5 y6 y7 y8 y9 (Or.inr ⟨o, ho256, rfl, rfl⟩)
          rcases hB with ⟨rfl, rfl⟩ | ⟨B, hB, rfl, rfl⟩
          · rw [if_neg (show ¬ (9 : Int32) ≤ nI (popN o) by rw [i_le, i_nI (by omega)]; show ¬ (9 : Int) ≤ _; omega), if_pos (show (-1 : Int32) < 0 by decide), y1, xb_s, y2, xb_s, y4, zJ6_bitCount ho256, xb_s]
            exact both (Or.inl ⟨rfl, rfl⟩)
          · have hpB := popN_le B
            rw [if_neg (nI_nneg (show B < 2147483648 by omega)), zX9_bits ho256, xb_s, zX9_bits hB, xb_s]
            by_cases h4 : nI (popN B) ≤ nI (popN o)
            · rw [if_pos h4, if_pos h4]
              exact again (nI B) (nI (popN B)) c m2 hR has e1 h45 hD (Or.inr ⟨B, hB, rfl, rfl⟩)
            · rw [if_neg h4, if_neg h4, y1, xb_s, y2, xb_s, y4, zJ6_bitCount ho256, xb_s]
              exact both (Or.inr ⟨B, hB, rfl, rfl⟩)
        · rw [if_neg h2, if_neg h2]
          exact again a f c m2 hR has e1 h45 hD hB
    have hD1 : DrawnR c1 N (N 4) (cellsN N) := g2.2.2
    exact key (2 ^ cellsN N) xF xF 0 (-1) 9 c1 m1 (Nat.zero_add _) hR1 k3 k2 g2.2.1 hD1 (Or.inl ⟨rfl, rfl⟩) (by rw [xF_eq]; omega) (by rw [xF_eq]; omega)
  · rw [if_neg h1, if_neg h1]
    exact errR h (by decide) _ rfl rfl
theorem op_traffic (n q : Int32) : OpR (sX8_traffic n q) (sX9_traffic n q) := by
  intro c m h
  unfold sX8_traffic sX9_traffic sX8_traffic_L19 sX9_traffic_L16
  simp only [zX9_isBehind, zX8_within, zX9_within, xb_s, bif0, fC1, fM1]
  by_cases h1 : 0 ≤ n ∧ n ≤ 60
  · rw [if_pos h1, if_pos h1]
    by_cases h2 : 0 ≤ q ∧ q ≤ 1
    · rw [if_pos h2, if_pos h2]
      obtain ⟨L, hL, rfl⟩ := inN (n := 61) h1 (by decide)
      have hV := h.V.H
      have hc8 := hV.c8
      obtain ⟨c1, c2, g1, g2, g3, g4, g5⟩ := thkC h (n := L) (by omega)
      obtain ⟨m1, k1, k2, k3, k4⟩ := asd h
      have h' : Rel c2 m1 := k4.scrC g4
      obtain ⟨m2, q1, q2, q3, q4⟩ := hgo (m := m1) hV k2 k4.2.1 (n := L) (by omega)
      have hVL := VH_hoursR hV L
      have hsL := hVL.s7
      rw [g1, xb_s, g2, xb_s, zX3_setLost g3 hVL, xb_s, k1, q1]
      simp only [xlet_e]
      have hcell : cellsN (hoursR (m 1) L) = cellsN (m 1) := (hoursR_ag hV L).cells
      have key : ∀ (r n1 n2 k : Nat) (a b : Int32), k + r = cellsN (m 1) → r < n1 → r < n2 → (b = -1 ∨ ∃ z : Nat, z ≤ 8 ∧ b = nI z) →
          ∃ w m', xloop (sX8_traffic_L67 q (nI (lostS (hoursR (m 1) L)) ^^^ -1)) n1 (a, b, nI k) c2 = some (w, c2) ∧ xloop (sX9_traffic_L47 q) n2 (a, b, nI k) m2 = some (w, m') ∧ Rel c2 m' := by
        intro r
        induction r with
        | zero =>
          intro n1 n2 k a b hk hn1 hn2 hb
          obtain ⟨n1, rfl⟩ : ∃ z, n1 = z + 1 := ⟨n1 - 1, by omega⟩
          obtain ⟨n2, rfl⟩ : ∃ z, n2 = z + 1 := ⟨n2 - 1, by omega⟩
          have hk' : k = cellsN (m 1) := by omega
          subst hk'
          obtain ⟨m', b1, -, -, b2⟩ := back h' k3 q3 (by rw [q2, k2]; exact (hoursR_ag hV L).B2) q4 (if q = 0 then a else b)
          rw [xloop_s, xloop_s]
          simp only [sX8_traffic_L67, sX9_traffic_L47, sX9_traffic_L116, xlet_e]
          rw [h'.B.1, k2, hV.cI, if_pos (Int32.le_refl _), q2, (hoursR_ag hV L) 1 (by omega) (Or.inl (by omega)), hV.cI, if_pos (Int32.le_refl _), b1, xb_s]
          exact ⟨_, m', rfl, rfl, b2⟩
        | succ r ih =>
          intro n1 n2 k a b hk hn1 hn2 hb
          obtain ⟨n1, rfl⟩ : ∃ z, n1 = z + 1 := ⟨n1 - 1, by omega⟩
          obtain ⟨n2, rfl⟩ : ∃ z, n2 = z + 1 := ⟨n2 - 1, by omega⟩
          rw [xloop_s, xloop_s]
          have ih' := ih n1 n2 (k + 1)
          generalize xloop (sX8_traffic_L67 q (nI (lostS (hoursR (m 1) L)) ^^^ -1)) n1 = self1 at ih' ⊢
          generalize xloop (sX9_traffic_L47 q) n2 = self2 at ih' ⊢
          simp only [sX8_traffic_L67, sX8_traffic_L110, sX9_traffic_L47, sX9_traffic_L89, xlet_e]
          have hA : nI (atS (hoursR (m 1) L) (nI k)) &&& (nI (lostS (hoursR (m 1) L)) ^^^ -1) = nI (setN (fun s => atQ (hoursR (m 1) L) (nI k) s && !lostQ (hoursR (m 1) L) s) (shipsN (hoursR (m 1) L))) := set_andn _ _ hsL
          generalize hS : setN (fun s => atQ (hoursR (m 1) L) (nI k) s && !lostQ (hoursR (m 1) L) s) (shipsN (hoursR (m 1) L)) = S at hA
          have hS128 : S < 128 := by rw [← hS]; exact set_lt hsL
          have hpS := popN_le S
          rw [h'.B.1, k2, hV.cI, if_neg (nI_ge (show k < cellsN (m 1) by omega) (by omega)), zX3_setAt g3 hVL, xb_s, hA, zJ6_bitCount (by omega), xb_s, q2, (hoursR_ag hV L) 1 (by omega) (Or.inl (by omega)), hV.cI, if_neg (nI_ge (show k < cellsN (m 1) by omega) (by omega)), zX9_shipsAt (by rw [q2]; exact hVL), xb_s, zX9_lostNow (by rw [q2]; exact hVL), xb_s, q2, hA, zX9_bits (by omega), xb_s, nI_s]
          by_cases h3 : nI (popN S) ≤ b
          · have h4 : ¬ b < nI (popN S) := by rw [i_le] at h3; rw [i_lt]; omega
            rw [if_pos h3, if_pos h3, if_neg h4]
            exact ih' a b (by omega) (by omega) (by omega) hb
          · have h4 : b < nI (popN S) := by rw [i_le] at h3; rw [i_lt]; omega
            rw [if_neg h3, if_neg h3, if_pos h4]
            exact ih' (nI k) (nI (popN S)) (by omega) (by omega) (by omega) (Or.inr ⟨_, hpS, rfl⟩)
      obtain ⟨w, m', e1, e2, e3⟩ := key (cellsN (m 1)) xF xF 0 0 (-1) (Nat.zero_add _) (by rw [xF_eq]; omega) (by rw [xF_eq]; omega) (Or.inl rfl)
      exact ⟨w, c2, m', e1, e2, e3⟩
    · rw [if_neg h2, if_neg h2]
      exact errR h (by decide) _ rfl rfl
  · rw [if_neg h1, if_neg h1]
    exact errR h (by decide) _ rfl rfl
