/-! ===== acts that think ===== -/
theorem VH.lens {N N' : Row} (h : VH N) (h1 : ∀ j, j ≠ 4 → j ≠ 5 → N' j = N j) (h4 : 0 ≤ (N' 4).toInt ∧ (N' 4).toInt ≤ 99) (h3 : 0 ≤ (N 3).toInt ∧ (N 3).toInt ≤ 999) : VH N' := by
  obtain ⟨a1, a2, -, -, a5, a6, a7⟩ := h
  have e3 : N' 3 = N 3 := h1 3 (by omega) (by omega)
  have hs : shipsN N' = shipsN N := by unfold shipsN; rw [h1 2 (by omega) (by omega)]
  refine ⟨by rw [h1 1 (by omega) (by omega)]; exact a1, by rw [h1 2 (by omega) (by omega)]; exact a2, yrOk_of (by rw [e3]; exact h3) (by omega), yrOk_of (by rw [e3]; exact h3) (by rw [two_mul_I h4]; omega), VT_ag (fun j hj => h1 j (by omega) (by omega)) a5, VT_ag (fun j hj => h1 j (by omega) (by omega)) a6, fun j hj => ?_⟩
  rw [hs, h1 (33 + 5 * j) (by omega) (by omega), h1 (36 + 5 * j) (by omega) (by omega), h1 (37 + 5 * j) (by omega) (by omega), h1 1 (by omega) (by omega)]
  exact a7 j hj
theorem upd_same (N : Row) (k : Nat) : upd N k (N k) = N := by
  funext j
  by_cases e : j = k
  · subst e; rw [upd_s]
  · rw [upd_n _ _ e]
/-- the class: the chart drawn by a setting -/
theorem drwB {c m : xS} (h : Rel c m) {bk : Int32} (hb : 0 ≤ bk.toInt ∧ bk.toInt ≤ 99) : ∃ c1, sX1_draw 1 bk c = some ((), c1) ∧ ChartR c1 (upd (m 1) 4 bk) ∧ EqX LC c c1 ∧ Rel c1 m := by
  obtain ⟨c1, g1, e1, k0, k1, kD⟩ := zX1_draw bk h.B h.V.H
  have u : ∀ j, j ≠ 4 → upd (m 1) 4 bk j = m 1 j := fun j hj => upd_n _ _ hj
  have hcN : cellsN (upd (m 1) 4 bk) = cellsN (m 1) := by unfold cellsN; rw [u 1 (by omega)]
  have hc8 := h.V.H.c8
  have hag : agB (m 1) (upd (m 1) 4 bk) := ⟨fun j a b => u j (by omega), fun j a => u j (by omega)⟩
  refine ⟨c1, g1, ⟨by rw [k0, h.L.2, u 5 (by omega)], by rw [k1, u 1 (by omega)], fun j hj => ?_⟩, e1, h.scrC (e1.mono (by unfold LC LSC; simp))⟩
  rw [hcN] at hj
  obtain ⟨d1, d2, d3⟩ := kD j hj
  rw [u 3 (by omega), upd_s, dep_ag hag (by omega), dep_ag hag (by omega), dep_ag hag (by omega)]
  exact ⟨d1, d2, d3⟩
/-- the class: thought on by a chart -/
theorem thkB {c m : xS} (h : Rel c m) {N' : Row} (hC : ChartR c N') (ha : ∀ j, j ≠ 4 → j ≠ 5 → N' j = m 1 j) (h4 : 0 ≤ (N' 4).toInt ∧ (N' 4).toInt ≤ 99) {n : Nat} (hn : n < 1000) : ∃ c2, sX8_think (nI n) c = some ((), c2) ∧ FleetR c2 33 (hoursR N' n) ∧ EqX LT c c2 ∧ Rel c2 m := by
  have hV := h.V.H.lens ha h4 h.V.2.2.1
  obtain ⟨c2, g1, g2, g3⟩ := zX8_think (N := N') hn (h.F.ag (ha 0 (by omega) (by omega)) (ha 2 (by omega) (by omega)) (fun j a b => ha j (by omega) (by omega))) hC (h.B.ag ⟨fun j a b => ha j (by omega) (by omega), fun j a => ha j (by omega) (by omega)⟩ (ha 1 (by omega) (by omega)) (ha 3 (by omega) (by omega))) hV
  exact ⟨c2, g1, g2, g3, h.scrC (g3.mono (by unfold LT LSC; simp))⟩
theorem bk_ok {c m : xS} (h : Rel c m) : 0 ≤ (m 1 4).toInt ∧ (m 1 4).toInt ≤ 99 := h.V.2.2.2.1
theorem thkC {c m : xS} (h : Rel c m) {n : Nat} (hn : n < 1000) : ∃ c1 c2, sX1_draw 1 (c 1 2) c = some ((), c1) ∧ sX8_think (nI n) c1 = some ((), c2) ∧ FleetR c2 33 (hoursR (m 1) n) ∧ EqX LSC c c2 ∧ Rel c2 m := by
  obtain ⟨c1, g1, g2, g3, g4⟩ := drwB h (bk_ok h)
  rw [upd_same] at g2
  obtain ⟨c2, k1, k2, k3, k4⟩ := thkB g4 g2 (fun _ _ _ => rfl) (bk_ok h) hn
  exact ⟨c1, c2, by rw [h.L.1]; exact g1, k1, k2, (g3.mono (by unfold LC LSC; simp)).tr (k3.mono (by unfold LT LSC; simp)), k4⟩
/-- the reference: all is put back as it was -/
theorem zPB {m1 : xS} {N : Row} (hN : ∀ j, (9 ≤ j ∧ j < 33) ∨ 138 ≤ j → m1 1 j = N j) (h3 : ∀ j, j < 242 → m1 3 j = N j) (hc : cacheOk m1) (v : Int32) : ∃ m', sX9_putBack v m1 = some (v, m') ∧ m' 1 = N ∧ EqX [1] m1 m' ∧ cacheOk m' := by
  obtain ⟨m', g1, g2, g3⟩ := zX9_copy m1 (a := 3) (b := 1) (by decide)
  have e : m' 1 = N := by
    funext j
    rw [g3 j]
    by_cases hj : j < 242
    · rw [if_pos hj, h3 j hj]
    · rw [if_neg hj, hN j (by omega)]
  refine ⟨m', ?_, e, g2, hc.ag (g2 5 (by simp)) ?_⟩
  · unfold sX9_putBack
    rw [g1, xb_s]
  · rw [e]
    exact ⟨fun j a b => (hN j (by omega)).symm, fun j a => (hN j (by omega)).symm⟩
/-- kept aside -/
def asideR (m : xS) : Prop := ∀ j, j < 242 → m 3 j = m 1 j
theorem asd {c m : xS} (h : Rel c m) : ∃ m', (∀ k : Unit → xS → Option (Int32 × xS), xbind (sX9_copy 1 3 m) k = k () m') ∧ m' 1 = m 1 ∧ asideR m' ∧ Rel c m' := by
  obtain ⟨m', g1, g2, g3⟩ := zX9_copy m (a := 1) (b := 3) (by decide)
  have e : m' 1 = m 1 := g2 1 (by simp)
  refine ⟨m', fun k => by rw [g1, xb_s], e, fun j hj => by rw [g3 j, if_pos hj, e], h.scrM (g2.mono (by unfold LSM; simp)) (h.2.1.go e (g2 5 (by simp)))⟩
/-- hours gone by in the reference, over a row that was changed by lens or ships -/
theorem hgo {m : xS} {N' : Row} (hV : VH N') (h1 : m 1 = N') (hc : cacheOk m) {n : Nat} (hn : n < 1000) : ∃ m', (∀ k : Unit → xS → Option (Int32 × xS), xbind (sX9_hoursGo (nI n) m) k = k () m') ∧ m' 1 = hoursR N' n ∧ EqX [1, 5, 8, 9] m m' ∧ cacheOk m' := by
  obtain ⟨m', g1, g2, g3, g4⟩ := zX9_hoursGo (m := m) hn (by rw [h1]; exact hV) hc
  exact ⟨m', fun k => by rw [g1, xb_s], by rw [g2, h1], g3, g4⟩
/-- the way back, with Rel -/
theorem back {c m m1 : xS} (h : Rel c m) (hs : asideR m) (hE : EqX [1, 5, 8, 9] m m1) (hN : ∀ j, (9 ≤ j ∧ j < 33) ∨ 138 ≤ j → m1 1 j = m 1 j) (hc : cacheOk m1) (v : Int32) : ∃ m', sX9_putBack v m1 = some (v, m') ∧ m' 1 = m 1 ∧ asideR m' ∧ Rel c m' := by
  obtain ⟨m', g1, g2, g3, g4⟩ := zPB (N := m 1) hN (fun j hj => by rw [hE 3 (by simp)]; exact hs j hj) hc v
  have hE2 : EqX LSM m m' := by
    intro k hk
    by_cases e : k = 1
    · subst e; exact g2
    · rw [g3 k (by simp; exact e), hE k (by intro q; apply hk; simp at q; unfold LSM; simp; omega)]
  exact ⟨m', g1, g2, fun j hj => by rw [g3 3 (by simp), hE 3 (by simp), g2]; exact hs j hj, h.scrM hE2 g4⟩
theorem agH.B2 {N N' : Row} (h : agH N N') : ∀ j, (9 ≤ j ∧ j < 33) ∨ 138 ≤ j → N' j = N j := fun j hj => h j (by omega) (by omega)
theorem op_then (n p q : Int32) : OpR (sX8_then n p q) (sX9_then n p q) := by
  intro c m h
  unfold sX8_then sX9_then sX8_then_L27 sX9_then_L24
  simp only [zX8_isShip, zX9_isShip, zX9_isBehind, zX8_within, zX9_within, xb_s, bif0, fC1, fM1]
  rw [h.F.1]
  by_cases h1 : 0 ≤ n ∧ n ≤ 60
  · rw [if_pos h1, if_pos h1]
    by_cases h2 : 0 ≤ p ∧ p ≤ m 1 2 - 1
    · rw [if_pos h2, if_pos h2]
      by_cases h3 : 0 ≤ q ∧ q ≤ 1
      · rw [if_pos h3, if_pos h3]
        obtain ⟨L, hL, rfl⟩ := inN (n := 61) h1 (by decide)
        obtain ⟨s, hs, rfl⟩ := inShip h.V.H h2
        obtain ⟨j, hj, rfl⟩ := inN (n := 2) h3 (by decide)
        have hs7 : s < 7 := by have := h.V.H.s7; omega
        have hx : xin (nI s) 7 := xin_n hs7 (by omega)
        obtain ⟨c1, c2, g1, g2, g3, g4, g5⟩ := thkC h (n := L) (by omega)
        obtain ⟨m1, k1, k2, k3, k4⟩ := asd h
        have h' : Rel c2 m1 := k4.scrC g4
        obtain ⟨m2, q1, q2, q3, q4⟩ := hgo (m := m1) h.V.H k2 k4.2.1 (n := L) (by omega)
        obtain ⟨-, -, -, f4, f5⟩ := g3.2.2 s hs7
        rw [g1, xb_s, g2, xb_s, k1, q1]
        simp only [xlet_e, sX9_then_L59, if_pos hx]
        rw [nI_N (by omega), f4, f5]
        have hb : ∀ v, ∃ m', sX9_putBack v m2 = some (v, m') ∧ m' 1 = m1 1 ∧ asideR m' ∧ Rel c2 m' := fun v => back h' k3 q3 (by rw [q2, k2]; exact (hoursR_ag h.V.H L).B2) q4 v
        rcases (show j = 0 ∨ j = 1 by omega) with rfl | rfl
        · rw [if_pos (show nI 0 = 0 from rfl), if_pos (show nI 0 = 0 from rfl)]
          have g : sX9_shipIs (nI s) 3 m2 = some (m2 1 (36 + 5 * s), m2) := by have z := zX9_shipIs (i := s) (f := 3) hs7 (by omega) m2; rw [show 33 + 5 * s + 3 = 36 + 5 * s by omega] at z; exact z
          obtain ⟨m', b1, -, -, b2⟩ := hb (hoursR (m 1) L (36 + 5 * s))
          exact ⟨_, c2, m', rfl, by rw [g, xb_s, q2, b1, xb_s], b2⟩
        · rw [if_neg (show ¬ nI 1 = 0 by decide), if_neg (show ¬ nI 1 = 0 by decide)]
          have g : sX9_shipIs (nI s) 4 m2 = some (m2 1 (37 + 5 * s), m2) := by have z := zX9_shipIs (i := s) (f := 4) hs7 (by omega) m2; rw [show 33 + 5 * s + 4 = 37 + 5 * s by omega] at z; exact z
          obtain ⟨m', b1, -, -, b2⟩ := hb (hoursR (m 1) L (37 + 5 * s))
          exact ⟨_, c2, m', rfl, by rw [g, xb_s, q2, b1, xb_s], b2⟩
      · rw [if_neg h3, if_neg h3]
        exact errR h (by decide) _ rfl rfl
    · rw [if_neg h2, if_neg h2]
      exact errR h (by decide) _ rfl rfl
  · rw [if_neg h1, if_neg h1]
    exact errR h (by decide) _ rfl rfl
theorem op_struck (p : Int32) : OpR (sX8_struck p) (sX9_struck p) := by
  intro c m h
  unfold sX8_struck sX9_struck
  rw [zX8_isCell, zX9_isCell, xb_s, xb_s, h.B.1]
  simp only [bif0, fC1, fM1, xb_s]
  by_cases h1 : 0 ≤ p ∧ p ≤ m 1 1 - 1
  · rw [if_pos h1, if_pos h1]
    obtain ⟨c1, c2, g1, g2, g3, g4, g5⟩ := thkC h (n := 60) (by omega)
    have g2 : sX8_think 60 c1 = some ((), c2) := g2
    obtain ⟨m1, k1, k2, k3, k4⟩ := asd h
    have h' : Rel c2 m1 := k4.scrC g4
    obtain ⟨m2, q1, q2, q3, q4⟩ := hgo (m := m1) h.V.H k2 k4.2.1 (n := 60) (by omega)
    have q1 : ∀ k : Unit → xS → Option (Int32 × xS), xbind (sX9_hoursGo 60 m1) k = k () m2 := q1
    have hVh := VH_hoursR h.V.H 60
    rw [g1, xb_s, g2, xb_s, k1, q1, zX3_setAt g3 hVh, xb_s, zX3_setLost g3 hVh, xb_s, zX9_lostNow (by rw [q2]; exact hVh), xb_s, zX9_shipsAt (by rw [q2]; exact hVh), xb_s, q2, Int32.and_comm]
    obtain ⟨m', b1, -, -, b2⟩ := back h' k3 q3 (by rw [q2, k2]; exact (hoursR_ag h.V.H 60).B2) q4 (nI (lostS (hoursR (m 1) 60)) &&& nI (atS (hoursR (m 1) 60) p))
    exact ⟨_, c2, m', rfl, by rw [b1, xb_s], b2⟩
  · rw [if_neg h1, if_neg h1]
    exact errR h (by decide) _ rfl rfl
