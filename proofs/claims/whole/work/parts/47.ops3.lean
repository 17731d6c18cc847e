/-! ===== LAY, SHIP, CHANGE, BECOME ===== -/
theorem zX9_forget (m : xS) : ∃ m', sX9_forgetDepths m = some ((), m') ∧ EqX [5] m m' ∧ ∀ j, j < 8000 → m' 5 j = 0 := by
  have key : ∀ (r n k : Nat) (m' : xS), k + r = 8000 → r < n → EqX [5] m m' → (∀ j, j < k → m' 5 j = 0) → ∃ m'', xloop sX9_forgetDepths_L2 n (nI k) m' = some ((), m'') ∧ EqX [5] m m'' ∧ ∀ j, j < 8000 → m'' 5 j = 0 := by
    intro r
    induction r with
    | zero =>
      intro n k m' hk hn hE hz
      obtain ⟨n, rfl⟩ : ∃ z, n = z + 1 := ⟨n - 1, by omega⟩
      have hk' : k = 8000 := by omega
      subst hk'
      rw [xloop_s]
      generalize xloop sX9_forgetDepths_L2 n = self
      simp only [sX9_forgetDepths_L2]
      rw [if_pos (by decide)]
      exact ⟨m', rfl, hE, hz⟩
    | succ r ih =>
      intro n k m' hk hn hE hz
      obtain ⟨n, rfl⟩ : ∃ z, n = z + 1 := ⟨n - 1, by omega⟩
      have hx : xin (nI k) 8000 := xin_n (by omega) (by omega)
      have hi := fun m'' => ih n (k + 1) m'' (by omega) (by omega)
      rw [xloop_s]
      generalize xloop sX9_forgetDepths_L2 n = self at hi ⊢
      simp only [sX9_forgetDepths_L2, xlet_e, if_pos hx]
      rw [if_neg (show ¬ (8000 : Int32) ≤ nI k from nI_ge (a := k) (b := 8000) (by omega) (by decide)), nI_s, nI_N (by omega)]
      refine hi _ (hE.up _ (by simp)) (fun j hj => ?_)
      rw [xup_s]
      by_cases e : j = k
      · subst e; rw [upd_s]
      · rw [upd_n _ _ e]; exact hz j (by omega)
  exact key 8000 xF 0 m rfl (by rw [xF_eq]; omega) (EqX.rf _ _) (fun j hj => absurd hj (Nat.not_lt_zero j))
theorem cache0 {m : xS} (h : ∀ j, j < 8000 → m 5 j = 0) : cacheOk m := fun i t hi ht => Or.inl (h _ (by omega))
theorem VN.cell {N : Row} (h : VN N) {q : Nat} (hq : 9 ≤ q ∧ q < 33) (p : Int32) : VN (upd N q p) := by
  have hV := h
  obtain ⟨a1, a2, a3, a4, a5, a6, a7, a8, a9, a10, a11⟩ := h
  have nN : ∀ j, ¬ j = q → upd N q p j = N j := fun j hj => upd_n _ _ hj
  refine hV.chg (nN _ (by omega)) (nN _ (by omega)) (by rw [nN _ (by omega)]; exact a3) (by rw [nN _ (by omega)]; exact a4) (by rw [nN _ (by omega)]; exact a5) (by rw [nN _ (by omega)]; exact a6) (by rw [nN _ (by omega)]; exact a7) (fun i hi => ?_) (fun i hi => by rw [nN _ (by omega)]; exact a9 i hi) ?_
  · rw [nN _ (by omega), nN _ (by omega), nN _ (by omega)]; exact a8 i hi
  · exact ⟨VT_ag (fun j hj => nN _ (by omega)) a10, VT_ag (fun j hj => nN _ (by omega)) a11⟩
theorem VN.ship {N : Row} (h : VN N) {s k : Nat} (hs : s < 7) (hk : k < 5) {p : Int32} (h0 : k = 0 → 0 ≤ p.toInt ∧ p.toInt ≤ 6) (h3 : k = 3 → 0 ≤ p.toInt ∧ p.toInt < (N 1).toInt) (h4 : k = 4 → p = 0 ∨ p = 1) : VN (upd N (33 + 5 * s + k) p) := by
  have hV := h
  obtain ⟨a1, a2, a3, a4, a5, a6, a7, a8, a9, a10, a11⟩ := h
  have nN : ∀ j, ¬ j = 33 + 5 * s + k → upd N (33 + 5 * s + k) p j = N j := fun j hj => upd_n _ _ hj
  refine hV.chg (nN _ (by omega)) (nN _ (by omega)) (by rw [nN _ (by omega)]; exact a3) (by rw [nN _ (by omega)]; exact a4) (by rw [nN _ (by omega)]; exact a5) (by rw [nN _ (by omega)]; exact a6) (by rw [nN _ (by omega)]; exact a7) (fun i hi => ⟨?_, ?_, ?_⟩) (fun i hi => by rw [nN _ (by omega)]; exact a9 i hi) ?_
  · by_cases e : 33 + 5 * i = 33 + 5 * s + k
    · rw [e, upd_s]; exact h0 (by omega)
    · rw [nN _ e]; exact (a8 i hi).1
  · intro hi2
    by_cases e : 36 + 5 * i = 33 + 5 * s + k
    · rw [e, upd_s]; exact h3 (by omega)
    · rw [nN _ e]; exact (a8 i hi).2.1 hi2
  · by_cases e : 37 + 5 * i = 33 + 5 * s + k
    · rw [e, upd_s]; exact h4 (by omega)
    · rw [nN _ e]; exact (a8 i hi).2.2
  · exact ⟨VT_ag (fun j hj => nN _ (by omega)) a10, VT_ag (fun j hj => nN _ (by omega)) a11⟩
theorem SnapR.cell {c : xS} {N : Row} (h : SnapR c 1 21 39 N) {i t : Nat} (hi : i < 8) (ht : t < 3) (p : Int32) : SnapR (xup c (2 + t) (upd (c (2 + t)) i p)) 1 21 39 (upd N (9 + 3 * i + t) p) := by
  obtain ⟨⟨b0, b1, b2, b3, b4⟩, hL, hF, hD, hV, hH⟩ := h
  have nN : ∀ q, ¬ q = 9 + 3 * i + t → upd N (9 + 3 * i + t) p q = N q := fun q hq => upd_n _ _ hq
  refine ⟨⟨?_, ?_, cellsR_i.mpr ?_, b3.gg (xup_n _ _ (by omega)) (xup_n _ _ (by omega)) (fun q hq => nN q (by omega)), b4.gg (xup_n _ _ (by omega)) (xup_n _ _ (by omega)) (fun q hq => nN q (by omega))⟩, ?_, ?_, ?_, hV.cell (by omega) p, ?_⟩
  · rw [xup_n _ _ (by omega), nN _ (by omega)]; exact b0
  · rw [xup_n _ _ (by omega), nN _ (by omega)]; exact b1
  · have b := cellsR_i.mp b2
    intro j hj q hq
    by_cases e : q = t
    · subst e
      rw [show 1 + 1 + q = 2 + q by omega, xup_s]
      by_cases e2 : j = i
      · subst e2; rw [upd_s, upd_s]
      · rw [upd_n _ _ e2, nN _ (by omega)]; exact b j hj q hq
    · rw [xup_n _ _ (by omega), nN _ (by omega)]; exact b j hj q hq
  · exact (hL.go (xup_n _ _ (by omega))).ag (nN _ (by omega)) (nN _ (by omega))
  · exact (hF.go (fun k a b => xup_n _ _ (by omega))).ag (nN _ (by omega)) (nN _ (by omega)) (fun q a b => nN q (by omega))
  · exact (hD.go (fun k a b => xup_n _ _ (by omega))).ag (nN _ (by omega)) (nN _ (by omega)) (nN _ (by omega)) (fun q a b => nN q (by omega))
  · rw [nN _ (by omega)]; exact hH
theorem SnapR.ship {c : xS} {N : Row} (h : SnapR c 1 21 39 N) {s k : Nat} (hs : s < 7) (hk : k < 5) {p : Int32} (hv : VN (upd N (33 + 5 * s + k) p)) : SnapR (xup c (22 + k) (upd (c (22 + k)) s p)) 1 21 39 (upd N (33 + 5 * s + k) p) := by
  obtain ⟨hB, hL, hF, hD, hV, hH⟩ := h
  have nN : ∀ q, ¬ q = 33 + 5 * s + k → upd N (33 + 5 * s + k) p q = N q := fun q hq => upd_n _ _ hq
  refine ⟨(hB.go (fun q a b _ _ => xup_n _ _ (by omega))).ag ⟨fun q a b => nN q (by omega), fun q a => nN q (by omega)⟩ (nN _ (by omega)) (nN _ (by omega)), (hL.go (xup_n _ _ (by omega))).ag (nN _ (by omega)) (nN _ (by omega)), ?_, (hD.go (fun q a b => xup_n _ _ (by omega))).ag (nN _ (by omega)) (nN _ (by omega)) (nN _ (by omega)) (fun q a b => nN q (by omega)), hv, by rw [nN _ (by omega)]; exact hH⟩
  exact hF.set hs hk p
theorem cellAt3 (i f : Nat) (m : xS) : sX9_cellAt (nI i) (nI f) m = some (nI (9 + 3 * i + f), m) := by
  unfold sX9_cellAt
  rw [ix3]
theorem layOp {c m : xS} (h : Rel c m) {i t : Nat} (hi : i < 8) (ht : t < 3) (p : Int32) : ∃ r c' m', (some (c (2 + t) i, xup c (2 + t) (upd (c (2 + t)) i p)) : Option (Int32 × xS)) = some (r, c') ∧ xbind (sX9_forgetDepths m) (fun _ s45 => xbind (sX9_cellAt (nI i) (nI t) s45) (fun r51 s51 => xbind (sX9_turn r51 p s51) (fun r55 s55 => some (r55, s55)))) = some (r, m') ∧ Rel c' m' := by
  obtain ⟨m1, g1, e1, z1⟩ := zX9_forget m
  have e11 : m1 1 = m 1 := e1 1 (by simp)
  have e0 : c (2 + t) i = m 1 (9 + 3 * i + t) := by
    have := cellsR_i.mp h.B.2.2.1 i hi t ht
    rw [show 1 + 1 + t = 2 + t by omega] at this; exact this
  refine ⟨c (2 + t) i, _, _, rfl, by rw [g1, xb_s, cellAt3, xb_s, zX9_turn (by omega), xb_s, e11, e0], h.snap ?_ ?_ ((EqX.rf _ _).up _ (by unfold LSN; simp; omega)) ((e1.mono (by unfold LMN; simp)).up _ (by unfold LMN; simp))⟩
  · rw [xup_s]; exact h.1.cell hi ht p
  · exact cache0 (fun j hj => by rw [xup_n _ _ (by decide)]; exact z1 j hj)
theorem op_lay (p q v : Int32) : OpR (sX8_lay p q v) (sX9_lay p q v) := by
  intro c m h
  have hV := h.V
  unfold sX8_lay sX9_lay sX8_lay_L31 sX9_lay_L31 sX8_lay_L37 sX9_lay_L37 sX8_lay_L79
  rw [zX8_isCell, zX9_isCell, xb_s, xb_s, h.B.1]
  simp only [zX8_within, zX9_within, xb_s, bif0, fC1, fM1, xlet_e]
  by_cases h1 : 0 ≤ p ∧ p ≤ m 1 1 - 1
  · rw [if_pos h1, if_pos h1]
    obtain ⟨i, hi, rfl⟩ := inCell h.V.H h1
    have hi8 : i < 8 := by have := h.V.H.c8; omega
    have hx : xin (nI i) 8 := xin_n hi8 (by omega)
    by_cases h2 : 0 ≤ q ∧ q ≤ 2
    · rw [if_pos h2, if_pos h2]
      by_cases h3 : 0 ≤ v ∧ v ≤ (if q = 0 then 9 else 999)
      · rw [if_pos h3, if_pos h3]
        simp only [if_pos hx]
        rw [nI_N (by omega)]
        obtain ⟨j, hj, rfl⟩ := inN (n := 3) h2 (by decide)
        rcases (show j = 0 ∨ j = 1 ∨ j = 2 by omega) with rfl | rfl | rfl
        · simp only [if_pos (show nI 0 = 0 from rfl)]
          exact layOp h hi8 (t := 0) (by omega) v
        · simp only [if_neg (show ¬ nI 1 = 0 by decide), if_pos (show nI 1 = 1 from rfl)]
          exact layOp h hi8 (t := 1) (by omega) v
        · simp only [if_neg (show ¬ nI 2 = 0 by decide), if_neg (show ¬ nI 2 = 1 by decide)]
          exact layOp h hi8 (t := 2) (by omega) v
      · rw [if_neg h3, if_neg h3]
        exact errR h (by decide) _ rfl rfl
    · rw [if_neg h2, if_neg h2]
      exact errR h (by decide) _ rfl rfl
  · rw [if_neg h1, if_neg h1]
    exact errR h (by decide) _ rfl rfl
/-- one field of a SHIP set on both sides -/
theorem Rel.ship {c m : xS} (h : Rel c m) {s k : Nat} (hs : s < 7) (hk : k < 5) {p : Int32} (hv : VN (upd (m 1) (33 + 5 * s + k) p)) : Rel (xup c (22 + k) (upd (c (22 + k)) s p)) (xup m 1 (upd (m 1) (33 + 5 * s + k) p)) := by
  refine h.snap ?_ ?_ ((EqX.rf _ _).up _ (by unfold LSN; simp; omega)) ((EqX.rf _ _).up _ (by unfold LMN; simp))
  · rw [xup_s]; exact h.1.ship hs hk hv
  · exact h.2.1.ag (xup_n _ _ (by decide)) (by rw [xup_s]; exact ⟨fun q a b => upd_n _ _ (by omega), fun q a => upd_n _ _ (by omega)⟩)
theorem shipIs5 {c m : xS} (h : Rel c m) {s k : Nat} (hs : s < 7) (hk : k < 5) : c (22 + k) s = m 1 (33 + 5 * s + k) := by
  have := (FleetR.t.mp h.F).2.2 s hs k hk
  rw [show 21 + 1 + k = 22 + k by omega] at this; exact this
theorem chOp {c m : xS} (h : Rel c m) {s k : Nat} (hs : s < 7) (hk : k < 5) {p : Int32} (hv : VN (upd (m 1) (33 + 5 * s + k) p)) : ∃ r c' m', (some (c (22 + k) s, xup c (22 + k) (upd (c (22 + k)) s p)) : Option (Int32 × xS)) = some (r, c') ∧ xbind (sX9_shipAt (nI s) (nI k) m) (fun r63 s63 => xbind (sX9_turn r63 p s63) (fun r67 s67 => some (r67, s67))) = some (r, m') ∧ Rel c' m' :=
  ⟨c (22 + k) s, _, _, rfl, by rw [zX9_shipAt, xb_s, zX9_turn (by omega), xb_s, shipIs5 h hs hk], h.ship hs hk hv⟩
theorem op_change (p q v : Int32) : OpR (sX8_change p q v) (sX9_change p q v) := by
  intro c m h
  have hV := h.V
  unfold sX8_change sX9_change sX8_change_L72 sX8_change_L30 sX9_change_L43 sX9_change_L73
  rw [zX8_isShip, xb_s, h.F.1]
  simp only [zX8_within, zX9_within, zX9_isShip, zX9_isCell, zX9_isDigit, xb_s, bif0, fC1, fM1, xlet_e]
  by_cases h1 : 0 ≤ p ∧ p ≤ m 1 2 - 1
  · simp only [if_pos h1]
    obtain ⟨s, hs, rfl⟩ := inShip h.V.H h1
    have hs7 : s < 7 := by have := h.V.H.s7; omega
    have hx : xin (nI s) 7 := xin_n hs7 (by omega)
    by_cases h2 : 0 ≤ q ∧ q ≤ 2
    · rw [if_pos h2]
      obtain ⟨j, hj, rfl⟩ := inN (n := 3) h2 (by decide)
      rcases (show j = 0 ∨ j = 1 ∨ j = 2 by omega) with rfl | rfl | rfl
      · simp only [sX8_greatestChange, if_pos (show nI 0 = 0 from rfl), xb_s, if_pos hx]
        by_cases h3 : 0 ≤ v ∧ v ≤ 9
        · rw [if_pos h3, if_pos h3, nI_N (by omega)]
          exact chOp h hs7 (k := 2) (by omega) (hV.ship hs7 (by omega) (fun e => absurd e (by omega)) (fun e => absurd e (by omega)) (fun e => absurd e (by omega)))
        · rw [if_neg h3, if_neg h3]
          exact errR h (by decide) _ rfl rfl
      · simp only [sX8_greatestChange, if_neg (show ¬ nI 1 = 0 by decide), if_pos (show nI 1 = 1 from rfl), xb_s, if_pos hx, xlet_e]
        rw [h.B.1]
        by_cases h3 : 0 ≤ v ∧ v ≤ m 1 1 - 1
        · rw [if_pos h3, if_pos h3, nI_N (by omega)]
          obtain ⟨i, hi, rfl⟩ := inCell h.V.H h3
          refine chOp h hs7 (k := 3) (by omega) (hV.ship hs7 (by omega) (fun e => absurd e (by omega)) (fun _ => ?_) (fun e => absurd e (by omega)))
          have h8 := hV.H.c8
          have hc : (cellsN (m 1) : Int) = (m 1 1).toInt := by have := hV.1; unfold cellsN; rw [i_N]; omega
          rw [i_nI (by omega)]; omega
        · rw [if_neg h3, if_neg h3]
          exact errR h (by decide) _ rfl rfl
      · simp only [sX8_greatestChange, if_neg (show ¬ nI 2 = 0 by decide), if_neg (show ¬ nI 2 = 1 by decide), if_pos (show nI 2 = 2 from rfl), xb_s, if_pos hx, xlet_e, if_true, if_neg (show ¬ (1 : Int32) = 0 by decide)]
        by_cases h3 : 0 ≤ v ∧ v ≤ 1
        · rw [if_pos h3, if_pos h3, nI_N (by omega)]
          refine chOp h hs7 (k := 4) (by omega) (hV.ship hs7 (by omega) (fun e => absurd e (by omega)) (fun e => absurd e (by omega)) (fun _ => ?_))
          obtain ⟨b, hb', rfl⟩ := inN (n := 2) h3 (by decide)
          rcases (show b = 0 ∨ b = 1 by omega) with rfl | rfl
          · exact Or.inl rfl
          · exact Or.inr rfl
        · rw [if_neg h3, if_neg h3]
          exact errR h (by decide) _ rfl rfl
    · have n0 : ¬ q = 0 := fun e => h2 (by subst e; decide)
      have n1 : ¬ q = 1 := fun e => h2 (by subst e; decide)
      have n2 : ¬ q = 2 := fun e => h2 (by subst e; decide)
      simp only [if_neg h2, if_neg n0, if_neg n1, if_neg n2, if_true]
      exact errR h (by decide) _ rfl rfl
  · simp only [if_neg h1]
    have e : ∀ (P Q R : Prop) [Decidable P] [Decidable Q] [Decidable R] (x : Option (Int32 × xS)), (if P then x else if Q then x else if R then (if 0 ≤ v ∧ v ≤ 1 then x else x) else x) = x := by
      intro P Q R _ _ _ x
      split
      · rfl
      · split
        · rfl
        · split
          · split <;> rfl
          · rfl
    rw [e]
    exact errR h (by decide) _ rfl rfl
/-- KIND and M out of one number -/
theorem kindM {p : Int32} (h : 0 ≤ p ∧ p ≤ 69) : 0 ≤ (p / 10).toInt ∧ (p / 10).toInt ≤ 6 := by
  obtain ⟨j, hj, rfl⟩ := inN (n := 70) h (by decide)
  have e : ∀ j, j < 70 → 0 ≤ (nI j / 10).toInt ∧ (nI j / 10).toInt ≤ 6 := by decide +kernel
  exact e j hj
theorem op_become (p q : Int32) : OpR (sX8_become p q) (sX9_become p q) := by
  intro c m h
  have hV := h.V
  unfold sX8_become sX9_become sX8_become_L15 sX9_become_L15
  rw [zX8_isShip, zX9_isShip, xb_s, xb_s, h.F.1, zX8_isKindAndM, zX9_isKindM, xb_s, xb_s]
  simp only [bif0, fC1, fM1, xlet_e]
  by_cases h1 : 0 ≤ p ∧ p ≤ m 1 2 - 1
  · rw [if_pos h1, if_pos h1]
    obtain ⟨s, hs, rfl⟩ := inShip h.V.H h1
    have hs7 : s < 7 := by have := h.V.H.s7; omega
    have hx : xin (nI s) 7 := xin_n hs7 (by omega)
    by_cases h2 : 0 ≤ q ∧ q ≤ 69
    · have hy : xin (nI (33 + 5 * s + 1)) 242 := xin_n (by omega) (by omega)
      have w1 := zX9_shipAt s 1 m
      rw [if_pos h2, if_pos h2]
      have g : sX9_shipAt (nI s) 1 m = some (nI (33 + 5 * s + 1), m) := w1
      rw [g]
      simp only [if_pos hx, xb_s, if_pos hy]
      rw [nI_N (by omega), nI_N (by omega)]
      have g2 : ∀ z, sX9_shipAt (nI s) 0 z = some (nI (33 + 5 * s + 0), z) := fun z => zX9_shipAt s 0 z
      rw [g2, xb_s, zX9_turn (by omega), xb_s]
      have v1 : VN (upd (m 1) (33 + 5 * s + 0) (q / 10)) := hV.ship hs7 (by omega) (fun _ => kindM h2) (fun e => absurd e (by omega)) (fun e => absurd e (by omega))
      have r1 := h.ship hs7 (k := 0) (by omega) v1
      have v2 : VN (upd ((xup m 1 (upd (m 1) (33 + 5 * s + 0) (q / 10))) 1) (33 + 5 * s + 1) (q - q / 10 * 10)) := by
        rw [xup_s]
        exact v1.ship hs7 (by omega) (fun e => absurd e (by omega)) (fun e => absurd e (by omega)) (fun e => absurd e (by omega))
      have r2 := r1.ship hs7 (k := 1) (by omega) v2
      refine ⟨c 22 s, _, _, rfl, ?_, r2⟩
      have e0 : c 22 s = m 1 (33 + 5 * s + 0) := shipIs5 h hs7 (k := 0) (by omega)
      rw [xup_s, upd_n _ _ (by omega), e0]
      congr 2
      funext k
      by_cases ek : k = 1
      · subst ek
        rw [xup_s, xup_s, xup_s]
        funext j
        unfold upd
        by_cases ej : j = 33 + 5 * s + 0
        · subst ej; rw [if_pos rfl, if_neg (by omega), if_pos rfl]
        · by_cases ej2 : j = 33 + 5 * s + 1
          · subst ej2; rw [if_neg (by omega), if_pos rfl, if_pos rfl]
          · rw [if_neg ej, if_neg ej2, if_neg ej2, if_neg ej]
      · rw [xup_n _ _ ek, xup_n _ _ ek, xup_n _ _ ek, xup_n _ _ ek]
    · rw [if_neg h2, if_neg h2]
      exact errR h (by decide) _ rfl rfl
  · rw [if_neg h1, if_neg h1]
    exact errR h (by decide) _ rfl rfl
