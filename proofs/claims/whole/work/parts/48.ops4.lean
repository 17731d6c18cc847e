/-! ===== HOURS, LOOSE and what is only told ===== -/
theorem VN.hour {N : Row} (h : VN N) : VN (hourR N) := by
  have hH := VH_hourR h.H
  have ha : agH N (hourR N) := hoursR_ag h.H 1
  have hs := ha.ships
  have hV := h
  obtain ⟨a1, a2, a3, a4, a5, a6, a7, a8, a9, a10, a11⟩ := h
  have nN : ∀ j, j ≠ 0 → (j < 33 ∨ 68 ≤ j) → hourR N j = N j := ha
  refine hV.chg (nN _ (by omega) (by omega)) (nN _ (by omega) (by omega)) (by rw [nN _ (by omega) (by omega)]; exact a3) (by rw [nN _ (by omega) (by omega)]; exact a4) (by rw [nN _ (by omega) (by omega)]; exact a5) (by rw [nN _ (by omega) (by omega)]; exact a6) (by rw [nN _ (by omega) (by omega)]; exact a7) (fun i hi => ?_) (fun i hi => by rw [nN _ (by omega) (by omega)]; exact a9 i hi) ⟨VT_ag (fun j hj => nN _ (by omega) (by omega)) a10, VT_ag (fun j hj => nN _ (by omega) (by omega)) a11⟩
  obtain ⟨b1, b2, b3⟩ := hH.2.2.2.2.2.2 i hi
  refine ⟨b1, fun q => ?_, b3⟩
  rw [← nN 1 (by omega) (by omega)]
  exact b2 (by rw [hs]; exact q)
theorem hourR_0 (N : Row) : hourR N 0 = N 0 + 1 := upd_s _ _ _
/-- an hour on both sides -/
theorem hourB {c m : xS} (h : Rel c m) (hC : ChartR c (m 1)) (h0 : (m 1 0).toInt < 9999) : ∃ c' m', sX8_passHour 21 c = some ((), c') ∧ sX9_hour m = some ((), m') ∧ Rel c' m' ∧ ChartR c' (m' 1) ∧ m' 1 = hourR (m 1) := by
  have hV := h.V.H
  obtain ⟨c', g1, g2, g3⟩ := zX8_passHour (Or.inl rfl) h.F hC h.B hV
  obtain ⟨m', k1, k2, k3, k4⟩ := zX9_hour hV h.2.1
  have ha : agH (m 1) (hourR (m 1)) := hoursR_ag hV 1
  have nN : ∀ j, j ≠ 0 → (j < 33 ∨ 68 ≤ j) → hourR (m 1) j = m 1 j := ha
  have e : ∀ k, ¬ k ∈ LF 21 → c' k = c k := g3
  have hh := h.1.2.2.2.2.2
  refine ⟨c', m', g1, k1, h.snap ?_ k4 (g3.mono (by unfold LF LSN; simp)) (k3.mono (by unfold LMN; simp)), ?_, k2⟩
  · rw [k2]
    refine ⟨(h.B.go (fun k a b d f => e k (by unfold LF; simp; omega))).H ha, (h.L.go (e 1 (by unfold LF; simp))).ag (nN _ (by omega) (by omega)) (nN _ (by omega) (by omega)), g2, (h.D.go (fun k a b => e k (by unfold LF; simp; omega))).ag (nN _ (by omega) (by omega)) (nN _ (by omega) (by omega)) (nN _ (by omega) (by omega)) (fun q a b => nN q (by omega) (by omega)), h.V.hour, ?_⟩
    rw [hourR_0, i_add (by show _ ≤ (m 1 0).toInt + 1; omega) (by show (m 1 0).toInt + 1 ≤ _; omega)]
    show 0 ≤ (m 1 0).toInt + 1 ∧ (m 1 0).toInt + 1 ≤ 9999
    omega
  · rw [k2]
    exact (hC.go (fun k a b => e k (by unfold LF; simp; omega))).H hV.c8 ha
theorem room {x : Int32} (hx : 0 ≤ x.toInt ∧ x.toInt ≤ 9999) {L : Nat} (hL : L ≤ 60) : (x ≤ 9999 - nI L ↔ x.toInt + L ≤ 9999) ∧ (x + nI L ≤ 9999 ↔ x.toInt + L ≤ 9999) := by
  have e1 : (9999 - nI L : Int32).toInt = 9999 - (L : Int) := by
    rw [i_sub (by rw [i_nI (by omega)]; show _ ≤ (9999 : Int) - L; omega) (by rw [i_nI (by omega)]; show (9999 : Int) - L ≤ _; omega), i_nI (by omega)]
    rfl
  have e2 : (x + nI L).toInt = x.toInt + L := by
    rw [i_add (by rw [i_nI (by omega)]; omega) (by rw [i_nI (by omega)]; omega), i_nI (by omega)]
  rw [i_le, i_le, e1, e2]
  have e3 : (9999 : Int32).toInt = 9999 := rfl
  rw [e3]
  omega
theorem op_hours (p : Int32) : OpR (sX8_hours p) (sX9_hours p) := by
  intro c m h
  unfold sX8_hours sX9_hours
  simp only [zX8_within, zX9_within, xb_s, bif0, fC1, fM1, fC3, fM3]
  by_cases h1 : 1 ≤ p ∧ p ≤ 60
  · rw [if_pos h1, if_pos h1]
    obtain ⟨L, hL, rfl⟩ := inN (p := p) (q := 60) (n := 61) ⟨Int32.le_trans (by decide) h1.1, h1.2⟩ (by decide)
    have hr := room h.1.2.2.2.2.2 (show L ≤ 60 by omega)
    rw [h.F.2.1]
    by_cases h2 : (m 1 0).toInt + L ≤ 9999
    · rw [if_pos (hr.1.mpr h2), if_pos (hr.2.mpr h2), h.L.1]
      obtain ⟨c1, g1, g2, g3, g4⟩ := drwB h (bk_ok h)
      rw [upd_same] at g2
      rw [g1, xb_s]
      have key : ∀ (r n1 n2 k : Nat) (c m : xS), k + r = L → r < n1 → r < n2 → Rel c m → ChartR c (m 1) → (m 1 0).toInt + r ≤ 9999 → ∃ c' m', xloop (sX8_hours_L57 (nI L)) n1 (nI k) c = some (nI (inC (m' 1)), c') ∧ xloop (sX9_hoursGo_L2 (nI L)) n2 (nI k) m = some ((), m') ∧ Rel c' m' := by
        intro r
        induction r with
        | zero =>
          intro n1 n2 k c m hk hn1 hn2 hR hC h0
          obtain ⟨n1, rfl⟩ : ∃ z, n1 = z + 1 := ⟨n1 - 1, by omega⟩
          obtain ⟨n2, rfl⟩ : ∃ z, n2 = z + 1 := ⟨n2 - 1, by omega⟩
          have hk' : k = L := by omega
          subst hk'
          rw [xloop_s, xloop_s]
          simp only [sX8_hours_L57, sX9_hoursGo_L2]
          rw [if_pos (Int32.le_refl _), if_pos (Int32.le_refl _), zX3_countAt hR.F hR.V.H, xb_s]
          exact ⟨c, m, rfl, rfl, hR⟩
        | succ r ih =>
          intro n1 n2 k c m hk hn1 hn2 hR hC h0
          obtain ⟨n1, rfl⟩ : ∃ z, n1 = z + 1 := ⟨n1 - 1, by omega⟩
          obtain ⟨n2, rfl⟩ : ∃ z, n2 = z + 1 := ⟨n2 - 1, by omega⟩
          obtain ⟨c', m', q1, q2, q3, q4, q5⟩ := hourB hR hC (by omega)
          have hi := ih n1 n2 (k + 1) c' m' (by omega) (by omega) (by omega) q3 q4 (by
            have hh := hR.1.2.2.2.2.2
            rw [q5, hourR_0, i_add (by show _ ≤ (m 1 0).toInt + 1; omega) (by show (m 1 0).toInt + 1 ≤ _; omega)]
            show (m 1 0).toInt + 1 + _ ≤ _; omega)
          rw [xloop_s, xloop_s]
          generalize xloop (sX8_hours_L57 (nI L)) n1 = self1 at hi ⊢
          generalize xloop (sX9_hoursGo_L2 (nI L)) n2 = self2 at hi ⊢
          simp only [sX8_hours_L57, sX9_hoursGo_L2, xlet_e]
          have hlt : ¬ nI L ≤ nI k := nI_ge (by omega) (by omega)
          rw [if_neg hlt, if_neg hlt, q1, q2, xb_s, xb_s, nI_s]
          exact hi
      obtain ⟨c', m', q1, q2, q3⟩ := key L xF xF 0 c1 m (by omega) (by rw [xF_eq]; omega) (by rw [xF_eq]; omega) g4 g2 h2
      refine ⟨_, c', m', q1, ?_, q3⟩
      unfold sX9_hoursGo
      have q2 : xloop (sX9_hoursGo_L2 (nI L)) xF 0 m = some ((), m') := q2
      rw [q2, xb_s, zX9_manyIn q3.V.H, xb_s]
    · rw [if_neg (fun z => h2 (hr.1.mp z)), if_neg (fun z => h2 (hr.2.mp z))]
      exact errR h (by decide) _ rfl rfl
  · rw [if_neg h1, if_neg h1]
    exact errR h (by decide) _ rfl rfl
/-- a draw of the sea -/
def seaN (x : Int32) : Int32 := x * 1103515245 + 12345
def seaV (x : Int32) : Int32 := (x.toUInt32 >>> (Int32.toUInt32 8 &&& Int32.toUInt32 31)).toInt32
theorem seaV_ok (x : Int32) : ∃ k, k < 100 ∧ seaV x - seaV x / 100 * 100 = nI k := by
  have h := pk_ushr x 8 8 (by decide)
  have hx : x.toBitVec.toNat < 2 ^ 32 := x.toBitVec.isLt
  have h2 : seaV x = nI (x.toBitVec.toNat / 2 ^ 8) := by
    apply Int32.toBitVec_inj.mp
    apply BitVec.eq_of_toNat_eq
    rw [pk_tn (by omega)]
    exact h
  refine ⟨(x.toBitVec.toNat / 2 ^ 8) % 100, by omega, ?_⟩
  rw [h2]
  exact pk_rem (a := x.toBitVec.toNat / 2 ^ 8) (d := 100) (by omega) (by decide) (by decide)
theorem zX2_nextDraw (c : xS) : sX2_nextDraw 39 c = some (seaV (seaN (c 39 0)), xup c 39 (upd (c 39) 0 (seaN (c 39 0)))) := by
  unfold sX2_nextDraw
  simp only [xlet_e]
  rw [xup_s, upd_s]
  rfl
theorem zX9_drawn (m : xS) : sX9_drawn m = some (seaV (seaN (m 1 6)), xup m 1 (upd (m 1) 6 (seaN (m 1 6)))) := by
  unfold sX9_drawn
  simp only [xlet_e]
  rw [xup_s, upd_s]
  rfl
theorem VN.z {N : Row} (h : VN N) (x : Int32) : VN (upd N 6 x) := by
  have hV := h
  obtain ⟨a1, a2, a3, a4, a5, a6, a7, a8, a9, a10, a11⟩ := h
  have nN : ∀ j, ¬ j = 6 → upd N 6 x j = N j := fun j hj => upd_n _ _ hj
  refine hV.chg (nN _ (by omega)) (nN _ (by omega)) (by rw [nN _ (by omega)]; exact a3) (by rw [nN _ (by omega)]; exact a4) (by rw [nN _ (by omega)]; exact a5) (by rw [nN _ (by omega)]; exact a6) (by rw [nN _ (by omega)]; exact a7) (fun i hi => ?_) (fun i hi => by rw [nN _ (by omega)]; exact a9 i hi) ⟨VT_ag (fun j hj => nN _ (by omega)) a10, VT_ag (fun j hj => nN _ (by omega)) a11⟩
  rw [nN _ (by omega), nN _ (by omega), nN _ (by omega)]; exact a8 i hi
theorem Rel.z {c m : xS} (h : Rel c m) (x : Int32) : Rel (xup c 39 (upd (c 39) 0 x)) (xup m 1 (upd (m 1) 6 x)) := by
  have nN : ∀ j, ¬ j = 6 → upd (m 1) 6 x j = m 1 j := fun j hj => upd_n _ _ hj
  refine h.snap ?_ ?_ ((EqX.rf _ _).up _ (by unfold LSN; simp)) ((EqX.rf _ _).up _ (by unfold LMN; simp))
  · rw [xup_s]
    refine ⟨(h.B.go (fun q a b _ _ => xup_n _ _ (by omega))).ag ⟨fun q a b => nN q (by omega), fun q a => nN q (by omega)⟩ (nN _ (by omega)) (nN _ (by omega)), (h.L.go (xup_n _ _ (by omega))).ag (nN _ (by omega)) (nN _ (by omega)), (h.F.go (fun q a b => xup_n _ _ (by omega))).ag (nN _ (by omega)) (nN _ (by omega)) (fun q a b => nN q (by omega)), ?_, h.V.z x, by rw [nN _ (by omega)]; exact h.1.2.2.2.2.2⟩
    obtain ⟨d0, d1, d2, d3, d4⟩ := h.D
    refine ⟨by rw [xup_s, upd_s, upd_s], by rw [xup_s, upd_n _ _ (by decide), nN _ (by omega)]; exact d1, by rw [xup_s, upd_n _ _ (by decide), nN _ (by omega)]; exact d2, fun j hj => by rw [xup_n _ _ (by decide), nN _ (by omega)]; exact d3 j hj, fun j hj => by rw [xup_n _ _ (by decide), nN _ (by omega)]; exact d4 j hj⟩
  · exact h.2.1.ag (xup_n _ _ (by decide)) (by rw [xup_s]; exact ⟨fun q a b => nN q (by omega), fun q a => nN q (by omega)⟩)
theorem op_seed (p : Int32) : OpR (sX8_seed p) (sX9_seed p) := by
  intro c m h
  unfold sX8_seed sX9_seed
  simp only [xlet_e]
  have g : sX9_turn 6 p m = some (m 1 6, xup m 1 (upd (m 1) 6 p)) := zX9_turn (k := 6) (by omega) p m
  rw [g, xb_s, h.D.1]
  exact ⟨_, _, _, rfl, rfl, h.z p⟩
theorem Rel.bk {c m : xS} (h : Rel c m) {p : Int32} (hp : 0 ≤ p.toInt ∧ p.toInt ≤ 99) : Rel (xup c 1 (upd (c 1) 2 p)) (xup m 1 (upd (m 1) 4 p)) := by
  refine h.snap ?_ ?_ ((EqX.rf _ _).up _ (by unfold LSN; simp)) ((EqX.rf _ _).up _ (by unfold LMN; simp))
  · rw [xup_s]; exact h.1.lens (j := 2) (by omega) (h.V.lens (by omega) (fun e => absurd e (by omega)) (fun _ => hp) (fun e => absurd e (by omega)))
  · exact h.2.1.ag (xup_n _ _ (by decide)) (by rw [xup_s]; exact ⟨fun q a b => upd_n _ _ (by omega), fun q a => upd_n _ _ (by omega)⟩)
theorem op_loose (p : Int32) : OpR (sX8_loose p) (sX9_loose p) := by
  intro c m h
  unfold sX8_loose sX9_loose
  simp only [zX8_within, zX9_within, xb_s, bif0, fC1, fM1, fC3, fM3]
  by_cases h1 : 1 ≤ p ∧ p ≤ 40
  · rw [if_pos h1, if_pos h1]
    obtain ⟨L, hL, rfl⟩ := inN (p := p) (q := 40) (n := 41) ⟨Int32.le_trans (by decide) h1.1, h1.2⟩ (by decide)
    have hr := room h.1.2.2.2.2.2 (show L ≤ 60 by omega)
    rw [h.F.2.1]
    by_cases h2 : (m 1 0).toInt + L ≤ 9999
    · rw [if_pos (hr.1.mpr h2), if_pos (hr.2.mpr h2)]
      have key : ∀ (r n1 n2 k : Nat) (c m : xS), k + r = L → r < n1 → r < n2 → Rel c m → (m 1 0).toInt + r ≤ 9999 → ∃ w c' m', xloop (sX8_loose_L39 (nI L)) n1 (nI k) c = some (w, c') ∧ xloop (sX9_loose_L40 (nI L)) n2 (nI k) m = some (w, m') ∧ Rel c' m' := by
        intro r
        induction r with
        | zero =>
          intro n1 n2 k c m hk hn1 hn2 hR h0
          obtain ⟨n1, rfl⟩ : ∃ z, n1 = z + 1 := ⟨n1 - 1, by omega⟩
          obtain ⟨n2, rfl⟩ : ∃ z, n2 = z + 1 := ⟨n2 - 1, by omega⟩
          have hk' : k = L := by omega
          subst hk'
          rw [xloop_s, xloop_s]
          generalize xloop (sX8_loose_L39 (nI k)) n1 = self1
          generalize xloop (sX9_loose_L40 (nI k)) n2 = self2
          simp only [sX8_loose_L39, sX9_loose_L40]
          rw [if_pos (Int32.le_refl _), if_pos (Int32.le_refl _), zX3_countAt hR.F hR.V.H, xb_s, zX9_manyIn hR.V.H, xb_s]
          exact ⟨_, c, m, rfl, rfl, hR⟩
        | succ r ih =>
          intro n1 n2 k c m hk hn1 hn2 hR h0
          obtain ⟨n1, rfl⟩ : ∃ z, n1 = z + 1 := ⟨n1 - 1, by omega⟩
          obtain ⟨n2, rfl⟩ : ∃ z, n2 = z + 1 := ⟨n2 - 1, by omega⟩
          have hz : c 39 0 = m 1 6 := hR.D.1
          have r1 := hR.z (seaN (m 1 6))
          obtain ⟨v, hv, ev⟩ := seaV_ok (seaN (m 1 6))
          have r2 := r1.bk (p := nI v) (by rw [i_nI (by omega)]; omega)
          have gD := zX2_nextDraw c
          have gM := zX9_drawn m
          rw [hz] at gD
          have hi := fun c' m' => ih n1 n2 (k + 1) c' m' (by omega) (by omega) (by omega)
          rw [xloop_s, xloop_s]
          generalize xloop (sX8_loose_L39 (nI L)) n1 = self1 at hi ⊢
          generalize xloop (sX9_loose_L40 (nI L)) n2 = self2 at hi ⊢
          simp only [sX8_loose_L39, sX9_loose_L40, xlet_e]
          have hlt : ¬ nI L ≤ nI k := nI_ge (by omega) (by omega)
          rw [if_neg hlt, if_neg hlt, gD, gM, xb_s, xb_s, ev]
          have e0 : xup (xup m 1 (upd (m 1) 6 (seaN (m 1 6)))) 1 (upd (xup m 1 (upd (m 1) 6 (seaN (m 1 6))) 1) 4 (nI v)) 1 0 = m 1 0 := by
            rw [xup_s, upd_n _ _ (by decide), xup_s, upd_n _ _ (by decide)]
          generalize xup (xup c 39 (upd (c 39) 0 (seaN (m 1 6)))) 1 (upd (xup c 39 (upd (c 39) 0 (seaN (m 1 6))) 1) 2 (nI v)) = c2 at r2 ⊢
          generalize xup (xup m 1 (upd (m 1) 6 (seaN (m 1 6)))) 1 (upd (xup m 1 (upd (m 1) 6 (seaN (m 1 6))) 1) 4 (nI v)) = m2 at r2 e0 ⊢
          obtain ⟨c3, g1, g2, g3, g4⟩ := drwB r2 (bk_ok r2)
          rw [upd_same] at g2
          obtain ⟨c', m', q1, q2, q3, q4, q5⟩ := hourB g4 g2 (by rw [e0]; omega)
          rw [r2.L.1, g1, xb_s, q1, q2, xb_s, xb_s, nI_s]
          refine hi c' m' q3 ?_
          have hh := hR.1.2.2.2.2.2
          rw [q5, hourR_0, e0, i_add (by show _ ≤ (m 1 0).toInt + 1; omega) (by show (m 1 0).toInt + 1 ≤ _; omega)]
          show (m 1 0).toInt + 1 + _ ≤ _; omega
      exact key L xF xF 0 c m (by omega) (by rw [xF_eq]; omega) (by rw [xF_eq]; omega) h h2
    · rw [if_neg (fun z => h2 (hr.1.mp z)), if_neg (fun z => h2 (hr.2.mp z))]
      exact errR h (by decide) _ rfl rfl
  · rw [if_neg h1, if_neg h1]
    exact errR h (by decide) _ rfl rfl
theorem op_law (u a b d : Int32) : OpR (sX8_law u a b d) (sX9_law u a b d) := by
  intro c m h
  unfold sX8_law sX9_law
  simp only [zX8_isUse, zX9_within, xb_s, bif0, fC1, fM1]
  by_cases h1 : 0 ≤ u ∧ u ≤ 1
  · rw [if_pos h1, if_pos h1]
    obtain ⟨v, hv, rfl⟩ := inN (n := 2) h1 (by decide)
    have hT : VT (m 1) v := by
      rcases (show v = 0 ∨ v = 1 by omega) with rfl | rfl
      · exact h.V.H.2.2.2.2.1
      · exact h.V.H.2.2.2.2.2.1
    obtain ⟨c', g1, g2⟩ := zX0_give hv a b d h.B.2.2.2.1 h.B.2.2.2.2 hT
    obtain ⟨m', k1, k2⟩ := zX9_given hv a b d hT
    rw [g1, k1, xb_s, xb_s]
    exact ⟨_, c', m', rfl, rfl, (h.scrC (g2.mono (by unfold LSC; simp))).scrM (k2.mono (by unfold LSM; simp)) (h.2.1.go (k2 1 (by simp)) (k2 5 (by simp)))⟩
  · rw [if_neg h1, if_neg h1]
    exact errR h (by decide) _ rfl rfl
theorem op_told (p : Int32) : OpR (sX8_told p) (sX9_told p) := by
  intro c m h
  unfold sX8_told sX9_told
  simp only [zX8_within, zX9_within, xb_s, bif0, fC1, fM1]
  by_cases h1 : 1 ≤ p ∧ p ≤ 5
  · rw [if_pos h1, if_pos h1]
    obtain ⟨e, he, rfl⟩ := inN (p := p) (q := 5) (n := 6) ⟨Int32.le_trans (by decide) h1.1, h1.2⟩ (by decide)
    have hx : xin (nI e) 6 := xin_n he (by omega)
    have h2 := i_le.mp h1.1
    rw [i_nI (by omega)] at h2
    have h2 : (1 : Int) ≤ e := h2
    rw [if_pos hx, if_pos hx, nI_N (by omega), h.2.2.2.2.2.1 e (by omega) (by omega)]
    exact ⟨_, c, m, rfl, rfl, h⟩
  · rw [if_neg h1, if_neg h1]
    exact errR h (by decide) _ rfl rfl
theorem op_trace (p : Int32) : OpR (sX8_trace p) (sX9_trace p) := by
  intro c m h
  obtain ⟨t1, t2, t3⟩ := h.2.2.2.2.2.2
  unfold sX8_trace sX9_trace
  simp only [zX8_within, zX9_within, xb_s, bif0, fC2, fM2]
  rw [t1]
  by_cases h1 : 0 ≤ p ∧ p ≤ m 0 16 - 1
  · rw [if_pos h1, if_pos h1]
    have h2 := h1.2
    rw [i_le, i_sub (by show _ ≤ (m 0 16).toInt - 1; omega) (by show (m 0 16).toInt - 1 ≤ _; omega)] at h2
    have h2 : p.toInt ≤ (m 0 16).toInt - 1 := h2
    obtain ⟨e, he, rfl⟩ := nI_ex (n := 40) (i_le.mp h1.1) (by omega)
    have hx : xin (nI e) 40 := xin_n he (by omega)
    rw [i_nI (by omega)] at h2
    rw [if_pos hx, if_pos hx, nI_N (by omega), t3 e (by rw [i_N]; omega)]
    exact ⟨_, c, m, rfl, rfl, h⟩
  · rw [if_neg h1, if_neg h1]
    exact errR h (by decide) _ rfl rfl
theorem op_count (p : Int32) : OpR (sX8_count p) (sX9_count p) := by
  intro c m h
  have hV := h.V.H
  have nl : sX9_lostNow m = some (nI (lostS (m 1)), m) := zX9_lostNow hV
  unfold sX8_count sX9_count
  rw [zX3_countAt h.F hV, zX3_countLost h.F hV, zX9_manyIn hV, nl]
  simp only [xb_s, fC1, fM1]
  rw [zX9_bits (by have := lostS_lt hV; omega), xb_s, pop_lostS hV, h.B.1, h.B.2.1, h.F.1, h.F.2.1, h.L.1, h.L.2, h.D.1, h.D.2.1, h.D.2.2.1, h.2.2.2.2.2.2.1]
  by_cases q0 : p = 0
  · rw [if_pos q0, if_pos q0]; exact ⟨_, c, m, rfl, rfl, h⟩
  rw [if_neg q0, if_neg q0]
  by_cases q0 : p = 1
  · rw [if_pos q0, if_pos q0]; exact ⟨_, c, m, rfl, rfl, h⟩
  rw [if_neg q0, if_neg q0]
  by_cases q0 : p = 2
  · rw [if_pos q0, if_pos q0]; exact ⟨_, c, m, rfl, rfl, h⟩
  rw [if_neg q0, if_neg q0]
  by_cases q0 : p = 3
  · rw [if_pos q0, if_pos q0]; exact ⟨_, c, m, rfl, rfl, h⟩
  rw [if_neg q0, if_neg q0]
  by_cases q0 : p = 4
  · rw [if_pos q0, if_pos q0]; exact ⟨_, c, m, rfl, rfl, h⟩
  rw [if_neg q0, if_neg q0]
  by_cases q0 : p = 5
  · rw [if_pos q0, if_pos q0]; exact ⟨_, c, m, rfl, rfl, h⟩
  rw [if_neg q0, if_neg q0]
  by_cases q0 : p = 6
  · rw [if_pos q0, if_pos q0]; exact ⟨_, c, m, rfl, rfl, h⟩
  rw [if_neg q0, if_neg q0]
  by_cases q0 : p = 7
  · rw [if_pos q0, if_pos q0]; exact ⟨_, c, m, rfl, rfl, h⟩
  rw [if_neg q0, if_neg q0]
  by_cases q0 : p = 8
  · rw [if_pos q0, if_pos q0]; exact ⟨_, c, m, rfl, rfl, h⟩
  rw [if_neg q0, if_neg q0]
  by_cases q0 : p = 9
  · rw [if_pos q0, if_pos q0]; exact ⟨_, c, m, rfl, rfl, h⟩
  rw [if_neg q0, if_neg q0]
  by_cases q0 : p = 10
  · rw [if_pos q0, if_pos q0]; exact ⟨_, c, m, rfl, rfl, h⟩
  rw [if_neg q0, if_neg q0]
  by_cases q0 : p = 11
  · rw [if_pos q0, if_pos q0]; exact ⟨_, c, m, rfl, rfl, h⟩
  rw [if_neg q0, if_neg q0]
  exact errR h (by decide) _ rfl rfl
