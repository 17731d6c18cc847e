/-! ===== FEED ===== -/
theorem feedB (B : BitVec 64) (n : Nat) (hn : n ≤ 56) : (B >>> n).signExtend 32 &&& BitVec.ofNat 32 (2 ^ 8 - 1) = (B.sshiftRight n &&& BitVec.ofNat 64 (2 ^ 8 - 1)).signExtend 32 := by
  apply BitVec.eq_of_getLsbD_eq
  intro i hi
  rw [BitVec.getLsbD_and, BitVec.getLsbD_signExtend, BitVec.getLsbD_signExtend, BitVec.getLsbD_and, BitVec.getLsbD_ofNat, BitVec.getLsbD_ofNat, Nat.testBit_two_pow_sub_one, BitVec.getLsbD_ushiftRight, BitVec.getLsbD_sshiftRight, if_pos (show i < 64 by omega), if_pos (show i < 64 by omega)]
  by_cases h : i < 8
  · have h64 : i < 64 := by omega
    have h3 : n + i < 64 := by omega
    simp [h, hi, h64, h3]
  · simp [h]
theorem shU (p : Int64) (s : UInt64) (n : Nat) (h : (s.toBitVec % 64).toNat = n) : (((p.toUInt64 >>> s).toInt64).toInt32 &&& 255).toBitVec = (p.toBitVec >>> n).signExtend 32 &&& BitVec.ofNat 32 (2 ^ 8 - 1) := by
  rw [← h]
  rfl
theorem shS (p : Int64) (s : Int64) (n : Nat) (h : (s.toBitVec.smod 64).toNat = n) : ((p >>> s) &&& (255 : Int64)).toInt32.toBitVec = (p.toBitVec.sshiftRight n &&& BitVec.ofNat 64 (2 ^ 8 - 1)).signExtend 32 := by
  rw [← h]
  rfl
theorem feedV (p : Int64) {k : Nat} (hk : k < 8) : (((p.toUInt64 >>> ((8 * nI k).toInt64.toUInt64 &&& Int64.toUInt64 63)).toInt64).toInt32) &&& 255 = ((p >>> ((8 * nI k).toInt64 &&& 63)) &&& (255 : Int64)).toInt32 := by
  apply Int32.toBitVec_inj.mp
  have h1 : ∀ k, k < 8 → (((8 * nI k).toInt64.toUInt64 &&& Int64.toUInt64 63).toBitVec % 64).toNat = 8 * k := by decide +kernel
  have h2 : ∀ k, k < 8 → (((8 * nI k).toInt64 &&& 63).toBitVec.smod 64).toNat = 8 * k := by decide +kernel
  rw [shU p _ (8 * k) (h1 k hk), shS p _ (8 * k) (h2 k hk)]
  exact feedB p.toBitVec (8 * k) (by omega)
theorem VN.tape {N : Row} (h : VN N) {q : Nat} {p : Int32} (hq : q = 7 ∨ (68 ≤ q ∧ q < 118)) (h7 : q = 7 → 0 ≤ p.toInt ∧ p.toInt ≤ 50) (h68 : 68 ≤ q → 0 ≤ p.toInt ∧ p.toInt ≤ 255) : VN (upd N q p) := by
  have hV := h
  obtain ⟨a1, a2, a3, a4, a5, a6, a7, a8, a9, a10, a11⟩ := h
  have nN : ∀ j, ¬ j = q → upd N q p j = N j := fun j hj => upd_n _ _ hj
  refine hV.chg (nN _ (by omega)) (nN _ (by omega)) (by rw [nN _ (by omega)]; exact a3) (by rw [nN _ (by omega)]; exact a4) (by rw [nN _ (by omega)]; exact a5) ?_ (by rw [nN _ (by omega)]; exact a7) (fun i hi => ?_) (fun i hi => ?_) ⟨VT_ag (fun j hj => nN _ (by omega)) a10, VT_ag (fun j hj => nN _ (by omega)) a11⟩
  · by_cases e : q = 7
    · subst e; rw [upd_s]; exact h7 rfl
    · rw [nN _ (by omega)]; exact a6
  · rw [nN _ (by omega), nN _ (by omega), nN _ (by omega)]; exact a8 i hi
  · by_cases e : 68 + i = q
    · subst e; rw [upd_s]; exact h68 (by omega)
    · rw [nN _ e]; exact a9 i hi
theorem Rel.tapeN {c m : xS} (h : Rel c m) {p : Int32} (h7 : 0 ≤ p.toInt ∧ p.toInt ≤ 50) : Rel (xup c 39 (upd (c 39) 1 p)) (xup m 1 (upd (m 1) 7 p)) := by
  have nN : ∀ j, ¬ j = 7 → upd (m 1) 7 p j = m 1 j := fun j hj => upd_n _ _ hj
  refine h.snap ?_ ?_ ((EqX.rf _ _).up _ (by unfold LSN; simp)) ((EqX.rf _ _).up _ (by unfold LMN; simp))
  · rw [xup_s]
    refine ⟨(h.B.go (fun q a b _ _ => xup_n _ _ (by omega))).ag ⟨fun q a b => nN q (by omega), fun q a => nN q (by omega)⟩ (nN _ (by omega)) (nN _ (by omega)), (h.L.go (xup_n _ _ (by omega))).ag (nN _ (by omega)) (nN _ (by omega)), (h.F.go (fun q a b => xup_n _ _ (by omega))).ag (nN _ (by omega)) (nN _ (by omega)) (fun q a b => nN q (by omega)), ?_, h.V.tape (Or.inl rfl) (fun _ => h7) (fun e => absurd e (by omega)), by rw [nN _ (by omega)]; exact h.1.2.2.2.2.2⟩
    obtain ⟨d0, d1, d2, d3, d4⟩ := h.D
    refine ⟨by rw [xup_s, upd_n _ _ (by decide), nN _ (by omega)]; exact d0, by rw [xup_s, upd_s, upd_s], by rw [xup_s, upd_n _ _ (by decide), nN _ (by omega)]; exact d2, fun j hj => by rw [xup_n _ _ (by decide), nN _ (by omega)]; exact d3 j hj, fun j hj => by rw [xup_n _ _ (by decide), nN _ (by omega)]; exact d4 j hj⟩
  · exact h.2.1.ag (xup_n _ _ (by decide)) (by rw [xup_s]; exact ⟨fun q a b => nN q (by omega), fun q a => nN q (by omega)⟩)
theorem Rel.tapeV {c m : xS} (h : Rel c m) {k : Nat} (hk : k < 50) {p : Int32} (hp : 0 ≤ p.toInt ∧ p.toInt ≤ 255) : Rel (xup c 40 (upd (c 40) k p)) (xup m 1 (upd (m 1) (68 + k) p)) := by
  have nN : ∀ j, ¬ j = 68 + k → upd (m 1) (68 + k) p j = m 1 j := fun j hj => upd_n _ _ hj
  refine h.snap ?_ ?_ ((EqX.rf _ _).up _ (by unfold LSN; simp)) ((EqX.rf _ _).up _ (by unfold LMN; simp))
  · rw [xup_s]
    refine ⟨(h.B.go (fun q a b _ _ => xup_n _ _ (by omega))).ag ⟨fun q a b => nN q (by omega), fun q a => nN q (by omega)⟩ (nN _ (by omega)) (nN _ (by omega)), (h.L.go (xup_n _ _ (by omega))).ag (nN _ (by omega)) (nN _ (by omega)), (h.F.go (fun q a b => xup_n _ _ (by omega))).ag (nN _ (by omega)) (nN _ (by omega)) (fun q a b => nN q (by omega)), ?_, h.V.tape (Or.inr (by omega)) (fun e => absurd e (by omega)) (fun _ => hp), by rw [nN _ (by omega)]; exact h.1.2.2.2.2.2⟩
    obtain ⟨d0, d1, d2, d3, d4⟩ := h.D
    refine ⟨by rw [xup_n _ _ (by decide), nN _ (by omega)]; exact d0, by rw [xup_n _ _ (by decide), nN _ (by omega)]; exact d1, by rw [xup_n _ _ (by decide), nN _ (by omega)]; exact d2, fun j hj => ?_, fun j hj => by rw [xup_n _ _ (by decide), nN _ (by omega)]; exact d4 j hj⟩
    rw [xup_s]
    by_cases e : j = k
    · subst e; rw [upd_s, upd_s]
    · rw [upd_n _ _ e, nN _ (by omega)]; exact d3 j hj
  · exact h.2.1.ag (xup_n _ _ (by decide)) (by rw [xup_s]; exact ⟨fun q a b => nN q (by omega), fun q a => nN q (by omega)⟩)
theorem op_feed (b : Int64) (p : Int32) : OpR (sX8_feed b p) (sX9_feed b p) := by
  intro c m h
  unfold sX8_feed sX9_feed
  simp only [zX8_within, zX9_within, xb_s, bif0, fC1, fM1, fC4, fM4]
  by_cases h1 : 1 ≤ p ∧ p ≤ 8
  · rw [if_pos h1, if_pos h1]
    obtain ⟨L, hL, rfl⟩ := inN (p := p) (q := 8) (n := 9) ⟨Int32.le_trans (by decide) h1.1, h1.2⟩ (by decide)
    have h7 := h.V.2.2.2.2.2.1
    obtain ⟨T, hT, eT⟩ := nI_ex (n := 51) h7.1 (by omega)
    rw [h.D.2.1, eT]
    have r1 : (nI T ≤ 50 - nI L) ↔ T + L ≤ 50 := by
      rw [i_le, i_sub (by rw [i_nI (by omega)]; show _ ≤ (50 : Int) - L; omega) (by rw [i_nI (by omega)]; show (50 : Int) - L ≤ _; omega), i_nI (by omega), i_nI (by omega)]
      show (T : Int) ≤ 50 - L ↔ _
      omega
    have r2 : (nI T + nI L ≤ 50) ↔ T + L ≤ 50 := by
      rw [nI_add]
      exact ⟨fun z => by rw [i_le, i_nI (by omega)] at z; have z : ((T + L : Nat) : Int) ≤ 50 := z; omega, fun z => nI_le (a := T + L) (b := 50) z (by omega)⟩
    by_cases h2 : T + L ≤ 50
    · rw [if_pos (r1.mpr h2), if_pos (r2.mpr h2)]
      have key : ∀ (r n1 n2 k : Nat) (c m : xS), k + r = L → r < n1 → r < n2 → Rel c m → m 1 7 = nI (T + k) → ∃ w c' m', xloop (sX8_feed_L39 b (nI L)) n1 (nI k) c = some (w, c') ∧ xloop (sX9_feed_L41 b (nI L)) n2 (nI k) m = some (w, m') ∧ Rel c' m' := by
        intro r
        induction r with
        | zero =>
          intro n1 n2 k c m hk hn1 hn2 hR h0
          obtain ⟨n1, rfl⟩ : ∃ z, n1 = z + 1 := ⟨n1 - 1, by omega⟩
          obtain ⟨n2, rfl⟩ : ∃ z, n2 = z + 1 := ⟨n2 - 1, by omega⟩
          have hk' : k = L := by omega
          subst hk'
          rw [xloop_s, xloop_s]
          generalize xloop (sX8_feed_L39 b (nI k)) n1 = self1
          generalize xloop (sX9_feed_L41 b (nI k)) n2 = self2
          simp only [sX8_feed_L39, sX9_feed_L41]
          rw [if_pos (Int32.le_refl _), if_pos (Int32.le_refl _), hR.D.2.1]
          exact ⟨_, c, m, rfl, rfl, hR⟩
        | succ r ih =>
          intro n1 n2 k c m hk hn1 hn2 hR h0
          obtain ⟨n1, rfl⟩ : ∃ z, n1 = z + 1 := ⟨n1 - 1, by omega⟩
          obtain ⟨n2, rfl⟩ : ∃ z, n2 = z + 1 := ⟨n2 - 1, by omega⟩
          have hx : xin (nI (T + k)) 50 := xin_n (by omega) (by omega)
          have e68 : (68 : Int32) + nI (T + k) = nI (68 + (T + k)) := by rw [show (68 : Int32) = nI 68 from rfl, nI_add]
          have hx2 : xin (nI (68 + (T + k))) 242 := xin_n (by omega) (by omega)
          have hi := fun c m => ih n1 n2 (k + 1) c m (by omega) (by omega) (by omega)
          have hlt : ¬ nI L ≤ nI k := nI_ge (by omega) (by omega)
          have fv := feedV b (k := k) (by omega)
          rw [xloop_s, xloop_s]
          generalize xloop (sX8_feed_L39 b (nI L)) n1 = self1 at hi ⊢
          generalize xloop (sX9_feed_L41 b (nI L)) n2 = self2 at hi ⊢
          simp only [sX8_feed_L39, sX9_feed_L41, xlet_e]
          rw [if_neg hlt, if_neg hlt, hR.D.2.1, h0, if_pos hx, e68, if_pos hx2, nI_N (by omega), nI_N (by omega), ← fv, nI_s]
          have hb := pk_and ((((b.toUInt64 >>> ((8 * nI k).toInt64.toUInt64 &&& Int64.toUInt64 63)).toInt64).toInt32)) (m := 255) 8 (by decide)
          rw [hb]
          generalize hv : ((((b.toUInt64 >>> ((8 * nI k).toInt64.toUInt64 &&& Int64.toUInt64 63)).toInt64).toInt32)).toBitVec.toNat % 2 ^ 8 = v
          have hv2 : v < 256 := by rw [← hv]; exact Nat.mod_lt _ (by decide)
          have q1 := hR.tapeV (k := T + k) (by omega) (p := nI v) (by rw [i_nI (by omega)]; omega)
          have e1 : xup m 1 (upd (m 1) (68 + (T + k)) (nI v)) 1 7 = nI (T + k) := by rw [xup_s, upd_n _ _ (by omega), h0]
          have e2 : xup c 40 (upd (c 40) (T + k) (nI v)) 39 1 = nI (T + k) := by rw [xup_n _ _ (by decide), hR.D.2.1, h0]
          generalize xup m 1 (upd (m 1) (68 + (T + k)) (nI v)) = m1 at q1 e1 ⊢
          generalize xup c 40 (upd (c 40) (T + k) (nI v)) = c1 at q1 e2 ⊢
          rw [e1, e2, nI_s]
          exact hi _ _ (q1.tapeN (p := nI (T + k + 1)) (by rw [i_nI (by omega)]; omega)) (by rw [xup_s, upd_s]; rfl)
      exact key L xF xF 0 c m (by omega) (by rw [xF_eq]; omega) (by rw [xF_eq]; omega) h (by rw [eT]; rfl)
    · rw [if_neg (fun z => h2 (r1.mp z)), if_neg (fun z => h2 (r2.mp z))]
      exact errR h (by decide) _ rfl rfl
  · rw [if_neg h1, if_neg h1]
    exact errR h (by decide) _ rfl rfl
