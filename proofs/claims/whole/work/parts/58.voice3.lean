/-! the reference's voices -/
theorem und1 : ∀ K, K < 7 → (undL 1 7 K = true ↔ K = 1 ∨ K = 4) := by decide +kernel
theorem und2 : ∀ K, K < 7 → (undL 2 7 K = true ↔ K = 2 ∨ K = 5) := by decide +kernel
theorem und3 : ∀ K, K < 7 → (undL 3 7 K = true ↔ K = 3 ∨ K = 6) := by decide +kernel
section
variable {K : Nat} {n w : Int32}
theorem TrM.u1 {m : xS} (h : TrM K n w m) (hK : K < 7) : sX9_isUnder (m 0 17) 1 m = some (bI (K = 1 ∨ K = 4), m) := by
  have q := zX9_isUnder (a := K) (P := 1) hK (by omega) m
  rw [h.1, bI_c (und1 K hK).symm]
  exact q
theorem TrM.u2 {m : xS} (h : TrM K n w m) (hK : K < 7) : sX9_isUnder (m 0 17) 2 m = some (bI (K = 2 ∨ K = 5), m) := by
  have q := zX9_isUnder (a := K) (P := 2) hK (by omega) m
  rw [h.1, bI_c (und2 K hK).symm]
  exact q
theorem TrM.u3 {m : xS} (h : TrM K n w m) (hK : K < 7) : sX9_isUnder (m 0 17) 3 m = some (bI (K = 3 ∨ K = 6), m) := by
  have q := zX9_isUnder (a := K) (P := 3) hK (by omega) m
  rw [h.1, bI_c (und3 K hK).symm]
  exact q
theorem TrM.is {m : xS} (h : TrM K n w m) (hK : K < 7) {j : Nat} (hj : j < 7) : (m 0 17 = nI j) ↔ K = j := by
  rw [h.1]
  exact nI_eq (by omega) (by omega)
theorem m_sails {m : xS} (h : TrM K n w m) (hK : K < 7) (x : Int32) : sX9_sailsOf x m = some (sailsV K n x, ransM m (sailsT K)) := by
  unfold sX9_sailsOf sX9_sailsOf_L19 sailsV sailsT
  rw [h.u1 hK, xb_s]
  simp only [bif0, xlet_e]
  by_cases q : K = 1 ∨ K = 4
  · simp only [if_pos q]
    rw [zX9_ran h, xb_s, zX9_ran (h.ran 20), xb_s, ((h.ran 20).ran 10).2.1]
    rfl
  · simp only [if_neg q]
    rw [zX9_ran h, xb_s, (h.ran 10).2.1]
    rfl
theorem m_sounds {m : xS} (h : TrM K n w m) (hK : K < 7) (x : Int32) : sX9_soundsOf x m = some (soundsV K n w x, ransM m (soundsT K)) := by
  unfold sX9_soundsOf sX9_soundsOf_L15 sX9_soundsOf_L34 sX9_soundsOf_L60 soundsV soundsT
  simp only [xlet_e]
  have i6 : (m 0 17 = 6) ↔ K = 6 := h.is hK (j := 6) (by omega)
  by_cases h6 : K = 6
  · rw [if_pos (i6.mpr h6), zX9_ran h, xb_s, (h.ran 70).u3 hK, xb_s]
    simp only [bif0, if_pos h6]
    have q : K = 3 ∨ K = 6 := Or.inr h6
    simp only [if_pos q]
    have t := ((h.ran 70).ran 40).ran 12
    have t6 : (ranM (ranM (ranM m 70) 40) 12 0 17 = 6) := (t.is hK (j := 6) (by omega)).mpr h6
    rw [zX9_ran (h.ran 70), xb_s, zX9_ran ((h.ran 70).ran 40), xb_s, if_pos t6, t.2.1, t.2.2.1]
    rfl
  · rw [if_neg (fun z => h6 (i6.mp z)), h.u3 hK, xb_s]
    simp only [bif0, if_neg h6]
    by_cases h3 : K = 3
    · have q : K = 3 ∨ K = 6 := Or.inl h3
      simp only [if_pos q, if_pos h3]
      have t := (h.ran 40).ran 12
      have t6 : ¬ (ranM (ranM m 40) 12 0 17 = 6) := fun z => h6 ((t.is hK (j := 6) (by omega)).mp z)
      rw [zX9_ran h, xb_s, zX9_ran (h.ran 40), xb_s, if_neg t6, t.2.2.1]
      rfl
    · have q : ¬ (K = 3 ∨ K = 6) := by omega
      simp only [if_neg q, if_neg h3]
      have t := h.ran 12
      have t6 : ¬ (ranM m 12 0 17 = 6) := fun z => h6 ((t.is hK (j := 6) (by omega)).mp z)
      rw [zX9_ran h, xb_s, if_neg t6, t.2.2.1]
      rfl
theorem m_steers {m : xS} (h : TrM K n w m) (hK : K < 7) (x : Int32) : sX9_steersOf x m = some (steersV K n w x, ransM m (steersT K)) := by
  unfold sX9_steersOf sX9_steersOf_L19 sX9_steersOf_L38 steersV steersT
  simp only [xlet_e]
  have i5 : (m 0 17 = 5) ↔ K = 5 := h.is hK (j := 5) (by omega)
  by_cases h5 : K = 5
  · rw [if_pos (i5.mpr h5), zX9_ran h, xb_s, (h.ran 60).u2 hK, xb_s]
    have q : K = 2 ∨ K = 5 := Or.inr h5
    have t := ((h.ran 60).ran 30).ran 11
    simp only [bif0, if_pos q]
    rw [zX9_ran (h.ran 60), xb_s, zX9_ran ((h.ran 60).ran 30), xb_s, m_sails t hK, xb_s, m_sounds (t.rans _) hK, xb_s, if_pos h5, if_pos h5, ransM_app m ([60, 30, 11] ++ sailsT K)]
    rfl
  · rw [if_neg (fun z => h5 (i5.mp z)), h.u2 hK, xb_s]
    by_cases h2 : K = 2
    · have q : K = 2 ∨ K = 5 := Or.inl h2
      have t := (h.ran 30).ran 11
      simp only [bif0, if_pos q]
      rw [zX9_ran h, xb_s, zX9_ran (h.ran 30), xb_s, m_sails t hK, xb_s, m_sounds (t.rans _) hK, xb_s, if_neg h5, if_neg h5, if_pos h2, if_pos h2, ransM_app m ([30, 11] ++ sailsT K)]
      rfl
    · have q : ¬ (K = 2 ∨ K = 5) := by omega
      simp only [bif0, if_neg q]
      rw [zX9_ran h, xb_s, m_sails (h.ran 11) hK, xb_s, if_neg h5, if_neg h5, if_neg h2, if_neg h2]
      rfl
theorem m_plain {m : xS} (h : TrM K n w m) (hK : K < 7) (x : Int32) : sX9_plainLogs x m = some (plainV K n w x, ransM m (plainT K)) := by
  unfold sX9_plainLogs plainV plainT
  have t := (h.ran 13).rans (steersT K)
  rw [zX9_ran h, xb_s, m_steers (h.ran 13) hK, xb_s, m_sounds t hK, xb_s, ransM_app m ([13] ++ steersT K)]
  rfl
theorem m_logs {m : xS} (h : TrM K n w m) (hK : K < 7) (x : Int32) : sX9_logsOf x m = some (logsV K n w x, ransM m (logsT K)) := by
  unfold sX9_logsOf logsV logsT
  have i6 : (m 0 17 = 6) ↔ K = 6 := h.is hK (j := 6) (by omega)
  have i4 : (m 0 17 = 4) ↔ K = 4 := h.is hK (j := 4) (by omega)
  by_cases h6 : K = 6
  · have t := (h.ran 71).rans (steersT K)
    rw [if_pos (i6.mpr h6), zX9_ran h, xb_s, m_steers (h.ran 71) hK, xb_s, m_plain t hK, xb_s, if_pos h6, if_pos h6, ransM_app m ([71] ++ steersT K)]
    rfl
  · rw [if_neg (fun z => h6 (i6.mp z)), if_neg h6, if_neg h6]
    by_cases h4 : K = 4
    · have t := (h.ran 50).rans (plainT K)
      rw [if_pos (i4.mpr h4), zX9_ran h, xb_s, m_plain (h.ran 50) hK, xb_s, m_sails t hK, xb_s, if_pos h4, if_pos h4, ransM_app m ([50] ++ plainT K)]
      rfl
    · rw [if_neg (fun z => h4 (i4.mp z)), m_plain h hK, xb_s, if_neg h4, if_neg h4]
end
theorem op_voice (p v x : Int32) : OpR (sX8_voice p v x) (sX9_voice p v x) := by
  intro c m h
  have hV := h.V
  unfold sX8_voice sX9_voice sX8_voice_L17 sX9_voice_L17
  simp only [zX8_isShip, zX9_isShip, zX8_within, zX9_within, xb_s, bif0, fC1, fM1]
  rw [h.F.1]
  by_cases h1 : 0 ≤ p ∧ p ≤ m 1 2 - 1
  · rw [if_pos h1, if_pos h1]
    obtain ⟨s, hs, rfl⟩ := inShip h.V.H h1
    have hs7 : s < 7 := by have := h.V.H.s7; omega
    have hx : xin (nI s) 7 := xin_n hs7 (by omega)
    by_cases h2 : 0 ≤ v ∧ v ≤ 3
    · rw [if_pos h2, if_pos h2]
      obtain ⟨j, hj, rfl⟩ := inN (n := 4) h2 (by decide)
      have hk := (hV.2.2.2.2.2.2.2.1 s hs7).1
      obtain ⟨K, hK, ea⟩ := nI_ex (n := 7) hk.1 (by omega)
      have e0 : c 22 s = nI K := (shipIs5 h hs7 (k := 0) (by omega)).trans ea
      have e1 : c 23 s = m 1 (33 + 5 * s + 1) := shipIs5 h hs7 (k := 1) (by omega)
      have g0 : ∀ z : xS, sX9_shipIs (nI s) 0 z = some (z 1 (33 + 5 * s + 0), z) := fun z => zX9_shipIs (f := 0) hs7 (by omega) z
      have g1 : ∀ z : xS, sX9_shipIs (nI s) 1 z = some (z 1 (33 + 5 * s + 1), z) := fun z => zX9_shipIs (f := 1) hs7 (by omega) z
      unfold sX7_speak
      simp only [if_pos hx, xlet_e, g0, g1, xb_s]
      rw [nI_N (by omega), e0, e1]
      generalize hw : m 1 (33 + 5 * s + 1) = w
      generalize hc4 : xup (xup (xup (xup c 54 (upd (c 54) 2 (nI K))) 54 _) 54 _) 54 _ = c4
      generalize hm4 : xup (xup (xup (xup m 0 (upd (m 0) 16 0)) 0 _) 0 _) 0 _ = m4
      have kc : ∀ k, ¬ k = 54 → c4 k = c k := fun k hk => by rw [← hc4, xup_n _ _ hk, xup_n _ _ hk, xup_n _ _ hk, xup_n _ _ hk]
      have km : ∀ k, ¬ k = 0 → m4 k = m k := fun k hk => by rw [← hm4, xup_n _ _ hk, xup_n _ _ hk, xup_n _ _ hk, xup_n _ _ hk]
      have c40 : c4 54 0 = 0 := by rw [← hc4, xup_s, upd_s]
      have hC : TrK K (nI s) w c4 := by
        refine ⟨?_, ?_, ?_, by rw [c40]; decide⟩
        · rw [← hc4, xup_s, upd_n _ _ (by decide), xup_s, upd_n _ _ (by decide), xup_s, upd_n _ _ (by decide), xup_s, upd_s]
        · rw [← hc4, xup_s, upd_n _ _ (by decide), xup_s, upd_n _ _ (by decide), xup_s, upd_s]
        · rw [← hc4, xup_s, upd_n _ _ (by decide), xup_s, upd_s]
      have m16 : m4 0 16 = 0 := by rw [← hm4, xup_s, upd_n _ _ (by decide), xup_s, upd_n _ _ (by decide), xup_s, upd_n _ _ (by decide), xup_s, upd_s]
      have m3 : m4 0 3 = m 0 3 := by rw [← hm4, xup_s, upd_n _ _ (by decide), xup_s, upd_n _ _ (by decide), xup_s, upd_n _ _ (by decide), xup_s, upd_n _ _ (by decide)]
      have hM : TrM K (nI s) w m4 := by
        refine ⟨?_, ?_, ?_, by rw [m16]; decide⟩
        · rw [← hm4, xup_s, upd_n _ _ (by decide), xup_s, upd_n _ _ (by decide), xup_s, upd_s, xup_n _ _ (by decide)]; exact ea
        · rw [← hm4, xup_s, upd_n _ _ (by decide), xup_s, upd_s]
        · rw [← hm4, xup_s, upd_s, xup_n _ _ (by decide), xup_n _ _ (by decide), xup_n _ _ (by decide)]; exact hw
      have hR : Rel c4 m4 := by
        obtain ⟨s1, s2, s3, s4, s5, s6, t1, t2, t3⟩ := h
        refine ⟨?_, s2.go (km 1 (by omega)) (km 5 (by omega)), by rw [kc 0 (by omega), m3]; exact s3, fun hz => ?_, fun i hi => ?_, fun e a b => by rw [kc 65 (by omega), km 4 (by omega)]; exact s6 e a b, ?_⟩
        · rw [km 1 (by omega)]
          exact s1.go (fun k a b _ _ => kc k (by omega)) (fun k a b => kc k (by omega)) (fun k a b => kc k (by omega))
        · rw [m3] at hz
          rw [km 2 (by omega)]
          exact (s4 hz).go (fun k a b _ _ => kc k (by omega)) (fun k a b => kc k (by omega)) (fun k a b => kc k (by omega))
        · have := (s5 i hi).go (c' := c4) (kc _ (by omega)) (kc _ (by omega))
          unfold SheetR; rw [km 11 (by omega), km 12 (by omega), km 13 (by omega)]; exact this
        · unfold TraceR
          rw [c40, m16]
          exact ⟨rfl, by decide, fun j hj => absurd hj (by rw [i_N]; exact Nat.not_lt_zero j)⟩
      have own : ∀ v, sX7_own (sX7_sayFrom 24) v x 0 c4 = xbind (sX7_sayFrom 24 (nI K) v x (nI 1) c4) (fun r s => some (r, s)) := fun v => ownS hC (sX7_sayFrom 24) v x 0
      rw [own]
      rcases (show j = 0 ∨ j = 1 ∨ j = 2 ∨ j = 3 by omega) with rfl | rfl | rfl | rfl
      · have q := c_sails hC (e := 1) 22 hK (by omega) x
        rw [show (nI 0 : Int32) = 0 from rfl, show (24 : Nat) = 22 + 2 from rfl, q, xb_s, xb_s, xb_s, if_pos rfl, m_sails hM hK, xb_s]
        exact ⟨_, _, _, rfl, rfl, hR.trs _⟩
      · have q := c_steers hC (e := 1) 19 hK (by omega) x
        rw [show (nI 1 : Int32) = 1 from rfl, show (24 : Nat) = 19 + 5 from rfl]
        rw [show (nI 1 : Int32) = 1 from rfl] at q
        rw [q, xb_s, xb_s, xb_s, if_neg (by decide), if_pos rfl, m_steers hM hK, xb_s]
        exact ⟨_, _, _, rfl, rfl, hR.trs _⟩
      · have q := c_sounds hC (e := 1) 21 hK (by omega) x
        rw [show (nI 2 : Int32) = 2 from rfl, show (24 : Nat) = 21 + 3 from rfl, q, xb_s, xb_s, xb_s, if_neg (by decide), if_neg (by decide), if_pos rfl, m_sounds hM hK, xb_s]
        exact ⟨_, _, _, rfl, rfl, hR.trs _⟩
      · have q := c_logs hC (e := 1) 17 hK (by omega) x
        rw [show (nI 3 : Int32) = 3 from rfl, show (24 : Nat) = 17 + 7 from rfl, q, xb_s, xb_s, xb_s, if_neg (by decide), if_neg (by decide), if_neg (by decide), m_logs hM hK, xb_s]
        exact ⟨_, _, _, rfl, rfl, hR.trs _⟩
    · rw [if_neg h2, if_neg h2]
      exact errR h (by decide) _ rfl rfl
  · rw [if_neg h1, if_neg h1]
    exact errR h (by decide) _ rfl rfl
