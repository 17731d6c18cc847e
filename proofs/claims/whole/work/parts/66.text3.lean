theorem textFail {c m : xS} (h : Rel c m) {Q : Nat} (hQ : Q ≤ 50) (hc : c 49 3 = nI Q) (hm : m 0 7 = nI Q) : ∃ r c' m', (if c 49 3 < 0 then (none : Option (Int32 × xS)) else some (-10 - c 49 3, xup c 39 (upd (c 39) 1 0))) = some (r, c') ∧ (some (-10 - (xup (xup m 0 (upd (m 0) 10 1)) 1 (upd (xup m 0 (upd (m 0) 10 1) 1) 7 0)) 0 7, xup (xup m 0 (upd (m 0) 10 1)) 1 (upd (xup m 0 (upd (m 0) 10 1) 1) 7 0)) : Option (Int32 × xS)) = some (r, m') ∧ Rel c' m' := by
  have hR : Rel c (xup m 0 (upd (m 0) 10 1)) := h.m0 ((EqX.rf _ _).up _ (by simp)) (by rw [xup_s, upd_n _ _ (by decide)]) (by rw [xup_s, upd_n _ _ (by decide)])
  have hR2 := hR.tapeN (p := 0) (by decide)
  have e : xup (xup m 0 (upd (m 0) 10 1)) 1 (upd (xup m 0 (upd (m 0) 10 1) 1) 7 0) 0 7 = nI Q := by rw [xup_n _ _ (by decide), xup_s, upd_n _ _ (by decide)]; exact hm
  rw [e, hc, if_neg (nI_nneg (by omega))]
  exact ⟨_, _, _, rfl, rfl, hR2⟩
theorem op_text (p : Int32) : OpR (sX8_text p) (sX9_text p) := by
  intro c m h
  unfold sX8_text sX9_text sX5_faultOf sX5_faultOf_L59 sX9_text_L67 sX9_text_L72 sX0_lawOf
  simp only [zX8_isUse, zX9_within, xb_s, bif0, fC1, fM1, xlet_e]
  by_cases h1 : 0 ≤ p ∧ p ≤ 1
  · rw [if_pos h1, if_pos h1]
    obtain ⟨u, hu, rfl⟩ := inN (n := 2) h1 (by decide)
    have h7 := h.V.2.2.2.2.2.1
    obtain ⟨T, hT, eT⟩ := nI_ex (n := 51) h7.1 (by omega)
    rw [h.D.2.1, eT]
    generalize hc0 : xup (xup (xup (xup (xup c 50 _) 49 _) 49 _) 49 _) 51 _ = c0
    generalize hm0 : xup (xup (xup (xup (xup m 0 _) 0 _) 0 _) 0 _) 0 _ = m0
    have cK : EqX [49, 50, 51] c c0 := by rw [← hc0]; exact (((((EqX.rf _ _).up _ (by simp)).up _ (by simp)).up _ (by simp)).up _ (by simp)).up _ (by simp)
    have mK : EqX [0] m m0 := by rw [← hm0]; exact (((((EqX.rf _ _).up _ (by simp)).up _ (by simp)).up _ (by simp)).up _ (by simp)).up _ (by simp)
    have c1 : c0 49 1 = nI T := by rw [← hc0, xup_n _ _ (by decide), xup_s, upd_n _ _ (by decide), xup_s, upd_n _ _ (by decide), xup_s, upd_s]
    have c2 : c0 49 2 = nI u := by rw [← hc0, xup_n _ _ (by decide), xup_s, upd_n _ _ (by decide), xup_s, upd_s]
    have c3 : c0 49 3 = 0 := by rw [← hc0, xup_n _ _ (by decide), xup_s, upd_s]
    have c51 : c0 51 0 = 0 := by rw [← hc0, xup_s, upd_s]
    have c50 : ∀ j, j < 50 → c0 50 j = m 1 (68 + j) := by
      intro j hj
      rw [← hc0, xup_n _ _ (by decide), xup_n _ _ (by decide), xup_n _ _ (by decide), xup_n _ _ (by decide), xup_s]
      exact (cpy_at (by show j < 50; omega)).trans (h.D.2.2.2.1 j hj)
    have n9 : m0 0 9 = nI u := by rw [← hm0, xup_s, upd_n _ _ (by decide), xup_s, upd_n _ _ (by decide), xup_s, upd_n _ _ (by decide), xup_s, upd_n _ _ (by decide), xup_s, upd_s]
    have n7 : m0 0 7 = 0 := by rw [← hm0, xup_s, upd_n _ _ (by decide), xup_s, upd_n _ _ (by decide), xup_s, upd_n _ _ (by decide), xup_s, upd_s]
    have n8 : m0 0 8 = 0 := by rw [← hm0, xup_s, upd_n _ _ (by decide), xup_s, upd_n _ _ (by decide), xup_s, upd_s]
    have n10 : m0 0 10 = 0 := by rw [← hm0, xup_s, upd_n _ _ (by decide), xup_s, upd_s]
    have n12 : m0 0 12 = 0 := by rw [← hm0, xup_s, upd_s]
    have nO : ∀ q, (q = 3 ∨ q = 16) → m0 0 q = m 0 q := by
      intro q hq
      rw [← hm0, xup_s, upd_n _ _ (by omega), xup_s, upd_n _ _ (by omega), xup_s, upd_n _ _ (by omega), xup_s, upd_n _ _ (by omega), xup_s, upd_n _ _ (by omega)]
    have hE : EnvP c0 m0 T u := ⟨by omega, hu, by rw [mK 1 (by simp)]; exact eT, n9, fun j hj => by rw [mK 1 (by simp)]; exact ⟨c50 j hj, h.V.2.2.2.2.2.2.2.2.1 j hj⟩⟩
    have hPS : PS c0 m0 T u c0 m0 0 0 0 0 := ⟨⟨c1, c2, c3, c51⟩, ⟨n7, n8, n10, n12⟩, ⟨by omega, by omega⟩, ⟨fun j hj => absurd hj (Nat.not_lt_zero j), rfl, fun i hi => absurd hi (Nat.not_lt_zero i)⟩, EqX.rf _ _, EqX.rf _ _, fun _ _ _ _ _ => rfl⟩
    obtain ⟨r, c', m', e1, e2, h2⟩ := parseR hE 0 0 0 c0 m0 hPS
    have hF : FrP c0 m0 c' m' := by
      rcases h2 with ⟨-, P', C', q1, -⟩ | ⟨-, h2⟩
      · exact q1.2.2.2.2
      · exact h2.2.2
    have hR : Rel c' m' := (h.scrC ((cK.mono (by unfold LSC; simp)).tr (hF.1.mono (by unfold LSC; simp)))).m0 ((mK.mono (by simp)).tr (hF.2.1.mono (by simp))) (by rw [hF.2.2 3 (by decide) (by decide) (by decide) (by decide)]; exact nO 3 (Or.inl rfl)) (by rw [hF.2.2 16 (by decide) (by decide) (by decide) (by decide)]; exact nO 16 (Or.inr rfl))
    rw [e1, xb_s, e2, xb_s, xb_s]
    rcases h2 with ⟨rfl, P', C', q1, q2, q3⟩ | ⟨rfl, h2⟩
    · obtain ⟨⟨a1, a2, a3, a4⟩, ⟨b1, b2, b3, b4⟩, ⟨p1, p2⟩, ⟨g1, g2, g3⟩, -⟩ := q1
      have t7 : m' 1 7 = nI T := by rw [hF.2.1 1 (by simp), mK 1 (by simp)]; exact eT
      rw [if_neg (show ¬ (1 : Int32) = 0 by decide), if_pos b3, t7, b1]
      by_cases hPT : P' = T
      · subst hPT
        have e0 : xup m' 0 (upd (m' 0) 10 0) = m' := by have := same0 m' 10; rw [b3] at this; exact this
        have e3 : (if c' 49 3 = c' 49 1 then (1 : Int32) else 0) = 1 := if_pos (by rw [a1, a3])
        rw [e3, if_neg (show ¬ (1 : Int32) = 0 by decide), if_pos (show (-1 : Int32) < 0 by decide), if_pos (Int32.le_refl _), if_pos (Or.inl rfl), e0]
        have hR2 := hR.tapeN (p := 0) (by decide)
        have m9 : m' 0 9 = nI u := by rw [hF.2.2 9 (by decide) (by decide) (by decide) (by decide)]; exact n9
        generalize hm2 : xup m' 1 (upd (m' 1) 7 0) = m2 at hR2 ⊢
        generalize hc2 : xup c' 39 (upd (c' 39) 1 0) = c2 at hR2 ⊢
        have w0 : m2 0 = m' 0 := by rw [← hm2, xup_n _ _ (by decide)]
        have w7 : m2 7 = m' 7 := by rw [← hm2, xup_n _ _ (by decide)]
        have ei : (138 : Int32) + 52 * nI u = nI (138 + 52 * u) := by
          rw [show (138 : Int32) = nI 138 from rfl, show (52 : Int32) = nI 52 from rfl, pk_mul, nI_add]
        have hx : xin (nI (138 + 52 * u)) 242 := xin_n (by omega) (by omega)
        obtain ⟨c3, m3, k1, k2, k3⟩ := textIn (C := C') hR2 hu (by omega) (by rw [w0]; exact b4) (by rw [w0]; exact m9) (by rw [← hc2, xup_n _ _ (by decide)]; exact a4) (fun j hj => by rw [← hc2, xup_n _ _ (by decide), w7]; exact g1 j hj) (by rw [w7]; exact ⟨g2, g3⟩)
        have hl : (if nI u = 0 then (5 : Nat) else 8) = 5 + 3 * u := by
          rcases (show u = 0 ∨ u = 1 by omega) with rfl | rfl <;> rfl
        have hin : 5 + 3 * u ∈ lLaw := by
          rcases (show u = 0 ∨ u = 1 by omega) with rfl | rfl <;> decide
        rw [w0, b3, if_pos rfl, m9, ei, if_pos hx, b4, nI_N (by omega), k2]
        show ∃ r c' m', (if (if nI u = 0 then (5 : Nat) else 8) ∈ lLaw then xbind (sX4_copyFrom (if nI u = 0 then (5 : Nat) else 8) 51 c2) (fun _ s68 => some ((1 : Int32), s68)) else none) = some (r, c') ∧ some (1, m3) = some (r, m') ∧ Rel c' m'
        rw [hl, if_pos hin, k1, xb_s]
        exact ⟨1, c3, m3, rfl, rfl, k3⟩
      · have e3 : (if c' 49 3 = c' 49 1 then (1 : Int32) else 0) = 0 := if_neg (by rw [a1, a3]; exact fun z => hPT ((nI_eq (by omega) (by omega)).mp z))
        have f := textFail hR (Q := P') (by omega) a3 b1
        rw [e3, if_pos rfl, if_neg (nI_ge (show P' < T by omega) (by omega)), if_pos (Or.inr rfl)]
        rw [xup_n (xup m' 0 (upd (m' 0) 10 1)) _ (show (0 : Nat) ≠ 1 by decide), xup_s, upd_s, if_neg (show ¬ (1 : Int32) = 0 by decide)]
        rw [a3, if_neg (nI_nneg (by omega))] at f ⊢
        rw [xup_n (xup m' 0 (upd (m' 0) 10 1)) _ (show (0 : Nat) ≠ 1 by decide), xup_s] at f
        exact f
    · obtain ⟨b1, ⟨Q, q1, q2, q3⟩, -⟩ := h2
      have f := textFail hR (Q := Q) (by omega) q2 q3
      rw [if_pos rfl, if_pos rfl, b1, if_neg (show ¬ (1 : Int32) = 0 by decide), if_pos (Or.inr trivial)]
      rw [xup_n (xup m' 0 (upd (m' 0) 10 1)) _ (show (0 : Nat) ≠ 1 by decide), xup_s, upd_s, if_neg (show ¬ (1 : Int32) = 0 by decide)]
      rw [q2, if_neg (nI_nneg (by omega))] at f ⊢
      rw [xup_n (xup m' 0 (upd (m' 0) 10 1)) _ (show (0 : Nat) ≠ 1 by decide), xup_s] at f
      exact f
  · rw [if_neg h1, if_neg h1]
    exact errR h (by decide) _ rfl rfl
