theorem Rel.m0 {c m m' : xS} (h : Rel c m) (hE : EqX [0, 7] m m') (h3 : m' 0 3 = m 0 3) (h16 : m' 0 16 = m 0 16) : Rel c m' := by
  obtain ⟨s1, s2, s3, s4, s5, s6, t⟩ := h
  have k : ∀ q, ¬ q ∈ [0, 7] → m' q = m q := hE
  refine ⟨by rw [k 1 (by simp)]; exact s1, s2.go (k 1 (by simp)) (k 5 (by simp)), by rw [h3]; exact s3, by rw [h3, k 2 (by simp)]; exact s4, fun i hi => ?_, fun e a b => by rw [k 4 (by simp)]; exact s6 e a b, ?_⟩
  · unfold SheetR; rw [k 11 (by simp), k 12 (by simp), k 13 (by simp)]; exact s5 i hi
  · unfold TraceR; rw [h16, k 10 (by simp)]; exact t
theorem textLoop {m : xS} {u C : Nat} (hu : u < 2) (hC : C ≤ 50) (h12 : m 0 12 = nI C) (h9 : m 0 9 = nI u) : ∃ m', xloop sX9_text_L120 xF 0 m = some (1, m') ∧ EqX [1, 5] m m' ∧ cacheOk m' ∧ ∀ q, m' 1 q = if 139 + 52 * u ≤ q ∧ q < 139 + 52 * u + C then m 7 (q - (139 + 52 * u)) else m 1 q := by
  have key : ∀ (r n k : Nat) (m' : xS), k + r = C → r < n → EqX [1, 5] m m' → (∀ q, m' 1 q = if 139 + 52 * u ≤ q ∧ q < 139 + 52 * u + k then m 7 (q - (139 + 52 * u)) else m 1 q) → ∃ m'', xloop sX9_text_L120 n (nI k) m' = some (1, m'') ∧ EqX [1, 5] m m'' ∧ cacheOk m'' ∧ ∀ q, m'' 1 q = if 139 + 52 * u ≤ q ∧ q < 139 + 52 * u + C then m 7 (q - (139 + 52 * u)) else m 1 q := by
    intro r
    induction r with
    | zero =>
      intro n k m' hk hn hE hz
      obtain ⟨n, rfl⟩ : ∃ z, n = z + 1 := ⟨n - 1, by omega⟩
      have hk' : k = C := by omega
      subst hk'
      obtain ⟨m1, g1, g2, g3⟩ := zX9_forget m'
      rw [xloop_s]
      generalize xloop sX9_text_L120 n = self
      simp only [sX9_text_L120]
      rw [hE 0 (by simp), h12, if_pos (Int32.le_refl _), g1, xb_s]
      exact ⟨m1, rfl, hE.tr (g2.mono (by simp)), cache0 g3, fun q => by rw [g2 1 (by simp)]; exact hz q⟩
    | succ r ih =>
      intro n k m' hk hn hE hz
      obtain ⟨n, rfl⟩ : ∃ z, n = z + 1 := ⟨n - 1, by omega⟩
      have hx : xin (nI k) 60 := xin_n (by omega) (by omega)
      have ei : (138 : Int32) + 52 * nI u + 1 + nI k = nI (139 + 52 * u + k) := by
        rw [show (138 : Int32) = nI 138 from rfl, show (52 : Int32) = nI 52 from rfl, show (1 : Int32) = nI 1 from rfl, pk_mul, nI_add, nI_add, nI_add, show 138 + 52 * u + 1 + k = 139 + 52 * u + k by omega]
      have hx2 : xin (nI (139 + 52 * u + k)) 242 := xin_n (by omega) (by omega)
      have hi := fun m' => ih n (k + 1) m' (by omega) (by omega)
      rw [xloop_s]
      generalize xloop sX9_text_L120 n = self at hi ⊢
      simp only [sX9_text_L120, xlet_e]
      rw [hE 0 (by simp), h12, if_neg (nI_ge (show k < C by omega) (by omega)), if_pos hx, h9, ei, if_pos hx2, nI_N (by omega), nI_N (by omega), nI_s]
      refine hi _ (hE.up _ (by simp)) (fun q => ?_)
      rw [xup_s]
      by_cases e : q = 139 + 52 * u + k
      · subst e
        rw [upd_s, if_pos (by omega), hE 7 (by simp), show 139 + 52 * u + k - (139 + 52 * u) = k by omega]
      · rw [upd_n _ _ e, hz q]
        by_cases q1 : 139 + 52 * u ≤ q ∧ q < 139 + 52 * u + k
        · rw [if_pos q1, if_pos (by omega)]
        · rw [if_neg q1, if_neg (by omega)]
  exact key C xF 0 m (by omega) (by rw [xF_eq]; omega) (EqX.rf _ _) (fun q => by rw [if_neg (by omega)])
/-- a TEXT taken over on both sides -/
theorem textIn {c m : xS} (h : Rel c m) {u C : Nat} (hu : u < 2) (hC : C ≤ 50) (h12 : m 0 12 = nI C) (h9 : m 0 9 = nI u) (c51 : c 51 0 = nI C) (c52 : ∀ j, j < C → c 52 j = ce (m 7 j)) (hok : okC (m 7) C) :
    ∃ c' m', sX4_copyFrom (5 + 3 * u) 51 c = some ((), c') ∧ xloop sX9_text_L120 xF 0 (xup m 1 (upd (m 1) (138 + 52 * u) (nI C))) = some (1, m') ∧ Rel c' m' := by
  have hV := h.V
  obtain ⟨m', g1, g2, g3, g4⟩ := textLoop (m := xup m 1 (upd (m 1) (138 + 52 * u) (nI C))) hu hC (by rw [xup_n _ _ (by decide)]; exact h12) (by rw [xup_n _ _ (by decide)]; exact h9)
  have gN : ∀ q, ¬ (138 + 52 * u ≤ q ∧ q < 139 + 52 * u + C) → m' 1 q = m 1 q := fun q hq => by
    rw [g4 q, if_neg (by omega), xup_s, upd_n _ _ (by omega)]
  have gL : m' 1 (138 + 52 * u) = nI C := by rw [g4, if_neg (by omega), xup_s, upd_s]
  have gC : ∀ j, j < C → m' 1 (139 + 52 * u + j) = m 7 j := fun j hj => by
    rw [g4, if_pos (by omega), xup_n _ _ (by decide), show 139 + 52 * u + j - (139 + 52 * u) = j by omega]
  have hlen : lenN (m' 1) u = C := by unfold lenN; rw [gL, nI_N (by omega)]
  have hLaw : LawR c 51 (m' 1) u := ⟨by rw [c51, gL], fun j hj => by rw [hlen] at hj; rw [c52 j hj]; show ce (m 7 j) = ce (m' 1 (139 + 52 * u + j)); rw [gC j hj]⟩
  obtain ⟨c', k1, k2, k3⟩ := zX4_copyFrom (f := 5 + 3 * u) hLaw (by rw [hlen]; exact hC) (by omega)
  have e : ∀ q, ¬ q ∈ [5 + 3 * u, 5 + 3 * u + 1] → c' q = c q := k3
  obtain ⟨a1, a2, a3, a4, a5, a6, a7, a8, a9, a10, a11⟩ := hV
  have vtU : VT (m' 1) u := by
    refine ⟨by rw [gL, i_nI (by omega)]; omega, by rw [gL, i_nI (by omega)]; omega, Or.inr ?_⟩
    rw [hlen]
    exact okC_cg (fun i hi => (gC i hi).symm) hok
  have oth : ∀ v, v < 2 → v ≠ u → VT (m 1) v → VT (m' 1) v ∧ ∀ (c : xS) k, LawR c k (m 1) v → LawR c k (m' 1) v := by
    intro v hv hvu hT
    have hl := (VT_len hT).1
    have q0 : m' 1 (138 + 52 * v) = m 1 (138 + 52 * v) := gN _ (by omega)
    have ql : lenN (m' 1) v = lenN (m 1) v := by unfold lenN; rw [q0]
    have qc : ∀ j, j < lenN (m 1) v → codeN (m' 1) v j = codeN (m 1) v j := fun j hj => gN _ (by omega)
    refine ⟨⟨by rw [q0]; exact hT.1, by rw [q0]; exact hT.2.1, ?_⟩, fun c k hL => ⟨by rw [q0]; exact hL.1, fun j hj => by rw [ql] at hj; rw [qc j hj]; exact hL.2 j hj⟩⟩
    rw [ql]
    rcases hT.2.2 with z | z
    · exact Or.inl z
    · exact Or.inr (okC_cg (fun i hi => (qc i hi).symm) z)
  have hVT : VT (m' 1) 0 ∧ VT (m' 1) 1 := by
    rcases (show u = 0 ∨ u = 1 by omega) with rfl | rfl
    · exact ⟨vtU, (oth 1 (by omega) (by omega) a11).1⟩
    · exact ⟨(oth 0 (by omega) (by omega) a10).1, vtU⟩
  have hLW : LawR c' 5 (m' 1) 0 ∧ LawR c' 8 (m' 1) 1 := by
    rcases (show u = 0 ∨ u = 1 by omega) with rfl | rfl
    · exact ⟨k2, ((oth 1 (by omega) (by omega) a11).2 c 8 h.B.2.2.2.2).go (e 8 (by simp)) (e 9 (by simp))⟩
    · exact ⟨((oth 0 (by omega) (by omega) a10).2 c 5 h.B.2.2.2.1).go (e 5 (by simp)) (e 6 (by simp)), k2⟩
  refine ⟨c', m', k1, g1, h.snap ⟨⟨?_, ?_, fun j hj => ?_, hLW.1, hLW.2⟩, ?_, ?_, ?_, ?_, ?_⟩ g3 (k3.mono (by unfold LSN; simp; omega)) (((EqX.rf _ m).up _ (by unfold LMN; simp)).tr (g2.mono (by unfold LMN; simp)))⟩
  · rw [e 1 (by simp; omega), gN 1 (by omega)]; exact h.B.1
  · rw [e 1 (by simp; omega), gN 3 (by omega)]; exact h.B.2.1
  · rw [e _ (by simp; omega), e _ (by simp; omega), e _ (by simp; omega), gN _ (by omega), gN _ (by omega), gN _ (by omega)]; exact h.B.2.2.1 j hj
  · exact (h.L.go (e 1 (by simp; omega))).ag (gN _ (by omega)) (gN _ (by omega))
  · exact (h.F.go (fun k a b => e k (by simp; omega))).ag (gN _ (by omega)) (gN _ (by omega)) (fun q a b => gN q (by omega))
  · exact (h.D.go (fun k a b => e k (by simp; omega))).ag (gN _ (by omega)) (gN _ (by omega)) (gN _ (by omega)) (fun q a b => gN q (by omega))
  · exact h.V.chg (gN _ (by omega)) (gN _ (by omega)) (by rw [gN _ (by omega)]; exact a3) (by rw [gN _ (by omega)]; exact a4) (by rw [gN _ (by omega)]; exact a5) (by rw [gN _ (by omega)]; exact a6) (by rw [gN _ (by omega)]; exact a7) (fun j hj => by rw [gN _ (by omega), gN _ (by omega), gN _ (by omega)]; exact a8 j hj) (fun j hj => by rw [gN _ (by omega)]; exact a9 j hj) hVT
  · rw [gN _ (by omega)]; exact h.1.2.2.2.2.2
