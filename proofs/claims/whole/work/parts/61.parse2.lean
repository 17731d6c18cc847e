def OkR (c0 m0 : xS) (T u s P C D h : Nat) (fc : Option (Int32 × xS)) (fm : Option (Unit × xS)) : Prop :=
  ∃ r c' m', fc = some (r, c') ∧ fm = some ((), m') ∧ ((r = 1 ∧ ∃ P' C', PS c0 m0 T u c' m' P' C' D h ∧ P + s ≤ P' ∧ C' + P ≤ C + P') ∨ (r = 0 ∧ BadP c0 m0 T c' m'))
theorem OkR.mono {c0 m0 : xS} {T u s s' P C P1 C1 D h : Nat} {fc : Option (Int32 × xS)} {fm : Option (Unit × xS)} (hp : P + s ≤ P1 + s') (hc : C1 + P ≤ C + P1) (h1 : OkR c0 m0 T u s' P1 C1 D h fc fm) : OkR c0 m0 T u s P C D h fc fm := by
  obtain ⟨r, c', m', e1, e2, h2⟩ := h1
  refine ⟨r, c', m', e1, e2, ?_⟩
  rcases h2 with ⟨r1, P', C', q1, q2, q3⟩ | h2
  · exact Or.inl ⟨r1, P', C', q1, by omega, by omega⟩
  · exact Or.inr h2
theorem zX5_isDigit (p : Int32) (c : xS) : sX5_isDigit p c = some (bI (48 ≤ p ∧ p ≤ 57), c) := by
  unfold sX5_isDigit
  simp only [xlet_e]
  by_cases h1 : p < 48
  · rw [if_pos h1, if_pos (Or.inl rfl), bI_f (fun z => by have := z.1; rw [i_le] at this; rw [i_lt] at h1; omega)]
  · rw [if_neg h1]
    by_cases h2 : 57 < p
    · rw [if_pos h2, if_pos (Or.inl rfl), bI_f (fun z => by have := z.2; rw [i_le] at this; rw [i_lt] at h2; omega)]
    · rw [if_neg h2, if_pos (Or.inr rfl), bI_t ⟨by rw [i_le]; rw [i_lt] at h1; omega, by rw [i_le]; rw [i_lt] at h2; omega⟩]
theorem ce_num {v : Nat} (hv : v < 10000) : ce (nI v) = nI v ∧ okE (nI v) 0 ∧ nI v < 20000 := by
  have h : ∀ k, 10000 ≤ k → k < 2147483648 → ¬ nI v = nI k := fun k hk hk2 e => by have := (nI_eq (a := v) (b := k) (by omega) (by omega)).mp e; omega
  refine ⟨?_, Or.inl ⟨by rw [i_nI (by omega)]; omega, by rw [i_nI (by omega)]; omega⟩, (nI_ltI (a := v) (b := 20000) (by omega) (by omega)).mpr (by omega)⟩
  unfold ce
  rw [if_neg (show ¬ nI v = (20000 : Int32) from h 20000 (by omega) (by omega)), if_neg (show ¬ nI v = (20001 : Int32) from h 20001 (by omega) (by omega)), if_neg (show ¬ nI v = (20002 : Int32) from h 20002 (by omega) (by omega)), if_neg (show ¬ nI v = (20003 : Int32) from h 20003 (by omega) (by omega)), if_neg (show ¬ nI v = (20004 : Int32) from h 20004 (by omega) (by omega)), if_neg (show ¬ nI v = (20005 : Int32) from h 20005 (by omega) (by omega)), if_neg (show ¬ nI v = (20006 : Int32) from h 20006 (by omega) (by omega)), if_neg (show ¬ nI v = (20007 : Int32) from h 20007 (by omega) (by omega)), if_neg (show ¬ nI v = (20008 : Int32) from h 20008 (by omega) (by omega)), if_neg (show ¬ nI v = (20009 : Int32) from h 20009 (by omega) (by omega)), if_neg (show ¬ nI v = (20010 : Int32) from h 20010 (by omega) (by omega)), if_neg (show ¬ nI v = (10000 : Int32) from h 10000 (by omega) (by omega)), if_neg (show ¬ nI v = (10001 : Int32) from h 10001 (by omega) (by omega)), if_neg (show ¬ nI v = (10002 : Int32) from h 10002 (by omega) (by omega))]
section
variable {c0 m0 : xS} {T u : Nat}
theorem numR (hE : EnvP c0 m0 T u) {C D h : Nat} : ∀ (r n1 n2 k v P : Nat) (c m : xS), k + r = 4 → r < n1 → r < n2 → v < 10 ^ k → PS c0 m0 T u c m P C D h → (C < P ∨ (0 < r ∧ 48 ≤ btP m0 T P ∧ btP m0 T P ≤ 57)) →
    ∃ c' m' P', xloop sX5_readNumber_L4 n1 (nI v, nI k) c = some ((), c') ∧ xloop sX9_one_L131 n2 (nI v, nI k) m = some ((), m') ∧ PS c0 m0 T u c' m' P' (C + 1) D (h + 1) ∧ P ≤ P' ∧ (0 < r → 48 ≤ btP m0 T P ∧ btP m0 T P ≤ 57 → P < P') := by
  intro r
  have done : ∀ (k v P : Nat) (c m : xS), k ≤ 4 → v < 10 ^ k → PS c0 m0 T u c m P C D h → C < P → ∃ c' m', sX5_readNumber_L48 (nI v) c = some ((), c') ∧ sX9_one_L179 (nI v) m = some ((), m') ∧ PS c0 m0 T u c' m' P (C + 1) D (h + 1) := by
    intro k v P c m hk hv hP hC
    have h4 : 10 ^ k ≤ 10 ^ 4 := Nat.pow_le_pow_right (by decide) hk
    obtain ⟨q1, q2, q3⟩ := ce_num (v := v) (by omega)
    obtain ⟨c', m', g1, g2, g3⟩ := hP.code hE hC (w := nI v) (h := h) (by rcases q2 with q | q | q | q; · exact Or.inl q
                                                                          · exact Or.inr (Or.inl q)
                                                                          · exact absurd q.2 (by omega)
                                                                          · exact absurd q.2 (by omega))
    rw [q1] at g1
    rw [if_pos q3] at g3
    refine ⟨c', m', ?_, ?_, g3⟩
    · unfold sX5_readNumber_L48; rw [g1, xb_s]
    · unfold sX9_one_L179; rw [g2, xb_s]
  induction r with
  | zero =>
    intro n1 n2 k v P c m hk hn1 hn2 hv hP hC
    obtain ⟨n1, rfl⟩ : ∃ z, n1 = z + 1 := ⟨n1 - 1, by omega⟩
    obtain ⟨n2, rfl⟩ : ∃ z, n2 = z + 1 := ⟨n2 - 1, by omega⟩
    have hk4 : k = 4 := by omega
    subst hk4
    obtain ⟨c', m', g1, g2, g3⟩ := done 4 v P c m (by omega) hv hP (by omega)
    rw [xloop_s, xloop_s]
    generalize xloop sX5_readNumber_L4 n1 = self1
    generalize xloop sX9_one_L131 n2 = self2
    simp only [sX5_readNumber_L4, sX9_one_L131]
    rw [if_pos (show (4 : Int32) ≤ nI 4 by decide), if_pos (show (4 : Int32) ≤ nI 4 by decide)]
    exact ⟨c', m', P, g1, g2, g3, Nat.le_refl _, fun z => absurd z (by omega)⟩
  | succ r ih =>
    intro n1 n2 k v P c m hk hn1 hn2 hv hP hC
    obtain ⟨n1, rfl⟩ : ∃ z, n1 = z + 1 := ⟨n1 - 1, by omega⟩
    obtain ⟨n2, rfl⟩ : ∃ z, n2 = z + 1 := ⟨n2 - 1, by omega⟩
    have hi := fun v' c' m' => ih n1 n2 (k + 1) v' (P + 1) c' m' (by omega) (by omega) (by omega)
    rw [xloop_s, xloop_s]
    generalize xloop sX5_readNumber_L4 n1 = self1 at hi ⊢
    generalize xloop sX9_one_L131 n2 = self2 at hi ⊢
    simp only [sX5_readNumber_L4, sX9_one_L131, xlet_e]
    have hk4 : ¬ (4 : Int32) ≤ nI k := nI_ge (a := k) (b := 4) (by omega) (by omega)
    rw [if_neg hk4, if_neg hk4, zX5_upcoming hE hP, xb_s, zX5_isDigit, xb_s, zX9_here hE hP, xb_s, zX9_within, xb_s, zX5_upcoming hE hP, xb_s, zX9_here hE hP, xb_s, bif0, bif0]
    by_cases hd : 48 ≤ btP m0 T P ∧ btP m0 T P ≤ 57
    · rw [if_pos hd, if_pos hd]
      obtain ⟨b, hb, eb⟩ := inN (p := btP m0 T P) (q := 57) (n := 58) ⟨Int32.le_trans (by decide) hd.1, hd.2⟩ (by decide)
      have hb48 : 48 ≤ b := by
        have := i_le.mp hd.1
        rw [eb, i_nI (by omega)] at this
        have e : (48 : Int32).toInt = 48 := rfl
        omega
      have hPT : P < T := bt_in hE (v := b) (by omega) eb
      have h4 : 10 ^ k ≤ 10 ^ 3 := Nat.pow_le_pow_right (by decide) (by omega)
      have h5 : 10 ^ (k + 1) = 10 * 10 ^ k := by rw [Nat.pow_succ, Nat.mul_comm]
      have ev : (10 : Int32) * nI v + nI b - 48 = nI (10 * v + (b - 48)) := by
        rw [show (10 : Int32) = nI 10 from rfl, pk_mul, nI_add, show (48 : Int32) = nI 48 from rfl, pk_sub (by omega), show 10 * v + b - 48 = 10 * v + (b - 48) by omega]
      obtain ⟨c', m', P', g1, g2, g3, g4, -⟩ := hi (10 * v + (b - 48)) (advC c) (advM m) (by omega) (hP.adv hPT) (Or.inl (by have := hP.2.2.1.2; omega))
      rw [eb, ev, nI_s]
      exact ⟨c', m', P', g1, g2, g3, by omega, fun _ _ => by omega⟩
    · rw [if_neg hd, if_neg hd]
      obtain ⟨c', m', g1, g2, g3⟩ := done k v P c m (by omega) hv hP (by rcases hC with hC | hC
                                                                         · exact hC
                                                                         · exact absurd hC.2 hd)
      exact ⟨c', m', P, g1, g2, g3, Nat.le_refl _, fun _ z => absurd z hd⟩
/-- the code then the step is the step then the code -/
theorem codes_adv {m m' : xS} {w : Int32} (h0 : m 0 10 = 0) (h : sX9_codes w (advM m) = some ((), m')) : ∃ m1, sX9_codes w m = some ((), m1) ∧ advM m1 = m' ∧ m1 0 10 = 0 := by
  have e10 : advM m 0 10 = 0 := by unfold advM; rw [xup_s, upd_n _ _ (by decide)]; exact h0
  have e12 : advM m 0 12 = m 0 12 := by unfold advM; rw [xup_s, upd_n _ _ (by decide)]
  unfold sX9_codes at h ⊢
  simp only [xlet_e] at h ⊢
  rw [if_pos e10, e12] at h
  rw [if_pos h0]
  by_cases hx : xin (m 0 12) 60
  · rw [if_pos hx] at h ⊢
    injection h with h
    injection h with _ h
    refine ⟨_, rfl, ?_, by rw [xup_s, upd_n _ _ (by decide), xup_n _ _ (by decide)]; exact h0⟩
    rw [← h]
    funext k
    unfold advM
    by_cases e : k = 0
    · subst e
      rw [xup_s, xup_s, xup_s, xup_n _ _ (by decide), xup_n _ _ (by decide), xup_s]
      funext j
      unfold upd
      by_cases e1 : j = 7
      · subst e1; simp
      · by_cases e2 : j = 12
        · subst e2; simp
        · simp [e1, e2]
    · rw [xup_n _ _ e, xup_n _ _ e, xup_n _ _ e]
      by_cases e7 : k = 7
      · subst e7; rw [xup_s, xup_s, xup_n _ _ (by decide)]
      · rw [xup_n _ _ e7, xup_n _ _ e7, xup_n _ _ e]
  · rw [if_neg hx] at h
    exact absurd h (by simp)
end
