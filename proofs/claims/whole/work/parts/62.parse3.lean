def nmP (u k : Nat) : Int32 := xNames.getD (3 * u + k) 0
theorem nm_in : ∀ u, u < 2 → ∀ k, k < 3 → xin (3 * nI u + nI k) 6 ∧ (3 * nI u + nI k).toNatClampNeg = 3 * u + k := by decide +kernel
theorem nm_tx : ∀ u, u < 2 → ∀ k, k < 3 → (xTx.getD u []).getD k 0 = nmP u k := by decide +kernel
theorem nm_ne : ∀ u, u < 2 → ∀ k, k < 3 → ∀ j, j < 3 → (nmP u k = nmP u j ↔ k = j) := by decide +kernel
theorem nm_pos : ∀ u, u < 2 → ∀ k, k < 3 → (0 : Int32) ≤ nmP u k ∧ ¬ nmP u k = -1 := by decide +kernel
theorem ce_nm : ∀ k, k < 3 → ce (10000 + nI k) = -1 - nI k ∧ nameW (10000 + nI k) ∧ (10000 + nI k : Int32) < 20000 ∧ (0 : Int32) ≤ nI k := by
  intro k hk
  rcases (show k = 0 ∨ k = 1 ∨ k = 2 by omega) with rfl | rfl | rfl <;> exact ⟨by decide, by unfold nameW; decide, by decide, by decide⟩
section
variable {c0 m0 : xS} {T u : Nat}
theorem rdName {c : xS} (hu : u < 2) (hc : c 49 2 = nI u) (b : Int32) : sX5_readName b c =
    if b = nmP u 0 then xbind (sX4_add 51 (-1 - nI 0) (advC c)) (fun _ s => some ((1 : Int32), s)) else if b = nmP u 1 then xbind (sX4_add 51 (-1 - nI 1) (advC c)) (fun _ s => some ((1 : Int32), s)) else if b = nmP u 2 then xbind (sX4_add 51 (-1 - nI 2) (advC c)) (fun _ s => some ((1 : Int32), s)) else some (0, c) := by
  have step : ∀ k self, k < 3 → sX5_readName_L2 b self (nI k) c = if b = nmP u k then xbind (sX4_add 51 (-1 - nI k) (advC c)) (fun _ s => some ((1 : Int32), s)) else self (nI (k + 1)) c := by
    intro k self hk
    obtain ⟨x1, x2⟩ := nm_in u hu k hk
    simp only [sX5_readName_L2, xlet_e]
    rw [if_neg (show ¬ (3 : Int32) ≤ nI k from nI_ge (a := k) (b := 3) (by omega) (by omega)), hc, if_pos x1, x2, nI_s]
    rfl
  have last : ∀ self, sX5_readName_L2 b self (nI 3) c = some (0, c) := by
    intro self
    simp only [sX5_readName_L2]
    rw [if_pos (show (3 : Int32) ≤ nI 3 by decide)]
  obtain ⟨n, hn⟩ : ∃ n, xF = n + 4 := ⟨xF - 4, by rw [xF_eq]⟩
  unfold sX5_readName
  show xloop (sX5_readName_L2 b) xF (nI 0) c = _
  rw [hn, xloop_s, step 0 _ (by omega), xloop_s, step 1 _ (by omega), xloop_s, step 2 _ (by omega), xloop_s, last]
theorem nmOf {m : xS} (hu : u < 2) (hm : m 0 9 = nI u) (b : Int32) : sX9_nameOf b m = some ((if nmP u 2 = b then nI 2 else if nmP u 1 = b then nI 1 else if nmP u 0 = b then nI 0 else -1), m) := by
  have hx2 : xin (nI u) 2 := xin_n hu (by omega)
  have step : ∀ k self a, k < 3 → sX9_nameOf_L4 b self (a, nI k) m = self ((if nmP u k = b then nI k else a), nI (k + 1)) m := by
    intro k self a hk
    have hx : xin (nI k) 3 := xin_n hk (by omega)
    simp only [sX9_nameOf_L4, sX9_nameOf_L42, xlet_e]
    rw [hm, if_pos hx2, if_neg (show ¬ (3 : Int32) ≤ nI k from nI_ge (a := k) (b := 3) (by omega) (by omega)), if_pos hx2, if_pos hx, nI_N (by omega), nI_N (by omega), nm_tx u hu k hk, nI_s]
  have last : ∀ self a, sX9_nameOf_L4 b self (a, nI 3) m = some (a, m) := by
    intro self a
    simp only [sX9_nameOf_L4]
    rw [hm, if_pos hx2, if_pos (show (3 : Int32) ≤ nI 3 by decide)]
  obtain ⟨n, hn⟩ : ∃ n, xF = n + 4 := ⟨xF - 4, by rw [xF_eq]⟩
  unfold sX9_nameOf
  rw [hn, xloop_s, show ((-1 : Int32), (0 : Int32)) = (-1, nI 0) from rfl, step 0 _ _ (by omega), xloop_s, step 1 _ _ (by omega), xloop_s, step 2 _ _ (by omega), xloop_s, last]
theorem PS.bad {c m : xS} {P C D h : Nat} (hP : PS c0 m0 T u c m P C D h) : BadP c0 m0 T c (xup m 0 (upd (m 0) 10 1)) := by
  obtain ⟨⟨a1, a2, a3, a4⟩, ⟨b1, b2, b3, b4⟩, ⟨p1, p2⟩, -, f1, f2, f3⟩ := hP
  refine ⟨by rw [xup_s, upd_s], ⟨P, p1, a3, by rw [xup_s, upd_n _ _ (by decide)]; exact b1⟩, f1, f2.up _ (by simp), fun q q1 q2 q3 q4 => by rw [xup_s, upd_n _ _ q3]; exact f3 q q1 q2 q3 q4⟩
noncomputable def mOpen (rcM : xS → Option (Unit × xS)) (b : Int32) (m : xS) : Option (Unit × xS) :=
  if b = 33 then xbind (rcM (advM (xup m 0 (upd (m 0) 8 (m 0 8 + 1))))) (fun _ s => xbind (sX9_codes 20010 s) (fun _ t => sX9_one_L103 t))
  else xbind (sX9_either rcM (advM (xup m 0 (upd (m 0) 8 (m 0 8 + 1))))) (fun _ s => xbind (sX9_takes 41 s) (fun r t => sX9_one_L100 (if r = 0 then 1 else 0) t))
theorem nameCase (hE : EnvP c0 m0 T u) {c m : xS} {P C D h : Nat} (hP : PS c0 m0 T u c m P C D h) {k : Nat} (hk : k < 3) (hb : btP m0 T P = nmP u k) : OkR c0 m0 T u 1 P C D (h + 1) (xbind (sX4_add 51 (-1 - nI k) (advC c)) (fun _ s => some ((1 : Int32), s))) (xbind (sX9_codes (10000 + nI k) m) (fun _ s => some ((), advM s))) := by
  have hu := hE.2.1
  have hPT : P < T := by
    rcases bt_ok hE (P := P) with q | q
    · rw [hb] at q; exact absurd q (nm_pos u hu k hk).2
    · exact q.1
  obtain ⟨q1, q2, q3, q4⟩ := ce_nm k hk
  have hP2 := hP.adv hPT
  obtain ⟨c', m', g1, g2, g3⟩ := hP2.code hE (by have := hP.2.2.1.2; omega) (w := 10000 + nI k) (Or.inr (Or.inl q2))
  obtain ⟨m1, k1, k2, k3⟩ := codes_adv hP.2.1.2.2.1 g2
  rw [q1] at g1
  rw [if_pos q3] at g3
  refine ⟨1, c', m', by rw [g1, xb_s], by rw [k1, xb_s, k2], Or.inl ⟨rfl, P + 1, C + 1, g3, by omega, by omega⟩⟩
theorem singleR (hE : EnvP c0 m0 T u) {c m : xS} {P C p h : Nat} (hp : p ≤ 5) (hP : PS c0 m0 T u c m P C p h) {rcC : Int32 → Int32 → xS → Option (Int32 × xS)} {rcM : xS → Option (Unit × xS)}
    (hO : p < 5 → ∀ b, (b = 33 ∨ b = 40) → btP m0 T P = b → OkR c0 m0 T u 1 P C p (h + 1) (rcC b (nI p + 1) c) (mOpen rcM b m)) : OkR c0 m0 T u 1 P C p (h + 1) (sX5_readSingle rcC (nI p) c) (sX9_one_body rcM m) := by
  have hu := hE.2.1
  have m10 := hP.2.1.2.2.1
  have m8 := hP.2.1.2.1
  unfold sX5_readSingle sX5_readSingle_L30 sX9_one_body sX9_one_L17 sX9_one_L31
  rw [zX5_upcoming hE hP, xb_s, zX5_isDigit, xb_s, zX9_here hE hP, xb_s]
  simp only [bif0, zX9_within, xb_s, xlet_e]
  have open_ : ∀ b, (b = 33 ∨ b = 40) → btP m0 T P = b → OkR c0 m0 T u 1 P C p (h + 1) (if 5 ≤ nI p then some (0, c) else xbind (rcC b (nI p + 1) c) (fun r40 s40 => if (if r40 = 0 then (0 : Int32) else 1) = 0 ∨ (if r40 = 0 then (0 : Int32) else 1) = 1 then some ((if r40 = 0 then (0 : Int32) else 1), s40) else none))
      (if (if m 0 8 = 5 then (1 : Int32) else 0) = 0 ∨ (if m 0 8 = 5 then (1 : Int32) else 0) = 1 then (if xup m 0 (upd (m 0) 10 (if m 0 8 = 5 then 1 else 0)) 0 10 = 0 then mOpen rcM b (xup m 0 (upd (m 0) 10 (if m 0 8 = 5 then 1 else 0))) else some ((), xup m 0 (upd (m 0) 10 (if m 0 8 = 5 then 1 else 0)))) else none) := by
    intro b hb1 hb2
    rw [m8]
    by_cases h5 : p = 5
    · subst h5
      rw [if_pos (show (5 : Int32) ≤ nI 5 by decide), if_pos (show nI 5 = (5 : Int32) from rfl), if_pos (Or.inr rfl), xup_s, upd_s, if_neg (by decide)]
      exact ⟨0, c, _, rfl, rfl, Or.inr ⟨rfl, hP.bad⟩⟩
    · have n5 : ¬ nI p = (5 : Int32) := fun z => h5 ((nI_eq (a := p) (b := 5) (by omega) (by omega)).mp z)
      have e0 : xup m 0 (upd (m 0) 10 0) = m := by have := same0 m 10; rw [m10] at this; exact this
      rw [if_neg (show ¬ (5 : Int32) ≤ nI p from nI_ge (a := p) (b := 5) (by omega) (by omega)), if_neg n5, if_pos (Or.inl rfl), e0, if_pos m10]
      obtain ⟨r, c', m', g1, g2, g3⟩ := hO (by omega) b hb1 hb2
      rw [g1, xb_s, g2]
      rcases g3 with ⟨rfl, g3⟩ | ⟨rfl, g3⟩
      · rw [show (if (1 : Int32) = 0 then (0 : Int32) else 1) = 1 from rfl, if_pos (Or.inr rfl)]
        exact ⟨1, c', m', rfl, rfl, Or.inl ⟨rfl, g3⟩⟩
      · rw [show (if (0 : Int32) = 0 then (0 : Int32) else 1) = 0 from rfl, if_pos (Or.inl rfl)]
        exact ⟨0, c', m', rfl, rfl, Or.inr ⟨rfl, g3⟩⟩
  by_cases b33 : btP m0 T P = 33
  · have nd : ¬ (48 ≤ btP m0 T P ∧ btP m0 T P ≤ 57) := by rw [b33]; decide
    rw [if_neg nd, if_pos b33, if_pos b33]
    exact open_ _ (Or.inl b33) rfl
  · by_cases b40 : btP m0 T P = 40
    · have nd : ¬ (48 ≤ btP m0 T P ∧ btP m0 T P ≤ 57) := by rw [b40]; decide
      rw [if_neg nd, if_neg b33, if_pos b40, if_neg b33, if_pos b40]
      exact open_ _ (Or.inr b40) rfl
    · by_cases hd : 48 ≤ btP m0 T P ∧ btP m0 T P ≤ 57
      · rw [if_pos hd, if_neg b33, if_neg b40, if_pos hd]
        obtain ⟨c', m', P', g1, g2, g3, g4, g5⟩ := numR hE (C := C) (D := p) (h := h) 4 xF xF 0 0 P c m rfl (by rw [xF_eq]; omega) (by rw [xF_eq]; omega) (by decide) hP (Or.inr ⟨by omega, hd⟩)
        have g1' : sX5_readNumber c = some ((), c') := g1
        rw [g1', xb_s]
        have g2' : xloop sX9_one_L131 xF (0, 0) m = some ((), m') := g2
        rw [g2']
        exact ⟨1, c', m', rfl, rfl, Or.inl ⟨rfl, P', C + 1, g3, by have := g5 (by omega) hd; omega, by have := g5 (by omega) hd; omega⟩⟩
      · rw [if_neg hd, if_neg b33, if_neg b40, if_neg b33, if_neg b40, if_neg hd, rdName hu hP.1.2.1]
        have m9 : m 0 9 = nI u := by rw [hP.2.2.2.2.2.2 9 (by decide) (by decide) (by decide) (by decide)]; exact hE.2.2.2.1
        have e0 : xup m 0 (upd (m 0) 10 0) = m := by have := same0 m 10; rw [m10] at this; exact this
        have nameM : ∀ k, k < 3 → sX9_one_L200 (nI k) m = xbind (sX9_codes (10000 + nI k) m) (fun _ s => some ((), advM s)) := by
          intro k hk
          unfold sX9_one_L200 sX9_one_L218
          simp only [xlet_e]
          rw [m10, if_pos rfl, if_pos (ce_nm k hk).2.2.2, if_pos (Or.inl rfl), e0, if_pos m10]
          rfl
        have norm : ∀ {fm : Option (Unit × xS)} {fc : Option (Int32 × xS)}, OkR c0 m0 T u 1 P C p (h + 1) fc fm → OkR c0 m0 T u 1 P C p (h + 1) (xbind fc (fun r54 s54 => if r54 = 0 ∨ r54 = 1 then some (r54, s54) else none)) fm := by
          intro fm fc h1
          obtain ⟨r, c', m', g1, g2, g3⟩ := h1
          rw [g1, xb_s]
          rcases g3 with ⟨rfl, g3⟩ | ⟨rfl, g3⟩
          · rw [if_pos (Or.inr rfl)]; exact ⟨1, c', m', rfl, g2, Or.inl ⟨rfl, g3⟩⟩
          · rw [if_pos (Or.inl rfl)]; exact ⟨0, c', m', rfl, g2, Or.inr ⟨rfl, g3⟩⟩
        have nameD : ∀ k, k < 3 → btP m0 T P = nmP u k → (if 0 ≤ btP m0 T P then xbind (sX9_nameOf (btP m0 T P) m) (fun r197 s197 => sX9_one_L200 r197 s197) else sX9_one_L200 (-1) m) = sX9_one_L200 (nI k) m := by
          intro k hk hb
          rw [hb, if_pos (nm_pos u hu k hk).1, nmOf hu m9, xb_s]
          rcases (show k = 0 ∨ k = 1 ∨ k = 2 by omega) with rfl | rfl | rfl
          · rw [if_neg (fun z => absurd ((nm_ne u hu 2 (by omega) 0 (by omega)).mp z) (by decide)), if_neg (fun z => absurd ((nm_ne u hu 1 (by omega) 0 (by omega)).mp z) (by decide)), if_pos rfl]
          · rw [if_neg (fun z => absurd ((nm_ne u hu 2 (by omega) 1 (by omega)).mp z) (by decide)), if_pos rfl]
          · rw [if_pos rfl]
        by_cases n0 : btP m0 T P = nmP u 0
        · rw [if_pos n0, nameD 0 (by omega) n0, nameM 0 (by omega)]
          exact norm (nameCase hE hP (by omega) n0)
        · rw [if_neg n0]
          by_cases n1 : btP m0 T P = nmP u 1
          · rw [if_pos n1, nameD 1 (by omega) n1, nameM 1 (by omega)]
            exact norm (nameCase hE hP (by omega) n1)
          · rw [if_neg n1]
            by_cases n2 : btP m0 T P = nmP u 2
            · rw [if_pos n2, nameD 2 (by omega) n2, nameM 2 (by omega)]
              exact norm (nameCase hE hP (by omega) n2)
            · rw [if_neg n2]
              have none_ : (if 0 ≤ btP m0 T P then xbind (sX9_nameOf (btP m0 T P) m) (fun r197 s197 => sX9_one_L200 r197 s197) else sX9_one_L200 (-1) m) = some ((), xup m 0 (upd (m 0) 10 1)) := by
                have z : sX9_one_L200 (-1) m = some ((), xup m 0 (upd (m 0) 10 1)) := by
                  unfold sX9_one_L200 sX9_one_L218
                  simp only [xlet_e]
                  rw [m10, if_pos rfl, if_neg (show ¬ (0 : Int32) ≤ -1 by decide), if_pos (Or.inr rfl), xup_s, upd_s, if_neg (by decide)]
                have nv : sX9_nameOf (btP m0 T P) m = some (-1, m) := by
                  rw [nmOf hu m9, if_neg (fun q : nmP u 2 = btP m0 T P => n2 q.symm), if_neg (fun q : nmP u 1 = btP m0 T P => n1 q.symm), if_neg (fun q : nmP u 0 = btP m0 T P => n0 q.symm)]
                rw [nv, xb_s, z]
                split <;> rfl
              rw [none_]
              exact norm ⟨0, c, _, rfl, rfl, Or.inr ⟨rfl, hP.bad⟩⟩
end
