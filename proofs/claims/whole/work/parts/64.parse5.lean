section
variable {c0 m0 : xS} {T u : Nat}
noncomputable def tkc (k : Int32 → xS → Option (Unit × xS)) (m : xS) : Option (Unit × xS) :=
  xbind (sX9_takes 60 m) (fun r s => if r = 0 then xbind (sX9_takes 61 s) (fun r s => if r = 0 then xbind (sX9_takes 62 s) (fun r s => if r = 0 then k 0 s else k 20004 s) else k 20003 s) else k 20002 s)
theorem tkc_ev (hE : EnvP c0 m0 T u) {c m : xS} {P C D h : Nat} (hP : PS c0 m0 T u c m P C D h) (k : Int32 → xS → Option (Unit × xS)) : tkc k m = if btP m0 T P = 60 then k 20002 (advM m) else if btP m0 T P = 61 then k 20003 (advM m) else if btP m0 T P = 62 then k 20004 (advM m) else k 0 m := by
  unfold tkc
  rw [zX9_takes hE hP]
  by_cases q : btP m0 T P = 60
  · rw [if_pos q, if_pos q, xb_s, if_neg (by decide)]
  · rw [if_neg q, if_neg q, xb_s, if_pos rfl, zX9_takes hE hP]
    by_cases q : btP m0 T P = 61
    · rw [if_pos q, if_pos q, xb_s, if_neg (by decide)]
    · rw [if_neg q, if_neg q, xb_s, if_pos rfl, zX9_takes hE hP]
      by_cases q : btP m0 T P = 62
      · rw [if_pos q, if_pos q, xb_s, if_neg (by decide)]
      · rw [if_neg q, if_neg q, xb_s, if_pos rfl]
theorem tkc_bad {m : xS} (h : m 0 10 = 1) (k : Int32 → xS → Option (Unit × xS)) : tkc k m = k 0 m := by
  unfold tkc
  rw [show sX9_takes 60 m = some (0, m) from takes_bad h (v := 60) (by omega), xb_s, if_pos rfl, show sX9_takes 61 m = some (0, m) from takes_bad h (v := 61) (by omega), xb_s, if_pos rfl, show sX9_takes 62 m = some (0, m) from takes_bad h (v := 62) (by omega), xb_s, if_pos rfl]
theorem cmpR (hE : EnvP c0 m0 T u) {p : Nat} {rcC : Int32 → Int32 → xS → Option (Int32 × xS)} {rcM : xS → Option (Unit × xS)} (hS : HSub c0 m0 T u p (sX5_readSum rcC (nI p)) (sX9_sum rcM)) : HSub c0 m0 T u p (sX5_readCompared rcC (nI p)) (sX9_compared rcM) := by
  intro P C h c m hP
  unfold sX5_readCompared
  show OkR c0 m0 T u 1 P C p (h + 1) _ (xbind (sX9_sum rcM m) (fun _ s => tkc (sX9_compared_L50 rcM) s))
  have stop : ∀ m', sX9_compared_L50 rcM 0 m' = some ((), m') := by
    intro m'
    unfold sX9_compared_L50
    rw [if_pos (by decide)]
  refine seqR (hS P C h c m hP) (fun P' C' c' m' g => ?_) (fun m' hm => by rw [tkc_bad hm]; exact stop m')
  have op : ∀ (w y : Int32) (v : Nat), v < 2147483648 → btP m0 T P' = nI v → nI v = y → binW w → ce w = -y → (¬ w ≤ 0 ∧ ¬ w < 20000 ∧ ¬ w = 20010) → OkR c0 m0 T u 0 P' C' p (h + 1) (sX5_readCompared_L35 (nI p) rcC y c') (sX9_compared_L50 rcM w (advM m')) := by
    intro w y v hv hb1 hb2 hw hy hw2
    have hPT : P' < T := bt_in hE hv hb1
    unfold sX5_readCompared_L35 sX9_compared_L50
    simp only [xlet_e]
    rw [if_neg hw2.1]
    exact stepOp hE g.2.2.1.2 (hS _ _ _ _ _ (g.adv hPT)) hw hy hw2.2 (kC := fun t => some (1, t)) (kM := fun t => some ((), t)) (fun P1 C1 c1 m1 q1 _ => endR q1) (fun m' _ => rfl)
  rw [zX5_upcoming hE g, xb_s, tkc_ev hE g]
  by_cases k1 : btP m0 T P' = 60
  · rw [if_pos k1, if_pos k1, k1]
    exact op 20002 60 60 (by omega) k1 rfl bin_tab.2.2.1.1 bin_tab.2.2.1.2 (by decide)
  · rw [if_neg k1, if_neg k1]
    by_cases k2 : btP m0 T P' = 61
    · rw [if_pos k2, if_pos k2, k2]
      exact op 20003 61 61 (by omega) k2 rfl bin_tab.2.2.2.1.1 bin_tab.2.2.2.1.2 (by decide)
    · rw [if_neg k2, if_neg k2]
      by_cases k3 : btP m0 T P' = 62
      · rw [if_pos k3, if_pos k3, k3]
        exact op 20004 62 62 (by omega) k3 rfl bin_tab.2.2.2.2.1.1 bin_tab.2.2.2.2.1.2 (by decide)
      · rw [if_neg k3, if_neg k3, stop]
        exact endR g
theorem bothL (hE : EnvP c0 m0 T u) {p : Nat} {rcC : Int32 → Int32 → xS → Option (Int32 × xS)} {rcM : xS → Option (Unit × xS)} (hS : HSub c0 m0 T u p (sX5_readCompared rcC (nI p)) (sX9_compared rcM)) {h : Nat} :
    ∀ (r n1 n2 P C : Nat) (c m : xS), T < P + r → r < n1 → r < n2 → PS c0 m0 T u c m P C p (h + 1) → OkR c0 m0 T u 0 P C p (h + 1) (xloop (sX5_readBoth_L10 (nI p) rcC) n1 () c) (xloop (sX9_both_L4 rcM) n2 () m) := by
  intro r
  induction r with
  | zero => intro n1 n2 P C c m hT _ _ hP; exact absurd hP.2.2.1.1 (by omega)
  | succ r ih =>
    intro n1 n2 P C c m hT hn1 hn2 hP
    obtain ⟨n1, rfl⟩ : ∃ z, n1 = z + 1 := ⟨n1 - 1, by omega⟩
    obtain ⟨n2, rfl⟩ : ∃ z, n2 = z + 1 := ⟨n2 - 1, by omega⟩
    obtain ⟨b1, b2⟩ := at_byte hE hP
    have hi := fun P' C' c' m' => ih n1 n2 P' C' c' m'
    have bad : ∀ m', m' 0 10 = 1 → xloop (sX9_both_L4 rcM) n2 () m' = some ((), m') := by
      intro m' hm
      obtain ⟨n2, rfl⟩ : ∃ z, n2 = z + 1 := ⟨n2 - 1, by omega⟩
      rw [xloop_s]
      simp only [sX9_both_L4]
      rw [show sX9_takes 38 m' = some (0, m') from takes_bad hm (v := 38) (by omega), xb_s, if_pos rfl]
    rw [xloop_s, xloop_s]
    generalize xloop (sX5_readBoth_L10 (nI p) rcC) n1 = self1 at hi ⊢
    generalize xloop (sX9_both_L4 rcM) n2 = self2 at hi bad ⊢
    simp only [sX5_readBoth_L10, sX9_both_L4, xlet_e]
    rw [zX9_takes hE hP]
    by_cases hPT : P < T
    · obtain ⟨q1, q2, q3⟩ := b2 hPT
      rw [if_neg q1, if_pos q2, q3]
      by_cases k1 : btP m0 T P = 38
      · rw [if_pos k1, if_pos k1, xb_s, if_neg (by decide)]
        exact stepOp hE hP.2.2.1.2 (hS _ _ _ _ _ (hP.adv hPT)) bin_tab.2.1.1 bin_tab.2.1.2 (by decide) (kC := fun t => self1 () t) (kM := fun t => self2 () t) (fun P' C' c' m' g1 g2 => hi P' C' c' m' (by omega) (by omega) (by omega) g1) bad
      · rw [if_neg k1, if_neg k1, xb_s, if_pos rfl]
        exact endR hP
    · obtain ⟨q1, q2⟩ := b1 hPT
      rw [if_pos q1, q2, if_neg (by decide), xb_s, if_pos rfl]
      exact endR hP
theorem bothR (hE : EnvP c0 m0 T u) {p : Nat} {rcC : Int32 → Int32 → xS → Option (Int32 × xS)} {rcM : xS → Option (Unit × xS)} (hS : HSub c0 m0 T u p (sX5_readCompared rcC (nI p)) (sX9_compared rcM)) : HSub c0 m0 T u p (sX5_readBoth rcC (nI p)) (sX9_both rcM) := by
  intro P C h c m hP
  have hT := hE.1
  unfold sX5_readBoth sX9_both
  refine seqR (hS P C h c m hP) (fun P' C' c' m' g => bothL hE hS (T + 1) xF xF P' C' c' m' (by omega) (by rw [xF_eq]; omega) (by rw [xF_eq]; omega) g) (fun m' hm => ?_)
  obtain ⟨n, hn⟩ : ∃ n, xF = n + 1 := ⟨xF - 1, by rw [xF_eq]⟩
  rw [hn, xloop_s]
  simp only [sX9_both_L4]
  rw [show sX9_takes 38 m' = some (0, m') from takes_bad hm (v := 38) (by omega), xb_s, if_pos rfl]
theorem eithL (hE : EnvP c0 m0 T u) {p : Nat} {rcC : Int32 → Int32 → xS → Option (Int32 × xS)} {rcM : xS → Option (Unit × xS)} (hS : HSub c0 m0 T u p (sX5_readBoth rcC (nI p)) (sX9_both rcM)) {h : Nat} :
    ∀ (r n1 n2 P C : Nat) (c m : xS), T < P + r → r < n1 → r < n2 → PS c0 m0 T u c m P C p (h + 1) → OkR c0 m0 T u 0 P C p (h + 1) (xloop (sX5_readEither_L10 (nI p) rcC) n1 () c) (xloop (sX9_either_L4 rcM) n2 () m) := by
  intro r
  induction r with
  | zero => intro n1 n2 P C c m hT _ _ hP; exact absurd hP.2.2.1.1 (by omega)
  | succ r ih =>
    intro n1 n2 P C c m hT hn1 hn2 hP
    obtain ⟨n1, rfl⟩ : ∃ z, n1 = z + 1 := ⟨n1 - 1, by omega⟩
    obtain ⟨n2, rfl⟩ : ∃ z, n2 = z + 1 := ⟨n2 - 1, by omega⟩
    obtain ⟨b1, b2⟩ := at_byte hE hP
    have hi := fun P' C' c' m' => ih n1 n2 P' C' c' m'
    have bad : ∀ m', m' 0 10 = 1 → xloop (sX9_either_L4 rcM) n2 () m' = some ((), m') := by
      intro m' hm
      obtain ⟨n2, rfl⟩ : ∃ z, n2 = z + 1 := ⟨n2 - 1, by omega⟩
      rw [xloop_s]
      simp only [sX9_either_L4]
      rw [show sX9_takes 124 m' = some (0, m') from takes_bad hm (v := 124) (by omega), xb_s, if_pos rfl]
    rw [xloop_s, xloop_s]
    generalize xloop (sX5_readEither_L10 (nI p) rcC) n1 = self1 at hi ⊢
    generalize xloop (sX9_either_L4 rcM) n2 = self2 at hi bad ⊢
    simp only [sX5_readEither_L10, sX9_either_L4, xlet_e]
    rw [zX9_takes hE hP]
    by_cases hPT : P < T
    · obtain ⟨q1, q2, q3⟩ := b2 hPT
      rw [if_neg q1, if_pos q2, q3]
      by_cases k1 : btP m0 T P = 124
      · rw [if_pos k1, if_pos k1, xb_s, if_neg (by decide)]
        exact stepOp hE hP.2.2.1.2 (hS _ _ _ _ _ (hP.adv hPT)) bin_tab.1.1 bin_tab.1.2 (by decide) (kC := fun t => self1 () t) (kM := fun t => self2 () t) (fun P' C' c' m' g1 g2 => hi P' C' c' m' (by omega) (by omega) (by omega) g1) bad
      · rw [if_neg k1, if_neg k1, xb_s, if_pos rfl]
        exact endR hP
    · obtain ⟨q1, q2⟩ := b1 hPT
      rw [if_pos q1, q2, if_neg (by decide), xb_s, if_pos rfl]
      exact endR hP
theorem eithR (hE : EnvP c0 m0 T u) {p : Nat} {rcC : Int32 → Int32 → xS → Option (Int32 × xS)} {rcM : xS → Option (Unit × xS)} (hS : HSub c0 m0 T u p (sX5_readBoth rcC (nI p)) (sX9_both rcM)) : HSub c0 m0 T u p (sX5_readEither rcC (nI p)) (sX9_either rcM) := by
  intro P C h c m hP
  have hT := hE.1
  unfold sX5_readEither sX9_either
  refine seqR (hS P C h c m hP) (fun P' C' c' m' g => eithL hE hS (T + 1) xF xF P' C' c' m' (by omega) (by rw [xF_eq]; omega) (by rw [xF_eq]; omega) g) (fun m' hm => ?_)
  obtain ⟨n, hn⟩ : ∃ n, xF = n + 1 := ⟨xF - 1, by rw [xF_eq]⟩
  rw [hn, xloop_s]
  simp only [sX9_either_L4]
  rw [show sX9_takes 124 m' = some (0, m') from takes_bad hm (v := 124) (by omega), xb_s, if_pos rfl]
theorem PS.deep {c m : xS} {P C D h : Nat} (hP : PS c0 m0 T u c m P C D h) {D' : Nat} {x : Int32} (hx : x = nI D') : PS c0 m0 T u c (xup m 0 (upd (m 0) 8 x)) P C D' h := by
  obtain ⟨a, ⟨b1, b2, b3, b4⟩, p, ⟨g1, g2, g3⟩, f1, f2, f3⟩ := hP
  refine ⟨a, ⟨by rw [xup_s, upd_n _ _ (by decide)]; exact b1, by rw [xup_s, upd_s, hx], by rw [xup_s, upd_n _ _ (by decide)]; exact b3, by rw [xup_s, upd_n _ _ (by decide)]; exact b4⟩, p, ⟨fun j hj => by rw [xup_n _ _ (by decide)]; exact g1 j hj, by rw [xup_n _ _ (by decide)]; exact g2, by rw [xup_n _ _ (by decide)]; exact g3⟩, f1, f2.up _ (by simp), fun q q1 q2 q3 q4 => by rw [xup_s, upd_n _ _ q2]; exact f3 q q1 q2 q3 q4⟩
theorem BadP.set {c m : xS} (hB : BadP c0 m0 T c m) {q : Nat} {x : Int32} (hq : q = 8 ∨ (q = 10 ∧ x = 1)) : BadP c0 m0 T c (xup m 0 (upd (m 0) q x)) := by
  obtain ⟨b1, ⟨Q, q1, q2, q3⟩, f1, f2, f3⟩ := hB
  refine ⟨?_, ⟨Q, q1, q2, by rw [xup_s, upd_n _ _ (by omega)]; exact q3⟩, f1, f2.up _ (by simp), fun j a b d e => by rw [xup_s, upd_n _ _ (by omega)]; exact f3 j a b d e⟩
  rcases hq with rfl | ⟨rfl, rfl⟩
  · rw [xup_s, upd_n _ _ (by decide)]; exact b1
  · rw [xup_s, upd_s]
theorem openR (hE : EnvP c0 m0 T u) {p : Nat} (hp : p < 5) {rcC : Int32 → Int32 → xS → Option (Int32 × xS)} {rcM : xS → Option (Unit × xS)} (hS : HSub c0 m0 T u (p + 1) (sX5_readSingle rcC (nI (p + 1))) rcM) {c m : xS} {P C h : Nat} (hP : PS c0 m0 T u c m P C p h) {b : Int32} (hb : b = 33 ∨ b = 40) (hb2 : btP m0 T P = b) : OkR c0 m0 T u 1 P C p (h + 1) (sX5_readOpened_body rcC b (nI p + 1) c) (mOpen rcM b m) := by
  have hPT : P < T := by
    rcases hb with rfl | rfl
    · exact bt_in hE (v := 33) (by omega) hb2
    · exact bt_in hE (v := 40) (by omega) hb2
  have m8 := hP.2.1.2.1
  have hP1 := (hP.deep (D' := p + 1) (x := m 0 8 + 1) (by rw [m8, nI_s])).adv hPT
  unfold sX5_readOpened_body mOpen
  simp only [xlet_e]
  rw [nI_s]
  rcases hb with rfl | rfl
  · rw [if_pos rfl, if_pos rfl]
    obtain ⟨r, c', m', e1, e2, h2⟩ := hS _ _ _ _ _ hP1
    have e1 : sX5_readSingle rcC (nI (p + 1)) (xup c 49 (upd (c 49) 3 (c 49 3 + 1))) = some (r, c') := e1
    rw [e1, e2, xb_s, xb_s]
    rcases h2 with ⟨rfl, P', C', q1, q2, q3⟩ | ⟨rfl, h2⟩
    · obtain ⟨c2, m2, g1, g2, g3⟩ := q1.code hE (by have := hP.2.2.1.2; omega) (w := 20010) (Or.inr (Or.inr (Or.inl ⟨rfl, by omega⟩)))
      rw [if_neg (show ¬ (20010 : Int32) < 20000 by decide), if_pos rfl] at g3
      have g1 : sX4_add 51 (-33) c' = some ((), c2) := g1
      rw [if_neg (by decide), g1, g2, xb_s, xb_s]
      unfold sX9_one_L103
      simp only [xlet_e]
      exact ⟨1, c2, _, rfl, rfl, Or.inl ⟨rfl, P', C' + 1, g3.deep (by rw [g3.2.1.2.1, nI_pm]), by omega, by omega⟩⟩
    · rw [if_pos rfl, codes_bad h2.1, xb_s]
      unfold sX9_one_L103
      simp only [xlet_e]
      exact ⟨0, c', _, rfl, rfl, Or.inr ⟨rfl, h2.set (Or.inl rfl)⟩⟩
  · rw [if_neg (by decide), if_neg (by decide)]
    have hI := eithR hE (bothR hE (cmpR hE (sumR hE (prodR hE hS))))
    obtain ⟨r, c', m', e1, e2, h2⟩ := hI _ _ _ _ _ hP1
    have e1 : sX5_readEither rcC (nI (p + 1)) (xup c 49 (upd (c 49) 3 (c 49 3 + 1))) = some (r, c') := e1
    rw [e1, e2, xb_s, xb_s]
    unfold sX9_one_L100 sX9_one_L103
    simp only [xlet_e]
    rcases h2 with ⟨rfl, P', C', q1, q2, q3⟩ | ⟨rfl, h2⟩
    · rw [if_neg (by decide), zX5_upcoming hE q1, xb_s, zX9_takes hE q1]
      by_cases k : btP m0 T P' = 41
      · have hPT2 : P' < T := bt_in hE (v := 41) (by omega) k
        have q5 := q1.adv hPT2
        have e10 : advM m' 0 10 = 0 := q5.2.1.2.2.1
        have e0 : xup (advM m') 0 (upd (advM m' 0) 10 0) = advM m' := by have := same0 (advM m') 10; rw [e10] at this; exact this
        rw [if_pos k, if_pos k, xb_s, show (if (1 : Int32) = 0 then (1 : Int32) else 0) = 0 from rfl, if_pos (Or.inl rfl), e0]
        exact ⟨1, advC c', _, rfl, rfl, Or.inl ⟨rfl, P' + 1, C', q5.deep (by rw [q5.2.1.2.1, nI_pm]), by omega, by omega⟩⟩
      · rw [if_neg k, if_neg k, xb_s, show (if (0 : Int32) = 0 then (1 : Int32) else 0) = 1 from rfl, if_pos (Or.inr rfl)]
        exact ⟨0, c', _, rfl, rfl, Or.inr ⟨rfl, q1.bad.set (Or.inl rfl)⟩⟩
    · rw [if_pos rfl, show sX9_takes 41 m' = some (0, m') from takes_bad h2.1 (v := 41) (by omega), xb_s, show (if (0 : Int32) = 0 then (1 : Int32) else 0) = 1 from rfl, if_pos (Or.inr rfl)]
      exact ⟨0, c', _, rfl, rfl, Or.inr ⟨rfl, (h2.set (Or.inr ⟨rfl, rfl⟩)).set (Or.inl rfl)⟩⟩
theorem singleAll (hE : EnvP c0 m0 T u) : ∀ (k p dc dm : Nat), p + k = 5 → k ≤ dc → k ≤ dm → HSub c0 m0 T u p (sX5_readSingle (sX5_readOpened dc) (nI p)) (sX9_one (dm + 1)) := by
  intro k
  induction k with
  | zero =>
    intro p dc dm hp _ _ P C h c m hP
    exact singleR hE (by omega) hP (fun q => absurd q (by omega))
  | succ k ih =>
    intro p dc dm hp hdc hdm P C h c m hP
    obtain ⟨dc, rfl⟩ : ∃ z, dc = z + 1 := ⟨dc - 1, by omega⟩
    obtain ⟨dm, rfl⟩ : ∃ z, dm = z + 1 := ⟨dm - 1, by omega⟩
    have h1 := ih (p + 1) dc dm (by omega) (by omega) (by omega)
    exact singleR hE (by omega) hP (fun q b hb hb2 => openR hE q h1 hP hb hb2)
theorem parseR (hE : EnvP c0 m0 T u) : HSub c0 m0 T u 0 (sX5_readEither (sX5_readOpened 8) 0) (sX9_either (sX9_one 8)) :=
  eithR hE (bothR hE (cmpR hE (sumR hE (prodR hE (singleAll hE 5 0 8 7 rfl (by omega) (by omega))))))
end
