section
variable {c0 m0 : xS} {T u : Nat}
theorem seqR {P C D h : Nat} {fc : Option (Int32 × xS)} {fm : Option (Unit × xS)} (h1 : OkR c0 m0 T u 1 P C D (h + 1) fc fm) {kC : xS → Option (Int32 × xS)} {kM : xS → Option (Unit × xS)}
    (hn : ∀ P' C' c' m', PS c0 m0 T u c' m' P' C' D (h + 1) → OkR c0 m0 T u 0 P' C' D (h + 1) (kC c') (kM m')) (hb : ∀ m', m' 0 10 = 1 → kM m' = some ((), m')) :
    OkR c0 m0 T u 1 P C D (h + 1) (xbind fc (fun r s => if r = 0 then some (0, s) else kC s)) (xbind fm (fun _ s => kM s)) := by
  obtain ⟨r, c', m', e1, e2, h2⟩ := h1
  rw [e1, e2, xb_s, xb_s]
  rcases h2 with ⟨rfl, P', C', q1, q2, q3⟩ | ⟨rfl, h2⟩
  · rw [if_neg (by decide)]
    exact (hn P' C' c' m' q1).mono (by omega) (by omega)
  · rw [if_pos rfl, hb m' h2.1]
    exact ⟨0, c', m', rfl, rfl, Or.inr ⟨rfl, h2⟩⟩
theorem stepOp (hE : EnvP c0 m0 T u) {P C D h : Nat} (hCP : C ≤ P) {fc : Option (Int32 × xS)} {fm : Option (Unit × xS)} (h1 : OkR c0 m0 T u 1 (P + 1) C D (h + 2) fc fm) {w y : Int32} (hw : binW w) (hy : ce w = y) (hw2 : ¬ w < 20000 ∧ ¬ w = 20010) {kC : xS → Option (Int32 × xS)} {kM : xS → Option (Unit × xS)}
    (hn : ∀ P' C' c' m', PS c0 m0 T u c' m' P' C' D (h + 1) → P + 2 ≤ P' → OkR c0 m0 T u 0 P' C' D (h + 1) (kC c') (kM m')) (hb : ∀ m', m' 0 10 = 1 → kM m' = some ((), m')) :
    OkR c0 m0 T u 0 P C D (h + 1) (xbind fc (fun r s => if r = 0 then some (0, s) else xbind (sX4_add 51 y s) (fun _ t => kC t))) (xbind fm (fun _ s => xbind (sX9_codes w s) (fun _ t => kM t))) := by
  obtain ⟨r, c', m', e1, e2, h2⟩ := h1
  rw [e1, e2, xb_s, xb_s]
  rcases h2 with ⟨rfl, P', C', q1, q2, q3⟩ | ⟨rfl, h2⟩
  · obtain ⟨c2, m2, g1, g2, g3⟩ := q1.code hE (by omega) (w := w) (Or.inr (Or.inr (Or.inr ⟨hw, by omega⟩)))
    rw [hy] at g1
    rw [if_neg hw2.1, if_neg hw2.2, show h + 2 - 1 = h + 1 by omega] at g3
    rw [if_neg (by decide), g1, g2, xb_s, xb_s]
    exact (hn P' (C' + 1) c2 m2 g3 (by omega)).mono (by omega) (by omega)
  · rw [if_pos rfl, codes_bad h2.1, xb_s, hb m' h2.1]
    exact ⟨0, c', m', rfl, rfl, Or.inr ⟨rfl, h2⟩⟩
theorem endR {P C D h : Nat} {c m : xS} (hP : PS c0 m0 T u c m P C D h) : OkR c0 m0 T u 0 P C D h (some (1, c)) (some ((), m)) := ⟨1, c, m, rfl, rfl, Or.inl ⟨rfl, P, C, hP, by omega, by omega⟩⟩
/-- the byte at the place, in the class -/
theorem at_byte (hE : EnvP c0 m0 T u) {c m : xS} {P C D h : Nat} (hP : PS c0 m0 T u c m P C D h) : (¬ P < T → (c 49 1 ≤ c 49 3) ∧ btP m0 T P = -1) ∧ (P < T → ¬ (c 49 1 ≤ c 49 3) ∧ xin (c 49 3) 50 ∧ c 50 (c 49 3).toNatClampNeg = btP m0 T P) := by
  obtain ⟨e1, e2, e3, e4, e5⟩ := hE
  obtain ⟨⟨a1, a2, a3, a4⟩, -, ⟨p1, p2⟩, -, f1, f2, f3⟩ := hP
  rw [a1, a3]
  refine ⟨fun q => ⟨nI_le (by omega) (by omega), by unfold btP; rw [if_neg q]⟩, fun q => ⟨nI_ge q (by omega), xin_n (by omega) (by omega), ?_⟩⟩
  rw [nI_N (by omega), f1 50 (by simp), (e5 P (by omega)).1]
  unfold btP
  rw [if_pos q]
noncomputable def tk3 (k : Int32 → xS → Option (Unit × xS)) (m : xS) : Option (Unit × xS) :=
  xbind (sX9_takes 42 m) (fun r s => if r = 0 then xbind (sX9_takes 47 s) (fun r s => if r = 0 then xbind (sX9_takes 37 s) (fun r s => if r = 0 then k 0 s else k 20009 s) else k 20008 s) else k 20007 s)
noncomputable def tk2 (k : Int32 → xS → Option (Unit × xS)) (m : xS) : Option (Unit × xS) :=
  xbind (sX9_takes 43 m) (fun r s => if r = 0 then xbind (sX9_takes 45 s) (fun r s => if r = 0 then k 0 s else k 20006 s) else k 20005 s)
theorem tk3_ev (hE : EnvP c0 m0 T u) {c m : xS} {P C D h : Nat} (hP : PS c0 m0 T u c m P C D h) (k : Int32 → xS → Option (Unit × xS)) : tk3 k m = if btP m0 T P = 42 then k 20007 (advM m) else if btP m0 T P = 47 then k 20008 (advM m) else if btP m0 T P = 37 then k 20009 (advM m) else k 0 m := by
  unfold tk3
  rw [zX9_takes hE hP]
  by_cases q : btP m0 T P = 42
  · rw [if_pos q, if_pos q, xb_s, if_neg (by decide)]
  · rw [if_neg q, if_neg q, xb_s, if_pos rfl, zX9_takes hE hP]
    by_cases q : btP m0 T P = 47
    · rw [if_pos q, if_pos q, xb_s, if_neg (by decide)]
    · rw [if_neg q, if_neg q, xb_s, if_pos rfl, zX9_takes hE hP]
      by_cases q : btP m0 T P = 37
      · rw [if_pos q, if_pos q, xb_s, if_neg (by decide)]
      · rw [if_neg q, if_neg q, xb_s, if_pos rfl]
theorem tk2_ev (hE : EnvP c0 m0 T u) {c m : xS} {P C D h : Nat} (hP : PS c0 m0 T u c m P C D h) (k : Int32 → xS → Option (Unit × xS)) : tk2 k m = if btP m0 T P = 43 then k 20005 (advM m) else if btP m0 T P = 45 then k 20006 (advM m) else k 0 m := by
  unfold tk2
  rw [zX9_takes hE hP]
  by_cases q : btP m0 T P = 43
  · rw [if_pos q, if_pos q, xb_s, if_neg (by decide)]
  · rw [if_neg q, if_neg q, xb_s, if_pos rfl, zX9_takes hE hP]
    by_cases q : btP m0 T P = 45
    · rw [if_pos q, if_pos q, xb_s, if_neg (by decide)]
    · rw [if_neg q, if_neg q, xb_s, if_pos rfl]
theorem tk3_bad {m : xS} (h : m 0 10 = 1) (k : Int32 → xS → Option (Unit × xS)) : tk3 k m = k 0 m := by
  unfold tk3
  rw [show sX9_takes 42 m = some (0, m) from takes_bad h (v := 42) (by omega), xb_s, if_pos rfl, show sX9_takes 47 m = some (0, m) from takes_bad h (v := 47) (by omega), xb_s, if_pos rfl, show sX9_takes 37 m = some (0, m) from takes_bad h (v := 37) (by omega), xb_s, if_pos rfl]
theorem tk2_bad {m : xS} (h : m 0 10 = 1) (k : Int32 → xS → Option (Unit × xS)) : tk2 k m = k 0 m := by
  unfold tk2
  rw [show sX9_takes 43 m = some (0, m) from takes_bad h (v := 43) (by omega), xb_s, if_pos rfl, show sX9_takes 45 m = some (0, m) from takes_bad h (v := 45) (by omega), xb_s, if_pos rfl]
theorem bin_tab : (binW 20000 ∧ ce 20000 = -124) ∧ (binW 20001 ∧ ce 20001 = -38) ∧ (binW 20002 ∧ ce 20002 = -60) ∧ (binW 20003 ∧ ce 20003 = -61) ∧ (binW 20004 ∧ ce 20004 = -62) ∧ (binW 20005 ∧ ce 20005 = -43) ∧ (binW 20006 ∧ ce 20006 = -45) ∧ (binW 20007 ∧ ce 20007 = -42) ∧ (binW 20008 ∧ ce 20008 = -47) ∧ (binW 20009 ∧ ce 20009 = -37) := by
  unfold binW
  refine ⟨⟨by decide, by decide⟩, ⟨by decide, by decide⟩, ⟨by decide, by decide⟩, ⟨by decide, by decide⟩, ⟨by decide, by decide⟩, ⟨by decide, by decide⟩, ⟨by decide, by decide⟩, ⟨by decide, by decide⟩, ⟨by decide, by decide⟩, ⟨by decide, by decide⟩⟩
def HSub (c0 m0 : xS) (T u p : Nat) (fC : xS → Option (Int32 × xS)) (fM : xS → Option (Unit × xS)) : Prop := ∀ P C h c m, PS c0 m0 T u c m P C p h → OkR c0 m0 T u 1 P C p (h + 1) (fC c) (fM m)
theorem prodL (hE : EnvP c0 m0 T u) {p : Nat} {rcC : Int32 → Int32 → xS → Option (Int32 × xS)} {rcM : xS → Option (Unit × xS)} (hS : HSub c0 m0 T u p (sX5_readSingle rcC (nI p)) rcM) {h : Nat} :
    ∀ (r n1 n2 P C : Nat) (c m : xS), T < P + r → r < n1 → r < n2 → PS c0 m0 T u c m P C p (h + 1) → OkR c0 m0 T u 0 P C p (h + 1) (xloop (sX5_readProduct_L10 (nI p) rcC) n1 () c) (tk3 (xloop (sX9_product_L51 rcM) n2) m) := by
  intro r
  induction r with
  | zero => intro n1 n2 P C c m hT _ _ hP; exact absurd hP.2.2.1.1 (by omega)
  | succ r ih =>
    intro n1 n2 P C c m hT hn1 hn2 hP
    obtain ⟨n1, rfl⟩ : ∃ z, n1 = z + 1 := ⟨n1 - 1, by omega⟩
    obtain ⟨n2, rfl⟩ : ∃ z, n2 = z + 1 := ⟨n2 - 1, by omega⟩
    obtain ⟨b1, b2⟩ := at_byte hE hP
    have stop : ∀ n m', 0 < n → xloop (sX9_product_L51 rcM) n 0 m' = some ((), m') := by
      intro n m' hn
      obtain ⟨n, rfl⟩ : ∃ z, n = z + 1 := ⟨n - 1, by omega⟩
      rw [xloop_s]
      simp only [sX9_product_L51]
      rw [if_pos (by decide)]
    have hi := fun P' C' c' m' => ih n1 n2 P' C' c' m'
    have op : ∀ (w y : Int32), P < T → binW w → ce w = -y → (¬ w ≤ 0 ∧ ¬ w < 20000 ∧ ¬ w = 20010) → c 50 (c 49 3).toNatClampNeg = y → OkR c0 m0 T u 0 P C p (h + 1) (sX5_readProduct_L63 (nI p) rcC (xloop (sX5_readProduct_L10 (nI p) rcC) n1) c) (xloop (sX9_product_L51 rcM) (n2 + 1) w (advM m)) := by
      intro w y hPT hw hy hw2 hb
      obtain ⟨q1, q2, q3⟩ := b2 hPT
      rw [xloop_s]
      unfold sX5_readProduct_L63
      simp only [sX9_product_L51, xlet_e]
      rw [if_pos q2, hb, if_neg hw2.1]
      exact stepOp hE hP.2.2.1.2 (hS _ _ _ _ _ (hP.adv hPT)) hw hy hw2.2 (kM := fun t => tk3 (xloop (sX9_product_L51 rcM) n2) t) (fun P' C' c' m' g1 g2 => hi P' C' c' m' (by omega) (by omega) (by omega) g1) (fun m' hm => by rw [tk3_bad hm]; exact stop n2 m' (by omega))
    rw [tk3_ev hE hP, xloop_s]
    simp only [sX5_readProduct_L10]
    by_cases hPT : P < T
    · obtain ⟨q1, q2, q3⟩ := b2 hPT
      rw [if_neg q1, if_pos q2, if_pos q2, if_pos q2, q3]
      by_cases k1 : btP m0 T P = 42
      · rw [if_pos k1, if_pos k1]
        exact op 20007 42 hPT bin_tab.2.2.2.2.2.2.2.1.1 bin_tab.2.2.2.2.2.2.2.1.2 (by decide) (by rw [q3, k1])
      · rw [if_neg k1, if_neg k1]
        by_cases k2 : btP m0 T P = 47
        · rw [if_pos k2, if_pos k2]
          exact op 20008 47 hPT bin_tab.2.2.2.2.2.2.2.2.1.1 bin_tab.2.2.2.2.2.2.2.2.1.2 (by decide) (by rw [q3, k2])
        · rw [if_neg k2, if_neg k2]
          by_cases k3 : btP m0 T P = 37
          · rw [if_pos k3, if_pos k3]
            exact op 20009 37 hPT bin_tab.2.2.2.2.2.2.2.2.2.1 bin_tab.2.2.2.2.2.2.2.2.2.2 (by decide) (by rw [q3, k3])
          · rw [if_neg k3, if_neg k3, stop (n2 + 1) m (by omega)]
            exact endR hP
    · obtain ⟨q1, q2⟩ := b1 hPT
      rw [if_pos q1, q2, if_neg (by decide), if_neg (by decide), if_neg (by decide), stop (n2 + 1) m (by omega)]
      exact endR hP
theorem prodR (hE : EnvP c0 m0 T u) {p : Nat} {rcC : Int32 → Int32 → xS → Option (Int32 × xS)} {rcM : xS → Option (Unit × xS)} (hS : HSub c0 m0 T u p (sX5_readSingle rcC (nI p)) rcM) : HSub c0 m0 T u p (sX5_readProduct rcC (nI p)) (sX9_product rcM) := by
  intro P C h c m hP
  have hT := hE.1
  unfold sX5_readProduct
  show OkR c0 m0 T u 1 P C p (h + 1) _ (xbind (rcM m) (fun _ s => tk3 (xloop (sX9_product_L51 rcM) xF) s))
  refine seqR (hS P C h c m hP) (fun P' C' c' m' g => prodL hE hS (T + 1) xF xF P' C' c' m' (by omega) (by rw [xF_eq]; omega) (by rw [xF_eq]; omega) g) (fun m' hm => ?_)
  obtain ⟨n, hn⟩ : ∃ n, xF = n + 1 := ⟨xF - 1, by rw [xF_eq]⟩
  rw [tk3_bad hm, hn, xloop_s]
  simp only [sX9_product_L51]
  rw [if_pos (by decide)]
theorem sumL (hE : EnvP c0 m0 T u) {p : Nat} {rcC : Int32 → Int32 → xS → Option (Int32 × xS)} {rcM : xS → Option (Unit × xS)} (hS : HSub c0 m0 T u p (sX5_readProduct rcC (nI p)) (sX9_product rcM)) {h : Nat} :
    ∀ (r n1 n2 P C : Nat) (c m : xS), T < P + r → r < n1 → r < n2 → PS c0 m0 T u c m P C p (h + 1) → OkR c0 m0 T u 0 P C p (h + 1) (xloop (sX5_readSum_L10 (nI p) rcC) n1 () c) (tk2 (xloop (sX9_sum_L36 rcM) n2) m) := by
  intro r
  induction r with
  | zero => intro n1 n2 P C c m hT _ _ hP; exact absurd hP.2.2.1.1 (by omega)
  | succ r ih =>
    intro n1 n2 P C c m hT hn1 hn2 hP
    obtain ⟨n1, rfl⟩ : ∃ z, n1 = z + 1 := ⟨n1 - 1, by omega⟩
    obtain ⟨n2, rfl⟩ : ∃ z, n2 = z + 1 := ⟨n2 - 1, by omega⟩
    obtain ⟨b1, b2⟩ := at_byte hE hP
    have stop : ∀ n m', 0 < n → xloop (sX9_sum_L36 rcM) n 0 m' = some ((), m') := by
      intro n m' hn
      obtain ⟨n, rfl⟩ : ∃ z, n = z + 1 := ⟨n - 1, by omega⟩
      rw [xloop_s]
      simp only [sX9_sum_L36]
      rw [if_pos (by decide)]
    have hi := fun P' C' c' m' => ih n1 n2 P' C' c' m'
    have op : ∀ (w y : Int32), P < T → binW w → ce w = -y → (¬ w ≤ 0 ∧ ¬ w < 20000 ∧ ¬ w = 20010) → c 50 (c 49 3).toNatClampNeg = y → OkR c0 m0 T u 0 P C p (h + 1) (sX5_readSum_L49 (nI p) rcC (xloop (sX5_readSum_L10 (nI p) rcC) n1) c) (xloop (sX9_sum_L36 rcM) (n2 + 1) w (advM m)) := by
      intro w y hPT hw hy hw2 hb
      obtain ⟨q1, q2, q3⟩ := b2 hPT
      rw [xloop_s]
      unfold sX5_readSum_L49
      simp only [sX9_sum_L36, xlet_e]
      rw [if_pos q2, hb, if_neg hw2.1]
      exact stepOp hE hP.2.2.1.2 (hS _ _ _ _ _ (hP.adv hPT)) hw hy hw2.2 (kM := fun t => tk2 (xloop (sX9_sum_L36 rcM) n2) t) (fun P' C' c' m' g1 g2 => hi P' C' c' m' (by omega) (by omega) (by omega) g1) (fun m' hm => by rw [tk2_bad hm]; exact stop n2 m' (by omega))
    rw [tk2_ev hE hP, xloop_s]
    simp only [sX5_readSum_L10]
    by_cases hPT : P < T
    · obtain ⟨q1, q2, q3⟩ := b2 hPT
      rw [if_neg q1, if_pos q2, if_pos q2, q3]
      by_cases k1 : btP m0 T P = 43
      · rw [if_pos k1, if_pos k1]
        exact op 20005 43 hPT bin_tab.2.2.2.2.2.1.1 bin_tab.2.2.2.2.2.1.2 (by decide) (by rw [q3, k1])
      · rw [if_neg k1, if_neg k1]
        by_cases k2 : btP m0 T P = 45
        · rw [if_pos k2, if_pos k2]
          exact op 20006 45 hPT bin_tab.2.2.2.2.2.2.1.1 bin_tab.2.2.2.2.2.2.1.2 (by decide) (by rw [q3, k2])
        · rw [if_neg k2, if_neg k2, stop (n2 + 1) m (by omega)]
          exact endR hP
    · obtain ⟨q1, q2⟩ := b1 hPT
      rw [if_pos q1, q2, if_neg (by decide), if_neg (by decide), stop (n2 + 1) m (by omega)]
      exact endR hP
theorem sumR (hE : EnvP c0 m0 T u) {p : Nat} {rcC : Int32 → Int32 → xS → Option (Int32 × xS)} {rcM : xS → Option (Unit × xS)} (hS : HSub c0 m0 T u p (sX5_readProduct rcC (nI p)) (sX9_product rcM)) : HSub c0 m0 T u p (sX5_readSum rcC (nI p)) (sX9_sum rcM) := by
  intro P C h c m hP
  have hT := hE.1
  unfold sX5_readSum
  show OkR c0 m0 T u 1 P C p (h + 1) _ (xbind (sX9_product rcM m) (fun _ s => tk2 (xloop (sX9_sum_L36 rcM) xF) s))
  refine seqR (hS P C h c m hP) (fun P' C' c' m' g => sumL hE hS (T + 1) xF xF P' C' c' m' (by omega) (by rw [xF_eq]; omega) (by rw [xF_eq]; omega) g) (fun m' hm => ?_)
  obtain ⟨n, hn⟩ : ∃ n, xF = n + 1 := ⟨xF - 1, by rw [xF_eq]⟩
  rw [tk2_bad hm, hn, xloop_s]
  simp only [sX9_sum_L36]
  rw [if_pos (by decide)]
end
