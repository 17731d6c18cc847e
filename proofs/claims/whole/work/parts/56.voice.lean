/-! ===== VOICE ===== -/
def pushC (c : xS) (b : Int32) : xS := if 40 ≤ c 54 0 then c else xup (xup c 55 (upd (c 55) (c 54 0).toNatClampNeg b)) 54 (upd (c 54) 0 (c 54 0 + 1))
def pushesC (c : xS) : List Int32 → xS
  | [] => c
  | b :: l => pushesC (pushC c b) l
def ranM (m : xS) (b : Int32) : xS := if 40 ≤ m 0 16 then m else xup (xup m 10 (upd (m 10) (m 0 16).toNatClampNeg b)) 0 (upd (m 0) 16 (m 0 16 + 1))
def ransM (m : xS) : List Int32 → xS
  | [] => m
  | b :: l => ransM (ranM m b) l
theorem pushesC_app (c : xS) (a b : List Int32) : pushesC c (a ++ b) = pushesC (pushesC c a) b := by
  induction a generalizing c with
  | nil => rfl
  | cons x a ih => exact ih _
theorem ransM_app (c : xS) (a b : List Int32) : ransM c (a ++ b) = ransM (ransM c a) b := by
  induction a generalizing c with
  | nil => rfl
  | cons x a ih => exact ih _
def TrK (K : Nat) (n w : Int32) (c : xS) : Prop := c 54 2 = nI K ∧ c 54 3 = n ∧ c 54 4 = w ∧ (0 ≤ (c 54 0).toInt ∧ (c 54 0).toInt ≤ 40)
def TrM (K : Nat) (n w : Int32) (m : xS) : Prop := m 0 17 = nI K ∧ m 0 18 = n ∧ m 0 19 = w ∧ (0 ≤ (m 0 16).toInt ∧ (m 0 16).toInt ≤ 40)
theorem n40 {x : Int32} (h : 0 ≤ x.toInt ∧ x.toInt ≤ 40) : (¬ (40 : Int32) ≤ x ↔ x.toInt < 40) ∧ (x = 40 ↔ ¬ x.toInt < 40) ∧ (x.toInt < 40 → (x + 1).toInt = x.toInt + 1) := by
  have e : (40 : Int32).toInt = 40 := rfl
  refine ⟨by rw [i_le, e]; omega, by rw [i_eq, e]; omega, fun q => ?_⟩
  rw [i_add (by show _ ≤ x.toInt + 1; omega) (by show x.toInt + 1 ≤ _; omega)]
  rfl
theorem TrK.push {K : Nat} {n w : Int32} {c : xS} (h : TrK K n w c) (b : Int32) : TrK K n w (pushC c b) := by
  obtain ⟨h1, h2, h3, h4⟩ := h
  unfold pushC
  by_cases q : (40 : Int32) ≤ c 54 0
  · rw [if_pos q]; exact ⟨h1, h2, h3, h4⟩
  · rw [if_neg q]
    have q2 := (n40 h4).1.mp q
    refine ⟨by rw [xup_s, upd_n _ _ (by decide)]; exact h1, by rw [xup_s, upd_n _ _ (by decide)]; exact h2, by rw [xup_s, upd_n _ _ (by decide)]; exact h3, ?_⟩
    rw [xup_s, upd_s, (n40 h4).2.2 q2]; omega
theorem TrK.pushes {K : Nat} {n w : Int32} (l : List Int32) : ∀ {c : xS}, TrK K n w c → TrK K n w (pushesC c l) := by
  induction l with
  | nil => intro c h; exact h
  | cons b l ih => intro c h; exact ih (h.push b)
theorem TrM.ran {K : Nat} {n w : Int32} {m : xS} (h : TrM K n w m) (b : Int32) : TrM K n w (ranM m b) := by
  obtain ⟨h1, h2, h3, h4⟩ := h
  unfold ranM
  by_cases q : (40 : Int32) ≤ m 0 16
  · rw [if_pos q]; exact ⟨h1, h2, h3, h4⟩
  · rw [if_neg q]
    have q2 := (n40 h4).1.mp q
    refine ⟨by rw [xup_s, upd_n _ _ (by decide)]; exact h1, by rw [xup_s, upd_n _ _ (by decide)]; exact h2, by rw [xup_s, upd_n _ _ (by decide)]; exact h3, ?_⟩
    rw [xup_s, upd_s, (n40 h4).2.2 q2]; omega
theorem TrM.rans {K : Nat} {n w : Int32} (l : List Int32) : ∀ {m : xS}, TrM K n w m → TrM K n w (ransM m l) := by
  induction l with
  | nil => intro c h; exact h
  | cons b l ih => intro c h; exact ih (h.ran b)
theorem Rel.tr {c m : xS} (h : Rel c m) (b : Int32) : Rel (pushC c b) (ranM m b) := by
  obtain ⟨s1, s2, s3, s4, s5, s6, t1, t2, t3⟩ := h
  unfold pushC ranM
  by_cases q : (m 0 16).toInt < 40
  · rw [t1, if_neg ((n40 t2).1.mpr q), if_neg ((n40 t2).1.mpr q)]
    have kc : ∀ k, ¬ k = 54 → ¬ k = 55 → xup (xup c 55 (upd (c 55) (m 0 16).toNatClampNeg b)) 54 (upd (c 54) 0 (m 0 16 + 1)) k = c k := fun k a d => by rw [xup_n _ _ a, xup_n _ _ d]
    have km : ∀ k, ¬ k = 0 → ¬ k = 10 → xup (xup m 10 (upd (m 10) (m 0 16).toNatClampNeg b)) 0 (upd (m 0) 16 (m 0 16 + 1)) k = m k := fun k a d => by rw [xup_n _ _ a, xup_n _ _ d]
    have m3 : xup (xup m 10 (upd (m 10) (m 0 16).toNatClampNeg b)) 0 (upd (m 0) 16 (m 0 16 + 1)) 0 3 = m 0 3 := by rw [xup_s, upd_n _ _ (by decide)]
    refine ⟨?_, s2.go (km 1 (by omega) (by omega)) (km 5 (by omega) (by omega)), by rw [kc 0 (by omega) (by omega), m3]; exact s3, fun hz => ?_, fun i hi => ?_, fun e x y => by rw [kc 65 (by omega) (by omega), km 4 (by omega) (by omega)]; exact s6 e x y, ?_⟩
    · rw [km 1 (by omega) (by omega)]
      exact s1.go (fun k x y _ _ => kc k (by omega) (by omega)) (fun k x y => kc k (by omega) (by omega)) (fun k x y => kc k (by omega) (by omega))
    · rw [m3] at hz
      rw [km 2 (by omega) (by omega)]
      exact (s4 hz).go (fun k x y _ _ => kc k (by omega) (by omega)) (fun k x y => kc k (by omega) (by omega)) (fun k x y => kc k (by omega) (by omega))
    · have := (s5 i hi).go (c' := xup (xup c 55 (upd (c 55) (m 0 16).toNatClampNeg b)) 54 (upd (c 54) 0 (m 0 16 + 1))) (kc _ (by omega) (by omega)) (kc _ (by omega) (by omega))
      unfold SheetR; rw [km 11 (by omega) (by omega), km 12 (by omega) (by omega), km 13 (by omega) (by omega)]; exact this
    · have e1 := (n40 t2).2.2 q
      unfold TraceR
      rw [xup_s, upd_s, xup_s, upd_s, xup_n _ _ (by decide), xup_s, xup_n _ _ (by decide), xup_s, e1]
      refine ⟨rfl, by omega, fun j hj => ?_⟩
      rw [i_N, e1] at hj
      by_cases e : j = (m 0 16).toNatClampNeg
      · rw [e, upd_s, upd_s]
      · rw [upd_n _ _ e, upd_n _ _ e]
        exact t3 j (by rw [i_N] at e ⊢; omega)
  · have q1 : (40 : Int32) ≤ m 0 16 := Decidable.byContradiction (fun z => q ((n40 t2).1.mp z))
    rw [t1, if_pos q1, if_pos q1]
    exact ⟨s1, s2, s3, s4, s5, s6, t1, t2, t3⟩
theorem Rel.trs (l : List Int32) : ∀ {c m : xS}, Rel c m → Rel (pushesC c l) (ransM m l) := by
  induction l with
  | nil => intro c m h; exact h
  | cons b l ih => intro c m h; exact ih (h.tr b)
theorem zX9_ran {K : Nat} {n w : Int32} {m : xS} (h : TrM K n w m) (b : Int32) : sX9_ran b m = some ((), ranM m b) := by
  obtain ⟨h1, h2, h3, h4⟩ := h
  unfold sX9_ran ranM
  simp only [xlet_e]
  by_cases q : (40 : Int32) ≤ m 0 16
  · rw [if_pos q, if_pos q]
  · have q2 := (n40 h4).1.mp q
    have hx : xin (m 0 16) 40 := ⟨h4.1, by omega⟩
    rw [if_neg q, if_neg q, if_pos hx, xup_n _ _ (by decide)]
def bodT (a v : Nat) : Nat := (xBodies.getD (4 * a + v) 0).toNatClampNeg
def resA (a v : Nat) : Nat := if bodT a v = 0 then (if bodT (abv a) v = 0 then 0 else abv a) else a
theorem bod_tab : ∀ a, a < 7 → ∀ v, v < 4 → xBodies.getD ((4 * nI a + nI v).toNatClampNeg) 0 = nI (bodT a v) ∧ xin (4 * nI a + nI v) 28 := by decide +kernel
theorem bod0 : ∀ v, v < 4 → bodT 0 v ≠ 0 := by decide +kernel
theorem bodI : ∀ a, a < 7 → ∀ v, v < 4 → (nI (bodT a v) = 0 ↔ bodT a v = 0) := by decide +kernel
theorem resS : ∀ a, a < 7 → ∀ v, v < 4 → bodT a v = 0 → resA (abv a) v = resA a v ∧ a ≠ 0 := by decide +kernel
theorem resN : ∀ a, a < 7 → ∀ v, v < 4 → bodT a v ≠ 0 → resA a v = a := by decide +kernel
theorem sayL {c : xS} (hc : 0 ≤ (c 54 0).toInt ∧ (c 54 0).toInt ≤ 40) {a v : Nat} (ha : a < 7) (hv : v < 4) (x e : Int32) (rc : Int32 → Int32 → Int32 → Int32 → xS → Option (Int32 × xS)) : sX7_sayFrom_L49 (nI v) x e rc (nI a) c = xbind (sX7_say rc (nI (bodT a v)) x e (pushC c (nI (bodT a v)))) (fun r s => some (r, s)) := by
  obtain ⟨b1, b2⟩ := bod_tab a ha v hv
  unfold sX7_sayFrom_L49 sX7_sayFrom_L91 pushC
  simp only [xlet_e, b1, if_pos b2]
  by_cases q : (40 : Int32) ≤ c 54 0
  · rw [if_pos q, if_pos q]
  · have q2 := (n40 hc).1.mp q
    have hx : xin (c 54 0) 40 := ⟨hc.1, by omega⟩
    rw [if_neg q, if_neg q, if_pos hx, xup_n _ _ (by decide)]
theorem sayK {c : xS} (hc : 0 ≤ (c 54 0).toInt ∧ (c 54 0).toInt ≤ 40) {v : Nat} (hv : v < 4) (x e : Int32) (rc : Int32 → Int32 → Int32 → Int32 → xS → Option (Int32 × xS)) : ∀ (r n a k : Nat), dpt a < r → r < n → a < 7 → k + dpt a < 6 → xloop (sX7_sayFrom_L15 (nI v) x e rc) n (nI a, nI k) c = xbind (sX7_say rc (nI (bodT (resA a v) v)) x e (pushC c (nI (bodT (resA a v) v)))) (fun r s => some (r, s)) := by
  intro r
  induction r with
  | zero => intro n a k h; exact absurd h (Nat.not_lt_zero _)
  | succ r ih =>
    intro n a k hd hn ha hk
    obtain ⟨n, rfl⟩ : ∃ z, n = z + 1 := ⟨n - 1, by omega⟩
    have q1 := fun (h0 : a ≠ 0) => ih n (abv a) (k + 1) (by have := abv_d a ha h0; omega) (by omega) (abv7 a ha) (by have := abv_d a ha h0; omega)
    obtain ⟨b1, b2⟩ := bod_tab a ha v hv
    have hx7 : xin (nI a) 7 := xin_n ha (by omega)
    rw [xloop_s]
    generalize xloop (sX7_sayFrom_L15 (nI v) x e rc) n = self at q1 ⊢
    simp only [sX7_sayFrom_L15, xlet_e, if_pos b2, b1, if_pos hx7]
    rw [if_neg (show ¬ (6 : Int32) ≤ nI k from nI_ge (a := k) (b := 6) (by omega) (by omega)), sayL hc ha hv, abv_tab a ha, nI_s]
    by_cases h0 : bodT a v = 0
    · obtain ⟨h1, h2⟩ := resS a ha v hv h0
      rw [if_pos ((bodI a ha v hv).mpr h0), q1 h2, h1]
    · rw [if_neg (fun z => h0 ((bodI a ha v hv).mp z)), resN a ha v hv h0]
theorem dpt2 : ∀ a, a < 7 → dpt a < 3 := by decide +kernel
theorem say1 {K : Nat} {n w : Int32} {c : xS} (h : TrK K n w c) {a v e : Nat} (d : Nat) (ha : a < 7) (hv : v < 4) (he : e ≤ 20) (x : Int32) : sX7_sayFrom (d + 1) (nI a) (nI v) x (nI e) c = xbind (sX7_say (sX7_sayFrom d) (nI (bodT (resA a v) v)) x (nI e) (pushC c (nI (bodT (resA a v) v)))) (fun r s => some (r, s)) := by
  show sX7_sayFrom_body (sX7_sayFrom d) (nI a) (nI v) x (nI e) c = _
  unfold sX7_sayFrom_body
  rw [if_pos (show nI e ≤ 20 from nI_le (a := e) (b := 20) he (by omega))]
  exact sayK h.2.2.2 hv x (nI e) (sX7_sayFrom d) 3 xF a 0 (dpt2 a ha) (by rw [xF_eq]; omega) ha (by have := dpt2 a ha; omega)
theorem ownS {K : Nat} {n w : Int32} {c : xS} (h : TrK K n w c) (rc : Int32 → Int32 → Int32 → Int32 → xS → Option (Int32 × xS)) (v x : Int32) (e : Nat) : sX7_own rc v x (nI e) c = xbind (rc (nI K) v x (nI (e + 1)) c) (fun r s => some (r, s)) := by
  unfold sX7_own
  rw [h.1, nI_s]
theorem aboveS {c : xS} (rc : Int32 → Int32 → Int32 → Int32 → xS → Option (Int32 × xS)) {b : Int32} (a : Nat) (hb : b / 10 - 1 = nI a) (ha : a < 7) (v x : Int32) (e : Nat) : sX7_above rc b v x (nI e) c = xbind (rc (nI (abv a)) v x (nI (e + 1)) c) (fun r s => some (r, s)) := by
  unfold sX7_above
  have hx : xin (nI a) 7 := xin_n ha (by omega)
  rw [hb, if_pos hx, abv_tab a ha, nI_s]
