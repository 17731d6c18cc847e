/-! ===== acts that change the state ===== -/
def LSN : List Nat := [1, 2, 3, 4, 5, 6, 7, 8, 9, 10, 17, 20, 21, 22, 23, 24, 25, 26, 33, 34, 35, 36, 37, 38, 39, 40, 41, 45, 46, 47, 48, 49, 50, 51, 52, 53]
def LMN : List Nat := [1, 3, 5, 7, 8, 9, 14]
theorem Rel.snap {c m c' m' : xS} (h : Rel c m) (hS : SnapR c' 1 21 39 (m' 1)) (hk : cacheOk m') (hC : EqX LSN c c') (hM : EqX LMN m m') : Rel c' m' := by
  obtain ⟨-, -, h3, h4, h5, h6, t1, t2, t3⟩ := h
  have kc : ∀ q, ¬ q ∈ LSN → c' q = c q := hC
  have km : ∀ q, ¬ q ∈ LMN → m' q = m q := hM
  refine ⟨hS, hk, by rw [kc 0 (by unfold LSN; simp), km 0 (by unfold LMN; simp)]; exact h3, fun hz => ?_, fun i hi => ?_, fun e a b => ?_, ?_⟩
  · rw [km 0 (by unfold LMN; simp)] at hz
    rw [km 2 (by unfold LMN; simp)]
    exact (h4 hz).go (fun q a b d e => kc q (by unfold LSN; simp; omega)) (fun q a b => kc q (by unfold LSN; simp; omega)) (fun q a b => kc q (by unfold LSN; simp; omega))
  · have h := (h5 i hi).go (c' := c') (kc _ (by unfold LSN; simp; omega)) (kc _ (by unfold LSN; simp; omega))
    unfold SheetR; rw [km 11 (by unfold LMN; simp), km 12 (by unfold LMN; simp), km 13 (by unfold LMN; simp)]; exact h
  · rw [kc 65 (by unfold LSN; simp), km 4 (by unfold LMN; simp)]; exact h6 e a b
  · unfold TraceR
    rw [km 0 (by unfold LMN; simp), km 10 (by unfold LMN; simp), kc 54 (by unfold LSN; simp), kc 55 (by unfold LSN; simp)]
    exact ⟨t1, t2, t3⟩
theorem FleetR.t {c : xS} {f : Nat} {N : Row} : FleetR c f N ↔ c f 0 = N 2 ∧ c f 1 = N 0 ∧ ∀ j, j < 7 → ∀ t, t < 5 → c (f + 1 + t) j = N (33 + 5 * j + t) := by
  unfold FleetR
  constructor
  · rintro ⟨h0, h1, h2⟩
    refine ⟨h0, h1, fun j hj t ht => ?_⟩
    obtain ⟨a, b, d, e, g⟩ := h2 j hj
    rcases (show t = 0 ∨ t = 1 ∨ t = 2 ∨ t = 3 ∨ t = 4 by omega) with rfl | rfl | rfl | rfl | rfl
    · exact a
    · rw [show 33 + 5 * j + 1 = 34 + 5 * j by omega]; exact b
    · rw [show 33 + 5 * j + 2 = 35 + 5 * j by omega]; exact d
    · rw [show 33 + 5 * j + 3 = 36 + 5 * j by omega]; exact e
    · rw [show 33 + 5 * j + 4 = 37 + 5 * j by omega]; exact g
  · rintro ⟨h0, h1, h2⟩
    refine ⟨h0, h1, fun j hj => ⟨h2 j hj 0 (by omega), ?_, ?_, ?_, ?_⟩⟩
    · have := h2 j hj 1 (by omega); rw [show 33 + 5 * j + 1 = 34 + 5 * j by omega] at this; exact this
    · have := h2 j hj 2 (by omega); rw [show 33 + 5 * j + 2 = 35 + 5 * j by omega] at this; exact this
    · have := h2 j hj 3 (by omega); rw [show 33 + 5 * j + 3 = 36 + 5 * j by omega] at this; exact this
    · have := h2 j hj 4 (by omega); rw [show 33 + 5 * j + 4 = 37 + 5 * j by omega] at this; exact this
theorem FleetR.set {c : xS} {f : Nat} {N : Row} (h : FleetR c f N) {s k : Nat} (hs : s < 7) (hk : k < 5) (v : Int32) : FleetR (xup c (f + 1 + k) (upd (c (f + 1 + k)) s v)) f (upd N (33 + 5 * s + k) v) := by
  rw [FleetR.t] at h ⊢
  obtain ⟨h0, h1, h2⟩ := h
  refine ⟨by rw [xup_n _ _ (by omega), upd_n _ _ (by omega)]; exact h0, by rw [xup_n _ _ (by omega), upd_n _ _ (by omega)]; exact h1, fun j hj t ht => ?_⟩
  by_cases e : t = k
  · subst e
    rw [xup_s]
    by_cases e2 : j = s
    · subst e2; rw [upd_s, upd_s]
    · rw [upd_n _ _ e2, upd_n _ _ (by omega)]; exact h2 j hj t ht
  · rw [xup_n _ _ (by omega), upd_n _ _ (by omega)]; exact h2 j hj t ht
def cellsR (c : xS) (b : Nat) (N : Row) : Prop := ∀ j, j < 8 → ∀ t, t < 3 → c (b + 1 + t) j = N (9 + 3 * j + t)
theorem cellsR_i {c : xS} {b : Nat} {N : Row} : (∀ j, j < 8 → c (b + 1) j = N (9 + 3 * j) ∧ c (b + 2) j = N (10 + 3 * j) ∧ c (b + 3) j = N (11 + 3 * j)) ↔ cellsR c b N := by
  constructor
  · intro h j hj t ht
    obtain ⟨a, b', d⟩ := h j hj
    rcases (show t = 0 ∨ t = 1 ∨ t = 2 by omega) with rfl | rfl | rfl
    · exact a
    · rw [show 9 + 3 * j + 1 = 10 + 3 * j by omega]; exact b'
    · rw [show 9 + 3 * j + 2 = 11 + 3 * j by omega]; exact d
  · intro h j hj
    refine ⟨h j hj 0 (by omega), ?_, ?_⟩
    · have := h j hj 1 (by omega); rw [show 9 + 3 * j + 1 = 10 + 3 * j by omega] at this; exact this
    · have := h j hj 2 (by omega); rw [show 9 + 3 * j + 2 = 11 + 3 * j by omega] at this; exact this
theorem LawR.gg {c c' : xS} {k : Nat} {N N' : Row} {u : Nat} (h : LawR c k N u) (h1 : c' k = c k) (h2 : c' (k + 1) = c (k + 1)) (hN : ∀ j, 138 ≤ j → N' j = N j) : LawR c' k N' u := by
  obtain ⟨a, b⟩ := h
  have hl : lenN N' u = lenN N u := by unfold lenN; rw [hN _ (by omega)]
  refine ⟨by rw [h1, hN _ (by omega)]; exact a, fun j hj => ?_⟩
  rw [h2, show codeN N' u j = codeN N u j from hN _ (by omega)]
  exact b j (by rw [← hl]; exact hj)
theorem zX9_turn {k : Nat} (hk : k < 242) (p : Int32) (m : xS) : sX9_turn (nI k) p m = some (m 1 k, xup m 1 (upd (m 1) k p)) := by
  have hx : xin (nI k) 242 := xin_n hk (by omega)
  unfold sX9_turn
  simp only [xlet_e, if_pos hx]
  rw [nI_N (by omega)]
/-- the year, the back, the beam set -/
theorem SnapR.lens {c : xS} {N : Row} (h : SnapR c 1 21 39 N) {j : Nat} (hj : 1 ≤ j ∧ j ≤ 3) {p : Int32} (hN : VN (upd N (2 + j) p)) : SnapR (xup c 1 (upd (c 1) j p)) 1 21 39 (upd N (2 + j) p) := by
  obtain ⟨⟨b0, b1, b2, b3, b4⟩, ⟨l1, l2⟩, hF, hD, -, hH⟩ := h
  have nN : ∀ q, 6 ≤ q → upd N (2 + j) p q = N q := fun q hq => upd_n _ _ (by omega)
  refine ⟨⟨?_, ?_, fun i hi => ?_, b3.gg (xup_n _ _ (by decide)) (xup_n _ _ (by decide)) (fun q hq => nN q (by omega)), b4.gg (xup_n _ _ (by decide)) (xup_n _ _ (by decide)) (fun q hq => nN q (by omega))⟩, ⟨?_, ?_⟩, ?_, ?_, hN, ?_⟩
  · rw [xup_s, upd_n _ _ (by omega), upd_n _ _ (by omega)]; exact b0
  · rw [xup_s]
    by_cases e : j = 1
    · subst e; rw [upd_s, upd_s]
    · rw [upd_n _ _ (by omega), upd_n _ _ (by omega)]; exact b1
  · rw [xup_n _ _ (by decide), xup_n _ _ (by decide), xup_n _ _ (by decide), nN _ (by omega), nN _ (by omega), nN _ (by omega)]; exact b2 i hi
  · rw [xup_s]
    by_cases e : j = 2
    · subst e; rw [upd_s, upd_s]
    · rw [upd_n _ _ (by omega), upd_n _ _ (by omega)]; exact l1
  · rw [xup_s]
    by_cases e : j = 3
    · subst e; rw [upd_s, upd_s]
    · rw [upd_n _ _ (by omega), upd_n _ _ (by omega)]; exact l2
  · exact (hF.go (fun k a b => xup_n _ _ (by omega))).ag (upd_n _ _ (by omega)) (upd_n _ _ (by omega)) (fun q a b => nN q (by omega))
  · exact (hD.go (fun k a b => xup_n _ _ (by omega))).ag (nN _ (by omega)) (nN _ (by omega)) (nN _ (by omega)) (fun q a b => nN q (by omega))
  · rw [upd_n _ _ (by omega)]; exact hH
theorem VN.lens {N : Row} (h : VN N) {j : Nat} (hj : 3 ≤ j ∧ j ≤ 5) {p : Int32} (h3 : j = 3 → 0 ≤ p.toInt ∧ p.toInt ≤ 999) (h4 : j = 4 → 0 ≤ p.toInt ∧ p.toInt ≤ 99) (h5 : j = 5 → 0 ≤ p.toInt ∧ p.toInt < 2 ^ (N 1).toNatClampNeg) : VN (upd N j p) := by
  have hV := h
  obtain ⟨a1, a2, a3, a4, a5, a6, a7, a8, a9, a10, a11⟩ := h
  have nN : ∀ q, 6 ≤ q → upd N j p q = N q := fun q hq => upd_n _ _ (by omega)
  refine hV.chg (upd_n _ _ (by omega)) (upd_n _ _ (by omega)) ?_ ?_ ?_ (by rw [nN _ (by omega)]; exact a6) (by rw [nN _ (by omega)]; exact a7) (fun i hi => ?_) (fun i hi => by rw [nN _ (by omega)]; exact a9 i hi) ?_
  · by_cases e : j = 3
    · subst e; rw [upd_s]; exact h3 rfl
    · rw [upd_n _ _ (by omega)]; exact a3
  · by_cases e : j = 4
    · subst e; rw [upd_s]; exact h4 rfl
    · rw [upd_n _ _ (by omega)]; exact a4
  · by_cases e : j = 5
    · subst e; rw [upd_s]; exact h5 rfl
    · rw [upd_n _ _ (by omega)]; exact a5
  · rw [nN _ (by omega), nN _ (by omega), nN _ (by omega)]; exact a8 i hi
  · unfold VT lenN
    unfold VT lenN at a10 a11
    have e1 : ∀ u, codeN (upd N j p) u = codeN N u := fun u => funext fun i => nN _ (by omega)
    rw [e1, e1, nN _ (by omega), nN _ (by omega)]
    exact ⟨a10, a11⟩
theorem cells2 {N : Row} (hV : VH N) : (1 <<< (N 1 &&& 31)) - 1 = nI (2 ^ cellsN N - 1) := by
  have h8 := hV.c8
  have h1 := hV.cI
  rw [h1]
  rcases (show cellsN N = 0 ∨ cellsN N = 1 ∨ cellsN N = 2 ∨ cellsN N = 3 ∨ cellsN N = 4 ∨ cellsN N = 5 ∨ cellsN N = 6 ∨ cellsN N = 7 ∨ cellsN N = 8 by omega) with e | e | e | e | e | e | e | e | e <;> rw [e] <;> decide
theorem lensOp {c m : xS} (h : Rel c m) {j : Nat} (hj : 1 ≤ j ∧ j ≤ 3) {p : Int32} (hN : VN (upd (m 1) (2 + j) p)) : ∃ r c' m', (some (c 1 j, xup c 1 (upd (c 1) j p)) : Option (Int32 × xS)) = some (r, c') ∧ xbind (sX9_turn (nI (2 + j)) p m) (fun r s => some (r, s)) = some (r, m') ∧ Rel c' m' := by
  have e0 : m 1 (2 + j) = c 1 j := by
    rcases (show j = 1 ∨ j = 2 ∨ j = 3 by omega) with rfl | rfl | rfl
    · exact h.B.2.1.symm
    · exact h.L.1.symm
    · exact h.L.2.symm
  refine ⟨c 1 j, _, _, rfl, by rw [zX9_turn (by omega), xb_s, e0], h.snap ?_ ?_ ((EqX.rf _ _).up _ (by unfold LSN; simp)) ((EqX.rf _ _).up _ (by unfold LMN; simp))⟩
  · rw [xup_s]; exact h.1.lens hj hN
  · exact h.2.1.ag (xup_n _ _ (by decide)) (by rw [xup_s]; exact ⟨fun q a b => upd_n _ _ (by omega), fun q a => upd_n _ _ (by omega)⟩)
theorem op_set (p q : Int32) : OpR (sX8_set p q) (sX9_set p q) := by
  intro c m h
  have hV := h.V
  unfold sX8_set sX9_set sX8_set_L22 sX9_set_L54
  simp only [zX8_within, zX9_within, zX9_isYear, xb_s, bif0, fC1, fM1, xlet_e, b_r]
  by_cases h1 : 0 ≤ p ∧ p ≤ 2
  · rw [if_pos h1]
    obtain ⟨j, hj, rfl⟩ := inN (n := 3) h1 (by decide)
    rcases (show j = 0 ∨ j = 1 ∨ j = 2 by omega) with rfl | rfl | rfl
    · simp only [sX8_greatestSetting, if_pos (show nI 0 = 0 from rfl), xb_s]
      by_cases h2 : 0 ≤ q ∧ q ≤ 999
      · rw [if_pos h2, if_pos h2]
        exact lensOp h (j := 1) (by omega) (hV.lens (by omega) (fun _ => ⟨i_le.mp h2.1, i_le.mp h2.2⟩) (fun e => absurd e (by omega)) (fun e => absurd e (by omega)))
      · rw [if_neg h2, if_neg h2]
        exact errR h (by decide) _ rfl rfl
    · simp only [sX8_greatestSetting, if_neg (show ¬ nI 1 = 0 by decide), if_pos (show nI 1 = 1 from rfl), xb_s]
      by_cases h2 : 0 ≤ q ∧ q ≤ 99
      · rw [if_pos h2, if_pos h2]
        exact lensOp h (j := 2) (by omega) (hV.lens (by omega) (fun e => absurd e (by omega)) (fun _ => ⟨i_le.mp h2.1, i_le.mp h2.2⟩) (fun e => absurd e (by omega)))
      · rw [if_neg h2, if_neg h2]
        exact errR h (by decide) _ rfl rfl
    · simp only [sX8_greatestSetting, if_neg (show ¬ nI 2 = 0 by decide), if_neg (show ¬ nI 2 = 1 by decide), if_pos (show nI 2 = 2 from rfl), xb_s, if_neg (show ¬ (1 : Int32) = 0 by decide), if_true]
      rw [h.B.1, cells2 hV.H]
      by_cases h2 : 0 ≤ q ∧ q ≤ nI (2 ^ cellsN (m 1) - 1)
      · rw [if_pos h2, if_pos h2]
        refine lensOp h (j := 3) (by omega) (hV.lens (by omega) (fun e => absurd e (by omega)) (fun e => absurd e (by omega)) (fun _ => ⟨i_le.mp h2.1, ?_⟩))
        have h8 := hV.H.c8
        have hp : 2 ^ cellsN (m 1) ≤ 2 ^ 8 := Nat.pow_le_pow_right (by decide) h8
        have hp0 : 0 < 2 ^ cellsN (m 1) := Nat.pow_pos (by decide)
        have h3 := i_le.mp h2.2
        rw [i_nI (by omega)] at h3
        have : (m 1 1).toNatClampNeg = cellsN (m 1) := rfl
        rw [this]
        have e3 : (((2 ^ cellsN (m 1) - 1 : Nat) : Int)) = (2 : Int) ^ cellsN (m 1) - 1 := by
          rw [Int.ofNat_sub (by omega)]; simp
        omega
      · rw [if_neg h2, if_neg h2]
        exact errR h (by decide) _ rfl rfl
  · rw [if_neg h1]
    have n0 : ¬ p = 0 := fun e => h1 (by subst e; decide)
    have n1 : ¬ p = 1 := fun e => h1 (by subst e; decide)
    have n2 : ¬ p = 2 := fun e => h1 (by subst e; decide)
    rw [if_neg n0, if_neg n1, if_neg n2]
    exact errR h (by decide) _ rfl rfl
