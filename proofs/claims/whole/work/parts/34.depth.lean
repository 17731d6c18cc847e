theorem bI_c {p q : Prop} [Decidable p] [Decidable q] (h : p ↔ q) : bI p = bI q := by
  unfold bI
  by_cases hp : p
  · rw [if_pos hp, if_pos (h.mp hp)]
  · rw [if_neg hp, if_neg (fun z => hp (h.mpr z))]
theorem and1 (x : Int32) : x &&& 1 = 0 ∨ x &&& 1 = 1 := by
  have h := pk_and x (m := 1) 1 (by decide)
  have h2 : x.toBitVec.toNat % 2 ^ 1 = 0 ∨ x.toBitVec.toNat % 2 ^ 1 = 1 := by omega
  rcases h2 with h2 | h2
  · left; rw [h, h2]; rfl
  · right; rw [h, h2]; rfl
theorem hb_0 (a : Int32) (i : Nat) : ¬ ((a >>> (nI i &&& 31)) &&& 1) = 0 ↔ hb a i := by
  rcases and1 (a >>> (nI i &&& 31)) with h | h
  · unfold hb; rw [h]; decide
  · unfold hb; rw [h]; decide
theorem zX8_has (a : Int32) (i : Nat) (c : xS) : sX8_has a (nI i) c = some (bI (hb a i), c) := by
  unfold sX8_has
  simp only [xlet_e]
  rw [b10, bI_c (hb_0 a i)]
theorem zX9_hasBit (a : Int32) (i : Nat) (c : xS) : sX9_hasBit a (nI i) c = some (bI (hb a i), c) := by
  unfold sX9_hasBit
  simp only [xlet_e]
  rw [b01]
/-- what a depth depends on -/
def agB (N N' : Row) : Prop := (∀ j, 9 ≤ j → j < 33 → N' j = N j) ∧ ∀ j, 138 ≤ j → N' j = N j
theorem gv_ag {N N' : Row} (h : ∀ j, 138 ≤ j → N' j = N j) (u : Nat) (a b d : Int32) : gv N' u a b d = gv N u a b d := by
  have h1 : lenN N' u = lenN N u := by unfold lenN; rw [h _ (by omega)]
  have h2 : codeN N' u = codeN N u := by funext i; exact h _ (by omega)
  unfold gv valT
  rw [h1, h2, h _ (by omega)]
theorem dep_ag {N N' : Row} (h : agB N N') {i : Nat} (hi : i < 8) (y : Int32) : dep N' i y = dep N i y := by
  unfold dep depG
  rw [h.1 (10 + 3 * i) (by omega) (by omega), h.1 (11 + 3 * i) (by omega) (by omega), h.1 (9 + 3 * i) (by omega) (by omega), gv_ag h.2]
theorem max0_nI {y : Int32} {n : Nat} (h : y.toInt < (n : Int)) (hn : 0 < n) (hb : n < 2147483648) : ∃ t, t < n ∧ max0 y = nI t := by
  unfold max0
  by_cases h0 : (0 : Int32) < y
  · rw [if_pos h0]
    have h0' : (0 : Int) < y.toInt := by rw [i_lt] at h0; exact h0
    exact nI_ex (by omega) h
  · rw [if_neg h0]
    exact ⟨0, hn, rfl⟩
theorem mx0 (y : Int32) : (if (0 : Int32) < y then y else 0) = max0 y := rfl
theorem max0_max0 (y : Int32) : max0 (max0 y) = max0 y := by
  unfold max0
  by_cases h0 : (0 : Int32) < y
  · rw [if_pos h0, if_pos h0]
  · rw [if_neg h0, if_neg (by decide)]
theorem dep_max (N : Row) (i : Nat) (y : Int32) : dep N i (max0 y) = dep N i y := by
  unfold dep depG
  rw [max0_max0]
theorem zX0_depthIn {c : xS} {N : Row} (hB : BayR c 1 N) (hv : VT N 0) {i : Nat} (hi : i < 8) (y : Int32) : ∃ c', sX0_depthIn 1 (nI i) y c = some (dep N i y, c') ∧ EqX [7, 10] c c' := by
  obtain ⟨-, -, hR, hL0, hL1⟩ := hB
  obtain ⟨hb, hf, ht⟩ := hR i hi
  have hx : xin (nI i) 8 := xin_n hi (by omega)
  obtain ⟨c', hg, hE⟩ := zX0_give (c := c) (show 0 < 2 by omega) (nI i) (max0 y) (N (9 + 3 * i)) hL0 hL1 hv
  have hg : sX0_give 1 0 (nI i) (max0 y) (N (9 + 3 * i)) c = some (depG N i y, c') := hg
  unfold sX0_depthIn
  simp only [xlet_e, sX0_depthIn_L31, if_true, if_pos hx]
  rw [nI_N (by omega), hf, ht, hb, mx0]
  unfold dep
  by_cases h1 : max0 y < N (10 + 3 * i)
  · rw [if_pos h1, hg, xb_s, if_pos h1]
    exact ⟨c', rfl, hE⟩
  · rw [if_neg h1, if_neg h1]
    by_cases h2 : N (11 + 3 * i) < max0 y
    · rw [if_pos h2, if_pos rfl, hg, xb_s, if_pos h2]
      exact ⟨c', rfl, hE⟩
    · rw [if_neg h2, if_neg (by decide), if_neg h2]
      exact ⟨c, rfl, EqX.rf _ c⟩
theorem lit_nI (n : Nat) : (OfNat.ofNat n : Int32) = nI n := rfl
theorem ix3 (f i : Nat) : (9 : Int32) + 3 * nI i + nI f = nI (9 + 3 * i + f) := by
  show nI 9 + nI 3 * nI i + nI f = _
  rw [pk_mul, nI_add, nI_add]
theorem ix5 (f i : Nat) : (33 : Int32) + 5 * nI i + nI f = nI (33 + 5 * i + f) := by
  show nI 33 + nI 5 * nI i + nI f = _
  rw [pk_mul, nI_add, nI_add]
theorem zX9_cellIs {i f : Nat} (hi : i < 8) (hf : f < 3) (m : xS) : sX9_cellIs (nI i) (nI f) m = some (m 1 (9 + 3 * i + f), m) := by
  unfold sX9_cellIs sX9_cellAt
  rw [xb_s, ix3, if_pos (xin_n (by omega) (by omega)), nI_N (by omega)]
theorem zX9_shipAt (i f : Nat) (m : xS) : sX9_shipAt (nI i) (nI f) m = some (nI (33 + 5 * i + f), m) := by
  unfold sX9_shipAt
  rw [ix5]
theorem zX9_shipIs {i f : Nat} (hi : i < 7) (hf : f < 5) (m : xS) : sX9_shipIs (nI i) (nI f) m = some (m 1 (33 + 5 * i + f), m) := by
  unfold sX9_shipIs
  rw [zX9_shipAt, xb_s, if_pos (xin_n (by omega) (by omega)), nI_N (by omega)]
theorem zX9_depthFor {m : xS} (hv : VT (m 1) 0) {i : Nat} (hi : i < 8) (y : Int32) : ∃ m', sX9_depthFor (nI i) (max0 y) m = some (dep (m 1) i y, m') ∧ EqX [8, 9] m m' := by
  obtain ⟨m', hg, hE⟩ := zX9_given (m := m) (show 0 < 2 by omega) (nI i) (max0 y) (m 1 (9 + 3 * i)) hv
  have hg : sX9_given 0 (nI i) (max0 y) (m 1 (9 + 3 * i)) m = some (depG (m 1) i y, m') := hg
  have c0 : sX9_cellIs (nI i) 0 m = some (m 1 (9 + 3 * i), m) := zX9_cellIs (f := 0) hi (by omega) m
  have c1 : sX9_cellIs (nI i) 1 m = some (m 1 (10 + 3 * i), m) := by have := zX9_cellIs (f := 1) hi (by omega) m; rw [show 9 + 3 * i + 1 = 10 + 3 * i by omega] at this; exact this
  have c2 : sX9_cellIs (nI i) 2 m = some (m 1 (11 + 3 * i), m) := by have := zX9_cellIs (f := 2) hi (by omega) m; rw [show 9 + 3 * i + 2 = 11 + 3 * i by omega] at this; exact this
  unfold sX9_depthFor
  simp only [xlet_e, sX9_depthFor_L25, if_true]
  rw [c1, xb_s, c2, xb_s]
  unfold dep
  by_cases h1 : max0 y < m 1 (10 + 3 * i)
  · rw [if_pos h1, c0, xb_s, hg, xb_s, if_pos h1]
    exact ⟨m', rfl, hE⟩
  · rw [if_neg h1, if_neg h1]
    by_cases h2 : m 1 (11 + 3 * i) < max0 y
    · rw [if_pos h2, if_pos rfl, c0, xb_s, hg, xb_s, if_pos h2]
      exact ⟨m', rfl, hE⟩
    · rw [if_neg h2, if_neg (by decide), if_neg h2]
      exact ⟨m, rfl, EqX.rf _ m⟩
theorem one_sub (x : Int32) : 1 + x - 1 = x := by rw [Int32.add_comm, Int32.add_sub_cancel]
theorem zX9_depthIn {m : xS} (hv : VT (m 1) 0) (hc : cacheOk m) {i : Nat} (hi : i < 8) {y : Int32} (hy : y.toInt < 1000) : ∃ m', sX9_depthIn (nI i) y m = some (dep (m 1) i y, m') ∧ EqX [5, 8, 9] m m' ∧ cacheOk m' := by
  obtain ⟨t, ht, hyt⟩ := max0_nI (n := 1000) hy (by omega) (by omega)
  have hk : (1000 : Int32) * nI i + nI t = nI (1000 * i + t) := by
    show nI 1000 * nI i + nI t = _
    rw [pk_mul, nI_add]
  have hx : xin (nI (1000 * i + t)) 8000 := xin_n (by omega) (by omega)
  have hdt : dep (m 1) i (nI t) = dep (m 1) i y := by rw [← hyt, dep_max]
  unfold sX9_depthIn
  simp only [xlet_e, sX9_depthIn_L40]
  obtain ⟨m1, h1, hE1⟩ := zX9_depthFor hv hi y
  rw [mx0, h1, xb_s, hyt, hk]
  simp only [if_pos hx]
  rw [nI_N (by omega)]
  by_cases h00 : m 5 (1000 * i + t) = 0
  · rw [if_pos h00]
    refine ⟨xup m1 5 (upd (m1 5) (1000 * i + t) (1 + dep (m 1) i y)), ?_, (hE1.mono (by simp)).up _ (by simp), ?_⟩
    · rw [xup_s, upd_s, one_sub]
    · intro j q hj hq
      have e1 : xup m1 5 (upd (m1 5) (1000 * i + t) (1 + dep (m 1) i y)) 1 = m 1 := by rw [xup_n _ _ (by decide), hE1 1 (by simp)]
      rw [e1, xup_s]
      by_cases e : 1000 * j + q = 1000 * i + t
      · have ej : j = i := by omega
        have eq : q = t := by omega
        subst ej; subst eq
        rw [upd_s]
        exact Or.inr (by rw [hdt])
      · rw [upd_n _ _ e, hE1 5 (by simp)]
        exact hc j q hj hq
  · rw [if_neg h00]
    rcases hc i t hi ht with h0 | h0
    · exact absurd h0 h00
    · rw [h0, hdt, one_sub]
      exact ⟨m, rfl, EqX.rf _ m, hc⟩
