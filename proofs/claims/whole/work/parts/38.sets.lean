/-! ===== sets of ships and cells ===== -/
def setN (q : Nat → Bool) : Nat → Nat
  | 0 => 0
  | k + 1 => if q k = true then setN q k + 2 ^ k else setN q k
def cntN (q : Nat → Bool) : Nat → Nat
  | 0 => 0
  | k + 1 => if q k = true then cntN q k + 1 else cntN q k
theorem setN_s (q : Nat → Bool) (k : Nat) : setN q (k + 1) = if q k = true then setN q k + 2 ^ k else setN q k := by rw [setN]
theorem cntN_s (q : Nat → Bool) (k : Nat) : cntN q (k + 1) = if q k = true then cntN q k + 1 else cntN q k := by rw [cntN]
theorem setN_lt (q : Nat → Bool) : ∀ k, setN q k < 2 ^ k := by
  intro k
  induction k with
  | zero => show 0 < 1; omega
  | succ k ih =>
    rw [setN_s, Nat.pow_succ]
    split <;> omega
theorem cntN_le (q : Nat → Bool) : ∀ k, cntN q k ≤ k := by
  intro k
  induction k with
  | zero => exact Nat.le_refl 0
  | succ k ih =>
    rw [cntN_s]
    split <;> omega
theorem setN_bit (q : Nat → Bool) : ∀ k j, (setN q k).testBit j = (decide (j < k) && q j) := by
  intro k
  induction k with
  | zero => intro j; simp [setN]
  | succ k ih =>
    intro j
    rw [setN_s]
    have hlt := setN_lt q k
    by_cases hq : q k = true
    · rw [if_pos hq, Nat.add_comm]
      rcases Nat.lt_trichotomy j k with h | h | h
      · rw [Nat.testBit_two_pow_add_gt h, ih j]
        simp only [h, show j < k + 1 by omega]
      · subst h
        rw [Nat.testBit_two_pow_add_eq, ih j]
        simp [hq]
      · rw [Nat.testBit_lt_two_pow (by have : 2 ^ (k + 1) ≤ 2 ^ j := Nat.pow_le_pow_right (by omega) (by omega); rw [Nat.pow_succ] at this; omega)]
        simp [show ¬ j < k + 1 by omega]
    · rw [if_neg hq, ih j]
      by_cases e : j = k
      · subst e; simp [hq]
      · have : decide (j < k) = decide (j < k + 1) := by
          congr 1
          exact propext ⟨fun h => by omega, fun h => by omega⟩
        rw [this]
theorem cntN_c {p q : Nat → Bool} : ∀ k, (∀ j, j < k → p j = q j) → cntN p k = cntN q k := by
  intro k
  induction k with
  | zero => intro _; rfl
  | succ k ih =>
    intro h
    rw [cntN_s, cntN_s, ih (fun j hj => h j (by omega)), h k (by omega)]
theorem setN_c {p q : Nat → Bool} : ∀ k, (∀ j, j < k → p j = q j) → setN p k = setN q k := by
  intro k
  induction k with
  | zero => intro _; rfl
  | succ k ih =>
    intro h
    rw [setN_s, setN_s, ih (fun j hj => h j (by omega)), h k (by omega)]
def popN (n : Nat) : Nat := cntN (fun j => n.testBit j) 8
theorem cntN_more (q : Nat → Bool) {k : Nat} : ∀ d, (∀ j, k ≤ j → j < k + d → q j = false) → cntN q (k + d) = cntN q k := by
  intro d
  induction d with
  | zero => intro _; rfl
  | succ d ih =>
    intro h
    rw [show k + (d + 1) = k + d + 1 by omega, cntN_s, if_neg (by rw [h (k + d) (by omega) (by omega)]; decide)]
    exact ih (fun j h1 h2 => h j h1 (by omega))
theorem pop_set (q : Nat → Bool) {k : Nat} (hk : k ≤ 8) : popN (setN q k) = cntN q k := by
  unfold popN
  obtain ⟨d, hd⟩ : ∃ d, 8 = k + d := ⟨8 - k, by omega⟩
  rw [hd, cntN_more]
  · exact cntN_c k (fun j hj => by rw [setN_bit]; simp [hj])
  · intro j h1 _
    show (setN q k).testBit j = false
    rw [setN_bit]
    simp only [Bool.and_eq_false_iff, decide_eq_false_iff_not]
    left; omega
theorem popN_le (n : Nat) : popN n ≤ 8 := cntN_le _ 8
/-! numbers below 256, one by one -/
def popE (p0 : Int32) : Int32 :=
  xlet ((p0 - (((p0.toUInt32 >>> ((1 : Int32).toUInt32 &&& Int32.toUInt32 31)).toInt32) &&& (1431655765 : Int32)))) (fun y9 => xlet (((y9 &&& (858993459 : Int32)) + (((y9.toUInt32 >>> ((2 : Int32).toUInt32 &&& Int32.toUInt32 31)).toInt32) &&& (858993459 : Int32)))) (fun y23 => xlet (((y23 + ((y23.toUInt32 >>> ((4 : Int32).toUInt32 &&& Int32.toUInt32 31)).toInt32)) &&& (252645135 : Int32))) (fun y33 => xlet ((y33 + ((y33.toUInt32 >>> ((8 : Int32).toUInt32 &&& Int32.toUInt32 31)).toInt32))) (fun y40 => xlet ((y40 + ((y40.toUInt32 >>> ((16 : Int32).toUInt32 &&& Int32.toUInt32 31)).toInt32))) (fun y47 => (y47 &&& (63 : Int32)))))))
theorem pop_tab : ∀ n, n < 256 → popE (nI n) = nI (popN n) := by decide +kernel
theorem shl_tab : ∀ k, k < 8 → (1 : Int32) <<< (nI k &&& 31) = nI (2 ^ k) := by decide +kernel
theorem shl0_tab : ∀ k, k < 8 → (0 : Int32) <<< (nI k &&& 31) = 0 := by decide +kernel
theorem or_tab : ∀ k, k < 8 → ∀ a, a < 2 ^ k → nI a ||| nI (2 ^ k) = nI (a + 2 ^ k) := by decide +kernel
theorem or0_tab : ∀ a, a < 256 → nI a ||| 0 = nI a := by decide +kernel
theorem krn_tab : ∀ n, n < 256 → 0 < n → nI n &&& (nI n - 1) = nI (n &&& (n - 1)) ∧ popN (n &&& (n - 1)) + 1 = popN n ∧ n &&& (n - 1) < n := by decide +kernel
theorem hb_tab : ∀ n, n < 256 → ∀ j, j < 8 → (hb (nI n) j ↔ n.testBit j = true) := by decide +kernel
theorem zJ6_bitCount {n : Nat} (h : n < 256) (c : xS) : sJ6_bitCount_0f7a4 (nI n) c = some (nI (popN n), c) := by
  rw [← pop_tab n h]
  rfl
theorem zX9_bits_loop (m : xS) : ∀ (n r a : Nat), n < 256 → n < r → xloop sX9_bits_L4 r (nI a, nI n) m = some (nI (a + popN n), m) := by
  intro n
  induction n using Nat.strongRecOn with
  | ind n ih =>
    intro r a hn hr
    obtain ⟨r, rfl⟩ : ∃ q, r = q + 1 := ⟨r - 1, by omega⟩
    rw [xloop_s]
    simp only [sX9_bits_L4, xlet_e]
    rcases Nat.eq_zero_or_pos n with h0 | h0
    · subst h0
      rw [if_pos (show nI 0 = 0 from rfl)]
      rfl
    · obtain ⟨k1, k2, k3⟩ := krn_tab n hn h0
      rw [if_neg (fun q => nI_ne0 h0 (by omega) q), k1, nI_s, ih _ k3 r (a + 1) (by omega) (by omega)]
      congr 3
      omega
theorem zX9_bits {n : Nat} (h : n < 256) (m : xS) : sX9_bits (nI n) m = some (nI (popN n), m) := by
  have := zX9_bits_loop m n xF 0 h (by rw [xF_eq]; omega)
  rw [Nat.zero_add] at this
  exact this
/-! the sets of a row -/
def atQ (N : Row) (p : Int32) : Nat → Bool := fun s => decide (N (36 + 5 * s) = p)
def lostQ (N : Row) : Nat → Bool := fun s => decide (N (37 + 5 * s) = 1)
def atS (N : Row) (p : Int32) : Nat := setN (atQ N p) (shipsN N)
def lostS (N : Row) : Nat := setN (lostQ N) (shipsN N)
theorem set_lt {q : Nat → Bool} {k : Nat} (h : k ≤ 7) : setN q k < 128 := by
  have h1 := setN_lt q k
  have h2 : 2 ^ k ≤ 2 ^ 7 := Nat.pow_le_pow_right (by omega) h
  omega
theorem zX3_setOf {c : xS} {f p : Nat} {v : Int32} {L : Nat} {q : Nat → Bool} (hL : L ≤ 7) (h0 : c f 0 = nI L) (hq : ∀ j, j < L → q j = decide (c p j = v)) : sX3_setOf f p v c = some (nI (setN q L), c) := by
  have key : ∀ (r n k : Nat), k + r = L → r < n → xloop (sX3_setOf_L5 f p v) n (nI (setN q k), nI k) c = some (nI (setN q L), c) := by
    intro r
    induction r with
    | zero =>
      intro n k hk hn
      obtain ⟨n, rfl⟩ : ∃ z, n = z + 1 := ⟨n - 1, by omega⟩
      have hk' : k = L := by omega
      subst hk'
      rw [xloop_s]
      simp only [sX3_setOf_L5]
      rw [h0, if_pos (Int32.le_refl _)]
    | succ r ih =>
      intro n k hk hn
      obtain ⟨n, rfl⟩ : ∃ z, n = z + 1 := ⟨n - 1, by omega⟩
      have hx : xin (nI k) 7 := xin_n (by omega) (by omega)
      have hlt := setN_lt q k
      have hp : 2 ^ k ≤ 2 ^ 6 := Nat.pow_le_pow_right (by omega) (by omega)
      rw [xloop_s]
      simp only [sX3_setOf_L5, sX3_setOf_L29, xlet_e, if_pos hx]
      rw [h0, if_neg (nI_ge (show k < L by omega) (by omega)), nI_N (by omega), nI_s]
      have hs := setN_s q k
      have hqk := hq k (by omega)
      by_cases h1 : c p k = v
      · rw [if_pos h1, shl_tab k (by omega), or_tab k (by omega) _ hlt]
        rw [if_pos (by rw [hqk]; exact decide_eq_true h1)] at hs
        rw [← hs]
        exact ih n (k + 1) (by omega) (by omega)
      · rw [if_neg h1]
        rw [if_neg (by rw [hqk]; simp [h1])] at hs
        rw [← hs]
        exact ih n (k + 1) (by omega) (by omega)
  exact key L xF 0 (by omega) (by rw [xF_eq]; omega)
theorem zX3_setAt {c : xS} {f : Nat} {N : Row} (hF : FleetR c f N) (hV : VH N) (p : Int32) : sX3_setAt f p c = some (nI (atS N p), c) := by
  have h7 := hV.s7
  unfold sX3_setAt
  rw [zX3_setOf (q := atQ N p) h7 (by rw [hF.1]; exact hV.sI) (fun j hj => by rw [(hF.2.2 j (by omega)).2.2.2.1]; rfl), xb_s]
  rfl
theorem zX3_setLost {c : xS} {f : Nat} {N : Row} (hF : FleetR c f N) (hV : VH N) : sX3_setLost f c = some (nI (lostS N), c) := by
  have h7 := hV.s7
  unfold sX3_setLost
  rw [zX3_setOf (q := lostQ N) h7 (by rw [hF.1]; exact hV.sI) (fun j hj => by rw [(hF.2.2 j (by omega)).2.2.2.2]; rfl), xb_s]
  rfl
def inC (N : Row) : Nat := cntN (atQ N 0) (shipsN N)
def lostC (N : Row) : Nat := cntN (lostQ N) (shipsN N)
theorem atS_lt {N : Row} (hV : VH N) (p : Int32) : atS N p < 128 := set_lt hV.s7
theorem lostS_lt {N : Row} (hV : VH N) : lostS N < 128 := set_lt hV.s7
theorem zX3_countAt {c : xS} {f : Nat} {N : Row} (hF : FleetR c f N) (hV : VH N) : sX3_countAt f 0 c = some (nI (inC N), c) := by
  unfold sX3_countAt
  rw [zX3_setAt hF hV, xb_s, zJ6_bitCount (by have := atS_lt hV 0; omega), xb_s]
  have := pop_set (atQ N 0) (k := shipsN N) (by have := hV.s7; omega)
  unfold atS inC
  rw [this]
theorem zX3_countLost {c : xS} {f : Nat} {N : Row} (hF : FleetR c f N) (hV : VH N) : sX3_countLost f c = some (nI (lostC N), c) := by
  unfold sX3_countLost
  rw [zX3_setLost hF hV, xb_s, zJ6_bitCount (by have := lostS_lt hV; omega), xb_s]
  have := pop_set (lostQ N) (k := shipsN N) (by have := hV.s7; omega)
  unfold lostS lostC
  rw [this]
theorem zX9_shipsAt {m : xS} (hV : VH (m 1)) (p : Int32) : sX9_shipsAt p m = some (nI (atS (m 1) p), m) := by
  have h7 := hV.s7
  have hsI := hV.sI
  have key : ∀ (r n k : Nat), k + r = shipsN (m 1) → r < n → xloop (sX9_shipsAt_L4 p) n (nI (setN (atQ (m 1) p) k), nI k) m = some (nI (atS (m 1) p), m) := by
    intro r
    induction r with
    | zero =>
      intro n k hk hn
      obtain ⟨n, rfl⟩ : ∃ z, n = z + 1 := ⟨n - 1, by omega⟩
      have hk' : k = shipsN (m 1) := by omega
      subst hk'
      rw [xloop_s]
      simp only [sX9_shipsAt_L4]
      rw [hsI, if_pos (Int32.le_refl _)]
      rfl
    | succ r ih =>
      intro n k hk hn
      obtain ⟨n, rfl⟩ : ∃ z, n = z + 1 := ⟨n - 1, by omega⟩
      have hlt := setN_lt (atQ (m 1) p) k
      have hp : 2 ^ k ≤ 2 ^ 6 := Nat.pow_le_pow_right (by omega) (by omega)
      have g3 : sX9_shipIs (nI k) 3 m = some (m 1 (36 + 5 * k), m) := by have h := zX9_shipIs (i := k) (f := 3) (by omega) (by omega) m; rw [show 33 + 5 * k + 3 = 36 + 5 * k by omega] at h; exact h
      rw [xloop_s]
      simp only [sX9_shipsAt_L4, sX9_shipsAt_L32, xlet_e]
      rw [hsI, if_neg (nI_ge (show k < shipsN (m 1) by omega) (by omega)), g3, xb_s, nI_s]
      have hs := setN_s (atQ (m 1) p) k
      by_cases h1 : m 1 (36 + 5 * k) = p
      · rw [if_pos h1, shl_tab k (by omega), or_tab k (by omega) _ hlt]
        rw [if_pos (show atQ (m 1) p k = true from decide_eq_true h1)] at hs
        rw [← hs]
        exact ih n (k + 1) (by omega) (by omega)
      · rw [if_neg h1, or0_tab _ (by omega)]
        rw [if_neg (by unfold atQ; simp [h1])] at hs
        rw [← hs]
        exact ih n (k + 1) (by omega) (by omega)
  exact key (shipsN (m 1)) xF 0 (by omega) (by rw [xF_eq]; omega)
theorem zX9_lostNow {m : xS} (hV : VH (m 1)) : sX9_lostNow m = some (nI (lostS (m 1)), m) := by
  have h7 := hV.s7
  have hsI := hV.sI
  have key : ∀ (r n k : Nat), k + r = shipsN (m 1) → r < n → xloop sX9_lostNow_L4 n (nI (setN (lostQ (m 1)) k), nI k) m = some (nI (lostS (m 1)), m) := by
    intro r
    induction r with
    | zero =>
      intro n k hk hn
      obtain ⟨n, rfl⟩ : ∃ z, n = z + 1 := ⟨n - 1, by omega⟩
      have hk' : k = shipsN (m 1) := by omega
      subst hk'
      rw [xloop_s]
      simp only [sX9_lostNow_L4]
      rw [hsI, if_pos (Int32.le_refl _)]
      rfl
    | succ r ih =>
      intro n k hk hn
      obtain ⟨n, rfl⟩ : ∃ z, n = z + 1 := ⟨n - 1, by omega⟩
      have hlt := setN_lt (lostQ (m 1)) k
      have hp : 2 ^ k ≤ 2 ^ 6 := Nat.pow_le_pow_right (by omega) (by omega)
      have g4 : sX9_shipIs (nI k) 4 m = some (m 1 (37 + 5 * k), m) := by have h := zX9_shipIs (i := k) (f := 4) (by omega) (by omega) m; rw [show 33 + 5 * k + 4 = 37 + 5 * k by omega] at h; exact h
      rw [xloop_s]
      simp only [sX9_lostNow_L4, xlet_e]
      rw [hsI, if_neg (nI_ge (show k < shipsN (m 1) by omega) (by omega)), g4, xb_s, nI_s]
      have hs := setN_s (lostQ (m 1)) k
      rcases (hV.2.2.2.2.2.2 k (by omega)).2.2 with h1 | h1
      · rw [h1, shl0_tab k (by omega), or0_tab _ (by omega)]
        rw [if_neg (by unfold lostQ; rw [h1]; decide)] at hs
        rw [← hs]
        exact ih n (k + 1) (by omega) (by omega)
      · rw [h1, shl_tab k (by omega), or_tab k (by omega) _ hlt]
        rw [if_pos (by unfold lostQ; rw [h1]; decide)] at hs
        rw [← hs]
        exact ih n (k + 1) (by omega) (by omega)
  exact key (shipsN (m 1)) xF 0 (by omega) (by rw [xF_eq]; omega)
theorem zX9_manyIn {m : xS} (hV : VH (m 1)) : sX9_manyIn m = some (nI (inC (m 1)), m) := by
  unfold sX9_manyIn
  rw [zX9_shipsAt hV, xb_s, zX9_bits (by have := atS_lt hV 0; omega), xb_s]
  have := pop_set (atQ (m 1) 0) (k := shipsN (m 1)) (by have := hV.s7; omega)
  unfold atS inC
  rw [this]
theorem pop_lostS {N : Row} (hV : VH N) : popN (lostS N) = lostC N := pop_set (lostQ N) (by have := hV.s7; omega)
/-! rows put by and put back -/
theorem zX9_copy_loop {m : xS} {a b : Nat} (hab : a ≠ b) :
    ∀ (r n k : Nat) (m' : xS), k + r = 242 → r < n → EqX [b] m m' → (∀ j, m' b j = if j < k then m a j else m b j) →
      ∃ m'', xloop (sX9_copy_L2 a b) n (nI k) m' = some ((), m'') ∧ EqX [b] m m'' ∧ ∀ j, m'' b j = if j < 242 then m a j else m b j := by
  intro r
  induction r with
  | zero =>
    intro n k m' hk hn hE hP
    obtain ⟨n, rfl⟩ : ∃ z, n = z + 1 := ⟨n - 1, by omega⟩
    have hk' : k = 242 := by omega
    subst hk'
    rw [xloop_s]
    simp only [sX9_copy_L2]
    rw [if_pos (by decide)]
    exact ⟨m', rfl, hE, hP⟩
  | succ r ih =>
    intro n k m' hk hn hE hP
    obtain ⟨n, rfl⟩ : ∃ z, n = z + 1 := ⟨n - 1, by omega⟩
    have hx : xin (nI k) 242 := xin_n (by omega) (by omega)
    rw [xloop_s]
    simp only [sX9_copy_L2, xlet_e, if_pos hx]
    rw [if_neg (show ¬ (242 : Int32) ≤ nI k from nI_ge (a := k) (b := 242) (by omega) (by decide)), nI_N (by omega), nI_s]
    refine ih n (k + 1) _ (by omega) (by omega) (hE.up _ (by simp)) (fun j => ?_)
    rw [xup_s]
    by_cases e : j = k
    · subst e; rw [upd_s, hE a (by simpa using hab), if_pos (by omega)]
    · rw [upd_n _ _ e, hP j]
      by_cases hj : j < k
      · rw [if_pos hj, if_pos (by omega)]
      · rw [if_neg hj, if_neg (by omega)]
theorem zX9_copy (m : xS) {a b : Nat} (hab : a ≠ b) : ∃ m', sX9_copy a b m = some ((), m') ∧ EqX [b] m m' ∧ ∀ j, m' b j = if j < 242 then m a j else m b j :=
  zX9_copy_loop hab 242 xF 0 m (by omega) (by rw [xF_eq]; omega) (EqX.rf _ m) (fun j => by rw [if_neg (Nat.not_lt_zero j)])
theorem shl9_tab : ∀ k, k < 9 → (1 : Int32) <<< (nI k &&& 31) = nI (2 ^ k) := by decide +kernel
theorem andn_tab : ∀ a, a < 128 → ∀ b, b < 128 → nI a &&& (nI b ^^^ (-1)) = nI (a &&& (127 ^^^ b)) := by decide +kernel
theorem sub_tab : ∀ a, a < 128 → ∀ b, b < 128 → (nI a &&& nI b = nI b ↔ nI b &&& (nI a ^^^ (-1)) = 0) := by decide +kernel
theorem low_tab : ∀ d, d < 128 → ∀ r, r < 7 → d.testBit r = true → (∀ j, j < r → d.testBit j = false) → (nI d &&& (-(nI d))) - 1 = nI (2 ^ r - 1) ∧ popN (2 ^ r - 1) = r := by decide +kernel
theorem bit127 (j : Nat) : Nat.testBit 127 j = decide (j < 7) := by
  by_cases h : j < 7
  · rcases (show j = 0 ∨ j = 1 ∨ j = 2 ∨ j = 3 ∨ j = 4 ∨ j = 5 ∨ j = 6 by omega) with rfl | rfl | rfl | rfl | rfl | rfl | rfl <;> decide
  · rw [Nat.testBit_lt_two_pow (by have : 2 ^ 7 ≤ 2 ^ j := Nat.pow_le_pow_right (by omega) (by omega); omega)]
    simp [h]
theorem set_andn (p q : Nat → Bool) {k : Nat} (hk : k ≤ 7) : nI (setN p k) &&& (nI (setN q k) ^^^ (-1)) = nI (setN (fun s => p s && !q s) k) := by
  rw [andn_tab _ (set_lt hk) _ (set_lt hk)]
  congr 1
  apply Nat.eq_of_testBit_eq
  intro j
  rw [Nat.testBit_and, Nat.testBit_xor, bit127, setN_bit, setN_bit, setN_bit]
  by_cases h : j < k
  · have h7 : j < 7 := by omega
    simp [h, h7]
  · simp [h]
theorem set_inj {p q : Nat → Bool} {k : Nat} (h : setN p k = setN q k) : ∀ j, j < k → p j = q j := by
  intro j hj
  have h1 := setN_bit p k j
  have h2 := setN_bit q k j
  rw [h] at h1
  rw [h1] at h2
  simpa [hj] using h2
theorem cnt_mono {p q : Nat → Bool} : ∀ k, (∀ j, j < k → p j = true → q j = true) → cntN p k ≤ cntN q k ∧ (cntN p k = cntN q k → ∀ j, j < k → p j = q j) := by
  intro k
  induction k with
  | zero => intro _; exact ⟨Nat.le_refl _, fun _ j hj => absurd hj (Nat.not_lt_zero j)⟩
  | succ k ih =>
    intro h
    obtain ⟨h1, h2⟩ := ih (fun j hj => h j (by omega))
    have hk := h k (by omega)
    rw [cntN_s, cntN_s]
    by_cases hp : p k = true
    · have hq := hk hp
      rw [if_pos hp, if_pos hq]
      refine ⟨by omega, fun he j hj => ?_⟩
      by_cases e : j = k
      · subst e; rw [hp, hq]
      · exact h2 (by omega) j (by omega)
    · rw [if_neg hp]
      by_cases hq : q k = true
      · rw [if_pos hq]
        exact ⟨by omega, fun he => by omega⟩
      · rw [if_neg hq]
        refine ⟨h1, fun he j hj => ?_⟩
        by_cases e : j = k
        · subst e
          simp only [Bool.not_eq_true] at hp hq
          rw [hp, hq]
        · exact h2 he j (by omega)
