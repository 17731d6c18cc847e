/-! ===== pure: basics ===== -/
theorem xb_s {α β : Type} (x : α) (s : xS) (k : α → xS → Option β) : xbind (some (x, s)) k = k x s := Eq.trans (Eq.refl _) (Eq.refl _)
theorem xlet_e {α β : Type} (x : α) (f : α → β) : xlet x f = f x := Eq.trans (Eq.refl _) (Eq.refl _)
def bI (p : Prop) [Decidable p] : Int32 := if p then 1 else 0
theorem bI_t {p : Prop} [Decidable p] (h : p) : bI p = 1 := if_pos h
theorem bI_f {p : Prop} [Decidable p] (h : ¬ p) : bI p = 0 := if_neg h
theorem bI_0 {p : Prop} [Decidable p] : (bI p = 0) ↔ ¬ p := by
  unfold bI
  by_cases h : p
  · simp [h]
  · simp [h]
theorem bI_1 {p : Prop} [Decidable p] : (bI p = 1) ↔ p := by
  unfold bI
  by_cases h : p
  · simp [h]
  · simp [h]
theorem bI_01 {p : Prop} [Decidable p] : (bI p = 0 ∨ bI p = 1) := by
  unfold bI
  by_cases h : p
  · simp [h]
  · simp [h]
theorem i_le {a b : Int32} : a ≤ b ↔ a.toInt ≤ b.toInt := Int32.le_iff_toInt_le
theorem i_lt {a b : Int32} : a < b ↔ a.toInt < b.toInt := Int32.lt_iff_toInt_lt
theorem i_eq {a b : Int32} : a = b ↔ a.toInt = b.toInt := Int32.toInt_inj.symm
theorem i_lb (a : Int32) : -2147483648 ≤ a.toInt := by have := Int32.minValue_le_toInt a; simpa using this
theorem i_ub (a : Int32) : a.toInt ≤ 2147483647 := by have := Int32.toInt_lt a; omega
/-- sums without wrap-around -/
theorem i_add {a b : Int32} (h1 : -2147483648 ≤ a.toInt + b.toInt) (h2 : a.toInt + b.toInt ≤ 2147483647) : (a + b).toInt = a.toInt + b.toInt := by
  rw [Int32.toInt_add]
  exact Int.bmod_eq_of_le (by omega) (by omega)
theorem i_sub {a b : Int32} (h1 : -2147483648 ≤ a.toInt - b.toInt) (h2 : a.toInt - b.toInt ≤ 2147483647) : (a - b).toInt = a.toInt - b.toInt := by
  rw [Int32.toInt_sub]
  exact Int.bmod_eq_of_le (by omega) (by omega)
theorem i_mul {a b : Int32} (h1 : -2147483648 ≤ a.toInt * b.toInt) (h2 : a.toInt * b.toInt ≤ 2147483647) : (a * b).toInt = a.toInt * b.toInt := by
  rw [Int32.toInt_mul]
  exact Int.bmod_eq_of_le (by omega) (by omega)
theorem i_nI {n : Nat} (h : n < 2147483648) : (nI n).toInt = (n : Int) := nI_toInt (by omega)
theorem i_of {x : Int32} {n : Nat} (h : n < 2147483648) (e : x.toInt = (n : Int)) : x = nI n := by
  rw [i_eq, i_nI h, e]
theorem i_N {x : Int32} : x.toNatClampNeg = x.toInt.toNat := rfl
theorem nI_N {n : Nat} (h : n < 2147483648) : (nI n).toNatClampNeg = n := nI_clamp (by omega)
theorem xin_n {i n : Nat} (h : i < n) (hn : i < 2147483648) : xin (nI i) n := by
  unfold xin
  rw [i_nI hn]
  omega
theorem xin_of {x : Int32} {n : Nat} (h1 : 0 ≤ x.toInt) (h2 : x.toInt < (n : Int)) : xin x n := ⟨h1, h2⟩
theorem nI_ex {x : Int32} {n : Nat} (h1 : 0 ≤ x.toInt) (h2 : x.toInt < (n : Int)) : ∃ i : Nat, i < n ∧ x = nI i := by
  refine ⟨x.toInt.toNat, by omega, i_of ?_ ?_⟩
  · have := i_ub x; omega
  · omega
/-- rows that stay -/
def EqX (L : List Nat) (c c' : xS) : Prop := ∀ k, k ∉ L → c' k = c k
theorem EqX.rf (L : List Nat) (c : xS) : EqX L c c := fun _ _ => rfl
theorem EqX.tr {L : List Nat} {a b c : xS} (h1 : EqX L a b) (h2 : EqX L b c) : EqX L a c := fun k hk => (h2 k hk).trans (h1 k hk)
theorem EqX.mono {L M : List Nat} {a b : xS} (h : EqX L a b) (hm : ∀ k ∈ L, k ∈ M) : EqX M a b := fun k hk => h k (fun q => hk (hm k q))
theorem EqX.up {L : List Nat} {a b : xS} (h : EqX L a b) {k : Nat} (f : Nat → Int32) (hk : k ∈ L) : EqX L a (xup b k f) := fun j hj => by
  rw [xup_n b f (fun e => hj (by rw [e]; exact hk))]
  exact h j hj
theorem EqX.at {L : List Nat} {a b : xS} (h : EqX L a b) {k : Nat} (hk : k ∉ L) : b k = a k := h k hk
/-! ===== pure: small functions ===== -/
theorem zX8_within (a b c : Int32) (s : xS) : sX8_within a b c s = some (bI (b ≤ a ∧ a ≤ c), s) := by
  unfold sX8_within bI
  simp only [xlet_e]
  by_cases h1 : a < b
  · have : ¬ b ≤ a := by rw [i_le]; rw [i_lt] at h1; omega
    simp [h1, this]
  · have h1' : b ≤ a := by rw [i_le]; rw [i_lt] at h1; omega
    by_cases h2 : c < a
    · have : ¬ a ≤ c := by rw [i_le]; rw [i_lt] at h2; omega
      simp [h1, h2, this]
    · have h2' : a ≤ c := by rw [i_le]; rw [i_lt] at h2; omega
      simp [h1, h2, h1', h2']
theorem zX9_within (a b c : Int32) (s : xS) : sX9_within a b c s = some (bI (b ≤ a ∧ a ≤ c), s) := zX8_within a b c s
theorem zX8_isCell (p : Int32) (s : xS) : sX8_isCell p s = some (bI (0 ≤ p ∧ p ≤ s 1 0 - 1), s) := by
  simp only [sX8_isCell, zX8_within, xb_s, bI_01, if_true]
theorem zX8_isShip (p : Int32) (s : xS) : sX8_isShip p s = some (bI (0 ≤ p ∧ p ≤ s 21 0 - 1), s) := by
  simp only [sX8_isShip, zX8_within, xb_s, bI_01, if_true]
theorem zX8_isUse (p : Int32) (s : xS) : sX8_isUse p s = some (bI (0 ≤ p ∧ p ≤ 1), s) := by
  simp only [sX8_isUse, zX8_within, xb_s, bI_01, if_true]
theorem zX8_refuse {e : Nat} (he : e < 6) (s : xS) : sX8_refuse (nI e) s = some (-1000000000 - nI e, xup s 65 (upd (s 65) e (s 65 e + 1))) := by
  have h1 : xin (nI e) 6 := xin_n he (by omega)
  simp only [sX8_refuse, xlet_e, if_pos h1, nI_N (show e < 2147483648 by omega)]
theorem b01 {c : Prop} [Decidable c] (s : xS) : (if (if c then (1 : Int32) else 0) = 0 ∨ (if c then (1 : Int32) else 0) = 1 then some ((if c then (1 : Int32) else 0), s) else none) = some (bI c, s) := by
  unfold bI
  by_cases h : c
  · simp [h]
  · simp [h]
theorem b10 {c : Prop} [Decidable c] (s : xS) : (if (if c then (0 : Int32) else 1) = 0 ∨ (if c then (0 : Int32) else 1) = 1 then some ((if c then (0 : Int32) else 1), s) else none) = some (bI (¬ c), s) := by
  unfold bI
  by_cases h : c
  · simp [h]
  · simp [h]
theorem b_r {p : Prop} [Decidable p] (s : xS) : (if bI p = 0 ∨ bI p = 1 then some (bI p, s) else none) = some (bI p, s) := if_pos bI_01
theorem bif0 {β : Type} {p : Prop} [Decidable p] (A B : β) : (if bI p = 0 then A else B) = if p then B else A := by
  unfold bI
  by_cases h : p
  · simp [h]
  · simp [h]
