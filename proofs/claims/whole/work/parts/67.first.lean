/-! ===== the first worlds ===== -/
def cI : xS := fun k j => if j = 1 then (if k = 1 then 200 else if k = 11 then 200 else 0) else if j = 0 then (if k = 39 then 1 else if k = 42 then 1 else 0) else 0
def mI : xS := fun k j => if k = 1 then (if j = 3 then 200 else if j = 6 then 1 else 0) else 0
theorem relI : ∃ c m w, sX0_renew 1 8 cI = some ((), c) ∧ sX9_flat 8 mI = some (w, m) ∧ Rel c m := by
  obtain ⟨c', g1, g2, g3, g4⟩ := zX0_renew cI 8
  obtain ⟨m', k1, k2, k3, k4, k5, k6, k7⟩ := zX9_flat mI 8
  have e : ∀ k, ¬ k ∈ [1, 2, 3, 4] → c' k = cI k := g2
  have f : ∀ k, ¬ k ∈ [1, 5] → m' k = mI k := k2
  have z : ∀ q, ¬ q = 1 → ¬ q = 3 → ¬ q = 5 → ¬ q = 6 → (q < 9 ∨ 33 ≤ q) → m' 1 q = 0 := fun q a b c d h => by
    rw [k6 q a c h]
    show (if q = 3 then (200 : Int32) else if q = 6 then 1 else 0) = 0
    rw [if_neg b, if_neg d]
  have z3 : m' 1 3 = 200 := by rw [k6 3 (by omega) (by omega) (by omega)]; rfl
  have z6 : m' 1 6 = 1 := by rw [k6 6 (by omega) (by omega) (by omega)]; rfl
  have c0 : ∀ k j, 2 ≤ j → ¬ k ∈ [1, 2, 3, 4] → c' k j = 0 := fun k j hj hk => by
    rw [e k hk]
    show (if j = 1 then _ else if j = 0 then _ else (0 : Int32)) = 0
    rw [if_neg (by omega), if_neg (by omega)]
  have cZ : ∀ k j, k ≠ 1 → k ≠ 11 → k ≠ 39 → k ≠ 42 → ¬ k ∈ [1, 2, 3, 4] → c' k j = 0 := fun k j h1 h2 h3 h4 hk => by
    rw [e k hk]
    show (if j = 1 then (if k = 1 then (200 : Int32) else if k = 11 then 200 else 0) else if j = 0 then (if k = 39 then 1 else if k = 42 then 1 else 0) else 0) = 0
    rw [if_neg h1, if_neg h2, if_neg h3, if_neg h4]
    split
    · rfl
    · split <;> rfl
  have mZ : ∀ k j, ¬ k = 1 → ¬ k = 5 → m' k j = 0 := fun k j h1 h2 => by
    rw [f k (by simp; omega)]
    show (if k = 1 then _ else (0 : Int32)) = 0
    rw [if_neg h1]
  have hl : ∀ u, u < 2 → m' 1 (138 + 52 * u) = 0 := fun u hu => z _ (by omega) (by omega) (by omega) (by omega) (by omega)
  have hL : ∀ u, u < 2 → lenN (m' 1) u = 0 := fun u hu => by unfold lenN; rw [hl u hu]; rfl
  have hVT : ∀ u, u < 2 → VT (m' 1) u := fun u hu => ⟨by rw [hl u hu]; decide, by rw [hl u hu]; decide, Or.inl (hL u hu)⟩
  have hLaw : ∀ u k, u < 2 → (k = 5 ∨ k = 8) → LawR c' k (m' 1) u := fun u k hu hk => ⟨by rw [hl u hu]; exact cZ k 0 (by omega) (by omega) (by omega) (by omega) (by simp; omega), fun j hj => absurd hj (by rw [hL u hu]; exact Nat.not_lt_zero j)⟩
  refine ⟨c', m', _, g1, k1, ⟨⟨?_, ?_, cellsR_i.mpr (fun j hj t ht => ?_), hLaw 0 5 (by omega) (Or.inl rfl), hLaw 1 8 (by omega) (Or.inr rfl)⟩, ⟨?_, ?_⟩, ⟨?_, ?_, fun j hj => ?_⟩, ⟨?_, ?_, ?_, fun j hj => ?_, fun j hj => ?_⟩, ?_, ?_⟩, k3, ?_, fun hz => ?_, fun i hi => ?_, fun q a b => ?_, ?_⟩
  · rw [g3, if_neg (by decide), if_pos rfl, k4]
  · rw [g3, if_neg (by decide), if_neg (by decide), z3]; rfl
  · rw [show 1 + 1 + t = 2 + t by omega, g4 j hj t ht, k7 j hj t ht]
  · rw [g3, if_neg (by decide), if_neg (by decide), z 4 (by omega) (by omega) (by omega) (by omega) (by omega)]; rfl
  · rw [g3, if_pos rfl, k5]
  · rw [cZ 21 0 (by omega) (by omega) (by omega) (by omega) (by simp), z 2 (by omega) (by omega) (by omega) (by omega) (by omega)]
  · rw [cZ 21 1 (by omega) (by omega) (by omega) (by omega) (by simp), z 0 (by omega) (by omega) (by omega) (by omega) (by omega)]
  · rw [cZ _ _ (by omega) (by omega) (by omega) (by omega) (by simp), cZ _ _ (by omega) (by omega) (by omega) (by omega) (by simp), cZ _ _ (by omega) (by omega) (by omega) (by omega) (by simp), cZ _ _ (by omega) (by omega) (by omega) (by omega) (by simp), cZ _ _ (by omega) (by omega) (by omega) (by omega) (by simp), z _ (by omega) (by omega) (by omega) (by omega) (by omega), z _ (by omega) (by omega) (by omega) (by omega) (by omega), z _ (by omega) (by omega) (by omega) (by omega) (by omega), z _ (by omega) (by omega) (by omega) (by omega) (by omega), z _ (by omega) (by omega) (by omega) (by omega) (by omega)]
    exact ⟨rfl, rfl, rfl, rfl, rfl⟩
  · rw [e 39 (by simp), z6]; rfl
  · rw [e 39 (by simp), z 7 (by omega) (by omega) (by omega) (by omega) (by omega)]; rfl
  · rw [c0 39 2 (by omega) (by simp), z 8 (by omega) (by omega) (by omega) (by omega) (by omega)]
  · rw [cZ 40 j (by omega) (by omega) (by omega) (by omega) (by simp), z _ (by omega) (by omega) (by omega) (by omega) (by omega)]
  · rw [cZ 41 j (by omega) (by omega) (by omega) (by omega) (by simp), z _ (by omega) (by omega) (by omega) (by omega) (by omega)]
  · refine ⟨by rw [k4]; decide, by rw [z 2 (by omega) (by omega) (by omega) (by omega) (by omega)]; decide, by rw [z3]; decide, by rw [z 4 (by omega) (by omega) (by omega) (by omega) (by omega)]; decide, by rw [k5, k4]; decide, by rw [z 7 (by omega) (by omega) (by omega) (by omega) (by omega)]; decide, by rw [z 8 (by omega) (by omega) (by omega) (by omega) (by omega)]; decide, fun j hj => ?_, fun j hj => by rw [z _ (by omega) (by omega) (by omega) (by omega) (by omega)]; decide, hVT 0 (by omega), hVT 1 (by omega)⟩
    rw [z (33 + 5 * j) (by omega) (by omega) (by omega) (by omega) (by omega), z (37 + 5 * j) (by omega) (by omega) (by omega) (by omega) (by omega), z 2 (by omega) (by omega) (by omega) (by omega) (by omega)]
    exact ⟨by decide, fun q => absurd q (Nat.not_lt_zero j), Or.inl rfl⟩
  · rw [z 0 (by omega) (by omega) (by omega) (by omega) (by omega)]; decide
  · rw [cZ 0 6 (by omega) (by omega) (by omega) (by omega) (by simp), mZ 0 3 (by omega) (by omega)]
  · exact absurd (mZ 0 3 (by omega) (by omega)) hz
  · refine ⟨by rw [cZ _ _ (by omega) (by omega) (by omega) (by omega) (by simp; omega), mZ 11 _ (by omega) (by omega)], by rw [cZ _ _ (by omega) (by omega) (by omega) (by omega) (by simp; omega), mZ 12 _ (by omega) (by omega)], fun j hj => by rw [cZ _ _ (by omega) (by omega) (by omega) (by omega) (by simp; omega), mZ 13 _ (by omega) (by omega)], Or.inl (mZ 11 _ (by omega) (by omega)), by rw [mZ 12 _ (by omega) (by omega)]; decide⟩
  · rw [cZ 65 _ (by omega) (by omega) (by omega) (by omega) (by simp), mZ 4 _ (by omega) (by omega)]
  · have h0 := mZ 0 16 (by omega) (by omega)
    exact ⟨by rw [h0]; exact cZ 54 0 (by omega) (by omega) (by omega) (by omega) (by simp), by rw [h0]; decide, fun j hj => absurd hj (by rw [h0]; exact Nat.not_lt_zero j)⟩
