/-! ===== TEXT: both readers ===== -/
def FrP (c0 m0 c m : xS) : Prop := EqX [49, 51, 52] c0 c ∧ EqX [0, 7] m0 m ∧ ∀ q, q ≠ 7 → q ≠ 8 → q ≠ 10 → q ≠ 12 → m 0 q = m0 0 q
def EnvP (c0 m0 : xS) (T u : Nat) : Prop := T ≤ 50 ∧ u < 2 ∧ m0 1 7 = nI T ∧ m0 0 9 = nI u ∧ ∀ j, j < 50 → c0 50 j = m0 1 (68 + j) ∧ 0 ≤ (m0 1 (68 + j)).toInt ∧ (m0 1 (68 + j)).toInt ≤ 255
def PS (c0 m0 : xS) (T u : Nat) (c m : xS) (P C D h : Nat) : Prop :=
  (c 49 1 = nI T ∧ c 49 2 = nI u ∧ c 49 3 = nI P ∧ c 51 0 = nI C) ∧ (m 0 7 = nI P ∧ m 0 8 = nI D ∧ m 0 10 = 0 ∧ m 0 12 = nI C) ∧ (P ≤ T ∧ C ≤ P) ∧
  ((∀ j, j < C → c 52 j = ce (m 7 j)) ∧ hts (m 7) C = h ∧ ∀ i, i < C → okE (m 7 i) (hts (m 7) i)) ∧ FrP c0 m0 c m
def BadP (c0 m0 : xS) (T : Nat) (c m : xS) : Prop := m 0 10 = 1 ∧ (∃ Q, Q ≤ T ∧ c 49 3 = nI Q ∧ m 0 7 = nI Q) ∧ FrP c0 m0 c m
/-- what is read next -/
def btP (m0 : xS) (T P : Nat) : Int32 := if P < T then m0 1 (68 + P) else -1
section
variable {c0 m0 : xS} {T u : Nat}
theorem bt_ok (hE : EnvP c0 m0 T u) {P : Nat} : btP m0 T P = -1 ∨ (P < T ∧ 0 ≤ (btP m0 T P).toInt ∧ (btP m0 T P).toInt ≤ 255) := by
  obtain ⟨e1, e2, e3, e4, e5⟩ := hE
  unfold btP
  by_cases h : P < T
  · rw [if_pos h]; exact Or.inr ⟨h, (e5 P (by omega)).2⟩
  · rw [if_neg h]; exact Or.inl rfl
theorem bt_in (hE : EnvP c0 m0 T u) {P : Nat} {v : Nat} (hv : v < 2147483648) (h : btP m0 T P = nI v) : P < T := by
  rcases bt_ok hE (P := P) with h2 | h2
  · rw [h2] at h
    have : (-1 : Int32).toInt = (nI v).toInt := by rw [h]
    rw [i_nI hv] at this
    have e : (-1 : Int32).toInt = -1 := rfl
    omega
  · exact h2.1
theorem zX5_upcoming (hE : EnvP c0 m0 T u) {c m : xS} {P C D h : Nat} (hP : PS c0 m0 T u c m P C D h) : sX5_upcoming c = some (btP m0 T P, c) := by
  obtain ⟨e1, e2, e3, e4, e5⟩ := hE
  obtain ⟨⟨a1, a2, a3, a4⟩, -, ⟨p1, p2⟩, -, f1, f2, f3⟩ := hP
  unfold sX5_upcoming btP
  rw [a1, a3]
  by_cases q : P < T
  · have hx : xin (nI P) 50 := xin_n (by omega) (by omega)
    rw [if_neg (nI_ge q (by omega)), if_pos q, if_pos hx, nI_N (by omega), f1 50 (by simp), (e5 P (by omega)).1]
  · rw [if_pos (nI_le (by omega) (by omega)), if_neg q]
theorem zX9_here (hE : EnvP c0 m0 T u) {c m : xS} {P C D h : Nat} (hP : PS c0 m0 T u c m P C D h) : sX9_here m = some (btP m0 T P, m) := by
  obtain ⟨e1, e2, e3, e4, e5⟩ := hE
  obtain ⟨-, ⟨b1, b2, b3, b4⟩, ⟨p1, p2⟩, -, f1, f2, f3⟩ := hP
  unfold sX9_here btP
  rw [b3, if_pos rfl, b1, f2 1 (by simp), e3]
  by_cases q : P < T
  · have e68 : (68 : Int32) + nI P = nI (68 + P) := by rw [show (68 : Int32) = nI 68 from rfl, nI_add]
    have hx : xin (nI (68 + P)) 242 := xin_n (by omega) (by omega)
    rw [if_neg (nI_ge q (by omega)), if_pos q, e68, if_pos hx, nI_N (by omega)]
  · rw [if_pos (nI_le (by omega) (by omega)), if_neg q]
theorem here_bad {m : xS} (h : m 0 10 = 1) : sX9_here m = some (-1, m) := by
  unfold sX9_here
  rw [h, if_neg (by decide)]
theorem same0 (m : xS) (q : Nat) : xup m 0 (upd (m 0) q (m 0 q)) = m := by
  funext k
  by_cases e : k = 0
  · subst e; rw [xup_s, upd_same]
  · rw [xup_n _ _ e]
def advM (m : xS) : xS := xup m 0 (upd (m 0) 7 (m 0 7 + 1))
def advC (c : xS) : xS := xup c 49 (upd (c 49) 3 (c 49 3 + 1))
theorem zX9_takes (hE : EnvP c0 m0 T u) {c m : xS} {P C D h : Nat} (hP : PS c0 m0 T u c m P C D h) (v : Int32) : sX9_takes v m = if btP m0 T P = v then some (1, advM m) else some (0, m) := by
  unfold sX9_takes sX9_takes_L13 sX9_takes_L28
  rw [zX9_here hE hP, xb_s]
  simp only [xlet_e]
  by_cases q : btP m0 T P = v
  · simp only [if_pos q, if_neg (show ¬ (1 : Int32) = 0 by decide), if_pos (show (1 : Int32) = 0 ∨ (1 : Int32) = 1 from Or.inr rfl)]
    rfl
  · simp only [if_neg q, if_true]
    rw [Int32.add_zero, same0, if_pos (Or.inl trivial)]
theorem takes_bad {m : xS} (h : m 0 10 = 1) {v : Nat} (hv : v < 2147483648) : sX9_takes (nI v) m = some (0, m) := by
  unfold sX9_takes sX9_takes_L13 sX9_takes_L28
  have q : ¬ (-1 : Int32) = nI v := by
    intro z
    have : (-1 : Int32).toInt = (nI v).toInt := by rw [z]
    rw [i_nI hv] at this
    have e : (-1 : Int32).toInt = -1 := rfl
    omega
  rw [here_bad h, xb_s]
  simp only [xlet_e, if_neg q, if_true]
  rw [Int32.add_zero, same0, if_pos (Or.inl trivial)]
theorem codes_bad {m : xS} (h : m 0 10 = 1) (v : Int32) : sX9_codes v m = some ((), m) := by
  unfold sX9_codes
  rw [h, if_neg (by decide)]
/-- one byte on -/
theorem PS.adv {c m : xS} {P C D h : Nat} (hP : PS c0 m0 T u c m P C D h) (hT : P < T) : PS c0 m0 T u (advC c) (advM m) (P + 1) C D h := by
  obtain ⟨⟨a1, a2, a3, a4⟩, ⟨b1, b2, b3, b4⟩, ⟨p1, p2⟩, ⟨g1, g2, g3⟩, f1, f2, f3⟩ := hP
  unfold advC advM
  refine ⟨⟨?_, ?_, ?_, ?_⟩, ⟨?_, ?_, ?_, ?_⟩, ⟨hT, by omega⟩, ⟨fun j hj => ?_, ?_, ?_⟩, f1.up _ (by simp), f2.up _ (by simp), fun q q1 q2 q3 q4 => ?_⟩
  · rw [xup_s, upd_n _ _ (by decide)]; exact a1
  · rw [xup_s, upd_n _ _ (by decide)]; exact a2
  · rw [xup_s, upd_s, a3, nI_s]
  · rw [xup_n _ _ (by decide)]; exact a4
  · rw [xup_s, upd_s, b1, nI_s]
  · rw [xup_s, upd_n _ _ (by decide)]; exact b2
  · rw [xup_s, upd_n _ _ (by decide)]; exact b3
  · rw [xup_s, upd_n _ _ (by decide)]; exact b4
  · rw [xup_n _ _ (by decide), xup_n _ _ (by decide)]; exact g1 j hj
  · rw [xup_n _ _ (by decide)]; exact g2
  · rw [xup_n _ _ (by decide)]; exact g3
  · rw [xup_s, upd_n _ _ q1]; exact f3 q q1 q2 q3 q4
/-- one code put down on both sides -/
theorem PS.code (hE : EnvP c0 m0 T u) {c m : xS} {P C D h : Nat} (hP : PS c0 m0 T u c m P C D h) (hC : C < P) {w : Int32} (hw : okE w h) : ∃ c' m', sX4_add 51 (ce w) c = some ((), c') ∧ sX9_codes w m = some ((), m') ∧ PS c0 m0 T u c' m' P (C + 1) D (if w < 20000 then h + 1 else if w = 20010 then h else h - 1) := by
  obtain ⟨e1, -⟩ := hE
  obtain ⟨⟨a1, a2, a3, a4⟩, ⟨b1, b2, b3, b4⟩, ⟨p1, p2⟩, ⟨g1, g2, g3⟩, f1, f2, f3⟩ := hP
  have hx : xin (nI C) 50 := xin_n (by omega) (by omega)
  have hx2 : xin (nI C) 60 := xin_n (by omega) (by omega)
  unfold sX4_add sX9_codes
  simp only [xlet_e]
  rw [a4, b3, b4, if_neg (show ¬ (50 : Int32) ≤ nI C from nI_ge (a := C) (b := 50) (by omega) (by omega)), if_pos hx, if_pos rfl, if_pos hx2, nI_N (by omega)]
  have pre : ∀ i, i ≤ C → hts (upd (m 7) C w) i = hts (m 7) i := fun i hi => hts_cg i (fun j hj => upd_n _ _ (by omega))
  refine ⟨_, _, rfl, rfl, ⟨?_, ?_, ?_, ?_⟩, ⟨?_, ?_, ?_, ?_⟩, ⟨p1, by omega⟩, ⟨fun j hj => ?_, ?_, fun i hi => ?_⟩, (f1.up _ (by simp)).up _ (by simp), (f2.up _ (by simp)).up _ (by simp), fun q q1 q2 q3 q4 => ?_⟩
  · rw [xup_n _ _ (by decide), xup_n _ _ (by decide)]; exact a1
  · rw [xup_n _ _ (by decide), xup_n _ _ (by decide)]; exact a2
  · rw [xup_n _ _ (by decide), xup_n _ _ (by decide)]; exact a3
  · rw [xup_s, upd_s, xup_n _ _ (by decide), a4, nI_s]
  · rw [xup_s, upd_n _ _ (by decide), xup_n _ _ (by decide)]; exact b1
  · rw [xup_s, upd_n _ _ (by decide), xup_n _ _ (by decide)]; exact b2
  · rw [xup_s, upd_n _ _ (by decide), xup_n _ _ (by decide)]; exact b3
  · rw [xup_s, upd_s, xup_n _ _ (by decide), b4, nI_s]
  · rw [xup_n _ _ (by decide), xup_s, xup_n _ _ (by decide), xup_s]
    by_cases e : j = C
    · subst e; rw [upd_s, upd_s]
    · rw [upd_n _ _ e, upd_n _ _ e]; exact g1 j (by omega)
  · rw [xup_n _ _ (by decide), xup_s, hts_s, upd_s, pre C (Nat.le_refl _), g2]
  · rw [xup_n _ _ (by decide), xup_s, pre i (by omega)]
    by_cases e : i = C
    · subst e; rw [upd_s, g2]; exact hw
    · rw [upd_n _ _ e]; exact g3 i (by omega)
  · rw [xup_s, upd_n _ _ q4, xup_n _ _ (by decide)]; exact f3 q q1 q2 q3 q4
end
