/-! ===== BAY, TELL, IMAGE, RESTORE ===== -/
theorem hts_cg {a b : Nat → Int32} : ∀ L, (∀ i, i < L → a i = b i) → hts a L = hts b L := by
  intro L
  induction L with
  | zero => intro _; rfl
  | succ L ih =>
    intro h
    rw [hts_s, hts_s, ih (fun i hi => h i (by omega)), h L (by omega)]
theorem okC_cg {a b : Nat → Int32} {L : Nat} (h : ∀ i, i < L → a i = b i) (ha : okC a L) : okC b L := by
  obtain ⟨h1, h2⟩ := ha
  refine ⟨by rw [← hts_cg L h]; exact h1, fun i hi => ?_⟩
  rw [← h i hi, ← hts_cg i (fun j hj => h j (by omega))]
  exact h2 i hi
theorem VT_242 {N N' : Row} {u : Nat} (hu : u < 2) (h : ∀ j, j < 242 → N' j = N j) (hv : VT N u) : VT N' u := by
  obtain ⟨h1, h2, h3⟩ := hv
  have e : N' (138 + 52 * u) = N (138 + 52 * u) := h _ (by omega)
  have el : lenN N' u = lenN N u := by unfold lenN; rw [e]
  have hl : lenN N u ≤ 50 := by unfold lenN; rw [i_N]; omega
  refine ⟨by rw [e]; exact h1, by rw [e]; exact h2, ?_⟩
  rw [el]
  rcases h3 with h3 | h3
  · exact Or.inl h3
  · exact Or.inr (okC_cg (fun i hi => (h _ (by omega)).symm) h3)
theorem VN.ag {N N' : Row} (h : ∀ j, j < 242 → N' j = N j) (hv : VN N) : VN N' := by
  have hV := hv
  obtain ⟨a1, a2, a3, a4, a5, a6, a7, a8, a9, a10, a11⟩ := hv
  exact hV.chg (h _ (by omega)) (h _ (by omega)) (by rw [h _ (by omega)]; exact a3) (by rw [h _ (by omega)]; exact a4) (by rw [h _ (by omega)]; exact a5) (by rw [h _ (by omega)]; exact a6) (by rw [h _ (by omega)]; exact a7) (fun i hi => by rw [h _ (by omega), h _ (by omega), h _ (by omega)]; exact a8 i hi) (fun i hi => by rw [h _ (by omega)]; exact a9 i hi) ⟨VT_242 (by omega) h a10, VT_242 (by omega) h a11⟩
theorem LawR.ag2 {c : xS} {k : Nat} {N N' : Row} {u : Nat} (hu : u < 2) (hv : VT N u) (h : LawR c k N u) (hN : ∀ j, j < 242 → N' j = N j) : LawR c k N' u := by
  obtain ⟨a, b⟩ := h
  have hl := (VT_len hv).1
  have el : lenN N' u = lenN N u := by unfold lenN; rw [hN _ (by omega)]
  refine ⟨by rw [hN _ (by omega)]; exact a, fun j hj => ?_⟩
  rw [el] at hj
  rw [show codeN N' u j = codeN N u j from hN _ (by omega)]
  exact b j hj
theorem SnapR.ag {c : xS} {b f d : Nat} {N N' : Row} (h : SnapR c b f d N) (hN : ∀ j, j < 242 → N' j = N j) : SnapR c b f d N' := by
  obtain ⟨⟨b0, b1, b2, b3, b4⟩, hL, hF, hD, hV, hH⟩ := h
  have vt := hV.2.2.2.2.2.2.2.2.2
  refine ⟨⟨by rw [hN _ (by omega)]; exact b0, by rw [hN _ (by omega)]; exact b1, fun j hj => ?_, b3.ag2 (by omega) vt.1 hN, b4.ag2 (by omega) vt.2 hN⟩, hL.ag (hN _ (by omega)) (hN _ (by omega)), hF.ag (hN _ (by omega)) (hN _ (by omega)) (fun j a b => hN j (by omega)), hD.ag (hN _ (by omega)) (hN _ (by omega)) (hN _ (by omega)) (fun j a b => hN j (by omega)), hV.ag hN, by rw [hN _ (by omega)]; exact hH⟩
  rw [hN _ (by omega), hN _ (by omega), hN _ (by omega)]; exact b2 j hj
theorem zX4_copyFrom {c : xS} {f g u : Nat} {N : Row} (hL : LawR c g N u) (hl : lenN N u ≤ 50) (hd : f + 1 < g ∨ g + 1 < f) : ∃ c', sX4_copyFrom f g c = some ((), c') ∧ LawR c' f N u ∧ EqX [f, f + 1] c c' := by
  obtain ⟨h0, h1⟩ := hL
  unfold sX4_copyFrom
  simp only [xlet_e]
  refine ⟨_, rfl, ⟨?_, fun j hj => ?_⟩, ((EqX.rf _ c).up _ (by simp)).up _ (by simp)⟩
  · rw [xup_n _ _ (by omega), xup_s, upd_s]; exact h0
  · rw [xup_s]
    refine (cpy_at (by show j < 50; omega)).trans ?_
    rw [xup_n _ _ (by omega)]; exact h1 j hj
theorem zX2_copyFrom {c : xS} {f g : Nat} {N : Row} (hD : DeskR c g N) (hd : f + 2 < g ∨ g + 2 < f) : ∃ c', sX2_copyFrom f g c = some ((), c') ∧ DeskR c' f N ∧ EqX [f, f + 1, f + 2] c c' := by
  obtain ⟨h0, h1, h2, h3, h4⟩ := hD
  unfold sX2_copyFrom
  simp only [xlet_e]
  refine ⟨_, rfl, ⟨?_, ?_, ?_, fun j hj => ?_, fun j hj => ?_⟩, ((((((EqX.rf _ c).up _ (by simp)).up _ (by simp)).up _ (by simp)).up _ (by simp)).up _ (by simp))⟩
  · rw [xup_n _ _ (by omega), xup_n _ _ (by omega), xup_s, upd_n _ _ (by decide), xup_s, upd_n _ _ (by decide), xup_s, upd_s]; exact h0
  · rw [xup_n _ _ (by omega), xup_n _ _ (by omega), xup_s, upd_n _ _ (by decide), xup_s, upd_s, xup_n _ _ (by omega)]; exact h1
  · rw [xup_n _ _ (by omega), xup_n _ _ (by omega), xup_s, upd_s, xup_n _ _ (by omega), xup_n _ _ (by omega)]; exact h2
  · rw [xup_n _ _ (by omega), xup_s]
    refine (cpy_at (by show j < 50; omega)).trans ?_
    rw [xup_n _ _ (by omega), xup_n _ _ (by omega), xup_n _ _ (by omega)]; exact h3 j hj
  · rw [xup_s]
    refine (cpy_at (by show j < 20; omega)).trans ?_
    rw [xup_n _ _ (by omega), xup_n _ _ (by omega), xup_n _ _ (by omega), xup_n _ _ (by omega)]; exact h4 j hj
def LB (b : Nat) : List Nat := [b, b + 1, b + 2, b + 3, b + 4, b + 5, b + 7, b + 8]
theorem zX0_copyFrom {c : xS} {f g : Nat} {N : Row} (hB : BayR c g N) (hL : LensR c g N) (hv : VT N 0 ∧ VT N 1) (hd : f + 9 < g ∨ g + 9 < f) : ∃ c', sX0_copyFrom f g c = some ((), c') ∧ BayR c' f N ∧ LensR c' f N ∧ EqX (LB f) c c' := by
  obtain ⟨b0, b1, b2, b3, b4⟩ := hB
  obtain ⟨l1, l2⟩ := hL
  have v0 := (VT_len hv.1).1
  have v1 := (VT_len hv.2).1
  unfold sX0_copyFrom
  simp only [xlet_e]
  generalize h1 : xup c f (upd (c f) 0 (c g 0)) = c1
  generalize h2 : xup c1 f (upd (c1 f) 1 (c1 g 1)) = c2
  generalize h3 : xup c2 f (upd (c2 f) 2 (c2 g 2)) = c3
  generalize h4 : xup c3 f (upd (c3 f) 3 (c3 g 3)) = c4
  generalize h5 : xup c4 (f + 1) _ = c5
  generalize h6 : xup c5 (f + 2) _ = c6
  generalize h7 : xup c6 (f + 3) _ = c7
  have E4 : EqX [f] c c4 := by rw [← h4, ← h3, ← h2, ← h1]; exact ((((EqX.rf _ c).up _ (by simp)).up _ (by simp)).up _ (by simp)).up _ (by simp)
  have E5 : EqX [f + 1] c4 c5 := by rw [← h5]; exact (EqX.rf _ _).up _ (by simp)
  have E6 : EqX [f + 2] c5 c6 := by rw [← h6]; exact (EqX.rf _ _).up _ (by simp)
  have E7 : EqX [f + 3] c6 c7 := by rw [← h7]; exact (EqX.rf _ _).up _ (by simp)
  have E : EqX (LB f) c c7 := (((E4.mono (by unfold LB; simp)).tr (E5.mono (by unfold LB; simp))).tr (E6.mono (by unfold LB; simp))).tr (E7.mono (by unfold LB; simp))
  have law : ∀ k u, (k = g + 4 ∨ k = g + 7) → LawR c k N u → LawR c7 k N u := fun k u hk h => h.go (E k (by unfold LB; simp; omega)) (E (k + 1) (by unfold LB; simp; omega))
  obtain ⟨c8, q1, q2, q3⟩ := zX4_copyFrom (f := f + 4) (law _ _ (Or.inl rfl) b3) v0 (by omega)
  have law2 : LawR c8 (g + 7) N 1 := (law _ _ (Or.inr rfl) b4).go (q3 _ (by simp; omega)) (q3 _ (by simp; omega))
  obtain ⟨c9, k1, k2, k3⟩ := zX4_copyFrom (f := f + 7) law2 v1 (by omega)
  have at4 : c4 f 0 = c g 0 ∧ c4 f 1 = c g 1 ∧ c4 f 2 = c g 2 ∧ c4 f 3 = c g 3 := by
    refine ⟨?_, ?_, ?_, ?_⟩
    · rw [← h4, xup_s, upd_n _ _ (by decide), ← h3, xup_s, upd_n _ _ (by decide), ← h2, xup_s, upd_n _ _ (by decide), ← h1, xup_s, upd_s]
    · rw [← h4, xup_s, upd_n _ _ (by decide), ← h3, xup_s, upd_n _ _ (by decide), ← h2, xup_s, upd_s, ← h1, xup_n _ _ (by omega)]
    · rw [← h4, xup_s, upd_n _ _ (by decide), ← h3, xup_s, upd_s, ← h2, xup_n _ _ (by omega), ← h1, xup_n _ _ (by omega)]
    · rw [← h4, xup_s, upd_s, ← h3, xup_n _ _ (by omega), ← h2, xup_n _ _ (by omega), ← h1, xup_n _ _ (by omega)]
  have e9 : ∀ k, k = f ∨ k = f + 1 ∨ k = f + 2 ∨ k = f + 3 → c9 k = c7 k := fun k hk => by rw [k3 k (by simp; omega), q3 k (by simp; omega)]
  have e9f : c9 f = c4 f := by rw [e9 f (by omega), E7 f (by simp), E6 f (by simp), E5 f (by simp)]
  have r1 : ∀ j, j < 8 → c9 (f + 1) j = c (g + 1) j := by
    intro j hj
    rw [e9 _ (by omega), E7 _ (by simp), E6 _ (by simp), ← h5, xup_s]
    refine (cpy_at (by show j < 8; omega)).trans ?_
    rw [E4 _ (by simp; omega)]
  have r2 : ∀ j, j < 8 → c9 (f + 2) j = c (g + 2) j := by
    intro j hj
    rw [e9 _ (by omega), E7 _ (by simp), ← h6, xup_s]
    refine (cpy_at (by show j < 8; omega)).trans ?_
    rw [E5 _ (by simp; omega), E4 _ (by simp; omega)]
  have r3 : ∀ j, j < 8 → c9 (f + 3) j = c (g + 3) j := by
    intro j hj
    rw [e9 _ (by omega), ← h7, xup_s]
    refine (cpy_at (by show j < 8; omega)).trans ?_
    rw [E6 _ (by simp; omega), E5 _ (by simp; omega), E4 _ (by simp; omega)]
  refine ⟨c9, by rw [q1, xb_s, k1, xb_s], ⟨?_, ?_, fun j hj => ?_, ?_, k2⟩, ⟨?_, ?_⟩, ?_⟩
  · rw [e9f, at4.1]; exact b0
  · rw [e9f, at4.2.1]; exact b1
  · rw [r1 j hj, r2 j hj, r3 j hj]; exact b2 j hj
  · exact q2.go (k3 _ (by simp)) (k3 _ (by simp))
  · rw [e9f, at4.2.2.1]; exact l1
  · rw [e9f, at4.2.2.2]; exact l2
  · exact (E.tr (q3.mono (by unfold LB; simp))).tr (k3.mono (by unfold LB; simp))
/-- a whole image copied in the class -/
theorem snapCopy {c : xS} {N : Row} {b f d b' f' d' : Nat} (h : SnapR c b f d N) (hp : (b = 1 ∧ f = 21 ∧ d = 39 ∧ b' = 11 ∧ f' = 27 ∧ d' = 42) ∨ (b = 11 ∧ f = 27 ∧ d = 42 ∧ b' = 1 ∧ f' = 21 ∧ d' = 39)) :
    ∃ c1 c2 c3, sX0_copyFrom b' b c = some ((), c1) ∧ sX3_copyFrom f' f c1 = some ((), c2) ∧ sX2_copyFrom d' d c2 = some ((), c3) ∧ SnapR c3 b' f' d' N ∧ EqX (LB b' ++ LK f' ++ [d', d' + 1, d' + 2]) c c3 := by
  obtain ⟨hB, hL, hF, hD, hV, hH⟩ := h
  obtain ⟨c1, g1, g2, g3, g4⟩ := zX0_copyFrom (f := b') hB hL hV.2.2.2.2.2.2.2.2.2 (by omega)
  obtain ⟨c2, k1, k2, k3⟩ := zX3_copyFrom (f := f') (g := f) (N := N) (hF.go (fun k a e => g4 k (by unfold LB; simp; omega))) (by omega)
  obtain ⟨c3, q1, q2, q3⟩ := zX2_copyFrom (f := d') (g := d) (N := N) (hD.go (fun k a e => (k3 k (by unfold LK; simp; omega)).trans (g4 k (by unfold LB; simp; omega)))) (by omega)
  refine ⟨c1, c2, c3, g1, k1, q1, ⟨g2.go (fun k a e _ _ => (q3 k (by simp; omega)).trans (k3 k (by unfold LK; simp; omega))), g3.go ((q3 _ (by simp; omega)).trans (k3 _ (by unfold LK; simp; omega))), k2.go (fun k a e => q3 k (by simp; omega)), q2, hV, hH⟩, ?_⟩
  exact ((g4.mono (fun k hk => by simp [hk])).tr (k3.mono (fun k hk => by simp [hk]))).tr (q3.mono (fun k hk => by simp at hk; simp [hk]))
theorem op_image : OpR sX8_image sX9_image := by
  intro c m h
  unfold sX8_image sX9_image
  obtain ⟨c1, c2, c3, g1, g2, g3, g4, g5⟩ := snapCopy h.1 (Or.inl ⟨rfl, rfl, rfl, rfl, rfl, rfl⟩)
  obtain ⟨m1, k1, k2, k3⟩ := zX9_copy m (a := 1) (b := 2) (by decide)
  rw [g1, xb_s, g2, xb_s, g3, xb_s, k1, xb_s]
  simp only [xlet_e]
  obtain ⟨s1, s2, s3, s4, s5, s6, t1, t2, t3⟩ := h
  have e : ∀ k, ¬ k ∈ LB 11 ++ LK 27 ++ [42, 43, 44] → c3 k = c k := g5
  have e0 : c3 0 = c 0 := e 0 (by unfold LB LK; simp)
  have m0 : m1 0 = m 0 := k2 0 (by simp)
  have c0 : ∀ q, ¬ q = 0 → xup c3 0 (upd (c3 0) 6 (c3 0 6 + 1)) q = c3 q := fun q hq => xup_n _ _ hq
  have n0 : ∀ q, ¬ q = 0 → xup m1 0 (upd (m1 0) 3 (m1 0 3 + 1)) q = m1 q := fun q hq => xup_n _ _ hq
  have hS : SnapR c3 11 27 42 (m1 2) := g4.ag (fun j hj => by rw [k3 j, if_pos hj])
  have hval : xup m1 0 (upd (m1 0) 3 (m1 0 3 + 1)) 0 3 = xup c3 0 (upd (c3 0) 6 (c3 0 6 + 1)) 0 6 := by rw [xup_s, upd_s, xup_s, upd_s, e0, m0, s3]
  rw [hval]
  refine ⟨_, _, _, rfl, rfl, ?_, ?_, ?_, fun _ => ?_, fun i hi => ?_, fun q a b => ?_, ?_⟩
  · rw [n0 1 (by omega), k2 1 (by simp)]
    exact s1.go (fun k a b _ _ => by rw [c0 k (by omega), e k (by unfold LB LK; simp; omega)]) (fun k a b => by rw [c0 k (by omega), e k (by unfold LB LK; simp; omega)]) (fun k a b => by rw [c0 k (by omega), e k (by unfold LB LK; simp; omega)])
  · exact s2.go (by rw [n0 1 (by omega), k2 1 (by simp)]) (by rw [n0 5 (by omega), k2 5 (by simp)])
  · rw [xup_s, upd_s, xup_s, upd_s, e0, m0, s3]
  · rw [n0 2 (by omega)]
    exact hS.go (fun k a b _ _ => c0 k (by omega)) (fun k a b => c0 k (by omega)) (fun k a b => c0 k (by omega))
  · have h := (s5 i hi).go (c' := xup c3 0 (upd (c3 0) 6 (c3 0 6 + 1))) (by rw [c0 _ (by omega), e _ (by unfold LB LK; simp; omega)]) (by rw [c0 _ (by omega), e _ (by unfold LB LK; simp; omega)])
    unfold SheetR; rw [n0 11 (by omega), n0 12 (by omega), n0 13 (by omega), k2 11 (by simp), k2 12 (by simp), k2 13 (by simp)]; exact h
  · rw [c0 65 (by omega), e 65 (by unfold LB LK; simp), n0 4 (by omega), k2 4 (by simp)]; exact s6 q a b
  · unfold TraceR
    rw [c0 54 (by omega), c0 55 (by omega), e 54 (by unfold LB LK; simp), e 55 (by unfold LB LK; simp), xup_s, upd_n _ _ (by decide), n0 10 (by omega), m0, k2 10 (by simp)]
    exact ⟨t1, t2, t3⟩
theorem op_restore : OpR sX8_restore sX9_restore := by
  intro c m h
  unfold sX8_restore sX9_restore
  simp only [fC2, fM2]
  rw [h.2.2.1]
  by_cases h0 : m 0 3 = 0
  · rw [if_pos h0, if_pos h0]
    exact errR h (by decide) _ rfl rfl
  · rw [if_neg h0, if_neg h0]
    obtain ⟨c1, c2, c3, g1, g2, g3, g4, g5⟩ := snapCopy (h.2.2.2.1 h0) (Or.inr ⟨rfl, rfl, rfl, rfl, rfl, rfl⟩)
    obtain ⟨m1, k1, k2, k3⟩ := zX9_copy m (a := 2) (b := 1) (by decide)
    obtain ⟨m2, q1, q2, q3⟩ := zX9_forget m1
    have e21 : m2 1 = m1 1 := q2 1 (by simp)
    have hS : SnapR c3 1 21 39 (m2 1) := by rw [e21]; exact g4.ag (fun j hj => by rw [k3 j, if_pos hj])
    rw [g1, xb_s, g2, xb_s, g3, xb_s, k1, xb_s, q1, xb_s]
    refine ⟨_, c3, m2, rfl, ?_, h.snap hS (cache0 q3) (g5.mono (by unfold LB LK LSN; simp)) ((k2.mono (by unfold LMN; simp)).tr (q2.mono (by unfold LMN; simp)))⟩
    rw [hS.2.2.1.2.1]
