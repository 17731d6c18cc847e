/-! ===== both worlds together ===== -/
def SnapR (c : xS) (b f d : Nat) (N : Row) : Prop := BayR c b N ∧ LensR c b N ∧ FleetR c f N ∧ DeskR c d N ∧ VN N ∧ (0 ≤ (N 0).toInt ∧ (N 0).toInt ≤ 9999)
def SheetR (c m : xS) (i : Nat) : Prop := c (57 + 2 * i) 0 = m 11 i ∧ c (57 + 2 * i) 1 = m 12 i ∧ (∀ j, j < 40 → c (57 + 2 * i + 1) j = m 13 (40 * i + j)) ∧ (m 11 i = 0 ∨ m 11 i = 8 ∨ m 11 i = 16 ∨ m 11 i = 32) ∧ (0 ≤ (m 12 i).toInt ∧ (m 12 i).toInt ≤ 40)
def TraceR (c m : xS) : Prop := c 54 0 = m 0 16 ∧ (0 ≤ (m 0 16).toInt ∧ (m 0 16).toInt ≤ 40) ∧ ∀ j, j < (m 0 16).toNatClampNeg → c 55 j = m 10 j
def Rel (c m : xS) : Prop := SnapR c 1 21 39 (m 1) ∧ cacheOk m ∧ c 0 6 = m 0 3 ∧ (¬ m 0 3 = 0 → SnapR c 11 27 42 (m 2)) ∧ (∀ i, i < 4 → SheetR c m i) ∧ (∀ e, 1 ≤ e → e ≤ 5 → c 65 e = m 4 e) ∧ TraceR c m
/-- an act on both -/
def OpR (f g : xS → Option (Int32 × xS)) : Prop := ∀ c m, Rel c m → ∃ r c' m', f c = some (r, c') ∧ g m = some (r, m') ∧ Rel c' m'
theorem yr_sub {x y : Int32} (h1 : 0 ≤ x.toInt ∧ x.toInt ≤ 999) (h2 : 0 ≤ y.toInt ∧ y.toInt ≤ 1000) : (x - y).toInt = x.toInt - y.toInt := i_sub (by omega) (by omega)
theorem two_mul_I {y : Int32} (h : 0 ≤ y.toInt ∧ y.toInt ≤ 99) : (2 * y).toInt = 2 * y.toInt := by
  have h2 : (2 : Int32).toInt = 2 := rfl
  rw [i_mul (by rw [h2]; omega) (by rw [h2]; omega), h2]
theorem yrOk_of {N : Row} {bk : Int32} (h1 : 0 ≤ (N 3).toInt ∧ (N 3).toInt ≤ 999) (h2 : 0 ≤ bk.toInt ∧ bk.toInt ≤ 1000) : yrOk N bk := by
  refine ⟨by omega, ?_⟩
  rw [yr_sub h1 h2]
  omega
theorem VN.H {N : Row} (h : VN N) : VH N := by
  obtain ⟨a1, a2, a3, a4, a5, a6, a7, a8, a9, a10, a11⟩ := h
  exact ⟨a1, a2, yrOk_of a3 (by omega), yrOk_of a3 (by rw [two_mul_I a4]; omega), a10, a11, a8⟩
theorem VN.chg {N N' : Row} (h : VN N) (h1 : N' 1 = N 1) (h2 : N' 2 = N 2) (h3 : 0 ≤ (N' 3).toInt ∧ (N' 3).toInt ≤ 999) (h4 : 0 ≤ (N' 4).toInt ∧ (N' 4).toInt ≤ 99) (h5 : 0 ≤ (N' 5).toInt ∧ (N' 5).toInt < 2 ^ (N 1).toNatClampNeg)
    (h7 : 0 ≤ (N' 7).toInt ∧ (N' 7).toInt ≤ 50) (h8 : 0 ≤ (N' 8).toInt ∧ (N' 8).toInt ≤ 20)
    (hs : ∀ j, j < 7 → (0 ≤ (N' (33 + 5 * j)).toInt ∧ (N' (33 + 5 * j)).toInt ≤ 6) ∧ (j < (N 2).toNatClampNeg → 0 ≤ (N' (36 + 5 * j)).toInt ∧ (N' (36 + 5 * j)).toInt < (N 1).toInt) ∧ (N' (37 + 5 * j) = 0 ∨ N' (37 + 5 * j) = 1))
    (ht : ∀ j, j < 50 → 0 ≤ (N' (68 + j)).toInt ∧ (N' (68 + j)).toInt ≤ 255) (hv : VT N' 0 ∧ VT N' 1) : VN N' := by
  obtain ⟨a1, a2, -⟩ := h
  exact ⟨by rw [h1]; exact a1, by rw [h2]; exact a2, h3, h4, by rw [h1]; exact h5, h7, h8, by rw [h2, h1]; exact hs, ht, hv.1, hv.2⟩
theorem DeskR.go {c c' : xS} {d : Nat} {N : Row} (h : DeskR c d N) (he : ∀ k, d ≤ k → k ≤ d + 2 → c' k = c k) : DeskR c' d N := by
  obtain ⟨h0, h1, h2, h3, h4⟩ := h
  refine ⟨by rw [he d (by omega) (by omega)]; exact h0, by rw [he d (by omega) (by omega)]; exact h1, by rw [he d (by omega) (by omega)]; exact h2, fun j hj => by rw [he (d + 1) (by omega) (by omega)]; exact h3 j hj, fun j hj => by rw [he (d + 2) (by omega) (by omega)]; exact h4 j hj⟩
theorem DeskR.ag {c : xS} {d : Nat} {N N' : Row} (h : DeskR c d N) (h6 : N' 6 = N 6) (h7 : N' 7 = N 7) (h8 : N' 8 = N 8) (ha : ∀ j, 68 ≤ j → j < 138 → N' j = N j) : DeskR c d N' := by
  obtain ⟨g0, g1, g2, g3, g4⟩ := h
  refine ⟨by rw [h6]; exact g0, by rw [h7]; exact g1, by rw [h8]; exact g2, fun j hj => by rw [ha (68 + j) (by omega) (by omega)]; exact g3 j hj, fun j hj => by rw [ha (118 + j) (by omega) (by omega)]; exact g4 j hj⟩
theorem LensR.go {c c' : xS} {b : Nat} {N : Row} (h : LensR c b N) (he : c' b = c b) : LensR c' b N := by
  obtain ⟨h0, h1⟩ := h
  exact ⟨by rw [he]; exact h0, by rw [he]; exact h1⟩
theorem LensR.ag {c : xS} {b : Nat} {N N' : Row} (h : LensR c b N) (h4 : N' 4 = N 4) (h5 : N' 5 = N 5) : LensR c b N' := by
  obtain ⟨g0, g1⟩ := h
  exact ⟨by rw [h4]; exact g0, by rw [h5]; exact g1⟩
theorem SnapR.go {c c' : xS} {b f d : Nat} {N : Row} (h : SnapR c b f d N) (hb : ∀ k, b ≤ k → k ≤ b + 9 → k ≠ b + 6 → k ≠ b + 9 → c' k = c k) (hf : ∀ k, f ≤ k → k ≤ f + 5 → c' k = c k) (hd : ∀ k, d ≤ k → k ≤ d + 2 → c' k = c k) : SnapR c' b f d N := by
  obtain ⟨h1, h2, h3, h4, h5, h6⟩ := h
  exact ⟨h1.go hb, h2.go (hb b (by omega) (by omega) (by omega) (by omega)), h3.go hf, h4.go hd, h5, h6⟩
/-- rows of the class that only work: piles, the thought fleet, the chart, the reader -/
def LSC : List Nat := [7, 10, 17, 20, 33, 34, 35, 36, 37, 38, 45, 46, 47, 48, 49, 50, 51, 52, 53]
theorem SheetR.go {c c' m : xS} {i : Nat} (h : SheetR c m i) (h1 : c' (57 + 2 * i) = c (57 + 2 * i)) (h2 : c' (57 + 2 * i + 1) = c (57 + 2 * i + 1)) : SheetR c' m i := by
  obtain ⟨a, b, d, e⟩ := h
  exact ⟨by rw [h1]; exact a, by rw [h1]; exact b, fun j hj => by rw [h2]; exact d j hj, e⟩
theorem Rel.scrC {c c' m : xS} (h : Rel c m) (hE : EqX LSC c c') : Rel c' m := by
  obtain ⟨h1, h2, h3, h4, h5, h6, h7⟩ := h
  have k : ∀ q, ¬ q ∈ LSC → c' q = c q := hE
  refine ⟨h1.go (fun q a b d e => k q (by unfold LSC; simp; omega)) (fun q a b => k q (by unfold LSC; simp; omega)) (fun q a b => k q (by unfold LSC; simp; omega)), h2, by rw [k 0 (by unfold LSC; simp)]; exact h3, fun hz => (h4 hz).go (fun q a b d e => k q (by unfold LSC; simp; omega)) (fun q a b => k q (by unfold LSC; simp; omega)) (fun q a b => k q (by unfold LSC; simp; omega)), fun i hi => (h5 i hi).go (k _ (by unfold LSC; simp; omega)) (k _ (by unfold LSC; simp; omega)), fun e a b => by rw [k 65 (by unfold LSC; simp)]; exact h6 e a b, ?_⟩
  obtain ⟨t1, t2, t3⟩ := h7
  exact ⟨by rw [k 54 (by unfold LSC; simp)]; exact t1, t2, fun j hj => by rw [k 55 (by unfold LSC; simp)]; exact t3 j hj⟩
/-- rows of the reference that only work -/
def LSM : List Nat := [3, 5, 7, 8, 9, 14]
theorem Rel.scrM {c m m' : xS} (h : Rel c m) (hE : EqX LSM m m') (hc : cacheOk m') : Rel c m' := by
  obtain ⟨h1, h2, h3, h4, h5, h6, h7⟩ := h
  have k : ∀ q, ¬ q ∈ LSM → m' q = m q := hE
  refine ⟨by rw [k 1 (by unfold LSM; simp)]; exact h1, hc, by rw [k 0 (by unfold LSM; simp)]; exact h3, by rw [k 0 (by unfold LSM; simp), k 2 (by unfold LSM; simp)]; exact h4, fun i hi => ?_, fun e a b => by rw [k 4 (by unfold LSM; simp)]; exact h6 e a b, ?_⟩
  · unfold SheetR; rw [k 11 (by unfold LSM; simp), k 12 (by unfold LSM; simp), k 13 (by unfold LSM; simp)]; exact h5 i hi
  · unfold TraceR; rw [k 0 (by unfold LSM; simp), k 10 (by unfold LSM; simp)]; exact h7
theorem cacheOk.go {m m' : xS} (h : cacheOk m) (h1 : m' 1 = m 1) (h5 : m' 5 = m 5) : cacheOk m' := h.ag h5 (by rw [h1]; exact ⟨fun _ _ _ => rfl, fun _ _ => rfl⟩)
/-- the rows of an image matter up to 242 alone -/
def cErr (c : xS) (e : Nat) : xS := xup c 65 (upd (c 65) e (c 65 e + 1))
def mErr (m : xS) (e : Nat) : xS := xup m 4 (upd (m 4) e (m 4 e + 1))
theorem Rel.err {c m : xS} (h : Rel c m) {e : Nat} (he : 1 ≤ e ∧ e ≤ 5) : Rel (cErr c e) (mErr m e) := by
  obtain ⟨h1, h2, h3, h4, h5, h6, h7⟩ := h
  have kc : ∀ q, q ≠ 65 → cErr c e q = c q := fun q hq => xup_n _ _ hq
  have km : ∀ q, q ≠ 4 → mErr m e q = m q := fun q hq => xup_n _ _ hq
  refine ⟨by rw [km 1 (by omega)]; exact h1.go (fun q a b _ _ => kc q (by omega)) (fun q a b => kc q (by omega)) (fun q a b => kc q (by omega)), h2.go (km 1 (by omega)) (km 5 (by omega)), by rw [kc 0 (by omega), km 0 (by omega)]; exact h3, by rw [km 0 (by omega), km 2 (by omega)]; exact fun hz => (h4 hz).go (fun q a b _ _ => kc q (by omega)) (fun q a b => kc q (by omega)) (fun q a b => kc q (by omega)), fun i hi => ?_, fun f a b => ?_, ?_⟩
  · have := (h5 i hi).go (c' := cErr c e) (kc _ (by omega)) (kc _ (by omega))
    unfold SheetR; rw [km 11 (by omega), km 12 (by omega), km 13 (by omega)]; exact this
  · show xup c 65 (upd (c 65) e (c 65 e + 1)) 65 f = xup m 4 (upd (m 4) e (m 4 e + 1)) 4 f
    rw [xup_s, xup_s]
    by_cases q : f = e
    · subst q; rw [upd_s, upd_s, h6 f a b]
    · rw [upd_n _ _ q, upd_n _ _ q]; exact h6 f a b
  · obtain ⟨t1, t2, t3⟩ := h7
    unfold TraceR
    rw [kc 54 (by omega), kc 55 (by omega), km 0 (by omega), km 10 (by omega)]
    exact ⟨t1, t2, t3⟩
theorem fC1 (c : xS) : sX8_refuse 1 c = some (-1000000001, cErr c 1) := zX8_refuse (e := 1) (by omega) c
theorem fC2 (c : xS) : sX8_refuse 2 c = some (-1000000002, cErr c 2) := zX8_refuse (e := 2) (by omega) c
theorem fC3 (c : xS) : sX8_refuse 3 c = some (-1000000003, cErr c 3) := zX8_refuse (e := 3) (by omega) c
theorem fC4 (c : xS) : sX8_refuse 4 c = some (-1000000004, cErr c 4) := zX8_refuse (e := 4) (by omega) c
theorem fC5 (c : xS) : sX8_refuse 5 c = some (-1000000005, cErr c 5) := zX8_refuse (e := 5) (by omega) c
theorem zX9_finding {e : Nat} (he : e < 6) (m : xS) {w : Int32} (hw : (-1000000000 : Int32) - w = nI e) : sX9_finding w m = some (w, mErr m e) := by
  have h1 : xin (nI e) 6 := xin_n he (by omega)
  unfold sX9_finding
  simp only [xlet_e]
  rw [hw, if_pos h1, if_pos h1, nI_N (by omega)]
  rfl
theorem fM1 (m : xS) : sX9_finding (-1000000001) m = some (-1000000001, mErr m 1) := zX9_finding (by omega) m (by decide)
theorem fM2 (m : xS) : sX9_finding (-1000000002) m = some (-1000000002, mErr m 2) := zX9_finding (by omega) m (by decide)
theorem fM3 (m : xS) : sX9_finding (-1000000003) m = some (-1000000003, mErr m 3) := zX9_finding (by omega) m (by decide)
theorem fM4 (m : xS) : sX9_finding (-1000000004) m = some (-1000000004, mErr m 4) := zX9_finding (by omega) m (by decide)
theorem fM5 (m : xS) : sX9_finding (-1000000005) m = some (-1000000005, mErr m 5) := zX9_finding (by omega) m (by decide)
/-- an error told on both sides -/
theorem errR {c m : xS} (h : Rel c m) {e : Nat} (he : 1 ≤ e ∧ e ≤ 5) (w : Int32) {f g : Option (Int32 × xS)} (hf : f = some (w, cErr c e)) (hg : g = some (w, mErr m e)) : ∃ r c' m', f = some (r, c') ∧ g = some (r, m') ∧ Rel c' m' := ⟨w, _, _, hf, hg, h.err he⟩
theorem zX9_isShip {m : xS} (p : Int32) : sX9_isShip p m = some (bI (0 ≤ p ∧ p ≤ m 1 2 - 1), m) := by
  unfold sX9_isShip
  rw [zX9_within, xb_s, b_r]
theorem zX9_isDigit {m : xS} (p : Int32) : sX9_isDigit p m = some (bI (0 ≤ p ∧ p ≤ 9), m) := by
  unfold sX9_isDigit
  rw [zX9_within, xb_s, b_r]
theorem zX9_isYear {m : xS} (p : Int32) : sX9_isYear p m = some (bI (0 ≤ p ∧ p ≤ 999), m) := by
  unfold sX9_isYear
  rw [zX9_within, xb_s, b_r]
theorem zX9_isKindM {m : xS} (p : Int32) : sX9_isKindM p m = some (bI (0 ≤ p ∧ p ≤ 69), m) := by
  unfold sX9_isKindM
  rw [zX9_within, xb_s, b_r]
theorem zX9_isBehind {m : xS} (p : Int32) : sX9_isBehind p m = some (bI (0 ≤ p ∧ p ≤ 60), m) := by
  unfold sX9_isBehind
  rw [zX9_within, xb_s, b_r]
theorem zX9_isSheet {m : xS} (p : Int32) : sX9_isSheet p m = some (bI (0 ≤ p ∧ p ≤ 3), m) := by
  unfold sX9_isSheet
  rw [zX9_within, xb_s, b_r]
theorem zX8_isSheet {m : xS} (p : Int32) : sX8_isSheet p m = some (bI (0 ≤ p ∧ p ≤ 3), m) := by
  unfold sX8_isSheet
  rw [zX8_within, xb_s, b_r]
theorem zX8_isKindAndM {m : xS} (p : Int32) : sX8_isKindAndM p m = some (bI (0 ≤ p ∧ p ≤ 69), m) := by
  unfold sX8_isKindAndM
  rw [zX8_within, xb_s, b_r]
/-- an index told to be within -/
theorem inN {p q : Int32} (h : 0 ≤ p ∧ p ≤ q) {n : Nat} (hq : q.toInt < (n : Int)) : ∃ i, i < n ∧ p = nI i := by
  obtain ⟨h1, h2⟩ := h
  rw [i_le] at h1 h2
  exact nI_ex h1 (by omega)
theorem inCell {N : Row} (hV : VH N) {p : Int32} (h : 0 ≤ p ∧ p ≤ N 1 - 1) : ∃ i, i < cellsN N ∧ p = nI i := by
  have hc := hV.1
  have h1 : (N 1 - 1).toInt = (N 1).toInt - 1 := i_sub1 (by omega)
  have h2 : (cellsN N : Int) = (N 1).toInt := by unfold cellsN; rw [i_N]; omega
  exact inN h (by rw [h1]; omega)
theorem inShip {N : Row} (hV : VH N) {p : Int32} (h : 0 ≤ p ∧ p ≤ N 2 - 1) : ∃ i, i < shipsN N ∧ p = nI i := by
  have hc := hV.2.1
  have h2 : (shipsN N : Int) = (N 2).toInt := by unfold shipsN; rw [i_N]; omega
  have h1 : (N 2 - 1).toInt = (N 2).toInt - 1 := i_sub (by show _ ≤ (N 2).toInt - 1; omega) (by show (N 2).toInt - 1 ≤ _; omega)
  exact inN h (by rw [h1]; omega)
