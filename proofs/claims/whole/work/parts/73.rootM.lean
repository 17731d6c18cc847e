/-! ===== the first worlds as lists ===== -/
def xFl (G : xG) (σ : xS) (k : Nat) : Nat → List (Option Nat) → List Value
  | _, [] => []
  | j, o :: fs => xV G σ k j o :: xFl G σ k (j + 1) fs
theorem xFl_get (G : xG) (σ : xS) (k : Nat) : ∀ (fs : List (Option Nat)) (i j : Nat), (xFl G σ k i fs)[j]? = (fs[j]?).map (xV G σ k (i + j))
  | [], _, _ => rfl
  | o :: fs, i, 0 => rfl
  | o :: fs, i, j + 1 => by
    show (xFl G σ k (i + 1) fs)[j]? = (fs[j]?).map _
    rw [xFl_get G σ k fs (i + 1) j, show i + 1 + j = i + (j + 1) by omega]
theorem xFs_l (G : xG) (σ : xS) (k : Nat) (fs : List (Option Nat)) : xFs G σ k fs = xFl G σ k 0 fs := by
  apply List.ext_getElem?
  intro j
  rw [xFl_get, Nat.zero_add]
  simp only [xFs, List.getElem?_mapIdx]
theorem cellO {G : xG} {σ : xS} {k ci : Nat} {fs : List (Option Nat)} (h : gS G k = .inr (.inl (ci, fs))) : xCell G σ k = .inr (ci, xFl G σ k 0 fs) := by
  unfold xCell
  rw [h, ← xFs_l]
theorem cellI {G : xG} {σ : xS} {k n : Nat} (h : gS G k = .inl n) : xCell G σ k = .inl (gI G, n, .inl (σ k)) := by
  unfold xCell
  rw [h]
theorem cellR {G : xG} {σ : xS} {k : Nat} {rs : List Nat} (h : gS G k = .inr (.inr rs)) : xCell G σ k = .inl (gR G, rs.length, .inr (.inr (.inr (.inr (fun j => (rs[j]?).map (gA G)))))) := by
  unfold xCell
  rw [h]
def sgM (kI cR : ClassId) (ad : Nat → Nat) : va_W := [(ad 0, .inr (9, [.ref (ad 1), .ref (ad 2), .ref (ad 3), .int 0, .ref (ad 4), .ref (ad 5), .ref (ad 6), .int 0, .int 0, .int 0, .int 0, .ref (ad 7), .int 0, .ref (ad 8), .ref (ad 9), .ref (ad 10), .int 0, .int 0, .int 0, .int 0, .ref (ad 11), .ref (ad 12), .ref (ad 13), .ref (ad 14)])), (ad 1, .inl (kI, 242, .inl (mI 1))), (ad 2, .inl (kI, 242, .inl fun _ => 0)), (ad 3, .inl (kI, 242, .inl fun _ => 0)), (ad 4, .inl (kI, 6, .inl fun _ => 0)), (ad 5, .inl (kI, 8000, .inl fun _ => 0)), (ad 6, .inl (cR, 2, .inr (.inr (.inr (.inr fun j => ([1010, 1011][j]?).map ad))))), (ad 7, .inl (kI, 60, .inl fun _ => 0)), (ad 8, .inl (kI, 4, .inl fun _ => 0)), (ad 9, .inl (kI, 60, .inl fun _ => 0)), (ad 10, .inl (kI, 40, .inl fun _ => 0)), (ad 11, .inl (kI, 4, .inl fun _ => 0)), (ad 12, .inl (kI, 4, .inl fun _ => 0)), (ad 13, .inl (kI, 160, .inl fun _ => 0)), (ad 14, .inl (kI, 40, .inl fun _ => 0))]
theorem mI_z (k : Nat) (h1 : k ≠ 1) : mI k = fun _ => 0 := by
  funext j
  show (if k = 1 then _ else (0 : Int32)) = 0
  rw [if_neg h1]
set_option maxRecDepth 20000 in
theorem rootM (D : va_G) (kI cR : ClassId) (ad : Nat → Nat) : xW (D, (kI, cR, "java/lang/String"), ad, 15, mSh) mI = sgM kI cR ad := by
  have hG : xM1 (D, (kI, cR, "java/lang/String"), ad, 15, mSh) := ⟨rfl, rfl⟩
  have e : xW (D, (kI, cR, "java/lang/String"), ad, 15, mSh) mI = ([0, 1, 2, 3, 4, 5, 6, 7, 8, 9, 10, 11, 12, 13, 14] : List Nat).map (fun k => (ad k, xCell (D, (kI, cR, "java/lang/String"), ad, 15, mSh) mI k)) := rfl
  rw [e]
  simp only [List.map_cons, List.map_nil]
  rw [cellO (σ := mI) (nm_0 hG).1, cellI (σ := mI) (nm_1 hG).1, cellI (σ := mI) (nm_2 hG).1, cellI (σ := mI) (nm_3 hG).1, cellI (σ := mI) (nm_4 hG).1, cellI (σ := mI) (nm_5 hG).1, cellR (σ := mI) (nm_6 hG).1, cellI (σ := mI) (nm_7 hG).1, cellI (σ := mI) (nm_8 hG).1, cellI (σ := mI) (nm_9 hG).1, cellI (σ := mI) (nm_10 hG).1, cellI (σ := mI) (nm_11 hG).1, cellI (σ := mI) (nm_12 hG).1, cellI (σ := mI) (nm_13 hG).1, cellI (σ := mI) (nm_14 hG).1]
  simp only [mI_z 2 (by decide), mI_z 3 (by decide), mI_z 4 (by decide), mI_z 5 (by decide), mI_z 7 (by decide), mI_z 8 (by decide), mI_z 9 (by decide), mI_z 10 (by decide), mI_z 11 (by decide), mI_z 12 (by decide), mI_z 13 (by decide), mI_z 14 (by decide)]
  rfl
