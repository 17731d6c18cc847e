noncomputable def sX8_within (p0 : Int32) (p1 : Int32) (p2 : Int32) (s : xS) : Option (Int32 × xS) := xlet ((if p0 < p1 then (0 : Int32) else (if p2 < p0 then (0 : Int32) else (1 : Int32)))) (fun y15d => (if y15d = 0 ∨ y15d = 1 then some (y15d, s) else none))
set_option maxHeartbeats 4000000 in
set_option maxRecDepth 100000 in
theorem kX8_within (l : Launch) {G : xG} (hG : xC1 G)  {p0 : Int32} {p1 : Int32} {p2 : Int32}  {s : xS} {r : Int32} {s' : xS} (hf : sX8_within p0 p1 p2 s = some (r, s')) : xMet l G 2 yX8_within cX8_within 3 (some .boolean) [.int p0, .int p1, .int p2] s (xI r s') := by
  refine xMet.of (by decide) (Nat.le_of_ble_eq_true rfl) ?_
  show wk l G 2 RX8 cX8_within 3 (some .boolean) (xI r s') 0 [(0, .int p0), (1, .int p1), (2, .int p2)] [] s
  unfold sX8_within at hf
  refine wk_iload_n (pc := 0) dX8_within_0 rfl 0 rfl ?_
  refine wk_iload_n (pc := 1) dX8_within_1 rfl 1 rfl ?_
  obtain ⟨y15d, hy15d, hf⟩ := xlet_some hf
  have K15 : wk l G 2 RX8 cX8_within 3 (some .boolean) (xI r s') 15 [(0, .int p0), (1, .int p1), (2, .int p2)] [.int y15d] s := by
    obtain ⟨h15, hf⟩ := xif_some hf
    exact wk_zret (pc := 15) dX8_within_15 rfl (x01n h15) (xI_of hf)
  by_cases c2 : p0 < p1
  · rw [if_pos c2] at hy15d
    refine wk_icmp_lt_p (pc := 2) (tgt := 14) dX8_within_2 rfl c2 ?_
    refine wk_iconst (pc := 14) (v := (0 : Int32)) dX8_within_14 (by decide) ?_
    exact wk_top hy15d K15
  · rw [if_neg c2] at hy15d
    refine wk_icmp_lt_m (pc := 2) (tgt := 14) dX8_within_2 rfl c2 ?_
    refine wk_iload_n (pc := 5) dX8_within_5 rfl 0 rfl ?_
    refine wk_iload_n (pc := 6) dX8_within_6 rfl 2 rfl ?_
    by_cases c7 : p2 < p0
    · rw [if_pos c7] at hy15d
      refine wk_icmp_gt_p (pc := 7) (tgt := 14) dX8_within_7 rfl c7 ?_
      refine wk_iconst (pc := 14) (v := (0 : Int32)) dX8_within_14 (by decide) ?_
      exact wk_top hy15d K15
    · rw [if_neg c7] at hy15d
      refine wk_icmp_gt_m (pc := 7) (tgt := 14) dX8_within_7 rfl c7 ?_
      refine wk_iconst (pc := 10) (v := (1 : Int32)) dX8_within_10 (by decide) ?_
      refine wk_goto (pc := 11) (tgt := 15) dX8_within_11 rfl ?_
      exact wk_top hy15d K15
noncomputable def sX8_has (p0 : Int32) (p1 : Int32) (s : xS) : Option (Int32 × xS) := xlet ((if ((p0 >>> (p1 &&& 31)) &&& (1 : Int32)) = 0 then (0 : Int32) else (1 : Int32))) (fun y13d => (if y13d = 0 ∨ y13d = 1 then some (y13d, s) else none))
set_option maxHeartbeats 4000000 in
set_option maxRecDepth 100000 in
theorem kX8_has (l : Launch) {G : xG} (hG : xC1 G)  {p0 : Int32} {p1 : Int32}  {s : xS} {r : Int32} {s' : xS} (hf : sX8_has p0 p1 s = some (r, s')) : xMet l G 2 yX8_has cX8_has 2 (some .boolean) [.int p0, .int p1] s (xI r s') := by
  refine xMet.of (by decide) (Nat.le_of_ble_eq_true rfl) ?_
  show wk l G 2 RX8 cX8_has 2 (some .boolean) (xI r s') 0 [(0, .int p0), (1, .int p1)] [] s
  unfold sX8_has at hf
  refine wk_iload_n (pc := 0) dX8_has_0 rfl 0 rfl ?_
  refine wk_iload_n (pc := 1) dX8_has_1 rfl 1 rfl ?_
  refine wk_ishr (pc := 2) dX8_has_2 ?_
  refine wk_iconst (pc := 3) (v := (1 : Int32)) dX8_has_3 (by decide) ?_
  refine wk_iand (pc := 4) dX8_has_4 ?_
  obtain ⟨y13d, hy13d, hf⟩ := xlet_some hf
  have K13 : wk l G 2 RX8 cX8_has 2 (some .boolean) (xI r s') 13 [(0, .int p0), (1, .int p1)] [.int y13d] s := by
    obtain ⟨h13, hf⟩ := xif_some hf
    exact wk_zret (pc := 13) dX8_has_13 rfl (x01n h13) (xI_of hf)
  by_cases c5 : ((p0 >>> (p1 &&& 31)) &&& (1 : Int32)) = 0
  · rw [if_pos c5] at hy13d
    refine wk_if_eq_p (pc := 5) (tgt := 12) dX8_has_5 rfl c5 ?_
    refine wk_iconst (pc := 12) (v := (0 : Int32)) dX8_has_12 (by decide) ?_
    exact wk_top hy13d K13
  · rw [if_neg c5] at hy13d
    refine wk_if_eq_m (pc := 5) (tgt := 12) dX8_has_5 rfl c5 ?_
    refine wk_iconst (pc := 8) (v := (1 : Int32)) dX8_has_8 (by decide) ?_
    refine wk_goto (pc := 9) (tgt := 13) dX8_has_9 rfl ?_
    exact wk_top hy13d K13
