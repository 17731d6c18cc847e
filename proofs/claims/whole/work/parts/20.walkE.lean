noncomputable def sX9_finding (p1 : Int32) (s : xS) : Option (Int32 × xS) := (if xin ((-1000000000 : Int32) - p1) 6 then (if xin ((-1000000000 : Int32) - p1) 6 then xlet (xup s 4 (upd (s 4) ((-1000000000 : Int32) - p1).toNatClampNeg ((s 4 ((-1000000000 : Int32) - p1).toNatClampNeg) + (1 : Int32)))) (fun s12 => some (p1, s12)) else none) else none)
set_option maxHeartbeats 4000000 in
set_option maxRecDepth 100000 in
theorem kX9_finding (l : Launch) {G : xG} (hG : xM1 G)  {p1 : Int32}  {s : xS} {r : Int32} {s' : xS} (hf : sX9_finding p1 s = some (r, s')) : xMet l G 2 yX9_finding cX9_finding 2 (some .int) [.ref (gA G 0), .int p1] s (xI r s') := by
  refine xMet.of (by decide) (Nat.le_of_ble_eq_true rfl) ?_
  show wk l G 2 RX9 cX9_finding 2 (some .int) (xI r s') 0 [(0, .ref (gA G 0)), (1, .int p1)] [] s
  unfold sX9_finding at hf
  refine wk_aload_n (pc := 0) dX9_finding_0 rfl 0 rfl ?_
  refine wk_getR (C := RX9) (T := TX9) (N := 24) (pc := 1) dX9_finding_1 (nm_0 hG).2 (nm_0 hG).1 rfl qU_X9 4 (by decide) qF_X9_19 rfl ?_
  refine wk_ldc (pc := 4) (v := (-1000000000 : Int32)) dX9_finding_4 qK_X9_63 ?_
  refine wk_iload_n (pc := 6) dX9_finding_6 rfl 1 rfl ?_
  refine wk_isub (pc := 7) dX9_finding_7 ?_
  refine wk_dup2 (pc := 8) dX9_finding_8 rfl rfl ?_
  obtain ⟨h9, hf⟩ := xif_some hf
  refine wk_iald (pc := 9) (jj := ((-1000000000 : Int32) - p1).toNatClampNeg) dX9_finding_9 (nm_4 hG).2 (nm_4 hG).1 h9 rfl ?_
  refine wk_iconst (pc := 10) (v := (1 : Int32)) dX9_finding_10 (by decide) ?_
  refine wk_iadd (pc := 11) dX9_finding_11 ?_
  obtain ⟨h12, hf⟩ := xif_some hf
  refine wk_iast (pc := 12) (jj := ((-1000000000 : Int32) - p1).toNatClampNeg) dX9_finding_12 (nm_4 hG).2 (nm_4 hG).1 h12 rfl ?_
  obtain ⟨s12, hs12, hf⟩ := xlet_some hf
  refine wk_sig hs12 ?_
  refine wk_iload_n (pc := 13) dX9_finding_13 rfl 1 rfl ?_
  exact wk_iret (pc := 14) dX9_finding_14 rfl (xI_of hf)
noncomputable def sX9_within (p0 : Int32) (p1 : Int32) (p2 : Int32) (s : xS) : Option (Int32 × xS) := xlet ((if p0 < p1 then (0 : Int32) else (if p2 < p0 then (0 : Int32) else (1 : Int32)))) (fun y15d => (if y15d = 0 ∨ y15d = 1 then some (y15d, s) else none))
set_option maxHeartbeats 4000000 in
set_option maxRecDepth 100000 in
theorem kX9_within (l : Launch) {G : xG} (hG : xM1 G)  {p0 : Int32} {p1 : Int32} {p2 : Int32}  {s : xS} {r : Int32} {s' : xS} (hf : sX9_within p0 p1 p2 s = some (r, s')) : xMet l G 2 yX9_within cX9_within 3 (some .boolean) [.int p0, .int p1, .int p2] s (xI r s') := by
  refine xMet.of (by decide) (Nat.le_of_ble_eq_true rfl) ?_
  show wk l G 2 RX9 cX9_within 3 (some .boolean) (xI r s') 0 [(0, .int p0), (1, .int p1), (2, .int p2)] [] s
  unfold sX9_within at hf
  refine wk_iload_n (pc := 0) dX9_within_0 rfl 0 rfl ?_
  refine wk_iload_n (pc := 1) dX9_within_1 rfl 1 rfl ?_
  obtain ⟨y15d, hy15d, hf⟩ := xlet_some hf
  have K15 : wk l G 2 RX9 cX9_within 3 (some .boolean) (xI r s') 15 [(0, .int p0), (1, .int p1), (2, .int p2)] [.int y15d] s := by
    obtain ⟨h15, hf⟩ := xif_some hf
    exact wk_zret (pc := 15) dX9_within_15 rfl (x01n h15) (xI_of hf)
  by_cases c2 : p0 < p1
  · rw [if_pos c2] at hy15d
    refine wk_icmp_lt_p (pc := 2) (tgt := 14) dX9_within_2 rfl c2 ?_
    refine wk_iconst (pc := 14) (v := (0 : Int32)) dX9_within_14 (by decide) ?_
    exact wk_top hy15d K15
  · rw [if_neg c2] at hy15d
    refine wk_icmp_lt_m (pc := 2) (tgt := 14) dX9_within_2 rfl c2 ?_
    refine wk_iload_n (pc := 5) dX9_within_5 rfl 0 rfl ?_
    refine wk_iload_n (pc := 6) dX9_within_6 rfl 2 rfl ?_
    by_cases c7 : p2 < p0
    · rw [if_pos c7] at hy15d
      refine wk_icmp_gt_p (pc := 7) (tgt := 14) dX9_within_7 rfl c7 ?_
      refine wk_iconst (pc := 14) (v := (0 : Int32)) dX9_within_14 (by decide) ?_
      exact wk_top hy15d K15
    · rw [if_neg c7] at hy15d
      refine wk_icmp_gt_m (pc := 7) (tgt := 14) dX9_within_7 rfl c7 ?_
      refine wk_iconst (pc := 10) (v := (1 : Int32)) dX9_within_10 (by decide) ?_
      refine wk_goto (pc := 11) (tgt := 15) dX9_within_11 rfl ?_
      exact wk_top hy15d K15
noncomputable def sX9_held (p0 : Int32) (p1 : Int32) (p2 : Int32) (s : xS) : Option (Int32 × xS) := some ((if p1 < (if p0 < p2 then p0 else p2) then (if p0 < p2 then p0 else p2) else p1), s)
set_option maxHeartbeats 4000000 in
set_option maxRecDepth 100000 in
theorem kX9_held (l : Launch) {G : xG} (hG : xM1 G)  {p0 : Int32} {p1 : Int32} {p2 : Int32}  {s : xS} {r : Int32} {s' : xS} (hf : sX9_held p0 p1 p2 s = some (r, s')) : xMet l G 2 yX9_held cX9_held 3 (some .int) [.int p0, .int p1, .int p2] s (xI r s') := by
  refine xMet.of (by decide) (Nat.le_of_ble_eq_true rfl) ?_
  show wk l G 2 RX9 cX9_held 3 (some .int) (xI r s') 0 [(0, .int p0), (1, .int p1), (2, .int p2)] [] s
  unfold sX9_held at hf
  refine wk_iload_n (pc := 0) dX9_held_0 rfl 1 rfl ?_
  refine wk_iload_n (pc := 1) dX9_held_1 rfl 2 rfl ?_
  refine wk_iload_n (pc := 2) dX9_held_2 rfl 0 rfl ?_
  refine wk_mmin (pc := 3) dX9_held_3 qM_X9_64 qS_Mmin qJ_Math qC_Mmin (by decide) (Nat.le_of_ble_eq_true rfl) ?_
  refine wk_mmax (pc := 6) dX9_held_6 qM_X9_70 qS_Mmax qJ_Math qC_Mmax (by decide) (Nat.le_of_ble_eq_true rfl) ?_
  exact wk_iret (pc := 9) dX9_held_9 rfl (xI_of hf)
noncomputable def sX9_copy_L2 (p0 : Nat) (p1 : Nat) (self2 : Int32 → xS → Option (Unit × xS)) : Int32 → xS → Option (Unit × xS) := fun a2_2 s2 => (if (242 : Int32) ≤ a2_2 then some ((), s2) else (if xin a2_2 242 then (if xin a2_2 242 then xlet (xup s2 p1 (upd (s2 p1) a2_2.toNatClampNeg (s2 p0 a2_2.toNatClampNeg))) (fun s14 => xlet (a2_2 + (1 : Int32)) (fun y15 => self2 y15 s14)) else none) else none))
noncomputable def sX9_copy (p0 : Nat) (p1 : Nat) (s : xS) : Option (Unit × xS) := xloop (sX9_copy_L2 p0 p1) xF (0 : Int32) s
set_option maxHeartbeats 4000000 in
set_option maxRecDepth 100000 in
theorem kX9_copy (l : Launch) {G : xG} (hG : xM1 G)  {p0 : Nat} {p1 : Nat} (hp0 : gS G p0 = .inl 242 ∧ p0 < gN G) (hp1 : gS G p1 = .inl 242 ∧ p1 < gN G) {s : xS} {s' : xS} (hf : sX9_copy p0 p1 s = some ((), s')) : xMet l G 2 yX9_copy cX9_copy 3 none [.ref (gA G p0), .ref (gA G p1)] s (xU s') := by
  refine xMet.of (by decide) (Nat.le_of_ble_eq_true rfl) ?_
  show wk l G 2 RX9 cX9_copy 3 none (xU s') 0 [(0, .ref (gA G p0)), (1, .ref (gA G p1))] [] s
  unfold sX9_copy at hf
  have J2 : ∀   (N : Nat) (a2_2 : Int32)  (s2 : xS), xloop (sX9_copy_L2 p0 p1) N a2_2 s2 = some ((), s') → wk l G 2 RX9 cX9_copy 3 none (xU s') 2 [(0, .ref (gA G p0)), (1, .ref (gA G p1)), (2, .int a2_2)] [] s2 := by
    intro N
    induction N with
    | zero => intro a2_2 s2 hf; exact (xloop_0 hf).elim
    | succ N ih2 =>
      intro a2_2 s2 hf
      rw [xloop_s] at hf
      generalize xloop (sX9_copy_L2 p0 p1) N = self2 at hf ih2
      unfold sX9_copy_L2 at hf
      refine wk_iload_n (pc := 2) dX9_copy_2 rfl 2 rfl ?_
      refine wk_sipush (pc := 3) (v := (242 : Int32)) dX9_copy_3 (by decide) ?_
      refine wk_icmp_ge (pc := 6) (tgt := 21) dX9_copy_6 rfl hf (fun hf => ?_) (fun hf => ?_)
      · exact wk_vret (pc := 21) dX9_copy_21 rfl (xU_of hf)
      · refine wk_aload_n (pc := 9) dX9_copy_9 rfl 1 rfl ?_
        refine wk_iload_n (pc := 10) dX9_copy_10 rfl 2 rfl ?_
        refine wk_aload_n (pc := 11) dX9_copy_11 rfl 0 rfl ?_
        refine wk_iload_n (pc := 12) dX9_copy_12 rfl 2 rfl ?_
        obtain ⟨h13, hf⟩ := xif_some hf
        refine wk_iald (pc := 13) (jj := a2_2.toNatClampNeg) dX9_copy_13 hp0.2 hp0.1 h13 rfl ?_
        obtain ⟨h14, hf⟩ := xif_some hf
        refine wk_iast (pc := 14) (jj := a2_2.toNatClampNeg) dX9_copy_14 hp1.2 hp1.1 h14 rfl ?_
        obtain ⟨s14, hs14, hf⟩ := xlet_some hf
        refine wk_sig hs14 ?_
        obtain ⟨y15, hy15, hf⟩ := xlet_some hf
        refine wk_iinc (pc := 15) (v := y15) (lv' := [(2, .int y15), (0, .ref (gA G p0)), (1, .ref (gA G p1))]) dX9_copy_15 2 rfl (by rw [hy15] <;> rfl) (by decide) rfl ?_
        refine wk_goto (pc := 18) (tgt := 2) dX9_copy_18 rfl ?_
        exact wk_lv [1, 2, 0] rfl (ih2 y15  s14 hf)
  refine wk_iconst (pc := 0) (v := (0 : Int32)) dX9_copy_0 (by decide) ?_
  refine wk_istore_n (pc := 1) (lv' := [(2, .int (0 : Int32)), (0, .ref (gA G p0)), (1, .ref (gA G p1))]) dX9_copy_1 rfl (by decide) rfl ?_
  exact wk_lv [1, 2, 0] rfl (J2  xF (0 : Int32)  s hf)
noncomputable def sX9_turn (p1 : Int32) (p2 : Int32) (s : xS) : Option (Int32 × xS) := (if xin p1 242 then xlet ((s 1 p1.toNatClampNeg)) (fun y6 => (if xin p1 242 then xlet (xup s 1 (upd (s 1) p1.toNatClampNeg p2)) (fun s13 => some (y6, s13)) else none)) else none)
set_option maxHeartbeats 4000000 in
set_option maxRecDepth 100000 in
theorem kX9_turn (l : Launch) {G : xG} (hG : xM1 G)  {p1 : Int32} {p2 : Int32}  {s : xS} {r : Int32} {s' : xS} (hf : sX9_turn p1 p2 s = some (r, s')) : xMet l G 2 yX9_turn cX9_turn 4 (some .int) [.ref (gA G 0), .int p1, .int p2] s (xI r s') := by
  refine xMet.of (by decide) (Nat.le_of_ble_eq_true rfl) ?_
  show wk l G 2 RX9 cX9_turn 4 (some .int) (xI r s') 0 [(0, .ref (gA G 0)), (1, .int p1), (2, .int p2)] [] s
  unfold sX9_turn at hf
  refine wk_aload_n (pc := 0) dX9_turn_0 rfl 0 rfl ?_
  refine wk_getR (C := RX9) (T := TX9) (N := 24) (pc := 1) dX9_turn_1 (nm_0 hG).2 (nm_0 hG).1 rfl qU_X9 0 (by decide) qF_X9_9 rfl ?_
  refine wk_iload_n (pc := 4) dX9_turn_4 rfl 1 rfl ?_
  obtain ⟨h5, hf⟩ := xif_some hf
  refine wk_iald (pc := 5) (jj := p1.toNatClampNeg) dX9_turn_5 (nm_1 hG).2 (nm_1 hG).1 h5 rfl ?_
  obtain ⟨y6, hy6, hf⟩ := xlet_some hf
  refine wk_top hy6 ?_
  refine wk_istore_n (pc := 6) (lv' := [(3, .int y6), (0, .ref (gA G 0)), (1, .int p1), (2, .int p2)]) dX9_turn_6 rfl (by decide) rfl ?_
  refine wk_aload_n (pc := 7) dX9_turn_7 rfl 1 rfl ?_
  refine wk_getR (C := RX9) (T := TX9) (N := 24) (pc := 8) dX9_turn_8 (nm_0 hG).2 (nm_0 hG).1 rfl qU_X9 0 (by decide) qF_X9_9 rfl ?_
  refine wk_iload_n (pc := 11) dX9_turn_11 rfl 2 rfl ?_
  refine wk_iload_n (pc := 12) dX9_turn_12 rfl 3 rfl ?_
  obtain ⟨h13, hf⟩ := xif_some hf
  refine wk_iast (pc := 13) (jj := p1.toNatClampNeg) dX9_turn_13 (nm_1 hG).2 (nm_1 hG).1 h13 rfl ?_
  obtain ⟨s13, hs13, hf⟩ := xlet_some hf
  refine wk_sig hs13 ?_
  refine wk_iload_n (pc := 14) dX9_turn_14 rfl 0 rfl ?_
  exact wk_iret (pc := 15) dX9_turn_15 rfl (xI_of hf)
noncomputable def sX9_putBack (p1 : Int32) (s : xS) : Option (Int32 × xS) := xbind (sX9_copy 3 1 s) (fun _ s8 => some (p1, s8))
set_option maxHeartbeats 4000000 in
set_option maxRecDepth 100000 in
theorem kX9_putBack (l : Launch) {G : xG} (hG : xM1 G)  {p1 : Int32}  {s : xS} {r : Int32} {s' : xS} (hf : sX9_putBack p1 s = some (r, s')) : xMet l G 3 yX9_putBack cX9_putBack 2 (some .int) [.ref (gA G 0), .int p1] s (xI r s') := by
  refine xMet.of (by decide) (Nat.le_of_ble_eq_true rfl) ?_
  show wk l G 3 RX9 cX9_putBack 2 (some .int) (xI r s') 0 [(0, .ref (gA G 0)), (1, .int p1)] [] s
  unfold sX9_putBack at hf
  refine wk_aload_n (pc := 0) dX9_putBack_0 rfl 0 rfl ?_
  refine wk_getR (C := RX9) (T := TX9) (N := 24) (pc := 1) dX9_putBack_1 (nm_0 hG).2 (nm_0 hG).1 rfl qU_X9 2 (by decide) qF_X9_16 rfl ?_
  refine wk_aload_n (pc := 4) dX9_putBack_4 rfl 0 rfl ?_
  refine wk_getR (C := RX9) (T := TX9) (N := 24) (pc := 5) dX9_putBack_5 (nm_0 hG).2 (nm_0 hG).1 rfl qU_X9 0 (by decide) qF_X9_9 rfl ?_
  obtain ⟨⟨⟩, s8, hc8, hf⟩ := xbind_some hf
  refine wk_callSU (pc := 8) (As := [.ref (gA G 3), .ref (gA G 1)]) (rest := []) (kX9_copy l hG (nm_3 hG) (nm_1 hG) hc8) cw_X9_73 (by decide) dX9_putBack_8 rfl (Nat.le_of_ble_eq_true rfl) ?_
  refine wk_iload_n (pc := 11) dX9_putBack_11 rfl 1 rfl ?_
  exact wk_iret (pc := 12) dX9_putBack_12 rfl (xI_of hf)
noncomputable def sX9_feed_L41 (p1 : Int64) (p3 : Int32) (self41 : Int32 → xS → Option (Int32 × xS)) : Int32 → xS → Option (Int32 × xS) := fun a4_41 s41 => (if p3 ≤ a4_41 then some ((s41 1 7), s41) else (if xin ((68 : Int32) + (s41 1 7)) 242 then xlet (xup s41 1 (upd (s41 1) ((68 : Int32) + (s41 1 7)).toNatClampNeg (((p1 >>> (((8 : Int32) * a4_41).toInt64 &&& 63)) &&& (255 : Int64)).toInt32))) (fun s73 => xlet (xup s73 1 (upd (s73 1) 7 ((s73 1 7) + (1 : Int32)))) (fun s84 => xlet (a4_41 + (1 : Int32)) (fun y85 => self41 y85 s84))) else none))
noncomputable def sX9_feed (p1 : Int64) (p3 : Int32) (s : xS) : Option (Int32 × xS) := xbind (sX9_within p3 (1 : Int32) (8 : Int32) s) (fun r4 s4 => (if r4 = 0 then xbind (sX9_finding (-1000000001 : Int32) s4) (fun r13 s13 => some (r13, s13)) else (if ((s4 1 7) + p3) ≤ (50 : Int32) then xloop (sX9_feed_L41 p1 p3) xF (0 : Int32) s4 else xbind (sX9_finding (-1000000004 : Int32) s4) (fun r34 s34 => some (r34, s34)))))
set_option maxHeartbeats 4000000 in
set_option maxRecDepth 100000 in
theorem kX9_feed (l : Launch) {G : xG} (hG : xM1 G)  {p1 : Int64} {p3 : Int32}  {s : xS} {r : Int32} {s' : xS} (hf : sX9_feed p1 p3 s = some (r, s')) : xMet l G 3 yX9_feed cX9_feed 5 (some .int) [.ref (gA G 0), .long p1, .int p3] s (xI r s') := by
  refine xMet.of (by decide) (Nat.le_of_ble_eq_true rfl) ?_
  show wk l G 3 RX9 cX9_feed 5 (some .int) (xI r s') 0 [(0, .ref (gA G 0)), (1, .long p1), (3, .int p3)] [] s
  unfold sX9_feed at hf
  have J41 : ∀   (N : Nat) (a4_41 : Int32)  (s41 : xS), xloop (sX9_feed_L41 p1 p3) N a4_41 s41 = some (r, s') → wk l G 3 RX9 cX9_feed 5 (some .int) (xI r s') 41 [(0, .ref (gA G 0)), (1, .long p1), (3, .int p3), (4, .int a4_41)] [] s41 := by
    intro N
    induction N with
    | zero => intro a4_41 s41 hf; exact (xloop_0 hf).elim
    | succ N ih41 =>
      intro a4_41 s41 hf
      rw [xloop_s] at hf
      generalize xloop (sX9_feed_L41 p1 p3) N = self41 at hf ih41
      unfold sX9_feed_L41 at hf
      refine wk_iload (pc := 41) dX9_feed_41 3 rfl ?_
      refine wk_iload_n (pc := 43) dX9_feed_43 rfl 2 rfl ?_
      refine wk_icmp_ge (pc := 44) (tgt := 91) dX9_feed_44 rfl hf (fun hf => ?_) (fun hf => ?_)
      · refine wk_aload_n (pc := 91) dX9_feed_91 rfl 0 rfl ?_
        refine wk_getR (C := RX9) (T := TX9) (N := 24) (pc := 92) dX9_feed_92 (nm_0 hG).2 (nm_0 hG).1 rfl qU_X9 0 (by decide) qF_X9_9 rfl ?_
        refine wk_bipush (pc := 95) (v := (7 : Int32)) dX9_feed_95 (by decide) ?_
        refine wk_iald (pc := 97) (jj := 7) dX9_feed_97 (nm_1 hG).2 (nm_1 hG).1 (by decide) (by decide) ?_
        exact wk_iret (pc := 98) dX9_feed_98 rfl (xI_of hf)
      · refine wk_aload_n (pc := 47) dX9_feed_47 rfl 0 rfl ?_
        refine wk_getR (C := RX9) (T := TX9) (N := 24) (pc := 48) dX9_feed_48 (nm_0 hG).2 (nm_0 hG).1 rfl qU_X9 0 (by decide) qF_X9_9 rfl ?_
        refine wk_bipush (pc := 51) (v := (68 : Int32)) dX9_feed_51 (by decide) ?_
        refine wk_aload_n (pc := 53) dX9_feed_53 rfl 0 rfl ?_
        refine wk_getR (C := RX9) (T := TX9) (N := 24) (pc := 54) dX9_feed_54 (nm_0 hG).2 (nm_0 hG).1 rfl qU_X9 0 (by decide) qF_X9_9 rfl ?_
        refine wk_bipush (pc := 57) (v := (7 : Int32)) dX9_feed_57 (by decide) ?_
        refine wk_iald (pc := 59) (jj := 7) dX9_feed_59 (nm_1 hG).2 (nm_1 hG).1 (by decide) (by decide) ?_
        refine wk_iadd (pc := 60) dX9_feed_60 ?_
        refine wk_lload_n (pc := 61) dX9_feed_61 rfl 1 rfl ?_
        refine wk_bipush (pc := 62) (v := (8 : Int32)) dX9_feed_62 (by decide) ?_
        refine wk_iload (pc := 64) dX9_feed_64 3 rfl ?_
        refine wk_imul (pc := 66) dX9_feed_66 ?_
        refine wk_lshr (pc := 67) dX9_feed_67 ?_
        refine wk_ldc2 (pc := 68) (v := (255 : Int64)) dX9_feed_68 qK_X9_86 ?_
        refine wk_land (pc := 71) dX9_feed_71 ?_
        refine wk_l2i (pc := 72) dX9_feed_72 ?_
        obtain ⟨h73, hf⟩ := xif_some hf
        refine wk_iast (pc := 73) (jj := ((68 : Int32) + (s41 1 7)).toNatClampNeg) dX9_feed_73 (nm_1 hG).2 (nm_1 hG).1 h73 rfl ?_
        obtain ⟨s73, hs73, hf⟩ := xlet_some hf
        refine wk_sig hs73 ?_
        refine wk_aload_n (pc := 74) dX9_feed_74 rfl 0 rfl ?_
        refine wk_getR (C := RX9) (T := TX9) (N := 24) (pc := 75) dX9_feed_75 (nm_0 hG).2 (nm_0 hG).1 rfl qU_X9 0 (by decide) qF_X9_9 rfl ?_
        refine wk_bipush (pc := 78) (v := (7 : Int32)) dX9_feed_78 (by decide) ?_
        refine wk_dup2 (pc := 80) dX9_feed_80 rfl rfl ?_
        refine wk_iald (pc := 81) (jj := 7) dX9_feed_81 (nm_1 hG).2 (nm_1 hG).1 (by decide) (by decide) ?_
        refine wk_iconst (pc := 82) (v := (1 : Int32)) dX9_feed_82 (by decide) ?_
        refine wk_iadd (pc := 83) dX9_feed_83 ?_
        refine wk_iast (pc := 84) (jj := 7) dX9_feed_84 (nm_1 hG).2 (nm_1 hG).1 (by decide) (by decide) ?_
        obtain ⟨s84, hs84, hf⟩ := xlet_some hf
        refine wk_sig hs84 ?_
        obtain ⟨y85, hy85, hf⟩ := xlet_some hf
        refine wk_iinc (pc := 85) (v := y85) (lv' := [(4, .int y85), (0, .ref (gA G 0)), (1, .long p1), (3, .int p3)]) dX9_feed_85 3 rfl (by rw [hy85] <;> rfl) (by decide) rfl ?_
        refine wk_goto (pc := 88) (tgt := 41) dX9_feed_88 rfl ?_
        exact wk_lv [1, 2, 3, 0] rfl (ih41 y85  s84 hf)
  refine wk_iload_n (pc := 0) dX9_feed_0 rfl 2 rfl ?_
  refine wk_iconst (pc := 1) (v := (1 : Int32)) dX9_feed_1 (by decide) ?_
  refine wk_bipush (pc := 2) (v := (8 : Int32)) dX9_feed_2 (by decide) ?_
  obtain ⟨r4, s4, hc4, hf⟩ := xbind_some hf
  refine wk_callSI (pc := 4) (As := [.int p3, .int (1 : Int32), .int (8 : Int32)]) (rest := []) (kX9_within l hG  hc4) cw_X9_77 (by decide) dX9_feed_4 rfl (Nat.le_of_ble_eq_true rfl) ?_
  refine wk_if_ne (pc := 7) (tgt := 17) dX9_feed_7 rfl hf (fun hf => ?_) (fun hf => ?_)
  · refine wk_aload_n (pc := 17) dX9_feed_17 rfl 0 rfl ?_
    refine wk_getR (C := RX9) (T := TX9) (N := 24) (pc := 18) dX9_feed_18 (nm_0 hG).2 (nm_0 hG).1 rfl qU_X9 0 (by decide) qF_X9_9 rfl ?_
    refine wk_bipush (pc := 21) (v := (7 : Int32)) dX9_feed_21 (by decide) ?_
    refine wk_iald (pc := 23) (jj := 7) dX9_feed_23 (nm_1 hG).2 (nm_1 hG).1 (by decide) (by decide) ?_
    refine wk_iload_n (pc := 24) dX9_feed_24 rfl 2 rfl ?_
    refine wk_iadd (pc := 25) dX9_feed_25 ?_
    refine wk_bipush (pc := 26) (v := (50 : Int32)) dX9_feed_26 (by decide) ?_
    refine wk_icmp_le (pc := 28) (tgt := 38) dX9_feed_28 rfl hf (fun hf => ?_) (fun hf => ?_)
    · refine wk_iconst (pc := 38) (v := (0 : Int32)) dX9_feed_38 (by decide) ?_
      refine wk_istore (pc := 39) (lv' := [(4, .int (0 : Int32)), (0, .ref (gA G 0)), (1, .long p1), (3, .int p3)]) dX9_feed_39 (by decide) rfl ?_
      exact wk_lv [1, 2, 3, 0] rfl (J41  xF (0 : Int32)  s4 hf)
    · refine wk_aload_n (pc := 31) dX9_feed_31 rfl 0 rfl ?_
      refine wk_ldc (pc := 32) (v := (-1000000004 : Int32)) dX9_feed_32 qK_X9_85 ?_
      obtain ⟨r34, s34, hc34, hf⟩ := xbind_some hf
      refine wk_callVI (pc := 34) (As := [.int (-1000000004 : Int32)]) (rest := []) (kX9_finding l hG  hc34) cw_X9_82 (by decide) dX9_feed_34 (nm_0 hG).2 (nm_0 hG).1 rfl rfl rfl (Nat.le_of_ble_eq_true rfl) ?_
      exact wk_iret (pc := 37) dX9_feed_37 rfl (xI_of hf)
  · refine wk_aload_n (pc := 10) dX9_feed_10 rfl 0 rfl ?_
    refine wk_ldc (pc := 11) (v := (-1000000001 : Int32)) dX9_feed_11 qK_X9_81 ?_
    obtain ⟨r13, s13, hc13, hf⟩ := xbind_some hf
    refine wk_callVI (pc := 13) (As := [.int (-1000000001 : Int32)]) (rest := []) (kX9_finding l hG  hc13) cw_X9_82 (by decide) dX9_feed_13 (nm_0 hG).2 (nm_0 hG).1 rfl rfl rfl (Nat.le_of_ble_eq_true rfl) ?_
    exact wk_iret (pc := 16) dX9_feed_16 rfl (xI_of hf)
noncomputable def sX9_here  (s : xS) : Option (Int32 × xS) := (if (s 0 10) = 0 then (if (s 1 7) ≤ (s 0 7) then some ((-1 : Int32), s) else (if xin ((68 : Int32) + (s 0 7)) 242 then some ((s 1 ((68 : Int32) + (s 0 7)).toNatClampNeg), s) else none)) else some ((-1 : Int32), s))
set_option maxHeartbeats 4000000 in
set_option maxRecDepth 100000 in
theorem kX9_here (l : Launch) {G : xG} (hG : xM1 G)    {s : xS} {r : Int32} {s' : xS} (hf : sX9_here  s = some (r, s')) : xMet l G 2 yX9_here cX9_here 1 (some .int) [.ref (gA G 0)] s (xI r s') := by
  refine xMet.of (by decide) (Nat.le_of_ble_eq_true rfl) ?_
  show wk l G 2 RX9 cX9_here 1 (some .int) (xI r s') 0 [(0, .ref (gA G 0))] [] s
  unfold sX9_here at hf
  refine wk_aload_n (pc := 0) dX9_here_0 rfl 0 rfl ?_
  refine wk_getI (C := RX9) (T := TX9) (N := 24) (pc := 1) dX9_here_1 (nm_0 hG).2 (nm_0 hG).1 rfl qU_X9 10 (by decide) qF_X9_88 rfl ?_
  refine wk_if_ne (pc := 4) (tgt := 36) dX9_here_4 rfl hf (fun hf => ?_) (fun hf => ?_)
  · refine wk_iconst (pc := 36) (v := (-1 : Int32)) dX9_here_36 (by decide) ?_
    exact wk_iret (pc := 37) dX9_here_37 rfl (xI_of hf)
  · refine wk_aload_n (pc := 7) dX9_here_7 rfl 0 rfl ?_
    refine wk_getI (C := RX9) (T := TX9) (N := 24) (pc := 8) dX9_here_8 (nm_0 hG).2 (nm_0 hG).1 rfl qU_X9 7 (by decide) qF_X9_92 rfl ?_
    refine wk_aload_n (pc := 11) dX9_here_11 rfl 0 rfl ?_
    refine wk_getR (C := RX9) (T := TX9) (N := 24) (pc := 12) dX9_here_12 (nm_0 hG).2 (nm_0 hG).1 rfl qU_X9 0 (by decide) qF_X9_9 rfl ?_
    refine wk_bipush (pc := 15) (v := (7 : Int32)) dX9_here_15 (by decide) ?_
    refine wk_iald (pc := 17) (jj := 7) dX9_here_17 (nm_1 hG).2 (nm_1 hG).1 (by decide) (by decide) ?_
    refine wk_icmp_ge (pc := 18) (tgt := 36) dX9_here_18 rfl hf (fun hf => ?_) (fun hf => ?_)
    · refine wk_iconst (pc := 36) (v := (-1 : Int32)) dX9_here_36 (by decide) ?_
      exact wk_iret (pc := 37) dX9_here_37 rfl (xI_of hf)
    · refine wk_aload_n (pc := 21) dX9_here_21 rfl 0 rfl ?_
      refine wk_getR (C := RX9) (T := TX9) (N := 24) (pc := 22) dX9_here_22 (nm_0 hG).2 (nm_0 hG).1 rfl qU_X9 0 (by decide) qF_X9_9 rfl ?_
      refine wk_bipush (pc := 25) (v := (68 : Int32)) dX9_here_25 (by decide) ?_
      refine wk_aload_n (pc := 27) dX9_here_27 rfl 0 rfl ?_
      refine wk_getI (C := RX9) (T := TX9) (N := 24) (pc := 28) dX9_here_28 (nm_0 hG).2 (nm_0 hG).1 rfl qU_X9 7 (by decide) qF_X9_92 rfl ?_
      refine wk_iadd (pc := 31) dX9_here_31 ?_
      obtain ⟨h32, hf⟩ := xif_some hf
      refine wk_iald (pc := 32) (jj := ((68 : Int32) + (s 0 7)).toNatClampNeg) dX9_here_32 (nm_1 hG).2 (nm_1 hG).1 h32 rfl ?_
      refine wk_goto (pc := 33) (tgt := 37) dX9_here_33 rfl ?_
      exact wk_iret (pc := 37) dX9_here_37 rfl (xI_of hf)
noncomputable def sX9_takes_L28 (s13 : xS) (y13d : Int32) (y28d : Int32)  (s28 : xS) : Option (Int32 × xS) := xlet (xup s28 0 (upd (s28 0) 7 ((s13 0 7) + y28d))) (fun s29 => (if y13d = 0 ∨ y13d = 1 then some (y13d, s29) else none))
noncomputable def sX9_takes_L13 (y13d : Int32)  (s13 : xS) : Option (Int32 × xS) := xlet ((if y13d = 0 then (0 : Int32) else (1 : Int32))) (fun y28d => (sX9_takes_L28 s13 y13d y28d)  s13)
noncomputable def sX9_takes (p1 : Int32) (s : xS) : Option (Int32 × xS) := xbind (sX9_here  s) (fun r1 s1 => xlet ((if r1 = p1 then (1 : Int32) else (0 : Int32))) (fun y13d => (sX9_takes_L13 y13d)  s1))
set_option maxHeartbeats 4000000 in
set_option maxRecDepth 100000 in
theorem kX9_takes (l : Launch) {G : xG} (hG : xM1 G)  {p1 : Int32}  {s : xS} {r : Int32} {s' : xS} (hf : sX9_takes p1 s = some (r, s')) : xMet l G 3 yX9_takes cX9_takes 3 (some .boolean) [.ref (gA G 0), .int p1] s (xI r s') := by
  refine xMet.of (by decide) (Nat.le_of_ble_eq_true rfl) ?_
  show wk l G 3 RX9 cX9_takes 3 (some .boolean) (xI r s') 0 [(0, .ref (gA G 0)), (1, .int p1)] [] s
  unfold sX9_takes at hf
  have J28 : ∀ (s13 : xS) (y13d : Int32) (y28d : Int32)    (s28 : xS), (sX9_takes_L28 s13 y13d y28d)  s28 = some (r, s') → wk l G 3 RX9 cX9_takes 3 (some .boolean) (xI r s') 28 [(2, .int y13d)] [.int y28d, .int (s13 0 7), .ref (gA G 0)] s28 := by
    intro s13 y13d y28d s28 hf
    unfold sX9_takes_L28 at hf
    refine wk_iadd (pc := 28) dX9_takes_28 ?_
    refine wk_putI (C := RX9) (T := TX9) (N := 24) (ty := .int) (pc := 29) dX9_takes_29 (nm_0 hG).2 (nm_0 hG).1 rfl qU_X9 tyX9 tyX9_ok nmX9 7 (by decide) qF_X9_92 rfl rfl rfl rfl rfl ?_
    obtain ⟨s29, hs29, hf⟩ := xlet_some hf
    refine wk_sig hs29 ?_
    refine wk_iload_n (pc := 32) dX9_takes_32 rfl 0 rfl ?_
    obtain ⟨h33, hf⟩ := xif_some hf
    exact wk_zret (pc := 33) dX9_takes_33 rfl (x01n h33) (xI_of hf)
  have J13 : ∀ (y13d : Int32)    (s13 : xS), (sX9_takes_L13 y13d)  s13 = some (r, s') → wk l G 3 RX9 cX9_takes 3 (some .boolean) (xI r s') 13 [(0, .ref (gA G 0))] [.int y13d] s13 := by
    intro y13d s13 hf
    unfold sX9_takes_L13 at hf
    refine wk_istore_n (pc := 13) (lv' := [(2, .int y13d), (0, .ref (gA G 0))]) dX9_takes_13 rfl (by decide) rfl ?_
    refine wk_aload_n (pc := 14) dX9_takes_14 rfl 1 rfl ?_
    refine wk_dup (pc := 15) dX9_takes_15 rfl ?_
    refine wk_getI (C := RX9) (T := TX9) (N := 24) (pc := 16) dX9_takes_16 (nm_0 hG).2 (nm_0 hG).1 rfl qU_X9 7 (by decide) qF_X9_92 rfl ?_
    refine wk_iload_n (pc := 19) dX9_takes_19 rfl 0 rfl ?_
    obtain ⟨y28d, hy28d, hf⟩ := xlet_some hf
    have K28 : wk l G 3 RX9 cX9_takes 3 (some .boolean) (xI r s') 28 [(2, .int y13d), (0, .ref (gA G 0))] [.int y28d, .int (s13 0 7), .ref (gA G 0)] s13 := by
      exact wk_lv [0] rfl (J28 s13 y13d y28d   s13 hf)
    by_cases c20 : y13d = 0
    · rw [if_pos c20] at hy28d
      refine wk_if_eq_p (pc := 20) (tgt := 27) dX9_takes_20 rfl c20 ?_
      refine wk_iconst (pc := 27) (v := (0 : Int32)) dX9_takes_27 (by decide) ?_
      exact wk_top hy28d K28
    · rw [if_neg c20] at hy28d
      refine wk_if_eq_m (pc := 20) (tgt := 27) dX9_takes_20 rfl c20 ?_
      refine wk_iconst (pc := 23) (v := (1 : Int32)) dX9_takes_23 (by decide) ?_
      refine wk_goto (pc := 24) (tgt := 28) dX9_takes_24 rfl ?_
      exact wk_top hy28d K28
  refine wk_aload_n (pc := 0) dX9_takes_0 rfl 0 rfl ?_
  obtain ⟨r1, s1, hc1, hf⟩ := xbind_some hf
  refine wk_callVI (pc := 1) (As := []) (rest := []) (kX9_here l hG  hc1) cw_X9_96 (by decide) dX9_takes_1 (nm_0 hG).2 (nm_0 hG).1 rfl rfl rfl (Nat.le_of_ble_eq_true rfl) ?_
  refine wk_iload_n (pc := 4) dX9_takes_4 rfl 1 rfl ?_
  obtain ⟨y13d, hy13d, hf⟩ := xlet_some hf
  have K13 : wk l G 3 RX9 cX9_takes 3 (some .boolean) (xI r s') 13 [(0, .ref (gA G 0)), (1, .int p1)] [.int y13d] s1 := by
    exact wk_lv [0] rfl (J13 y13d   s1 hf)
  by_cases c5 : r1 = p1
  · rw [if_pos c5] at hy13d
    refine wk_icmp_ne_p (pc := 5) (tgt := 12) dX9_takes_5 rfl c5 ?_
    refine wk_iconst (pc := 8) (v := (1 : Int32)) dX9_takes_8 (by decide) ?_
    refine wk_goto (pc := 9) (tgt := 13) dX9_takes_9 rfl ?_
    exact wk_top hy13d K13
  · rw [if_neg c5] at hy13d
    refine wk_icmp_ne_m (pc := 5) (tgt := 12) dX9_takes_5 rfl c5 ?_
    refine wk_iconst (pc := 12) (v := (0 : Int32)) dX9_takes_12 (by decide) ?_
    exact wk_top hy13d K13
noncomputable def sX9_codes (p1 : Int32) (s : xS) : Option (Unit × xS) := (if (s 0 10) = 0 then (if xin (s 0 12) 60 then xlet (xup s 7 (upd (s 7) (s 0 12).toNatClampNeg p1)) (fun s16 => xlet (xup s16 0 (upd (s16 0) 12 ((s16 0 12) + (1 : Int32)))) (fun s24 => some ((), s24))) else none) else some ((), s))
set_option maxHeartbeats 4000000 in
set_option maxRecDepth 100000 in
theorem kX9_codes (l : Launch) {G : xG} (hG : xM1 G)  {p1 : Int32}  {s : xS} {s' : xS} (hf : sX9_codes p1 s = some ((), s')) : xMet l G 2 yX9_codes cX9_codes 2 none [.ref (gA G 0), .int p1] s (xU s') := by
  refine xMet.of (by decide) (Nat.le_of_ble_eq_true rfl) ?_
  show wk l G 2 RX9 cX9_codes 2 none (xU s') 0 [(0, .ref (gA G 0)), (1, .int p1)] [] s
  unfold sX9_codes at hf
  refine wk_aload_n (pc := 0) dX9_codes_0 rfl 0 rfl ?_
  refine wk_getI (C := RX9) (T := TX9) (N := 24) (pc := 1) dX9_codes_1 (nm_0 hG).2 (nm_0 hG).1 rfl qU_X9 10 (by decide) qF_X9_88 rfl ?_
  refine wk_if_ne (pc := 4) (tgt := 27) dX9_codes_4 rfl hf (fun hf => ?_) (fun hf => ?_)
  · exact wk_vret (pc := 27) dX9_codes_27 rfl (xU_of hf)
  · refine wk_aload_n (pc := 7) dX9_codes_7 rfl 0 rfl ?_
    refine wk_getR (C := RX9) (T := TX9) (N := 24) (pc := 8) dX9_codes_8 (nm_0 hG).2 (nm_0 hG).1 rfl qU_X9 11 (by decide) qF_X9_35 rfl ?_
    refine wk_aload_n (pc := 11) dX9_codes_11 rfl 0 rfl ?_
    refine wk_getI (C := RX9) (T := TX9) (N := 24) (pc := 12) dX9_codes_12 (nm_0 hG).2 (nm_0 hG).1 rfl qU_X9 12 (by decide) qF_X9_100 rfl ?_
    refine wk_iload_n (pc := 15) dX9_codes_15 rfl 1 rfl ?_
    obtain ⟨h16, hf⟩ := xif_some hf
    refine wk_iast (pc := 16) (jj := (s 0 12).toNatClampNeg) dX9_codes_16 (nm_7 hG).2 (nm_7 hG).1 h16 rfl ?_
    obtain ⟨s16, hs16, hf⟩ := xlet_some hf
    refine wk_sig hs16 ?_
    refine wk_aload_n (pc := 17) dX9_codes_17 rfl 0 rfl ?_
    refine wk_dup (pc := 18) dX9_codes_18 rfl ?_
    refine wk_getI (C := RX9) (T := TX9) (N := 24) (pc := 19) dX9_codes_19 (nm_0 hG).2 (nm_0 hG).1 rfl qU_X9 12 (by decide) qF_X9_100 rfl ?_
    refine wk_iconst (pc := 22) (v := (1 : Int32)) dX9_codes_22 (by decide) ?_
    refine wk_iadd (pc := 23) dX9_codes_23 ?_
    refine wk_putI (C := RX9) (T := TX9) (N := 24) (ty := .int) (pc := 24) dX9_codes_24 (nm_0 hG).2 (nm_0 hG).1 rfl qU_X9 tyX9 tyX9_ok nmX9 12 (by decide) qF_X9_100 rfl rfl rfl rfl rfl ?_
    obtain ⟨s24, hs24, hf⟩ := xlet_some hf
    refine wk_sig hs24 ?_
    exact wk_vret (pc := 27) dX9_codes_27 rfl (xU_of hf)
noncomputable def sX9_product_L110 (self51 : Int32 → xS → Option (Unit × xS)) (t0_110 : Int32) (s110 : xS) : Option (Unit × xS) := self51 t0_110 s110
noncomputable def sX9_product_L51 (rc : xS → Option (Unit × xS)) (self51 : Int32 → xS → Option (Unit × xS)) : Int32 → xS → Option (Unit × xS) := fun a1_51 s51 => (if a1_51 ≤ 0 then some ((), s51) else xbind (rc  s51) (fun _ s56 => xbind (sX9_codes a1_51 s56) (fun _ s61 => xbind (sX9_takes (42 : Int32) s61) (fun r67 s67 => (if r67 = 0 then xbind (sX9_takes (47 : Int32) s67) (fun r82 s82 => (if r82 = 0 then xbind (sX9_takes (37 : Int32) s82) (fun r97 s97 => (if r97 = 0 then (sX9_product_L110 self51) (0 : Int32) s97 else (sX9_product_L110 self51) (20009 : Int32) s97)) else (sX9_product_L110 self51) (20008 : Int32) s82)) else (sX9_product_L110 self51) (20007 : Int32) s67)))))
noncomputable def sX9_product_L50 (rc : xS → Option (Unit × xS)) (t0_50 : Int32) (s50 : xS) : Option (Unit × xS) := xloop (sX9_product_L51 rc) xF t0_50 s50
noncomputable def sX9_product (rc : xS → Option (Unit × xS))  (s : xS) : Option (Unit × xS) := xbind (rc  s) (fun _ s1 => xbind (sX9_takes (42 : Int32) s1) (fun r7 s7 => (if r7 = 0 then xbind (sX9_takes (47 : Int32) s7) (fun r22 s22 => (if r22 = 0 then xbind (sX9_takes (37 : Int32) s22) (fun r37 s37 => (if r37 = 0 then (sX9_product_L50 rc) (0 : Int32) s37 else (sX9_product_L50 rc) (20009 : Int32) s37)) else (sX9_product_L50 rc) (20008 : Int32) s22)) else (sX9_product_L50 rc) (20007 : Int32) s7)))
set_option maxHeartbeats 4000000 in
set_option maxRecDepth 100000 in
theorem kX9_product (l : Launch) {G : xG} (hG : xM1 G) {m0 : Nat} {rc : xS → Option (Unit × xS)} (Hrc : ∀ (s : xS) (s' : xS), rc s = some ((), s') → xMet l G m0 yX9_one cX9_one 4 none [.ref (gA G 0)] s (xU s'))   {s : xS} {s' : xS} (hf : sX9_product rc  s = some ((), s')) : xMet l G (m0 + 4) yX9_product cX9_product 2 none [.ref (gA G 0)] s (xU s') := by
  refine xMet.of (by decide) (Nat.le_of_ble_eq_true rfl) ?_
  show wk l G (m0 + 4) RX9 cX9_product 2 none (xU s') 0 [(0, .ref (gA G 0))] [] s
  unfold sX9_product at hf
  have J51 : ∀   (N : Nat) (a1_51 : Int32)  (s51 : xS), xloop (sX9_product_L51 rc) N a1_51 s51 = some ((), s') → wk l G (m0 + 4) RX9 cX9_product 2 none (xU s') 51 [(0, .ref (gA G 0)), (1, .int a1_51)] [] s51 := by
    intro N
    induction N with
    | zero => intro a1_51 s51 hf; exact (xloop_0 hf).elim
    | succ N ih51 =>
      intro a1_51 s51 hf
      rw [xloop_s] at hf
      generalize xloop (sX9_product_L51 rc) N = self51 at hf ih51
      unfold sX9_product_L51 at hf
      have J110 : ∀   (t0_110 : Int32)  (s110 : xS), (sX9_product_L110 self51) t0_110 s110 = some ((), s') → wk l G (m0 + 4) RX9 cX9_product 2 none (xU s') 110 [(0, .ref (gA G 0))] [.int t0_110] s110 := by
        intro t0_110 s110 hf
        unfold sX9_product_L110 at hf
        refine wk_istore_n (pc := 110) (lv' := [(1, .int t0_110), (0, .ref (gA G 0))]) dX9_product_110 rfl (by decide) rfl ?_
        refine wk_goto (pc := 111) (tgt := 51) dX9_product_111 rfl ?_
        exact wk_lv [1, 0] rfl (ih51 t0_110  s110 hf)
      refine wk_iload_n (pc := 51) dX9_product_51 rfl 1 rfl ?_
      refine wk_if_le (pc := 52) (tgt := 114) dX9_product_52 rfl hf (fun hf => ?_) (fun hf => ?_)
      · exact wk_vret (pc := 114) dX9_product_114 rfl (xU_of hf)
      · refine wk_aload_n (pc := 55) dX9_product_55 rfl 0 rfl ?_
        obtain ⟨⟨⟩, s56, hc56, hf⟩ := xbind_some hf
        refine wk_callVU (pc := 56) (As := []) (rest := []) (Hrc  s51 _ hc56) cw_X9_123 (by omega) dX9_product_56 (nm_0 hG).2 (nm_0 hG).1 rfl rfl rfl (Nat.le_of_ble_eq_true rfl) ?_
        refine wk_aload_n (pc := 59) dX9_product_59 rfl 0 rfl ?_
        refine wk_iload_n (pc := 60) dX9_product_60 rfl 1 rfl ?_
        obtain ⟨⟨⟩, s61, hc61, hf⟩ := xbind_some hf
        refine wk_callVU (pc := 61) (As := [.int a1_51]) (rest := []) (kX9_codes l hG  hc61) cw_X9_110 (by omega) dX9_product_61 (nm_0 hG).2 (nm_0 hG).1 rfl rfl rfl (Nat.le_of_ble_eq_true rfl) ?_
        refine wk_aload_n (pc := 64) dX9_product_64 rfl 0 rfl ?_
        refine wk_bipush (pc := 65) (v := (42 : Int32)) dX9_product_65 (by decide) ?_
        obtain ⟨r67, s67, hc67, hf⟩ := xbind_some hf
        refine wk_callVI (pc := 67) (As := [.int (42 : Int32)]) (rest := []) (kX9_takes l hG  hc67) cw_X9_106 (by omega) dX9_product_67 (nm_0 hG).2 (nm_0 hG).1 rfl rfl rfl (Nat.le_of_ble_eq_true rfl) ?_
        refine wk_if_eq (pc := 70) (tgt := 79) dX9_product_70 rfl hf (fun hf => ?_) (fun hf => ?_)
        · refine wk_aload_n (pc := 79) dX9_product_79 rfl 0 rfl ?_
          refine wk_bipush (pc := 80) (v := (47 : Int32)) dX9_product_80 (by decide) ?_
          obtain ⟨r82, s82, hc82, hf⟩ := xbind_some hf
          refine wk_callVI (pc := 82) (As := [.int (47 : Int32)]) (rest := []) (kX9_takes l hG  hc82) cw_X9_106 (by omega) dX9_product_82 (nm_0 hG).2 (nm_0 hG).1 rfl rfl rfl (Nat.le_of_ble_eq_true rfl) ?_
          refine wk_if_eq (pc := 85) (tgt := 94) dX9_product_85 rfl hf (fun hf => ?_) (fun hf => ?_)
          · refine wk_aload_n (pc := 94) dX9_product_94 rfl 0 rfl ?_
            refine wk_bipush (pc := 95) (v := (37 : Int32)) dX9_product_95 (by decide) ?_
            obtain ⟨r97, s97, hc97, hf⟩ := xbind_some hf
            refine wk_callVI (pc := 97) (As := [.int (37 : Int32)]) (rest := []) (kX9_takes l hG  hc97) cw_X9_106 (by omega) dX9_product_97 (nm_0 hG).2 (nm_0 hG).1 rfl rfl rfl (Nat.le_of_ble_eq_true rfl) ?_
            refine wk_if_eq (pc := 100) (tgt := 109) dX9_product_100 rfl hf (fun hf => ?_) (fun hf => ?_)
            · refine wk_iconst (pc := 109) (v := (0 : Int32)) dX9_product_109 (by decide) ?_
              exact wk_lv [0] rfl (J110  (0 : Int32)  s97 hf)
            · refine wk_sipush (pc := 103) (v := (20009 : Int32)) dX9_product_103 (by decide) ?_
              refine wk_goto (pc := 106) (tgt := 110) dX9_product_106 rfl ?_
              exact wk_lv [0] rfl (J110  (20009 : Int32)  s97 hf)
          · refine wk_sipush (pc := 88) (v := (20008 : Int32)) dX9_product_88 (by decide) ?_
            refine wk_goto (pc := 91) (tgt := 110) dX9_product_91 rfl ?_
            exact wk_lv [0] rfl (J110  (20008 : Int32)  s82 hf)
        · refine wk_sipush (pc := 73) (v := (20007 : Int32)) dX9_product_73 (by decide) ?_
          refine wk_goto (pc := 76) (tgt := 110) dX9_product_76 rfl ?_
          exact wk_lv [0] rfl (J110  (20007 : Int32)  s67 hf)
  have J50 : ∀   (t0_50 : Int32)  (s50 : xS), (sX9_product_L50 rc) t0_50 s50 = some ((), s') → wk l G (m0 + 4) RX9 cX9_product 2 none (xU s') 50 [(0, .ref (gA G 0))] [.int t0_50] s50 := by
    intro t0_50 s50 hf
    unfold sX9_product_L50 at hf
    refine wk_istore_n (pc := 50) (lv' := [(1, .int t0_50), (0, .ref (gA G 0))]) dX9_product_50 rfl (by decide) rfl ?_
    exact wk_lv [1, 0] rfl (J51  xF t0_50  s50 hf)
  refine wk_aload_n (pc := 0) dX9_product_0 rfl 0 rfl ?_
  obtain ⟨⟨⟩, s1, hc1, hf⟩ := xbind_some hf
  refine wk_callVU (pc := 1) (As := []) (rest := []) (Hrc  s _ hc1) cw_X9_123 (by omega) dX9_product_1 (nm_0 hG).2 (nm_0 hG).1 rfl rfl rfl (Nat.le_of_ble_eq_true rfl) ?_
  refine wk_aload_n (pc := 4) dX9_product_4 rfl 0 rfl ?_
  refine wk_bipush (pc := 5) (v := (42 : Int32)) dX9_product_5 (by decide) ?_
  obtain ⟨r7, s7, hc7, hf⟩ := xbind_some hf
  refine wk_callVI (pc := 7) (As := [.int (42 : Int32)]) (rest := []) (kX9_takes l hG  hc7) cw_X9_106 (by omega) dX9_product_7 (nm_0 hG).2 (nm_0 hG).1 rfl rfl rfl (Nat.le_of_ble_eq_true rfl) ?_
  refine wk_if_eq (pc := 10) (tgt := 19) dX9_product_10 rfl hf (fun hf => ?_) (fun hf => ?_)
  · refine wk_aload_n (pc := 19) dX9_product_19 rfl 0 rfl ?_
    refine wk_bipush (pc := 20) (v := (47 : Int32)) dX9_product_20 (by decide) ?_
    obtain ⟨r22, s22, hc22, hf⟩ := xbind_some hf
    refine wk_callVI (pc := 22) (As := [.int (47 : Int32)]) (rest := []) (kX9_takes l hG  hc22) cw_X9_106 (by omega) dX9_product_22 (nm_0 hG).2 (nm_0 hG).1 rfl rfl rfl (Nat.le_of_ble_eq_true rfl) ?_
    refine wk_if_eq (pc := 25) (tgt := 34) dX9_product_25 rfl hf (fun hf => ?_) (fun hf => ?_)
    · refine wk_aload_n (pc := 34) dX9_product_34 rfl 0 rfl ?_
      refine wk_bipush (pc := 35) (v := (37 : Int32)) dX9_product_35 (by decide) ?_
      obtain ⟨r37, s37, hc37, hf⟩ := xbind_some hf
      refine wk_callVI (pc := 37) (As := [.int (37 : Int32)]) (rest := []) (kX9_takes l hG  hc37) cw_X9_106 (by omega) dX9_product_37 (nm_0 hG).2 (nm_0 hG).1 rfl rfl rfl (Nat.le_of_ble_eq_true rfl) ?_
      refine wk_if_eq (pc := 40) (tgt := 49) dX9_product_40 rfl hf (fun hf => ?_) (fun hf => ?_)
      · refine wk_iconst (pc := 49) (v := (0 : Int32)) dX9_product_49 (by decide) ?_
        exact wk_lv [0] rfl (J50  (0 : Int32)  s37 hf)
      · refine wk_sipush (pc := 43) (v := (20009 : Int32)) dX9_product_43 (by decide) ?_
        refine wk_goto (pc := 46) (tgt := 50) dX9_product_46 rfl ?_
        exact wk_lv [0] rfl (J50  (20009 : Int32)  s37 hf)
    · refine wk_sipush (pc := 28) (v := (20008 : Int32)) dX9_product_28 (by decide) ?_
      refine wk_goto (pc := 31) (tgt := 50) dX9_product_31 rfl ?_
      exact wk_lv [0] rfl (J50  (20008 : Int32)  s22 hf)
  · refine wk_sipush (pc := 13) (v := (20007 : Int32)) dX9_product_13 (by decide) ?_
    refine wk_goto (pc := 16) (tgt := 50) dX9_product_16 rfl ?_
    exact wk_lv [0] rfl (J50  (20007 : Int32)  s7 hf)
noncomputable def sX9_sum_L80 (self36 : Int32 → xS → Option (Unit × xS)) (t0_80 : Int32) (s80 : xS) : Option (Unit × xS) := self36 t0_80 s80
noncomputable def sX9_sum_L36 (rc : xS → Option (Unit × xS)) (self36 : Int32 → xS → Option (Unit × xS)) : Int32 → xS → Option (Unit × xS) := fun a1_36 s36 => (if a1_36 ≤ 0 then some ((), s36) else xbind (sX9_product rc  s36) (fun _ s41 => xbind (sX9_codes a1_36 s41) (fun _ s46 => xbind (sX9_takes (43 : Int32) s46) (fun r52 s52 => (if r52 = 0 then xbind (sX9_takes (45 : Int32) s52) (fun r67 s67 => (if r67 = 0 then (sX9_sum_L80 self36) (0 : Int32) s67 else (sX9_sum_L80 self36) (20006 : Int32) s67)) else (sX9_sum_L80 self36) (20005 : Int32) s52)))))
noncomputable def sX9_sum_L35 (rc : xS → Option (Unit × xS)) (t0_35 : Int32) (s35 : xS) : Option (Unit × xS) := xloop (sX9_sum_L36 rc) xF t0_35 s35
noncomputable def sX9_sum (rc : xS → Option (Unit × xS))  (s : xS) : Option (Unit × xS) := xbind (sX9_product rc  s) (fun _ s1 => xbind (sX9_takes (43 : Int32) s1) (fun r7 s7 => (if r7 = 0 then xbind (sX9_takes (45 : Int32) s7) (fun r22 s22 => (if r22 = 0 then (sX9_sum_L35 rc) (0 : Int32) s22 else (sX9_sum_L35 rc) (20006 : Int32) s22)) else (sX9_sum_L35 rc) (20005 : Int32) s7)))
set_option maxHeartbeats 4000000 in
set_option maxRecDepth 100000 in
theorem kX9_sum (l : Launch) {G : xG} (hG : xM1 G) {m0 : Nat} {rc : xS → Option (Unit × xS)} (Hrc : ∀ (s : xS) (s' : xS), rc s = some ((), s') → xMet l G m0 yX9_one cX9_one 4 none [.ref (gA G 0)] s (xU s'))   {s : xS} {s' : xS} (hf : sX9_sum rc  s = some ((), s')) : xMet l G (m0 + 5) yX9_sum cX9_sum 2 none [.ref (gA G 0)] s (xU s') := by
  refine xMet.of (by decide) (Nat.le_of_ble_eq_true rfl) ?_
  show wk l G (m0 + 5) RX9 cX9_sum 2 none (xU s') 0 [(0, .ref (gA G 0))] [] s
  unfold sX9_sum at hf
  have J36 : ∀   (N : Nat) (a1_36 : Int32)  (s36 : xS), xloop (sX9_sum_L36 rc) N a1_36 s36 = some ((), s') → wk l G (m0 + 5) RX9 cX9_sum 2 none (xU s') 36 [(0, .ref (gA G 0)), (1, .int a1_36)] [] s36 := by
    intro N
    induction N with
    | zero => intro a1_36 s36 hf; exact (xloop_0 hf).elim
    | succ N ih36 =>
      intro a1_36 s36 hf
      rw [xloop_s] at hf
      generalize xloop (sX9_sum_L36 rc) N = self36 at hf ih36
      unfold sX9_sum_L36 at hf
      have J80 : ∀   (t0_80 : Int32)  (s80 : xS), (sX9_sum_L80 self36) t0_80 s80 = some ((), s') → wk l G (m0 + 5) RX9 cX9_sum 2 none (xU s') 80 [(0, .ref (gA G 0))] [.int t0_80] s80 := by
        intro t0_80 s80 hf
        unfold sX9_sum_L80 at hf
        refine wk_istore_n (pc := 80) (lv' := [(1, .int t0_80), (0, .ref (gA G 0))]) dX9_sum_80 rfl (by decide) rfl ?_
        refine wk_goto (pc := 81) (tgt := 36) dX9_sum_81 rfl ?_
        exact wk_lv [1, 0] rfl (ih36 t0_80  s80 hf)
      refine wk_iload_n (pc := 36) dX9_sum_36 rfl 1 rfl ?_
      refine wk_if_le (pc := 37) (tgt := 84) dX9_sum_37 rfl hf (fun hf => ?_) (fun hf => ?_)
      · exact wk_vret (pc := 84) dX9_sum_84 rfl (xU_of hf)
      · refine wk_aload_n (pc := 40) dX9_sum_40 rfl 0 rfl ?_
        obtain ⟨⟨⟩, s41, hc41, hf⟩ := xbind_some hf
        refine wk_callVU (pc := 41) (As := []) (rest := []) (kX9_product l hG Hrc  hc41) cw_X9_120 (by omega) dX9_sum_41 (nm_0 hG).2 (nm_0 hG).1 rfl rfl rfl (Nat.le_of_ble_eq_true rfl) ?_
        refine wk_aload_n (pc := 44) dX9_sum_44 rfl 0 rfl ?_
        refine wk_iload_n (pc := 45) dX9_sum_45 rfl 1 rfl ?_
        obtain ⟨⟨⟩, s46, hc46, hf⟩ := xbind_some hf
        refine wk_callVU (pc := 46) (As := [.int a1_36]) (rest := []) (kX9_codes l hG  hc46) cw_X9_110 (by omega) dX9_sum_46 (nm_0 hG).2 (nm_0 hG).1 rfl rfl rfl (Nat.le_of_ble_eq_true rfl) ?_
        refine wk_aload_n (pc := 49) dX9_sum_49 rfl 0 rfl ?_
        refine wk_bipush (pc := 50) (v := (43 : Int32)) dX9_sum_50 (by decide) ?_
        obtain ⟨r52, s52, hc52, hf⟩ := xbind_some hf
        refine wk_callVI (pc := 52) (As := [.int (43 : Int32)]) (rest := []) (kX9_takes l hG  hc52) cw_X9_106 (by omega) dX9_sum_52 (nm_0 hG).2 (nm_0 hG).1 rfl rfl rfl (Nat.le_of_ble_eq_true rfl) ?_
        refine wk_if_eq (pc := 55) (tgt := 64) dX9_sum_55 rfl hf (fun hf => ?_) (fun hf => ?_)
        · refine wk_aload_n (pc := 64) dX9_sum_64 rfl 0 rfl ?_
          refine wk_bipush (pc := 65) (v := (45 : Int32)) dX9_sum_65 (by decide) ?_
          obtain ⟨r67, s67, hc67, hf⟩ := xbind_some hf
          refine wk_callVI (pc := 67) (As := [.int (45 : Int32)]) (rest := []) (kX9_takes l hG  hc67) cw_X9_106 (by omega) dX9_sum_67 (nm_0 hG).2 (nm_0 hG).1 rfl rfl rfl (Nat.le_of_ble_eq_true rfl) ?_
          refine wk_if_eq (pc := 70) (tgt := 79) dX9_sum_70 rfl hf (fun hf => ?_) (fun hf => ?_)
          · refine wk_iconst (pc := 79) (v := (0 : Int32)) dX9_sum_79 (by decide) ?_
            exact wk_lv [0] rfl (J80  (0 : Int32)  s67 hf)
          · refine wk_sipush (pc := 73) (v := (20006 : Int32)) dX9_sum_73 (by decide) ?_
            refine wk_goto (pc := 76) (tgt := 80) dX9_sum_76 rfl ?_
            exact wk_lv [0] rfl (J80  (20006 : Int32)  s67 hf)
        · refine wk_sipush (pc := 58) (v := (20005 : Int32)) dX9_sum_58 (by decide) ?_
          refine wk_goto (pc := 61) (tgt := 80) dX9_sum_61 rfl ?_
          exact wk_lv [0] rfl (J80  (20005 : Int32)  s52 hf)
  have J35 : ∀   (t0_35 : Int32)  (s35 : xS), (sX9_sum_L35 rc) t0_35 s35 = some ((), s') → wk l G (m0 + 5) RX9 cX9_sum 2 none (xU s') 35 [(0, .ref (gA G 0))] [.int t0_35] s35 := by
    intro t0_35 s35 hf
    unfold sX9_sum_L35 at hf
    refine wk_istore_n (pc := 35) (lv' := [(1, .int t0_35), (0, .ref (gA G 0))]) dX9_sum_35 rfl (by decide) rfl ?_
    exact wk_lv [1, 0] rfl (J36  xF t0_35  s35 hf)
  refine wk_aload_n (pc := 0) dX9_sum_0 rfl 0 rfl ?_
  obtain ⟨⟨⟩, s1, hc1, hf⟩ := xbind_some hf
  refine wk_callVU (pc := 1) (As := []) (rest := []) (kX9_product l hG Hrc  hc1) cw_X9_120 (by omega) dX9_sum_1 (nm_0 hG).2 (nm_0 hG).1 rfl rfl rfl (Nat.le_of_ble_eq_true rfl) ?_
  refine wk_aload_n (pc := 4) dX9_sum_4 rfl 0 rfl ?_
  refine wk_bipush (pc := 5) (v := (43 : Int32)) dX9_sum_5 (by decide) ?_
  obtain ⟨r7, s7, hc7, hf⟩ := xbind_some hf
  refine wk_callVI (pc := 7) (As := [.int (43 : Int32)]) (rest := []) (kX9_takes l hG  hc7) cw_X9_106 (by omega) dX9_sum_7 (nm_0 hG).2 (nm_0 hG).1 rfl rfl rfl (Nat.le_of_ble_eq_true rfl) ?_
  refine wk_if_eq (pc := 10) (tgt := 19) dX9_sum_10 rfl hf (fun hf => ?_) (fun hf => ?_)
  · refine wk_aload_n (pc := 19) dX9_sum_19 rfl 0 rfl ?_
    refine wk_bipush (pc := 20) (v := (45 : Int32)) dX9_sum_20 (by decide) ?_
    obtain ⟨r22, s22, hc22, hf⟩ := xbind_some hf
    refine wk_callVI (pc := 22) (As := [.int (45 : Int32)]) (rest := []) (kX9_takes l hG  hc22) cw_X9_106 (by omega) dX9_sum_22 (nm_0 hG).2 (nm_0 hG).1 rfl rfl rfl (Nat.le_of_ble_eq_true rfl) ?_
    refine wk_if_eq (pc := 25) (tgt := 34) dX9_sum_25 rfl hf (fun hf => ?_) (fun hf => ?_)
    · refine wk_iconst (pc := 34) (v := (0 : Int32)) dX9_sum_34 (by decide) ?_
      exact wk_lv [0] rfl (J35  (0 : Int32)  s22 hf)
    · refine wk_sipush (pc := 28) (v := (20006 : Int32)) dX9_sum_28 (by decide) ?_
      refine wk_goto (pc := 31) (tgt := 35) dX9_sum_31 rfl ?_
      exact wk_lv [0] rfl (J35  (20006 : Int32)  s22 hf)
  · refine wk_sipush (pc := 13) (v := (20005 : Int32)) dX9_sum_13 (by decide) ?_
    refine wk_goto (pc := 16) (tgt := 35) dX9_sum_16 rfl ?_
    exact wk_lv [0] rfl (J35  (20005 : Int32)  s7 hf)
noncomputable def sX9_compared_L50 (rc : xS → Option (Unit × xS)) (t0_50 : Int32) (s50 : xS) : Option (Unit × xS) := (if t0_50 ≤ 0 then some ((), s50) else xbind (sX9_sum rc  s50) (fun _ s56 => xbind (sX9_codes t0_50 s56) (fun _ s61 => some ((), s61))))
noncomputable def sX9_compared (rc : xS → Option (Unit × xS))  (s : xS) : Option (Unit × xS) := xbind (sX9_sum rc  s) (fun _ s1 => xbind (sX9_takes (60 : Int32) s1) (fun r7 s7 => (if r7 = 0 then xbind (sX9_takes (61 : Int32) s7) (fun r22 s22 => (if r22 = 0 then xbind (sX9_takes (62 : Int32) s22) (fun r37 s37 => (if r37 = 0 then (sX9_compared_L50 rc) (0 : Int32) s37 else (sX9_compared_L50 rc) (20004 : Int32) s37)) else (sX9_compared_L50 rc) (20003 : Int32) s22)) else (sX9_compared_L50 rc) (20002 : Int32) s7)))
set_option maxHeartbeats 4000000 in
set_option maxRecDepth 100000 in
theorem kX9_compared (l : Launch) {G : xG} (hG : xM1 G) {m0 : Nat} {rc : xS → Option (Unit × xS)} (Hrc : ∀ (s : xS) (s' : xS), rc s = some ((), s') → xMet l G m0 yX9_one cX9_one 4 none [.ref (gA G 0)] s (xU s'))   {s : xS} {s' : xS} (hf : sX9_compared rc  s = some ((), s')) : xMet l G (m0 + 6) yX9_compared cX9_compared 2 none [.ref (gA G 0)] s (xU s') := by
  refine xMet.of (by decide) (Nat.le_of_ble_eq_true rfl) ?_
  show wk l G (m0 + 6) RX9 cX9_compared 2 none (xU s') 0 [(0, .ref (gA G 0))] [] s
  unfold sX9_compared at hf
  have J50 : ∀   (t0_50 : Int32)  (s50 : xS), (sX9_compared_L50 rc) t0_50 s50 = some ((), s') → wk l G (m0 + 6) RX9 cX9_compared 2 none (xU s') 50 [(0, .ref (gA G 0))] [.int t0_50] s50 := by
    intro t0_50 s50 hf
    unfold sX9_compared_L50 at hf
    refine wk_istore_n (pc := 50) (lv' := [(1, .int t0_50), (0, .ref (gA G 0))]) dX9_compared_50 rfl (by decide) rfl ?_
    refine wk_iload_n (pc := 51) dX9_compared_51 rfl 0 rfl ?_
    refine wk_if_le (pc := 52) (tgt := 64) dX9_compared_52 rfl hf (fun hf => ?_) (fun hf => ?_)
    · exact wk_vret (pc := 64) dX9_compared_64 rfl (xU_of hf)
    · refine wk_aload_n (pc := 55) dX9_compared_55 rfl 1 rfl ?_
      obtain ⟨⟨⟩, s56, hc56, hf⟩ := xbind_some hf
      refine wk_callVU (pc := 56) (As := []) (rest := []) (kX9_sum l hG Hrc  hc56) cw_X9_117 (by omega) dX9_compared_56 (nm_0 hG).2 (nm_0 hG).1 rfl rfl rfl (Nat.le_of_ble_eq_true rfl) ?_
      refine wk_aload_n (pc := 59) dX9_compared_59 rfl 1 rfl ?_
      refine wk_iload_n (pc := 60) dX9_compared_60 rfl 0 rfl ?_
      obtain ⟨⟨⟩, s61, hc61, hf⟩ := xbind_some hf
      refine wk_callVU (pc := 61) (As := [.int t0_50]) (rest := []) (kX9_codes l hG  hc61) cw_X9_110 (by omega) dX9_compared_61 (nm_0 hG).2 (nm_0 hG).1 rfl rfl rfl (Nat.le_of_ble_eq_true rfl) ?_
      exact wk_vret (pc := 64) dX9_compared_64 rfl (xU_of hf)
  refine wk_aload_n (pc := 0) dX9_compared_0 rfl 0 rfl ?_
  obtain ⟨⟨⟩, s1, hc1, hf⟩ := xbind_some hf
  refine wk_callVU (pc := 1) (As := []) (rest := []) (kX9_sum l hG Hrc  hc1) cw_X9_117 (by omega) dX9_compared_1 (nm_0 hG).2 (nm_0 hG).1 rfl rfl rfl (Nat.le_of_ble_eq_true rfl) ?_
  refine wk_aload_n (pc := 4) dX9_compared_4 rfl 0 rfl ?_
  refine wk_bipush (pc := 5) (v := (60 : Int32)) dX9_compared_5 (by decide) ?_
  obtain ⟨r7, s7, hc7, hf⟩ := xbind_some hf
  refine wk_callVI (pc := 7) (As := [.int (60 : Int32)]) (rest := []) (kX9_takes l hG  hc7) cw_X9_106 (by omega) dX9_compared_7 (nm_0 hG).2 (nm_0 hG).1 rfl rfl rfl (Nat.le_of_ble_eq_true rfl) ?_
  refine wk_if_eq (pc := 10) (tgt := 19) dX9_compared_10 rfl hf (fun hf => ?_) (fun hf => ?_)
  · refine wk_aload_n (pc := 19) dX9_compared_19 rfl 0 rfl ?_
    refine wk_bipush (pc := 20) (v := (61 : Int32)) dX9_compared_20 (by decide) ?_
    obtain ⟨r22, s22, hc22, hf⟩ := xbind_some hf
    refine wk_callVI (pc := 22) (As := [.int (61 : Int32)]) (rest := []) (kX9_takes l hG  hc22) cw_X9_106 (by omega) dX9_compared_22 (nm_0 hG).2 (nm_0 hG).1 rfl rfl rfl (Nat.le_of_ble_eq_true rfl) ?_
    refine wk_if_eq (pc := 25) (tgt := 34) dX9_compared_25 rfl hf (fun hf => ?_) (fun hf => ?_)
    · refine wk_aload_n (pc := 34) dX9_compared_34 rfl 0 rfl ?_
      refine wk_bipush (pc := 35) (v := (62 : Int32)) dX9_compared_35 (by decide) ?_
      obtain ⟨r37, s37, hc37, hf⟩ := xbind_some hf
      refine wk_callVI (pc := 37) (As := [.int (62 : Int32)]) (rest := []) (kX9_takes l hG  hc37) cw_X9_106 (by omega) dX9_compared_37 (nm_0 hG).2 (nm_0 hG).1 rfl rfl rfl (Nat.le_of_ble_eq_true rfl) ?_
      refine wk_if_eq (pc := 40) (tgt := 49) dX9_compared_40 rfl hf (fun hf => ?_) (fun hf => ?_)
      · refine wk_iconst (pc := 49) (v := (0 : Int32)) dX9_compared_49 (by decide) ?_
        exact wk_lv [0] rfl (J50  (0 : Int32)  s37 hf)
      · refine wk_sipush (pc := 43) (v := (20004 : Int32)) dX9_compared_43 (by decide) ?_
        refine wk_goto (pc := 46) (tgt := 50) dX9_compared_46 rfl ?_
        exact wk_lv [0] rfl (J50  (20004 : Int32)  s37 hf)
    · refine wk_sipush (pc := 28) (v := (20003 : Int32)) dX9_compared_28 (by decide) ?_
      refine wk_goto (pc := 31) (tgt := 50) dX9_compared_31 rfl ?_
      exact wk_lv [0] rfl (J50  (20003 : Int32)  s22 hf)
  · refine wk_sipush (pc := 13) (v := (20002 : Int32)) dX9_compared_13 (by decide) ?_
    refine wk_goto (pc := 16) (tgt := 50) dX9_compared_16 rfl ?_
    exact wk_lv [0] rfl (J50  (20002 : Int32)  s7 hf)
noncomputable def sX9_both_L4 (rc : xS → Option (Unit × xS)) (self4 : Unit → xS → Option (Unit × xS)) : Unit → xS → Option (Unit × xS) := fun _ s4 => xbind (sX9_takes (38 : Int32) s4) (fun r7 s7 => (if r7 = 0 then some ((), s7) else xbind (sX9_compared rc  s7) (fun _ s14 => xbind (sX9_codes (20001 : Int32) s14) (fun _ s21 => self4 () s21))))
noncomputable def sX9_both (rc : xS → Option (Unit × xS))  (s : xS) : Option (Unit × xS) := xbind (sX9_compared rc  s) (fun _ s1 => xloop (sX9_both_L4 rc) xF () s1)
set_option maxHeartbeats 4000000 in
set_option maxRecDepth 100000 in
theorem kX9_both (l : Launch) {G : xG} (hG : xM1 G) {m0 : Nat} {rc : xS → Option (Unit × xS)} (Hrc : ∀ (s : xS) (s' : xS), rc s = some ((), s') → xMet l G m0 yX9_one cX9_one 4 none [.ref (gA G 0)] s (xU s'))   {s : xS} {s' : xS} (hf : sX9_both rc  s = some ((), s')) : xMet l G (m0 + 7) yX9_both cX9_both 1 none [.ref (gA G 0)] s (xU s') := by
  refine xMet.of (by decide) (Nat.le_of_ble_eq_true rfl) ?_
  show wk l G (m0 + 7) RX9 cX9_both 1 none (xU s') 0 [(0, .ref (gA G 0))] [] s
  unfold sX9_both at hf
  have J4 : ∀   (N : Nat)   (s4 : xS), xloop (sX9_both_L4 rc) N () s4 = some ((), s') → wk l G (m0 + 7) RX9 cX9_both 1 none (xU s') 4 [(0, .ref (gA G 0))] [] s4 := by
    intro N
    induction N with
    | zero => intro  s4 hf; exact (xloop_0 hf).elim
    | succ N ih4 =>
      intro  s4 hf
      rw [xloop_s] at hf
      generalize xloop (sX9_both_L4 rc) N = self4 at hf ih4
      unfold sX9_both_L4 at hf
      refine wk_aload_n (pc := 4) dX9_both_4 rfl 0 rfl ?_
      refine wk_bipush (pc := 5) (v := (38 : Int32)) dX9_both_5 (by decide) ?_
      obtain ⟨r7, s7, hc7, hf⟩ := xbind_some hf
      refine wk_callVI (pc := 7) (As := [.int (38 : Int32)]) (rest := []) (kX9_takes l hG  hc7) cw_X9_106 (by omega) dX9_both_7 (nm_0 hG).2 (nm_0 hG).1 rfl rfl rfl (Nat.le_of_ble_eq_true rfl) ?_
      refine wk_if_eq (pc := 10) (tgt := 27) dX9_both_10 rfl hf (fun hf => ?_) (fun hf => ?_)
      · exact wk_vret (pc := 27) dX9_both_27 rfl (xU_of hf)
      · refine wk_aload_n (pc := 13) dX9_both_13 rfl 0 rfl ?_
        obtain ⟨⟨⟩, s14, hc14, hf⟩ := xbind_some hf
        refine wk_callVU (pc := 14) (As := []) (rest := []) (kX9_compared l hG Hrc  hc14) cw_X9_114 (by omega) dX9_both_14 (nm_0 hG).2 (nm_0 hG).1 rfl rfl rfl (Nat.le_of_ble_eq_true rfl) ?_
        refine wk_aload_n (pc := 17) dX9_both_17 rfl 0 rfl ?_
        refine wk_sipush (pc := 18) (v := (20001 : Int32)) dX9_both_18 (by decide) ?_
        obtain ⟨⟨⟩, s21, hc21, hf⟩ := xbind_some hf
        refine wk_callVU (pc := 21) (As := [.int (20001 : Int32)]) (rest := []) (kX9_codes l hG  hc21) cw_X9_110 (by omega) dX9_both_21 (nm_0 hG).2 (nm_0 hG).1 rfl rfl rfl (Nat.le_of_ble_eq_true rfl) ?_
        refine wk_goto (pc := 24) (tgt := 4) dX9_both_24 rfl ?_
        exact wk_lv [0] rfl (ih4   s21 hf)
  refine wk_aload_n (pc := 0) dX9_both_0 rfl 0 rfl ?_
  obtain ⟨⟨⟩, s1, hc1, hf⟩ := xbind_some hf
  refine wk_callVU (pc := 1) (As := []) (rest := []) (kX9_compared l hG Hrc  hc1) cw_X9_114 (by omega) dX9_both_1 (nm_0 hG).2 (nm_0 hG).1 rfl rfl rfl (Nat.le_of_ble_eq_true rfl) ?_
  exact wk_lv [0] rfl (J4  xF   s1 hf)
noncomputable def sX9_either_L4 (rc : xS → Option (Unit × xS)) (self4 : Unit → xS → Option (Unit × xS)) : Unit → xS → Option (Unit × xS) := fun _ s4 => xbind (sX9_takes (124 : Int32) s4) (fun r7 s7 => (if r7 = 0 then some ((), s7) else xbind (sX9_both rc  s7) (fun _ s14 => xbind (sX9_codes (20000 : Int32) s14) (fun _ s21 => self4 () s21))))
noncomputable def sX9_either (rc : xS → Option (Unit × xS))  (s : xS) : Option (Unit × xS) := xbind (sX9_both rc  s) (fun _ s1 => xloop (sX9_either_L4 rc) xF () s1)
set_option maxHeartbeats 4000000 in
set_option maxRecDepth 100000 in
theorem kX9_either (l : Launch) {G : xG} (hG : xM1 G) {m0 : Nat} {rc : xS → Option (Unit × xS)} (Hrc : ∀ (s : xS) (s' : xS), rc s = some ((), s') → xMet l G m0 yX9_one cX9_one 4 none [.ref (gA G 0)] s (xU s'))   {s : xS} {s' : xS} (hf : sX9_either rc  s = some ((), s')) : xMet l G (m0 + 8) yX9_either cX9_either 1 none [.ref (gA G 0)] s (xU s') := by
  refine xMet.of (by decide) (Nat.le_of_ble_eq_true rfl) ?_
  show wk l G (m0 + 8) RX9 cX9_either 1 none (xU s') 0 [(0, .ref (gA G 0))] [] s
  unfold sX9_either at hf
  have J4 : ∀   (N : Nat)   (s4 : xS), xloop (sX9_either_L4 rc) N () s4 = some ((), s') → wk l G (m0 + 8) RX9 cX9_either 1 none (xU s') 4 [(0, .ref (gA G 0))] [] s4 := by
    intro N
    induction N with
    | zero => intro  s4 hf; exact (xloop_0 hf).elim
    | succ N ih4 =>
      intro  s4 hf
      rw [xloop_s] at hf
      generalize xloop (sX9_either_L4 rc) N = self4 at hf ih4
      unfold sX9_either_L4 at hf
      refine wk_aload_n (pc := 4) dX9_either_4 rfl 0 rfl ?_
      refine wk_bipush (pc := 5) (v := (124 : Int32)) dX9_either_5 (by decide) ?_
      obtain ⟨r7, s7, hc7, hf⟩ := xbind_some hf
      refine wk_callVI (pc := 7) (As := [.int (124 : Int32)]) (rest := []) (kX9_takes l hG  hc7) cw_X9_106 (by omega) dX9_either_7 (nm_0 hG).2 (nm_0 hG).1 rfl rfl rfl (Nat.le_of_ble_eq_true rfl) ?_
      refine wk_if_eq (pc := 10) (tgt := 27) dX9_either_10 rfl hf (fun hf => ?_) (fun hf => ?_)
      · exact wk_vret (pc := 27) dX9_either_27 rfl (xU_of hf)
      · refine wk_aload_n (pc := 13) dX9_either_13 rfl 0 rfl ?_
        obtain ⟨⟨⟩, s14, hc14, hf⟩ := xbind_some hf
        refine wk_callVU (pc := 14) (As := []) (rest := []) (kX9_both l hG Hrc  hc14) cw_X9_103 (by omega) dX9_either_14 (nm_0 hG).2 (nm_0 hG).1 rfl rfl rfl (Nat.le_of_ble_eq_true rfl) ?_
        refine wk_aload_n (pc := 17) dX9_either_17 rfl 0 rfl ?_
        refine wk_sipush (pc := 18) (v := (20000 : Int32)) dX9_either_18 (by decide) ?_
        obtain ⟨⟨⟩, s21, hc21, hf⟩ := xbind_some hf
        refine wk_callVU (pc := 21) (As := [.int (20000 : Int32)]) (rest := []) (kX9_codes l hG  hc21) cw_X9_110 (by omega) dX9_either_21 (nm_0 hG).2 (nm_0 hG).1 rfl rfl rfl (Nat.le_of_ble_eq_true rfl) ?_
        refine wk_goto (pc := 24) (tgt := 4) dX9_either_24 rfl ?_
        exact wk_lv [0] rfl (ih4   s21 hf)
  refine wk_aload_n (pc := 0) dX9_either_0 rfl 0 rfl ?_
  obtain ⟨⟨⟩, s1, hc1, hf⟩ := xbind_some hf
  refine wk_callVU (pc := 1) (As := []) (rest := []) (kX9_both l hG Hrc  hc1) cw_X9_103 (by omega) dX9_either_1 (nm_0 hG).2 (nm_0 hG).1 rfl rfl rfl (Nat.le_of_ble_eq_true rfl) ?_
  exact wk_lv [0] rfl (J4  xF   s1 hf)
noncomputable def sX9_nameOf_L42 (a3_4 : Int32) (self4 : Int32 × Int32 → xS → Option (Int32 × xS)) (y42d : Int32)  (s42 : xS) : Option (Int32 × xS) := xlet (a3_4 + (1 : Int32)) (fun y43 => self4 (y42d, y43) s42)
noncomputable def sX9_nameOf_L4 (p1 : Int32) (self4 : Int32 × Int32 → xS → Option (Int32 × xS)) : Int32 × Int32 → xS → Option (Int32 × xS) := fun (a2_4, a3_4) s4 => (if xin (s4 0 9) 2 then (if (3 : Int32) ≤ a3_4 then some (a2_4, s4) else (if xin (s4 0 9) 2 then (if xin a3_4 3 then xlet ((if ((xTx.getD (s4 0 9).toNatClampNeg []).getD a3_4.toNatClampNeg 0) = p1 then a3_4 else a2_4)) (fun y42d => (sX9_nameOf_L42 a3_4 self4 y42d)  s4) else none) else none)) else none)
noncomputable def sX9_nameOf (p1 : Int32) (s : xS) : Option (Int32 × xS) := xloop (sX9_nameOf_L4 p1) xF ((-1 : Int32), (0 : Int32)) s
set_option maxHeartbeats 4000000 in
set_option maxRecDepth 100000 in
theorem kX9_nameOf (l : Launch) {G : xG} (hG : xM1 G)  {p1 : Int32}  {s : xS} {r : Int32} {s' : xS} (hf : sX9_nameOf p1 s = some (r, s')) : xMet l G 7 yX9_nameOf cX9_nameOf 4 (some .int) [.ref (gA G 0), .int p1] s (xI r s') := by
  refine xMet.of (by decide) (Nat.le_of_ble_eq_true rfl) ?_
  show wk l G 7 RX9 cX9_nameOf 4 (some .int) (xI r s') 0 [(0, .ref (gA G 0)), (1, .int p1)] [] s
  unfold sX9_nameOf at hf
  have J4 : ∀   (N : Nat) (a2_4 : Int32) (a3_4 : Int32)  (s4 : xS), xloop (sX9_nameOf_L4 p1) N (a2_4, a3_4) s4 = some (r, s') → wk l G 7 RX9 cX9_nameOf 4 (some .int) (xI r s') 4 [(0, .ref (gA G 0)), (1, .int p1), (2, .int a2_4), (3, .int a3_4)] [] s4 := by
    intro N
    induction N with
    | zero => intro a2_4 a3_4 s4 hf; exact (xloop_0 hf).elim
    | succ N ih4 =>
      intro a2_4 a3_4 s4 hf
      rw [xloop_s] at hf
      generalize xloop (sX9_nameOf_L4 p1) N = self4 at hf ih4
      unfold sX9_nameOf_L4 at hf
      dsimp only at hf
      have J42 : ∀ (y42d : Int32)    (s42 : xS), (sX9_nameOf_L42 a3_4 self4 y42d)  s42 = some (r, s') → wk l G 7 RX9 cX9_nameOf 4 (some .int) (xI r s') 42 [(0, .ref (gA G 0)), (1, .int p1), (3, .int a3_4)] [.int y42d] s42 := by
        intro y42d s42 hf
        unfold sX9_nameOf_L42 at hf
        refine wk_istore_n (pc := 42) (lv' := [(2, .int y42d), (0, .ref (gA G 0)), (1, .int p1), (3, .int a3_4)]) dX9_nameOf_42 rfl (by decide) rfl ?_
        obtain ⟨y43, hy43, hf⟩ := xlet_some hf
        refine wk_iinc (pc := 43) (v := y43) (lv' := [(3, .int y43), (2, .int y42d), (0, .ref (gA G 0)), (1, .int p1)]) dX9_nameOf_43 3 rfl (by rw [hy43] <;> rfl) (by decide) rfl ?_
        refine wk_goto (pc := 46) (tgt := 4) dX9_nameOf_46 rfl ?_
        exact wk_lv [2, 3, 1, 0] rfl (ih4 y42d y43  s42 hf)
      refine wk_iload_n (pc := 4) dX9_nameOf_4 rfl 3 rfl ?_
      refine wk_aload_n (pc := 5) dX9_nameOf_5 rfl 0 rfl ?_
      refine wk_getR (C := RX9) (T := TX9) (N := 24) (pc := 6) dX9_nameOf_6 (nm_0 hG).2 (nm_0 hG).1 rfl qU_X9 6 (by decide) qF_X9_31 rfl ?_
      refine wk_aload_n (pc := 9) dX9_nameOf_9 rfl 0 rfl ?_
      refine wk_getI (C := RX9) (T := TX9) (N := 24) (pc := 10) dX9_nameOf_10 (nm_0 hG).2 (nm_0 hG).1 rfl qU_X9 9 (by decide) qF_X9_126 rfl ?_
      obtain ⟨h13, hf⟩ := xif_some hf
      refine wk_aald (pc := 13) dX9_nameOf_13 (nm_6 hG).2 (nm_6 hG).1 h13 (named_at h13) ?_
      refine wk_strlen (pc := 14) dX9_nameOf_14 h13 cw_X9_129 (by decide) (Nat.le_of_ble_eq_true rfl) ?_
      refine wk_icmp_ge (pc := 17) (tgt := 49) dX9_nameOf_17 rfl hf (fun hf => ?_) (fun hf => ?_)
      · refine wk_iload_n (pc := 49) dX9_nameOf_49 rfl 2 rfl ?_
        exact wk_iret (pc := 50) dX9_nameOf_50 rfl (xI_of hf)
      · refine wk_aload_n (pc := 20) dX9_nameOf_20 rfl 0 rfl ?_
        refine wk_getR (C := RX9) (T := TX9) (N := 24) (pc := 21) dX9_nameOf_21 (nm_0 hG).2 (nm_0 hG).1 rfl qU_X9 6 (by decide) qF_X9_31 rfl ?_
        refine wk_aload_n (pc := 24) dX9_nameOf_24 rfl 0 rfl ?_
        refine wk_getI (C := RX9) (T := TX9) (N := 24) (pc := 25) dX9_nameOf_25 (nm_0 hG).2 (nm_0 hG).1 rfl qU_X9 9 (by decide) qF_X9_126 rfl ?_
        obtain ⟨h28, hf⟩ := xif_some hf
        refine wk_aald (pc := 28) dX9_nameOf_28 (nm_6 hG).2 (nm_6 hG).1 h28 (named_at h28) ?_
        refine wk_iload_n (pc := 29) dX9_nameOf_29 rfl 3 rfl ?_
        obtain ⟨h30, hf⟩ := xif_some hf
        refine wk_charAt (pc := 30) dX9_nameOf_30 h28 h30 cw_X9_132 (by decide) (Nat.le_of_ble_eq_true rfl) ?_
        refine wk_iload_n (pc := 33) dX9_nameOf_33 rfl 1 rfl ?_
        obtain ⟨y42d, hy42d, hf⟩ := xlet_some hf
        have K42 : wk l G 7 RX9 cX9_nameOf 4 (some .int) (xI r s') 42 [(0, .ref (gA G 0)), (1, .int p1), (2, .int a2_4), (3, .int a3_4)] [.int y42d] s4 := by
          exact wk_lv [0, 1, 3] rfl (J42 y42d   s4 hf)
        by_cases c34 : ((xTx.getD (s4 0 9).toNatClampNeg []).getD a3_4.toNatClampNeg 0) = p1
        · rw [if_pos c34] at hy42d
          refine wk_icmp_ne_p (pc := 34) (tgt := 41) dX9_nameOf_34 rfl c34 ?_
          refine wk_iload_n (pc := 37) dX9_nameOf_37 rfl 3 rfl ?_
          refine wk_goto (pc := 38) (tgt := 42) dX9_nameOf_38 rfl ?_
          exact wk_top hy42d K42
        · rw [if_neg c34] at hy42d
          refine wk_icmp_ne_m (pc := 34) (tgt := 41) dX9_nameOf_34 rfl c34 ?_
          refine wk_iload_n (pc := 41) dX9_nameOf_41 rfl 2 rfl ?_
          exact wk_top hy42d K42
  refine wk_iconst (pc := 0) (v := (-1 : Int32)) dX9_nameOf_0 (by decide) ?_
  refine wk_istore_n (pc := 1) (lv' := [(2, .int (-1 : Int32)), (0, .ref (gA G 0)), (1, .int p1)]) dX9_nameOf_1 rfl (by decide) rfl ?_
  refine wk_iconst (pc := 2) (v := (0 : Int32)) dX9_nameOf_2 (by decide) ?_
  refine wk_istore_n (pc := 3) (lv' := [(3, .int (0 : Int32)), (2, .int (-1 : Int32)), (0, .ref (gA G 0)), (1, .int p1)]) dX9_nameOf_3 rfl (by decide) rfl ?_
  exact wk_lv [2, 3, 1, 0] rfl (J4  xF (-1 : Int32) (0 : Int32)  s hf)
noncomputable def sX9_one_L218 (t0_200 : Int32) (y218d : Int32)  (s218 : xS) : Option (Unit × xS) := (if y218d = 0 ∨ y218d = 1 then xlet (xup s218 0 (upd (s218 0) 10 y218d)) (fun s218b => (if (s218b 0 10) = 0 then xbind (sX9_codes ((10000 : Int32) + t0_200) s218b) (fun _ s234 => xlet (xup s234 0 (upd (s234 0) 7 ((s234 0 7) + (1 : Int32)))) (fun s244 => some ((), s244))) else some ((), s218b))) else none)
noncomputable def sX9_one_L200  (t0_200 : Int32) (s200 : xS) : Option (Unit × xS) := xlet ((if (s200 0 10) = 0 then (if 0 ≤ t0_200 then (0 : Int32) else (1 : Int32)) else (1 : Int32))) (fun y218d => (sX9_one_L218 t0_200 y218d)  s200)
noncomputable def sX9_one_L179 (a2_131 : Int32)  (s179 : xS) : Option (Unit × xS) := xbind (sX9_codes a2_131 s179) (fun _ s181 => some ((), s181))
noncomputable def sX9_one_L131  (self131 : Int32 × Int32 → xS → Option (Unit × xS)) : Int32 × Int32 → xS → Option (Unit × xS) := fun (a2_131, a3_131) s131 => (if (4 : Int32) ≤ a3_131 then (sX9_one_L179 a2_131)  s131 else xbind (sX9_here  s131) (fun r137 s137 => xbind (sX9_within r137 (48 : Int32) (57 : Int32) s137) (fun r144 s144 => (if r144 = 0 then (sX9_one_L179 a2_131)  s144 else xbind (sX9_here  s144) (fun r155 s155 => xlet (((((10 : Int32) * a2_131) + r155) - (48 : Int32))) (fun y162 => xlet (xup s155 0 (upd (s155 0) 7 ((s155 0 7) + (1 : Int32)))) (fun s170 => xlet (a3_131 + (1 : Int32)) (fun y173 => self131 (y162, y173) s170))))))))
noncomputable def sX9_one_L103   (s103 : xS) : Option (Unit × xS) := xlet (xup s103 0 (upd (s103 0) 8 ((s103 0 8) - (1 : Int32)))) (fun s110 => some ((), s110))
noncomputable def sX9_one_L100 (y100d : Int32)  (s100 : xS) : Option (Unit × xS) := (if y100d = 0 ∨ y100d = 1 then xlet (xup s100 0 (upd (s100 0) 10 y100d)) (fun s100b => sX9_one_L103  s100b) else none)
noncomputable def sX9_one_L31 (rc : xS → Option (Unit × xS)) (r1 : Int32) (y31d : Int32)  (s31 : xS) : Option (Unit × xS) := (if y31d = 0 ∨ y31d = 1 then xlet (xup s31 0 (upd (s31 0) 10 y31d)) (fun s31b => (if (s31b 0 10) = 0 then xlet (xup s31b 0 (upd (s31b 0) 8 ((s31b 0 8) + (1 : Int32)))) (fun s48 => xlet (xup s48 0 (upd (s48 0) 7 ((s48 0 7) + (1 : Int32)))) (fun s58 => (if r1 = (33 : Int32) then xbind (rc  s58) (fun _ s68 => xbind (sX9_codes (20010 : Int32) s68) (fun _ s75 => sX9_one_L103  s75)) else xbind (sX9_either rc  s58) (fun _ s82 => xbind (sX9_takes (41 : Int32) s82) (fun r89 s89 => xlet ((if r89 = 0 then (1 : Int32) else (0 : Int32))) (fun y100d => (sX9_one_L100 y100d)  s89)))))) else some ((), s31b))) else none)
noncomputable def sX9_one_L17 (rc : xS → Option (Unit × xS)) (r1 : Int32)  (s17 : xS) : Option (Unit × xS) := xlet ((if (s17 0 8) = (5 : Int32) then (1 : Int32) else (0 : Int32))) (fun y31d => (sX9_one_L31 rc r1 y31d)  s17)
noncomputable def sX9_one_body (rc : xS → Option (Unit × xS))  (s : xS) : Option (Unit × xS) := xbind (sX9_here  s) (fun r1 s1 => (if r1 = (33 : Int32) then (sX9_one_L17 rc r1)  s1 else (if r1 = (40 : Int32) then (sX9_one_L17 rc r1)  s1 else xbind (sX9_within r1 (48 : Int32) (57 : Int32) s1) (fun r121 s121 => (if r121 = 0 then (if 0 ≤ r1 then xbind (sX9_nameOf r1 s121) (fun r197 s197 => sX9_one_L200 r197 s197) else sX9_one_L200 (-1 : Int32) s121) else xloop sX9_one_L131 xF ((0 : Int32), (0 : Int32)) s121)))))
noncomputable def sX9_one : Nat → xS → Option (Unit × xS)
  | 0 => fun  _ => none
  | d + 1 => fun  s => sX9_one_body (sX9_one d)  s
set_option maxHeartbeats 4000000 in
set_option maxRecDepth 100000 in
theorem kX9_one_body (l : Launch) {G : xG} (hG : xM1 G) {m0 : Nat} {rc : xS → Option (Unit × xS)} (Hrc : ∀ (s : xS) (s' : xS), rc s = some ((), s') → xMet l G m0 yX9_one cX9_one 4 none [.ref (gA G 0)] s (xU s'))   {s : xS} {s' : xS} (hf : sX9_one_body rc  s = some ((), s')) : xMet l G (m0 + 9) yX9_one cX9_one 4 none [.ref (gA G 0)] s (xU s') := by
  refine xMet.of (by decide) (Nat.le_of_ble_eq_true rfl) ?_
  show wk l G (m0 + 9) RX9 cX9_one 4 none (xU s') 0 [(0, .ref (gA G 0))] [] s
  unfold sX9_one_body at hf
  have J218 : ∀ (t0_200 : Int32) (y218d : Int32)    (s218 : xS), (sX9_one_L218 t0_200 y218d)  s218 = some ((), s') → wk l G (m0 + 9) RX9 cX9_one 4 none (xU s') 218 [(0, .ref (gA G 0)), (2, .int t0_200)] [.int y218d, .ref (gA G 0)] s218 := by
    intro t0_200 y218d s218 hf
    unfold sX9_one_L218 at hf
    obtain ⟨h218, hf⟩ := xif_some hf
    refine wk_putI (C := RX9) (T := TX9) (N := 24) (ty := .boolean) (pc := 218) dX9_one_218 (nm_0 hG).2 (nm_0 hG).1 rfl qU_X9 tyX9 tyX9_ok nmX9 10 (by decide) qF_X9_88 rfl rfl rfl (x01n h218) (x01f h218) ?_
    obtain ⟨s218b, hs218b, hf⟩ := xlet_some hf
    refine wk_sig hs218b ?_
    refine wk_aload_n (pc := 221) dX9_one_221 rfl 0 rfl ?_
    refine wk_getI (C := RX9) (T := TX9) (N := 24) (pc := 222) dX9_one_222 (nm_0 hG).2 (nm_0 hG).1 rfl qU_X9 10 (by decide) qF_X9_88 rfl ?_
    refine wk_if_ne (pc := 225) (tgt := 247) dX9_one_225 rfl hf (fun hf => ?_) (fun hf => ?_)
    · exact wk_vret (pc := 247) dX9_one_247 rfl (xU_of hf)
    · refine wk_aload_n (pc := 228) dX9_one_228 rfl 0 rfl ?_
      refine wk_sipush (pc := 229) (v := (10000 : Int32)) dX9_one_229 (by decide) ?_
      refine wk_iload_n (pc := 232) dX9_one_232 rfl 1 rfl ?_
      refine wk_iadd (pc := 233) dX9_one_233 ?_
      obtain ⟨⟨⟩, s234, hc234, hf⟩ := xbind_some hf
      refine wk_callVU (pc := 234) (As := [.int ((10000 : Int32) + t0_200)]) (rest := []) (kX9_codes l hG  hc234) cw_X9_110 (by omega) dX9_one_234 (nm_0 hG).2 (nm_0 hG).1 rfl rfl rfl (Nat.le_of_ble_eq_true rfl) ?_
      refine wk_aload_n (pc := 237) dX9_one_237 rfl 0 rfl ?_
      refine wk_dup (pc := 238) dX9_one_238 rfl ?_
      refine wk_getI (C := RX9) (T := TX9) (N := 24) (pc := 239) dX9_one_239 (nm_0 hG).2 (nm_0 hG).1 rfl qU_X9 7 (by decide) qF_X9_92 rfl ?_
      refine wk_iconst (pc := 242) (v := (1 : Int32)) dX9_one_242 (by decide) ?_
      refine wk_iadd (pc := 243) dX9_one_243 ?_
      refine wk_putI (C := RX9) (T := TX9) (N := 24) (ty := .int) (pc := 244) dX9_one_244 (nm_0 hG).2 (nm_0 hG).1 rfl qU_X9 tyX9 tyX9_ok nmX9 7 (by decide) qF_X9_92 rfl rfl rfl rfl rfl ?_
      obtain ⟨s244, hs244, hf⟩ := xlet_some hf
      refine wk_sig hs244 ?_
      exact wk_vret (pc := 247) dX9_one_247 rfl (xU_of hf)
  have J200 : ∀   (t0_200 : Int32)  (s200 : xS), sX9_one_L200 t0_200 s200 = some ((), s') → wk l G (m0 + 9) RX9 cX9_one 4 none (xU s') 200 [(0, .ref (gA G 0))] [.int t0_200] s200 := by
    intro t0_200 s200 hf
    unfold sX9_one_L200 at hf
    refine wk_istore_n (pc := 200) (lv' := [(2, .int t0_200), (0, .ref (gA G 0))]) dX9_one_200 rfl (by decide) rfl ?_
    refine wk_aload_n (pc := 201) dX9_one_201 rfl 1 rfl ?_
    refine wk_aload_n (pc := 202) dX9_one_202 rfl 1 rfl ?_
    refine wk_getI (C := RX9) (T := TX9) (N := 24) (pc := 203) dX9_one_203 (nm_0 hG).2 (nm_0 hG).1 rfl qU_X9 10 (by decide) qF_X9_88 rfl ?_
    obtain ⟨y218d, hy218d, hf⟩ := xlet_some hf
    have K218 : wk l G (m0 + 9) RX9 cX9_one 4 none (xU s') 218 [(2, .int t0_200), (0, .ref (gA G 0))] [.int y218d, .ref (gA G 0)] s200 := by
      exact wk_lv [1, 0] rfl (J218 t0_200 y218d   s200 hf)
    by_cases c206 : (s200 0 10) = 0
    · rw [if_pos c206] at hy218d
      refine wk_if_ne_p (pc := 206) (tgt := 213) dX9_one_206 rfl c206 ?_
      refine wk_iload_n (pc := 209) dX9_one_209 rfl 0 rfl ?_
      by_cases c210 : 0 ≤ t0_200
      · rw [if_pos c210] at hy218d
        refine wk_if_ge_p (pc := 210) (tgt := 217) dX9_one_210 rfl c210 ?_
        refine wk_iconst (pc := 217) (v := (0 : Int32)) dX9_one_217 (by decide) ?_
        exact wk_top hy218d K218
      · rw [if_neg c210] at hy218d
        refine wk_if_ge_m (pc := 210) (tgt := 217) dX9_one_210 rfl c210 ?_
        refine wk_iconst (pc := 213) (v := (1 : Int32)) dX9_one_213 (by decide) ?_
        refine wk_goto (pc := 214) (tgt := 218) dX9_one_214 rfl ?_
        exact wk_top hy218d K218
    · rw [if_neg c206] at hy218d
      refine wk_if_ne_m (pc := 206) (tgt := 213) dX9_one_206 rfl c206 ?_
      refine wk_iconst (pc := 213) (v := (1 : Int32)) dX9_one_213 (by decide) ?_
      refine wk_goto (pc := 214) (tgt := 218) dX9_one_214 rfl ?_
      exact wk_top hy218d K218
  have J179 : ∀ (a2_131 : Int32)    (s179 : xS), (sX9_one_L179 a2_131)  s179 = some ((), s') → wk l G (m0 + 9) RX9 cX9_one 4 none (xU s') 179 [(0, .ref (gA G 0)), (2, .int a2_131)] [] s179 := by
    intro a2_131 s179 hf
    unfold sX9_one_L179 at hf
    refine wk_aload_n (pc := 179) dX9_one_179 rfl 0 rfl ?_
    refine wk_iload_n (pc := 180) dX9_one_180 rfl 1 rfl ?_
    obtain ⟨⟨⟩, s181, hc181, hf⟩ := xbind_some hf
    refine wk_callVU (pc := 181) (As := [.int a2_131]) (rest := []) (kX9_codes l hG  hc181) cw_X9_110 (by omega) dX9_one_181 (nm_0 hG).2 (nm_0 hG).1 rfl rfl rfl (Nat.le_of_ble_eq_true rfl) ?_
    refine wk_goto (pc := 184) (tgt := 247) dX9_one_184 rfl ?_
    exact wk_vret (pc := 247) dX9_one_247 rfl (xU_of hf)
  have J131 : ∀   (N : Nat) (a2_131 : Int32) (a3_131 : Int32)  (s131 : xS), xloop sX9_one_L131 N (a2_131, a3_131) s131 = some ((), s') → wk l G (m0 + 9) RX9 cX9_one 4 none (xU s') 131 [(0, .ref (gA G 0)), (2, .int a2_131), (3, .int a3_131)] [] s131 := by
    intro N
    induction N with
    | zero => intro a2_131 a3_131 s131 hf; exact (xloop_0 hf).elim
    | succ N ih131 =>
      intro a2_131 a3_131 s131 hf
      rw [xloop_s] at hf
      generalize xloop sX9_one_L131 N = self131 at hf ih131
      unfold sX9_one_L131 at hf
      dsimp only at hf
      refine wk_iload_n (pc := 131) dX9_one_131 rfl 2 rfl ?_
      refine wk_iconst (pc := 132) (v := (4 : Int32)) dX9_one_132 (by decide) ?_
      refine wk_icmp_ge (pc := 133) (tgt := 179) dX9_one_133 rfl hf (fun hf => ?_) (fun hf => ?_)
      · exact wk_lv [0, 1] rfl (J179 a2_131   s131 hf)
      · refine wk_aload_n (pc := 136) dX9_one_136 rfl 0 rfl ?_
        obtain ⟨r137, s137, hc137, hf⟩ := xbind_some hf
        refine wk_callVI (pc := 137) (As := []) (rest := []) (kX9_here l hG  hc137) cw_X9_96 (by omega) dX9_one_137 (nm_0 hG).2 (nm_0 hG).1 rfl rfl rfl (Nat.le_of_ble_eq_true rfl) ?_
        refine wk_bipush (pc := 140) (v := (48 : Int32)) dX9_one_140 (by decide) ?_
        refine wk_bipush (pc := 142) (v := (57 : Int32)) dX9_one_142 (by decide) ?_
        obtain ⟨r144, s144, hc144, hf⟩ := xbind_some hf
        refine wk_callSI (pc := 144) (As := [.int r137, .int (48 : Int32), .int (57 : Int32)]) (rest := []) (kX9_within l hG  hc144) cw_X9_77 (by omega) dX9_one_144 rfl (Nat.le_of_ble_eq_true rfl) ?_
        refine wk_if_eq (pc := 147) (tgt := 179) dX9_one_147 rfl hf (fun hf => ?_) (fun hf => ?_)
        · exact wk_lv [0, 1] rfl (J179 a2_131   s144 hf)
        · refine wk_bipush (pc := 150) (v := (10 : Int32)) dX9_one_150 (by decide) ?_
          refine wk_iload_n (pc := 152) dX9_one_152 rfl 1 rfl ?_
          refine wk_imul (pc := 153) dX9_one_153 ?_
          refine wk_aload_n (pc := 154) dX9_one_154 rfl 0 rfl ?_
          obtain ⟨r155, s155, hc155, hf⟩ := xbind_some hf
          refine wk_callVI (pc := 155) (As := []) (rest := [.int ((10 : Int32) * a2_131)]) (kX9_here l hG  hc155) cw_X9_96 (by omega) dX9_one_155 (nm_0 hG).2 (nm_0 hG).1 rfl rfl rfl (Nat.le_of_ble_eq_true rfl) ?_
          refine wk_iadd (pc := 158) dX9_one_158 ?_
          refine wk_bipush (pc := 159) (v := (48 : Int32)) dX9_one_159 (by decide) ?_
          refine wk_isub (pc := 161) dX9_one_161 ?_
          obtain ⟨y162, hy162, hf⟩ := xlet_some hf
          refine wk_top hy162 ?_
          refine wk_istore_n (pc := 162) (lv' := [(2, .int y162), (0, .ref (gA G 0)), (3, .int a3_131)]) dX9_one_162 rfl (by decide) rfl ?_
          refine wk_aload_n (pc := 163) dX9_one_163 rfl 1 rfl ?_
          refine wk_dup (pc := 164) dX9_one_164 rfl ?_
          refine wk_getI (C := RX9) (T := TX9) (N := 24) (pc := 165) dX9_one_165 (nm_0 hG).2 (nm_0 hG).1 rfl qU_X9 7 (by decide) qF_X9_92 rfl ?_
          refine wk_iconst (pc := 168) (v := (1 : Int32)) dX9_one_168 (by decide) ?_
          refine wk_iadd (pc := 169) dX9_one_169 ?_
          refine wk_putI (C := RX9) (T := TX9) (N := 24) (ty := .int) (pc := 170) dX9_one_170 (nm_0 hG).2 (nm_0 hG).1 rfl qU_X9 tyX9 tyX9_ok nmX9 7 (by decide) qF_X9_92 rfl rfl rfl rfl rfl ?_
          obtain ⟨s170, hs170, hf⟩ := xlet_some hf
          refine wk_sig hs170 ?_
          obtain ⟨y173, hy173, hf⟩ := xlet_some hf
          refine wk_iinc (pc := 173) (v := y173) (lv' := [(3, .int y173), (2, .int y162), (0, .ref (gA G 0))]) dX9_one_173 2 rfl (by rw [hy173] <;> rfl) (by decide) rfl ?_
          refine wk_goto (pc := 176) (tgt := 131) dX9_one_176 rfl ?_
          exact wk_lv [2, 1, 0] rfl (ih131 y162 y173  s170 hf)
  have J103 : ∀     (s103 : xS), sX9_one_L103  s103 = some ((), s') → wk l G (m0 + 9) RX9 cX9_one 4 none (xU s') 103 [(0, .ref (gA G 0))] [] s103 := by
    intro s103 hf
    unfold sX9_one_L103 at hf
    refine wk_aload_n (pc := 103) dX9_one_103 rfl 0 rfl ?_
    refine wk_dup (pc := 104) dX9_one_104 rfl ?_
    refine wk_getI (C := RX9) (T := TX9) (N := 24) (pc := 105) dX9_one_105 (nm_0 hG).2 (nm_0 hG).1 rfl qU_X9 8 (by decide) qF_X9_136 rfl ?_
    refine wk_iconst (pc := 108) (v := (1 : Int32)) dX9_one_108 (by decide) ?_
    refine wk_isub (pc := 109) dX9_one_109 ?_
    refine wk_putI (C := RX9) (T := TX9) (N := 24) (ty := .int) (pc := 110) dX9_one_110 (nm_0 hG).2 (nm_0 hG).1 rfl qU_X9 tyX9 tyX9_ok nmX9 8 (by decide) qF_X9_136 rfl rfl rfl rfl rfl ?_
    obtain ⟨s110, hs110, hf⟩ := xlet_some hf
    refine wk_sig hs110 ?_
    refine wk_goto (pc := 113) (tgt := 247) dX9_one_113 rfl ?_
    exact wk_vret (pc := 247) dX9_one_247 rfl (xU_of hf)
  have J100 : ∀ (y100d : Int32)    (s100 : xS), (sX9_one_L100 y100d)  s100 = some ((), s') → wk l G (m0 + 9) RX9 cX9_one 4 none (xU s') 100 [(0, .ref (gA G 0))] [.int y100d, .ref (gA G 0)] s100 := by
    intro y100d s100 hf
    unfold sX9_one_L100 at hf
    obtain ⟨h100, hf⟩ := xif_some hf
    refine wk_putI (C := RX9) (T := TX9) (N := 24) (ty := .boolean) (pc := 100) dX9_one_100 (nm_0 hG).2 (nm_0 hG).1 rfl qU_X9 tyX9 tyX9_ok nmX9 10 (by decide) qF_X9_88 rfl rfl rfl (x01n h100) (x01f h100) ?_
    obtain ⟨s100b, hs100b, hf⟩ := xlet_some hf
    refine wk_sig hs100b ?_
    exact wk_lv [0] rfl (J103    s100b hf)
  have J31 : ∀ (r1 : Int32) (y31d : Int32)    (s31 : xS), (sX9_one_L31 rc r1 y31d)  s31 = some ((), s') → wk l G (m0 + 9) RX9 cX9_one 4 none (xU s') 31 [(0, .ref (gA G 0)), (1, .int r1)] [.int y31d, .ref (gA G 0)] s31 := by
    intro r1 y31d s31 hf
    unfold sX9_one_L31 at hf
    obtain ⟨h31, hf⟩ := xif_some hf
    refine wk_putI (C := RX9) (T := TX9) (N := 24) (ty := .boolean) (pc := 31) dX9_one_31 (nm_0 hG).2 (nm_0 hG).1 rfl qU_X9 tyX9 tyX9_ok nmX9 10 (by decide) qF_X9_88 rfl rfl rfl (x01n h31) (x01f h31) ?_
    obtain ⟨s31b, hs31b, hf⟩ := xlet_some hf
    refine wk_sig hs31b ?_
    refine wk_aload_n (pc := 34) dX9_one_34 rfl 0 rfl ?_
    refine wk_getI (C := RX9) (T := TX9) (N := 24) (pc := 35) dX9_one_35 (nm_0 hG).2 (nm_0 hG).1 rfl qU_X9 10 (by decide) qF_X9_88 rfl ?_
    refine wk_if_ne (pc := 38) (tgt := 247) dX9_one_38 rfl hf (fun hf => ?_) (fun hf => ?_)
    · exact wk_vret (pc := 247) dX9_one_247 rfl (xU_of hf)
    · refine wk_aload_n (pc := 41) dX9_one_41 rfl 0 rfl ?_
      refine wk_dup (pc := 42) dX9_one_42 rfl ?_
      refine wk_getI (C := RX9) (T := TX9) (N := 24) (pc := 43) dX9_one_43 (nm_0 hG).2 (nm_0 hG).1 rfl qU_X9 8 (by decide) qF_X9_136 rfl ?_
      refine wk_iconst (pc := 46) (v := (1 : Int32)) dX9_one_46 (by decide) ?_
      refine wk_iadd (pc := 47) dX9_one_47 ?_
      refine wk_putI (C := RX9) (T := TX9) (N := 24) (ty := .int) (pc := 48) dX9_one_48 (nm_0 hG).2 (nm_0 hG).1 rfl qU_X9 tyX9 tyX9_ok nmX9 8 (by decide) qF_X9_136 rfl rfl rfl rfl rfl ?_
      obtain ⟨s48, hs48, hf⟩ := xlet_some hf
      refine wk_sig hs48 ?_
      refine wk_aload_n (pc := 51) dX9_one_51 rfl 0 rfl ?_
      refine wk_dup (pc := 52) dX9_one_52 rfl ?_
      refine wk_getI (C := RX9) (T := TX9) (N := 24) (pc := 53) dX9_one_53 (nm_0 hG).2 (nm_0 hG).1 rfl qU_X9 7 (by decide) qF_X9_92 rfl ?_
      refine wk_iconst (pc := 56) (v := (1 : Int32)) dX9_one_56 (by decide) ?_
      refine wk_iadd (pc := 57) dX9_one_57 ?_
      refine wk_putI (C := RX9) (T := TX9) (N := 24) (ty := .int) (pc := 58) dX9_one_58 (nm_0 hG).2 (nm_0 hG).1 rfl qU_X9 tyX9 tyX9_ok nmX9 7 (by decide) qF_X9_92 rfl rfl rfl rfl rfl ?_
      obtain ⟨s58, hs58, hf⟩ := xlet_some hf
      refine wk_sig hs58 ?_
      refine wk_iload_n (pc := 61) dX9_one_61 rfl 1 rfl ?_
      refine wk_bipush (pc := 62) (v := (33 : Int32)) dX9_one_62 (by decide) ?_
      refine wk_icmp_ne (pc := 64) (tgt := 81) dX9_one_64 rfl hf (fun hf => ?_) (fun hf => ?_)
      · refine wk_aload_n (pc := 81) dX9_one_81 rfl 0 rfl ?_
        obtain ⟨⟨⟩, s82, hc82, hf⟩ := xbind_some hf
        refine wk_callVU (pc := 82) (As := []) (rest := []) (kX9_either l hG Hrc  hc82) cw_X9_139 (by omega) dX9_one_82 (nm_0 hG).2 (nm_0 hG).1 rfl rfl rfl (Nat.le_of_ble_eq_true rfl) ?_
        refine wk_aload_n (pc := 85) dX9_one_85 rfl 0 rfl ?_
        refine wk_aload_n (pc := 86) dX9_one_86 rfl 0 rfl ?_
        refine wk_bipush (pc := 87) (v := (41 : Int32)) dX9_one_87 (by decide) ?_
        obtain ⟨r89, s89, hc89, hf⟩ := xbind_some hf
        refine wk_callVI (pc := 89) (As := [.int (41 : Int32)]) (rest := [.ref (gA G 0)]) (kX9_takes l hG  hc89) cw_X9_106 (by omega) dX9_one_89 (nm_0 hG).2 (nm_0 hG).1 rfl rfl rfl (Nat.le_of_ble_eq_true rfl) ?_
        obtain ⟨y100d, hy100d, hf⟩ := xlet_some hf
        have K100 : wk l G (m0 + 9) RX9 cX9_one 4 none (xU s') 100 [(0, .ref (gA G 0)), (1, .int r1)] [.int y100d, .ref (gA G 0)] s89 := by
          exact wk_lv [0] rfl (J100 y100d   s89 hf)
        by_cases c92 : r89 = 0
        · rw [if_pos c92] at hy100d
          refine wk_if_ne_p (pc := 92) (tgt := 99) dX9_one_92 rfl c92 ?_
          refine wk_iconst (pc := 95) (v := (1 : Int32)) dX9_one_95 (by decide) ?_
          refine wk_goto (pc := 96) (tgt := 100) dX9_one_96 rfl ?_
          exact wk_top hy100d K100
        · rw [if_neg c92] at hy100d
          refine wk_if_ne_m (pc := 92) (tgt := 99) dX9_one_92 rfl c92 ?_
          refine wk_iconst (pc := 99) (v := (0 : Int32)) dX9_one_99 (by decide) ?_
          exact wk_top hy100d K100
      · refine wk_aload_n (pc := 67) dX9_one_67 rfl 0 rfl ?_
        obtain ⟨⟨⟩, s68, hc68, hf⟩ := xbind_some hf
        refine wk_callVU (pc := 68) (As := []) (rest := []) (Hrc  s58 _ hc68) cw_X9_123 (by omega) dX9_one_68 (nm_0 hG).2 (nm_0 hG).1 rfl rfl rfl (Nat.le_of_ble_eq_true rfl) ?_
        refine wk_aload_n (pc := 71) dX9_one_71 rfl 0 rfl ?_
        refine wk_sipush (pc := 72) (v := (20010 : Int32)) dX9_one_72 (by decide) ?_
        obtain ⟨⟨⟩, s75, hc75, hf⟩ := xbind_some hf
        refine wk_callVU (pc := 75) (As := [.int (20010 : Int32)]) (rest := []) (kX9_codes l hG  hc75) cw_X9_110 (by omega) dX9_one_75 (nm_0 hG).2 (nm_0 hG).1 rfl rfl rfl (Nat.le_of_ble_eq_true rfl) ?_
        refine wk_goto (pc := 78) (tgt := 103) dX9_one_78 rfl ?_
        exact wk_lv [0] rfl (J103    s75 hf)
  have J17 : ∀ (r1 : Int32)    (s17 : xS), (sX9_one_L17 rc r1)  s17 = some ((), s') → wk l G (m0 + 9) RX9 cX9_one 4 none (xU s') 17 [(0, .ref (gA G 0)), (1, .int r1)] [] s17 := by
    intro r1 s17 hf
    unfold sX9_one_L17 at hf
    refine wk_aload_n (pc := 17) dX9_one_17 rfl 0 rfl ?_
    refine wk_aload_n (pc := 18) dX9_one_18 rfl 0 rfl ?_
    refine wk_getI (C := RX9) (T := TX9) (N := 24) (pc := 19) dX9_one_19 (nm_0 hG).2 (nm_0 hG).1 rfl qU_X9 8 (by decide) qF_X9_136 rfl ?_
    refine wk_iconst (pc := 22) (v := (5 : Int32)) dX9_one_22 (by decide) ?_
    obtain ⟨y31d, hy31d, hf⟩ := xlet_some hf
    have K31 : wk l G (m0 + 9) RX9 cX9_one 4 none (xU s') 31 [(0, .ref (gA G 0)), (1, .int r1)] [.int y31d, .ref (gA G 0)] s17 := by
      exact wk_lv [0, 1] rfl (J31 r1 y31d   s17 hf)
    by_cases c23 : (s17 0 8) = (5 : Int32)
    · rw [if_pos c23] at hy31d
      refine wk_icmp_ne_p (pc := 23) (tgt := 30) dX9_one_23 rfl c23 ?_
      refine wk_iconst (pc := 26) (v := (1 : Int32)) dX9_one_26 (by decide) ?_
      refine wk_goto (pc := 27) (tgt := 31) dX9_one_27 rfl ?_
      exact wk_top hy31d K31
    · rw [if_neg c23] at hy31d
      refine wk_icmp_ne_m (pc := 23) (tgt := 30) dX9_one_23 rfl c23 ?_
      refine wk_iconst (pc := 30) (v := (0 : Int32)) dX9_one_30 (by decide) ?_
      exact wk_top hy31d K31
  refine wk_aload_n (pc := 0) dX9_one_0 rfl 0 rfl ?_
  obtain ⟨r1, s1, hc1, hf⟩ := xbind_some hf
  refine wk_callVI (pc := 1) (As := []) (rest := []) (kX9_here l hG  hc1) cw_X9_96 (by omega) dX9_one_1 (nm_0 hG).2 (nm_0 hG).1 rfl rfl rfl (Nat.le_of_ble_eq_true rfl) ?_
  refine wk_istore_n (pc := 4) (lv' := [(1, .int r1), (0, .ref (gA G 0))]) dX9_one_4 rfl (by decide) rfl ?_
  refine wk_iload_n (pc := 5) dX9_one_5 rfl 0 rfl ?_
  refine wk_bipush (pc := 6) (v := (33 : Int32)) dX9_one_6 (by decide) ?_
  refine wk_icmp_eq (pc := 8) (tgt := 17) dX9_one_8 rfl hf (fun hf => ?_) (fun hf => ?_)
  · exact wk_lv [1, 0] rfl (J17 r1   s1 hf)
  · refine wk_iload_n (pc := 11) dX9_one_11 rfl 0 rfl ?_
    refine wk_bipush (pc := 12) (v := (40 : Int32)) dX9_one_12 (by decide) ?_
    refine wk_icmp_ne (pc := 14) (tgt := 116) dX9_one_14 rfl hf (fun hf => ?_) (fun hf => ?_)
    · refine wk_iload_n (pc := 116) dX9_one_116 rfl 0 rfl ?_
      refine wk_bipush (pc := 117) (v := (48 : Int32)) dX9_one_117 (by decide) ?_
      refine wk_bipush (pc := 119) (v := (57 : Int32)) dX9_one_119 (by decide) ?_
      obtain ⟨r121, s121, hc121, hf⟩ := xbind_some hf
      refine wk_callSI (pc := 121) (As := [.int r1, .int (48 : Int32), .int (57 : Int32)]) (rest := []) (kX9_within l hG  hc121) cw_X9_77 (by omega) dX9_one_121 rfl (Nat.le_of_ble_eq_true rfl) ?_
      refine wk_if_eq (pc := 124) (tgt := 187) dX9_one_124 rfl hf (fun hf => ?_) (fun hf => ?_)
      · refine wk_iload_n (pc := 187) dX9_one_187 rfl 0 rfl ?_
        refine wk_if_ge (pc := 188) (tgt := 195) dX9_one_188 rfl hf (fun hf => ?_) (fun hf => ?_)
        · refine wk_aload_n (pc := 195) dX9_one_195 rfl 1 rfl ?_
          refine wk_iload_n (pc := 196) dX9_one_196 rfl 0 rfl ?_
          obtain ⟨r197, s197, hc197, hf⟩ := xbind_some hf
          refine wk_callVI (pc := 197) (As := [.int r1]) (rest := []) (kX9_nameOf l hG  hc197) cw_X9_142 (by omega) dX9_one_197 (nm_0 hG).2 (nm_0 hG).1 rfl rfl rfl (Nat.le_of_ble_eq_true rfl) ?_
          exact wk_lv [1] rfl (J200  r197  s197 hf)
        · refine wk_iconst (pc := 191) (v := (-1 : Int32)) dX9_one_191 (by decide) ?_
          refine wk_goto (pc := 192) (tgt := 200) dX9_one_192 rfl ?_
          exact wk_lv [1] rfl (J200  (-1 : Int32)  s121 hf)
      · refine wk_iconst (pc := 127) (v := (0 : Int32)) dX9_one_127 (by decide) ?_
        refine wk_istore_n (pc := 128) (lv' := [(2, .int (0 : Int32)), (1, .int r1), (0, .ref (gA G 0))]) dX9_one_128 rfl (by decide) rfl ?_
        refine wk_iconst (pc := 129) (v := (0 : Int32)) dX9_one_129 (by decide) ?_
        refine wk_istore_n (pc := 130) (lv' := [(3, .int (0 : Int32)), (2, .int (0 : Int32)), (1, .int r1), (0, .ref (gA G 0))]) dX9_one_130 rfl (by decide) rfl ?_
        exact wk_lv [3, 1, 0] rfl (J131  xF (0 : Int32) (0 : Int32)  s121 hf)
    · exact wk_lv [1, 0] rfl (J17 r1   s1 hf)
theorem kX9_one_all (l : Launch) {G : xG} (hG : xM1 G) : ∀ (d : Nat)  (s : xS) (s' : xS), sX9_one d  s = some ((), s') → xMet l G (9 * d) yX9_one cX9_one 4 none [.ref (gA G 0)] s (xU s') := by
  intro d
  induction d with
  | zero => intro  s s' hf; cases hf
  | succ d ih => intro  s s' hf; exact kX9_one_body l hG (m0 := 9 * d) ih hf
noncomputable def sX9_forgetDepths_L2  (self2 : Int32 → xS → Option (Unit × xS)) : Int32 → xS → Option (Unit × xS) := fun a1_2 s2 => (if (8000 : Int32) ≤ a1_2 then some ((), s2) else (if xin a1_2 8000 then xlet (xup s2 5 (upd (s2 5) a1_2.toNatClampNeg (0 : Int32))) (fun s15 => xlet (a1_2 + (1 : Int32)) (fun y16 => self2 y16 s15)) else none))
noncomputable def sX9_forgetDepths  (s : xS) : Option (Unit × xS) := xloop sX9_forgetDepths_L2 xF (0 : Int32) s
set_option maxHeartbeats 4000000 in
set_option maxRecDepth 100000 in
theorem kX9_forgetDepths (l : Launch) {G : xG} (hG : xM1 G)    {s : xS} {s' : xS} (hf : sX9_forgetDepths  s = some ((), s')) : xMet l G 2 yX9_forgetDepths cX9_forgetDepths 2 none [.ref (gA G 0)] s (xU s') := by
  refine xMet.of (by decide) (Nat.le_of_ble_eq_true rfl) ?_
  show wk l G 2 RX9 cX9_forgetDepths 2 none (xU s') 0 [(0, .ref (gA G 0))] [] s
  unfold sX9_forgetDepths at hf
  have J2 : ∀   (N : Nat) (a1_2 : Int32)  (s2 : xS), xloop sX9_forgetDepths_L2 N a1_2 s2 = some ((), s') → wk l G 2 RX9 cX9_forgetDepths 2 none (xU s') 2 [(0, .ref (gA G 0)), (1, .int a1_2)] [] s2 := by
    intro N
    induction N with
    | zero => intro a1_2 s2 hf; exact (xloop_0 hf).elim
    | succ N ih2 =>
      intro a1_2 s2 hf
      rw [xloop_s] at hf
      generalize xloop sX9_forgetDepths_L2 N = self2 at hf ih2
      unfold sX9_forgetDepths_L2 at hf
      refine wk_iload_n (pc := 2) dX9_forgetDepths_2 rfl 1 rfl ?_
      refine wk_sipush (pc := 3) (v := (8000 : Int32)) dX9_forgetDepths_3 (by decide) ?_
      refine wk_icmp_ge (pc := 6) (tgt := 22) dX9_forgetDepths_6 rfl hf (fun hf => ?_) (fun hf => ?_)
      · exact wk_vret (pc := 22) dX9_forgetDepths_22 rfl (xU_of hf)
      · refine wk_aload_n (pc := 9) dX9_forgetDepths_9 rfl 0 rfl ?_
        refine wk_getR (C := RX9) (T := TX9) (N := 24) (pc := 10) dX9_forgetDepths_10 (nm_0 hG).2 (nm_0 hG).1 rfl qU_X9 5 (by decide) qF_X9_22 rfl ?_
        refine wk_iload_n (pc := 13) dX9_forgetDepths_13 rfl 1 rfl ?_
        refine wk_iconst (pc := 14) (v := (0 : Int32)) dX9_forgetDepths_14 (by decide) ?_
        obtain ⟨h15, hf⟩ := xif_some hf
        refine wk_iast (pc := 15) (jj := a1_2.toNatClampNeg) dX9_forgetDepths_15 (nm_5 hG).2 (nm_5 hG).1 h15 rfl ?_
        obtain ⟨s15, hs15, hf⟩ := xlet_some hf
        refine wk_sig hs15 ?_
        obtain ⟨y16, hy16, hf⟩ := xlet_some hf
        refine wk_iinc (pc := 16) (v := y16) (lv' := [(1, .int y16), (0, .ref (gA G 0))]) dX9_forgetDepths_16 1 rfl (by rw [hy16] <;> rfl) (by decide) rfl ?_
        refine wk_goto (pc := 19) (tgt := 2) dX9_forgetDepths_19 rfl ?_
        exact wk_lv [1, 0] rfl (ih2 y16  s15 hf)
  refine wk_iconst (pc := 0) (v := (0 : Int32)) dX9_forgetDepths_0 (by decide) ?_
  refine wk_istore_n (pc := 1) (lv' := [(1, .int (0 : Int32)), (0, .ref (gA G 0))]) dX9_forgetDepths_1 rfl (by decide) rfl ?_
  exact wk_lv [1, 0] rfl (J2  xF (0 : Int32)  s hf)
noncomputable def sX9_text_L120  (self120 : Int32 → xS → Option (Int32 × xS)) : Int32 → xS → Option (Int32 × xS) := fun a2_120 s120 => (if (s120 0 12) ≤ a2_120 then xbind (sX9_forgetDepths  s120) (fun _ s161 => some ((1 : Int32), s161)) else (if xin a2_120 60 then (if xin ((((138 : Int32) + ((52 : Int32) * (s120 0 9))) + (1 : Int32)) + a2_120) 242 then xlet (xup s120 1 (upd (s120 1) ((((138 : Int32) + ((52 : Int32) * (s120 0 9))) + (1 : Int32)) + a2_120).toNatClampNeg (s120 7 a2_120.toNatClampNeg))) (fun s153 => xlet (a2_120 + (1 : Int32)) (fun y154 => self120 y154 s153)) else none) else none))
noncomputable def sX9_text_L72  (t0_72 : Int32) (s72 : xS) : Option (Int32 × xS) := (if t0_72 = 0 ∨ t0_72 = 1 then xlet (xup s72 0 (upd (s72 0) 10 t0_72)) (fun s72b => xlet (xup s72b 1 (upd (s72b 1) 7 (0 : Int32))) (fun s82 => (if (s82 0 10) = 0 then (if xin ((138 : Int32) + ((52 : Int32) * (s82 0 9))) 242 then xlet (xup s82 1 (upd (s82 1) ((138 : Int32) + ((52 : Int32) * (s82 0 9))).toNatClampNeg (s82 0 12))) (fun s117 => xloop sX9_text_L120 xF (0 : Int32) s117) else none) else some (((-10 : Int32) - (s82 0 7)), s82)))) else none)
noncomputable def sX9_text_L67   (s67 : xS) : Option (Int32 × xS) := sX9_text_L72 (1 : Int32) s67
noncomputable def sX9_text (p1 : Int32) (s : xS) : Option (Int32 × xS) := xbind (sX9_within p1 (0 : Int32) (1 : Int32) s) (fun r3 s3 => (if r3 = 0 then xbind (sX9_finding (-1000000001 : Int32) s3) (fun r12 s12 => some (r12, s12)) else xlet (xup s3 0 (upd (s3 0) 9 p1)) (fun s18 => xlet (xup s18 0 (upd (s18 0) 7 (0 : Int32))) (fun s23 => xlet (xup s23 0 (upd (s23 0) 8 (0 : Int32))) (fun s28 => xlet (xup s28 0 (upd (s28 0) 10 (0 : Int32))) (fun s33 => xlet (xup s33 0 (upd (s33 0) 12 (0 : Int32))) (fun s38 => xbind (sX9_either (sX9_one 8)  s38) (fun _ s42 => (if (s42 0 10) = 0 then xlet ((if (s42 1 7) ≤ (s42 0 7) then (0 : Int32) else (1 : Int32))) (fun y72d => sX9_text_L72 y72d s42) else sX9_text_L67  s42)))))))))
set_option maxHeartbeats 4000000 in
set_option maxRecDepth 100000 in
theorem kX9_text (l : Launch) {G : xG} (hG : xM1 G)  {p1 : Int32}  {s : xS} {r : Int32} {s' : xS} (hf : sX9_text p1 s = some (r, s')) : xMet l G 81 yX9_text cX9_text 3 (some .int) [.ref (gA G 0), .int p1] s (xI r s') := by
  refine xMet.of (by decide) (Nat.le_of_ble_eq_true rfl) ?_
  show wk l G 81 RX9 cX9_text 3 (some .int) (xI r s') 0 [(0, .ref (gA G 0)), (1, .int p1)] [] s
  unfold sX9_text at hf
  have J120 : ∀   (N : Nat) (a2_120 : Int32)  (s120 : xS), xloop sX9_text_L120 N a2_120 s120 = some (r, s') → wk l G 81 RX9 cX9_text 3 (some .int) (xI r s') 120 [(0, .ref (gA G 0)), (2, .int a2_120)] [] s120 := by
    intro N
    induction N with
    | zero => intro a2_120 s120 hf; exact (xloop_0 hf).elim
    | succ N ih120 =>
      intro a2_120 s120 hf
      rw [xloop_s] at hf
      generalize xloop sX9_text_L120 N = self120 at hf ih120
      unfold sX9_text_L120 at hf
      refine wk_iload_n (pc := 120) dX9_text_120 rfl 1 rfl ?_
      refine wk_aload_n (pc := 121) dX9_text_121 rfl 0 rfl ?_
      refine wk_getI (C := RX9) (T := TX9) (N := 24) (pc := 122) dX9_text_122 (nm_0 hG).2 (nm_0 hG).1 rfl qU_X9 12 (by decide) qF_X9_100 rfl ?_
      refine wk_icmp_ge (pc := 125) (tgt := 160) dX9_text_125 rfl hf (fun hf => ?_) (fun hf => ?_)
      · refine wk_aload_n (pc := 160) dX9_text_160 rfl 0 rfl ?_
        obtain ⟨⟨⟩, s161, hc161, hf⟩ := xbind_some hf
        refine wk_callVU (pc := 161) (As := []) (rest := []) (kX9_forgetDepths l hG  hc161) cw_X9_145 (by decide) dX9_text_161 (nm_0 hG).2 (nm_0 hG).1 rfl rfl rfl (Nat.le_of_ble_eq_true rfl) ?_
        refine wk_iconst (pc := 164) (v := (1 : Int32)) dX9_text_164 (by decide) ?_
        exact wk_iret (pc := 165) dX9_text_165 rfl (xI_of hf)
      · refine wk_aload_n (pc := 128) dX9_text_128 rfl 0 rfl ?_
        refine wk_getR (C := RX9) (T := TX9) (N := 24) (pc := 129) dX9_text_129 (nm_0 hG).2 (nm_0 hG).1 rfl qU_X9 0 (by decide) qF_X9_9 rfl ?_
        refine wk_sipush (pc := 132) (v := (138 : Int32)) dX9_text_132 (by decide) ?_
        refine wk_bipush (pc := 135) (v := (52 : Int32)) dX9_text_135 (by decide) ?_
        refine wk_aload_n (pc := 137) dX9_text_137 rfl 0 rfl ?_
        refine wk_getI (C := RX9) (T := TX9) (N := 24) (pc := 138) dX9_text_138 (nm_0 hG).2 (nm_0 hG).1 rfl qU_X9 9 (by decide) qF_X9_126 rfl ?_
        refine wk_imul (pc := 141) dX9_text_141 ?_
        refine wk_iadd (pc := 142) dX9_text_142 ?_
        refine wk_iconst (pc := 143) (v := (1 : Int32)) dX9_text_143 (by decide) ?_
        refine wk_iadd (pc := 144) dX9_text_144 ?_
        refine wk_iload_n (pc := 145) dX9_text_145 rfl 1 rfl ?_
        refine wk_iadd (pc := 146) dX9_text_146 ?_
        refine wk_aload_n (pc := 147) dX9_text_147 rfl 0 rfl ?_
        refine wk_getR (C := RX9) (T := TX9) (N := 24) (pc := 148) dX9_text_148 (nm_0 hG).2 (nm_0 hG).1 rfl qU_X9 11 (by decide) qF_X9_35 rfl ?_
        refine wk_iload_n (pc := 151) dX9_text_151 rfl 1 rfl ?_
        obtain ⟨h152, hf⟩ := xif_some hf
        refine wk_iald (pc := 152) (jj := a2_120.toNatClampNeg) dX9_text_152 (nm_7 hG).2 (nm_7 hG).1 h152 rfl ?_
        obtain ⟨h153, hf⟩ := xif_some hf
        refine wk_iast (pc := 153) (jj := ((((138 : Int32) + ((52 : Int32) * (s120 0 9))) + (1 : Int32)) + a2_120).toNatClampNeg) dX9_text_153 (nm_1 hG).2 (nm_1 hG).1 h153 rfl ?_
        obtain ⟨s153, hs153, hf⟩ := xlet_some hf
        refine wk_sig hs153 ?_
        obtain ⟨y154, hy154, hf⟩ := xlet_some hf
        refine wk_iinc (pc := 154) (v := y154) (lv' := [(2, .int y154), (0, .ref (gA G 0))]) dX9_text_154 1 rfl (by rw [hy154] <;> rfl) (by decide) rfl ?_
        refine wk_goto (pc := 157) (tgt := 120) dX9_text_157 rfl ?_
        exact wk_lv [1, 0] rfl (ih120 y154  s153 hf)
  have J72 : ∀   (t0_72 : Int32)  (s72 : xS), sX9_text_L72 t0_72 s72 = some (r, s') → wk l G 81 RX9 cX9_text 3 (some .int) (xI r s') 72 [(0, .ref (gA G 0))] [.int t0_72, .ref (gA G 0)] s72 := by
    intro t0_72 s72 hf
    unfold sX9_text_L72 at hf
    obtain ⟨h72, hf⟩ := xif_some hf
    refine wk_putI (C := RX9) (T := TX9) (N := 24) (ty := .boolean) (pc := 72) dX9_text_72 (nm_0 hG).2 (nm_0 hG).1 rfl qU_X9 tyX9 tyX9_ok nmX9 10 (by decide) qF_X9_88 rfl rfl rfl (x01n h72) (x01f h72) ?_
    obtain ⟨s72b, hs72b, hf⟩ := xlet_some hf
    refine wk_sig hs72b ?_
    refine wk_aload_n (pc := 75) dX9_text_75 rfl 0 rfl ?_
    refine wk_getR (C := RX9) (T := TX9) (N := 24) (pc := 76) dX9_text_76 (nm_0 hG).2 (nm_0 hG).1 rfl qU_X9 0 (by decide) qF_X9_9 rfl ?_
    refine wk_bipush (pc := 79) (v := (7 : Int32)) dX9_text_79 (by decide) ?_
    refine wk_iconst (pc := 81) (v := (0 : Int32)) dX9_text_81 (by decide) ?_
    refine wk_iast (pc := 82) (jj := 7) dX9_text_82 (nm_1 hG).2 (nm_1 hG).1 (by decide) (by decide) ?_
    obtain ⟨s82, hs82, hf⟩ := xlet_some hf
    refine wk_sig hs82 ?_
    refine wk_aload_n (pc := 83) dX9_text_83 rfl 0 rfl ?_
    refine wk_getI (C := RX9) (T := TX9) (N := 24) (pc := 84) dX9_text_84 (nm_0 hG).2 (nm_0 hG).1 rfl qU_X9 10 (by decide) qF_X9_88 rfl ?_
    refine wk_if_eq (pc := 87) (tgt := 98) dX9_text_87 rfl hf (fun hf => ?_) (fun hf => ?_)
    · refine wk_aload_n (pc := 98) dX9_text_98 rfl 0 rfl ?_
      refine wk_getR (C := RX9) (T := TX9) (N := 24) (pc := 99) dX9_text_99 (nm_0 hG).2 (nm_0 hG).1 rfl qU_X9 0 (by decide) qF_X9_9 rfl ?_
      refine wk_sipush (pc := 102) (v := (138 : Int32)) dX9_text_102 (by decide) ?_
      refine wk_bipush (pc := 105) (v := (52 : Int32)) dX9_text_105 (by decide) ?_
      refine wk_aload_n (pc := 107) dX9_text_107 rfl 0 rfl ?_
      refine wk_getI (C := RX9) (T := TX9) (N := 24) (pc := 108) dX9_text_108 (nm_0 hG).2 (nm_0 hG).1 rfl qU_X9 9 (by decide) qF_X9_126 rfl ?_
      refine wk_imul (pc := 111) dX9_text_111 ?_
      refine wk_iadd (pc := 112) dX9_text_112 ?_
      refine wk_aload_n (pc := 113) dX9_text_113 rfl 0 rfl ?_
      refine wk_getI (C := RX9) (T := TX9) (N := 24) (pc := 114) dX9_text_114 (nm_0 hG).2 (nm_0 hG).1 rfl qU_X9 12 (by decide) qF_X9_100 rfl ?_
      obtain ⟨h117, hf⟩ := xif_some hf
      refine wk_iast (pc := 117) (jj := ((138 : Int32) + ((52 : Int32) * (s82 0 9))).toNatClampNeg) dX9_text_117 (nm_1 hG).2 (nm_1 hG).1 h117 rfl ?_
      obtain ⟨s117, hs117, hf⟩ := xlet_some hf
      refine wk_sig hs117 ?_
      refine wk_iconst (pc := 118) (v := (0 : Int32)) dX9_text_118 (by decide) ?_
      refine wk_istore_n (pc := 119) (lv' := [(2, .int (0 : Int32)), (0, .ref (gA G 0))]) dX9_text_119 rfl (by decide) rfl ?_
      exact wk_lv [1, 0] rfl (J120  xF (0 : Int32)  s117 hf)
    · refine wk_bipush (pc := 90) (v := (-10 : Int32)) dX9_text_90 (by decide) ?_
      refine wk_aload_n (pc := 92) dX9_text_92 rfl 0 rfl ?_
      refine wk_getI (C := RX9) (T := TX9) (N := 24) (pc := 93) dX9_text_93 (nm_0 hG).2 (nm_0 hG).1 rfl qU_X9 7 (by decide) qF_X9_92 rfl ?_
      refine wk_isub (pc := 96) dX9_text_96 ?_
      exact wk_iret (pc := 97) dX9_text_97 rfl (xI_of hf)
  have J67 : ∀     (s67 : xS), sX9_text_L67  s67 = some (r, s') → wk l G 81 RX9 cX9_text 3 (some .int) (xI r s') 67 [(0, .ref (gA G 0))] [.ref (gA G 0)] s67 := by
    intro s67 hf
    unfold sX9_text_L67 at hf
    refine wk_iconst (pc := 67) (v := (1 : Int32)) dX9_text_67 (by decide) ?_
    refine wk_goto (pc := 68) (tgt := 72) dX9_text_68 rfl ?_
    exact wk_lv [0] rfl (J72  (1 : Int32)  s67 hf)
  refine wk_iload_n (pc := 0) dX9_text_0 rfl 1 rfl ?_
  refine wk_iconst (pc := 1) (v := (0 : Int32)) dX9_text_1 (by decide) ?_
  refine wk_iconst (pc := 2) (v := (1 : Int32)) dX9_text_2 (by decide) ?_
  obtain ⟨r3, s3, hc3, hf⟩ := xbind_some hf
  refine wk_callSI (pc := 3) (As := [.int p1, .int (0 : Int32), .int (1 : Int32)]) (rest := []) (kX9_within l hG  hc3) cw_X9_77 (by decide) dX9_text_3 rfl (Nat.le_of_ble_eq_true rfl) ?_
  refine wk_if_ne (pc := 6) (tgt := 16) dX9_text_6 rfl hf (fun hf => ?_) (fun hf => ?_)
  · refine wk_aload_n (pc := 16) dX9_text_16 rfl 0 rfl ?_
    refine wk_iload_n (pc := 17) dX9_text_17 rfl 1 rfl ?_
    refine wk_putI (C := RX9) (T := TX9) (N := 24) (ty := .int) (pc := 18) dX9_text_18 (nm_0 hG).2 (nm_0 hG).1 rfl qU_X9 tyX9 tyX9_ok nmX9 9 (by decide) qF_X9_126 rfl rfl rfl rfl rfl ?_
    obtain ⟨s18, hs18, hf⟩ := xlet_some hf
    refine wk_sig hs18 ?_
    refine wk_aload_n (pc := 21) dX9_text_21 rfl 0 rfl ?_
    refine wk_iconst (pc := 22) (v := (0 : Int32)) dX9_text_22 (by decide) ?_
    refine wk_putI (C := RX9) (T := TX9) (N := 24) (ty := .int) (pc := 23) dX9_text_23 (nm_0 hG).2 (nm_0 hG).1 rfl qU_X9 tyX9 tyX9_ok nmX9 7 (by decide) qF_X9_92 rfl rfl rfl rfl rfl ?_
    obtain ⟨s23, hs23, hf⟩ := xlet_some hf
    refine wk_sig hs23 ?_
    refine wk_aload_n (pc := 26) dX9_text_26 rfl 0 rfl ?_
    refine wk_iconst (pc := 27) (v := (0 : Int32)) dX9_text_27 (by decide) ?_
    refine wk_putI (C := RX9) (T := TX9) (N := 24) (ty := .int) (pc := 28) dX9_text_28 (nm_0 hG).2 (nm_0 hG).1 rfl qU_X9 tyX9 tyX9_ok nmX9 8 (by decide) qF_X9_136 rfl rfl rfl rfl rfl ?_
    obtain ⟨s28, hs28, hf⟩ := xlet_some hf
    refine wk_sig hs28 ?_
    refine wk_aload_n (pc := 31) dX9_text_31 rfl 0 rfl ?_
    refine wk_iconst (pc := 32) (v := (0 : Int32)) dX9_text_32 (by decide) ?_
    refine wk_putI (C := RX9) (T := TX9) (N := 24) (ty := .boolean) (pc := 33) dX9_text_33 (nm_0 hG).2 (nm_0 hG).1 rfl qU_X9 tyX9 tyX9_ok nmX9 10 (by decide) qF_X9_88 rfl rfl rfl rfl rfl ?_
    obtain ⟨s33, hs33, hf⟩ := xlet_some hf
    refine wk_sig hs33 ?_
    refine wk_aload_n (pc := 36) dX9_text_36 rfl 0 rfl ?_
    refine wk_iconst (pc := 37) (v := (0 : Int32)) dX9_text_37 (by decide) ?_
    refine wk_putI (C := RX9) (T := TX9) (N := 24) (ty := .int) (pc := 38) dX9_text_38 (nm_0 hG).2 (nm_0 hG).1 rfl qU_X9 tyX9 tyX9_ok nmX9 12 (by decide) qF_X9_100 rfl rfl rfl rfl rfl ?_
    obtain ⟨s38, hs38, hf⟩ := xlet_some hf
    refine wk_sig hs38 ?_
    refine wk_aload_n (pc := 41) dX9_text_41 rfl 0 rfl ?_
    obtain ⟨⟨⟩, s42, hc42, hf⟩ := xbind_some hf
    refine wk_callVU (pc := 42) (As := []) (rest := []) (kX9_either l hG (kX9_one_all l hG 8)  hc42) cw_X9_139 (by decide) dX9_text_42 (nm_0 hG).2 (nm_0 hG).1 rfl rfl rfl (Nat.le_of_ble_eq_true rfl) ?_
    refine wk_aload_n (pc := 45) dX9_text_45 rfl 0 rfl ?_
    refine wk_aload_n (pc := 46) dX9_text_46 rfl 0 rfl ?_
    refine wk_getI (C := RX9) (T := TX9) (N := 24) (pc := 47) dX9_text_47 (nm_0 hG).2 (nm_0 hG).1 rfl qU_X9 10 (by decide) qF_X9_88 rfl ?_
    refine wk_if_ne (pc := 50) (tgt := 67) dX9_text_50 rfl hf (fun hf => ?_) (fun hf => ?_)
    · exact wk_lv [0] rfl (J67    s42 hf)
    · refine wk_aload_n (pc := 53) dX9_text_53 rfl 0 rfl ?_
      refine wk_getI (C := RX9) (T := TX9) (N := 24) (pc := 54) dX9_text_54 (nm_0 hG).2 (nm_0 hG).1 rfl qU_X9 7 (by decide) qF_X9_92 rfl ?_
      refine wk_aload_n (pc := 57) dX9_text_57 rfl 0 rfl ?_
      refine wk_getR (C := RX9) (T := TX9) (N := 24) (pc := 58) dX9_text_58 (nm_0 hG).2 (nm_0 hG).1 rfl qU_X9 0 (by decide) qF_X9_9 rfl ?_
      refine wk_bipush (pc := 61) (v := (7 : Int32)) dX9_text_61 (by decide) ?_
      refine wk_iald (pc := 63) (jj := 7) dX9_text_63 (nm_1 hG).2 (nm_1 hG).1 (by decide) (by decide) ?_
      obtain ⟨y72d, hy72d, hf⟩ := xlet_some hf
      have K72 : wk l G 81 RX9 cX9_text 3 (some .int) (xI r s') 72 [(0, .ref (gA G 0)), (1, .int p1)] [.int y72d, .ref (gA G 0)] s42 := by
        exact wk_lv [0] rfl (J72  y72d  s42 hf)
      by_cases c64 : (s42 1 7) ≤ (s42 0 7)
      · rw [if_pos c64] at hy72d
        refine wk_icmp_ge_p (pc := 64) (tgt := 71) dX9_text_64 rfl c64 ?_
        refine wk_iconst (pc := 71) (v := (0 : Int32)) dX9_text_71 (by decide) ?_
        exact wk_top hy72d K72
      · rw [if_neg c64] at hy72d
        refine wk_icmp_ge_m (pc := 64) (tgt := 71) dX9_text_64 rfl c64 ?_
        refine wk_iconst (pc := 67) (v := (1 : Int32)) dX9_text_67 (by decide) ?_
        refine wk_goto (pc := 68) (tgt := 72) dX9_text_68 rfl ?_
        exact wk_top hy72d K72
  · refine wk_aload_n (pc := 9) dX9_text_9 rfl 0 rfl ?_
    refine wk_ldc (pc := 10) (v := (-1000000001 : Int32)) dX9_text_10 qK_X9_81 ?_
    obtain ⟨r12, s12, hc12, hf⟩ := xbind_some hf
    refine wk_callVI (pc := 12) (As := [.int (-1000000001 : Int32)]) (rest := []) (kX9_finding l hG  hc12) cw_X9_82 (by decide) dX9_text_12 (nm_0 hG).2 (nm_0 hG).1 rfl rfl rfl (Nat.le_of_ble_eq_true rfl) ?_
    exact wk_iret (pc := 15) dX9_text_15 rfl (xI_of hf)
noncomputable def sX9_done (p0 : Int32) (p1 : Int32) (p2 : Int32) (s : xS) : Option (Int32 × xS) := (if p0 = 20000 then xlet ((if p1 = 0 then (if p2 = 0 then (0 : Int32) else (1 : Int32)) else (1 : Int32))) (fun y65d => some (y65d, s)) else (if p0 = 20001 then xlet ((if p1 = 0 then (0 : Int32) else (if p2 = 0 then (0 : Int32) else (1 : Int32)))) (fun y79d => some (y79d, s)) else (if p0 = 20002 then xlet ((if p2 ≤ p1 then (0 : Int32) else (1 : Int32))) (fun y90d => some (y90d, s)) else (if p0 = 20003 then xlet ((if p1 = p2 then (1 : Int32) else (0 : Int32))) (fun y101d => some (y101d, s)) else (if p0 = 20004 then xlet ((if p1 ≤ p2 then (0 : Int32) else (1 : Int32))) (fun y112d => some (y112d, s)) else (if p0 = 20005 then some ((p1 + p2), s) else (if p0 = 20006 then some ((p1 - p2), s) else (if p0 = 20007 then some ((p1 * p2), s) else (if p0 = 20008 then (if p2 = 0 then some ((0 : Int32), s) else (if p2 = 0 then none else some ((p1 / p2), s))) else (if p2 = 0 then some ((0 : Int32), s) else (if p2 = 0 then none else some ((p1 - p1 / p2 * p2), s))))))))))))
set_option maxHeartbeats 4000000 in
set_option maxRecDepth 100000 in
theorem kX9_done (l : Launch) {G : xG} (hG : xM1 G)  {p0 : Int32} {p1 : Int32} {p2 : Int32}  {s : xS} {r : Int32} {s' : xS} (hf : sX9_done p0 p1 p2 s = some (r, s')) : xMet l G 2 yX9_done cX9_done 3 (some .int) [.int p0, .int p1, .int p2] s (xI r s') := by
  refine xMet.of (by decide) (Nat.le_of_ble_eq_true rfl) ?_
  show wk l G 2 RX9 cX9_done 3 (some .int) (xI r s') 0 [(0, .int p0), (1, .int p1), (2, .int p2)] [] s
  unfold sX9_done at hf
  refine wk_iload_n (pc := 0) dX9_done_0 rfl 0 rfl ?_
  by_cases e0 : p0 = 20000
  · rw [if_pos e0] at hf
    refine wk_tableIn (pc := 1) (off := 51) (tgt := 52) dX9_done_1 (20000 : Int32) e0 (by decide) (by decide) (by decide) rfl ?_
    refine wk_iload_n (pc := 52) dX9_done_52 rfl 1 rfl ?_
    obtain ⟨y65d, hy65d, hf⟩ := xlet_some hf
    have K65 : wk l G 2 RX9 cX9_done 3 (some .int) (xI r s') 65 [(0, .int p0), (1, .int p1), (2, .int p2)] [.int y65d] s := by
      exact wk_iret (pc := 65) dX9_done_65 rfl (xI_of hf)
    by_cases c53 : p1 = 0
    · rw [if_pos c53] at hy65d
      refine wk_if_ne_p (pc := 53) (tgt := 60) dX9_done_53 rfl c53 ?_
      refine wk_iload_n (pc := 56) dX9_done_56 rfl 2 rfl ?_
      by_cases c57 : p2 = 0
      · rw [if_pos c57] at hy65d
        refine wk_if_eq_p (pc := 57) (tgt := 64) dX9_done_57 rfl c57 ?_
        refine wk_iconst (pc := 64) (v := (0 : Int32)) dX9_done_64 (by decide) ?_
        exact wk_top hy65d K65
      · rw [if_neg c57] at hy65d
        refine wk_if_eq_m (pc := 57) (tgt := 64) dX9_done_57 rfl c57 ?_
        refine wk_iconst (pc := 60) (v := (1 : Int32)) dX9_done_60 (by decide) ?_
        refine wk_goto (pc := 61) (tgt := 65) dX9_done_61 rfl ?_
        exact wk_top hy65d K65
    · rw [if_neg c53] at hy65d
      refine wk_if_ne_m (pc := 53) (tgt := 60) dX9_done_53 rfl c53 ?_
      refine wk_iconst (pc := 60) (v := (1 : Int32)) dX9_done_60 (by decide) ?_
      refine wk_goto (pc := 61) (tgt := 65) dX9_done_61 rfl ?_
      exact wk_top hy65d K65
  · rw [if_neg e0] at hf
    by_cases e1 : p0 = 20001
    · rw [if_pos e1] at hf
      refine wk_tableIn (pc := 1) (off := 65) (tgt := 66) dX9_done_1 (20001 : Int32) e1 (by decide) (by decide) (by decide) rfl ?_
      refine wk_iload_n (pc := 66) dX9_done_66 rfl 1 rfl ?_
      obtain ⟨y79d, hy79d, hf⟩ := xlet_some hf
      have K79 : wk l G 2 RX9 cX9_done 3 (some .int) (xI r s') 79 [(0, .int p0), (1, .int p1), (2, .int p2)] [.int y79d] s := by
        exact wk_iret (pc := 79) dX9_done_79 rfl (xI_of hf)
      by_cases c67 : p1 = 0
      · rw [if_pos c67] at hy79d
        refine wk_if_eq_p (pc := 67) (tgt := 78) dX9_done_67 rfl c67 ?_
        refine wk_iconst (pc := 78) (v := (0 : Int32)) dX9_done_78 (by decide) ?_
        exact wk_top hy79d K79
      · rw [if_neg c67] at hy79d
        refine wk_if_eq_m (pc := 67) (tgt := 78) dX9_done_67 rfl c67 ?_
        refine wk_iload_n (pc := 70) dX9_done_70 rfl 2 rfl ?_
        by_cases c71 : p2 = 0
        · rw [if_pos c71] at hy79d
          refine wk_if_eq_p (pc := 71) (tgt := 78) dX9_done_71 rfl c71 ?_
          refine wk_iconst (pc := 78) (v := (0 : Int32)) dX9_done_78 (by decide) ?_
          exact wk_top hy79d K79
        · rw [if_neg c71] at hy79d
          refine wk_if_eq_m (pc := 71) (tgt := 78) dX9_done_71 rfl c71 ?_
          refine wk_iconst (pc := 74) (v := (1 : Int32)) dX9_done_74 (by decide) ?_
          refine wk_goto (pc := 75) (tgt := 79) dX9_done_75 rfl ?_
          exact wk_top hy79d K79
    · rw [if_neg e1] at hf
      by_cases e2 : p0 = 20002
      · rw [if_pos e2] at hf
        refine wk_tableIn (pc := 1) (off := 79) (tgt := 80) dX9_done_1 (20002 : Int32) e2 (by decide) (by decide) (by decide) rfl ?_
        refine wk_iload_n (pc := 80) dX9_done_80 rfl 1 rfl ?_
        refine wk_iload_n (pc := 81) dX9_done_81 rfl 2 rfl ?_
        obtain ⟨y90d, hy90d, hf⟩ := xlet_some hf
        have K90 : wk l G 2 RX9 cX9_done 3 (some .int) (xI r s') 90 [(0, .int p0), (1, .int p1), (2, .int p2)] [.int y90d] s := by
          exact wk_iret (pc := 90) dX9_done_90 rfl (xI_of hf)
        by_cases c82 : p2 ≤ p1
        · rw [if_pos c82] at hy90d
          refine wk_icmp_ge_p (pc := 82) (tgt := 89) dX9_done_82 rfl c82 ?_
          refine wk_iconst (pc := 89) (v := (0 : Int32)) dX9_done_89 (by decide) ?_
          exact wk_top hy90d K90
        · rw [if_neg c82] at hy90d
          refine wk_icmp_ge_m (pc := 82) (tgt := 89) dX9_done_82 rfl c82 ?_
          refine wk_iconst (pc := 85) (v := (1 : Int32)) dX9_done_85 (by decide) ?_
          refine wk_goto (pc := 86) (tgt := 90) dX9_done_86 rfl ?_
          exact wk_top hy90d K90
      · rw [if_neg e2] at hf
        by_cases e3 : p0 = 20003
        · rw [if_pos e3] at hf
          refine wk_tableIn (pc := 1) (off := 90) (tgt := 91) dX9_done_1 (20003 : Int32) e3 (by decide) (by decide) (by decide) rfl ?_
          refine wk_iload_n (pc := 91) dX9_done_91 rfl 1 rfl ?_
          refine wk_iload_n (pc := 92) dX9_done_92 rfl 2 rfl ?_
          obtain ⟨y101d, hy101d, hf⟩ := xlet_some hf
          have K101 : wk l G 2 RX9 cX9_done 3 (some .int) (xI r s') 101 [(0, .int p0), (1, .int p1), (2, .int p2)] [.int y101d] s := by
            exact wk_iret (pc := 101) dX9_done_101 rfl (xI_of hf)
          by_cases c93 : p1 = p2
          · rw [if_pos c93] at hy101d
            refine wk_icmp_ne_p (pc := 93) (tgt := 100) dX9_done_93 rfl c93 ?_
            refine wk_iconst (pc := 96) (v := (1 : Int32)) dX9_done_96 (by decide) ?_
            refine wk_goto (pc := 97) (tgt := 101) dX9_done_97 rfl ?_
            exact wk_top hy101d K101
          · rw [if_neg c93] at hy101d
            refine wk_icmp_ne_m (pc := 93) (tgt := 100) dX9_done_93 rfl c93 ?_
            refine wk_iconst (pc := 100) (v := (0 : Int32)) dX9_done_100 (by decide) ?_
            exact wk_top hy101d K101
        · rw [if_neg e3] at hf
          by_cases e4 : p0 = 20004
          · rw [if_pos e4] at hf
            refine wk_tableIn (pc := 1) (off := 101) (tgt := 102) dX9_done_1 (20004 : Int32) e4 (by decide) (by decide) (by decide) rfl ?_
            refine wk_iload_n (pc := 102) dX9_done_102 rfl 1 rfl ?_
            refine wk_iload_n (pc := 103) dX9_done_103 rfl 2 rfl ?_
            obtain ⟨y112d, hy112d, hf⟩ := xlet_some hf
            have K112 : wk l G 2 RX9 cX9_done 3 (some .int) (xI r s') 112 [(0, .int p0), (1, .int p1), (2, .int p2)] [.int y112d] s := by
              exact wk_iret (pc := 112) dX9_done_112 rfl (xI_of hf)
            by_cases c104 : p1 ≤ p2
            · rw [if_pos c104] at hy112d
              refine wk_icmp_le_p (pc := 104) (tgt := 111) dX9_done_104 rfl c104 ?_
              refine wk_iconst (pc := 111) (v := (0 : Int32)) dX9_done_111 (by decide) ?_
              exact wk_top hy112d K112
            · rw [if_neg c104] at hy112d
              refine wk_icmp_le_m (pc := 104) (tgt := 111) dX9_done_104 rfl c104 ?_
              refine wk_iconst (pc := 107) (v := (1 : Int32)) dX9_done_107 (by decide) ?_
              refine wk_goto (pc := 108) (tgt := 112) dX9_done_108 rfl ?_
              exact wk_top hy112d K112
          · rw [if_neg e4] at hf
            by_cases e5 : p0 = 20005
            · rw [if_pos e5] at hf
              refine wk_tableIn (pc := 1) (off := 112) (tgt := 113) dX9_done_1 (20005 : Int32) e5 (by decide) (by decide) (by decide) rfl ?_
              refine wk_iload_n (pc := 113) dX9_done_113 rfl 1 rfl ?_
              refine wk_iload_n (pc := 114) dX9_done_114 rfl 2 rfl ?_
              refine wk_iadd (pc := 115) dX9_done_115 ?_
              exact wk_iret (pc := 116) dX9_done_116 rfl (xI_of hf)
            · rw [if_neg e5] at hf
              by_cases e6 : p0 = 20006
              · rw [if_pos e6] at hf
                refine wk_tableIn (pc := 1) (off := 116) (tgt := 117) dX9_done_1 (20006 : Int32) e6 (by decide) (by decide) (by decide) rfl ?_
                refine wk_iload_n (pc := 117) dX9_done_117 rfl 1 rfl ?_
                refine wk_iload_n (pc := 118) dX9_done_118 rfl 2 rfl ?_
                refine wk_isub (pc := 119) dX9_done_119 ?_
                exact wk_iret (pc := 120) dX9_done_120 rfl (xI_of hf)
              · rw [if_neg e6] at hf
                by_cases e7 : p0 = 20007
                · rw [if_pos e7] at hf
                  refine wk_tableIn (pc := 1) (off := 120) (tgt := 121) dX9_done_1 (20007 : Int32) e7 (by decide) (by decide) (by decide) rfl ?_
                  refine wk_iload_n (pc := 121) dX9_done_121 rfl 1 rfl ?_
                  refine wk_iload_n (pc := 122) dX9_done_122 rfl 2 rfl ?_
                  refine wk_imul (pc := 123) dX9_done_123 ?_
                  exact wk_iret (pc := 124) dX9_done_124 rfl (xI_of hf)
                · rw [if_neg e7] at hf
                  by_cases e8 : p0 = 20008
                  · rw [if_pos e8] at hf
                    refine wk_tableIn (pc := 1) (off := 124) (tgt := 125) dX9_done_1 (20008 : Int32) e8 (by decide) (by decide) (by decide) rfl ?_
                    refine wk_iload_n (pc := 125) dX9_done_125 rfl 2 rfl ?_
                    refine wk_if_ne (pc := 126) (tgt := 133) dX9_done_126 rfl hf (fun hf => ?_) (fun hf => ?_)
                    · refine wk_iload_n (pc := 133) dX9_done_133 rfl 1 rfl ?_
                      refine wk_iload_n (pc := 134) dX9_done_134 rfl 2 rfl ?_
                      obtain ⟨h135, hf⟩ := xif_none hf
                      refine wk_idiv (pc := 135) dX9_done_135 h135 ?_
                      exact wk_iret (pc := 136) dX9_done_136 rfl (xI_of hf)
                    · refine wk_iconst (pc := 129) (v := (0 : Int32)) dX9_done_129 (by decide) ?_
                      refine wk_goto (pc := 130) (tgt := 136) dX9_done_130 rfl ?_
                      exact wk_iret (pc := 136) dX9_done_136 rfl (xI_of hf)
                  · rw [if_neg e8] at hf
                    have g0 : ¬ p0.toInt = 20000 := fun q => e0 (Int32.toInt_inj.mp (q.trans (by decide)))
                    have g1 : ¬ p0.toInt = 20001 := fun q => e1 (Int32.toInt_inj.mp (q.trans (by decide)))
                    have g2 : ¬ p0.toInt = 20002 := fun q => e2 (Int32.toInt_inj.mp (q.trans (by decide)))
                    have g3 : ¬ p0.toInt = 20003 := fun q => e3 (Int32.toInt_inj.mp (q.trans (by decide)))
                    have g4 : ¬ p0.toInt = 20004 := fun q => e4 (Int32.toInt_inj.mp (q.trans (by decide)))
                    have g5 : ¬ p0.toInt = 20005 := fun q => e5 (Int32.toInt_inj.mp (q.trans (by decide)))
                    have g6 : ¬ p0.toInt = 20006 := fun q => e6 (Int32.toInt_inj.mp (q.trans (by decide)))
                    have g7 : ¬ p0.toInt = 20007 := fun q => e7 (Int32.toInt_inj.mp (q.trans (by decide)))
                    have g8 : ¬ p0.toInt = 20008 := fun q => e8 (Int32.toInt_inj.mp (q.trans (by decide)))
                    refine wk_tableOut (pc := 1) (tgt := 137) dX9_done_1 (by omega) rfl ?_
                    refine wk_iload_n (pc := 137) dX9_done_137 rfl 2 rfl ?_
                    refine wk_if_ne (pc := 138) (tgt := 145) dX9_done_138 rfl hf (fun hf => ?_) (fun hf => ?_)
                    · refine wk_iload_n (pc := 145) dX9_done_145 rfl 1 rfl ?_
                      refine wk_iload_n (pc := 146) dX9_done_146 rfl 2 rfl ?_
                      obtain ⟨h147, hf⟩ := xif_none hf
                      refine wk_irem (pc := 147) dX9_done_147 h147 ?_
                      exact wk_iret (pc := 148) dX9_done_148 rfl (xI_of hf)
                    · refine wk_iconst (pc := 141) (v := (0 : Int32)) dX9_done_141 (by decide) ?_
                      refine wk_goto (pc := 142) (tgt := 148) dX9_done_142 rfl ?_
                      exact wk_iret (pc := 148) dX9_done_148 rfl (xI_of hf)
noncomputable def sX9_worked_L135 (a3_4 : Int32) (self4 : Int32 × Int32 → xS → Option (Int32 × xS)) (a2_135 : Int32) (s135 : xS) : Option (Int32 × xS) := xlet (a3_4 + (1 : Int32)) (fun y135 => self4 (a2_135, y135) s135)
noncomputable def sX9_worked_L101 (a2_4 : Int32) (a3_4 : Int32) (self4 : Int32 × Int32 → xS → Option (Int32 × xS)) (y101d : Int32)  (s101 : xS) : Option (Int32 × xS) := (if xin (a2_4 - (1 : Int32)) 60 then xlet (xup s101 9 (upd (s101 9) (a2_4 - (1 : Int32)).toNatClampNeg y101d)) (fun s101b => (sX9_worked_L135 a3_4 self4) a2_4 s101b) else none)
noncomputable def sX9_worked_L63 (a2_4 : Int32) (a3_4 : Int32) (self4 : Int32 × Int32 → xS → Option (Int32 × xS)) (t0_63 : Int32) (s63 : xS) : Option (Int32 × xS) := (if xin a2_4 60 then xlet (xup s63 9 (upd (s63 9) a2_4.toNatClampNeg t0_63)) (fun s63b => xlet (a2_4 + (1 : Int32)) (fun y64 => (sX9_worked_L135 a3_4 self4) y64 s63b)) else none)
noncomputable def sX9_worked_L4 (p1 : Int32) (self4 : Int32 × Int32 → xS → Option (Int32 × xS)) : Int32 × Int32 → xS → Option (Int32 × xS) := fun (a2_4, a3_4) s4 => (if xin (p1 - (1 : Int32)) 242 then (if (p1 + (s4 1 (p1 - (1 : Int32)).toNatClampNeg)) ≤ a3_4 then some ((s4 9 0), s4) else (if xin a3_4 242 then xlet ((s4 1 a3_4.toNatClampNeg)) (fun y24 => (if (20000 : Int32) ≤ y24 then (if y24 = (20010 : Int32) then (if xin (a2_4 - (1 : Int32)) 60 then xlet ((if (s4 9 (a2_4 - (1 : Int32)).toNatClampNeg) = 0 then (1 : Int32) else (0 : Int32))) (fun y101d => (sX9_worked_L101 a2_4 a3_4 self4 y101d)  s4) else none) else xlet (a2_4 + (-1 : Int32)) (fun y105 => (if xin (y105 - (1 : Int32)) 60 then (if xin y105 60 then xbind (sX9_done y24 (s4 9 (y105 - (1 : Int32)).toNatClampNeg) (s4 9 y105.toNatClampNeg) s4) (fun r131 s131 => (if xin (y105 - (1 : Int32)) 60 then xlet (xup s131 9 (upd (s131 9) (y105 - (1 : Int32)).toNatClampNeg r131)) (fun s134 => (sX9_worked_L135 a3_4 self4) y105 s134) else none)) else none) else none))) else (if (10000 : Int32) ≤ y24 then (if xin (y24 - (10000 : Int32)) 4 then (sX9_worked_L63 a2_4 a3_4 self4) (s4 8 (y24 - (10000 : Int32)).toNatClampNeg) s4 else none) else (sX9_worked_L63 a2_4 a3_4 self4) y24 s4))) else none)) else none)
noncomputable def sX9_worked (p1 : Int32) (s : xS) : Option (Int32 × xS) := xloop (sX9_worked_L4 p1) xF ((0 : Int32), p1) s
set_option maxHeartbeats 4000000 in
set_option maxRecDepth 100000 in
theorem kX9_worked (l : Launch) {G : xG} (hG : xM1 G)  {p1 : Int32}  {s : xS} {r : Int32} {s' : xS} (hf : sX9_worked p1 s = some (r, s')) : xMet l G 3 yX9_worked cX9_worked 5 (some .int) [.ref (gA G 0), .int p1] s (xI r s') := by
  refine xMet.of (by decide) (Nat.le_of_ble_eq_true rfl) ?_
  show wk l G 3 RX9 cX9_worked 5 (some .int) (xI r s') 0 [(0, .ref (gA G 0)), (1, .int p1)] [] s
  unfold sX9_worked at hf
  have J4 : ∀   (N : Nat) (a2_4 : Int32) (a3_4 : Int32)  (s4 : xS), xloop (sX9_worked_L4 p1) N (a2_4, a3_4) s4 = some (r, s') → wk l G 3 RX9 cX9_worked 5 (some .int) (xI r s') 4 [(0, .ref (gA G 0)), (1, .int p1), (2, .int a2_4), (3, .int a3_4)] [] s4 := by
    intro N
    induction N with
    | zero => intro a2_4 a3_4 s4 hf; exact (xloop_0 hf).elim
    | succ N ih4 =>
      intro a2_4 a3_4 s4 hf
      rw [xloop_s] at hf
      generalize xloop (sX9_worked_L4 p1) N = self4 at hf ih4
      unfold sX9_worked_L4 at hf
      dsimp only at hf
      have J135 : ∀   (a2_135 : Int32)  (s135 : xS), (sX9_worked_L135 a3_4 self4) a2_135 s135 = some (r, s') → wk l G 3 RX9 cX9_worked 5 (some .int) (xI r s') 135 [(0, .ref (gA G 0)), (1, .int p1), (2, .int a2_135), (3, .int a3_4)] [] s135 := by
        intro a2_135 s135 hf
        unfold sX9_worked_L135 at hf
        obtain ⟨y135, hy135, hf⟩ := xlet_some hf
        refine wk_iinc (pc := 135) (v := y135) (lv' := [(3, .int y135), (0, .ref (gA G 0)), (1, .int p1), (2, .int a2_135)]) dX9_worked_135 3 rfl (by rw [hy135] <;> rfl) (by decide) rfl ?_
        refine wk_goto (pc := 138) (tgt := 4) dX9_worked_138 rfl ?_
        exact wk_lv [1, 2, 3, 0] rfl (ih4 a2_135 y135  s135 hf)
      have J101 : ∀ (y101d : Int32)    (s101 : xS), (sX9_worked_L101 a2_4 a3_4 self4 y101d)  s101 = some (r, s') → wk l G 3 RX9 cX9_worked 5 (some .int) (xI r s') 101 [(0, .ref (gA G 0)), (1, .int p1), (2, .int a2_4), (3, .int a3_4)] [.int y101d, .int (a2_4 - (1 : Int32)), .ref (gA G 9)] s101 := by
        intro y101d s101 hf
        unfold sX9_worked_L101 at hf
        obtain ⟨h101, hf⟩ := xif_some hf
        refine wk_iast (pc := 101) (jj := (a2_4 - (1 : Int32)).toNatClampNeg) dX9_worked_101 (nm_9 hG).2 (nm_9 hG).1 h101 rfl ?_
        obtain ⟨s101b, hs101b, hf⟩ := xlet_some hf
        refine wk_sig hs101b ?_
        refine wk_goto (pc := 102) (tgt := 135) dX9_worked_102 rfl ?_
        exact wk_lv [0, 1, 2, 3] rfl (J135  a2_4  s101b hf)
      have J63 : ∀   (t0_63 : Int32)  (s63 : xS), (sX9_worked_L63 a2_4 a3_4 self4) t0_63 s63 = some (r, s') → wk l G 3 RX9 cX9_worked 5 (some .int) (xI r s') 63 [(0, .ref (gA G 0)), (1, .int p1), (2, .int a2_4), (3, .int a3_4)] [.int t0_63, .int a2_4, .ref (gA G 9)] s63 := by
        intro t0_63 s63 hf
        unfold sX9_worked_L63 at hf
        obtain ⟨h63, hf⟩ := xif_some hf
        refine wk_iast (pc := 63) (jj := a2_4.toNatClampNeg) dX9_worked_63 (nm_9 hG).2 (nm_9 hG).1 h63 rfl ?_
        obtain ⟨s63b, hs63b, hf⟩ := xlet_some hf
        refine wk_sig hs63b ?_
        obtain ⟨y64, hy64, hf⟩ := xlet_some hf
        refine wk_iinc (pc := 64) (v := y64) (lv' := [(2, .int y64), (0, .ref (gA G 0)), (1, .int p1), (3, .int a3_4)]) dX9_worked_64 2 rfl (by rw [hy64] <;> rfl) (by decide) rfl ?_
        refine wk_goto (pc := 67) (tgt := 135) dX9_worked_67 rfl ?_
        exact wk_lv [1, 2, 0, 3] rfl (J135  y64  s63b hf)
      refine wk_iload_n (pc := 4) dX9_worked_4 rfl 3 rfl ?_
      refine wk_iload_n (pc := 5) dX9_worked_5 rfl 1 rfl ?_
      refine wk_aload_n (pc := 6) dX9_worked_6 rfl 0 rfl ?_
      refine wk_getR (C := RX9) (T := TX9) (N := 24) (pc := 7) dX9_worked_7 (nm_0 hG).2 (nm_0 hG).1 rfl qU_X9 0 (by decide) qF_X9_9 rfl ?_
      refine wk_iload_n (pc := 10) dX9_worked_10 rfl 1 rfl ?_
      refine wk_iconst (pc := 11) (v := (1 : Int32)) dX9_worked_11 (by decide) ?_
      refine wk_isub (pc := 12) dX9_worked_12 ?_
      obtain ⟨h13, hf⟩ := xif_some hf
      refine wk_iald (pc := 13) (jj := (p1 - (1 : Int32)).toNatClampNeg) dX9_worked_13 (nm_1 hG).2 (nm_1 hG).1 h13 rfl ?_
      refine wk_iadd (pc := 14) dX9_worked_14 ?_
      refine wk_icmp_ge (pc := 15) (tgt := 141) dX9_worked_15 rfl hf (fun hf => ?_) (fun hf => ?_)
      · refine wk_aload_n (pc := 141) dX9_worked_141 rfl 0 rfl ?_
        refine wk_getR (C := RX9) (T := TX9) (N := 24) (pc := 142) dX9_worked_142 (nm_0 hG).2 (nm_0 hG).1 rfl qU_X9 14 (by decide) qF_X9_41 rfl ?_
        refine wk_iconst (pc := 145) (v := (0 : Int32)) dX9_worked_145 (by decide) ?_
        refine wk_iald (pc := 146) (jj := 0) dX9_worked_146 (nm_9 hG).2 (nm_9 hG).1 (by decide) (by decide) ?_
        exact wk_iret (pc := 147) dX9_worked_147 rfl (xI_of hf)
      · refine wk_aload_n (pc := 18) dX9_worked_18 rfl 0 rfl ?_
        refine wk_getR (C := RX9) (T := TX9) (N := 24) (pc := 19) dX9_worked_19 (nm_0 hG).2 (nm_0 hG).1 rfl qU_X9 0 (by decide) qF_X9_9 rfl ?_
        refine wk_iload_n (pc := 22) dX9_worked_22 rfl 3 rfl ?_
        obtain ⟨h23, hf⟩ := xif_some hf
        refine wk_iald (pc := 23) (jj := a3_4.toNatClampNeg) dX9_worked_23 (nm_1 hG).2 (nm_1 hG).1 h23 rfl ?_
        obtain ⟨y24, hy24, hf⟩ := xlet_some hf
        refine wk_top hy24 ?_
        refine wk_istore (pc := 24) (lv' := [(4, .int y24), (0, .ref (gA G 0)), (1, .int p1), (2, .int a2_4), (3, .int a3_4)]) dX9_worked_24 (by decide) rfl ?_
        refine wk_iload (pc := 26) dX9_worked_26 0 rfl ?_
        refine wk_sipush (pc := 28) (v := (20000 : Int32)) dX9_worked_28 (by decide) ?_
        refine wk_icmp_ge (pc := 31) (tgt := 70) dX9_worked_31 rfl hf (fun hf => ?_) (fun hf => ?_)
        · refine wk_iload (pc := 70) dX9_worked_70 0 rfl ?_
          refine wk_sipush (pc := 72) (v := (20010 : Int32)) dX9_worked_72 (by decide) ?_
          refine wk_icmp_ne (pc := 75) (tgt := 105) dX9_worked_75 rfl hf (fun hf => ?_) (fun hf => ?_)
          · obtain ⟨y105, hy105, hf⟩ := xlet_some hf
            refine wk_iinc (pc := 105) (v := y105) (lv' := [(2, .int y105), (4, .int y24), (0, .ref (gA G 0)), (1, .int p1), (3, .int a3_4)]) dX9_worked_105 3 rfl (by rw [hy105] <;> rfl) (by decide) rfl ?_
            refine wk_aload_n (pc := 108) dX9_worked_108 rfl 2 rfl ?_
            refine wk_getR (C := RX9) (T := TX9) (N := 24) (pc := 109) dX9_worked_109 (nm_0 hG).2 (nm_0 hG).1 rfl qU_X9 14 (by decide) qF_X9_41 rfl ?_
            refine wk_iload_n (pc := 112) dX9_worked_112 rfl 0 rfl ?_
            refine wk_iconst (pc := 113) (v := (1 : Int32)) dX9_worked_113 (by decide) ?_
            refine wk_isub (pc := 114) dX9_worked_114 ?_
            refine wk_iload (pc := 115) dX9_worked_115 1 rfl ?_
            refine wk_aload_n (pc := 117) dX9_worked_117 rfl 2 rfl ?_
            refine wk_getR (C := RX9) (T := TX9) (N := 24) (pc := 118) dX9_worked_118 (nm_0 hG).2 (nm_0 hG).1 rfl qU_X9 14 (by decide) qF_X9_41 rfl ?_
            refine wk_iload_n (pc := 121) dX9_worked_121 rfl 0 rfl ?_
            refine wk_iconst (pc := 122) (v := (1 : Int32)) dX9_worked_122 (by decide) ?_
            refine wk_isub (pc := 123) dX9_worked_123 ?_
            obtain ⟨h124, hf⟩ := xif_some hf
            refine wk_iald (pc := 124) (jj := (y105 - (1 : Int32)).toNatClampNeg) dX9_worked_124 (nm_9 hG).2 (nm_9 hG).1 h124 rfl ?_
            refine wk_aload_n (pc := 125) dX9_worked_125 rfl 2 rfl ?_
            refine wk_getR (C := RX9) (T := TX9) (N := 24) (pc := 126) dX9_worked_126 (nm_0 hG).2 (nm_0 hG).1 rfl qU_X9 14 (by decide) qF_X9_41 rfl ?_
            refine wk_iload_n (pc := 129) dX9_worked_129 rfl 0 rfl ?_
            obtain ⟨h130, hf⟩ := xif_some hf
            refine wk_iald (pc := 130) (jj := y105.toNatClampNeg) dX9_worked_130 (nm_9 hG).2 (nm_9 hG).1 h130 rfl ?_
            obtain ⟨r131, s131, hc131, hf⟩ := xbind_some hf
            refine wk_callSI (pc := 131) (As := [.int y24, .int (s4 9 (y105 - (1 : Int32)).toNatClampNeg), .int (s4 9 y105.toNatClampNeg)]) (rest := [.int (y105 - (1 : Int32)), .ref (gA G 9)]) (kX9_done l hG  hc131) cw_X9_148 (by decide) dX9_worked_131 rfl (Nat.le_of_ble_eq_true rfl) ?_
            obtain ⟨h134, hf⟩ := xif_some hf
            refine wk_iast (pc := 134) (jj := (y105 - (1 : Int32)).toNatClampNeg) dX9_worked_134 (nm_9 hG).2 (nm_9 hG).1 h134 rfl ?_
            obtain ⟨s134, hs134, hf⟩ := xlet_some hf
            refine wk_sig hs134 ?_
            exact wk_lv [2, 3, 0, 4] rfl (J135  y105  s134 hf)
          · refine wk_aload_n (pc := 78) dX9_worked_78 rfl 1 rfl ?_
            refine wk_getR (C := RX9) (T := TX9) (N := 24) (pc := 79) dX9_worked_79 (nm_0 hG).2 (nm_0 hG).1 rfl qU_X9 14 (by decide) qF_X9_41 rfl ?_
            refine wk_iload_n (pc := 82) dX9_worked_82 rfl 3 rfl ?_
            refine wk_iconst (pc := 83) (v := (1 : Int32)) dX9_worked_83 (by decide) ?_
            refine wk_isub (pc := 84) dX9_worked_84 ?_
            refine wk_aload_n (pc := 85) dX9_worked_85 rfl 1 rfl ?_
            refine wk_getR (C := RX9) (T := TX9) (N := 24) (pc := 86) dX9_worked_86 (nm_0 hG).2 (nm_0 hG).1 rfl qU_X9 14 (by decide) qF_X9_41 rfl ?_
            refine wk_iload_n (pc := 89) dX9_worked_89 rfl 3 rfl ?_
            refine wk_iconst (pc := 90) (v := (1 : Int32)) dX9_worked_90 (by decide) ?_
            refine wk_isub (pc := 91) dX9_worked_91 ?_
            obtain ⟨h92, hf⟩ := xif_some hf
            refine wk_iald (pc := 92) (jj := (a2_4 - (1 : Int32)).toNatClampNeg) dX9_worked_92 (nm_9 hG).2 (nm_9 hG).1 h92 rfl ?_
            obtain ⟨y101d, hy101d, hf⟩ := xlet_some hf
            have K101 : wk l G 3 RX9 cX9_worked 5 (some .int) (xI r s') 101 [(4, .int y24), (0, .ref (gA G 0)), (1, .int p1), (2, .int a2_4), (3, .int a3_4)] [.int y101d, .int (a2_4 - (1 : Int32)), .ref (gA G 9)] s4 := by
              exact wk_lv [1, 2, 3, 4] rfl (J101 y101d   s4 hf)
            by_cases c93 : (s4 9 (a2_4 - (1 : Int32)).toNatClampNeg) = 0
            · rw [if_pos c93] at hy101d
              refine wk_if_ne_p (pc := 93) (tgt := 100) dX9_worked_93 rfl c93 ?_
              refine wk_iconst (pc := 96) (v := (1 : Int32)) dX9_worked_96 (by decide) ?_
              refine wk_goto (pc := 97) (tgt := 101) dX9_worked_97 rfl ?_
              exact wk_top hy101d K101
            · rw [if_neg c93] at hy101d
              refine wk_if_ne_m (pc := 93) (tgt := 100) dX9_worked_93 rfl c93 ?_
              refine wk_iconst (pc := 100) (v := (0 : Int32)) dX9_worked_100 (by decide) ?_
              exact wk_top hy101d K101
        · refine wk_aload_n (pc := 34) dX9_worked_34 rfl 1 rfl ?_
          refine wk_getR (C := RX9) (T := TX9) (N := 24) (pc := 35) dX9_worked_35 (nm_0 hG).2 (nm_0 hG).1 rfl qU_X9 14 (by decide) qF_X9_41 rfl ?_
          refine wk_iload_n (pc := 38) dX9_worked_38 rfl 3 rfl ?_
          refine wk_iload (pc := 39) dX9_worked_39 0 rfl ?_
          refine wk_sipush (pc := 41) (v := (10000 : Int32)) dX9_worked_41 (by decide) ?_
          refine wk_icmp_ge (pc := 44) (tgt := 52) dX9_worked_44 rfl hf (fun hf => ?_) (fun hf => ?_)
          · refine wk_aload_n (pc := 52) dX9_worked_52 rfl 1 rfl ?_
            refine wk_getR (C := RX9) (T := TX9) (N := 24) (pc := 53) dX9_worked_53 (nm_0 hG).2 (nm_0 hG).1 rfl qU_X9 13 (by decide) qF_X9_38 rfl ?_
            refine wk_iload (pc := 56) dX9_worked_56 0 rfl ?_
            refine wk_sipush (pc := 58) (v := (10000 : Int32)) dX9_worked_58 (by decide) ?_
            refine wk_isub (pc := 61) dX9_worked_61 ?_
            obtain ⟨h62, hf⟩ := xif_some hf
            refine wk_iald (pc := 62) (jj := (y24 - (10000 : Int32)).toNatClampNeg) dX9_worked_62 (nm_8 hG).2 (nm_8 hG).1 h62 rfl ?_
            exact wk_lv [1, 2, 3, 4] rfl (J63  (s4 8 (y24 - (10000 : Int32)).toNatClampNeg)  s4 hf)
          · refine wk_iload (pc := 47) dX9_worked_47 0 rfl ?_
            refine wk_goto (pc := 49) (tgt := 63) dX9_worked_49 rfl ?_
            exact wk_lv [1, 2, 3, 4] rfl (J63  y24  s4 hf)
  refine wk_iconst (pc := 0) (v := (0 : Int32)) dX9_worked_0 (by decide) ?_
  refine wk_istore_n (pc := 1) (lv' := [(2, .int (0 : Int32)), (0, .ref (gA G 0)), (1, .int p1)]) dX9_worked_1 rfl (by decide) rfl ?_
  refine wk_iload_n (pc := 2) dX9_worked_2 rfl 2 rfl ?_
  refine wk_istore_n (pc := 3) (lv' := [(3, .int p1), (2, .int (0 : Int32)), (0, .ref (gA G 0)), (1, .int p1)]) dX9_worked_3 rfl (by decide) rfl ?_
  exact wk_lv [2, 3, 1, 0] rfl (J4  xF (0 : Int32) p1  s hf)
noncomputable def sX9_hasText (p1 : Int32) (s : xS) : Option (Int32 × xS) := (if xin ((138 : Int32) + ((52 : Int32) * p1)) 242 then xlet ((if (s 1 ((138 : Int32) + ((52 : Int32) * p1)).toNatClampNeg) ≤ 0 then (0 : Int32) else (1 : Int32))) (fun y21d => (if y21d = 0 ∨ y21d = 1 then some (y21d, s) else none)) else none)
set_option maxHeartbeats 4000000 in
set_option maxRecDepth 100000 in
theorem kX9_hasText (l : Launch) {G : xG} (hG : xM1 G)  {p1 : Int32}  {s : xS} {r : Int32} {s' : xS} (hf : sX9_hasText p1 s = some (r, s')) : xMet l G 2 yX9_hasText cX9_hasText 2 (some .boolean) [.ref (gA G 0), .int p1] s (xI r s') := by
  refine xMet.of (by decide) (Nat.le_of_ble_eq_true rfl) ?_
  show wk l G 2 RX9 cX9_hasText 2 (some .boolean) (xI r s') 0 [(0, .ref (gA G 0)), (1, .int p1)] [] s
  unfold sX9_hasText at hf
  refine wk_aload_n (pc := 0) dX9_hasText_0 rfl 0 rfl ?_
  refine wk_getR (C := RX9) (T := TX9) (N := 24) (pc := 1) dX9_hasText_1 (nm_0 hG).2 (nm_0 hG).1 rfl qU_X9 0 (by decide) qF_X9_9 rfl ?_
  refine wk_sipush (pc := 4) (v := (138 : Int32)) dX9_hasText_4 (by decide) ?_
  refine wk_bipush (pc := 7) (v := (52 : Int32)) dX9_hasText_7 (by decide) ?_
  refine wk_iload_n (pc := 9) dX9_hasText_9 rfl 1 rfl ?_
  refine wk_imul (pc := 10) dX9_hasText_10 ?_
  refine wk_iadd (pc := 11) dX9_hasText_11 ?_
  obtain ⟨h12, hf⟩ := xif_some hf
  refine wk_iald (pc := 12) (jj := ((138 : Int32) + ((52 : Int32) * p1)).toNatClampNeg) dX9_hasText_12 (nm_1 hG).2 (nm_1 hG).1 h12 rfl ?_
  obtain ⟨y21d, hy21d, hf⟩ := xlet_some hf
  have K21 : wk l G 2 RX9 cX9_hasText 2 (some .boolean) (xI r s') 21 [(0, .ref (gA G 0)), (1, .int p1)] [.int y21d] s := by
    obtain ⟨h21, hf⟩ := xif_some hf
    exact wk_zret (pc := 21) dX9_hasText_21 rfl (x01n h21) (xI_of hf)
  by_cases c13 : (s 1 ((138 : Int32) + ((52 : Int32) * p1)).toNatClampNeg) ≤ 0
  · rw [if_pos c13] at hy21d
    refine wk_if_le_p (pc := 13) (tgt := 20) dX9_hasText_13 rfl c13 ?_
    refine wk_iconst (pc := 20) (v := (0 : Int32)) dX9_hasText_20 (by decide) ?_
    exact wk_top hy21d K21
  · rw [if_neg c13] at hy21d
    refine wk_if_le_m (pc := 13) (tgt := 20) dX9_hasText_13 rfl c13 ?_
    refine wk_iconst (pc := 16) (v := (1 : Int32)) dX9_hasText_16 (by decide) ?_
    refine wk_goto (pc := 17) (tgt := 21) dX9_hasText_17 rfl ?_
    exact wk_top hy21d K21
noncomputable def sX9_given_L72 (t0_61 : Int32) (y72d : Int32)  (s72 : xS) : Option (Int32 × xS) := xbind (sX9_held t0_61 (0 : Int32) y72d s72) (fun r72 s72 => some (r72, s72))
noncomputable def sX9_given_L61 (p1 : Int32) (t0_61 : Int32) (s61 : xS) : Option (Int32 × xS) := xlet ((if p1 = 0 then (19 : Int32) else (1 : Int32))) (fun y72d => (sX9_given_L72 t0_61 y72d)  s61)
noncomputable def sX9_given_L32 (p1 : Int32) (y32d : Int32)  (s32 : xS) : Option (Int32 × xS) := xbind (sX9_hasText p1 s32) (fun r36 s36 => (if r36 = 0 then (sX9_given_L61 p1) y32d s36 else xbind (sX9_worked (((138 : Int32) + ((52 : Int32) * p1)) + (1 : Int32)) s36) (fun r53 s53 => (sX9_given_L61 p1) r53 s53)))
noncomputable def sX9_given (p1 : Int32) (p2 : Int32) (p3 : Int32) (p4 : Int32) (s : xS) : Option (Int32 × xS) := xlet (xup s 8 (upd (s 8) 0 p2)) (fun s6 => xlet (xup s6 8 (upd (s6 8) 1 p3)) (fun s13 => xlet (xup s13 8 (upd (s13 8) 2 p4)) (fun s21 => xlet ((if p1 = 0 then p4 else (0 : Int32))) (fun y32d => (sX9_given_L32 p1 y32d)  s21))))
set_option maxHeartbeats 4000000 in
set_option maxRecDepth 100000 in
theorem kX9_given (l : Launch) {G : xG} (hG : xM1 G)  {p1 : Int32} {p2 : Int32} {p3 : Int32} {p4 : Int32}  {s : xS} {r : Int32} {s' : xS} (hf : sX9_given p1 p2 p3 p4 s = some (r, s')) : xMet l G 4 yX9_given cX9_given 6 (some .int) [.ref (gA G 0), .int p1, .int p2, .int p3, .int p4] s (xI r s') := by
  refine xMet.of (by decide) (Nat.le_of_ble_eq_true rfl) ?_
  show wk l G 4 RX9 cX9_given 6 (some .int) (xI r s') 0 [(0, .ref (gA G 0)), (1, .int p1), (2, .int p2), (3, .int p3), (4, .int p4)] [] s
  unfold sX9_given at hf
  have J72 : ∀ (t0_61 : Int32) (y72d : Int32)    (s72 : xS), (sX9_given_L72 t0_61 y72d)  s72 = some (r, s') → wk l G 4 RX9 cX9_given 6 (some .int) (xI r s') 72 [] [.int y72d, .int (0 : Int32), .int t0_61] s72 := by
    intro t0_61 y72d s72 hf
    unfold sX9_given_L72 at hf
    obtain ⟨r72, s72, hc72, hf⟩ := xbind_some hf
    refine wk_callSI (pc := 72) (As := [.int t0_61, .int (0 : Int32), .int y72d]) (rest := []) (kX9_held l hG  hc72) cw_X9_158 (by decide) dX9_given_72 rfl (Nat.le_of_ble_eq_true rfl) ?_
    exact wk_iret (pc := 75) dX9_given_75 rfl (xI_of hf)
  have J61 : ∀   (t0_61 : Int32)  (s61 : xS), (sX9_given_L61 p1) t0_61 s61 = some (r, s') → wk l G 4 RX9 cX9_given 6 (some .int) (xI r s') 61 [(1, .int p1)] [.int t0_61] s61 := by
    intro t0_61 s61 hf
    unfold sX9_given_L61 at hf
    refine wk_iconst (pc := 61) (v := (0 : Int32)) dX9_given_61 (by decide) ?_
    refine wk_iload_n (pc := 62) dX9_given_62 rfl 0 rfl ?_
    obtain ⟨y72d, hy72d, hf⟩ := xlet_some hf
    have K72 : wk l G 4 RX9 cX9_given 6 (some .int) (xI r s') 72 [(1, .int p1)] [.int y72d, .int (0 : Int32), .int t0_61] s61 := by
      exact wk_lv [] rfl (J72 t0_61 y72d   s61 hf)
    by_cases c63 : p1 = 0
    · rw [if_pos c63] at hy72d
      refine wk_if_ne_p (pc := 63) (tgt := 71) dX9_given_63 rfl c63 ?_
      refine wk_bipush (pc := 66) (v := (19 : Int32)) dX9_given_66 (by decide) ?_
      refine wk_goto (pc := 68) (tgt := 72) dX9_given_68 rfl ?_
      exact wk_top hy72d K72
    · rw [if_neg c63] at hy72d
      refine wk_if_ne_m (pc := 63) (tgt := 71) dX9_given_63 rfl c63 ?_
      refine wk_iconst (pc := 71) (v := (1 : Int32)) dX9_given_71 (by decide) ?_
      exact wk_top hy72d K72
  have J32 : ∀ (y32d : Int32)    (s32 : xS), (sX9_given_L32 p1 y32d)  s32 = some (r, s') → wk l G 4 RX9 cX9_given 6 (some .int) (xI r s') 32 [(0, .ref (gA G 0)), (1, .int p1)] [.int y32d] s32 := by
    intro y32d s32 hf
    unfold sX9_given_L32 at hf
    refine wk_istore (pc := 32) (lv' := [(5, .int y32d), (0, .ref (gA G 0)), (1, .int p1)]) dX9_given_32 (by decide) rfl ?_
    refine wk_aload_n (pc := 34) dX9_given_34 rfl 1 rfl ?_
    refine wk_iload_n (pc := 35) dX9_given_35 rfl 2 rfl ?_
    obtain ⟨r36, s36, hc36, hf⟩ := xbind_some hf
    refine wk_callVI (pc := 36) (As := [.int p1]) (rest := []) (kX9_hasText l hG  hc36) cw_X9_152 (by decide) dX9_given_36 (nm_0 hG).2 (nm_0 hG).1 rfl rfl rfl (Nat.le_of_ble_eq_true rfl) ?_
    refine wk_if_eq (pc := 39) (tgt := 59) dX9_given_39 rfl hf (fun hf => ?_) (fun hf => ?_)
    · refine wk_iload (pc := 59) dX9_given_59 0 rfl ?_
      exact wk_lv [2] rfl (J61  y32d  s36 hf)
    · refine wk_aload_n (pc := 42) dX9_given_42 rfl 1 rfl ?_
      refine wk_sipush (pc := 43) (v := (138 : Int32)) dX9_given_43 (by decide) ?_
      refine wk_bipush (pc := 46) (v := (52 : Int32)) dX9_given_46 (by decide) ?_
      refine wk_iload_n (pc := 48) dX9_given_48 rfl 2 rfl ?_
      refine wk_imul (pc := 49) dX9_given_49 ?_
      refine wk_iadd (pc := 50) dX9_given_50 ?_
      refine wk_iconst (pc := 51) (v := (1 : Int32)) dX9_given_51 (by decide) ?_
      refine wk_iadd (pc := 52) dX9_given_52 ?_
      obtain ⟨r53, s53, hc53, hf⟩ := xbind_some hf
      refine wk_callVI (pc := 53) (As := [.int (((138 : Int32) + ((52 : Int32) * p1)) + (1 : Int32))]) (rest := []) (kX9_worked l hG  hc53) cw_X9_155 (by decide) dX9_given_53 (nm_0 hG).2 (nm_0 hG).1 rfl rfl rfl (Nat.le_of_ble_eq_true rfl) ?_
      refine wk_goto (pc := 56) (tgt := 61) dX9_given_56 rfl ?_
      exact wk_lv [2] rfl (J61  r53  s53 hf)
  refine wk_aload_n (pc := 0) dX9_given_0 rfl 0 rfl ?_
  refine wk_getR (C := RX9) (T := TX9) (N := 24) (pc := 1) dX9_given_1 (nm_0 hG).2 (nm_0 hG).1 rfl qU_X9 13 (by decide) qF_X9_38 rfl ?_
  refine wk_iconst (pc := 4) (v := (0 : Int32)) dX9_given_4 (by decide) ?_
  refine wk_iload_n (pc := 5) dX9_given_5 rfl 2 rfl ?_
  refine wk_iast (pc := 6) (jj := 0) dX9_given_6 (nm_8 hG).2 (nm_8 hG).1 (by decide) (by decide) ?_
  obtain ⟨s6, hs6, hf⟩ := xlet_some hf
  refine wk_sig hs6 ?_
  refine wk_aload_n (pc := 7) dX9_given_7 rfl 0 rfl ?_
  refine wk_getR (C := RX9) (T := TX9) (N := 24) (pc := 8) dX9_given_8 (nm_0 hG).2 (nm_0 hG).1 rfl qU_X9 13 (by decide) qF_X9_38 rfl ?_
  refine wk_iconst (pc := 11) (v := (1 : Int32)) dX9_given_11 (by decide) ?_
  refine wk_iload_n (pc := 12) dX9_given_12 rfl 3 rfl ?_
  refine wk_iast (pc := 13) (jj := 1) dX9_given_13 (nm_8 hG).2 (nm_8 hG).1 (by decide) (by decide) ?_
  obtain ⟨s13, hs13, hf⟩ := xlet_some hf
  refine wk_sig hs13 ?_
  refine wk_aload_n (pc := 14) dX9_given_14 rfl 0 rfl ?_
  refine wk_getR (C := RX9) (T := TX9) (N := 24) (pc := 15) dX9_given_15 (nm_0 hG).2 (nm_0 hG).1 rfl qU_X9 13 (by decide) qF_X9_38 rfl ?_
  refine wk_iconst (pc := 18) (v := (2 : Int32)) dX9_given_18 (by decide) ?_
  refine wk_iload (pc := 19) dX9_given_19 4 rfl ?_
  refine wk_iast (pc := 21) (jj := 2) dX9_given_21 (nm_8 hG).2 (nm_8 hG).1 (by decide) (by decide) ?_
  obtain ⟨s21, hs21, hf⟩ := xlet_some hf
  refine wk_sig hs21 ?_
  refine wk_iload_n (pc := 22) dX9_given_22 rfl 1 rfl ?_
  obtain ⟨y32d, hy32d, hf⟩ := xlet_some hf
  have K32 : wk l G 4 RX9 cX9_given 6 (some .int) (xI r s') 32 [(0, .ref (gA G 0)), (1, .int p1), (2, .int p2), (3, .int p3), (4, .int p4)] [.int y32d] s21 := by
    exact wk_lv [0, 1] rfl (J32 y32d   s21 hf)
  by_cases c23 : p1 = 0
  · rw [if_pos c23] at hy32d
    refine wk_if_ne_p (pc := 23) (tgt := 31) dX9_given_23 rfl c23 ?_
    refine wk_iload (pc := 26) dX9_given_26 4 rfl ?_
    refine wk_goto (pc := 28) (tgt := 32) dX9_given_28 rfl ?_
    exact wk_top hy32d K32
  · rw [if_neg c23] at hy32d
    refine wk_if_ne_m (pc := 23) (tgt := 31) dX9_given_23 rfl c23 ?_
    refine wk_iconst (pc := 31) (v := (0 : Int32)) dX9_given_31 (by decide) ?_
    exact wk_top hy32d K32
noncomputable def sX9_law (p1 : Int32) (p2 : Int32) (p3 : Int32) (p4 : Int32) (s : xS) : Option (Int32 × xS) := xbind (sX9_within p1 (0 : Int32) (1 : Int32) s) (fun r3 s3 => (if r3 = 0 then xbind (sX9_finding (-1000000001 : Int32) s3) (fun r24 s24 => some (r24, s24)) else xbind (sX9_given p1 p2 p3 p4 s3) (fun r15 s15 => some (r15, s15))))
set_option maxHeartbeats 4000000 in
set_option maxRecDepth 100000 in
theorem kX9_law (l : Launch) {G : xG} (hG : xM1 G)  {p1 : Int32} {p2 : Int32} {p3 : Int32} {p4 : Int32}  {s : xS} {r : Int32} {s' : xS} (hf : sX9_law p1 p2 p3 p4 s = some (r, s')) : xMet l G 5 yX9_law cX9_law 5 (some .int) [.ref (gA G 0), .int p1, .int p2, .int p3, .int p4] s (xI r s') := by
  refine xMet.of (by decide) (Nat.le_of_ble_eq_true rfl) ?_
  show wk l G 5 RX9 cX9_law 5 (some .int) (xI r s') 0 [(0, .ref (gA G 0)), (1, .int p1), (2, .int p2), (3, .int p3), (4, .int p4)] [] s
  unfold sX9_law at hf
  refine wk_iload_n (pc := 0) dX9_law_0 rfl 1 rfl ?_
  refine wk_iconst (pc := 1) (v := (0 : Int32)) dX9_law_1 (by decide) ?_
  refine wk_iconst (pc := 2) (v := (1 : Int32)) dX9_law_2 (by decide) ?_
  obtain ⟨r3, s3, hc3, hf⟩ := xbind_some hf
  refine wk_callSI (pc := 3) (As := [.int p1, .int (0 : Int32), .int (1 : Int32)]) (rest := []) (kX9_within l hG  hc3) cw_X9_77 (by decide) dX9_law_3 rfl (Nat.le_of_ble_eq_true rfl) ?_
  refine wk_if_eq (pc := 6) (tgt := 21) dX9_law_6 rfl hf (fun hf => ?_) (fun hf => ?_)
  · refine wk_aload_n (pc := 21) dX9_law_21 rfl 0 rfl ?_
    refine wk_ldc (pc := 22) (v := (-1000000001 : Int32)) dX9_law_22 qK_X9_81 ?_
    obtain ⟨r24, s24, hc24, hf⟩ := xbind_some hf
    refine wk_callVI (pc := 24) (As := [.int (-1000000001 : Int32)]) (rest := []) (kX9_finding l hG  hc24) cw_X9_82 (by decide) dX9_law_24 (nm_0 hG).2 (nm_0 hG).1 rfl rfl rfl (Nat.le_of_ble_eq_true rfl) ?_
    exact wk_iret (pc := 27) dX9_law_27 rfl (xI_of hf)
  · refine wk_aload_n (pc := 9) dX9_law_9 rfl 0 rfl ?_
    refine wk_iload_n (pc := 10) dX9_law_10 rfl 1 rfl ?_
    refine wk_iload_n (pc := 11) dX9_law_11 rfl 2 rfl ?_
    refine wk_iload_n (pc := 12) dX9_law_12 rfl 3 rfl ?_
    refine wk_iload (pc := 13) dX9_law_13 4 rfl ?_
    obtain ⟨r15, s15, hc15, hf⟩ := xbind_some hf
    refine wk_callVI (pc := 15) (As := [.int p1, .int p2, .int p3, .int p4]) (rest := []) (kX9_given l hG  hc15) cw_X9_161 (by decide) dX9_law_15 (nm_0 hG).2 (nm_0 hG).1 rfl rfl rfl (Nat.le_of_ble_eq_true rfl) ?_
    refine wk_goto (pc := 18) (tgt := 27) dX9_law_18 rfl ?_
    exact wk_iret (pc := 27) dX9_law_27 rfl (xI_of hf)
noncomputable def sX9_hasBit (p0 : Int32) (p1 : Int32) (s : xS) : Option (Int32 × xS) := xlet ((if ((p0 >>> (p1 &&& 31)) &&& (1 : Int32)) = (1 : Int32) then (1 : Int32) else (0 : Int32))) (fun y14d => (if y14d = 0 ∨ y14d = 1 then some (y14d, s) else none))
set_option maxHeartbeats 4000000 in
set_option maxRecDepth 100000 in
theorem kX9_hasBit (l : Launch) {G : xG} (hG : xM1 G)  {p0 : Int32} {p1 : Int32}  {s : xS} {r : Int32} {s' : xS} (hf : sX9_hasBit p0 p1 s = some (r, s')) : xMet l G 2 yX9_hasBit cX9_hasBit 2 (some .boolean) [.int p0, .int p1] s (xI r s') := by
  refine xMet.of (by decide) (Nat.le_of_ble_eq_true rfl) ?_
  show wk l G 2 RX9 cX9_hasBit 2 (some .boolean) (xI r s') 0 [(0, .int p0), (1, .int p1)] [] s
  unfold sX9_hasBit at hf
  refine wk_iload_n (pc := 0) dX9_hasBit_0 rfl 0 rfl ?_
  refine wk_iload_n (pc := 1) dX9_hasBit_1 rfl 1 rfl ?_
  refine wk_ishr (pc := 2) dX9_hasBit_2 ?_
  refine wk_iconst (pc := 3) (v := (1 : Int32)) dX9_hasBit_3 (by decide) ?_
  refine wk_iand (pc := 4) dX9_hasBit_4 ?_
  refine wk_iconst (pc := 5) (v := (1 : Int32)) dX9_hasBit_5 (by decide) ?_
  obtain ⟨y14d, hy14d, hf⟩ := xlet_some hf
  have K14 : wk l G 2 RX9 cX9_hasBit 2 (some .boolean) (xI r s') 14 [(0, .int p0), (1, .int p1)] [.int y14d] s := by
    obtain ⟨h14, hf⟩ := xif_some hf
    exact wk_zret (pc := 14) dX9_hasBit_14 rfl (x01n h14) (xI_of hf)
  by_cases c6 : ((p0 >>> (p1 &&& 31)) &&& (1 : Int32)) = (1 : Int32)
  · rw [if_pos c6] at hy14d
    refine wk_icmp_ne_p (pc := 6) (tgt := 13) dX9_hasBit_6 rfl c6 ?_
    refine wk_iconst (pc := 9) (v := (1 : Int32)) dX9_hasBit_9 (by decide) ?_
    refine wk_goto (pc := 10) (tgt := 14) dX9_hasBit_10 rfl ?_
    exact wk_top hy14d K14
  · rw [if_neg c6] at hy14d
    refine wk_icmp_ne_m (pc := 6) (tgt := 13) dX9_hasBit_6 rfl c6 ?_
    refine wk_iconst (pc := 13) (v := (0 : Int32)) dX9_hasBit_13 (by decide) ?_
    exact wk_top hy14d K14
noncomputable def sX9_bits_L4  (self4 : Int32 × Int32 → xS → Option (Int32 × xS)) : Int32 × Int32 → xS → Option (Int32 × xS) := fun (a1_4, a2_4) s4 => (if a2_4 = 0 then some (a1_4, s4) else xlet (a1_4 + (1 : Int32)) (fun y8 => xlet ((a2_4 &&& (a2_4 - (1 : Int32)))) (fun y16 => self4 (y8, y16) s4)))
noncomputable def sX9_bits (p0 : Int32) (s : xS) : Option (Int32 × xS) := xloop sX9_bits_L4 xF ((0 : Int32), p0) s
set_option maxHeartbeats 4000000 in
set_option maxRecDepth 100000 in
theorem kX9_bits (l : Launch) {G : xG} (hG : xM1 G)  {p0 : Int32}  {s : xS} {r : Int32} {s' : xS} (hf : sX9_bits p0 s = some (r, s')) : xMet l G 2 yX9_bits cX9_bits 3 (some .int) [.int p0] s (xI r s') := by
  refine xMet.of (by decide) (Nat.le_of_ble_eq_true rfl) ?_
  show wk l G 2 RX9 cX9_bits 3 (some .int) (xI r s') 0 [(0, .int p0)] [] s
  unfold sX9_bits at hf
  have J4 : ∀   (N : Nat) (a1_4 : Int32) (a2_4 : Int32)  (s4 : xS), xloop sX9_bits_L4 N (a1_4, a2_4) s4 = some (r, s') → wk l G 2 RX9 cX9_bits 3 (some .int) (xI r s') 4 [(1, .int a1_4), (2, .int a2_4)] [] s4 := by
    intro N
    induction N with
    | zero => intro a1_4 a2_4 s4 hf; exact (xloop_0 hf).elim
    | succ N ih4 =>
      intro a1_4 a2_4 s4 hf
      rw [xloop_s] at hf
      generalize xloop sX9_bits_L4 N = self4 at hf ih4
      unfold sX9_bits_L4 at hf
      dsimp only at hf
      refine wk_iload_n (pc := 4) dX9_bits_4 rfl 1 rfl ?_
      refine wk_if_eq (pc := 5) (tgt := 20) dX9_bits_5 rfl hf (fun hf => ?_) (fun hf => ?_)
      · refine wk_iload_n (pc := 20) dX9_bits_20 rfl 0 rfl ?_
        exact wk_iret (pc := 21) dX9_bits_21 rfl (xI_of hf)
      · obtain ⟨y8, hy8, hf⟩ := xlet_some hf
        refine wk_iinc (pc := 8) (v := y8) (lv' := [(1, .int y8), (2, .int a2_4)]) dX9_bits_8 0 rfl (by rw [hy8] <;> rfl) (by decide) rfl ?_
        refine wk_iload_n (pc := 11) dX9_bits_11 rfl 1 rfl ?_
        refine wk_iload_n (pc := 12) dX9_bits_12 rfl 1 rfl ?_
        refine wk_iconst (pc := 13) (v := (1 : Int32)) dX9_bits_13 (by decide) ?_
        refine wk_isub (pc := 14) dX9_bits_14 ?_
        refine wk_iand (pc := 15) dX9_bits_15 ?_
        obtain ⟨y16, hy16, hf⟩ := xlet_some hf
        refine wk_top hy16 ?_
        refine wk_istore_n (pc := 16) (lv' := [(2, .int y16), (1, .int y8)]) dX9_bits_16 rfl (by decide) rfl ?_
        refine wk_goto (pc := 17) (tgt := 4) dX9_bits_17 rfl ?_
        exact wk_lv [1, 0] rfl (ih4 y8 y16  s4 hf)
  refine wk_iconst (pc := 0) (v := (0 : Int32)) dX9_bits_0 (by decide) ?_
  refine wk_istore_n (pc := 1) (lv' := [(1, .int (0 : Int32)), (0, .int p0)]) dX9_bits_1 rfl (by decide) rfl ?_
  refine wk_iload_n (pc := 2) dX9_bits_2 rfl 1 rfl ?_
  refine wk_istore_n (pc := 3) (lv' := [(2, .int p0), (1, .int (0 : Int32)), (0, .int p0)]) dX9_bits_3 rfl (by decide) rfl ?_
  exact wk_lv [1, 0] rfl (J4  xF (0 : Int32) p0  s hf)
noncomputable def sX9_isCell (p1 : Int32) (s : xS) : Option (Int32 × xS) := xbind (sX9_within p1 (0 : Int32) ((s 1 1) - (1 : Int32)) s) (fun r10 s10 => (if r10 = 0 ∨ r10 = 1 then some (r10, s10) else none))
set_option maxHeartbeats 4000000 in
set_option maxRecDepth 100000 in
theorem kX9_isCell (l : Launch) {G : xG} (hG : xM1 G)  {p1 : Int32}  {s : xS} {r : Int32} {s' : xS} (hf : sX9_isCell p1 s = some (r, s')) : xMet l G 3 yX9_isCell cX9_isCell 2 (some .boolean) [.ref (gA G 0), .int p1] s (xI r s') := by
  refine xMet.of (by decide) (Nat.le_of_ble_eq_true rfl) ?_
  show wk l G 3 RX9 cX9_isCell 2 (some .boolean) (xI r s') 0 [(0, .ref (gA G 0)), (1, .int p1)] [] s
  unfold sX9_isCell at hf
  refine wk_iload_n (pc := 0) dX9_isCell_0 rfl 1 rfl ?_
  refine wk_iconst (pc := 1) (v := (0 : Int32)) dX9_isCell_1 (by decide) ?_
  refine wk_aload_n (pc := 2) dX9_isCell_2 rfl 0 rfl ?_
  refine wk_getR (C := RX9) (T := TX9) (N := 24) (pc := 3) dX9_isCell_3 (nm_0 hG).2 (nm_0 hG).1 rfl qU_X9 0 (by decide) qF_X9_9 rfl ?_
  refine wk_iconst (pc := 6) (v := (1 : Int32)) dX9_isCell_6 (by decide) ?_
  refine wk_iald (pc := 7) (jj := 1) dX9_isCell_7 (nm_1 hG).2 (nm_1 hG).1 (by decide) (by decide) ?_
  refine wk_iconst (pc := 8) (v := (1 : Int32)) dX9_isCell_8 (by decide) ?_
  refine wk_isub (pc := 9) dX9_isCell_9 ?_
  obtain ⟨r10, s10, hc10, hf⟩ := xbind_some hf
  refine wk_callSI (pc := 10) (As := [.int p1, .int (0 : Int32), .int ((s 1 1) - (1 : Int32))]) (rest := []) (kX9_within l hG  hc10) cw_X9_77 (by decide) dX9_isCell_10 rfl (Nat.le_of_ble_eq_true rfl) ?_
  obtain ⟨h13, hf⟩ := xif_some hf
  exact wk_zret (pc := 13) dX9_isCell_13 rfl (x01n h13) (xI_of hf)
noncomputable def sX9_isShip (p1 : Int32) (s : xS) : Option (Int32 × xS) := xbind (sX9_within p1 (0 : Int32) ((s 1 2) - (1 : Int32)) s) (fun r10 s10 => (if r10 = 0 ∨ r10 = 1 then some (r10, s10) else none))
set_option maxHeartbeats 4000000 in
set_option maxRecDepth 100000 in
theorem kX9_isShip (l : Launch) {G : xG} (hG : xM1 G)  {p1 : Int32}  {s : xS} {r : Int32} {s' : xS} (hf : sX9_isShip p1 s = some (r, s')) : xMet l G 3 yX9_isShip cX9_isShip 2 (some .boolean) [.ref (gA G 0), .int p1] s (xI r s') := by
  refine xMet.of (by decide) (Nat.le_of_ble_eq_true rfl) ?_
  show wk l G 3 RX9 cX9_isShip 2 (some .boolean) (xI r s') 0 [(0, .ref (gA G 0)), (1, .int p1)] [] s
  unfold sX9_isShip at hf
  refine wk_iload_n (pc := 0) dX9_isShip_0 rfl 1 rfl ?_
  refine wk_iconst (pc := 1) (v := (0 : Int32)) dX9_isShip_1 (by decide) ?_
  refine wk_aload_n (pc := 2) dX9_isShip_2 rfl 0 rfl ?_
  refine wk_getR (C := RX9) (T := TX9) (N := 24) (pc := 3) dX9_isShip_3 (nm_0 hG).2 (nm_0 hG).1 rfl qU_X9 0 (by decide) qF_X9_9 rfl ?_
  refine wk_iconst (pc := 6) (v := (2 : Int32)) dX9_isShip_6 (by decide) ?_
  refine wk_iald (pc := 7) (jj := 2) dX9_isShip_7 (nm_1 hG).2 (nm_1 hG).1 (by decide) (by decide) ?_
  refine wk_iconst (pc := 8) (v := (1 : Int32)) dX9_isShip_8 (by decide) ?_
  refine wk_isub (pc := 9) dX9_isShip_9 ?_
  obtain ⟨r10, s10, hc10, hf⟩ := xbind_some hf
  refine wk_callSI (pc := 10) (As := [.int p1, .int (0 : Int32), .int ((s 1 2) - (1 : Int32))]) (rest := []) (kX9_within l hG  hc10) cw_X9_77 (by decide) dX9_isShip_10 rfl (Nat.le_of_ble_eq_true rfl) ?_
  obtain ⟨h13, hf⟩ := xif_some hf
  exact wk_zret (pc := 13) dX9_isShip_13 rfl (x01n h13) (xI_of hf)
noncomputable def sX9_isDigit (p0 : Int32) (s : xS) : Option (Int32 × xS) := xbind (sX9_within p0 (0 : Int32) (9 : Int32) s) (fun r4 s4 => (if r4 = 0 ∨ r4 = 1 then some (r4, s4) else none))
set_option maxHeartbeats 4000000 in
set_option maxRecDepth 100000 in
theorem kX9_isDigit (l : Launch) {G : xG} (hG : xM1 G)  {p0 : Int32}  {s : xS} {r : Int32} {s' : xS} (hf : sX9_isDigit p0 s = some (r, s')) : xMet l G 3 yX9_isDigit cX9_isDigit 1 (some .boolean) [.int p0] s (xI r s') := by
  refine xMet.of (by decide) (Nat.le_of_ble_eq_true rfl) ?_
  show wk l G 3 RX9 cX9_isDigit 1 (some .boolean) (xI r s') 0 [(0, .int p0)] [] s
  unfold sX9_isDigit at hf
  refine wk_iload_n (pc := 0) dX9_isDigit_0 rfl 0 rfl ?_
  refine wk_iconst (pc := 1) (v := (0 : Int32)) dX9_isDigit_1 (by decide) ?_
  refine wk_bipush (pc := 2) (v := (9 : Int32)) dX9_isDigit_2 (by decide) ?_
  obtain ⟨r4, s4, hc4, hf⟩ := xbind_some hf
  refine wk_callSI (pc := 4) (As := [.int p0, .int (0 : Int32), .int (9 : Int32)]) (rest := []) (kX9_within l hG  hc4) cw_X9_77 (by decide) dX9_isDigit_4 rfl (Nat.le_of_ble_eq_true rfl) ?_
  obtain ⟨h7, hf⟩ := xif_some hf
  exact wk_zret (pc := 7) dX9_isDigit_7 rfl (x01n h7) (xI_of hf)
noncomputable def sX9_isYear (p0 : Int32) (s : xS) : Option (Int32 × xS) := xbind (sX9_within p0 (0 : Int32) (999 : Int32) s) (fun r5 s5 => (if r5 = 0 ∨ r5 = 1 then some (r5, s5) else none))
set_option maxHeartbeats 4000000 in
set_option maxRecDepth 100000 in
theorem kX9_isYear (l : Launch) {G : xG} (hG : xM1 G)  {p0 : Int32}  {s : xS} {r : Int32} {s' : xS} (hf : sX9_isYear p0 s = some (r, s')) : xMet l G 3 yX9_isYear cX9_isYear 1 (some .boolean) [.int p0] s (xI r s') := by
  refine xMet.of (by decide) (Nat.le_of_ble_eq_true rfl) ?_
  show wk l G 3 RX9 cX9_isYear 1 (some .boolean) (xI r s') 0 [(0, .int p0)] [] s
  unfold sX9_isYear at hf
  refine wk_iload_n (pc := 0) dX9_isYear_0 rfl 0 rfl ?_
  refine wk_iconst (pc := 1) (v := (0 : Int32)) dX9_isYear_1 (by decide) ?_
  refine wk_sipush (pc := 2) (v := (999 : Int32)) dX9_isYear_2 (by decide) ?_
  obtain ⟨r5, s5, hc5, hf⟩ := xbind_some hf
  refine wk_callSI (pc := 5) (As := [.int p0, .int (0 : Int32), .int (999 : Int32)]) (rest := []) (kX9_within l hG  hc5) cw_X9_77 (by decide) dX9_isYear_5 rfl (Nat.le_of_ble_eq_true rfl) ?_
  obtain ⟨h8, hf⟩ := xif_some hf
  exact wk_zret (pc := 8) dX9_isYear_8 rfl (x01n h8) (xI_of hf)
noncomputable def sX9_cellAt (p0 : Int32) (p1 : Int32) (s : xS) : Option (Int32 × xS) := some ((((9 : Int32) + ((3 : Int32) * p0)) + p1), s)
set_option maxHeartbeats 4000000 in
set_option maxRecDepth 100000 in
theorem kX9_cellAt (l : Launch) {G : xG} (hG : xM1 G)  {p0 : Int32} {p1 : Int32}  {s : xS} {r : Int32} {s' : xS} (hf : sX9_cellAt p0 p1 s = some (r, s')) : xMet l G 2 yX9_cellAt cX9_cellAt 2 (some .int) [.int p0, .int p1] s (xI r s') := by
  refine xMet.of (by decide) (Nat.le_of_ble_eq_true rfl) ?_
  show wk l G 2 RX9 cX9_cellAt 2 (some .int) (xI r s') 0 [(0, .int p0), (1, .int p1)] [] s
  unfold sX9_cellAt at hf
  refine wk_bipush (pc := 0) (v := (9 : Int32)) dX9_cellAt_0 (by decide) ?_
  refine wk_iconst (pc := 2) (v := (3 : Int32)) dX9_cellAt_2 (by decide) ?_
  refine wk_iload_n (pc := 3) dX9_cellAt_3 rfl 0 rfl ?_
  refine wk_imul (pc := 4) dX9_cellAt_4 ?_
  refine wk_iadd (pc := 5) dX9_cellAt_5 ?_
  refine wk_iload_n (pc := 6) dX9_cellAt_6 rfl 1 rfl ?_
  refine wk_iadd (pc := 7) dX9_cellAt_7 ?_
  exact wk_iret (pc := 8) dX9_cellAt_8 rfl (xI_of hf)
noncomputable def sX9_cellIs (p1 : Int32) (p2 : Int32) (s : xS) : Option (Int32 × xS) := xbind (sX9_cellAt p1 p2 s) (fun r6 s6 => (if xin r6 242 then some ((s6 1 r6.toNatClampNeg), s6) else none))
set_option maxHeartbeats 4000000 in
set_option maxRecDepth 100000 in
theorem kX9_cellIs (l : Launch) {G : xG} (hG : xM1 G)  {p1 : Int32} {p2 : Int32}  {s : xS} {r : Int32} {s' : xS} (hf : sX9_cellIs p1 p2 s = some (r, s')) : xMet l G 3 yX9_cellIs cX9_cellIs 3 (some .int) [.ref (gA G 0), .int p1, .int p2] s (xI r s') := by
  refine xMet.of (by decide) (Nat.le_of_ble_eq_true rfl) ?_
  show wk l G 3 RX9 cX9_cellIs 3 (some .int) (xI r s') 0 [(0, .ref (gA G 0)), (1, .int p1), (2, .int p2)] [] s
  unfold sX9_cellIs at hf
  refine wk_aload_n (pc := 0) dX9_cellIs_0 rfl 0 rfl ?_
  refine wk_getR (C := RX9) (T := TX9) (N := 24) (pc := 1) dX9_cellIs_1 (nm_0 hG).2 (nm_0 hG).1 rfl qU_X9 0 (by decide) qF_X9_9 rfl ?_
  refine wk_iload_n (pc := 4) dX9_cellIs_4 rfl 1 rfl ?_
  refine wk_iload_n (pc := 5) dX9_cellIs_5 rfl 2 rfl ?_
  obtain ⟨r6, s6, hc6, hf⟩ := xbind_some hf
  refine wk_callSI (pc := 6) (As := [.int p1, .int p2]) (rest := [.ref (gA G 1)]) (kX9_cellAt l hG  hc6) cw_X9_165 (by decide) dX9_cellIs_6 rfl (Nat.le_of_ble_eq_true rfl) ?_
  obtain ⟨h9, hf⟩ := xif_some hf
  refine wk_iald (pc := 9) (jj := r6.toNatClampNeg) dX9_cellIs_9 (nm_1 hG).2 (nm_1 hG).1 h9 rfl ?_
  exact wk_iret (pc := 10) dX9_cellIs_10 rfl (xI_of hf)
noncomputable def sX9_shipAt (p0 : Int32) (p1 : Int32) (s : xS) : Option (Int32 × xS) := some ((((33 : Int32) + ((5 : Int32) * p0)) + p1), s)
set_option maxHeartbeats 4000000 in
set_option maxRecDepth 100000 in
theorem kX9_shipAt (l : Launch) {G : xG} (hG : xM1 G)  {p0 : Int32} {p1 : Int32}  {s : xS} {r : Int32} {s' : xS} (hf : sX9_shipAt p0 p1 s = some (r, s')) : xMet l G 2 yX9_shipAt cX9_shipAt 2 (some .int) [.int p0, .int p1] s (xI r s') := by
  refine xMet.of (by decide) (Nat.le_of_ble_eq_true rfl) ?_
  show wk l G 2 RX9 cX9_shipAt 2 (some .int) (xI r s') 0 [(0, .int p0), (1, .int p1)] [] s
  unfold sX9_shipAt at hf
  refine wk_bipush (pc := 0) (v := (33 : Int32)) dX9_shipAt_0 (by decide) ?_
  refine wk_iconst (pc := 2) (v := (5 : Int32)) dX9_shipAt_2 (by decide) ?_
  refine wk_iload_n (pc := 3) dX9_shipAt_3 rfl 0 rfl ?_
  refine wk_imul (pc := 4) dX9_shipAt_4 ?_
  refine wk_iadd (pc := 5) dX9_shipAt_5 ?_
  refine wk_iload_n (pc := 6) dX9_shipAt_6 rfl 1 rfl ?_
  refine wk_iadd (pc := 7) dX9_shipAt_7 ?_
  exact wk_iret (pc := 8) dX9_shipAt_8 rfl (xI_of hf)
