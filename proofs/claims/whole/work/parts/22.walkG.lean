noncomputable def sX9_inBehind (p1 : Int32) (s : xS) : Option (Int32 × xS) := xbind (sX9_hoursGo p1 s) (fun _ s2 => xbind (sX9_shipsAt (0 : Int32) s2) (fun r8 s8 => xbind (sX9_putBack r8 s8) (fun r11 s11 => some (r11, s11))))
set_option maxHeartbeats 4000000 in
set_option maxRecDepth 100000 in
theorem kX9_inBehind (l : Launch) {G : xG} (hG : xM1 G)  {p1 : Int32}  {s : xS} {r : Int32} {s' : xS} (hf : sX9_inBehind p1 s = some (r, s')) : xMet l G 12 yX9_inBehind cX9_inBehind 2 (some .int) [.ref (gA G 0), .int p1] s (xI r s') := by
  refine xMet.of (by decide) (Nat.le_of_ble_eq_true rfl) ?_
  show wk l G 12 RX9 cX9_inBehind 2 (some .int) (xI r s') 0 [(0, .ref (gA G 0)), (1, .int p1)] [] s
  unfold sX9_inBehind at hf
  refine wk_aload_n (pc := 0) dX9_inBehind_0 rfl 0 rfl ?_
  refine wk_iload_n (pc := 1) dX9_inBehind_1 rfl 1 rfl ?_
  obtain ⟨⟨⟩, s2, hc2, hf⟩ := xbind_some hf
  refine wk_callVU (pc := 2) (As := [.int p1]) (rest := []) (kX9_hoursGo l hG  hc2) cw_X9_237 (by decide) dX9_inBehind_2 (nm_0 hG).2 (nm_0 hG).1 rfl rfl rfl (Nat.le_of_ble_eq_true rfl) ?_
  refine wk_aload_n (pc := 5) dX9_inBehind_5 rfl 0 rfl ?_
  refine wk_aload_n (pc := 6) dX9_inBehind_6 rfl 0 rfl ?_
  refine wk_iconst (pc := 7) (v := (0 : Int32)) dX9_inBehind_7 (by decide) ?_
  obtain ⟨r8, s8, hc8, hf⟩ := xbind_some hf
  refine wk_callVI (pc := 8) (As := [.int (0 : Int32)]) (rest := [.ref (gA G 0)]) (kX9_shipsAt l hG  hc8) cw_X9_200 (by decide) dX9_inBehind_8 (nm_0 hG).2 (nm_0 hG).1 rfl rfl rfl (Nat.le_of_ble_eq_true rfl) ?_
  obtain ⟨r11, s11, hc11, hf⟩ := xbind_some hf
  refine wk_callVI (pc := 11) (As := [.int r8]) (rest := []) (kX9_putBack l hG  hc11) cw_X9_250 (by decide) dX9_inBehind_11 (nm_0 hG).2 (nm_0 hG).1 rfl rfl rfl (Nat.le_of_ble_eq_true rfl) ?_
  exact wk_iret (pc := 14) dX9_inBehind_14 rfl (xI_of hf)
noncomputable def sX9_setting_L95 (a3_51 : Int32)  (s95 : xS) : Option (Int32 × xS) := (if 0 ≤ a3_51 then some (a3_51, s95) else xbind (sX9_finding (-1000000002 : Int32) s95) (fun r103 s103 => some (r103, s103)))
noncomputable def sX9_setting_L88 (a4_51 : Int32) (self51 : Int32 × Int32 → xS → Option (Int32 × xS)) (y88d : Int32)  (s88 : xS) : Option (Int32 × xS) := xlet (a4_51 + (1 : Int32)) (fun y89 => self51 (y88d, y89) s88)
noncomputable def sX9_setting_L51 (p1 : Int32) (p2 : Int32) (self51 : Int32 × Int32 → xS → Option (Int32 × xS)) : Int32 × Int32 → xS → Option (Int32 × xS) := fun (a3_51, a4_51) s51 => (if (99 : Int32) < a4_51 then (sX9_setting_L95 a3_51)  s51 else (if 0 ≤ a3_51 then (sX9_setting_L95 a3_51)  s51 else xlet (xup s51 1 (upd (s51 1) 4 a4_51)) (fun s69 => xbind (sX9_inBehind p2 s69) (fun r73 s73 => xlet ((if (p1 &&& (r73 ^^^ (-1 : Int32))) = 0 then a4_51 else (-1 : Int32))) (fun y88d => (sX9_setting_L88 a4_51 self51 y88d)  s73)))))
noncomputable def sX9_setting_L28   (s28 : xS) : Option (Int32 × xS) := xbind (sX9_finding (-1000000001 : Int32) s28) (fun r31 s31 => some (r31, s31))
noncomputable def sX9_setting (p1 : Int32) (p2 : Int32) (s : xS) : Option (Int32 × xS) := xbind (sX9_within p1 (0 : Int32) (((1 : Int32) <<< ((s 1 2) &&& 31)) - (1 : Int32)) s) (fun r12 s12 => (if r12 = 0 then sX9_setting_L28  s12 else xbind (sX9_within p2 (0 : Int32) (20 : Int32) s12) (fun r22 s22 => (if r22 = 0 then sX9_setting_L28  s22 else xbind (sX9_copy 1 3 s22) (fun _ s43 => xloop (sX9_setting_L51 p1 p2) xF ((-1 : Int32), (0 : Int32)) s43)))))
set_option maxHeartbeats 4000000 in
set_option maxRecDepth 100000 in
theorem kX9_setting (l : Launch) {G : xG} (hG : xM1 G)  {p1 : Int32} {p2 : Int32}  {s : xS} {r : Int32} {s' : xS} (hf : sX9_setting p1 p2 s = some (r, s')) : xMet l G 13 yX9_setting cX9_setting 5 (some .int) [.ref (gA G 0), .int p1, .int p2] s (xI r s') := by
  refine xMet.of (by decide) (Nat.le_of_ble_eq_true rfl) ?_
  show wk l G 13 RX9 cX9_setting 5 (some .int) (xI r s') 0 [(0, .ref (gA G 0)), (1, .int p1), (2, .int p2)] [] s
  unfold sX9_setting at hf
  have J95 : ∀ (a3_51 : Int32)    (s95 : xS), (sX9_setting_L95 a3_51)  s95 = some (r, s') → wk l G 13 RX9 cX9_setting 5 (some .int) (xI r s') 95 [(0, .ref (gA G 0)), (3, .int a3_51)] [] s95 := by
    intro a3_51 s95 hf
    unfold sX9_setting_L95 at hf
    refine wk_iload_n (pc := 95) dX9_setting_95 rfl 1 rfl ?_
    refine wk_if_ge (pc := 96) (tgt := 109) dX9_setting_96 rfl hf (fun hf => ?_) (fun hf => ?_)
    · refine wk_iload_n (pc := 109) dX9_setting_109 rfl 1 rfl ?_
      exact wk_iret (pc := 110) dX9_setting_110 rfl (xI_of hf)
    · refine wk_aload_n (pc := 99) dX9_setting_99 rfl 0 rfl ?_
      refine wk_ldcw (pc := 100) (v := (-1000000002 : Int32)) dX9_setting_100 qK_X9_256 ?_
      obtain ⟨r103, s103, hc103, hf⟩ := xbind_some hf
      refine wk_callVI (pc := 103) (As := [.int (-1000000002 : Int32)]) (rest := []) (kX9_finding l hG  hc103) cw_X9_82 (by decide) dX9_setting_103 (nm_0 hG).2 (nm_0 hG).1 rfl rfl rfl (Nat.le_of_ble_eq_true rfl) ?_
      refine wk_goto (pc := 106) (tgt := 110) dX9_setting_106 rfl ?_
      exact wk_iret (pc := 110) dX9_setting_110 rfl (xI_of hf)
  have J51 : ∀   (N : Nat) (a3_51 : Int32) (a4_51 : Int32)  (s51 : xS), xloop (sX9_setting_L51 p1 p2) N (a3_51, a4_51) s51 = some (r, s') → wk l G 13 RX9 cX9_setting 5 (some .int) (xI r s') 51 [(0, .ref (gA G 0)), (1, .int p1), (2, .int p2), (3, .int a3_51), (4, .int a4_51)] [] s51 := by
    intro N
    induction N with
    | zero => intro a3_51 a4_51 s51 hf; exact (xloop_0 hf).elim
    | succ N ih51 =>
      intro a3_51 a4_51 s51 hf
      rw [xloop_s] at hf
      generalize xloop (sX9_setting_L51 p1 p2) N = self51 at hf ih51
      unfold sX9_setting_L51 at hf
      dsimp only at hf
      have J88 : ∀ (y88d : Int32)    (s88 : xS), (sX9_setting_L88 a4_51 self51 y88d)  s88 = some (r, s') → wk l G 13 RX9 cX9_setting 5 (some .int) (xI r s') 88 [(0, .ref (gA G 0)), (1, .int p1), (2, .int p2), (4, .int a4_51)] [.int y88d] s88 := by
        intro y88d s88 hf
        unfold sX9_setting_L88 at hf
        refine wk_istore_n (pc := 88) (lv' := [(3, .int y88d), (0, .ref (gA G 0)), (1, .int p1), (2, .int p2), (4, .int a4_51)]) dX9_setting_88 rfl (by decide) rfl ?_
        obtain ⟨y89, hy89, hf⟩ := xlet_some hf
        refine wk_iinc (pc := 89) (v := y89) (lv' := [(4, .int y89), (3, .int y88d), (0, .ref (gA G 0)), (1, .int p1), (2, .int p2)]) dX9_setting_89 4 rfl (by rw [hy89] <;> rfl) (by decide) rfl ?_
        refine wk_goto (pc := 92) (tgt := 51) dX9_setting_92 rfl ?_
        exact wk_lv [2, 3, 4, 1, 0] rfl (ih51 y88d y89  s88 hf)
      refine wk_iload (pc := 51) dX9_setting_51 4 rfl ?_
      refine wk_bipush (pc := 53) (v := (99 : Int32)) dX9_setting_53 (by decide) ?_
      refine wk_icmp_gt (pc := 55) (tgt := 95) dX9_setting_55 rfl hf (fun hf => ?_) (fun hf => ?_)
      · exact wk_lv [0, 3] rfl (J95 a3_51   s51 hf)
      · refine wk_iload_n (pc := 58) dX9_setting_58 rfl 3 rfl ?_
        refine wk_if_ge (pc := 59) (tgt := 95) dX9_setting_59 rfl hf (fun hf => ?_) (fun hf => ?_)
        · exact wk_lv [0, 3] rfl (J95 a3_51   s51 hf)
        · refine wk_aload_n (pc := 62) dX9_setting_62 rfl 0 rfl ?_
          refine wk_getR (C := RX9) (T := TX9) (N := 24) (pc := 63) dX9_setting_63 (nm_0 hG).2 (nm_0 hG).1 rfl qU_X9 0 (by decide) qF_X9_9 rfl ?_
          refine wk_iconst (pc := 66) (v := (4 : Int32)) dX9_setting_66 (by decide) ?_
          refine wk_iload (pc := 67) dX9_setting_67 4 rfl ?_
          refine wk_iast (pc := 69) (jj := 4) dX9_setting_69 (nm_1 hG).2 (nm_1 hG).1 (by decide) (by decide) ?_
          obtain ⟨s69, hs69, hf⟩ := xlet_some hf
          refine wk_sig hs69 ?_
          refine wk_iload_n (pc := 70) dX9_setting_70 rfl 1 rfl ?_
          refine wk_aload_n (pc := 71) dX9_setting_71 rfl 0 rfl ?_
          refine wk_iload_n (pc := 72) dX9_setting_72 rfl 2 rfl ?_
          obtain ⟨r73, s73, hc73, hf⟩ := xbind_some hf
          refine wk_callVI (pc := 73) (As := [.int p2]) (rest := [.int p1]) (kX9_inBehind l hG  hc73) cw_X9_257 (by decide) dX9_setting_73 (nm_0 hG).2 (nm_0 hG).1 rfl rfl rfl (Nat.le_of_ble_eq_true rfl) ?_
          refine wk_iconst (pc := 76) (v := (-1 : Int32)) dX9_setting_76 (by decide) ?_
          refine wk_ixor (pc := 77) dX9_setting_77 ?_
          refine wk_iand (pc := 78) dX9_setting_78 ?_
          obtain ⟨y88d, hy88d, hf⟩ := xlet_some hf
          have K88 : wk l G 13 RX9 cX9_setting 5 (some .int) (xI r s') 88 [(0, .ref (gA G 0)), (1, .int p1), (2, .int p2), (3, .int a3_51), (4, .int a4_51)] [.int y88d] s73 := by
            exact wk_lv [0, 1, 2, 4] rfl (J88 y88d   s73 hf)
          by_cases c79 : (p1 &&& (r73 ^^^ (-1 : Int32))) = 0
          · rw [if_pos c79] at hy88d
            refine wk_if_ne_p (pc := 79) (tgt := 87) dX9_setting_79 rfl c79 ?_
            refine wk_iload (pc := 82) dX9_setting_82 4 rfl ?_
            refine wk_goto (pc := 84) (tgt := 88) dX9_setting_84 rfl ?_
            exact wk_top hy88d K88
          · rw [if_neg c79] at hy88d
            refine wk_if_ne_m (pc := 79) (tgt := 87) dX9_setting_79 rfl c79 ?_
            refine wk_iconst (pc := 87) (v := (-1 : Int32)) dX9_setting_87 (by decide) ?_
            exact wk_top hy88d K88
  have J28 : ∀     (s28 : xS), sX9_setting_L28  s28 = some (r, s') → wk l G 13 RX9 cX9_setting 5 (some .int) (xI r s') 28 [(0, .ref (gA G 0))] [] s28 := by
    intro s28 hf
    unfold sX9_setting_L28 at hf
    refine wk_aload_n (pc := 28) dX9_setting_28 rfl 0 rfl ?_
    refine wk_ldc (pc := 29) (v := (-1000000001 : Int32)) dX9_setting_29 qK_X9_81 ?_
    obtain ⟨r31, s31, hc31, hf⟩ := xbind_some hf
    refine wk_callVI (pc := 31) (As := [.int (-1000000001 : Int32)]) (rest := []) (kX9_finding l hG  hc31) cw_X9_82 (by decide) dX9_setting_31 (nm_0 hG).2 (nm_0 hG).1 rfl rfl rfl (Nat.le_of_ble_eq_true rfl) ?_
    exact wk_iret (pc := 34) dX9_setting_34 rfl (xI_of hf)
  refine wk_iload_n (pc := 0) dX9_setting_0 rfl 1 rfl ?_
  refine wk_iconst (pc := 1) (v := (0 : Int32)) dX9_setting_1 (by decide) ?_
  refine wk_iconst (pc := 2) (v := (1 : Int32)) dX9_setting_2 (by decide) ?_
  refine wk_aload_n (pc := 3) dX9_setting_3 rfl 0 rfl ?_
  refine wk_getR (C := RX9) (T := TX9) (N := 24) (pc := 4) dX9_setting_4 (nm_0 hG).2 (nm_0 hG).1 rfl qU_X9 0 (by decide) qF_X9_9 rfl ?_
  refine wk_iconst (pc := 7) (v := (2 : Int32)) dX9_setting_7 (by decide) ?_
  refine wk_iald (pc := 8) (jj := 2) dX9_setting_8 (nm_1 hG).2 (nm_1 hG).1 (by decide) (by decide) ?_
  refine wk_ishl (pc := 9) dX9_setting_9 ?_
  refine wk_iconst (pc := 10) (v := (1 : Int32)) dX9_setting_10 (by decide) ?_
  refine wk_isub (pc := 11) dX9_setting_11 ?_
  obtain ⟨r12, s12, hc12, hf⟩ := xbind_some hf
  refine wk_callSI (pc := 12) (As := [.int p1, .int (0 : Int32), .int (((1 : Int32) <<< ((s 1 2) &&& 31)) - (1 : Int32))]) (rest := []) (kX9_within l hG  hc12) cw_X9_77 (by decide) dX9_setting_12 rfl (Nat.le_of_ble_eq_true rfl) ?_
  refine wk_if_eq (pc := 15) (tgt := 28) dX9_setting_15 rfl hf (fun hf => ?_) (fun hf => ?_)
  · exact wk_lv [0] rfl (J28    s12 hf)
  · refine wk_iload_n (pc := 18) dX9_setting_18 rfl 2 rfl ?_
    refine wk_iconst (pc := 19) (v := (0 : Int32)) dX9_setting_19 (by decide) ?_
    refine wk_bipush (pc := 20) (v := (20 : Int32)) dX9_setting_20 (by decide) ?_
    obtain ⟨r22, s22, hc22, hf⟩ := xbind_some hf
    refine wk_callSI (pc := 22) (As := [.int p2, .int (0 : Int32), .int (20 : Int32)]) (rest := []) (kX9_within l hG  hc22) cw_X9_77 (by decide) dX9_setting_22 rfl (Nat.le_of_ble_eq_true rfl) ?_
    refine wk_if_ne (pc := 25) (tgt := 35) dX9_setting_25 rfl hf (fun hf => ?_) (fun hf => ?_)
    · refine wk_aload_n (pc := 35) dX9_setting_35 rfl 0 rfl ?_
      refine wk_getR (C := RX9) (T := TX9) (N := 24) (pc := 36) dX9_setting_36 (nm_0 hG).2 (nm_0 hG).1 rfl qU_X9 0 (by decide) qF_X9_9 rfl ?_
      refine wk_aload_n (pc := 39) dX9_setting_39 rfl 0 rfl ?_
      refine wk_getR (C := RX9) (T := TX9) (N := 24) (pc := 40) dX9_setting_40 (nm_0 hG).2 (nm_0 hG).1 rfl qU_X9 2 (by decide) qF_X9_16 rfl ?_
      obtain ⟨⟨⟩, s43, hc43, hf⟩ := xbind_some hf
      refine wk_callSU (pc := 43) (As := [.ref (gA G 1), .ref (gA G 3)]) (rest := []) (kX9_copy l hG (nm_1 hG) (nm_3 hG) hc43) cw_X9_73 (by decide) dX9_setting_43 rfl (Nat.le_of_ble_eq_true rfl) ?_
      refine wk_iconst (pc := 46) (v := (-1 : Int32)) dX9_setting_46 (by decide) ?_
      refine wk_istore_n (pc := 47) (lv' := [(3, .int (-1 : Int32)), (0, .ref (gA G 0)), (1, .int p1), (2, .int p2)]) dX9_setting_47 rfl (by decide) rfl ?_
      refine wk_iconst (pc := 48) (v := (0 : Int32)) dX9_setting_48 (by decide) ?_
      refine wk_istore (pc := 49) (lv' := [(4, .int (0 : Int32)), (3, .int (-1 : Int32)), (0, .ref (gA G 0)), (1, .int p1), (2, .int p2)]) dX9_setting_49 (by decide) rfl ?_
      exact wk_lv [2, 3, 4, 1, 0] rfl (J51  xF (-1 : Int32) (0 : Int32)  s43 hf)
    · exact wk_lv [0] rfl (J28    s22 hf)
noncomputable def sX9_falseBy_L41 (a2_4 : Int32) (a3_4 : Int32) (self4 : Int32 × Int32 → xS → Option (Int32 × xS)) (y41d : Int32)  (s41 : xS) : Option (Int32 × xS) := xlet ((a2_4 + y41d)) (fun y42 => xlet (a3_4 + (1 : Int32)) (fun y43 => self4 (y42, y43) s41))
noncomputable def sX9_falseBy_L4 (p1 : Int32) (self4 : Int32 × Int32 → xS → Option (Int32 × xS)) : Int32 × Int32 → xS → Option (Int32 × xS) := fun (a2_4, a3_4) s4 => (if (s4 1 1) ≤ a3_4 then some (a2_4, s4) else xbind (sX9_depthIn a3_4 ((s4 1 3) - p1) s4) (fun r25 s25 => xbind (sX9_trueDepth a3_4 s25) (fun r30 s30 => xlet ((if r25 = r30 then (0 : Int32) else (1 : Int32))) (fun y41d => (sX9_falseBy_L41 a2_4 a3_4 self4 y41d)  s30))))
noncomputable def sX9_falseBy (p1 : Int32) (s : xS) : Option (Int32 × xS) := xloop (sX9_falseBy_L4 p1) xF ((0 : Int32), (0 : Int32)) s
set_option maxHeartbeats 4000000 in
set_option maxRecDepth 100000 in
theorem kX9_falseBy (l : Launch) {G : xG} (hG : xM1 G)  {p1 : Int32}  {s : xS} {r : Int32} {s' : xS} (hf : sX9_falseBy p1 s = some (r, s')) : xMet l G 8 yX9_falseBy cX9_falseBy 4 (some .int) [.ref (gA G 0), .int p1] s (xI r s') := by
  refine xMet.of (by decide) (Nat.le_of_ble_eq_true rfl) ?_
  show wk l G 8 RX9 cX9_falseBy 4 (some .int) (xI r s') 0 [(0, .ref (gA G 0)), (1, .int p1)] [] s
  unfold sX9_falseBy at hf
  have J4 : ∀   (N : Nat) (a2_4 : Int32) (a3_4 : Int32)  (s4 : xS), xloop (sX9_falseBy_L4 p1) N (a2_4, a3_4) s4 = some (r, s') → wk l G 8 RX9 cX9_falseBy 4 (some .int) (xI r s') 4 [(0, .ref (gA G 0)), (1, .int p1), (2, .int a2_4), (3, .int a3_4)] [] s4 := by
    intro N
    induction N with
    | zero => intro a2_4 a3_4 s4 hf; exact (xloop_0 hf).elim
    | succ N ih4 =>
      intro a2_4 a3_4 s4 hf
      rw [xloop_s] at hf
      generalize xloop (sX9_falseBy_L4 p1) N = self4 at hf ih4
      unfold sX9_falseBy_L4 at hf
      dsimp only at hf
      have J41 : ∀ (y41d : Int32)    (s41 : xS), (sX9_falseBy_L41 a2_4 a3_4 self4 y41d)  s41 = some (r, s') → wk l G 8 RX9 cX9_falseBy 4 (some .int) (xI r s') 41 [(0, .ref (gA G 0)), (1, .int p1), (3, .int a3_4)] [.int y41d, .int a2_4] s41 := by
        intro y41d s41 hf
        unfold sX9_falseBy_L41 at hf
        refine wk_iadd (pc := 41) dX9_falseBy_41 ?_
        obtain ⟨y42, hy42, hf⟩ := xlet_some hf
        refine wk_top hy42 ?_
        refine wk_istore_n (pc := 42) (lv' := [(2, .int y42), (0, .ref (gA G 0)), (1, .int p1), (3, .int a3_4)]) dX9_falseBy_42 rfl (by decide) rfl ?_
        obtain ⟨y43, hy43, hf⟩ := xlet_some hf
        refine wk_iinc (pc := 43) (v := y43) (lv' := [(3, .int y43), (2, .int y42), (0, .ref (gA G 0)), (1, .int p1)]) dX9_falseBy_43 3 rfl (by rw [hy43] <;> rfl) (by decide) rfl ?_
        refine wk_goto (pc := 46) (tgt := 4) dX9_falseBy_46 rfl ?_
        exact wk_lv [2, 3, 1, 0] rfl (ih4 y42 y43  s41 hf)
      refine wk_iload_n (pc := 4) dX9_falseBy_4 rfl 3 rfl ?_
      refine wk_aload_n (pc := 5) dX9_falseBy_5 rfl 0 rfl ?_
      refine wk_getR (C := RX9) (T := TX9) (N := 24) (pc := 6) dX9_falseBy_6 (nm_0 hG).2 (nm_0 hG).1 rfl qU_X9 0 (by decide) qF_X9_9 rfl ?_
      refine wk_iconst (pc := 9) (v := (1 : Int32)) dX9_falseBy_9 (by decide) ?_
      refine wk_iald (pc := 10) (jj := 1) dX9_falseBy_10 (nm_1 hG).2 (nm_1 hG).1 (by decide) (by decide) ?_
      refine wk_icmp_ge (pc := 11) (tgt := 49) dX9_falseBy_11 rfl hf (fun hf => ?_) (fun hf => ?_)
      · refine wk_iload_n (pc := 49) dX9_falseBy_49 rfl 2 rfl ?_
        exact wk_iret (pc := 50) dX9_falseBy_50 rfl (xI_of hf)
      · refine wk_iload_n (pc := 14) dX9_falseBy_14 rfl 2 rfl ?_
        refine wk_aload_n (pc := 15) dX9_falseBy_15 rfl 0 rfl ?_
        refine wk_iload_n (pc := 16) dX9_falseBy_16 rfl 3 rfl ?_
        refine wk_aload_n (pc := 17) dX9_falseBy_17 rfl 0 rfl ?_
        refine wk_getR (C := RX9) (T := TX9) (N := 24) (pc := 18) dX9_falseBy_18 (nm_0 hG).2 (nm_0 hG).1 rfl qU_X9 0 (by decide) qF_X9_9 rfl ?_
        refine wk_iconst (pc := 21) (v := (3 : Int32)) dX9_falseBy_21 (by decide) ?_
        refine wk_iald (pc := 22) (jj := 3) dX9_falseBy_22 (nm_1 hG).2 (nm_1 hG).1 (by decide) (by decide) ?_
        refine wk_iload_n (pc := 23) dX9_falseBy_23 rfl 1 rfl ?_
        refine wk_isub (pc := 24) dX9_falseBy_24 ?_
        obtain ⟨r25, s25, hc25, hf⟩ := xbind_some hf
        refine wk_callVI (pc := 25) (As := [.int a3_4, .int ((s4 1 3) - p1)]) (rest := [.int a2_4]) (kX9_depthIn l hG  hc25) cw_X9_184 (by decide) dX9_falseBy_25 (nm_0 hG).2 (nm_0 hG).1 rfl rfl rfl (Nat.le_of_ble_eq_true rfl) ?_
        refine wk_aload_n (pc := 28) dX9_falseBy_28 rfl 0 rfl ?_
        refine wk_iload_n (pc := 29) dX9_falseBy_29 rfl 3 rfl ?_
        obtain ⟨r30, s30, hc30, hf⟩ := xbind_some hf
        refine wk_callVI (pc := 30) (As := [.int a3_4]) (rest := [.int r25, .int a2_4]) (kX9_trueDepth l hG  hc30) cw_X9_194 (by decide) dX9_falseBy_30 (nm_0 hG).2 (nm_0 hG).1 rfl rfl rfl (Nat.le_of_ble_eq_true rfl) ?_
        obtain ⟨y41d, hy41d, hf⟩ := xlet_some hf
        have K41 : wk l G 8 RX9 cX9_falseBy 4 (some .int) (xI r s') 41 [(0, .ref (gA G 0)), (1, .int p1), (2, .int a2_4), (3, .int a3_4)] [.int y41d, .int a2_4] s30 := by
          exact wk_lv [0, 1, 3] rfl (J41 y41d   s30 hf)
        by_cases c33 : r25 = r30
        · rw [if_pos c33] at hy41d
          refine wk_icmp_ne_p (pc := 33) (tgt := 40) dX9_falseBy_33 rfl c33 ?_
          refine wk_iconst (pc := 36) (v := (0 : Int32)) dX9_falseBy_36 (by decide) ?_
          refine wk_goto (pc := 37) (tgt := 41) dX9_falseBy_37 rfl ?_
          exact wk_top hy41d K41
        · rw [if_neg c33] at hy41d
          refine wk_icmp_ne_m (pc := 33) (tgt := 40) dX9_falseBy_33 rfl c33 ?_
          refine wk_iconst (pc := 40) (v := (1 : Int32)) dX9_falseBy_40 (by decide) ?_
          exact wk_top hy41d K41
  refine wk_iconst (pc := 0) (v := (0 : Int32)) dX9_falseBy_0 (by decide) ?_
  refine wk_istore_n (pc := 1) (lv' := [(2, .int (0 : Int32)), (0, .ref (gA G 0)), (1, .int p1)]) dX9_falseBy_1 rfl (by decide) rfl ?_
  refine wk_iconst (pc := 2) (v := (0 : Int32)) dX9_falseBy_2 (by decide) ?_
  refine wk_istore_n (pc := 3) (lv' := [(3, .int (0 : Int32)), (2, .int (0 : Int32)), (0, .ref (gA G 0)), (1, .int p1)]) dX9_falseBy_3 rfl (by decide) rfl ?_
  exact wk_lv [2, 3, 1, 0] rfl (J4  xF (0 : Int32) (0 : Int32)  s hf)
noncomputable def sX9_leastFalse_L44 (a3_20 : Int32) (self20 : Int32 × Int32 → xS → Option (Int32 × xS)) (y44d : Int32)  (s44 : xS) : Option (Int32 × xS) := xlet (a3_20 + (1 : Int32)) (fun y45 => self20 (y44d, y45) s44)
noncomputable def sX9_leastFalse_L20 (p1 : Int32) (self20 : Int32 × Int32 → xS → Option (Int32 × xS)) : Int32 × Int32 → xS → Option (Int32 × xS) := fun (a2_20, a3_20) s20 => (if (99 : Int32) < a3_20 then (if p1 = 0 then some (a2_20, s20) else xbind (sX9_falseBy a2_20 s20) (fun r61 s61 => some (r61, s61))) else xbind (sX9_falseBy a3_20 s20) (fun r28 s28 => xbind (sX9_falseBy a2_20 s28) (fun r33 s33 => xlet ((if r33 ≤ r28 then a2_20 else a3_20)) (fun y44d => (sX9_leastFalse_L44 a3_20 self20 y44d)  s33))))
noncomputable def sX9_leastFalse (p1 : Int32) (s : xS) : Option (Int32 × xS) := xbind (sX9_within p1 (0 : Int32) (1 : Int32) s) (fun r3 s3 => (if r3 = 0 then xbind (sX9_finding (-1000000001 : Int32) s3) (fun r12 s12 => some (r12, s12)) else xloop (sX9_leastFalse_L20 p1) xF ((1 : Int32), (2 : Int32)) s3))
set_option maxHeartbeats 4000000 in
set_option maxRecDepth 100000 in
theorem kX9_leastFalse (l : Launch) {G : xG} (hG : xM1 G)  {p1 : Int32}  {s : xS} {r : Int32} {s' : xS} (hf : sX9_leastFalse p1 s = some (r, s')) : xMet l G 9 yX9_leastFalse cX9_leastFalse 4 (some .int) [.ref (gA G 0), .int p1] s (xI r s') := by
  refine xMet.of (by decide) (Nat.le_of_ble_eq_true rfl) ?_
  show wk l G 9 RX9 cX9_leastFalse 4 (some .int) (xI r s') 0 [(0, .ref (gA G 0)), (1, .int p1)] [] s
  unfold sX9_leastFalse at hf
  have J20 : ∀   (N : Nat) (a2_20 : Int32) (a3_20 : Int32)  (s20 : xS), xloop (sX9_leastFalse_L20 p1) N (a2_20, a3_20) s20 = some (r, s') → wk l G 9 RX9 cX9_leastFalse 4 (some .int) (xI r s') 20 [(0, .ref (gA G 0)), (1, .int p1), (2, .int a2_20), (3, .int a3_20)] [] s20 := by
    intro N
    induction N with
    | zero => intro a2_20 a3_20 s20 hf; exact (xloop_0 hf).elim
    | succ N ih20 =>
      intro a2_20 a3_20 s20 hf
      rw [xloop_s] at hf
      generalize xloop (sX9_leastFalse_L20 p1) N = self20 at hf ih20
      unfold sX9_leastFalse_L20 at hf
      dsimp only at hf
      have J44 : ∀ (y44d : Int32)    (s44 : xS), (sX9_leastFalse_L44 a3_20 self20 y44d)  s44 = some (r, s') → wk l G 9 RX9 cX9_leastFalse 4 (some .int) (xI r s') 44 [(0, .ref (gA G 0)), (1, .int p1), (3, .int a3_20)] [.int y44d] s44 := by
        intro y44d s44 hf
        unfold sX9_leastFalse_L44 at hf
        refine wk_istore_n (pc := 44) (lv' := [(2, .int y44d), (0, .ref (gA G 0)), (1, .int p1), (3, .int a3_20)]) dX9_leastFalse_44 rfl (by decide) rfl ?_
        obtain ⟨y45, hy45, hf⟩ := xlet_some hf
        refine wk_iinc (pc := 45) (v := y45) (lv' := [(3, .int y45), (2, .int y44d), (0, .ref (gA G 0)), (1, .int p1)]) dX9_leastFalse_45 3 rfl (by rw [hy45] <;> rfl) (by decide) rfl ?_
        refine wk_goto (pc := 48) (tgt := 20) dX9_leastFalse_48 rfl ?_
        exact wk_lv [2, 3, 1, 0] rfl (ih20 y44d y45  s44 hf)
      refine wk_iload_n (pc := 20) dX9_leastFalse_20 rfl 3 rfl ?_
      refine wk_bipush (pc := 21) (v := (99 : Int32)) dX9_leastFalse_21 (by decide) ?_
      refine wk_icmp_gt (pc := 23) (tgt := 51) dX9_leastFalse_23 rfl hf (fun hf => ?_) (fun hf => ?_)
      · refine wk_iload_n (pc := 51) dX9_leastFalse_51 rfl 1 rfl ?_
        refine wk_if_ne (pc := 52) (tgt := 59) dX9_leastFalse_52 rfl hf (fun hf => ?_) (fun hf => ?_)
        · refine wk_aload_n (pc := 59) dX9_leastFalse_59 rfl 0 rfl ?_
          refine wk_iload_n (pc := 60) dX9_leastFalse_60 rfl 2 rfl ?_
          obtain ⟨r61, s61, hc61, hf⟩ := xbind_some hf
          refine wk_callVI (pc := 61) (As := [.int a2_20]) (rest := []) (kX9_falseBy l hG  hc61) cw_X9_260 (by decide) dX9_leastFalse_61 (nm_0 hG).2 (nm_0 hG).1 rfl rfl rfl (Nat.le_of_ble_eq_true rfl) ?_
          exact wk_iret (pc := 64) dX9_leastFalse_64 rfl (xI_of hf)
        · refine wk_iload_n (pc := 55) dX9_leastFalse_55 rfl 2 rfl ?_
          refine wk_goto (pc := 56) (tgt := 64) dX9_leastFalse_56 rfl ?_
          exact wk_iret (pc := 64) dX9_leastFalse_64 rfl (xI_of hf)
      · refine wk_aload_n (pc := 26) dX9_leastFalse_26 rfl 0 rfl ?_
        refine wk_iload_n (pc := 27) dX9_leastFalse_27 rfl 3 rfl ?_
        obtain ⟨r28, s28, hc28, hf⟩ := xbind_some hf
        refine wk_callVI (pc := 28) (As := [.int a3_20]) (rest := []) (kX9_falseBy l hG  hc28) cw_X9_260 (by decide) dX9_leastFalse_28 (nm_0 hG).2 (nm_0 hG).1 rfl rfl rfl (Nat.le_of_ble_eq_true rfl) ?_
        refine wk_aload_n (pc := 31) dX9_leastFalse_31 rfl 0 rfl ?_
        refine wk_iload_n (pc := 32) dX9_leastFalse_32 rfl 2 rfl ?_
        obtain ⟨r33, s33, hc33, hf⟩ := xbind_some hf
        refine wk_callVI (pc := 33) (As := [.int a2_20]) (rest := [.int r28]) (kX9_falseBy l hG  hc33) cw_X9_260 (by decide) dX9_leastFalse_33 (nm_0 hG).2 (nm_0 hG).1 rfl rfl rfl (Nat.le_of_ble_eq_true rfl) ?_
        obtain ⟨y44d, hy44d, hf⟩ := xlet_some hf
        have K44 : wk l G 9 RX9 cX9_leastFalse 4 (some .int) (xI r s') 44 [(0, .ref (gA G 0)), (1, .int p1), (2, .int a2_20), (3, .int a3_20)] [.int y44d] s33 := by
          exact wk_lv [0, 1, 3] rfl (J44 y44d   s33 hf)
        by_cases c36 : r33 ≤ r28
        · rw [if_pos c36] at hy44d
          refine wk_icmp_ge_p (pc := 36) (tgt := 43) dX9_leastFalse_36 rfl c36 ?_
          refine wk_iload_n (pc := 43) dX9_leastFalse_43 rfl 2 rfl ?_
          exact wk_top hy44d K44
        · rw [if_neg c36] at hy44d
          refine wk_icmp_ge_m (pc := 36) (tgt := 43) dX9_leastFalse_36 rfl c36 ?_
          refine wk_iload_n (pc := 39) dX9_leastFalse_39 rfl 3 rfl ?_
          refine wk_goto (pc := 40) (tgt := 44) dX9_leastFalse_40 rfl ?_
          exact wk_top hy44d K44
  refine wk_iload_n (pc := 0) dX9_leastFalse_0 rfl 1 rfl ?_
  refine wk_iconst (pc := 1) (v := (0 : Int32)) dX9_leastFalse_1 (by decide) ?_
  refine wk_iconst (pc := 2) (v := (1 : Int32)) dX9_leastFalse_2 (by decide) ?_
  obtain ⟨r3, s3, hc3, hf⟩ := xbind_some hf
  refine wk_callSI (pc := 3) (As := [.int p1, .int (0 : Int32), .int (1 : Int32)]) (rest := []) (kX9_within l hG  hc3) cw_X9_77 (by decide) dX9_leastFalse_3 rfl (Nat.le_of_ble_eq_true rfl) ?_
  refine wk_if_ne (pc := 6) (tgt := 16) dX9_leastFalse_6 rfl hf (fun hf => ?_) (fun hf => ?_)
  · refine wk_iconst (pc := 16) (v := (1 : Int32)) dX9_leastFalse_16 (by decide) ?_
    refine wk_istore_n (pc := 17) (lv' := [(2, .int (1 : Int32)), (0, .ref (gA G 0)), (1, .int p1)]) dX9_leastFalse_17 rfl (by decide) rfl ?_
    refine wk_iconst (pc := 18) (v := (2 : Int32)) dX9_leastFalse_18 (by decide) ?_
    refine wk_istore_n (pc := 19) (lv' := [(3, .int (2 : Int32)), (2, .int (1 : Int32)), (0, .ref (gA G 0)), (1, .int p1)]) dX9_leastFalse_19 rfl (by decide) rfl ?_
    exact wk_lv [2, 3, 1, 0] rfl (J20  xF (1 : Int32) (2 : Int32)  s3 hf)
  · refine wk_aload_n (pc := 9) dX9_leastFalse_9 rfl 0 rfl ?_
    refine wk_ldc (pc := 10) (v := (-1000000001 : Int32)) dX9_leastFalse_10 qK_X9_81 ?_
    obtain ⟨r12, s12, hc12, hf⟩ := xbind_some hf
    refine wk_callVI (pc := 12) (As := [.int (-1000000001 : Int32)]) (rest := []) (kX9_finding l hG  hc12) cw_X9_82 (by decide) dX9_leastFalse_12 (nm_0 hG).2 (nm_0 hG).1 rfl rfl rfl (Nat.le_of_ble_eq_true rfl) ?_
    exact wk_iret (pc := 15) dX9_leastFalse_15 rfl (xI_of hf)
noncomputable def sX9_isShownSo_L56 (a4_5 : Int32) (self5 : Int32 × Int32 → xS → Option (Int32 × xS)) (t0_56 : Int32) (s56 : xS) : Option (Int32 × xS) := xlet (a4_5 + (1 : Int32)) (fun y57 => self5 (t0_56, y57) s56)
noncomputable def sX9_isShownSo_L51 (a4_5 : Int32) (self5 : Int32 × Int32 → xS → Option (Int32 × xS))  (s51 : xS) : Option (Int32 × xS) := (sX9_isShownSo_L56 a4_5 self5) (1 : Int32) s51
noncomputable def sX9_isShownSo_L5 (p1 : Int32) (p2 : Int32) (self5 : Int32 × Int32 → xS → Option (Int32 × xS)) : Int32 × Int32 → xS → Option (Int32 × xS) := fun (a3_5, a4_5) s5 => (if (s5 1 1) ≤ a4_5 then (if a3_5 = 0 ∨ a3_5 = 1 then some (a3_5, s5) else none) else (if xin (((40 : Int32) * p1) + a4_5) 160 then xlet ((s5 13 (((40 : Int32) * p1) + a4_5).toNatClampNeg)) (fun y28 => (if a3_5 = 0 then (sX9_isShownSo_L56 a4_5 self5) (0 : Int32) s5 else (if y28 < 0 then (sX9_isShownSo_L51 a4_5 self5)  s5 else xbind (sX9_shown a4_5 p2 s5) (fun r45 s45 => xlet ((if y28 = r45 then (1 : Int32) else (0 : Int32))) (fun y56d => (sX9_isShownSo_L56 a4_5 self5) y56d s45))))) else none))
noncomputable def sX9_isShownSo (p1 : Int32) (p2 : Int32) (s : xS) : Option (Int32 × xS) := xloop (sX9_isShownSo_L5 p1 p2) xF ((1 : Int32), (0 : Int32)) s
set_option maxHeartbeats 4000000 in
set_option maxRecDepth 100000 in
theorem kX9_isShownSo (l : Launch) {G : xG} (hG : xM1 G)  {p1 : Int32} {p2 : Int32}  {s : xS} {r : Int32} {s' : xS} (hf : sX9_isShownSo p1 p2 s = some (r, s')) : xMet l G 8 yX9_isShownSo cX9_isShownSo 6 (some .boolean) [.ref (gA G 0), .int p1, .int p2] s (xI r s') := by
  refine xMet.of (by decide) (Nat.le_of_ble_eq_true rfl) ?_
  show wk l G 8 RX9 cX9_isShownSo 6 (some .boolean) (xI r s') 0 [(0, .ref (gA G 0)), (1, .int p1), (2, .int p2)] [] s
  unfold sX9_isShownSo at hf
  have J5 : ∀   (N : Nat) (a3_5 : Int32) (a4_5 : Int32)  (s5 : xS), xloop (sX9_isShownSo_L5 p1 p2) N (a3_5, a4_5) s5 = some (r, s') → wk l G 8 RX9 cX9_isShownSo 6 (some .boolean) (xI r s') 5 [(0, .ref (gA G 0)), (1, .int p1), (2, .int p2), (3, .int a3_5), (4, .int a4_5)] [] s5 := by
    intro N
    induction N with
    | zero => intro a3_5 a4_5 s5 hf; exact (xloop_0 hf).elim
    | succ N ih5 =>
      intro a3_5 a4_5 s5 hf
      rw [xloop_s] at hf
      generalize xloop (sX9_isShownSo_L5 p1 p2) N = self5 at hf ih5
      unfold sX9_isShownSo_L5 at hf
      dsimp only at hf
      have J56 : ∀   (t0_56 : Int32)  (s56 : xS), (sX9_isShownSo_L56 a4_5 self5) t0_56 s56 = some (r, s') → wk l G 8 RX9 cX9_isShownSo 6 (some .boolean) (xI r s') 56 [(0, .ref (gA G 0)), (1, .int p1), (2, .int p2), (4, .int a4_5)] [.int t0_56] s56 := by
        intro t0_56 s56 hf
        unfold sX9_isShownSo_L56 at hf
        refine wk_istore_n (pc := 56) (lv' := [(3, .int t0_56), (0, .ref (gA G 0)), (1, .int p1), (2, .int p2), (4, .int a4_5)]) dX9_isShownSo_56 rfl (by decide) rfl ?_
        obtain ⟨y57, hy57, hf⟩ := xlet_some hf
        refine wk_iinc (pc := 57) (v := y57) (lv' := [(4, .int y57), (3, .int t0_56), (0, .ref (gA G 0)), (1, .int p1), (2, .int p2)]) dX9_isShownSo_57 4 rfl (by rw [hy57] <;> rfl) (by decide) rfl ?_
        refine wk_goto (pc := 60) (tgt := 5) dX9_isShownSo_60 rfl ?_
        exact wk_lv [2, 3, 4, 1, 0] rfl (ih5 t0_56 y57  s56 hf)
      have J51 : ∀     (s51 : xS), (sX9_isShownSo_L51 a4_5 self5)  s51 = some (r, s') → wk l G 8 RX9 cX9_isShownSo 6 (some .boolean) (xI r s') 51 [(0, .ref (gA G 0)), (1, .int p1), (2, .int p2), (4, .int a4_5)] [] s51 := by
        intro s51 hf
        unfold sX9_isShownSo_L51 at hf
        refine wk_iconst (pc := 51) (v := (1 : Int32)) dX9_isShownSo_51 (by decide) ?_
        refine wk_goto (pc := 52) (tgt := 56) dX9_isShownSo_52 rfl ?_
        exact wk_lv [0, 1, 2, 3] rfl (J56  (1 : Int32)  s51 hf)
      refine wk_iload (pc := 5) dX9_isShownSo_5 4 rfl ?_
      refine wk_aload_n (pc := 7) dX9_isShownSo_7 rfl 0 rfl ?_
      refine wk_getR (C := RX9) (T := TX9) (N := 24) (pc := 8) dX9_isShownSo_8 (nm_0 hG).2 (nm_0 hG).1 rfl qU_X9 0 (by decide) qF_X9_9 rfl ?_
      refine wk_iconst (pc := 11) (v := (1 : Int32)) dX9_isShownSo_11 (by decide) ?_
      refine wk_iald (pc := 12) (jj := 1) dX9_isShownSo_12 (nm_1 hG).2 (nm_1 hG).1 (by decide) (by decide) ?_
      refine wk_icmp_ge (pc := 13) (tgt := 63) dX9_isShownSo_13 rfl hf (fun hf => ?_) (fun hf => ?_)
      · refine wk_iload_n (pc := 63) dX9_isShownSo_63 rfl 3 rfl ?_
        obtain ⟨h64, hf⟩ := xif_some hf
        exact wk_zret (pc := 64) dX9_isShownSo_64 rfl (x01n h64) (xI_of hf)
      · refine wk_aload_n (pc := 16) dX9_isShownSo_16 rfl 0 rfl ?_
        refine wk_getR (C := RX9) (T := TX9) (N := 24) (pc := 17) dX9_isShownSo_17 (nm_0 hG).2 (nm_0 hG).1 rfl qU_X9 22 (by decide) qF_X9_53 rfl ?_
        refine wk_bipush (pc := 20) (v := (40 : Int32)) dX9_isShownSo_20 (by decide) ?_
        refine wk_iload_n (pc := 22) dX9_isShownSo_22 rfl 1 rfl ?_
        refine wk_imul (pc := 23) dX9_isShownSo_23 ?_
        refine wk_iload (pc := 24) dX9_isShownSo_24 4 rfl ?_
        refine wk_iadd (pc := 26) dX9_isShownSo_26 ?_
        obtain ⟨h27, hf⟩ := xif_some hf
        refine wk_iald (pc := 27) (jj := (((40 : Int32) * p1) + a4_5).toNatClampNeg) dX9_isShownSo_27 (nm_13 hG).2 (nm_13 hG).1 h27 rfl ?_
        obtain ⟨y28, hy28, hf⟩ := xlet_some hf
        refine wk_top hy28 ?_
        refine wk_istore (pc := 28) (lv' := [(5, .int y28), (0, .ref (gA G 0)), (1, .int p1), (2, .int p2), (3, .int a3_5), (4, .int a4_5)]) dX9_isShownSo_28 (by decide) rfl ?_
        refine wk_iload_n (pc := 30) dX9_isShownSo_30 rfl 4 rfl ?_
        refine wk_if_eq (pc := 31) (tgt := 55) dX9_isShownSo_31 rfl hf (fun hf => ?_) (fun hf => ?_)
        · refine wk_iconst (pc := 55) (v := (0 : Int32)) dX9_isShownSo_55 (by decide) ?_
          exact wk_lv [1, 2, 3, 5] rfl (J56  (0 : Int32)  s5 hf)
        · refine wk_iload (pc := 34) dX9_isShownSo_34 0 rfl ?_
          refine wk_if_lt (pc := 36) (tgt := 51) dX9_isShownSo_36 rfl hf (fun hf => ?_) (fun hf => ?_)
          · exact wk_lv [1, 2, 3, 5] rfl (J51    s5 hf)
          · refine wk_iload (pc := 39) dX9_isShownSo_39 0 rfl ?_
            refine wk_aload_n (pc := 41) dX9_isShownSo_41 rfl 1 rfl ?_
            refine wk_iload (pc := 42) dX9_isShownSo_42 5 rfl ?_
            refine wk_iload_n (pc := 44) dX9_isShownSo_44 rfl 3 rfl ?_
            obtain ⟨r45, s45, hc45, hf⟩ := xbind_some hf
            refine wk_callVI (pc := 45) (As := [.int a4_5, .int p2]) (rest := [.int y28]) (kX9_shown l hG  hc45) cw_X9_197 (by decide) dX9_isShownSo_45 (nm_0 hG).2 (nm_0 hG).1 rfl rfl rfl (Nat.le_of_ble_eq_true rfl) ?_
            obtain ⟨y56d, hy56d, hf⟩ := xlet_some hf
            have K56 : wk l G 8 RX9 cX9_isShownSo 6 (some .boolean) (xI r s') 56 [(5, .int y28), (0, .ref (gA G 0)), (1, .int p1), (2, .int p2), (3, .int a3_5), (4, .int a4_5)] [.int y56d] s45 := by
              exact wk_lv [1, 2, 3, 5] rfl (J56  y56d  s45 hf)
            by_cases c48 : y28 = r45
            · rw [if_pos c48] at hy56d
              refine wk_icmp_ne_p (pc := 48) (tgt := 55) dX9_isShownSo_48 rfl c48 ?_
              refine wk_iconst (pc := 51) (v := (1 : Int32)) dX9_isShownSo_51 (by decide) ?_
              refine wk_goto (pc := 52) (tgt := 56) dX9_isShownSo_52 rfl ?_
              exact wk_top hy56d K56
            · rw [if_neg c48] at hy56d
              refine wk_icmp_ne_m (pc := 48) (tgt := 55) dX9_isShownSo_48 rfl c48 ?_
              refine wk_iconst (pc := 55) (v := (0 : Int32)) dX9_isShownSo_55 (by decide) ?_
              exact wk_top hy56d K56
  refine wk_iconst (pc := 0) (v := (1 : Int32)) dX9_isShownSo_0 (by decide) ?_
  refine wk_istore_n (pc := 1) (lv' := [(3, .int (1 : Int32)), (0, .ref (gA G 0)), (1, .int p1), (2, .int p2)]) dX9_isShownSo_1 rfl (by decide) rfl ?_
  refine wk_iconst (pc := 2) (v := (0 : Int32)) dX9_isShownSo_2 (by decide) ?_
  refine wk_istore (pc := 3) (lv' := [(4, .int (0 : Int32)), (3, .int (1 : Int32)), (0, .ref (gA G 0)), (1, .int p1), (2, .int p2)]) dX9_isShownSo_3 (by decide) rfl ?_
  exact wk_lv [2, 3, 4, 1, 0] rfl (J5  xF (1 : Int32) (0 : Int32)  s hf)
noncomputable def sX9_isSheet (p0 : Int32) (s : xS) : Option (Int32 × xS) := xbind (sX9_within p0 (0 : Int32) (3 : Int32) s) (fun r3 s3 => (if r3 = 0 ∨ r3 = 1 then some (r3, s3) else none))
set_option maxHeartbeats 4000000 in
set_option maxRecDepth 100000 in
theorem kX9_isSheet (l : Launch) {G : xG} (hG : xM1 G)  {p0 : Int32}  {s : xS} {r : Int32} {s' : xS} (hf : sX9_isSheet p0 s = some (r, s')) : xMet l G 3 yX9_isSheet cX9_isSheet 1 (some .boolean) [.int p0] s (xI r s') := by
  refine xMet.of (by decide) (Nat.le_of_ble_eq_true rfl) ?_
  show wk l G 3 RX9 cX9_isSheet 1 (some .boolean) (xI r s') 0 [(0, .int p0)] [] s
  unfold sX9_isSheet at hf
  refine wk_iload_n (pc := 0) dX9_isSheet_0 rfl 0 rfl ?_
  refine wk_iconst (pc := 1) (v := (0 : Int32)) dX9_isSheet_1 (by decide) ?_
  refine wk_iconst (pc := 2) (v := (3 : Int32)) dX9_isSheet_2 (by decide) ?_
  obtain ⟨r3, s3, hc3, hf⟩ := xbind_some hf
  refine wk_callSI (pc := 3) (As := [.int p0, .int (0 : Int32), .int (3 : Int32)]) (rest := []) (kX9_within l hG  hc3) cw_X9_77 (by decide) dX9_isSheet_3 rfl (Nat.le_of_ble_eq_true rfl) ?_
  obtain ⟨h6, hf⟩ := xif_some hf
  exact wk_zret (pc := 6) dX9_isSheet_6 rfl (x01n h6) (xI_of hf)
noncomputable def sX9_which_L103 (a5_64 : Int32) (self64 : Int32 × Int32 × Int32 → xS → Option (Int32 × xS)) (y103d : Int32) (y90 : Int32)  (s103 : xS) : Option (Int32 × xS) := xlet (a5_64 + (-1 : Int32)) (fun y105 => self64 (y90, y103d, y105) s103)
noncomputable def sX9_which_L89 (a3_64 : Int32) (a4_64 : Int32) (a5_64 : Int32) (r73 : Int32) (self64 : Int32 × Int32 × Int32 → xS → Option (Int32 × xS)) (y89d : Int32)  (s89 : xS) : Option (Int32 × xS) := xlet ((a3_64 + y89d)) (fun y90 => xlet ((if r73 = 0 then a4_64 else a5_64)) (fun y103d => (sX9_which_L103 a5_64 self64 y103d y90)  s89))
noncomputable def sX9_which_L64 (p1 : Int32) (p2 : Int32) (self64 : Int32 × Int32 × Int32 → xS → Option (Int32 × xS)) : Int32 × Int32 × Int32 → xS → Option (Int32 × xS) := fun (a3_64, a4_64, a5_64) s64 => (if a5_64 < 0 then (if p2 = 0 then some (a3_64, s64) else (if 0 ≤ a4_64 then some (a4_64, s64) else xbind (sX9_finding (-1000000002 : Int32) s64) (fun r128 s128 => some (r128, s128)))) else xbind (sX9_isShownSo p1 a5_64 s64) (fun r73 s73 => xlet ((if r73 = 0 then (0 : Int32) else (1 : Int32))) (fun y89d => (sX9_which_L89 a3_64 a4_64 a5_64 r73 self64 y89d)  s73)))
noncomputable def sX9_which_L47   (s47 : xS) : Option (Int32 × xS) := xbind (sX9_finding (-1000000002 : Int32) s47) (fun r51 s51 => some (r51, s51))
noncomputable def sX9_which_L16   (s16 : xS) : Option (Int32 × xS) := xbind (sX9_finding (-1000000001 : Int32) s16) (fun r19 s19 => some (r19, s19))
noncomputable def sX9_which (p1 : Int32) (p2 : Int32) (s : xS) : Option (Int32 × xS) := xbind (sX9_isSheet p1 s) (fun r1 s1 => (if r1 = 0 then sX9_which_L16  s1 else xbind (sX9_within p2 (0 : Int32) (1 : Int32) s1) (fun r10 s10 => (if r10 = 0 then sX9_which_L16  s10 else (if xin p1 4 then (if (s10 11 p1.toNatClampNeg) = 0 then sX9_which_L47  s10 else (if xin p1 4 then (if (s10 12 p1.toNatClampNeg) = (s10 1 1) then xloop (sX9_which_L64 p1 p2) xF ((0 : Int32), (-1 : Int32), (99 : Int32)) s10 else sX9_which_L47  s10) else none)) else none)))))
set_option maxHeartbeats 4000000 in
set_option maxRecDepth 100000 in
theorem kX9_which (l : Launch) {G : xG} (hG : xM1 G)  {p1 : Int32} {p2 : Int32}  {s : xS} {r : Int32} {s' : xS} (hf : sX9_which p1 p2 s = some (r, s')) : xMet l G 9 yX9_which cX9_which 7 (some .int) [.ref (gA G 0), .int p1, .int p2] s (xI r s') := by
  refine xMet.of (by decide) (Nat.le_of_ble_eq_true rfl) ?_
  show wk l G 9 RX9 cX9_which 7 (some .int) (xI r s') 0 [(0, .ref (gA G 0)), (1, .int p1), (2, .int p2)] [] s
  unfold sX9_which at hf
  have J64 : ∀   (N : Nat) (a3_64 : Int32) (a4_64 : Int32) (a5_64 : Int32)  (s64 : xS), xloop (sX9_which_L64 p1 p2) N (a3_64, a4_64, a5_64) s64 = some (r, s') → wk l G 9 RX9 cX9_which 7 (some .int) (xI r s') 64 [(0, .ref (gA G 0)), (1, .int p1), (2, .int p2), (3, .int a3_64), (4, .int a4_64), (5, .int a5_64)] [] s64 := by
    intro N
    induction N with
    | zero => intro a3_64 a4_64 a5_64 s64 hf; exact (xloop_0 hf).elim
    | succ N ih64 =>
      intro a3_64 a4_64 a5_64 s64 hf
      rw [xloop_s] at hf
      generalize xloop (sX9_which_L64 p1 p2) N = self64 at hf ih64
      unfold sX9_which_L64 at hf
      dsimp only at hf
      have J103 : ∀ (y103d : Int32) (y90 : Int32)    (s103 : xS), (sX9_which_L103 a5_64 self64 y103d y90)  s103 = some (r, s') → wk l G 9 RX9 cX9_which 7 (some .int) (xI r s') 103 [(0, .ref (gA G 0)), (1, .int p1), (2, .int p2), (3, .int y90), (5, .int a5_64)] [.int y103d] s103 := by
        intro y103d y90 s103 hf
        unfold sX9_which_L103 at hf
        refine wk_istore (pc := 103) (lv' := [(4, .int y103d), (0, .ref (gA G 0)), (1, .int p1), (2, .int p2), (3, .int y90), (5, .int a5_64)]) dX9_which_103 (by decide) rfl ?_
        obtain ⟨y105, hy105, hf⟩ := xlet_some hf
        refine wk_iinc (pc := 105) (v := y105) (lv' := [(5, .int y105), (4, .int y103d), (0, .ref (gA G 0)), (1, .int p1), (2, .int p2), (3, .int y90)]) dX9_which_105 5 rfl (by rw [hy105] <;> rfl) (by decide) rfl ?_
        refine wk_goto (pc := 108) (tgt := 64) dX9_which_108 rfl ?_
        exact wk_lv [2, 3, 4, 5, 1, 0] rfl (ih64 y90 y103d y105  s103 hf)
      have J89 : ∀ (r73 : Int32) (y89d : Int32)    (s89 : xS), (sX9_which_L89 a3_64 a4_64 a5_64 r73 self64 y89d)  s89 = some (r, s') → wk l G 9 RX9 cX9_which 7 (some .int) (xI r s') 89 [(0, .ref (gA G 0)), (1, .int p1), (2, .int p2), (4, .int a4_64), (5, .int a5_64), (6, .int r73)] [.int y89d, .int a3_64] s89 := by
        intro r73 y89d s89 hf
        unfold sX9_which_L89 at hf
        refine wk_iadd (pc := 89) dX9_which_89 ?_
        obtain ⟨y90, hy90, hf⟩ := xlet_some hf
        refine wk_top hy90 ?_
        refine wk_istore_n (pc := 90) (lv' := [(3, .int y90), (0, .ref (gA G 0)), (1, .int p1), (2, .int p2), (4, .int a4_64), (5, .int a5_64), (6, .int r73)]) dX9_which_90 rfl (by decide) rfl ?_
        refine wk_iload (pc := 91) dX9_which_91 6 rfl ?_
        obtain ⟨y103d, hy103d, hf⟩ := xlet_some hf
        have K103 : wk l G 9 RX9 cX9_which 7 (some .int) (xI r s') 103 [(3, .int y90), (0, .ref (gA G 0)), (1, .int p1), (2, .int p2), (4, .int a4_64), (5, .int a5_64), (6, .int r73)] [.int y103d] s89 := by
          exact wk_lv [1, 2, 3, 0, 5] rfl (J103 y103d y90   s89 hf)
        by_cases c93 : r73 = 0
        · rw [if_pos c93] at hy103d
          refine wk_if_eq_p (pc := 93) (tgt := 101) dX9_which_93 rfl c93 ?_
          refine wk_iload (pc := 101) dX9_which_101 4 rfl ?_
          exact wk_top hy103d K103
        · rw [if_neg c93] at hy103d
          refine wk_if_eq_m (pc := 93) (tgt := 101) dX9_which_93 rfl c93 ?_
          refine wk_iload (pc := 96) dX9_which_96 5 rfl ?_
          refine wk_goto (pc := 98) (tgt := 103) dX9_which_98 rfl ?_
          exact wk_top hy103d K103
      refine wk_iload (pc := 64) dX9_which_64 5 rfl ?_
      refine wk_if_lt (pc := 66) (tgt := 111) dX9_which_66 rfl hf (fun hf => ?_) (fun hf => ?_)
      · refine wk_iload_n (pc := 111) dX9_which_111 rfl 2 rfl ?_
        refine wk_if_ne (pc := 112) (tgt := 119) dX9_which_112 rfl hf (fun hf => ?_) (fun hf => ?_)
        · refine wk_iload (pc := 119) dX9_which_119 4 rfl ?_
          refine wk_if_ge (pc := 121) (tgt := 134) dX9_which_121 rfl hf (fun hf => ?_) (fun hf => ?_)
          · refine wk_iload (pc := 134) dX9_which_134 4 rfl ?_
            exact wk_iret (pc := 136) dX9_which_136 rfl (xI_of hf)
          · refine wk_aload_n (pc := 124) dX9_which_124 rfl 0 rfl ?_
            refine wk_ldcw (pc := 125) (v := (-1000000002 : Int32)) dX9_which_125 qK_X9_256 ?_
            obtain ⟨r128, s128, hc128, hf⟩ := xbind_some hf
            refine wk_callVI (pc := 128) (As := [.int (-1000000002 : Int32)]) (rest := []) (kX9_finding l hG  hc128) cw_X9_82 (by decide) dX9_which_128 (nm_0 hG).2 (nm_0 hG).1 rfl rfl rfl (Nat.le_of_ble_eq_true rfl) ?_
            refine wk_goto (pc := 131) (tgt := 136) dX9_which_131 rfl ?_
            exact wk_iret (pc := 136) dX9_which_136 rfl (xI_of hf)
        · refine wk_iload_n (pc := 115) dX9_which_115 rfl 3 rfl ?_
          refine wk_goto (pc := 116) (tgt := 136) dX9_which_116 rfl ?_
          exact wk_iret (pc := 136) dX9_which_136 rfl (xI_of hf)
      · refine wk_aload_n (pc := 69) dX9_which_69 rfl 0 rfl ?_
        refine wk_iload_n (pc := 70) dX9_which_70 rfl 1 rfl ?_
        refine wk_iload (pc := 71) dX9_which_71 5 rfl ?_
        obtain ⟨r73, s73, hc73, hf⟩ := xbind_some hf
        refine wk_callVI (pc := 73) (As := [.int p1, .int a5_64]) (rest := []) (kX9_isShownSo l hG  hc73) cw_X9_266 (by decide) dX9_which_73 (nm_0 hG).2 (nm_0 hG).1 rfl rfl rfl (Nat.le_of_ble_eq_true rfl) ?_
        refine wk_istore (pc := 76) (lv' := [(6, .int r73), (0, .ref (gA G 0)), (1, .int p1), (2, .int p2), (3, .int a3_64), (4, .int a4_64), (5, .int a5_64)]) dX9_which_76 (by decide) rfl ?_
        refine wk_iload_n (pc := 78) dX9_which_78 rfl 4 rfl ?_
        refine wk_iload (pc := 79) dX9_which_79 0 rfl ?_
        obtain ⟨y89d, hy89d, hf⟩ := xlet_some hf
        have K89 : wk l G 9 RX9 cX9_which 7 (some .int) (xI r s') 89 [(6, .int r73), (0, .ref (gA G 0)), (1, .int p1), (2, .int p2), (3, .int a3_64), (4, .int a4_64), (5, .int a5_64)] [.int y89d, .int a3_64] s73 := by
          exact wk_lv [1, 2, 3, 5, 6, 0] rfl (J89 r73 y89d   s73 hf)
        by_cases c81 : r73 = 0
        · rw [if_pos c81] at hy89d
          refine wk_if_eq_p (pc := 81) (tgt := 88) dX9_which_81 rfl c81 ?_
          refine wk_iconst (pc := 88) (v := (0 : Int32)) dX9_which_88 (by decide) ?_
          exact wk_top hy89d K89
        · rw [if_neg c81] at hy89d
          refine wk_if_eq_m (pc := 81) (tgt := 88) dX9_which_81 rfl c81 ?_
          refine wk_iconst (pc := 84) (v := (1 : Int32)) dX9_which_84 (by decide) ?_
          refine wk_goto (pc := 85) (tgt := 89) dX9_which_85 rfl ?_
          exact wk_top hy89d K89
  have J47 : ∀     (s47 : xS), sX9_which_L47  s47 = some (r, s') → wk l G 9 RX9 cX9_which 7 (some .int) (xI r s') 47 [(0, .ref (gA G 0))] [] s47 := by
    intro s47 hf
    unfold sX9_which_L47 at hf
    refine wk_aload_n (pc := 47) dX9_which_47 rfl 0 rfl ?_
    refine wk_ldcw (pc := 48) (v := (-1000000002 : Int32)) dX9_which_48 qK_X9_256 ?_
    obtain ⟨r51, s51, hc51, hf⟩ := xbind_some hf
    refine wk_callVI (pc := 51) (As := [.int (-1000000002 : Int32)]) (rest := []) (kX9_finding l hG  hc51) cw_X9_82 (by decide) dX9_which_51 (nm_0 hG).2 (nm_0 hG).1 rfl rfl rfl (Nat.le_of_ble_eq_true rfl) ?_
    exact wk_iret (pc := 54) dX9_which_54 rfl (xI_of hf)
  have J16 : ∀     (s16 : xS), sX9_which_L16  s16 = some (r, s') → wk l G 9 RX9 cX9_which 7 (some .int) (xI r s') 16 [(0, .ref (gA G 0))] [] s16 := by
    intro s16 hf
    unfold sX9_which_L16 at hf
    refine wk_aload_n (pc := 16) dX9_which_16 rfl 0 rfl ?_
    refine wk_ldc (pc := 17) (v := (-1000000001 : Int32)) dX9_which_17 qK_X9_81 ?_
    obtain ⟨r19, s19, hc19, hf⟩ := xbind_some hf
    refine wk_callVI (pc := 19) (As := [.int (-1000000001 : Int32)]) (rest := []) (kX9_finding l hG  hc19) cw_X9_82 (by decide) dX9_which_19 (nm_0 hG).2 (nm_0 hG).1 rfl rfl rfl (Nat.le_of_ble_eq_true rfl) ?_
    exact wk_iret (pc := 22) dX9_which_22 rfl (xI_of hf)
  refine wk_iload_n (pc := 0) dX9_which_0 rfl 1 rfl ?_
  obtain ⟨r1, s1, hc1, hf⟩ := xbind_some hf
  refine wk_callSI (pc := 1) (As := [.int p1]) (rest := []) (kX9_isSheet l hG  hc1) cw_X9_263 (by decide) dX9_which_1 rfl (Nat.le_of_ble_eq_true rfl) ?_
  refine wk_if_eq (pc := 4) (tgt := 16) dX9_which_4 rfl hf (fun hf => ?_) (fun hf => ?_)
  · exact wk_lv [0] rfl (J16    s1 hf)
  · refine wk_iload_n (pc := 7) dX9_which_7 rfl 2 rfl ?_
    refine wk_iconst (pc := 8) (v := (0 : Int32)) dX9_which_8 (by decide) ?_
    refine wk_iconst (pc := 9) (v := (1 : Int32)) dX9_which_9 (by decide) ?_
    obtain ⟨r10, s10, hc10, hf⟩ := xbind_some hf
    refine wk_callSI (pc := 10) (As := [.int p2, .int (0 : Int32), .int (1 : Int32)]) (rest := []) (kX9_within l hG  hc10) cw_X9_77 (by decide) dX9_which_10 rfl (Nat.le_of_ble_eq_true rfl) ?_
    refine wk_if_ne (pc := 13) (tgt := 23) dX9_which_13 rfl hf (fun hf => ?_) (fun hf => ?_)
    · refine wk_aload_n (pc := 23) dX9_which_23 rfl 0 rfl ?_
      refine wk_getR (C := RX9) (T := TX9) (N := 24) (pc := 24) dX9_which_24 (nm_0 hG).2 (nm_0 hG).1 rfl qU_X9 20 (by decide) qF_X9_47 rfl ?_
      refine wk_iload_n (pc := 27) dX9_which_27 rfl 1 rfl ?_
      obtain ⟨h28, hf⟩ := xif_some hf
      refine wk_iald (pc := 28) (jj := p1.toNatClampNeg) dX9_which_28 (nm_11 hG).2 (nm_11 hG).1 h28 rfl ?_
      refine wk_if_eq (pc := 29) (tgt := 47) dX9_which_29 rfl hf (fun hf => ?_) (fun hf => ?_)
      · exact wk_lv [0] rfl (J47    s10 hf)
      · refine wk_aload_n (pc := 32) dX9_which_32 rfl 0 rfl ?_
        refine wk_getR (C := RX9) (T := TX9) (N := 24) (pc := 33) dX9_which_33 (nm_0 hG).2 (nm_0 hG).1 rfl qU_X9 21 (by decide) qF_X9_50 rfl ?_
        refine wk_iload_n (pc := 36) dX9_which_36 rfl 1 rfl ?_
        obtain ⟨h37, hf⟩ := xif_some hf
        refine wk_iald (pc := 37) (jj := p1.toNatClampNeg) dX9_which_37 (nm_12 hG).2 (nm_12 hG).1 h37 rfl ?_
        refine wk_aload_n (pc := 38) dX9_which_38 rfl 0 rfl ?_
        refine wk_getR (C := RX9) (T := TX9) (N := 24) (pc := 39) dX9_which_39 (nm_0 hG).2 (nm_0 hG).1 rfl qU_X9 0 (by decide) qF_X9_9 rfl ?_
        refine wk_iconst (pc := 42) (v := (1 : Int32)) dX9_which_42 (by decide) ?_
        refine wk_iald (pc := 43) (jj := 1) dX9_which_43 (nm_1 hG).2 (nm_1 hG).1 (by decide) (by decide) ?_
        refine wk_icmp_eq (pc := 44) (tgt := 55) dX9_which_44 rfl hf (fun hf => ?_) (fun hf => ?_)
        · refine wk_iconst (pc := 55) (v := (0 : Int32)) dX9_which_55 (by decide) ?_
          refine wk_istore_n (pc := 56) (lv' := [(3, .int (0 : Int32)), (0, .ref (gA G 0)), (1, .int p1), (2, .int p2)]) dX9_which_56 rfl (by decide) rfl ?_
          refine wk_iconst (pc := 57) (v := (-1 : Int32)) dX9_which_57 (by decide) ?_
          refine wk_istore (pc := 58) (lv' := [(4, .int (-1 : Int32)), (3, .int (0 : Int32)), (0, .ref (gA G 0)), (1, .int p1), (2, .int p2)]) dX9_which_58 (by decide) rfl ?_
          refine wk_bipush (pc := 60) (v := (99 : Int32)) dX9_which_60 (by decide) ?_
          refine wk_istore (pc := 62) (lv' := [(5, .int (99 : Int32)), (4, .int (-1 : Int32)), (3, .int (0 : Int32)), (0, .ref (gA G 0)), (1, .int p1), (2, .int p2)]) dX9_which_62 (by decide) rfl ?_
          exact wk_lv [3, 4, 5, 2, 1, 0] rfl (J64  xF (0 : Int32) (-1 : Int32) (99 : Int32)  s10 hf)
        · exact wk_lv [0] rfl (J47    s10 hf)
    · exact wk_lv [0] rfl (J16    s10 hf)
noncomputable def sX9_struck (p1 : Int32) (s : xS) : Option (Int32 × xS) := xbind (sX9_isCell p1 s) (fun r2 s2 => (if r2 = 0 then xbind (sX9_finding (-1000000001 : Int32) s2) (fun r11 s11 => some (r11, s11)) else xbind (sX9_copy 1 3 s2) (fun _ s23 => xbind (sX9_hoursGo (60 : Int32) s23) (fun _ s29 => xbind (sX9_lostNow  s29) (fun r34 s34 => xbind (sX9_shipsAt p1 s34) (fun r39 s39 => xbind (sX9_putBack (r34 &&& r39) s39) (fun r43 s43 => some (r43, s43))))))))
set_option maxHeartbeats 4000000 in
set_option maxRecDepth 100000 in
theorem kX9_struck (l : Launch) {G : xG} (hG : xM1 G)  {p1 : Int32}  {s : xS} {r : Int32} {s' : xS} (hf : sX9_struck p1 s = some (r, s')) : xMet l G 12 yX9_struck cX9_struck 2 (some .int) [.ref (gA G 0), .int p1] s (xI r s') := by
  refine xMet.of (by decide) (Nat.le_of_ble_eq_true rfl) ?_
  show wk l G 12 RX9 cX9_struck 2 (some .int) (xI r s') 0 [(0, .ref (gA G 0)), (1, .int p1)] [] s
  unfold sX9_struck at hf
  refine wk_aload_n (pc := 0) dX9_struck_0 rfl 0 rfl ?_
  refine wk_iload_n (pc := 1) dX9_struck_1 rfl 1 rfl ?_
  obtain ⟨r2, s2, hc2, hf⟩ := xbind_some hf
  refine wk_callVI (pc := 2) (As := [.int p1]) (rest := []) (kX9_isCell l hG  hc2) cw_X9_175 (by decide) dX9_struck_2 (nm_0 hG).2 (nm_0 hG).1 rfl rfl rfl (Nat.le_of_ble_eq_true rfl) ?_
  refine wk_if_ne (pc := 5) (tgt := 15) dX9_struck_5 rfl hf (fun hf => ?_) (fun hf => ?_)
  · refine wk_aload_n (pc := 15) dX9_struck_15 rfl 0 rfl ?_
    refine wk_getR (C := RX9) (T := TX9) (N := 24) (pc := 16) dX9_struck_16 (nm_0 hG).2 (nm_0 hG).1 rfl qU_X9 0 (by decide) qF_X9_9 rfl ?_
    refine wk_aload_n (pc := 19) dX9_struck_19 rfl 0 rfl ?_
    refine wk_getR (C := RX9) (T := TX9) (N := 24) (pc := 20) dX9_struck_20 (nm_0 hG).2 (nm_0 hG).1 rfl qU_X9 2 (by decide) qF_X9_16 rfl ?_
    obtain ⟨⟨⟩, s23, hc23, hf⟩ := xbind_some hf
    refine wk_callSU (pc := 23) (As := [.ref (gA G 1), .ref (gA G 3)]) (rest := []) (kX9_copy l hG (nm_1 hG) (nm_3 hG) hc23) cw_X9_73 (by decide) dX9_struck_23 rfl (Nat.le_of_ble_eq_true rfl) ?_
    refine wk_aload_n (pc := 26) dX9_struck_26 rfl 0 rfl ?_
    refine wk_bipush (pc := 27) (v := (60 : Int32)) dX9_struck_27 (by decide) ?_
    obtain ⟨⟨⟩, s29, hc29, hf⟩ := xbind_some hf
    refine wk_callVU (pc := 29) (As := [.int (60 : Int32)]) (rest := []) (kX9_hoursGo l hG  hc29) cw_X9_237 (by decide) dX9_struck_29 (nm_0 hG).2 (nm_0 hG).1 rfl rfl rfl (Nat.le_of_ble_eq_true rfl) ?_
    refine wk_aload_n (pc := 32) dX9_struck_32 rfl 0 rfl ?_
    refine wk_aload_n (pc := 33) dX9_struck_33 rfl 0 rfl ?_
    obtain ⟨r34, s34, hc34, hf⟩ := xbind_some hf
    refine wk_callVI (pc := 34) (As := []) (rest := [.ref (gA G 0)]) (kX9_lostNow l hG  hc34) cw_X9_253 (by decide) dX9_struck_34 (nm_0 hG).2 (nm_0 hG).1 rfl rfl rfl (Nat.le_of_ble_eq_true rfl) ?_
    refine wk_aload_n (pc := 37) dX9_struck_37 rfl 0 rfl ?_
    refine wk_iload_n (pc := 38) dX9_struck_38 rfl 1 rfl ?_
    obtain ⟨r39, s39, hc39, hf⟩ := xbind_some hf
    refine wk_callVI (pc := 39) (As := [.int p1]) (rest := [.int r34, .ref (gA G 0)]) (kX9_shipsAt l hG  hc39) cw_X9_200 (by decide) dX9_struck_39 (nm_0 hG).2 (nm_0 hG).1 rfl rfl rfl (Nat.le_of_ble_eq_true rfl) ?_
    refine wk_iand (pc := 42) dX9_struck_42 ?_
    obtain ⟨r43, s43, hc43, hf⟩ := xbind_some hf
    refine wk_callVI (pc := 43) (As := [.int (r34 &&& r39)]) (rest := []) (kX9_putBack l hG  hc43) cw_X9_250 (by decide) dX9_struck_43 (nm_0 hG).2 (nm_0 hG).1 rfl rfl rfl (Nat.le_of_ble_eq_true rfl) ?_
    exact wk_iret (pc := 46) dX9_struck_46 rfl (xI_of hf)
  · refine wk_aload_n (pc := 8) dX9_struck_8 rfl 0 rfl ?_
    refine wk_ldc (pc := 9) (v := (-1000000001 : Int32)) dX9_struck_9 qK_X9_81 ?_
    obtain ⟨r11, s11, hc11, hf⟩ := xbind_some hf
    refine wk_callVI (pc := 11) (As := [.int (-1000000001 : Int32)]) (rest := []) (kX9_finding l hG  hc11) cw_X9_82 (by decide) dX9_struck_11 (nm_0 hG).2 (nm_0 hG).1 rfl rfl rfl (Nat.le_of_ble_eq_true rfl) ?_
    exact wk_iret (pc := 14) dX9_struck_14 rfl (xI_of hf)
noncomputable def sX9_dark_L124 (a4_41 : Int32) (self41 : Int32 × Int32 → xS → Option (Int32 × xS)) (a3_124 : Int32) (s124 : xS) : Option (Int32 × xS) := xlet (a4_41 + (1 : Int32)) (fun y124 => self41 (a3_124, y124) s124)
noncomputable def sX9_dark_L123 (a4_41 : Int32) (self41 : Int32 × Int32 → xS → Option (Int32 × xS)) (y123d : Int32)  (s123 : xS) : Option (Int32 × xS) := (sX9_dark_L124 a4_41 self41) y123d s123
noncomputable def sX9_dark_L84 (p1 : Int32) (a3_41 : Int32) (a4_41 : Int32) (r32 : Int32) (self41 : Int32 × Int32 → xS → Option (Int32 × xS))  (s84 : xS) : Option (Int32 × xS) := xlet (xup s84 1 (upd (s84 1) 5 ((s84 1 5) &&& (a4_41 ^^^ (-1 : Int32))))) (fun s96 => xbind (sX9_hoursGo p1 s96) (fun _ s99 => xbind (sX9_lostNow  s99) (fun r104 s104 => xbind (sX9_bits r104 s104) (fun r107 s107 => xbind (sX9_putBack r107 s107) (fun r110 s110 => xlet ((if r32 < r110 then a3_41 else a4_41)) (fun y123d => (sX9_dark_L123 a4_41 self41 y123d)  s110))))))
noncomputable def sX9_dark_L41 (p1 : Int32) (r32 : Int32) (self41 : Int32 × Int32 → xS → Option (Int32 × xS)) : Int32 × Int32 → xS → Option (Int32 × xS) := fun (a3_41, a4_41) s41 => (if ((1 : Int32) <<< ((s41 1 1) &&& 31)) ≤ a4_41 then (if 0 ≤ a3_41 then some (a3_41, s41) else xbind (sX9_finding (-1000000002 : Int32) s41) (fun r138 s138 => some (r138, s138))) else (if (a4_41 &&& ((s41 1 5) ^^^ (-1 : Int32))) = 0 then (if a3_41 < 0 then (sX9_dark_L84 p1 a3_41 a4_41 r32 self41)  s41 else xbind (sX9_bits a4_41 s41) (fun r74 s74 => xbind (sX9_bits a3_41 s74) (fun r78 s78 => (if r78 ≤ r74 then (sX9_dark_L124 a4_41 self41) a3_41 s78 else (sX9_dark_L84 p1 a3_41 a4_41 r32 self41)  s78)))) else (sX9_dark_L124 a4_41 self41) a3_41 s41))
noncomputable def sX9_dark (p1 : Int32) (s : xS) : Option (Int32 × xS) := xbind (sX9_within p1 (0 : Int32) (20 : Int32) s) (fun r4 s4 => (if r4 = 0 then xbind (sX9_finding (-1000000001 : Int32) s4) (fun r13 s13 => some (r13, s13)) else xbind (sX9_copy 1 3 s4) (fun _ s25 => xbind (sX9_lostNow  s25) (fun r29 s29 => xbind (sX9_bits r29 s29) (fun r32 s32 => xloop (sX9_dark_L41 p1 r32) xF ((-1 : Int32), (0 : Int32)) s32)))))
set_option maxHeartbeats 4000000 in
set_option maxRecDepth 100000 in
theorem kX9_dark (l : Launch) {G : xG} (hG : xM1 G)  {p1 : Int32}  {s : xS} {r : Int32} {s' : xS} (hf : sX9_dark p1 s = some (r, s')) : xMet l G 12 yX9_dark cX9_dark 5 (some .int) [.ref (gA G 0), .int p1] s (xI r s') := by
  refine xMet.of (by decide) (Nat.le_of_ble_eq_true rfl) ?_
  show wk l G 12 RX9 cX9_dark 5 (some .int) (xI r s') 0 [(0, .ref (gA G 0)), (1, .int p1)] [] s
  unfold sX9_dark at hf
  have J41 : ∀ (r32 : Int32)  (N : Nat) (a3_41 : Int32) (a4_41 : Int32)  (s41 : xS), xloop (sX9_dark_L41 p1 r32) N (a3_41, a4_41) s41 = some (r, s') → wk l G 12 RX9 cX9_dark 5 (some .int) (xI r s') 41 [(0, .ref (gA G 0)), (1, .int p1), (2, .int r32), (3, .int a3_41), (4, .int a4_41)] [] s41 := by
    intro r32
    intro N
    induction N with
    | zero => intro a3_41 a4_41 s41 hf; exact (xloop_0 hf).elim
    | succ N ih41 =>
      intro a3_41 a4_41 s41 hf
      rw [xloop_s] at hf
      generalize xloop (sX9_dark_L41 p1 r32) N = self41 at hf ih41
      unfold sX9_dark_L41 at hf
      dsimp only at hf
      have J124 : ∀   (a3_124 : Int32)  (s124 : xS), (sX9_dark_L124 a4_41 self41) a3_124 s124 = some (r, s') → wk l G 12 RX9 cX9_dark 5 (some .int) (xI r s') 124 [(0, .ref (gA G 0)), (1, .int p1), (2, .int r32), (3, .int a3_124), (4, .int a4_41)] [] s124 := by
        intro a3_124 s124 hf
        unfold sX9_dark_L124 at hf
        obtain ⟨y124, hy124, hf⟩ := xlet_some hf
        refine wk_iinc (pc := 124) (v := y124) (lv' := [(4, .int y124), (0, .ref (gA G 0)), (1, .int p1), (2, .int r32), (3, .int a3_124)]) dX9_dark_124 4 rfl (by rw [hy124] <;> rfl) (by decide) rfl ?_
        refine wk_goto (pc := 127) (tgt := 41) dX9_dark_127 rfl ?_
        exact wk_lv [1, 2, 3, 4, 0] rfl (ih41 a3_124 y124  s124 hf)
      have J123 : ∀ (y123d : Int32)    (s123 : xS), (sX9_dark_L123 a4_41 self41 y123d)  s123 = some (r, s') → wk l G 12 RX9 cX9_dark 5 (some .int) (xI r s') 123 [(0, .ref (gA G 0)), (1, .int p1), (2, .int r32), (4, .int a4_41)] [.int y123d] s123 := by
        intro y123d s123 hf
        unfold sX9_dark_L123 at hf
        refine wk_istore_n (pc := 123) (lv' := [(3, .int y123d), (0, .ref (gA G 0)), (1, .int p1), (2, .int r32), (4, .int a4_41)]) dX9_dark_123 rfl (by decide) rfl ?_
        exact wk_lv [1, 2, 3, 0, 4] rfl (J124  y123d  s123 hf)
      have J84 : ∀     (s84 : xS), (sX9_dark_L84 p1 a3_41 a4_41 r32 self41)  s84 = some (r, s') → wk l G 12 RX9 cX9_dark 5 (some .int) (xI r s') 84 [(0, .ref (gA G 0)), (1, .int p1), (2, .int r32), (3, .int a3_41), (4, .int a4_41)] [] s84 := by
        intro s84 hf
        unfold sX9_dark_L84 at hf
        refine wk_aload_n (pc := 84) dX9_dark_84 rfl 0 rfl ?_
        refine wk_getR (C := RX9) (T := TX9) (N := 24) (pc := 85) dX9_dark_85 (nm_0 hG).2 (nm_0 hG).1 rfl qU_X9 0 (by decide) qF_X9_9 rfl ?_
        refine wk_iconst (pc := 88) (v := (5 : Int32)) dX9_dark_88 (by decide) ?_
        refine wk_dup2 (pc := 89) dX9_dark_89 rfl rfl ?_
        refine wk_iald (pc := 90) (jj := 5) dX9_dark_90 (nm_1 hG).2 (nm_1 hG).1 (by decide) (by decide) ?_
        refine wk_iload (pc := 91) dX9_dark_91 4 rfl ?_
        refine wk_iconst (pc := 93) (v := (-1 : Int32)) dX9_dark_93 (by decide) ?_
        refine wk_ixor (pc := 94) dX9_dark_94 ?_
        refine wk_iand (pc := 95) dX9_dark_95 ?_
        refine wk_iast (pc := 96) (jj := 5) dX9_dark_96 (nm_1 hG).2 (nm_1 hG).1 (by decide) (by decide) ?_
        obtain ⟨s96, hs96, hf⟩ := xlet_some hf
        refine wk_sig hs96 ?_
        refine wk_aload_n (pc := 97) dX9_dark_97 rfl 0 rfl ?_
        refine wk_iload_n (pc := 98) dX9_dark_98 rfl 1 rfl ?_
        obtain ⟨⟨⟩, s99, hc99, hf⟩ := xbind_some hf
        refine wk_callVU (pc := 99) (As := [.int p1]) (rest := []) (kX9_hoursGo l hG  hc99) cw_X9_237 (by decide) dX9_dark_99 (nm_0 hG).2 (nm_0 hG).1 rfl rfl rfl (Nat.le_of_ble_eq_true rfl) ?_
        refine wk_aload_n (pc := 102) dX9_dark_102 rfl 0 rfl ?_
        refine wk_aload_n (pc := 103) dX9_dark_103 rfl 0 rfl ?_
        obtain ⟨r104, s104, hc104, hf⟩ := xbind_some hf
        refine wk_callVI (pc := 104) (As := []) (rest := [.ref (gA G 0)]) (kX9_lostNow l hG  hc104) cw_X9_253 (by decide) dX9_dark_104 (nm_0 hG).2 (nm_0 hG).1 rfl rfl rfl (Nat.le_of_ble_eq_true rfl) ?_
        obtain ⟨r107, s107, hc107, hf⟩ := xbind_some hf
        refine wk_callSI (pc := 107) (As := [.int r104]) (rest := [.ref (gA G 0)]) (kX9_bits l hG  hc107) cw_X9_234 (by decide) dX9_dark_107 rfl (Nat.le_of_ble_eq_true rfl) ?_
        obtain ⟨r110, s110, hc110, hf⟩ := xbind_some hf
        refine wk_callVI (pc := 110) (As := [.int r107]) (rest := []) (kX9_putBack l hG  hc110) cw_X9_250 (by decide) dX9_dark_110 (nm_0 hG).2 (nm_0 hG).1 rfl rfl rfl (Nat.le_of_ble_eq_true rfl) ?_
        refine wk_iload_n (pc := 113) dX9_dark_113 rfl 2 rfl ?_
        obtain ⟨y123d, hy123d, hf⟩ := xlet_some hf
        have K123 : wk l G 12 RX9 cX9_dark 5 (some .int) (xI r s') 123 [(0, .ref (gA G 0)), (1, .int p1), (2, .int r32), (3, .int a3_41), (4, .int a4_41)] [.int y123d] s110 := by
          exact wk_lv [0, 1, 2, 4] rfl (J123 y123d   s110 hf)
        by_cases c114 : r32 < r110
        · rw [if_pos c114] at hy123d
          refine wk_icmp_gt_p (pc := 114) (tgt := 122) dX9_dark_114 rfl c114 ?_
          refine wk_iload_n (pc := 122) dX9_dark_122 rfl 3 rfl ?_
          exact wk_top hy123d K123
        · rw [if_neg c114] at hy123d
          refine wk_icmp_gt_m (pc := 114) (tgt := 122) dX9_dark_114 rfl c114 ?_
          refine wk_iload (pc := 117) dX9_dark_117 4 rfl ?_
          refine wk_goto (pc := 119) (tgt := 123) dX9_dark_119 rfl ?_
          exact wk_top hy123d K123
      refine wk_iload (pc := 41) dX9_dark_41 4 rfl ?_
      refine wk_iconst (pc := 43) (v := (1 : Int32)) dX9_dark_43 (by decide) ?_
      refine wk_aload_n (pc := 44) dX9_dark_44 rfl 0 rfl ?_
      refine wk_getR (C := RX9) (T := TX9) (N := 24) (pc := 45) dX9_dark_45 (nm_0 hG).2 (nm_0 hG).1 rfl qU_X9 0 (by decide) qF_X9_9 rfl ?_
      refine wk_iconst (pc := 48) (v := (1 : Int32)) dX9_dark_48 (by decide) ?_
      refine wk_iald (pc := 49) (jj := 1) dX9_dark_49 (nm_1 hG).2 (nm_1 hG).1 (by decide) (by decide) ?_
      refine wk_ishl (pc := 50) dX9_dark_50 ?_
      refine wk_icmp_ge (pc := 51) (tgt := 130) dX9_dark_51 rfl hf (fun hf => ?_) (fun hf => ?_)
      · refine wk_iload_n (pc := 130) dX9_dark_130 rfl 3 rfl ?_
        refine wk_if_ge (pc := 131) (tgt := 144) dX9_dark_131 rfl hf (fun hf => ?_) (fun hf => ?_)
        · refine wk_iload_n (pc := 144) dX9_dark_144 rfl 3 rfl ?_
          exact wk_iret (pc := 145) dX9_dark_145 rfl (xI_of hf)
        · refine wk_aload_n (pc := 134) dX9_dark_134 rfl 0 rfl ?_
          refine wk_ldcw (pc := 135) (v := (-1000000002 : Int32)) dX9_dark_135 qK_X9_256 ?_
          obtain ⟨r138, s138, hc138, hf⟩ := xbind_some hf
          refine wk_callVI (pc := 138) (As := [.int (-1000000002 : Int32)]) (rest := []) (kX9_finding l hG  hc138) cw_X9_82 (by decide) dX9_dark_138 (nm_0 hG).2 (nm_0 hG).1 rfl rfl rfl (Nat.le_of_ble_eq_true rfl) ?_
          refine wk_goto (pc := 141) (tgt := 145) dX9_dark_141 rfl ?_
          exact wk_iret (pc := 145) dX9_dark_145 rfl (xI_of hf)
      · refine wk_iload (pc := 54) dX9_dark_54 4 rfl ?_
        refine wk_aload_n (pc := 56) dX9_dark_56 rfl 0 rfl ?_
        refine wk_getR (C := RX9) (T := TX9) (N := 24) (pc := 57) dX9_dark_57 (nm_0 hG).2 (nm_0 hG).1 rfl qU_X9 0 (by decide) qF_X9_9 rfl ?_
        refine wk_iconst (pc := 60) (v := (5 : Int32)) dX9_dark_60 (by decide) ?_
        refine wk_iald (pc := 61) (jj := 5) dX9_dark_61 (nm_1 hG).2 (nm_1 hG).1 (by decide) (by decide) ?_
        refine wk_iconst (pc := 62) (v := (-1 : Int32)) dX9_dark_62 (by decide) ?_
        refine wk_ixor (pc := 63) dX9_dark_63 ?_
        refine wk_iand (pc := 64) dX9_dark_64 ?_
        refine wk_if_ne (pc := 65) (tgt := 124) dX9_dark_65 rfl hf (fun hf => ?_) (fun hf => ?_)
        · exact wk_lv [0, 1, 2, 3, 4] rfl (J124  a3_41  s41 hf)
        · refine wk_iload_n (pc := 68) dX9_dark_68 rfl 3 rfl ?_
          refine wk_if_lt (pc := 69) (tgt := 84) dX9_dark_69 rfl hf (fun hf => ?_) (fun hf => ?_)
          · exact wk_lv [0, 1, 2, 3, 4] rfl (J84    s41 hf)
          · refine wk_iload (pc := 72) dX9_dark_72 4 rfl ?_
            obtain ⟨r74, s74, hc74, hf⟩ := xbind_some hf
            refine wk_callSI (pc := 74) (As := [.int a4_41]) (rest := []) (kX9_bits l hG  hc74) cw_X9_234 (by decide) dX9_dark_74 rfl (Nat.le_of_ble_eq_true rfl) ?_
            refine wk_iload_n (pc := 77) dX9_dark_77 rfl 3 rfl ?_
            obtain ⟨r78, s78, hc78, hf⟩ := xbind_some hf
            refine wk_callSI (pc := 78) (As := [.int a3_41]) (rest := [.int r74]) (kX9_bits l hG  hc78) cw_X9_234 (by decide) dX9_dark_78 rfl (Nat.le_of_ble_eq_true rfl) ?_
            refine wk_icmp_ge (pc := 81) (tgt := 124) dX9_dark_81 rfl hf (fun hf => ?_) (fun hf => ?_)
            · exact wk_lv [0, 1, 2, 3, 4] rfl (J124  a3_41  s78 hf)
            · exact wk_lv [0, 1, 2, 3, 4] rfl (J84    s78 hf)
  refine wk_iload_n (pc := 0) dX9_dark_0 rfl 1 rfl ?_
  refine wk_iconst (pc := 1) (v := (0 : Int32)) dX9_dark_1 (by decide) ?_
  refine wk_bipush (pc := 2) (v := (20 : Int32)) dX9_dark_2 (by decide) ?_
  obtain ⟨r4, s4, hc4, hf⟩ := xbind_some hf
  refine wk_callSI (pc := 4) (As := [.int p1, .int (0 : Int32), .int (20 : Int32)]) (rest := []) (kX9_within l hG  hc4) cw_X9_77 (by decide) dX9_dark_4 rfl (Nat.le_of_ble_eq_true rfl) ?_
  refine wk_if_ne (pc := 7) (tgt := 17) dX9_dark_7 rfl hf (fun hf => ?_) (fun hf => ?_)
  · refine wk_aload_n (pc := 17) dX9_dark_17 rfl 0 rfl ?_
    refine wk_getR (C := RX9) (T := TX9) (N := 24) (pc := 18) dX9_dark_18 (nm_0 hG).2 (nm_0 hG).1 rfl qU_X9 0 (by decide) qF_X9_9 rfl ?_
    refine wk_aload_n (pc := 21) dX9_dark_21 rfl 0 rfl ?_
    refine wk_getR (C := RX9) (T := TX9) (N := 24) (pc := 22) dX9_dark_22 (nm_0 hG).2 (nm_0 hG).1 rfl qU_X9 2 (by decide) qF_X9_16 rfl ?_
    obtain ⟨⟨⟩, s25, hc25, hf⟩ := xbind_some hf
    refine wk_callSU (pc := 25) (As := [.ref (gA G 1), .ref (gA G 3)]) (rest := []) (kX9_copy l hG (nm_1 hG) (nm_3 hG) hc25) cw_X9_73 (by decide) dX9_dark_25 rfl (Nat.le_of_ble_eq_true rfl) ?_
    refine wk_aload_n (pc := 28) dX9_dark_28 rfl 0 rfl ?_
    obtain ⟨r29, s29, hc29, hf⟩ := xbind_some hf
    refine wk_callVI (pc := 29) (As := []) (rest := []) (kX9_lostNow l hG  hc29) cw_X9_253 (by decide) dX9_dark_29 (nm_0 hG).2 (nm_0 hG).1 rfl rfl rfl (Nat.le_of_ble_eq_true rfl) ?_
    obtain ⟨r32, s32, hc32, hf⟩ := xbind_some hf
    refine wk_callSI (pc := 32) (As := [.int r29]) (rest := []) (kX9_bits l hG  hc32) cw_X9_234 (by decide) dX9_dark_32 rfl (Nat.le_of_ble_eq_true rfl) ?_
    refine wk_istore_n (pc := 35) (lv' := [(2, .int r32), (0, .ref (gA G 0)), (1, .int p1)]) dX9_dark_35 rfl (by decide) rfl ?_
    refine wk_iconst (pc := 36) (v := (-1 : Int32)) dX9_dark_36 (by decide) ?_
    refine wk_istore_n (pc := 37) (lv' := [(3, .int (-1 : Int32)), (2, .int r32), (0, .ref (gA G 0)), (1, .int p1)]) dX9_dark_37 rfl (by decide) rfl ?_
    refine wk_iconst (pc := 38) (v := (0 : Int32)) dX9_dark_38 (by decide) ?_
    refine wk_istore (pc := 39) (lv' := [(4, .int (0 : Int32)), (3, .int (-1 : Int32)), (2, .int r32), (0, .ref (gA G 0)), (1, .int p1)]) dX9_dark_39 (by decide) rfl ?_
    exact wk_lv [3, 4, 2, 1, 0] rfl (J41 r32 xF (-1 : Int32) (0 : Int32)  s32 hf)
  · refine wk_aload_n (pc := 10) dX9_dark_10 rfl 0 rfl ?_
    refine wk_ldc (pc := 11) (v := (-1000000001 : Int32)) dX9_dark_11 qK_X9_81 ?_
    obtain ⟨r13, s13, hc13, hf⟩ := xbind_some hf
    refine wk_callVI (pc := 13) (As := [.int (-1000000001 : Int32)]) (rest := []) (kX9_finding l hG  hc13) cw_X9_82 (by decide) dX9_dark_13 (nm_0 hG).2 (nm_0 hG).1 rfl rfl rfl (Nat.le_of_ble_eq_true rfl) ?_
    exact wk_iret (pc := 16) dX9_dark_16 rfl (xI_of hf)
noncomputable def sX9_deep_L56 (a3_27 : Int32)  (s56 : xS) : Option (Int32 × xS) := (if a3_27 ≤ (99 : Int32) then some (a3_27, s56) else xbind (sX9_finding (-1000000002 : Int32) s56) (fun r66 s66 => some (r66, s66)))
noncomputable def sX9_deep_L27 (p1 : Int32) (p2 : Int32) (self27 : Int32 → xS → Option (Int32 × xS)) : Int32 → xS → Option (Int32 × xS) := fun a3_27 s27 => (if (99 : Int32) < a3_27 then (sX9_deep_L56 a3_27)  s27 else xbind (sX9_depthIn p1 ((s27 1 3) - a3_27) s27) (fun r43 s43 => (if p2 ≤ r43 then (sX9_deep_L56 a3_27)  s43 else xlet (a3_27 + (1 : Int32)) (fun y50 => self27 y50 s43))))
noncomputable def sX9_deep_L18   (s18 : xS) : Option (Int32 × xS) := xbind (sX9_finding (-1000000001 : Int32) s18) (fun r21 s21 => some (r21, s21))
noncomputable def sX9_deep (p1 : Int32) (p2 : Int32) (s : xS) : Option (Int32 × xS) := xbind (sX9_isCell p1 s) (fun r2 s2 => (if r2 = 0 then sX9_deep_L18  s2 else xbind (sX9_within p2 (0 : Int32) (19 : Int32) s2) (fun r12 s12 => (if r12 = 0 then sX9_deep_L18  s12 else xloop (sX9_deep_L27 p1 p2) xF (0 : Int32) s12))))
set_option maxHeartbeats 4000000 in
set_option maxRecDepth 100000 in
theorem kX9_deep (l : Launch) {G : xG} (hG : xM1 G)  {p1 : Int32} {p2 : Int32}  {s : xS} {r : Int32} {s' : xS} (hf : sX9_deep p1 p2 s = some (r, s')) : xMet l G 7 yX9_deep cX9_deep 4 (some .int) [.ref (gA G 0), .int p1, .int p2] s (xI r s') := by
  refine xMet.of (by decide) (Nat.le_of_ble_eq_true rfl) ?_
  show wk l G 7 RX9 cX9_deep 4 (some .int) (xI r s') 0 [(0, .ref (gA G 0)), (1, .int p1), (2, .int p2)] [] s
  unfold sX9_deep at hf
  have J56 : ∀ (a3_27 : Int32)    (s56 : xS), (sX9_deep_L56 a3_27)  s56 = some (r, s') → wk l G 7 RX9 cX9_deep 4 (some .int) (xI r s') 56 [(0, .ref (gA G 0)), (3, .int a3_27)] [] s56 := by
    intro a3_27 s56 hf
    unfold sX9_deep_L56 at hf
    refine wk_iload_n (pc := 56) dX9_deep_56 rfl 1 rfl ?_
    refine wk_bipush (pc := 57) (v := (99 : Int32)) dX9_deep_57 (by decide) ?_
    refine wk_icmp_le (pc := 59) (tgt := 72) dX9_deep_59 rfl hf (fun hf => ?_) (fun hf => ?_)
    · refine wk_iload_n (pc := 72) dX9_deep_72 rfl 1 rfl ?_
      exact wk_iret (pc := 73) dX9_deep_73 rfl (xI_of hf)
    · refine wk_aload_n (pc := 62) dX9_deep_62 rfl 0 rfl ?_
      refine wk_ldcw (pc := 63) (v := (-1000000002 : Int32)) dX9_deep_63 qK_X9_256 ?_
      obtain ⟨r66, s66, hc66, hf⟩ := xbind_some hf
      refine wk_callVI (pc := 66) (As := [.int (-1000000002 : Int32)]) (rest := []) (kX9_finding l hG  hc66) cw_X9_82 (by decide) dX9_deep_66 (nm_0 hG).2 (nm_0 hG).1 rfl rfl rfl (Nat.le_of_ble_eq_true rfl) ?_
      refine wk_goto (pc := 69) (tgt := 73) dX9_deep_69 rfl ?_
      exact wk_iret (pc := 73) dX9_deep_73 rfl (xI_of hf)
  have J27 : ∀   (N : Nat) (a3_27 : Int32)  (s27 : xS), xloop (sX9_deep_L27 p1 p2) N a3_27 s27 = some (r, s') → wk l G 7 RX9 cX9_deep 4 (some .int) (xI r s') 27 [(0, .ref (gA G 0)), (1, .int p1), (2, .int p2), (3, .int a3_27)] [] s27 := by
    intro N
    induction N with
    | zero => intro a3_27 s27 hf; exact (xloop_0 hf).elim
    | succ N ih27 =>
      intro a3_27 s27 hf
      rw [xloop_s] at hf
      generalize xloop (sX9_deep_L27 p1 p2) N = self27 at hf ih27
      unfold sX9_deep_L27 at hf
      refine wk_iload_n (pc := 27) dX9_deep_27 rfl 3 rfl ?_
      refine wk_bipush (pc := 28) (v := (99 : Int32)) dX9_deep_28 (by decide) ?_
      refine wk_icmp_gt (pc := 30) (tgt := 56) dX9_deep_30 rfl hf (fun hf => ?_) (fun hf => ?_)
      · exact wk_lv [0, 3] rfl (J56 a3_27   s27 hf)
      · refine wk_aload_n (pc := 33) dX9_deep_33 rfl 0 rfl ?_
        refine wk_iload_n (pc := 34) dX9_deep_34 rfl 1 rfl ?_
        refine wk_aload_n (pc := 35) dX9_deep_35 rfl 0 rfl ?_
        refine wk_getR (C := RX9) (T := TX9) (N := 24) (pc := 36) dX9_deep_36 (nm_0 hG).2 (nm_0 hG).1 rfl qU_X9 0 (by decide) qF_X9_9 rfl ?_
        refine wk_iconst (pc := 39) (v := (3 : Int32)) dX9_deep_39 (by decide) ?_
        refine wk_iald (pc := 40) (jj := 3) dX9_deep_40 (nm_1 hG).2 (nm_1 hG).1 (by decide) (by decide) ?_
        refine wk_iload_n (pc := 41) dX9_deep_41 rfl 3 rfl ?_
        refine wk_isub (pc := 42) dX9_deep_42 ?_
        obtain ⟨r43, s43, hc43, hf⟩ := xbind_some hf
        refine wk_callVI (pc := 43) (As := [.int p1, .int ((s27 1 3) - a3_27)]) (rest := []) (kX9_depthIn l hG  hc43) cw_X9_184 (by decide) dX9_deep_43 (nm_0 hG).2 (nm_0 hG).1 rfl rfl rfl (Nat.le_of_ble_eq_true rfl) ?_
        refine wk_iload_n (pc := 46) dX9_deep_46 rfl 2 rfl ?_
        refine wk_icmp_ge (pc := 47) (tgt := 56) dX9_deep_47 rfl hf (fun hf => ?_) (fun hf => ?_)
        · exact wk_lv [0, 3] rfl (J56 a3_27   s43 hf)
        · obtain ⟨y50, hy50, hf⟩ := xlet_some hf
          refine wk_iinc (pc := 50) (v := y50) (lv' := [(3, .int y50), (0, .ref (gA G 0)), (1, .int p1), (2, .int p2)]) dX9_deep_50 3 rfl (by rw [hy50] <;> rfl) (by decide) rfl ?_
          refine wk_goto (pc := 53) (tgt := 27) dX9_deep_53 rfl ?_
          exact wk_lv [1, 2, 3, 0] rfl (ih27 y50  s43 hf)
  have J18 : ∀     (s18 : xS), sX9_deep_L18  s18 = some (r, s') → wk l G 7 RX9 cX9_deep 4 (some .int) (xI r s') 18 [(0, .ref (gA G 0))] [] s18 := by
    intro s18 hf
    unfold sX9_deep_L18 at hf
    refine wk_aload_n (pc := 18) dX9_deep_18 rfl 0 rfl ?_
    refine wk_ldc (pc := 19) (v := (-1000000001 : Int32)) dX9_deep_19 qK_X9_81 ?_
    obtain ⟨r21, s21, hc21, hf⟩ := xbind_some hf
    refine wk_callVI (pc := 21) (As := [.int (-1000000001 : Int32)]) (rest := []) (kX9_finding l hG  hc21) cw_X9_82 (by decide) dX9_deep_21 (nm_0 hG).2 (nm_0 hG).1 rfl rfl rfl (Nat.le_of_ble_eq_true rfl) ?_
    exact wk_iret (pc := 24) dX9_deep_24 rfl (xI_of hf)
  refine wk_aload_n (pc := 0) dX9_deep_0 rfl 0 rfl ?_
  refine wk_iload_n (pc := 1) dX9_deep_1 rfl 1 rfl ?_
  obtain ⟨r2, s2, hc2, hf⟩ := xbind_some hf
  refine wk_callVI (pc := 2) (As := [.int p1]) (rest := []) (kX9_isCell l hG  hc2) cw_X9_175 (by decide) dX9_deep_2 (nm_0 hG).2 (nm_0 hG).1 rfl rfl rfl (Nat.le_of_ble_eq_true rfl) ?_
  refine wk_if_eq (pc := 5) (tgt := 18) dX9_deep_5 rfl hf (fun hf => ?_) (fun hf => ?_)
  · exact wk_lv [0] rfl (J18    s2 hf)
  · refine wk_iload_n (pc := 8) dX9_deep_8 rfl 2 rfl ?_
    refine wk_iconst (pc := 9) (v := (0 : Int32)) dX9_deep_9 (by decide) ?_
    refine wk_bipush (pc := 10) (v := (19 : Int32)) dX9_deep_10 (by decide) ?_
    obtain ⟨r12, s12, hc12, hf⟩ := xbind_some hf
    refine wk_callSI (pc := 12) (As := [.int p2, .int (0 : Int32), .int (19 : Int32)]) (rest := []) (kX9_within l hG  hc12) cw_X9_77 (by decide) dX9_deep_12 rfl (Nat.le_of_ble_eq_true rfl) ?_
    refine wk_if_ne (pc := 15) (tgt := 25) dX9_deep_15 rfl hf (fun hf => ?_) (fun hf => ?_)
    · refine wk_iconst (pc := 25) (v := (0 : Int32)) dX9_deep_25 (by decide) ?_
      refine wk_istore_n (pc := 26) (lv' := [(3, .int (0 : Int32)), (0, .ref (gA G 0)), (1, .int p1), (2, .int p2)]) dX9_deep_26 rfl (by decide) rfl ?_
      exact wk_lv [1, 2, 3, 0] rfl (J27  xF (0 : Int32)  s12 hf)
    · exact wk_lv [0] rfl (J18    s12 hf)
noncomputable def sX9_draws_L92 (a2_48 : Int32)  (s92 : xS) : Option (Int32 × xS) := (if 0 ≤ a2_48 then some (a2_48, s92) else xbind (sX9_finding (-1000000002 : Int32) s92) (fun r100 s100 => some (r100, s100)))
noncomputable def sX9_draws_L85 (a3_48 : Int32) (self48 : Int32 × Int32 → xS → Option (Int32 × xS)) (y85d : Int32)  (s85 : xS) : Option (Int32 × xS) := xlet (a3_48 + (-1 : Int32)) (fun y86 => self48 (y85d, y86) s85)
noncomputable def sX9_draws_L48 (p1 : Int32) (self48 : Int32 × Int32 → xS → Option (Int32 × xS)) : Int32 × Int32 → xS → Option (Int32 × xS) := fun (a2_48, a3_48) s48 => (if a3_48 < 0 then (sX9_draws_L92 a2_48)  s48 else (if 0 ≤ a2_48 then (sX9_draws_L92 a2_48)  s48 else xbind (sX9_shipAt p1 (2 : Int32) s48) (fun r62 s62 => (if xin r62 242 then xlet (xup s62 1 (upd (s62 1) r62.toNatClampNeg a3_48)) (fun s66 => xbind (sX9_inBehind (60 : Int32) s66) (fun r70 s70 => xbind (sX9_hasBit r70 p1 s70) (fun r74 s74 => xlet ((if r74 = 0 then (-1 : Int32) else a3_48)) (fun y85d => (sX9_draws_L85 a3_48 self48 y85d)  s74)))) else none))))
noncomputable def sX9_draws (p1 : Int32) (s : xS) : Option (Int32 × xS) := xbind (sX9_isShip p1 s) (fun r2 s2 => (if r2 = 0 then xbind (sX9_finding (-1000000001 : Int32) s2) (fun r11 s11 => some (r11, s11)) else xbind (sX9_shipIs p1 (4 : Int32) s2) (fun r18 s18 => (if r18 = (1 : Int32) then xbind (sX9_finding (-1000000003 : Int32) s18) (fun r28 s28 => some (r28, s28)) else xbind (sX9_copy 1 3 s18) (fun _ s40 => xloop (sX9_draws_L48 p1) xF ((-1 : Int32), (9 : Int32)) s40)))))
set_option maxHeartbeats 4000000 in
set_option maxRecDepth 100000 in
theorem kX9_draws (l : Launch) {G : xG} (hG : xM1 G)  {p1 : Int32}  {s : xS} {r : Int32} {s' : xS} (hf : sX9_draws p1 s = some (r, s')) : xMet l G 13 yX9_draws cX9_draws 4 (some .int) [.ref (gA G 0), .int p1] s (xI r s') := by
  refine xMet.of (by decide) (Nat.le_of_ble_eq_true rfl) ?_
  show wk l G 13 RX9 cX9_draws 4 (some .int) (xI r s') 0 [(0, .ref (gA G 0)), (1, .int p1)] [] s
  unfold sX9_draws at hf
  have J92 : ∀ (a2_48 : Int32)    (s92 : xS), (sX9_draws_L92 a2_48)  s92 = some (r, s') → wk l G 13 RX9 cX9_draws 4 (some .int) (xI r s') 92 [(0, .ref (gA G 0)), (2, .int a2_48)] [] s92 := by
    intro a2_48 s92 hf
    unfold sX9_draws_L92 at hf
    refine wk_iload_n (pc := 92) dX9_draws_92 rfl 1 rfl ?_
    refine wk_if_ge (pc := 93) (tgt := 106) dX9_draws_93 rfl hf (fun hf => ?_) (fun hf => ?_)
    · refine wk_iload_n (pc := 106) dX9_draws_106 rfl 1 rfl ?_
      exact wk_iret (pc := 107) dX9_draws_107 rfl (xI_of hf)
    · refine wk_aload_n (pc := 96) dX9_draws_96 rfl 0 rfl ?_
      refine wk_ldcw (pc := 97) (v := (-1000000002 : Int32)) dX9_draws_97 qK_X9_256 ?_
      obtain ⟨r100, s100, hc100, hf⟩ := xbind_some hf
      refine wk_callVI (pc := 100) (As := [.int (-1000000002 : Int32)]) (rest := []) (kX9_finding l hG  hc100) cw_X9_82 (by decide) dX9_draws_100 (nm_0 hG).2 (nm_0 hG).1 rfl rfl rfl (Nat.le_of_ble_eq_true rfl) ?_
      refine wk_goto (pc := 103) (tgt := 107) dX9_draws_103 rfl ?_
      exact wk_iret (pc := 107) dX9_draws_107 rfl (xI_of hf)
  have J48 : ∀   (N : Nat) (a2_48 : Int32) (a3_48 : Int32)  (s48 : xS), xloop (sX9_draws_L48 p1) N (a2_48, a3_48) s48 = some (r, s') → wk l G 13 RX9 cX9_draws 4 (some .int) (xI r s') 48 [(0, .ref (gA G 0)), (1, .int p1), (2, .int a2_48), (3, .int a3_48)] [] s48 := by
    intro N
    induction N with
    | zero => intro a2_48 a3_48 s48 hf; exact (xloop_0 hf).elim
    | succ N ih48 =>
      intro a2_48 a3_48 s48 hf
      rw [xloop_s] at hf
      generalize xloop (sX9_draws_L48 p1) N = self48 at hf ih48
      unfold sX9_draws_L48 at hf
      dsimp only at hf
      have J85 : ∀ (y85d : Int32)    (s85 : xS), (sX9_draws_L85 a3_48 self48 y85d)  s85 = some (r, s') → wk l G 13 RX9 cX9_draws 4 (some .int) (xI r s') 85 [(0, .ref (gA G 0)), (1, .int p1), (3, .int a3_48)] [.int y85d] s85 := by
        intro y85d s85 hf
        unfold sX9_draws_L85 at hf
        refine wk_istore_n (pc := 85) (lv' := [(2, .int y85d), (0, .ref (gA G 0)), (1, .int p1), (3, .int a3_48)]) dX9_draws_85 rfl (by decide) rfl ?_
        obtain ⟨y86, hy86, hf⟩ := xlet_some hf
        refine wk_iinc (pc := 86) (v := y86) (lv' := [(3, .int y86), (2, .int y85d), (0, .ref (gA G 0)), (1, .int p1)]) dX9_draws_86 3 rfl (by rw [hy86] <;> rfl) (by decide) rfl ?_
        refine wk_goto (pc := 89) (tgt := 48) dX9_draws_89 rfl ?_
        exact wk_lv [2, 3, 1, 0] rfl (ih48 y85d y86  s85 hf)
      refine wk_iload_n (pc := 48) dX9_draws_48 rfl 3 rfl ?_
      refine wk_if_lt (pc := 49) (tgt := 92) dX9_draws_49 rfl hf (fun hf => ?_) (fun hf => ?_)
      · exact wk_lv [0, 2] rfl (J92 a2_48   s48 hf)
      · refine wk_iload_n (pc := 52) dX9_draws_52 rfl 2 rfl ?_
        refine wk_if_ge (pc := 53) (tgt := 92) dX9_draws_53 rfl hf (fun hf => ?_) (fun hf => ?_)
        · exact wk_lv [0, 2] rfl (J92 a2_48   s48 hf)
        · refine wk_aload_n (pc := 56) dX9_draws_56 rfl 0 rfl ?_
          refine wk_getR (C := RX9) (T := TX9) (N := 24) (pc := 57) dX9_draws_57 (nm_0 hG).2 (nm_0 hG).1 rfl qU_X9 0 (by decide) qF_X9_9 rfl ?_
          refine wk_iload_n (pc := 60) dX9_draws_60 rfl 1 rfl ?_
          refine wk_iconst (pc := 61) (v := (2 : Int32)) dX9_draws_61 (by decide) ?_
          obtain ⟨r62, s62, hc62, hf⟩ := xbind_some hf
          refine wk_callSI (pc := 62) (As := [.int p1, .int (2 : Int32)]) (rest := [.ref (gA G 1)]) (kX9_shipAt l hG  hc62) cw_X9_168 (by decide) dX9_draws_62 rfl (Nat.le_of_ble_eq_true rfl) ?_
          refine wk_iload_n (pc := 65) dX9_draws_65 rfl 3 rfl ?_
          obtain ⟨h66, hf⟩ := xif_some hf
          refine wk_iast (pc := 66) (jj := r62.toNatClampNeg) dX9_draws_66 (nm_1 hG).2 (nm_1 hG).1 h66 rfl ?_
          obtain ⟨s66, hs66, hf⟩ := xlet_some hf
          refine wk_sig hs66 ?_
          refine wk_aload_n (pc := 67) dX9_draws_67 rfl 0 rfl ?_
          refine wk_bipush (pc := 68) (v := (60 : Int32)) dX9_draws_68 (by decide) ?_
          obtain ⟨r70, s70, hc70, hf⟩ := xbind_some hf
          refine wk_callVI (pc := 70) (As := [.int (60 : Int32)]) (rest := []) (kX9_inBehind l hG  hc70) cw_X9_257 (by decide) dX9_draws_70 (nm_0 hG).2 (nm_0 hG).1 rfl rfl rfl (Nat.le_of_ble_eq_true rfl) ?_
          refine wk_iload_n (pc := 73) dX9_draws_73 rfl 1 rfl ?_
          obtain ⟨r74, s74, hc74, hf⟩ := xbind_some hf
          refine wk_callSI (pc := 74) (As := [.int r70, .int p1]) (rest := []) (kX9_hasBit l hG  hc74) cw_X9_187 (by decide) dX9_draws_74 rfl (Nat.le_of_ble_eq_true rfl) ?_
          obtain ⟨y85d, hy85d, hf⟩ := xlet_some hf
          have K85 : wk l G 13 RX9 cX9_draws 4 (some .int) (xI r s') 85 [(0, .ref (gA G 0)), (1, .int p1), (2, .int a2_48), (3, .int a3_48)] [.int y85d] s74 := by
            exact wk_lv [0, 1, 3] rfl (J85 y85d   s74 hf)
          by_cases c77 : r74 = 0
          · rw [if_pos c77] at hy85d
            refine wk_if_eq_p (pc := 77) (tgt := 84) dX9_draws_77 rfl c77 ?_
            refine wk_iconst (pc := 84) (v := (-1 : Int32)) dX9_draws_84 (by decide) ?_
            exact wk_top hy85d K85
          · rw [if_neg c77] at hy85d
            refine wk_if_eq_m (pc := 77) (tgt := 84) dX9_draws_77 rfl c77 ?_
            refine wk_iload_n (pc := 80) dX9_draws_80 rfl 3 rfl ?_
            refine wk_goto (pc := 81) (tgt := 85) dX9_draws_81 rfl ?_
            exact wk_top hy85d K85
  refine wk_aload_n (pc := 0) dX9_draws_0 rfl 0 rfl ?_
  refine wk_iload_n (pc := 1) dX9_draws_1 rfl 1 rfl ?_
  obtain ⟨r2, s2, hc2, hf⟩ := xbind_some hf
  refine wk_callVI (pc := 2) (As := [.int p1]) (rest := []) (kX9_isShip l hG  hc2) cw_X9_218 (by decide) dX9_draws_2 (nm_0 hG).2 (nm_0 hG).1 rfl rfl rfl (Nat.le_of_ble_eq_true rfl) ?_
  refine wk_if_ne (pc := 5) (tgt := 15) dX9_draws_5 rfl hf (fun hf => ?_) (fun hf => ?_)
  · refine wk_aload_n (pc := 15) dX9_draws_15 rfl 0 rfl ?_
    refine wk_iload_n (pc := 16) dX9_draws_16 rfl 1 rfl ?_
    refine wk_iconst (pc := 17) (v := (4 : Int32)) dX9_draws_17 (by decide) ?_
    obtain ⟨r18, s18, hc18, hf⟩ := xbind_some hf
    refine wk_callVI (pc := 18) (As := [.int p1, .int (4 : Int32)]) (rest := []) (kX9_shipIs l hG  hc18) cw_X9_191 (by decide) dX9_draws_18 (nm_0 hG).2 (nm_0 hG).1 rfl rfl rfl (Nat.le_of_ble_eq_true rfl) ?_
    refine wk_iconst (pc := 21) (v := (1 : Int32)) dX9_draws_21 (by decide) ?_
    refine wk_icmp_ne (pc := 22) (tgt := 32) dX9_draws_22 rfl hf (fun hf => ?_) (fun hf => ?_)
    · refine wk_aload_n (pc := 32) dX9_draws_32 rfl 0 rfl ?_
      refine wk_getR (C := RX9) (T := TX9) (N := 24) (pc := 33) dX9_draws_33 (nm_0 hG).2 (nm_0 hG).1 rfl qU_X9 0 (by decide) qF_X9_9 rfl ?_
      refine wk_aload_n (pc := 36) dX9_draws_36 rfl 0 rfl ?_
      refine wk_getR (C := RX9) (T := TX9) (N := 24) (pc := 37) dX9_draws_37 (nm_0 hG).2 (nm_0 hG).1 rfl qU_X9 2 (by decide) qF_X9_16 rfl ?_
      obtain ⟨⟨⟩, s40, hc40, hf⟩ := xbind_some hf
      refine wk_callSU (pc := 40) (As := [.ref (gA G 1), .ref (gA G 3)]) (rest := []) (kX9_copy l hG (nm_1 hG) (nm_3 hG) hc40) cw_X9_73 (by decide) dX9_draws_40 rfl (Nat.le_of_ble_eq_true rfl) ?_
      refine wk_iconst (pc := 43) (v := (-1 : Int32)) dX9_draws_43 (by decide) ?_
      refine wk_istore_n (pc := 44) (lv' := [(2, .int (-1 : Int32)), (0, .ref (gA G 0)), (1, .int p1)]) dX9_draws_44 rfl (by decide) rfl ?_
      refine wk_bipush (pc := 45) (v := (9 : Int32)) dX9_draws_45 (by decide) ?_
      refine wk_istore_n (pc := 47) (lv' := [(3, .int (9 : Int32)), (2, .int (-1 : Int32)), (0, .ref (gA G 0)), (1, .int p1)]) dX9_draws_47 rfl (by decide) rfl ?_
      exact wk_lv [2, 3, 1, 0] rfl (J48  xF (-1 : Int32) (9 : Int32)  s40 hf)
    · refine wk_aload_n (pc := 25) dX9_draws_25 rfl 0 rfl ?_
      refine wk_ldc (pc := 26) (v := (-1000000003 : Int32)) dX9_draws_26 qK_X9_174 ?_
      obtain ⟨r28, s28, hc28, hf⟩ := xbind_some hf
      refine wk_callVI (pc := 28) (As := [.int (-1000000003 : Int32)]) (rest := []) (kX9_finding l hG  hc28) cw_X9_82 (by decide) dX9_draws_28 (nm_0 hG).2 (nm_0 hG).1 rfl rfl rfl (Nat.le_of_ble_eq_true rfl) ?_
      exact wk_iret (pc := 31) dX9_draws_31 rfl (xI_of hf)
  · refine wk_aload_n (pc := 8) dX9_draws_8 rfl 0 rfl ?_
    refine wk_ldc (pc := 9) (v := (-1000000001 : Int32)) dX9_draws_9 qK_X9_81 ?_
    obtain ⟨r11, s11, hc11, hf⟩ := xbind_some hf
    refine wk_callVI (pc := 11) (As := [.int (-1000000001 : Int32)]) (rest := []) (kX9_finding l hG  hc11) cw_X9_82 (by decide) dX9_draws_11 (nm_0 hG).2 (nm_0 hG).1 rfl rfl rfl (Nat.le_of_ble_eq_true rfl) ?_
    exact wk_iret (pc := 14) dX9_draws_14 rfl (xI_of hf)
noncomputable def sX9_traffic_L116 (y116d : Int32)  (s116 : xS) : Option (Int32 × xS) := xbind (sX9_putBack y116d s116) (fun r116 s116 => some (r116, s116))
noncomputable def sX9_traffic_L89 (a4_47 : Int32) (a5_47 : Int32) (r71 : Int32) (self47 : Int32 × Int32 × Int32 → xS → Option (Int32 × xS)) (y89d : Int32)  (s89 : xS) : Option (Int32 × xS) := xlet ((if a4_47 < r71 then r71 else a4_47)) (fun y97 => xlet (a5_47 + (1 : Int32)) (fun y99 => self47 (y89d, y97, y99) s89))
noncomputable def sX9_traffic_L47 (p2 : Int32) (self47 : Int32 × Int32 × Int32 → xS → Option (Int32 × xS)) : Int32 × Int32 × Int32 → xS → Option (Int32 × xS) := fun (a3_47, a4_47, a5_47) s47 => (if (s47 1 1) ≤ a5_47 then xlet ((if p2 = 0 then a3_47 else a4_47)) (fun y116d => (sX9_traffic_L116 y116d)  s47) else xbind (sX9_shipsAt a5_47 s47) (fun r61 s61 => xbind (sX9_lostNow  s61) (fun r65 s65 => xbind (sX9_bits (r61 &&& (r65 ^^^ (-1 : Int32))) s65) (fun r71 s71 => xlet ((if r71 ≤ a4_47 then a3_47 else a5_47)) (fun y89d => (sX9_traffic_L89 a4_47 a5_47 r71 self47 y89d)  s71)))))
noncomputable def sX9_traffic_L16   (s16 : xS) : Option (Int32 × xS) := xbind (sX9_finding (-1000000001 : Int32) s16) (fun r19 s19 => some (r19, s19))
noncomputable def sX9_traffic (p1 : Int32) (p2 : Int32) (s : xS) : Option (Int32 × xS) := xbind (sX9_isBehind p1 s) (fun r1 s1 => (if r1 = 0 then sX9_traffic_L16  s1 else xbind (sX9_within p2 (0 : Int32) (1 : Int32) s1) (fun r10 s10 => (if r10 = 0 then sX9_traffic_L16  s10 else xbind (sX9_copy 1 3 s10) (fun _ s31 => xbind (sX9_hoursGo p1 s31) (fun _ s36 => xloop (sX9_traffic_L47 p2) xF ((0 : Int32), (-1 : Int32), (0 : Int32)) s36))))))
set_option maxHeartbeats 4000000 in
set_option maxRecDepth 100000 in
theorem kX9_traffic (l : Launch) {G : xG} (hG : xM1 G)  {p1 : Int32} {p2 : Int32}  {s : xS} {r : Int32} {s' : xS} (hf : sX9_traffic p1 p2 s = some (r, s')) : xMet l G 12 yX9_traffic cX9_traffic 7 (some .int) [.ref (gA G 0), .int p1, .int p2] s (xI r s') := by
  refine xMet.of (by decide) (Nat.le_of_ble_eq_true rfl) ?_
  show wk l G 12 RX9 cX9_traffic 7 (some .int) (xI r s') 0 [(0, .ref (gA G 0)), (1, .int p1), (2, .int p2)] [] s
  unfold sX9_traffic at hf
  have J116 : ∀ (y116d : Int32)    (s116 : xS), (sX9_traffic_L116 y116d)  s116 = some (r, s') → wk l G 12 RX9 cX9_traffic 7 (some .int) (xI r s') 116 [] [.int y116d, .ref (gA G 0)] s116 := by
    intro y116d s116 hf
    unfold sX9_traffic_L116 at hf
    obtain ⟨r116, s116, hc116, hf⟩ := xbind_some hf
    refine wk_callVI (pc := 116) (As := [.int y116d]) (rest := []) (kX9_putBack l hG  hc116) cw_X9_250 (by decide) dX9_traffic_116 (nm_0 hG).2 (nm_0 hG).1 rfl rfl rfl (Nat.le_of_ble_eq_true rfl) ?_
    exact wk_iret (pc := 119) dX9_traffic_119 rfl (xI_of hf)
  have J47 : ∀   (N : Nat) (a3_47 : Int32) (a4_47 : Int32) (a5_47 : Int32)  (s47 : xS), xloop (sX9_traffic_L47 p2) N (a3_47, a4_47, a5_47) s47 = some (r, s') → wk l G 12 RX9 cX9_traffic 7 (some .int) (xI r s') 47 [(0, .ref (gA G 0)), (2, .int p2), (3, .int a3_47), (4, .int a4_47), (5, .int a5_47)] [] s47 := by
    intro N
    induction N with
    | zero => intro a3_47 a4_47 a5_47 s47 hf; exact (xloop_0 hf).elim
    | succ N ih47 =>
      intro a3_47 a4_47 a5_47 s47 hf
      rw [xloop_s] at hf
      generalize xloop (sX9_traffic_L47 p2) N = self47 at hf ih47
      unfold sX9_traffic_L47 at hf
      dsimp only at hf
      have J89 : ∀ (r71 : Int32) (y89d : Int32)    (s89 : xS), (sX9_traffic_L89 a4_47 a5_47 r71 self47 y89d)  s89 = some (r, s') → wk l G 12 RX9 cX9_traffic 7 (some .int) (xI r s') 89 [(0, .ref (gA G 0)), (2, .int p2), (4, .int a4_47), (5, .int a5_47), (6, .int r71)] [.int y89d] s89 := by
        intro r71 y89d s89 hf
        unfold sX9_traffic_L89 at hf
        refine wk_istore_n (pc := 89) (lv' := [(3, .int y89d), (0, .ref (gA G 0)), (2, .int p2), (4, .int a4_47), (5, .int a5_47), (6, .int r71)]) dX9_traffic_89 rfl (by decide) rfl ?_
        refine wk_iload (pc := 90) dX9_traffic_90 3 rfl ?_
        refine wk_iload (pc := 92) dX9_traffic_92 5 rfl ?_
        refine wk_mmax (pc := 94) dX9_traffic_94 qM_X9_70 qS_Mmax qJ_Math qC_Mmax (by decide) (Nat.le_of_ble_eq_true rfl) ?_
        obtain ⟨y97, hy97, hf⟩ := xlet_some hf
        refine wk_top hy97 ?_
        refine wk_istore (pc := 97) (lv' := [(4, .int y97), (3, .int y89d), (0, .ref (gA G 0)), (2, .int p2), (5, .int a5_47), (6, .int r71)]) dX9_traffic_97 (by decide) rfl ?_
        obtain ⟨y99, hy99, hf⟩ := xlet_some hf
        refine wk_iinc (pc := 99) (v := y99) (lv' := [(5, .int y99), (4, .int y97), (3, .int y89d), (0, .ref (gA G 0)), (2, .int p2), (6, .int r71)]) dX9_traffic_99 4 rfl (by rw [hy99] <;> rfl) (by decide) rfl ?_
        refine wk_goto (pc := 102) (tgt := 47) dX9_traffic_102 rfl ?_
        exact wk_lv [3, 4, 2, 1, 0] rfl (ih47 y89d y97 y99  s89 hf)
      refine wk_iload (pc := 47) dX9_traffic_47 4 rfl ?_
      refine wk_aload_n (pc := 49) dX9_traffic_49 rfl 0 rfl ?_
      refine wk_getR (C := RX9) (T := TX9) (N := 24) (pc := 50) dX9_traffic_50 (nm_0 hG).2 (nm_0 hG).1 rfl qU_X9 0 (by decide) qF_X9_9 rfl ?_
      refine wk_iconst (pc := 53) (v := (1 : Int32)) dX9_traffic_53 (by decide) ?_
      refine wk_iald (pc := 54) (jj := 1) dX9_traffic_54 (nm_1 hG).2 (nm_1 hG).1 (by decide) (by decide) ?_
      refine wk_icmp_ge (pc := 55) (tgt := 105) dX9_traffic_55 rfl hf (fun hf => ?_) (fun hf => ?_)
      · refine wk_aload_n (pc := 105) dX9_traffic_105 rfl 0 rfl ?_
        refine wk_iload_n (pc := 106) dX9_traffic_106 rfl 1 rfl ?_
        obtain ⟨y116d, hy116d, hf⟩ := xlet_some hf
        have K116 : wk l G 12 RX9 cX9_traffic 7 (some .int) (xI r s') 116 [(0, .ref (gA G 0)), (2, .int p2), (3, .int a3_47), (4, .int a4_47), (5, .int a5_47)] [.int y116d, .ref (gA G 0)] s47 := by
          exact wk_lv [] rfl (J116 y116d   s47 hf)
        by_cases c107 : p2 = 0
        · rw [if_pos c107] at hy116d
          refine wk_if_ne_p (pc := 107) (tgt := 114) dX9_traffic_107 rfl c107 ?_
          refine wk_iload_n (pc := 110) dX9_traffic_110 rfl 2 rfl ?_
          refine wk_goto (pc := 111) (tgt := 116) dX9_traffic_111 rfl ?_
          exact wk_top hy116d K116
        · rw [if_neg c107] at hy116d
          refine wk_if_ne_m (pc := 107) (tgt := 114) dX9_traffic_107 rfl c107 ?_
          refine wk_iload (pc := 114) dX9_traffic_114 3 rfl ?_
          exact wk_top hy116d K116
      · refine wk_aload_n (pc := 58) dX9_traffic_58 rfl 0 rfl ?_
        refine wk_iload (pc := 59) dX9_traffic_59 4 rfl ?_
        obtain ⟨r61, s61, hc61, hf⟩ := xbind_some hf
        refine wk_callVI (pc := 61) (As := [.int a5_47]) (rest := []) (kX9_shipsAt l hG  hc61) cw_X9_200 (by decide) dX9_traffic_61 (nm_0 hG).2 (nm_0 hG).1 rfl rfl rfl (Nat.le_of_ble_eq_true rfl) ?_
        refine wk_aload_n (pc := 64) dX9_traffic_64 rfl 0 rfl ?_
        obtain ⟨r65, s65, hc65, hf⟩ := xbind_some hf
        refine wk_callVI (pc := 65) (As := []) (rest := [.int r61]) (kX9_lostNow l hG  hc65) cw_X9_253 (by decide) dX9_traffic_65 (nm_0 hG).2 (nm_0 hG).1 rfl rfl rfl (Nat.le_of_ble_eq_true rfl) ?_
        refine wk_iconst (pc := 68) (v := (-1 : Int32)) dX9_traffic_68 (by decide) ?_
        refine wk_ixor (pc := 69) dX9_traffic_69 ?_
        refine wk_iand (pc := 70) dX9_traffic_70 ?_
        obtain ⟨r71, s71, hc71, hf⟩ := xbind_some hf
        refine wk_callSI (pc := 71) (As := [.int (r61 &&& (r65 ^^^ (-1 : Int32)))]) (rest := []) (kX9_bits l hG  hc71) cw_X9_234 (by decide) dX9_traffic_71 rfl (Nat.le_of_ble_eq_true rfl) ?_
        refine wk_istore (pc := 74) (lv' := [(6, .int r71), (0, .ref (gA G 0)), (2, .int p2), (3, .int a3_47), (4, .int a4_47), (5, .int a5_47)]) dX9_traffic_74 (by decide) rfl ?_
        refine wk_iload (pc := 76) dX9_traffic_76 0 rfl ?_
        refine wk_iload (pc := 78) dX9_traffic_78 4 rfl ?_
        obtain ⟨y89d, hy89d, hf⟩ := xlet_some hf
        have K89 : wk l G 12 RX9 cX9_traffic 7 (some .int) (xI r s') 89 [(6, .int r71), (0, .ref (gA G 0)), (2, .int p2), (3, .int a3_47), (4, .int a4_47), (5, .int a5_47)] [.int y89d] s71 := by
          exact wk_lv [1, 2, 4, 5, 0] rfl (J89 r71 y89d   s71 hf)
        by_cases c80 : r71 ≤ a4_47
        · rw [if_pos c80] at hy89d
          refine wk_icmp_le_p (pc := 80) (tgt := 88) dX9_traffic_80 rfl c80 ?_
          refine wk_iload_n (pc := 88) dX9_traffic_88 rfl 3 rfl ?_
          exact wk_top hy89d K89
        · rw [if_neg c80] at hy89d
          refine wk_icmp_le_m (pc := 80) (tgt := 88) dX9_traffic_80 rfl c80 ?_
          refine wk_iload (pc := 83) dX9_traffic_83 5 rfl ?_
          refine wk_goto (pc := 85) (tgt := 89) dX9_traffic_85 rfl ?_
          exact wk_top hy89d K89
  have J16 : ∀     (s16 : xS), sX9_traffic_L16  s16 = some (r, s') → wk l G 12 RX9 cX9_traffic 7 (some .int) (xI r s') 16 [(0, .ref (gA G 0))] [] s16 := by
    intro s16 hf
    unfold sX9_traffic_L16 at hf
    refine wk_aload_n (pc := 16) dX9_traffic_16 rfl 0 rfl ?_
    refine wk_ldc (pc := 17) (v := (-1000000001 : Int32)) dX9_traffic_17 qK_X9_81 ?_
    obtain ⟨r19, s19, hc19, hf⟩ := xbind_some hf
    refine wk_callVI (pc := 19) (As := [.int (-1000000001 : Int32)]) (rest := []) (kX9_finding l hG  hc19) cw_X9_82 (by decide) dX9_traffic_19 (nm_0 hG).2 (nm_0 hG).1 rfl rfl rfl (Nat.le_of_ble_eq_true rfl) ?_
    exact wk_iret (pc := 22) dX9_traffic_22 rfl (xI_of hf)
  refine wk_iload_n (pc := 0) dX9_traffic_0 rfl 1 rfl ?_
  obtain ⟨r1, s1, hc1, hf⟩ := xbind_some hf
  refine wk_callSI (pc := 1) (As := [.int p1]) (rest := []) (kX9_isBehind l hG  hc1) cw_X9_247 (by decide) dX9_traffic_1 rfl (Nat.le_of_ble_eq_true rfl) ?_
  refine wk_if_eq (pc := 4) (tgt := 16) dX9_traffic_4 rfl hf (fun hf => ?_) (fun hf => ?_)
  · exact wk_lv [0] rfl (J16    s1 hf)
  · refine wk_iload_n (pc := 7) dX9_traffic_7 rfl 2 rfl ?_
    refine wk_iconst (pc := 8) (v := (0 : Int32)) dX9_traffic_8 (by decide) ?_
    refine wk_iconst (pc := 9) (v := (1 : Int32)) dX9_traffic_9 (by decide) ?_
    obtain ⟨r10, s10, hc10, hf⟩ := xbind_some hf
    refine wk_callSI (pc := 10) (As := [.int p2, .int (0 : Int32), .int (1 : Int32)]) (rest := []) (kX9_within l hG  hc10) cw_X9_77 (by decide) dX9_traffic_10 rfl (Nat.le_of_ble_eq_true rfl) ?_
    refine wk_if_ne (pc := 13) (tgt := 23) dX9_traffic_13 rfl hf (fun hf => ?_) (fun hf => ?_)
    · refine wk_aload_n (pc := 23) dX9_traffic_23 rfl 0 rfl ?_
      refine wk_getR (C := RX9) (T := TX9) (N := 24) (pc := 24) dX9_traffic_24 (nm_0 hG).2 (nm_0 hG).1 rfl qU_X9 0 (by decide) qF_X9_9 rfl ?_
      refine wk_aload_n (pc := 27) dX9_traffic_27 rfl 0 rfl ?_
      refine wk_getR (C := RX9) (T := TX9) (N := 24) (pc := 28) dX9_traffic_28 (nm_0 hG).2 (nm_0 hG).1 rfl qU_X9 2 (by decide) qF_X9_16 rfl ?_
      obtain ⟨⟨⟩, s31, hc31, hf⟩ := xbind_some hf
      refine wk_callSU (pc := 31) (As := [.ref (gA G 1), .ref (gA G 3)]) (rest := []) (kX9_copy l hG (nm_1 hG) (nm_3 hG) hc31) cw_X9_73 (by decide) dX9_traffic_31 rfl (Nat.le_of_ble_eq_true rfl) ?_
      refine wk_aload_n (pc := 34) dX9_traffic_34 rfl 0 rfl ?_
      refine wk_iload_n (pc := 35) dX9_traffic_35 rfl 1 rfl ?_
      obtain ⟨⟨⟩, s36, hc36, hf⟩ := xbind_some hf
      refine wk_callVU (pc := 36) (As := [.int p1]) (rest := []) (kX9_hoursGo l hG  hc36) cw_X9_237 (by decide) dX9_traffic_36 (nm_0 hG).2 (nm_0 hG).1 rfl rfl rfl (Nat.le_of_ble_eq_true rfl) ?_
      refine wk_iconst (pc := 39) (v := (0 : Int32)) dX9_traffic_39 (by decide) ?_
      refine wk_istore_n (pc := 40) (lv' := [(3, .int (0 : Int32)), (0, .ref (gA G 0)), (1, .int p1), (2, .int p2)]) dX9_traffic_40 rfl (by decide) rfl ?_
      refine wk_iconst (pc := 41) (v := (-1 : Int32)) dX9_traffic_41 (by decide) ?_
      refine wk_istore (pc := 42) (lv' := [(4, .int (-1 : Int32)), (3, .int (0 : Int32)), (0, .ref (gA G 0)), (1, .int p1), (2, .int p2)]) dX9_traffic_42 (by decide) rfl ?_
      refine wk_iconst (pc := 44) (v := (0 : Int32)) dX9_traffic_44 (by decide) ?_
      refine wk_istore (pc := 45) (lv' := [(5, .int (0 : Int32)), (4, .int (-1 : Int32)), (3, .int (0 : Int32)), (0, .ref (gA G 0)), (1, .int p1), (2, .int p2)]) dX9_traffic_45 (by decide) rfl ?_
      exact wk_lv [3, 5, 2, 1, 0] rfl (J47  xF (0 : Int32) (-1 : Int32) (0 : Int32)  s36 hf)
    · exact wk_lv [0] rfl (J16    s10 hf)
noncomputable def sX9_odds_L133 (a5_99 : Int32) (y133d : Int32)  (s133 : xS) : Option (Int32 × xS) := (if a5_99 = 0 then none else some ((y133d / a5_99), s133))
noncomputable def sX9_odds_L99 (p3 : Int32) (a4_48 : Int32) (self99 : Int32 × Int32 → xS → Option (Int32 × xS)) : Int32 × Int32 → xS → Option (Int32 × xS) := fun (a5_99, a6_99) s99 => (if a6_99 = 0 then xlet ((if p3 = 0 then a4_48 else (20 : Int32))) (fun y133d => (sX9_odds_L133 a5_99 y133d)  s99) else (if a6_99 = 0 then none else xlet ((a5_99 - a5_99 / a6_99 * a6_99)) (fun y109 => self99 (a6_99, y109) s99)))
noncomputable def sX9_odds_L82 (a4_48 : Int32) (a5_48 : Int32) (self48 : Int32 × Int32 → xS → Option (Int32 × xS)) (y82d : Int32)  (s82 : xS) : Option (Int32 × xS) := xlet ((a4_48 + y82d)) (fun y83 => xlet (a5_48 + (1 : Int32)) (fun y85 => self48 (y83, y85) s82))
noncomputable def sX9_odds_L48 (p1 : Int32) (p2 : Int32) (p3 : Int32) (self48 : Int32 × Int32 → xS → Option (Int32 × xS)) : Int32 × Int32 → xS → Option (Int32 × xS) := fun (a4_48, a5_48) s48 => (if (20 : Int32) ≤ a5_48 then xloop (sX9_odds_L99 p3 a4_48) xF ((20 : Int32), a4_48) s48 else xlet (xup s48 1 (upd (s48 1) 4 a5_48)) (fun s62 => xbind (sX9_inBehind p2 s62) (fun r67 s67 => xbind (sX9_hasBit r67 p1 s67) (fun r71 s71 => xlet ((if r71 = 0 then (0 : Int32) else (1 : Int32))) (fun y82d => (sX9_odds_L82 a4_48 a5_48 self48 y82d)  s71)))))
noncomputable def sX9_odds_L24   (s24 : xS) : Option (Int32 × xS) := xbind (sX9_finding (-1000000001 : Int32) s24) (fun r27 s27 => some (r27, s27))
noncomputable def sX9_odds (p1 : Int32) (p2 : Int32) (p3 : Int32) (s : xS) : Option (Int32 × xS) := xbind (sX9_isShip p1 s) (fun r2 s2 => (if r2 = 0 then sX9_odds_L24  s2 else xbind (sX9_isBehind p2 s2) (fun r9 s9 => (if r9 = 0 then sX9_odds_L24  s9 else xbind (sX9_within p3 (0 : Int32) (1 : Int32) s9) (fun r18 s18 => (if r18 = 0 then sX9_odds_L24  s18 else xbind (sX9_copy 1 3 s18) (fun _ s39 => xloop (sX9_odds_L48 p1 p2 p3) xF ((0 : Int32), (0 : Int32)) s39)))))))
set_option maxHeartbeats 4000000 in
set_option maxRecDepth 100000 in
theorem kX9_odds (l : Launch) {G : xG} (hG : xM1 G)  {p1 : Int32} {p2 : Int32} {p3 : Int32}  {s : xS} {r : Int32} {s' : xS} (hf : sX9_odds p1 p2 p3 s = some (r, s')) : xMet l G 13 yX9_odds cX9_odds 8 (some .int) [.ref (gA G 0), .int p1, .int p2, .int p3] s (xI r s') := by
  refine xMet.of (by decide) (Nat.le_of_ble_eq_true rfl) ?_
  show wk l G 13 RX9 cX9_odds 8 (some .int) (xI r s') 0 [(0, .ref (gA G 0)), (1, .int p1), (2, .int p2), (3, .int p3)] [] s
  unfold sX9_odds at hf
  have J133 : ∀ (a5_99 : Int32) (y133d : Int32)    (s133 : xS), (sX9_odds_L133 a5_99 y133d)  s133 = some (r, s') → wk l G 13 RX9 cX9_odds 8 (some .int) (xI r s') 133 [(5, .int a5_99)] [.int y133d] s133 := by
    intro a5_99 y133d s133 hf
    unfold sX9_odds_L133 at hf
    refine wk_iload (pc := 133) dX9_odds_133 0 rfl ?_
    obtain ⟨h135, hf⟩ := xif_none hf
    refine wk_idiv (pc := 135) dX9_odds_135 h135 ?_
    exact wk_iret (pc := 136) dX9_odds_136 rfl (xI_of hf)
  have J99 : ∀ (a4_48 : Int32)  (N : Nat) (a5_99 : Int32) (a6_99 : Int32)  (s99 : xS), xloop (sX9_odds_L99 p3 a4_48) N (a5_99, a6_99) s99 = some (r, s') → wk l G 13 RX9 cX9_odds 8 (some .int) (xI r s') 99 [(3, .int p3), (4, .int a4_48), (5, .int a5_99), (6, .int a6_99)] [] s99 := by
    intro a4_48
    intro N
    induction N with
    | zero => intro a5_99 a6_99 s99 hf; exact (xloop_0 hf).elim
    | succ N ih99 =>
      intro a5_99 a6_99 s99 hf
      rw [xloop_s] at hf
      generalize xloop (sX9_odds_L99 p3 a4_48) N = self99 at hf ih99
      unfold sX9_odds_L99 at hf
      dsimp only at hf
      refine wk_iload (pc := 99) dX9_odds_99 3 rfl ?_
      refine wk_if_eq (pc := 101) (tgt := 122) dX9_odds_101 rfl hf (fun hf => ?_) (fun hf => ?_)
      · refine wk_iload_n (pc := 122) dX9_odds_122 rfl 0 rfl ?_
        obtain ⟨y133d, hy133d, hf⟩ := xlet_some hf
        have K133 : wk l G 13 RX9 cX9_odds 8 (some .int) (xI r s') 133 [(3, .int p3), (4, .int a4_48), (5, .int a5_99), (6, .int a6_99)] [.int y133d] s99 := by
          exact wk_lv [2] rfl (J133 a5_99 y133d   s99 hf)
        by_cases c123 : p3 = 0
        · rw [if_pos c123] at hy133d
          refine wk_if_ne_p (pc := 123) (tgt := 131) dX9_odds_123 rfl c123 ?_
          refine wk_iload (pc := 126) dX9_odds_126 1 rfl ?_
          refine wk_goto (pc := 128) (tgt := 133) dX9_odds_128 rfl ?_
          exact wk_top hy133d K133
        · rw [if_neg c123] at hy133d
          refine wk_if_ne_m (pc := 123) (tgt := 131) dX9_odds_123 rfl c123 ?_
          refine wk_bipush (pc := 131) (v := (20 : Int32)) dX9_odds_131 (by decide) ?_
          exact wk_top hy133d K133
      · refine wk_iload (pc := 104) dX9_odds_104 2 rfl ?_
        refine wk_iload (pc := 106) dX9_odds_106 3 rfl ?_
        obtain ⟨h108, hf⟩ := xif_none hf
        refine wk_irem (pc := 108) dX9_odds_108 h108 ?_
        obtain ⟨y109, hy109, hf⟩ := xlet_some hf
        refine wk_top hy109 ?_
        refine wk_istore (pc := 109) (lv' := [(7, .int y109), (3, .int p3), (4, .int a4_48), (5, .int a5_99), (6, .int a6_99)]) dX9_odds_109 (by decide) rfl ?_
        refine wk_iload (pc := 111) dX9_odds_111 4 rfl ?_
        refine wk_istore (pc := 113) (lv' := [(5, .int a6_99), (7, .int y109), (3, .int p3), (4, .int a4_48), (6, .int a6_99)]) dX9_odds_113 (by decide) rfl ?_
        refine wk_iload (pc := 115) dX9_odds_115 1 rfl ?_
        refine wk_istore (pc := 117) (lv' := [(6, .int y109), (5, .int a6_99), (7, .int y109), (3, .int p3), (4, .int a4_48)]) dX9_odds_117 (by decide) rfl ?_
        refine wk_goto (pc := 119) (tgt := 99) dX9_odds_119 rfl ?_
        exact wk_lv [3, 4, 1, 0] rfl (ih99 a6_99 y109  s99 hf)
  have J48 : ∀   (N : Nat) (a4_48 : Int32) (a5_48 : Int32)  (s48 : xS), xloop (sX9_odds_L48 p1 p2 p3) N (a4_48, a5_48) s48 = some (r, s') → wk l G 13 RX9 cX9_odds 8 (some .int) (xI r s') 48 [(0, .ref (gA G 0)), (1, .int p1), (2, .int p2), (3, .int p3), (4, .int a4_48), (5, .int a5_48)] [] s48 := by
    intro N
    induction N with
    | zero => intro a4_48 a5_48 s48 hf; exact (xloop_0 hf).elim
    | succ N ih48 =>
      intro a4_48 a5_48 s48 hf
      rw [xloop_s] at hf
      generalize xloop (sX9_odds_L48 p1 p2 p3) N = self48 at hf ih48
      unfold sX9_odds_L48 at hf
      dsimp only at hf
      have J82 : ∀ (y82d : Int32)    (s82 : xS), (sX9_odds_L82 a4_48 a5_48 self48 y82d)  s82 = some (r, s') → wk l G 13 RX9 cX9_odds 8 (some .int) (xI r s') 82 [(0, .ref (gA G 0)), (1, .int p1), (2, .int p2), (3, .int p3), (5, .int a5_48)] [.int y82d, .int a4_48] s82 := by
        intro y82d s82 hf
        unfold sX9_odds_L82 at hf
        refine wk_iadd (pc := 82) dX9_odds_82 ?_
        obtain ⟨y83, hy83, hf⟩ := xlet_some hf
        refine wk_top hy83 ?_
        refine wk_istore (pc := 83) (lv' := [(4, .int y83), (0, .ref (gA G 0)), (1, .int p1), (2, .int p2), (3, .int p3), (5, .int a5_48)]) dX9_odds_83 (by decide) rfl ?_
        obtain ⟨y85, hy85, hf⟩ := xlet_some hf
        refine wk_iinc (pc := 85) (v := y85) (lv' := [(5, .int y85), (4, .int y83), (0, .ref (gA G 0)), (1, .int p1), (2, .int p2), (3, .int p3)]) dX9_odds_85 5 rfl (by rw [hy85] <;> rfl) (by decide) rfl ?_
        refine wk_goto (pc := 88) (tgt := 48) dX9_odds_88 rfl ?_
        exact wk_lv [2, 3, 4, 5, 1, 0] rfl (ih48 y83 y85  s82 hf)
      refine wk_iload (pc := 48) dX9_odds_48 5 rfl ?_
      refine wk_bipush (pc := 50) (v := (20 : Int32)) dX9_odds_50 (by decide) ?_
      refine wk_icmp_ge (pc := 52) (tgt := 91) dX9_odds_52 rfl hf (fun hf => ?_) (fun hf => ?_)
      · refine wk_bipush (pc := 91) (v := (20 : Int32)) dX9_odds_91 (by decide) ?_
        refine wk_istore (pc := 93) (lv' := [(5, .int (20 : Int32)), (0, .ref (gA G 0)), (1, .int p1), (2, .int p2), (3, .int p3), (4, .int a4_48)]) dX9_odds_93 (by decide) rfl ?_
        refine wk_iload (pc := 95) dX9_odds_95 5 rfl ?_
        refine wk_istore (pc := 97) (lv' := [(6, .int a4_48), (5, .int (20 : Int32)), (0, .ref (gA G 0)), (1, .int p1), (2, .int p2), (3, .int p3), (4, .int a4_48)]) dX9_odds_97 (by decide) rfl ?_
        exact wk_lv [5, 6, 1, 0] rfl (J99 a4_48 xF (20 : Int32) a4_48  s48 hf)
      · refine wk_aload_n (pc := 55) dX9_odds_55 rfl 0 rfl ?_
        refine wk_getR (C := RX9) (T := TX9) (N := 24) (pc := 56) dX9_odds_56 (nm_0 hG).2 (nm_0 hG).1 rfl qU_X9 0 (by decide) qF_X9_9 rfl ?_
        refine wk_iconst (pc := 59) (v := (4 : Int32)) dX9_odds_59 (by decide) ?_
        refine wk_iload (pc := 60) dX9_odds_60 5 rfl ?_
        refine wk_iast (pc := 62) (jj := 4) dX9_odds_62 (nm_1 hG).2 (nm_1 hG).1 (by decide) (by decide) ?_
        obtain ⟨s62, hs62, hf⟩ := xlet_some hf
        refine wk_sig hs62 ?_
        refine wk_iload (pc := 63) dX9_odds_63 4 rfl ?_
        refine wk_aload_n (pc := 65) dX9_odds_65 rfl 0 rfl ?_
        refine wk_iload_n (pc := 66) dX9_odds_66 rfl 2 rfl ?_
        obtain ⟨r67, s67, hc67, hf⟩ := xbind_some hf
        refine wk_callVI (pc := 67) (As := [.int p2]) (rest := [.int a4_48]) (kX9_inBehind l hG  hc67) cw_X9_257 (by decide) dX9_odds_67 (nm_0 hG).2 (nm_0 hG).1 rfl rfl rfl (Nat.le_of_ble_eq_true rfl) ?_
        refine wk_iload_n (pc := 70) dX9_odds_70 rfl 1 rfl ?_
        obtain ⟨r71, s71, hc71, hf⟩ := xbind_some hf
        refine wk_callSI (pc := 71) (As := [.int r67, .int p1]) (rest := [.int a4_48]) (kX9_hasBit l hG  hc71) cw_X9_187 (by decide) dX9_odds_71 rfl (Nat.le_of_ble_eq_true rfl) ?_
        obtain ⟨y82d, hy82d, hf⟩ := xlet_some hf
        have K82 : wk l G 13 RX9 cX9_odds 8 (some .int) (xI r s') 82 [(0, .ref (gA G 0)), (1, .int p1), (2, .int p2), (3, .int p3), (4, .int a4_48), (5, .int a5_48)] [.int y82d, .int a4_48] s71 := by
          exact wk_lv [0, 1, 2, 3, 5] rfl (J82 y82d   s71 hf)
        by_cases c74 : r71 = 0
        · rw [if_pos c74] at hy82d
          refine wk_if_eq_p (pc := 74) (tgt := 81) dX9_odds_74 rfl c74 ?_
          refine wk_iconst (pc := 81) (v := (0 : Int32)) dX9_odds_81 (by decide) ?_
          exact wk_top hy82d K82
        · rw [if_neg c74] at hy82d
          refine wk_if_eq_m (pc := 74) (tgt := 81) dX9_odds_74 rfl c74 ?_
          refine wk_iconst (pc := 77) (v := (1 : Int32)) dX9_odds_77 (by decide) ?_
          refine wk_goto (pc := 78) (tgt := 82) dX9_odds_78 rfl ?_
          exact wk_top hy82d K82
  have J24 : ∀     (s24 : xS), sX9_odds_L24  s24 = some (r, s') → wk l G 13 RX9 cX9_odds 8 (some .int) (xI r s') 24 [(0, .ref (gA G 0))] [] s24 := by
    intro s24 hf
    unfold sX9_odds_L24 at hf
    refine wk_aload_n (pc := 24) dX9_odds_24 rfl 0 rfl ?_
    refine wk_ldc (pc := 25) (v := (-1000000001 : Int32)) dX9_odds_25 qK_X9_81 ?_
    obtain ⟨r27, s27, hc27, hf⟩ := xbind_some hf
    refine wk_callVI (pc := 27) (As := [.int (-1000000001 : Int32)]) (rest := []) (kX9_finding l hG  hc27) cw_X9_82 (by decide) dX9_odds_27 (nm_0 hG).2 (nm_0 hG).1 rfl rfl rfl (Nat.le_of_ble_eq_true rfl) ?_
    exact wk_iret (pc := 30) dX9_odds_30 rfl (xI_of hf)
  refine wk_aload_n (pc := 0) dX9_odds_0 rfl 0 rfl ?_
  refine wk_iload_n (pc := 1) dX9_odds_1 rfl 1 rfl ?_
  obtain ⟨r2, s2, hc2, hf⟩ := xbind_some hf
  refine wk_callVI (pc := 2) (As := [.int p1]) (rest := []) (kX9_isShip l hG  hc2) cw_X9_218 (by decide) dX9_odds_2 (nm_0 hG).2 (nm_0 hG).1 rfl rfl rfl (Nat.le_of_ble_eq_true rfl) ?_
  refine wk_if_eq (pc := 5) (tgt := 24) dX9_odds_5 rfl hf (fun hf => ?_) (fun hf => ?_)
  · exact wk_lv [0] rfl (J24    s2 hf)
  · refine wk_iload_n (pc := 8) dX9_odds_8 rfl 2 rfl ?_
    obtain ⟨r9, s9, hc9, hf⟩ := xbind_some hf
    refine wk_callSI (pc := 9) (As := [.int p2]) (rest := []) (kX9_isBehind l hG  hc9) cw_X9_247 (by decide) dX9_odds_9 rfl (Nat.le_of_ble_eq_true rfl) ?_
    refine wk_if_eq (pc := 12) (tgt := 24) dX9_odds_12 rfl hf (fun hf => ?_) (fun hf => ?_)
    · exact wk_lv [0] rfl (J24    s9 hf)
    · refine wk_iload_n (pc := 15) dX9_odds_15 rfl 3 rfl ?_
      refine wk_iconst (pc := 16) (v := (0 : Int32)) dX9_odds_16 (by decide) ?_
      refine wk_iconst (pc := 17) (v := (1 : Int32)) dX9_odds_17 (by decide) ?_
      obtain ⟨r18, s18, hc18, hf⟩ := xbind_some hf
      refine wk_callSI (pc := 18) (As := [.int p3, .int (0 : Int32), .int (1 : Int32)]) (rest := []) (kX9_within l hG  hc18) cw_X9_77 (by decide) dX9_odds_18 rfl (Nat.le_of_ble_eq_true rfl) ?_
      refine wk_if_ne (pc := 21) (tgt := 31) dX9_odds_21 rfl hf (fun hf => ?_) (fun hf => ?_)
      · refine wk_aload_n (pc := 31) dX9_odds_31 rfl 0 rfl ?_
        refine wk_getR (C := RX9) (T := TX9) (N := 24) (pc := 32) dX9_odds_32 (nm_0 hG).2 (nm_0 hG).1 rfl qU_X9 0 (by decide) qF_X9_9 rfl ?_
        refine wk_aload_n (pc := 35) dX9_odds_35 rfl 0 rfl ?_
        refine wk_getR (C := RX9) (T := TX9) (N := 24) (pc := 36) dX9_odds_36 (nm_0 hG).2 (nm_0 hG).1 rfl qU_X9 2 (by decide) qF_X9_16 rfl ?_
        obtain ⟨⟨⟩, s39, hc39, hf⟩ := xbind_some hf
        refine wk_callSU (pc := 39) (As := [.ref (gA G 1), .ref (gA G 3)]) (rest := []) (kX9_copy l hG (nm_1 hG) (nm_3 hG) hc39) cw_X9_73 (by decide) dX9_odds_39 rfl (Nat.le_of_ble_eq_true rfl) ?_
        refine wk_iconst (pc := 42) (v := (0 : Int32)) dX9_odds_42 (by decide) ?_
        refine wk_istore (pc := 43) (lv' := [(4, .int (0 : Int32)), (0, .ref (gA G 0)), (1, .int p1), (2, .int p2), (3, .int p3)]) dX9_odds_43 (by decide) rfl ?_
        refine wk_iconst (pc := 45) (v := (0 : Int32)) dX9_odds_45 (by decide) ?_
        refine wk_istore (pc := 46) (lv' := [(5, .int (0 : Int32)), (4, .int (0 : Int32)), (0, .ref (gA G 0)), (1, .int p1), (2, .int p2), (3, .int p3)]) dX9_odds_46 (by decide) rfl ?_
        exact wk_lv [2, 3, 4, 5, 1, 0] rfl (J48  xF (0 : Int32) (0 : Int32)  s39 hf)
      · exact wk_lv [0] rfl (J24    s18 hf)
noncomputable def sX9_seed (p1 : Int32) (s : xS) : Option (Int32 × xS) := xbind (sX9_turn (6 : Int32) p1 s) (fun r4 s4 => some (r4, s4))
set_option maxHeartbeats 4000000 in
set_option maxRecDepth 100000 in
theorem kX9_seed (l : Launch) {G : xG} (hG : xM1 G)  {p1 : Int32}  {s : xS} {r : Int32} {s' : xS} (hf : sX9_seed p1 s = some (r, s')) : xMet l G 3 yX9_seed cX9_seed 2 (some .int) [.ref (gA G 0), .int p1] s (xI r s') := by
  refine xMet.of (by decide) (Nat.le_of_ble_eq_true rfl) ?_
  show wk l G 3 RX9 cX9_seed 2 (some .int) (xI r s') 0 [(0, .ref (gA G 0)), (1, .int p1)] [] s
  unfold sX9_seed at hf
  refine wk_aload_n (pc := 0) dX9_seed_0 rfl 0 rfl ?_
  refine wk_bipush (pc := 1) (v := (6 : Int32)) dX9_seed_1 (by decide) ?_
  refine wk_iload_n (pc := 3) dX9_seed_3 rfl 1 rfl ?_
  obtain ⟨r4, s4, hc4, hf⟩ := xbind_some hf
  refine wk_callVI (pc := 4) (As := [.int (6 : Int32), .int p1]) (rest := []) (kX9_turn l hG  hc4) cw_X9_171 (by decide) dX9_seed_4 (nm_0 hG).2 (nm_0 hG).1 rfl rfl rfl (Nat.le_of_ble_eq_true rfl) ?_
  exact wk_iret (pc := 7) dX9_seed_7 rfl (xI_of hf)
noncomputable def sX9_ran (p1 : Int32) (s : xS) : Option (Unit × xS) := (if (40 : Int32) ≤ (s 0 16) then some ((), s) else (if xin (s 0 16) 40 then xlet (xup s 10 (upd (s 10) (s 0 16).toNatClampNeg p1)) (fun s18 => xlet (xup s18 0 (upd (s18 0) 16 ((s18 0 16) + (1 : Int32)))) (fun s26 => some ((), s26))) else none))
set_option maxHeartbeats 4000000 in
set_option maxRecDepth 100000 in
theorem kX9_ran (l : Launch) {G : xG} (hG : xM1 G)  {p1 : Int32}  {s : xS} {s' : xS} (hf : sX9_ran p1 s = some ((), s')) : xMet l G 2 yX9_ran cX9_ran 2 none [.ref (gA G 0), .int p1] s (xU s') := by
  refine xMet.of (by decide) (Nat.le_of_ble_eq_true rfl) ?_
  show wk l G 2 RX9 cX9_ran 2 none (xU s') 0 [(0, .ref (gA G 0)), (1, .int p1)] [] s
  unfold sX9_ran at hf
  refine wk_aload_n (pc := 0) dX9_ran_0 rfl 0 rfl ?_
  refine wk_getI (C := RX9) (T := TX9) (N := 24) (pc := 1) dX9_ran_1 (nm_0 hG).2 (nm_0 hG).1 rfl qU_X9 16 (by decide) qF_X9_269 rfl ?_
  refine wk_bipush (pc := 4) (v := (40 : Int32)) dX9_ran_4 (by decide) ?_
  refine wk_icmp_ge (pc := 6) (tgt := 29) dX9_ran_6 rfl hf (fun hf => ?_) (fun hf => ?_)
  · exact wk_vret (pc := 29) dX9_ran_29 rfl (xU_of hf)
  · refine wk_aload_n (pc := 9) dX9_ran_9 rfl 0 rfl ?_
    refine wk_getR (C := RX9) (T := TX9) (N := 24) (pc := 10) dX9_ran_10 (nm_0 hG).2 (nm_0 hG).1 rfl qU_X9 15 (by decide) qF_X9_44 rfl ?_
    refine wk_aload_n (pc := 13) dX9_ran_13 rfl 0 rfl ?_
    refine wk_getI (C := RX9) (T := TX9) (N := 24) (pc := 14) dX9_ran_14 (nm_0 hG).2 (nm_0 hG).1 rfl qU_X9 16 (by decide) qF_X9_269 rfl ?_
    refine wk_iload_n (pc := 17) dX9_ran_17 rfl 1 rfl ?_
    obtain ⟨h18, hf⟩ := xif_some hf
    refine wk_iast (pc := 18) (jj := (s 0 16).toNatClampNeg) dX9_ran_18 (nm_10 hG).2 (nm_10 hG).1 h18 rfl ?_
    obtain ⟨s18, hs18, hf⟩ := xlet_some hf
    refine wk_sig hs18 ?_
    refine wk_aload_n (pc := 19) dX9_ran_19 rfl 0 rfl ?_
    refine wk_dup (pc := 20) dX9_ran_20 rfl ?_
    refine wk_getI (C := RX9) (T := TX9) (N := 24) (pc := 21) dX9_ran_21 (nm_0 hG).2 (nm_0 hG).1 rfl qU_X9 16 (by decide) qF_X9_269 rfl ?_
    refine wk_iconst (pc := 24) (v := (1 : Int32)) dX9_ran_24 (by decide) ?_
    refine wk_iadd (pc := 25) dX9_ran_25 ?_
    refine wk_putI (C := RX9) (T := TX9) (N := 24) (ty := .int) (pc := 26) dX9_ran_26 (nm_0 hG).2 (nm_0 hG).1 rfl qU_X9 tyX9 tyX9_ok nmX9 16 (by decide) qF_X9_269 rfl rfl rfl rfl rfl ?_
    obtain ⟨s26, hs26, hf⟩ := xlet_some hf
    refine wk_sig hs26 ?_
    exact wk_vret (pc := 29) dX9_ran_29 rfl (xU_of hf)
noncomputable def sX9_sailsOf_L19 (p1 : Int32) (r5 : Int32)  (s19 : xS) : Option (Int32 × xS) := xbind (sX9_ran (10 : Int32) s19) (fun _ s22 => xlet ((if r5 = 0 then (p1 + (s22 0 18)) else ((p1 + (s22 0 18)) * (3 : Int32)))) (fun y46d => some (y46d, s22)))
noncomputable def sX9_sailsOf (p1 : Int32) (s : xS) : Option (Int32 × xS) := xbind (sX9_isUnder (s 0 17) (1 : Int32) s) (fun r5 s5 => (if r5 = 0 then (sX9_sailsOf_L19 p1 r5)  s5 else xbind (sX9_ran (20 : Int32) s5) (fun _ s16 => (sX9_sailsOf_L19 p1 r5)  s16)))
set_option maxHeartbeats 4000000 in
set_option maxRecDepth 100000 in
theorem kX9_sailsOf (l : Launch) {G : xG} (hG : xM1 G)  {p1 : Int32}  {s : xS} {r : Int32} {s' : xS} (hf : sX9_sailsOf p1 s = some (r, s')) : xMet l G 4 yX9_sailsOf cX9_sailsOf 3 (some .int) [.ref (gA G 0), .int p1] s (xI r s') := by
  refine xMet.of (by decide) (Nat.le_of_ble_eq_true rfl) ?_
  show wk l G 4 RX9 cX9_sailsOf 3 (some .int) (xI r s') 0 [(0, .ref (gA G 0)), (1, .int p1)] [] s
  unfold sX9_sailsOf at hf
  have J19 : ∀ (r5 : Int32)    (s19 : xS), (sX9_sailsOf_L19 p1 r5)  s19 = some (r, s') → wk l G 4 RX9 cX9_sailsOf 3 (some .int) (xI r s') 19 [(0, .ref (gA G 0)), (1, .int p1), (2, .int r5)] [] s19 := by
    intro r5 s19 hf
    unfold sX9_sailsOf_L19 at hf
    refine wk_aload_n (pc := 19) dX9_sailsOf_19 rfl 0 rfl ?_
    refine wk_bipush (pc := 20) (v := (10 : Int32)) dX9_sailsOf_20 (by decide) ?_
    obtain ⟨⟨⟩, s22, hc22, hf⟩ := xbind_some hf
    refine wk_callVU (pc := 22) (As := [.int (10 : Int32)]) (rest := []) (kX9_ran l hG  hc22) cw_X9_275 (by decide) dX9_sailsOf_22 (nm_0 hG).2 (nm_0 hG).1 rfl rfl rfl (Nat.le_of_ble_eq_true rfl) ?_
    refine wk_iload_n (pc := 25) dX9_sailsOf_25 rfl 2 rfl ?_
    obtain ⟨y46d, hy46d, hf⟩ := xlet_some hf
    have K46 : wk l G 4 RX9 cX9_sailsOf 3 (some .int) (xI r s') 46 [(0, .ref (gA G 0)), (1, .int p1), (2, .int r5)] [.int y46d] s22 := by
      exact wk_iret (pc := 46) dX9_sailsOf_46 rfl (xI_of hf)
    by_cases c26 : r5 = 0
    · rw [if_pos c26] at hy46d
      refine wk_if_eq_p (pc := 26) (tgt := 40) dX9_sailsOf_26 rfl c26 ?_
      refine wk_iload_n (pc := 40) dX9_sailsOf_40 rfl 1 rfl ?_
      refine wk_aload_n (pc := 41) dX9_sailsOf_41 rfl 0 rfl ?_
      refine wk_getI (C := RX9) (T := TX9) (N := 24) (pc := 42) dX9_sailsOf_42 (nm_0 hG).2 (nm_0 hG).1 rfl qU_X9 18 (by decide) qF_X9_278 rfl ?_
      refine wk_iadd (pc := 45) dX9_sailsOf_45 ?_
      exact wk_top hy46d K46
    · rw [if_neg c26] at hy46d
      refine wk_if_eq_m (pc := 26) (tgt := 40) dX9_sailsOf_26 rfl c26 ?_
      refine wk_iload_n (pc := 29) dX9_sailsOf_29 rfl 1 rfl ?_
      refine wk_aload_n (pc := 30) dX9_sailsOf_30 rfl 0 rfl ?_
      refine wk_getI (C := RX9) (T := TX9) (N := 24) (pc := 31) dX9_sailsOf_31 (nm_0 hG).2 (nm_0 hG).1 rfl qU_X9 18 (by decide) qF_X9_278 rfl ?_
      refine wk_iadd (pc := 34) dX9_sailsOf_34 ?_
      refine wk_iconst (pc := 35) (v := (3 : Int32)) dX9_sailsOf_35 (by decide) ?_
      refine wk_imul (pc := 36) dX9_sailsOf_36 ?_
      refine wk_goto (pc := 37) (tgt := 46) dX9_sailsOf_37 rfl ?_
      exact wk_top hy46d K46
  refine wk_aload_n (pc := 0) dX9_sailsOf_0 rfl 0 rfl ?_
  refine wk_getI (C := RX9) (T := TX9) (N := 24) (pc := 1) dX9_sailsOf_1 (nm_0 hG).2 (nm_0 hG).1 rfl qU_X9 17 (by decide) qF_X9_272 rfl ?_
  refine wk_iconst (pc := 4) (v := (1 : Int32)) dX9_sailsOf_4 (by decide) ?_
  obtain ⟨r5, s5, hc5, hf⟩ := xbind_some hf
  refine wk_callSI (pc := 5) (As := [.int (s 0 17), .int (1 : Int32)]) (rest := []) (kX9_isUnder l hG  hc5) cw_X9_224 (by decide) dX9_sailsOf_5 rfl (Nat.le_of_ble_eq_true rfl) ?_
  refine wk_istore_n (pc := 8) (lv' := [(2, .int r5), (0, .ref (gA G 0)), (1, .int p1)]) dX9_sailsOf_8 rfl (by decide) rfl ?_
  refine wk_iload_n (pc := 9) dX9_sailsOf_9 rfl 0 rfl ?_
  refine wk_if_eq (pc := 10) (tgt := 19) dX9_sailsOf_10 rfl hf (fun hf => ?_) (fun hf => ?_)
  · exact wk_lv [1, 2, 0] rfl (J19 r5   s5 hf)
  · refine wk_aload_n (pc := 13) dX9_sailsOf_13 rfl 1 rfl ?_
    refine wk_bipush (pc := 14) (v := (20 : Int32)) dX9_sailsOf_14 (by decide) ?_
    obtain ⟨⟨⟩, s16, hc16, hf⟩ := xbind_some hf
    refine wk_callVU (pc := 16) (As := [.int (20 : Int32)]) (rest := []) (kX9_ran l hG  hc16) cw_X9_275 (by decide) dX9_sailsOf_16 (nm_0 hG).2 (nm_0 hG).1 rfl rfl rfl (Nat.le_of_ble_eq_true rfl) ?_
    exact wk_lv [1, 2, 0] rfl (J19 r5   s16 hf)
noncomputable def sX9_soundsOf_L60 (y60d : Int32)  (s60 : xS) : Option (Int32 × xS) := (if (s60 0 17) = (6 : Int32) then some ((y60d ^^^ (s60 0 18)), s60) else some (y60d, s60))
noncomputable def sX9_soundsOf_L34 (p1 : Int32) (r20 : Int32)  (s34 : xS) : Option (Int32 × xS) := xbind (sX9_ran (12 : Int32) s34) (fun _ s37 => xlet ((if r20 = 0 then (p1 - (s37 0 19)) else (-(p1 - (s37 0 19))))) (fun y60d => (sX9_soundsOf_L60 y60d)  s37))
noncomputable def sX9_soundsOf_L15 (p1 : Int32)  (s15 : xS) : Option (Int32 × xS) := xbind (sX9_isUnder (s15 0 17) (3 : Int32) s15) (fun r20 s20 => (if r20 = 0 then (sX9_soundsOf_L34 p1 r20)  s20 else xbind (sX9_ran (40 : Int32) s20) (fun _ s31 => (sX9_soundsOf_L34 p1 r20)  s31)))
noncomputable def sX9_soundsOf (p1 : Int32) (s : xS) : Option (Int32 × xS) := (if (s 0 17) = (6 : Int32) then xbind (sX9_ran (70 : Int32) s) (fun _ s12 => (sX9_soundsOf_L15 p1)  s12) else (sX9_soundsOf_L15 p1)  s)
set_option maxHeartbeats 4000000 in
set_option maxRecDepth 100000 in
theorem kX9_soundsOf (l : Launch) {G : xG} (hG : xM1 G)  {p1 : Int32}  {s : xS} {r : Int32} {s' : xS} (hf : sX9_soundsOf p1 s = some (r, s')) : xMet l G 4 yX9_soundsOf cX9_soundsOf 4 (some .int) [.ref (gA G 0), .int p1] s (xI r s') := by
  refine xMet.of (by decide) (Nat.le_of_ble_eq_true rfl) ?_
  show wk l G 4 RX9 cX9_soundsOf 4 (some .int) (xI r s') 0 [(0, .ref (gA G 0)), (1, .int p1)] [] s
  unfold sX9_soundsOf at hf
  have J60 : ∀ (y60d : Int32)    (s60 : xS), (sX9_soundsOf_L60 y60d)  s60 = some (r, s') → wk l G 4 RX9 cX9_soundsOf 4 (some .int) (xI r s') 60 [(0, .ref (gA G 0))] [.int y60d] s60 := by
    intro y60d s60 hf
    unfold sX9_soundsOf_L60 at hf
    refine wk_istore_n (pc := 60) (lv' := [(3, .int y60d), (0, .ref (gA G 0))]) dX9_soundsOf_60 rfl (by decide) rfl ?_
    refine wk_aload_n (pc := 61) dX9_soundsOf_61 rfl 1 rfl ?_
    refine wk_getI (C := RX9) (T := TX9) (N := 24) (pc := 62) dX9_soundsOf_62 (nm_0 hG).2 (nm_0 hG).1 rfl qU_X9 17 (by decide) qF_X9_272 rfl ?_
    refine wk_bipush (pc := 65) (v := (6 : Int32)) dX9_soundsOf_65 (by decide) ?_
    refine wk_icmp_ne (pc := 67) (tgt := 79) dX9_soundsOf_67 rfl hf (fun hf => ?_) (fun hf => ?_)
    · refine wk_iload_n (pc := 79) dX9_soundsOf_79 rfl 0 rfl ?_
      exact wk_iret (pc := 80) dX9_soundsOf_80 rfl (xI_of hf)
    · refine wk_iload_n (pc := 70) dX9_soundsOf_70 rfl 0 rfl ?_
      refine wk_aload_n (pc := 71) dX9_soundsOf_71 rfl 1 rfl ?_
      refine wk_getI (C := RX9) (T := TX9) (N := 24) (pc := 72) dX9_soundsOf_72 (nm_0 hG).2 (nm_0 hG).1 rfl qU_X9 18 (by decide) qF_X9_278 rfl ?_
      refine wk_ixor (pc := 75) dX9_soundsOf_75 ?_
      refine wk_goto (pc := 76) (tgt := 80) dX9_soundsOf_76 rfl ?_
      exact wk_iret (pc := 80) dX9_soundsOf_80 rfl (xI_of hf)
  have J34 : ∀ (r20 : Int32)    (s34 : xS), (sX9_soundsOf_L34 p1 r20)  s34 = some (r, s') → wk l G 4 RX9 cX9_soundsOf 4 (some .int) (xI r s') 34 [(0, .ref (gA G 0)), (1, .int p1), (2, .int r20)] [] s34 := by
    intro r20 s34 hf
    unfold sX9_soundsOf_L34 at hf
    refine wk_aload_n (pc := 34) dX9_soundsOf_34 rfl 0 rfl ?_
    refine wk_bipush (pc := 35) (v := (12 : Int32)) dX9_soundsOf_35 (by decide) ?_
    obtain ⟨⟨⟩, s37, hc37, hf⟩ := xbind_some hf
    refine wk_callVU (pc := 37) (As := [.int (12 : Int32)]) (rest := []) (kX9_ran l hG  hc37) cw_X9_275 (by decide) dX9_soundsOf_37 (nm_0 hG).2 (nm_0 hG).1 rfl rfl rfl (Nat.le_of_ble_eq_true rfl) ?_
    refine wk_iload_n (pc := 40) dX9_soundsOf_40 rfl 2 rfl ?_
    obtain ⟨y60d, hy60d, hf⟩ := xlet_some hf
    have K60 : wk l G 4 RX9 cX9_soundsOf 4 (some .int) (xI r s') 60 [(0, .ref (gA G 0)), (1, .int p1), (2, .int r20)] [.int y60d] s37 := by
      exact wk_lv [0] rfl (J60 y60d   s37 hf)
    by_cases c41 : r20 = 0
    · rw [if_pos c41] at hy60d
      refine wk_if_eq_p (pc := 41) (tgt := 54) dX9_soundsOf_41 rfl c41 ?_
      refine wk_iload_n (pc := 54) dX9_soundsOf_54 rfl 1 rfl ?_
      refine wk_aload_n (pc := 55) dX9_soundsOf_55 rfl 0 rfl ?_
      refine wk_getI (C := RX9) (T := TX9) (N := 24) (pc := 56) dX9_soundsOf_56 (nm_0 hG).2 (nm_0 hG).1 rfl qU_X9 19 (by decide) qF_X9_287 rfl ?_
      refine wk_isub (pc := 59) dX9_soundsOf_59 ?_
      exact wk_top hy60d K60
    · rw [if_neg c41] at hy60d
      refine wk_if_eq_m (pc := 41) (tgt := 54) dX9_soundsOf_41 rfl c41 ?_
      refine wk_iload_n (pc := 44) dX9_soundsOf_44 rfl 1 rfl ?_
      refine wk_aload_n (pc := 45) dX9_soundsOf_45 rfl 0 rfl ?_
      refine wk_getI (C := RX9) (T := TX9) (N := 24) (pc := 46) dX9_soundsOf_46 (nm_0 hG).2 (nm_0 hG).1 rfl qU_X9 19 (by decide) qF_X9_287 rfl ?_
      refine wk_isub (pc := 49) dX9_soundsOf_49 ?_
      refine wk_ineg (pc := 50) dX9_soundsOf_50 ?_
      refine wk_goto (pc := 51) (tgt := 60) dX9_soundsOf_51 rfl ?_
      exact wk_top hy60d K60
  have J15 : ∀     (s15 : xS), (sX9_soundsOf_L15 p1)  s15 = some (r, s') → wk l G 4 RX9 cX9_soundsOf 4 (some .int) (xI r s') 15 [(0, .ref (gA G 0)), (1, .int p1)] [] s15 := by
    intro s15 hf
    unfold sX9_soundsOf_L15 at hf
    refine wk_aload_n (pc := 15) dX9_soundsOf_15 rfl 0 rfl ?_
    refine wk_getI (C := RX9) (T := TX9) (N := 24) (pc := 16) dX9_soundsOf_16 (nm_0 hG).2 (nm_0 hG).1 rfl qU_X9 17 (by decide) qF_X9_272 rfl ?_
    refine wk_iconst (pc := 19) (v := (3 : Int32)) dX9_soundsOf_19 (by decide) ?_
    obtain ⟨r20, s20, hc20, hf⟩ := xbind_some hf
    refine wk_callSI (pc := 20) (As := [.int (s15 0 17), .int (3 : Int32)]) (rest := []) (kX9_isUnder l hG  hc20) cw_X9_224 (by decide) dX9_soundsOf_20 rfl (Nat.le_of_ble_eq_true rfl) ?_
    refine wk_istore_n (pc := 23) (lv' := [(2, .int r20), (0, .ref (gA G 0)), (1, .int p1)]) dX9_soundsOf_23 rfl (by decide) rfl ?_
    refine wk_iload_n (pc := 24) dX9_soundsOf_24 rfl 0 rfl ?_
    refine wk_if_eq (pc := 25) (tgt := 34) dX9_soundsOf_25 rfl hf (fun hf => ?_) (fun hf => ?_)
    · exact wk_lv [1, 2, 0] rfl (J34 r20   s20 hf)
    · refine wk_aload_n (pc := 28) dX9_soundsOf_28 rfl 1 rfl ?_
      refine wk_bipush (pc := 29) (v := (40 : Int32)) dX9_soundsOf_29 (by decide) ?_
      obtain ⟨⟨⟩, s31, hc31, hf⟩ := xbind_some hf
      refine wk_callVU (pc := 31) (As := [.int (40 : Int32)]) (rest := []) (kX9_ran l hG  hc31) cw_X9_275 (by decide) dX9_soundsOf_31 (nm_0 hG).2 (nm_0 hG).1 rfl rfl rfl (Nat.le_of_ble_eq_true rfl) ?_
      exact wk_lv [1, 2, 0] rfl (J34 r20   s31 hf)
  refine wk_aload_n (pc := 0) dX9_soundsOf_0 rfl 0 rfl ?_
  refine wk_getI (C := RX9) (T := TX9) (N := 24) (pc := 1) dX9_soundsOf_1 (nm_0 hG).2 (nm_0 hG).1 rfl qU_X9 17 (by decide) qF_X9_272 rfl ?_
  refine wk_bipush (pc := 4) (v := (6 : Int32)) dX9_soundsOf_4 (by decide) ?_
  refine wk_icmp_ne (pc := 6) (tgt := 15) dX9_soundsOf_6 rfl hf (fun hf => ?_) (fun hf => ?_)
  · exact wk_lv [0, 1] rfl (J15    s hf)
  · refine wk_aload_n (pc := 9) dX9_soundsOf_9 rfl 0 rfl ?_
    refine wk_bipush (pc := 10) (v := (70 : Int32)) dX9_soundsOf_10 (by decide) ?_
    obtain ⟨⟨⟩, s12, hc12, hf⟩ := xbind_some hf
    refine wk_callVU (pc := 12) (As := [.int (70 : Int32)]) (rest := []) (kX9_ran l hG  hc12) cw_X9_275 (by decide) dX9_soundsOf_12 (nm_0 hG).2 (nm_0 hG).1 rfl rfl rfl (Nat.le_of_ble_eq_true rfl) ?_
    exact wk_lv [0, 1] rfl (J15    s12 hf)
noncomputable def sX9_steersOf_L38 (a2_19 : Int32) (r24 : Int32)  (s38 : xS) : Option (Int32 × xS) := xbind (sX9_ran (11 : Int32) s38) (fun _ s41 => xbind (sX9_sailsOf a2_19 s41) (fun r46 s46 => xlet ((r46 * (2 : Int32))) (fun y51 => (if r24 = 0 then some (y51, s46) else xbind (sX9_soundsOf (1 : Int32) s46) (fun r61 s61 => some ((y51 - r61), s61))))))
noncomputable def sX9_steersOf_L19  (a2_19 : Int32) (s19 : xS) : Option (Int32 × xS) := xbind (sX9_isUnder (s19 0 17) (2 : Int32) s19) (fun r24 s24 => (if r24 = 0 then (sX9_steersOf_L38 a2_19 r24)  s24 else xbind (sX9_ran (30 : Int32) s24) (fun _ s35 => (sX9_steersOf_L38 a2_19 r24)  s35)))
noncomputable def sX9_steersOf (p1 : Int32) (s : xS) : Option (Int32 × xS) := (if (s 0 17) = (5 : Int32) then xbind (sX9_ran (60 : Int32) s) (fun _ s13 => xlet (p1 + (1 : Int32)) (fun y16 => sX9_steersOf_L19 y16 s13)) else sX9_steersOf_L19 p1 s)
set_option maxHeartbeats 4000000 in
set_option maxRecDepth 100000 in
theorem kX9_steersOf (l : Launch) {G : xG} (hG : xM1 G)  {p1 : Int32}  {s : xS} {r : Int32} {s' : xS} (hf : sX9_steersOf p1 s = some (r, s')) : xMet l G 5 yX9_steersOf cX9_steersOf 5 (some .int) [.ref (gA G 0), .int p1] s (xI r s') := by
  refine xMet.of (by decide) (Nat.le_of_ble_eq_true rfl) ?_
  show wk l G 5 RX9 cX9_steersOf 5 (some .int) (xI r s') 0 [(0, .ref (gA G 0)), (1, .int p1)] [] s
  unfold sX9_steersOf at hf
  have J38 : ∀ (a2_19 : Int32) (r24 : Int32)    (s38 : xS), (sX9_steersOf_L38 a2_19 r24)  s38 = some (r, s') → wk l G 5 RX9 cX9_steersOf 5 (some .int) (xI r s') 38 [(0, .ref (gA G 0)), (2, .int a2_19), (3, .int r24)] [] s38 := by
    intro a2_19 r24 s38 hf
    unfold sX9_steersOf_L38 at hf
    refine wk_aload_n (pc := 38) dX9_steersOf_38 rfl 0 rfl ?_
    refine wk_bipush (pc := 39) (v := (11 : Int32)) dX9_steersOf_39 (by decide) ?_
    obtain ⟨⟨⟩, s41, hc41, hf⟩ := xbind_some hf
    refine wk_callVU (pc := 41) (As := [.int (11 : Int32)]) (rest := []) (kX9_ran l hG  hc41) cw_X9_275 (by decide) dX9_steersOf_41 (nm_0 hG).2 (nm_0 hG).1 rfl rfl rfl (Nat.le_of_ble_eq_true rfl) ?_
    refine wk_aload_n (pc := 44) dX9_steersOf_44 rfl 0 rfl ?_
    refine wk_iload_n (pc := 45) dX9_steersOf_45 rfl 1 rfl ?_
    obtain ⟨r46, s46, hc46, hf⟩ := xbind_some hf
    refine wk_callVI (pc := 46) (As := [.int a2_19]) (rest := []) (kX9_sailsOf l hG  hc46) cw_X9_281 (by decide) dX9_steersOf_46 (nm_0 hG).2 (nm_0 hG).1 rfl rfl rfl (Nat.le_of_ble_eq_true rfl) ?_
    refine wk_iconst (pc := 49) (v := (2 : Int32)) dX9_steersOf_49 (by decide) ?_
    refine wk_imul (pc := 50) dX9_steersOf_50 ?_
    obtain ⟨y51, hy51, hf⟩ := xlet_some hf
    refine wk_top hy51 ?_
    refine wk_istore (pc := 51) (lv' := [(4, .int y51), (0, .ref (gA G 0)), (2, .int a2_19), (3, .int r24)]) dX9_steersOf_51 (by decide) rfl ?_
    refine wk_iload_n (pc := 53) dX9_steersOf_53 rfl 3 rfl ?_
    refine wk_if_eq (pc := 54) (tgt := 68) dX9_steersOf_54 rfl hf (fun hf => ?_) (fun hf => ?_)
    · refine wk_iload (pc := 68) dX9_steersOf_68 0 rfl ?_
      exact wk_iret (pc := 70) dX9_steersOf_70 rfl (xI_of hf)
    · refine wk_iload (pc := 57) dX9_steersOf_57 0 rfl ?_
      refine wk_aload_n (pc := 59) dX9_steersOf_59 rfl 1 rfl ?_
      refine wk_iconst (pc := 60) (v := (1 : Int32)) dX9_steersOf_60 (by decide) ?_
      obtain ⟨r61, s61, hc61, hf⟩ := xbind_some hf
      refine wk_callVI (pc := 61) (As := [.int (1 : Int32)]) (rest := [.int y51]) (kX9_soundsOf l hG  hc61) cw_X9_284 (by decide) dX9_steersOf_61 (nm_0 hG).2 (nm_0 hG).1 rfl rfl rfl (Nat.le_of_ble_eq_true rfl) ?_
      refine wk_isub (pc := 64) dX9_steersOf_64 ?_
      refine wk_goto (pc := 65) (tgt := 70) dX9_steersOf_65 rfl ?_
      exact wk_iret (pc := 70) dX9_steersOf_70 rfl (xI_of hf)
  have J19 : ∀   (a2_19 : Int32)  (s19 : xS), sX9_steersOf_L19 a2_19 s19 = some (r, s') → wk l G 5 RX9 cX9_steersOf 5 (some .int) (xI r s') 19 [(0, .ref (gA G 0)), (2, .int a2_19)] [] s19 := by
    intro a2_19 s19 hf
    unfold sX9_steersOf_L19 at hf
    refine wk_aload_n (pc := 19) dX9_steersOf_19 rfl 0 rfl ?_
    refine wk_getI (C := RX9) (T := TX9) (N := 24) (pc := 20) dX9_steersOf_20 (nm_0 hG).2 (nm_0 hG).1 rfl qU_X9 17 (by decide) qF_X9_272 rfl ?_
    refine wk_iconst (pc := 23) (v := (2 : Int32)) dX9_steersOf_23 (by decide) ?_
    obtain ⟨r24, s24, hc24, hf⟩ := xbind_some hf
    refine wk_callSI (pc := 24) (As := [.int (s19 0 17), .int (2 : Int32)]) (rest := []) (kX9_isUnder l hG  hc24) cw_X9_224 (by decide) dX9_steersOf_24 rfl (Nat.le_of_ble_eq_true rfl) ?_
    refine wk_istore_n (pc := 27) (lv' := [(3, .int r24), (0, .ref (gA G 0)), (2, .int a2_19)]) dX9_steersOf_27 rfl (by decide) rfl ?_
    refine wk_iload_n (pc := 28) dX9_steersOf_28 rfl 0 rfl ?_
    refine wk_if_eq (pc := 29) (tgt := 38) dX9_steersOf_29 rfl hf (fun hf => ?_) (fun hf => ?_)
    · exact wk_lv [1, 2, 0] rfl (J38 a2_19 r24   s24 hf)
    · refine wk_aload_n (pc := 32) dX9_steersOf_32 rfl 1 rfl ?_
      refine wk_bipush (pc := 33) (v := (30 : Int32)) dX9_steersOf_33 (by decide) ?_
      obtain ⟨⟨⟩, s35, hc35, hf⟩ := xbind_some hf
      refine wk_callVU (pc := 35) (As := [.int (30 : Int32)]) (rest := []) (kX9_ran l hG  hc35) cw_X9_275 (by decide) dX9_steersOf_35 (nm_0 hG).2 (nm_0 hG).1 rfl rfl rfl (Nat.le_of_ble_eq_true rfl) ?_
      exact wk_lv [1, 2, 0] rfl (J38 a2_19 r24   s35 hf)
  refine wk_iload_n (pc := 0) dX9_steersOf_0 rfl 1 rfl ?_
  refine wk_istore_n (pc := 1) (lv' := [(2, .int p1), (0, .ref (gA G 0)), (1, .int p1)]) dX9_steersOf_1 rfl (by decide) rfl ?_
  refine wk_aload_n (pc := 2) dX9_steersOf_2 rfl 1 rfl ?_
  refine wk_getI (C := RX9) (T := TX9) (N := 24) (pc := 3) dX9_steersOf_3 (nm_0 hG).2 (nm_0 hG).1 rfl qU_X9 17 (by decide) qF_X9_272 rfl ?_
  refine wk_iconst (pc := 6) (v := (5 : Int32)) dX9_steersOf_6 (by decide) ?_
  refine wk_icmp_ne (pc := 7) (tgt := 19) dX9_steersOf_7 rfl hf (fun hf => ?_) (fun hf => ?_)
  · exact wk_lv [1, 0] rfl (J19  p1  s hf)
  · refine wk_aload_n (pc := 10) dX9_steersOf_10 rfl 1 rfl ?_
    refine wk_bipush (pc := 11) (v := (60 : Int32)) dX9_steersOf_11 (by decide) ?_
    obtain ⟨⟨⟩, s13, hc13, hf⟩ := xbind_some hf
    refine wk_callVU (pc := 13) (As := [.int (60 : Int32)]) (rest := []) (kX9_ran l hG  hc13) cw_X9_275 (by decide) dX9_steersOf_13 (nm_0 hG).2 (nm_0 hG).1 rfl rfl rfl (Nat.le_of_ble_eq_true rfl) ?_
    obtain ⟨y16, hy16, hf⟩ := xlet_some hf
    refine wk_iinc (pc := 16) (v := y16) (lv' := [(2, .int y16), (0, .ref (gA G 0)), (1, .int p1)]) dX9_steersOf_16 0 rfl (by rw [hy16] <;> rfl) (by decide) rfl ?_
    exact wk_lv [1, 0] rfl (J19  y16  s13 hf)
noncomputable def sX9_plainLogs (p1 : Int32) (s : xS) : Option (Int32 × xS) := xbind (sX9_ran (13 : Int32) s) (fun _ s3 => xbind (sX9_steersOf p1 s3) (fun r8 s8 => xbind (sX9_soundsOf p1 s8) (fun r15 s15 => some ((r8 ^^^ r15), s15))))
set_option maxHeartbeats 4000000 in
set_option maxRecDepth 100000 in
theorem kX9_plainLogs (l : Launch) {G : xG} (hG : xM1 G)  {p1 : Int32}  {s : xS} {r : Int32} {s' : xS} (hf : sX9_plainLogs p1 s = some (r, s')) : xMet l G 6 yX9_plainLogs cX9_plainLogs 3 (some .int) [.ref (gA G 0), .int p1] s (xI r s') := by
  refine xMet.of (by decide) (Nat.le_of_ble_eq_true rfl) ?_
  show wk l G 6 RX9 cX9_plainLogs 3 (some .int) (xI r s') 0 [(0, .ref (gA G 0)), (1, .int p1)] [] s
  unfold sX9_plainLogs at hf
  refine wk_aload_n (pc := 0) dX9_plainLogs_0 rfl 0 rfl ?_
  refine wk_bipush (pc := 1) (v := (13 : Int32)) dX9_plainLogs_1 (by decide) ?_
  obtain ⟨⟨⟩, s3, hc3, hf⟩ := xbind_some hf
  refine wk_callVU (pc := 3) (As := [.int (13 : Int32)]) (rest := []) (kX9_ran l hG  hc3) cw_X9_275 (by decide) dX9_plainLogs_3 (nm_0 hG).2 (nm_0 hG).1 rfl rfl rfl (Nat.le_of_ble_eq_true rfl) ?_
  refine wk_aload_n (pc := 6) dX9_plainLogs_6 rfl 0 rfl ?_
  refine wk_iload_n (pc := 7) dX9_plainLogs_7 rfl 1 rfl ?_
  obtain ⟨r8, s8, hc8, hf⟩ := xbind_some hf
  refine wk_callVI (pc := 8) (As := [.int p1]) (rest := []) (kX9_steersOf l hG  hc8) cw_X9_290 (by decide) dX9_plainLogs_8 (nm_0 hG).2 (nm_0 hG).1 rfl rfl rfl (Nat.le_of_ble_eq_true rfl) ?_
  refine wk_istore_n (pc := 11) (lv' := [(2, .int r8), (0, .ref (gA G 0)), (1, .int p1)]) dX9_plainLogs_11 rfl (by decide) rfl ?_
  refine wk_iload_n (pc := 12) dX9_plainLogs_12 rfl 0 rfl ?_
  refine wk_aload_n (pc := 13) dX9_plainLogs_13 rfl 1 rfl ?_
  refine wk_iload_n (pc := 14) dX9_plainLogs_14 rfl 2 rfl ?_
  obtain ⟨r15, s15, hc15, hf⟩ := xbind_some hf
  refine wk_callVI (pc := 15) (As := [.int p1]) (rest := [.int r8]) (kX9_soundsOf l hG  hc15) cw_X9_284 (by decide) dX9_plainLogs_15 (nm_0 hG).2 (nm_0 hG).1 rfl rfl rfl (Nat.le_of_ble_eq_true rfl) ?_
  refine wk_ixor (pc := 18) dX9_plainLogs_18 ?_
  exact wk_iret (pc := 19) dX9_plainLogs_19 rfl (xI_of hf)
noncomputable def sX9_logsOf (p1 : Int32) (s : xS) : Option (Int32 × xS) := (if (s 0 17) = (6 : Int32) then xbind (sX9_ran (71 : Int32) s) (fun _ s12 => xbind (sX9_steersOf p1 s12) (fun r17 s17 => xbind (sX9_plainLogs p1 s17) (fun r24 s24 => some ((r17 - r24), s24)))) else (if (s 0 17) = (4 : Int32) then xbind (sX9_ran (50 : Int32) s) (fun _ s40 => xbind (sX9_plainLogs p1 s40) (fun r45 s45 => xbind (sX9_sailsOf (2 : Int32) s45) (fun r52 s52 => some ((r45 - r52), s52)))) else xbind (sX9_plainLogs p1 s) (fun r59 s59 => some (r59, s59))))
set_option maxHeartbeats 4000000 in
set_option maxRecDepth 100000 in
theorem kX9_logsOf (l : Launch) {G : xG} (hG : xM1 G)  {p1 : Int32}  {s : xS} {r : Int32} {s' : xS} (hf : sX9_logsOf p1 s = some (r, s')) : xMet l G 7 yX9_logsOf cX9_logsOf 3 (some .int) [.ref (gA G 0), .int p1] s (xI r s') := by
  refine xMet.of (by decide) (Nat.le_of_ble_eq_true rfl) ?_
  show wk l G 7 RX9 cX9_logsOf 3 (some .int) (xI r s') 0 [(0, .ref (gA G 0)), (1, .int p1)] [] s
  unfold sX9_logsOf at hf
  refine wk_aload_n (pc := 0) dX9_logsOf_0 rfl 0 rfl ?_
  refine wk_getI (C := RX9) (T := TX9) (N := 24) (pc := 1) dX9_logsOf_1 (nm_0 hG).2 (nm_0 hG).1 rfl qU_X9 17 (by decide) qF_X9_272 rfl ?_
  refine wk_bipush (pc := 4) (v := (6 : Int32)) dX9_logsOf_4 (by decide) ?_
  refine wk_icmp_ne (pc := 6) (tgt := 29) dX9_logsOf_6 rfl hf (fun hf => ?_) (fun hf => ?_)
  · refine wk_aload_n (pc := 29) dX9_logsOf_29 rfl 0 rfl ?_
    refine wk_getI (C := RX9) (T := TX9) (N := 24) (pc := 30) dX9_logsOf_30 (nm_0 hG).2 (nm_0 hG).1 rfl qU_X9 17 (by decide) qF_X9_272 rfl ?_
    refine wk_iconst (pc := 33) (v := (4 : Int32)) dX9_logsOf_33 (by decide) ?_
    refine wk_icmp_ne (pc := 34) (tgt := 57) dX9_logsOf_34 rfl hf (fun hf => ?_) (fun hf => ?_)
    · refine wk_aload_n (pc := 57) dX9_logsOf_57 rfl 0 rfl ?_
      refine wk_iload_n (pc := 58) dX9_logsOf_58 rfl 1 rfl ?_
      obtain ⟨r59, s59, hc59, hf⟩ := xbind_some hf
      refine wk_callVI (pc := 59) (As := [.int p1]) (rest := []) (kX9_plainLogs l hG  hc59) cw_X9_293 (by decide) dX9_logsOf_59 (nm_0 hG).2 (nm_0 hG).1 rfl rfl rfl (Nat.le_of_ble_eq_true rfl) ?_
      exact wk_iret (pc := 62) dX9_logsOf_62 rfl (xI_of hf)
    · refine wk_aload_n (pc := 37) dX9_logsOf_37 rfl 0 rfl ?_
      refine wk_bipush (pc := 38) (v := (50 : Int32)) dX9_logsOf_38 (by decide) ?_
      obtain ⟨⟨⟩, s40, hc40, hf⟩ := xbind_some hf
      refine wk_callVU (pc := 40) (As := [.int (50 : Int32)]) (rest := []) (kX9_ran l hG  hc40) cw_X9_275 (by decide) dX9_logsOf_40 (nm_0 hG).2 (nm_0 hG).1 rfl rfl rfl (Nat.le_of_ble_eq_true rfl) ?_
      refine wk_aload_n (pc := 43) dX9_logsOf_43 rfl 0 rfl ?_
      refine wk_iload_n (pc := 44) dX9_logsOf_44 rfl 1 rfl ?_
      obtain ⟨r45, s45, hc45, hf⟩ := xbind_some hf
      refine wk_callVI (pc := 45) (As := [.int p1]) (rest := []) (kX9_plainLogs l hG  hc45) cw_X9_293 (by decide) dX9_logsOf_45 (nm_0 hG).2 (nm_0 hG).1 rfl rfl rfl (Nat.le_of_ble_eq_true rfl) ?_
      refine wk_istore_n (pc := 48) (lv' := [(2, .int r45), (0, .ref (gA G 0)), (1, .int p1)]) dX9_logsOf_48 rfl (by decide) rfl ?_
      refine wk_iload_n (pc := 49) dX9_logsOf_49 rfl 0 rfl ?_
      refine wk_aload_n (pc := 50) dX9_logsOf_50 rfl 1 rfl ?_
      refine wk_iconst (pc := 51) (v := (2 : Int32)) dX9_logsOf_51 (by decide) ?_
      obtain ⟨r52, s52, hc52, hf⟩ := xbind_some hf
      refine wk_callVI (pc := 52) (As := [.int (2 : Int32)]) (rest := [.int r45]) (kX9_sailsOf l hG  hc52) cw_X9_281 (by decide) dX9_logsOf_52 (nm_0 hG).2 (nm_0 hG).1 rfl rfl rfl (Nat.le_of_ble_eq_true rfl) ?_
      refine wk_isub (pc := 55) dX9_logsOf_55 ?_
      exact wk_iret (pc := 56) dX9_logsOf_56 rfl (xI_of hf)
  · refine wk_aload_n (pc := 9) dX9_logsOf_9 rfl 0 rfl ?_
    refine wk_bipush (pc := 10) (v := (71 : Int32)) dX9_logsOf_10 (by decide) ?_
    obtain ⟨⟨⟩, s12, hc12, hf⟩ := xbind_some hf
    refine wk_callVU (pc := 12) (As := [.int (71 : Int32)]) (rest := []) (kX9_ran l hG  hc12) cw_X9_275 (by decide) dX9_logsOf_12 (nm_0 hG).2 (nm_0 hG).1 rfl rfl rfl (Nat.le_of_ble_eq_true rfl) ?_
    refine wk_aload_n (pc := 15) dX9_logsOf_15 rfl 0 rfl ?_
    refine wk_iload_n (pc := 16) dX9_logsOf_16 rfl 1 rfl ?_
    obtain ⟨r17, s17, hc17, hf⟩ := xbind_some hf
    refine wk_callVI (pc := 17) (As := [.int p1]) (rest := []) (kX9_steersOf l hG  hc17) cw_X9_290 (by decide) dX9_logsOf_17 (nm_0 hG).2 (nm_0 hG).1 rfl rfl rfl (Nat.le_of_ble_eq_true rfl) ?_
    refine wk_istore_n (pc := 20) (lv' := [(2, .int r17), (0, .ref (gA G 0)), (1, .int p1)]) dX9_logsOf_20 rfl (by decide) rfl ?_
    refine wk_iload_n (pc := 21) dX9_logsOf_21 rfl 0 rfl ?_
    refine wk_aload_n (pc := 22) dX9_logsOf_22 rfl 1 rfl ?_
    refine wk_iload_n (pc := 23) dX9_logsOf_23 rfl 2 rfl ?_
    obtain ⟨r24, s24, hc24, hf⟩ := xbind_some hf
    refine wk_callVI (pc := 24) (As := [.int p1]) (rest := [.int r17]) (kX9_plainLogs l hG  hc24) cw_X9_293 (by decide) dX9_logsOf_24 (nm_0 hG).2 (nm_0 hG).1 rfl rfl rfl (Nat.le_of_ble_eq_true rfl) ?_
    refine wk_isub (pc := 27) dX9_logsOf_27 ?_
    exact wk_iret (pc := 28) dX9_logsOf_28 rfl (xI_of hf)
noncomputable def sX9_voice_L17   (s17 : xS) : Option (Int32 × xS) := xbind (sX9_finding (-1000000001 : Int32) s17) (fun r20 s20 => some (r20, s20))
noncomputable def sX9_voice (p1 : Int32) (p2 : Int32) (p3 : Int32) (s : xS) : Option (Int32 × xS) := xbind (sX9_isShip p1 s) (fun r2 s2 => (if r2 = 0 then sX9_voice_L17  s2 else xbind (sX9_within p2 (0 : Int32) (3 : Int32) s2) (fun r11 s11 => (if r11 = 0 then sX9_voice_L17  s11 else xlet (xup s11 0 (upd (s11 0) 16 (0 : Int32))) (fun s26 => xbind (sX9_shipIs p1 (0 : Int32) s26) (fun r33 s33 => xlet (xup s33 0 (upd (s33 0) 17 r33)) (fun s36 => xlet (xup s36 0 (upd (s36 0) 18 p1)) (fun s41 => xbind (sX9_shipIs p1 (1 : Int32) s41) (fun r48 s48 => xlet (xup s48 0 (upd (s48 0) 19 r48)) (fun s51 => (if p2 = 0 then xbind (sX9_sailsOf p3 s51) (fun r60 s60 => some (r60, s60)) else (if p2 = (1 : Int32) then xbind (sX9_steersOf p3 s51) (fun r73 s73 => some (r73, s73)) else (if p2 = (2 : Int32) then xbind (sX9_soundsOf p3 s51) (fun r86 s86 => some (r86, s86)) else xbind (sX9_logsOf p3 s51) (fun r94 s94 => some (r94, s94)))))))))))))))
set_option maxHeartbeats 4000000 in
set_option maxRecDepth 100000 in
theorem kX9_voice (l : Launch) {G : xG} (hG : xM1 G)  {p1 : Int32} {p2 : Int32} {p3 : Int32}  {s : xS} {r : Int32} {s' : xS} (hf : sX9_voice p1 p2 p3 s = some (r, s')) : xMet l G 8 yX9_voice cX9_voice 4 (some .int) [.ref (gA G 0), .int p1, .int p2, .int p3] s (xI r s') := by
  refine xMet.of (by decide) (Nat.le_of_ble_eq_true rfl) ?_
  show wk l G 8 RX9 cX9_voice 4 (some .int) (xI r s') 0 [(0, .ref (gA G 0)), (1, .int p1), (2, .int p2), (3, .int p3)] [] s
  unfold sX9_voice at hf
  have J17 : ∀     (s17 : xS), sX9_voice_L17  s17 = some (r, s') → wk l G 8 RX9 cX9_voice 4 (some .int) (xI r s') 17 [(0, .ref (gA G 0))] [] s17 := by
    intro s17 hf
    unfold sX9_voice_L17 at hf
    refine wk_aload_n (pc := 17) dX9_voice_17 rfl 0 rfl ?_
    refine wk_ldc (pc := 18) (v := (-1000000001 : Int32)) dX9_voice_18 qK_X9_81 ?_
    obtain ⟨r20, s20, hc20, hf⟩ := xbind_some hf
    refine wk_callVI (pc := 20) (As := [.int (-1000000001 : Int32)]) (rest := []) (kX9_finding l hG  hc20) cw_X9_82 (by decide) dX9_voice_20 (nm_0 hG).2 (nm_0 hG).1 rfl rfl rfl (Nat.le_of_ble_eq_true rfl) ?_
    exact wk_iret (pc := 23) dX9_voice_23 rfl (xI_of hf)
  refine wk_aload_n (pc := 0) dX9_voice_0 rfl 0 rfl ?_
  refine wk_iload_n (pc := 1) dX9_voice_1 rfl 1 rfl ?_
  obtain ⟨r2, s2, hc2, hf⟩ := xbind_some hf
  refine wk_callVI (pc := 2) (As := [.int p1]) (rest := []) (kX9_isShip l hG  hc2) cw_X9_218 (by decide) dX9_voice_2 (nm_0 hG).2 (nm_0 hG).1 rfl rfl rfl (Nat.le_of_ble_eq_true rfl) ?_
  refine wk_if_eq (pc := 5) (tgt := 17) dX9_voice_5 rfl hf (fun hf => ?_) (fun hf => ?_)
  · exact wk_lv [0] rfl (J17    s2 hf)
  · refine wk_iload_n (pc := 8) dX9_voice_8 rfl 2 rfl ?_
    refine wk_iconst (pc := 9) (v := (0 : Int32)) dX9_voice_9 (by decide) ?_
    refine wk_iconst (pc := 10) (v := (3 : Int32)) dX9_voice_10 (by decide) ?_
    obtain ⟨r11, s11, hc11, hf⟩ := xbind_some hf
    refine wk_callSI (pc := 11) (As := [.int p2, .int (0 : Int32), .int (3 : Int32)]) (rest := []) (kX9_within l hG  hc11) cw_X9_77 (by decide) dX9_voice_11 rfl (Nat.le_of_ble_eq_true rfl) ?_
    refine wk_if_ne (pc := 14) (tgt := 24) dX9_voice_14 rfl hf (fun hf => ?_) (fun hf => ?_)
    · refine wk_aload_n (pc := 24) dX9_voice_24 rfl 0 rfl ?_
      refine wk_iconst (pc := 25) (v := (0 : Int32)) dX9_voice_25 (by decide) ?_
      refine wk_putI (C := RX9) (T := TX9) (N := 24) (ty := .int) (pc := 26) dX9_voice_26 (nm_0 hG).2 (nm_0 hG).1 rfl qU_X9 tyX9 tyX9_ok nmX9 16 (by decide) qF_X9_269 rfl rfl rfl rfl rfl ?_
      obtain ⟨s26, hs26, hf⟩ := xlet_some hf
      refine wk_sig hs26 ?_
      refine wk_aload_n (pc := 29) dX9_voice_29 rfl 0 rfl ?_
      refine wk_aload_n (pc := 30) dX9_voice_30 rfl 0 rfl ?_
      refine wk_iload_n (pc := 31) dX9_voice_31 rfl 1 rfl ?_
      refine wk_iconst (pc := 32) (v := (0 : Int32)) dX9_voice_32 (by decide) ?_
      obtain ⟨r33, s33, hc33, hf⟩ := xbind_some hf
      refine wk_callVI (pc := 33) (As := [.int p1, .int (0 : Int32)]) (rest := [.ref (gA G 0)]) (kX9_shipIs l hG  hc33) cw_X9_191 (by decide) dX9_voice_33 (nm_0 hG).2 (nm_0 hG).1 rfl rfl rfl (Nat.le_of_ble_eq_true rfl) ?_
      refine wk_putI (C := RX9) (T := TX9) (N := 24) (ty := .int) (pc := 36) dX9_voice_36 (nm_0 hG).2 (nm_0 hG).1 rfl qU_X9 tyX9 tyX9_ok nmX9 17 (by decide) qF_X9_272 rfl rfl rfl rfl rfl ?_
      obtain ⟨s36, hs36, hf⟩ := xlet_some hf
      refine wk_sig hs36 ?_
      refine wk_aload_n (pc := 39) dX9_voice_39 rfl 0 rfl ?_
      refine wk_iload_n (pc := 40) dX9_voice_40 rfl 1 rfl ?_
      refine wk_putI (C := RX9) (T := TX9) (N := 24) (ty := .int) (pc := 41) dX9_voice_41 (nm_0 hG).2 (nm_0 hG).1 rfl qU_X9 tyX9 tyX9_ok nmX9 18 (by decide) qF_X9_278 rfl rfl rfl rfl rfl ?_
      obtain ⟨s41, hs41, hf⟩ := xlet_some hf
      refine wk_sig hs41 ?_
      refine wk_aload_n (pc := 44) dX9_voice_44 rfl 0 rfl ?_
      refine wk_aload_n (pc := 45) dX9_voice_45 rfl 0 rfl ?_
      refine wk_iload_n (pc := 46) dX9_voice_46 rfl 1 rfl ?_
      refine wk_iconst (pc := 47) (v := (1 : Int32)) dX9_voice_47 (by decide) ?_
      obtain ⟨r48, s48, hc48, hf⟩ := xbind_some hf
      refine wk_callVI (pc := 48) (As := [.int p1, .int (1 : Int32)]) (rest := [.ref (gA G 0)]) (kX9_shipIs l hG  hc48) cw_X9_191 (by decide) dX9_voice_48 (nm_0 hG).2 (nm_0 hG).1 rfl rfl rfl (Nat.le_of_ble_eq_true rfl) ?_
      refine wk_putI (C := RX9) (T := TX9) (N := 24) (ty := .int) (pc := 51) dX9_voice_51 (nm_0 hG).2 (nm_0 hG).1 rfl qU_X9 tyX9 tyX9_ok nmX9 19 (by decide) qF_X9_287 rfl rfl rfl rfl rfl ?_
      obtain ⟨s51, hs51, hf⟩ := xlet_some hf
      refine wk_sig hs51 ?_
      refine wk_iload_n (pc := 54) dX9_voice_54 rfl 2 rfl ?_
      refine wk_if_ne (pc := 55) (tgt := 66) dX9_voice_55 rfl hf (fun hf => ?_) (fun hf => ?_)
      · refine wk_iload_n (pc := 66) dX9_voice_66 rfl 2 rfl ?_
        refine wk_iconst (pc := 67) (v := (1 : Int32)) dX9_voice_67 (by decide) ?_
        refine wk_icmp_ne (pc := 68) (tgt := 79) dX9_voice_68 rfl hf (fun hf => ?_) (fun hf => ?_)
        · refine wk_iload_n (pc := 79) dX9_voice_79 rfl 2 rfl ?_
          refine wk_iconst (pc := 80) (v := (2 : Int32)) dX9_voice_80 (by decide) ?_
          refine wk_icmp_ne (pc := 81) (tgt := 92) dX9_voice_81 rfl hf (fun hf => ?_) (fun hf => ?_)
          · refine wk_aload_n (pc := 92) dX9_voice_92 rfl 0 rfl ?_
            refine wk_iload_n (pc := 93) dX9_voice_93 rfl 3 rfl ?_
            obtain ⟨r94, s94, hc94, hf⟩ := xbind_some hf
            refine wk_callVI (pc := 94) (As := [.int p3]) (rest := []) (kX9_logsOf l hG  hc94) cw_X9_296 (by decide) dX9_voice_94 (nm_0 hG).2 (nm_0 hG).1 rfl rfl rfl (Nat.le_of_ble_eq_true rfl) ?_
            exact wk_iret (pc := 97) dX9_voice_97 rfl (xI_of hf)
          · refine wk_aload_n (pc := 84) dX9_voice_84 rfl 0 rfl ?_
            refine wk_iload_n (pc := 85) dX9_voice_85 rfl 3 rfl ?_
            obtain ⟨r86, s86, hc86, hf⟩ := xbind_some hf
            refine wk_callVI (pc := 86) (As := [.int p3]) (rest := []) (kX9_soundsOf l hG  hc86) cw_X9_284 (by decide) dX9_voice_86 (nm_0 hG).2 (nm_0 hG).1 rfl rfl rfl (Nat.le_of_ble_eq_true rfl) ?_
            refine wk_goto (pc := 89) (tgt := 97) dX9_voice_89 rfl ?_
            exact wk_iret (pc := 97) dX9_voice_97 rfl (xI_of hf)
        · refine wk_aload_n (pc := 71) dX9_voice_71 rfl 0 rfl ?_
          refine wk_iload_n (pc := 72) dX9_voice_72 rfl 3 rfl ?_
          obtain ⟨r73, s73, hc73, hf⟩ := xbind_some hf
          refine wk_callVI (pc := 73) (As := [.int p3]) (rest := []) (kX9_steersOf l hG  hc73) cw_X9_290 (by decide) dX9_voice_73 (nm_0 hG).2 (nm_0 hG).1 rfl rfl rfl (Nat.le_of_ble_eq_true rfl) ?_
          refine wk_goto (pc := 76) (tgt := 97) dX9_voice_76 rfl ?_
          exact wk_iret (pc := 97) dX9_voice_97 rfl (xI_of hf)
      · refine wk_aload_n (pc := 58) dX9_voice_58 rfl 0 rfl ?_
        refine wk_iload_n (pc := 59) dX9_voice_59 rfl 3 rfl ?_
        obtain ⟨r60, s60, hc60, hf⟩ := xbind_some hf
        refine wk_callVI (pc := 60) (As := [.int p3]) (rest := []) (kX9_sailsOf l hG  hc60) cw_X9_281 (by decide) dX9_voice_60 (nm_0 hG).2 (nm_0 hG).1 rfl rfl rfl (Nat.le_of_ble_eq_true rfl) ?_
        refine wk_goto (pc := 63) (tgt := 97) dX9_voice_63 rfl ?_
        exact wk_iret (pc := 97) dX9_voice_97 rfl (xI_of hf)
    · exact wk_lv [0] rfl (J17    s11 hf)
noncomputable def sX9_trace (p1 : Int32) (s : xS) : Option (Int32 × xS) := xbind (sX9_within p1 (0 : Int32) ((s 0 16) - (1 : Int32)) s) (fun r8 s8 => (if r8 = 0 then xbind (sX9_finding (-1000000002 : Int32) s8) (fun r27 s27 => some (r27, s27)) else (if xin p1 40 then some ((s8 10 p1.toNatClampNeg), s8) else none)))
set_option maxHeartbeats 4000000 in
set_option maxRecDepth 100000 in
theorem kX9_trace (l : Launch) {G : xG} (hG : xM1 G)  {p1 : Int32}  {s : xS} {r : Int32} {s' : xS} (hf : sX9_trace p1 s = some (r, s')) : xMet l G 3 yX9_trace cX9_trace 2 (some .int) [.ref (gA G 0), .int p1] s (xI r s') := by
  refine xMet.of (by decide) (Nat.le_of_ble_eq_true rfl) ?_
  show wk l G 3 RX9 cX9_trace 2 (some .int) (xI r s') 0 [(0, .ref (gA G 0)), (1, .int p1)] [] s
  unfold sX9_trace at hf
  refine wk_iload_n (pc := 0) dX9_trace_0 rfl 1 rfl ?_
  refine wk_iconst (pc := 1) (v := (0 : Int32)) dX9_trace_1 (by decide) ?_
  refine wk_aload_n (pc := 2) dX9_trace_2 rfl 0 rfl ?_
  refine wk_getI (C := RX9) (T := TX9) (N := 24) (pc := 3) dX9_trace_3 (nm_0 hG).2 (nm_0 hG).1 rfl qU_X9 16 (by decide) qF_X9_269 rfl ?_
  refine wk_iconst (pc := 6) (v := (1 : Int32)) dX9_trace_6 (by decide) ?_
  refine wk_isub (pc := 7) dX9_trace_7 ?_
  obtain ⟨r8, s8, hc8, hf⟩ := xbind_some hf
  refine wk_callSI (pc := 8) (As := [.int p1, .int (0 : Int32), .int ((s 0 16) - (1 : Int32))]) (rest := []) (kX9_within l hG  hc8) cw_X9_77 (by decide) dX9_trace_8 rfl (Nat.le_of_ble_eq_true rfl) ?_
  refine wk_if_eq (pc := 11) (tgt := 23) dX9_trace_11 rfl hf (fun hf => ?_) (fun hf => ?_)
  · refine wk_aload_n (pc := 23) dX9_trace_23 rfl 0 rfl ?_
    refine wk_ldcw (pc := 24) (v := (-1000000002 : Int32)) dX9_trace_24 qK_X9_256 ?_
    obtain ⟨r27, s27, hc27, hf⟩ := xbind_some hf
    refine wk_callVI (pc := 27) (As := [.int (-1000000002 : Int32)]) (rest := []) (kX9_finding l hG  hc27) cw_X9_82 (by decide) dX9_trace_27 (nm_0 hG).2 (nm_0 hG).1 rfl rfl rfl (Nat.le_of_ble_eq_true rfl) ?_
    exact wk_iret (pc := 30) dX9_trace_30 rfl (xI_of hf)
  · refine wk_aload_n (pc := 14) dX9_trace_14 rfl 0 rfl ?_
    refine wk_getR (C := RX9) (T := TX9) (N := 24) (pc := 15) dX9_trace_15 (nm_0 hG).2 (nm_0 hG).1 rfl qU_X9 15 (by decide) qF_X9_44 rfl ?_
    refine wk_iload_n (pc := 18) dX9_trace_18 rfl 1 rfl ?_
    obtain ⟨h19, hf⟩ := xif_some hf
    refine wk_iald (pc := 19) (jj := p1.toNatClampNeg) dX9_trace_19 (nm_10 hG).2 (nm_10 hG).1 h19 rfl ?_
    refine wk_goto (pc := 20) (tgt := 30) dX9_trace_20 rfl ?_
    exact wk_iret (pc := 30) dX9_trace_30 rfl (xI_of hf)
noncomputable def sX9_sheet_L93 (p1 : Int32) (self93 : Int32 → xS → Option (Int32 × xS)) : Int32 → xS → Option (Int32 × xS) := fun a4_93 s93 => (if (40 : Int32) ≤ a4_93 then some ((1 : Int32), s93) else (if xin (((40 : Int32) * p1) + a4_93) 160 then xlet (xup s93 13 (upd (s93 13) (((40 : Int32) * p1) + a4_93).toNatClampNeg (0 : Int32))) (fun s112 => xlet (a4_93 + (1 : Int32)) (fun y113 => self93 y113 s112)) else none))
noncomputable def sX9_sheet_L89 (p1 : Int32) (y89d : Int32)  (s89 : xS) : Option (Int32 × xS) := (if xin p1 4 then xlet (xup s89 12 (upd (s89 12) p1.toNatClampNeg y89d)) (fun s89b => xloop (sX9_sheet_L93 p1) xF (0 : Int32) s89b) else none)
noncomputable def sX9_sheet_L68 (p1 : Int32) (p2 : Int32) (p3 : Int32)  (s68 : xS) : Option (Int32 × xS) := (if xin p1 4 then xlet (xup s68 11 (upd (s68 11) p1.toNatClampNeg p2)) (fun s74 => xlet ((if p2 = 0 then (0 : Int32) else p3)) (fun y89d => (sX9_sheet_L89 p1 y89d)  s74)) else none)
noncomputable def sX9_sheet_L51 (p1 : Int32) (p2 : Int32) (p3 : Int32)  (s51 : xS) : Option (Int32 × xS) := (if p2 = 0 then (sX9_sheet_L68 p1 p2 p3)  s51 else (if p3 ≤ (40 : Int32) then (sX9_sheet_L68 p1 p2 p3)  s51 else xbind (sX9_finding (-1000000001 : Int32) s51) (fun r64 s64 => some (r64, s64))))
noncomputable def sX9_sheet_L36 (p1 : Int32) (p2 : Int32) (p3 : Int32)  (s36 : xS) : Option (Int32 × xS) := (if p2 = 0 then (sX9_sheet_L51 p1 p2 p3)  s36 else (if 0 ≤ p3 then (sX9_sheet_L51 p1 p2 p3)  s36 else xbind (sX9_finding (-1000000003 : Int32) s36) (fun r47 s47 => some (r47, s47))))
noncomputable def sX9_sheet_L29   (s29 : xS) : Option (Int32 × xS) := xbind (sX9_finding (-1000000001 : Int32) s29) (fun r32 s32 => some (r32, s32))
noncomputable def sX9_sheet (p1 : Int32) (p2 : Int32) (p3 : Int32) (s : xS) : Option (Int32 × xS) := xbind (sX9_isSheet p1 s) (fun r1 s1 => (if r1 = 0 then sX9_sheet_L29  s1 else (if p2 = 0 then (sX9_sheet_L36 p1 p2 p3)  s1 else (if p2 = (8 : Int32) then (sX9_sheet_L36 p1 p2 p3)  s1 else (if p2 = (16 : Int32) then (sX9_sheet_L36 p1 p2 p3)  s1 else (if p2 = (32 : Int32) then (sX9_sheet_L36 p1 p2 p3)  s1 else sX9_sheet_L29  s1))))))
set_option maxHeartbeats 4000000 in
set_option maxRecDepth 100000 in
theorem kX9_sheet (l : Launch) {G : xG} (hG : xM1 G)  {p1 : Int32} {p2 : Int32} {p3 : Int32}  {s : xS} {r : Int32} {s' : xS} (hf : sX9_sheet p1 p2 p3 s = some (r, s')) : xMet l G 4 yX9_sheet cX9_sheet 5 (some .int) [.ref (gA G 0), .int p1, .int p2, .int p3] s (xI r s') := by
  refine xMet.of (by decide) (Nat.le_of_ble_eq_true rfl) ?_
  show wk l G 4 RX9 cX9_sheet 5 (some .int) (xI r s') 0 [(0, .ref (gA G 0)), (1, .int p1), (2, .int p2), (3, .int p3)] [] s
  unfold sX9_sheet at hf
  have J93 : ∀   (N : Nat) (a4_93 : Int32)  (s93 : xS), xloop (sX9_sheet_L93 p1) N a4_93 s93 = some (r, s') → wk l G 4 RX9 cX9_sheet 5 (some .int) (xI r s') 93 [(0, .ref (gA G 0)), (1, .int p1), (4, .int a4_93)] [] s93 := by
    intro N
    induction N with
    | zero => intro a4_93 s93 hf; exact (xloop_0 hf).elim
    | succ N ih93 =>
      intro a4_93 s93 hf
      rw [xloop_s] at hf
      generalize xloop (sX9_sheet_L93 p1) N = self93 at hf ih93
      unfold sX9_sheet_L93 at hf
      refine wk_iload (pc := 93) dX9_sheet_93 2 rfl ?_
      refine wk_bipush (pc := 95) (v := (40 : Int32)) dX9_sheet_95 (by decide) ?_
      refine wk_icmp_ge (pc := 97) (tgt := 119) dX9_sheet_97 rfl hf (fun hf => ?_) (fun hf => ?_)
      · refine wk_iconst (pc := 119) (v := (1 : Int32)) dX9_sheet_119 (by decide) ?_
        exact wk_iret (pc := 120) dX9_sheet_120 rfl (xI_of hf)
      · refine wk_aload_n (pc := 100) dX9_sheet_100 rfl 0 rfl ?_
        refine wk_getR (C := RX9) (T := TX9) (N := 24) (pc := 101) dX9_sheet_101 (nm_0 hG).2 (nm_0 hG).1 rfl qU_X9 22 (by decide) qF_X9_53 rfl ?_
        refine wk_bipush (pc := 104) (v := (40 : Int32)) dX9_sheet_104 (by decide) ?_
        refine wk_iload_n (pc := 106) dX9_sheet_106 rfl 1 rfl ?_
        refine wk_imul (pc := 107) dX9_sheet_107 ?_
        refine wk_iload (pc := 108) dX9_sheet_108 2 rfl ?_
        refine wk_iadd (pc := 110) dX9_sheet_110 ?_
        refine wk_iconst (pc := 111) (v := (0 : Int32)) dX9_sheet_111 (by decide) ?_
        obtain ⟨h112, hf⟩ := xif_some hf
        refine wk_iast (pc := 112) (jj := (((40 : Int32) * p1) + a4_93).toNatClampNeg) dX9_sheet_112 (nm_13 hG).2 (nm_13 hG).1 h112 rfl ?_
        obtain ⟨s112, hs112, hf⟩ := xlet_some hf
        refine wk_sig hs112 ?_
        obtain ⟨y113, hy113, hf⟩ := xlet_some hf
        refine wk_iinc (pc := 113) (v := y113) (lv' := [(4, .int y113), (0, .ref (gA G 0)), (1, .int p1)]) dX9_sheet_113 2 rfl (by rw [hy113] <;> rfl) (by decide) rfl ?_
        refine wk_goto (pc := 116) (tgt := 93) dX9_sheet_116 rfl ?_
        exact wk_lv [1, 2, 0] rfl (ih93 y113  s112 hf)
  have J89 : ∀ (y89d : Int32)    (s89 : xS), (sX9_sheet_L89 p1 y89d)  s89 = some (r, s') → wk l G 4 RX9 cX9_sheet 5 (some .int) (xI r s') 89 [(0, .ref (gA G 0)), (1, .int p1)] [.int y89d, .int p1, .ref (gA G 12)] s89 := by
    intro y89d s89 hf
    unfold sX9_sheet_L89 at hf
    obtain ⟨h89, hf⟩ := xif_some hf
    refine wk_iast (pc := 89) (jj := p1.toNatClampNeg) dX9_sheet_89 (nm_12 hG).2 (nm_12 hG).1 h89 rfl ?_
    obtain ⟨s89b, hs89b, hf⟩ := xlet_some hf
    refine wk_sig hs89b ?_
    refine wk_iconst (pc := 90) (v := (0 : Int32)) dX9_sheet_90 (by decide) ?_
    refine wk_istore (pc := 91) (lv' := [(4, .int (0 : Int32)), (0, .ref (gA G 0)), (1, .int p1)]) dX9_sheet_91 (by decide) rfl ?_
    exact wk_lv [1, 2, 0] rfl (J93  xF (0 : Int32)  s89b hf)
  have J68 : ∀     (s68 : xS), (sX9_sheet_L68 p1 p2 p3)  s68 = some (r, s') → wk l G 4 RX9 cX9_sheet 5 (some .int) (xI r s') 68 [(0, .ref (gA G 0)), (1, .int p1), (2, .int p2), (3, .int p3)] [] s68 := by
    intro s68 hf
    unfold sX9_sheet_L68 at hf
    refine wk_aload_n (pc := 68) dX9_sheet_68 rfl 0 rfl ?_
    refine wk_getR (C := RX9) (T := TX9) (N := 24) (pc := 69) dX9_sheet_69 (nm_0 hG).2 (nm_0 hG).1 rfl qU_X9 20 (by decide) qF_X9_47 rfl ?_
    refine wk_iload_n (pc := 72) dX9_sheet_72 rfl 1 rfl ?_
    refine wk_iload_n (pc := 73) dX9_sheet_73 rfl 2 rfl ?_
    obtain ⟨h74, hf⟩ := xif_some hf
    refine wk_iast (pc := 74) (jj := p1.toNatClampNeg) dX9_sheet_74 (nm_11 hG).2 (nm_11 hG).1 h74 rfl ?_
    obtain ⟨s74, hs74, hf⟩ := xlet_some hf
    refine wk_sig hs74 ?_
    refine wk_aload_n (pc := 75) dX9_sheet_75 rfl 0 rfl ?_
    refine wk_getR (C := RX9) (T := TX9) (N := 24) (pc := 76) dX9_sheet_76 (nm_0 hG).2 (nm_0 hG).1 rfl qU_X9 21 (by decide) qF_X9_50 rfl ?_
    refine wk_iload_n (pc := 79) dX9_sheet_79 rfl 1 rfl ?_
    refine wk_iload_n (pc := 80) dX9_sheet_80 rfl 2 rfl ?_
    obtain ⟨y89d, hy89d, hf⟩ := xlet_some hf
    have K89 : wk l G 4 RX9 cX9_sheet 5 (some .int) (xI r s') 89 [(0, .ref (gA G 0)), (1, .int p1), (2, .int p2), (3, .int p3)] [.int y89d, .int p1, .ref (gA G 12)] s74 := by
      exact wk_lv [0, 1] rfl (J89 y89d   s74 hf)
    by_cases c81 : p2 = 0
    · rw [if_pos c81] at hy89d
      refine wk_if_ne_p (pc := 81) (tgt := 88) dX9_sheet_81 rfl c81 ?_
      refine wk_iconst (pc := 84) (v := (0 : Int32)) dX9_sheet_84 (by decide) ?_
      refine wk_goto (pc := 85) (tgt := 89) dX9_sheet_85 rfl ?_
      exact wk_top hy89d K89
    · rw [if_neg c81] at hy89d
      refine wk_if_ne_m (pc := 81) (tgt := 88) dX9_sheet_81 rfl c81 ?_
      refine wk_iload_n (pc := 88) dX9_sheet_88 rfl 3 rfl ?_
      exact wk_top hy89d K89
  have J51 : ∀     (s51 : xS), (sX9_sheet_L51 p1 p2 p3)  s51 = some (r, s') → wk l G 4 RX9 cX9_sheet 5 (some .int) (xI r s') 51 [(0, .ref (gA G 0)), (1, .int p1), (2, .int p2), (3, .int p3)] [] s51 := by
    intro s51 hf
    unfold sX9_sheet_L51 at hf
    refine wk_iload_n (pc := 51) dX9_sheet_51 rfl 2 rfl ?_
    refine wk_if_eq (pc := 52) (tgt := 68) dX9_sheet_52 rfl hf (fun hf => ?_) (fun hf => ?_)
    · exact wk_lv [0, 1, 2, 3] rfl (J68    s51 hf)
    · refine wk_iload_n (pc := 55) dX9_sheet_55 rfl 3 rfl ?_
      refine wk_bipush (pc := 56) (v := (40 : Int32)) dX9_sheet_56 (by decide) ?_
      refine wk_icmp_le (pc := 58) (tgt := 68) dX9_sheet_58 rfl hf (fun hf => ?_) (fun hf => ?_)
      · exact wk_lv [0, 1, 2, 3] rfl (J68    s51 hf)
      · refine wk_aload_n (pc := 61) dX9_sheet_61 rfl 0 rfl ?_
        refine wk_ldc (pc := 62) (v := (-1000000001 : Int32)) dX9_sheet_62 qK_X9_81 ?_
        obtain ⟨r64, s64, hc64, hf⟩ := xbind_some hf
        refine wk_callVI (pc := 64) (As := [.int (-1000000001 : Int32)]) (rest := []) (kX9_finding l hG  hc64) cw_X9_82 (by decide) dX9_sheet_64 (nm_0 hG).2 (nm_0 hG).1 rfl rfl rfl (Nat.le_of_ble_eq_true rfl) ?_
        exact wk_iret (pc := 67) dX9_sheet_67 rfl (xI_of hf)
  have J36 : ∀     (s36 : xS), (sX9_sheet_L36 p1 p2 p3)  s36 = some (r, s') → wk l G 4 RX9 cX9_sheet 5 (some .int) (xI r s') 36 [(0, .ref (gA G 0)), (1, .int p1), (2, .int p2), (3, .int p3)] [] s36 := by
    intro s36 hf
    unfold sX9_sheet_L36 at hf
    refine wk_iload_n (pc := 36) dX9_sheet_36 rfl 2 rfl ?_
    refine wk_if_eq (pc := 37) (tgt := 51) dX9_sheet_37 rfl hf (fun hf => ?_) (fun hf => ?_)
    · exact wk_lv [0, 1, 2, 3] rfl (J51    s36 hf)
    · refine wk_iload_n (pc := 40) dX9_sheet_40 rfl 3 rfl ?_
      refine wk_if_ge (pc := 41) (tgt := 51) dX9_sheet_41 rfl hf (fun hf => ?_) (fun hf => ?_)
      · exact wk_lv [0, 1, 2, 3] rfl (J51    s36 hf)
      · refine wk_aload_n (pc := 44) dX9_sheet_44 rfl 0 rfl ?_
        refine wk_ldc (pc := 45) (v := (-1000000003 : Int32)) dX9_sheet_45 qK_X9_174 ?_
        obtain ⟨r47, s47, hc47, hf⟩ := xbind_some hf
        refine wk_callVI (pc := 47) (As := [.int (-1000000003 : Int32)]) (rest := []) (kX9_finding l hG  hc47) cw_X9_82 (by decide) dX9_sheet_47 (nm_0 hG).2 (nm_0 hG).1 rfl rfl rfl (Nat.le_of_ble_eq_true rfl) ?_
        exact wk_iret (pc := 50) dX9_sheet_50 rfl (xI_of hf)
  have J29 : ∀     (s29 : xS), sX9_sheet_L29  s29 = some (r, s') → wk l G 4 RX9 cX9_sheet 5 (some .int) (xI r s') 29 [(0, .ref (gA G 0))] [] s29 := by
    intro s29 hf
    unfold sX9_sheet_L29 at hf
    refine wk_aload_n (pc := 29) dX9_sheet_29 rfl 0 rfl ?_
    refine wk_ldc (pc := 30) (v := (-1000000001 : Int32)) dX9_sheet_30 qK_X9_81 ?_
    obtain ⟨r32, s32, hc32, hf⟩ := xbind_some hf
    refine wk_callVI (pc := 32) (As := [.int (-1000000001 : Int32)]) (rest := []) (kX9_finding l hG  hc32) cw_X9_82 (by decide) dX9_sheet_32 (nm_0 hG).2 (nm_0 hG).1 rfl rfl rfl (Nat.le_of_ble_eq_true rfl) ?_
    exact wk_iret (pc := 35) dX9_sheet_35 rfl (xI_of hf)
  refine wk_iload_n (pc := 0) dX9_sheet_0 rfl 1 rfl ?_
  obtain ⟨r1, s1, hc1, hf⟩ := xbind_some hf
  refine wk_callSI (pc := 1) (As := [.int p1]) (rest := []) (kX9_isSheet l hG  hc1) cw_X9_263 (by decide) dX9_sheet_1 rfl (Nat.le_of_ble_eq_true rfl) ?_
  refine wk_if_eq (pc := 4) (tgt := 29) dX9_sheet_4 rfl hf (fun hf => ?_) (fun hf => ?_)
  · exact wk_lv [0] rfl (J29    s1 hf)
  · refine wk_iload_n (pc := 7) dX9_sheet_7 rfl 2 rfl ?_
    refine wk_if_eq (pc := 8) (tgt := 36) dX9_sheet_8 rfl hf (fun hf => ?_) (fun hf => ?_)
    · exact wk_lv [0, 1, 2, 3] rfl (J36    s1 hf)
    · refine wk_iload_n (pc := 11) dX9_sheet_11 rfl 2 rfl ?_
      refine wk_bipush (pc := 12) (v := (8 : Int32)) dX9_sheet_12 (by decide) ?_
      refine wk_icmp_eq (pc := 14) (tgt := 36) dX9_sheet_14 rfl hf (fun hf => ?_) (fun hf => ?_)
      · exact wk_lv [0, 1, 2, 3] rfl (J36    s1 hf)
      · refine wk_iload_n (pc := 17) dX9_sheet_17 rfl 2 rfl ?_
        refine wk_bipush (pc := 18) (v := (16 : Int32)) dX9_sheet_18 (by decide) ?_
        refine wk_icmp_eq (pc := 20) (tgt := 36) dX9_sheet_20 rfl hf (fun hf => ?_) (fun hf => ?_)
        · exact wk_lv [0, 1, 2, 3] rfl (J36    s1 hf)
        · refine wk_iload_n (pc := 23) dX9_sheet_23 rfl 2 rfl ?_
          refine wk_bipush (pc := 24) (v := (32 : Int32)) dX9_sheet_24 (by decide) ?_
          refine wk_icmp_eq (pc := 26) (tgt := 36) dX9_sheet_26 rfl hf (fun hf => ?_) (fun hf => ?_)
          · exact wk_lv [0, 1, 2, 3] rfl (J36    s1 hf)
          · exact wk_lv [0] rfl (J29    s1 hf)
noncomputable def sX9_put_L97 (p1 : Int32) (p2 : Int32) (t0_97 : Int32) (s97 : xS) : Option (Int32 × xS) := (if xin (((40 : Int32) * p1) + p2) 160 then xlet (xup s97 13 (upd (s97 13) (((40 : Int32) * p1) + p2).toNatClampNeg t0_97)) (fun s97b => some ((1 : Int32), s97b)) else none)
noncomputable def sX9_put (p1 : Int32) (p2 : Int32) (p3 : Int32) (s : xS) : Option (Int32 × xS) := xbind (sX9_isSheet p1 s) (fun r1 s1 => (if r1 = 0 then xbind (sX9_finding (-1000000001 : Int32) s1) (fun r10 s10 => some (r10, s10)) else (if xin p1 4 then (if (s1 11 p1.toNatClampNeg) = 0 then xbind (sX9_finding (-1000000002 : Int32) s1) (fun r27 s27 => some (r27, s27)) else (if xin p1 4 then xbind (sX9_within p2 (0 : Int32) ((s1 12 p1.toNatClampNeg) - (1 : Int32)) s1) (fun r41 s41 => (if r41 = 0 then xbind (sX9_finding (-1000000001 : Int32) s41) (fun r50 s50 => some (r50, s50)) else (if xin p1 4 then (if (s41 11 p1.toNatClampNeg) = (8 : Int32) then (sX9_put_L97 p1 p2) (p3.toInt8.toInt32) s41 else (if xin p1 4 then (if (s41 11 p1.toNatClampNeg) = (16 : Int32) then (sX9_put_L97 p1 p2) (p3.toInt16.toInt32) s41 else (sX9_put_L97 p1 p2) p3 s41) else none)) else none))) else none)) else none)))
set_option maxHeartbeats 4000000 in
set_option maxRecDepth 100000 in
theorem kX9_put (l : Launch) {G : xG} (hG : xM1 G)  {p1 : Int32} {p2 : Int32} {p3 : Int32}  {s : xS} {r : Int32} {s' : xS} (hf : sX9_put p1 p2 p3 s = some (r, s')) : xMet l G 4 yX9_put cX9_put 4 (some .int) [.ref (gA G 0), .int p1, .int p2, .int p3] s (xI r s') := by
  refine xMet.of (by decide) (Nat.le_of_ble_eq_true rfl) ?_
  show wk l G 4 RX9 cX9_put 4 (some .int) (xI r s') 0 [(0, .ref (gA G 0)), (1, .int p1), (2, .int p2), (3, .int p3)] [] s
  unfold sX9_put at hf
  have J97 : ∀   (t0_97 : Int32)  (s97 : xS), (sX9_put_L97 p1 p2) t0_97 s97 = some (r, s') → wk l G 4 RX9 cX9_put 4 (some .int) (xI r s') 97 [] [.int t0_97, .int (((40 : Int32) * p1) + p2), .ref (gA G 13)] s97 := by
    intro t0_97 s97 hf
    unfold sX9_put_L97 at hf
    obtain ⟨h97, hf⟩ := xif_some hf
    refine wk_iast (pc := 97) (jj := (((40 : Int32) * p1) + p2).toNatClampNeg) dX9_put_97 (nm_13 hG).2 (nm_13 hG).1 h97 rfl ?_
    obtain ⟨s97b, hs97b, hf⟩ := xlet_some hf
    refine wk_sig hs97b ?_
    refine wk_iconst (pc := 98) (v := (1 : Int32)) dX9_put_98 (by decide) ?_
    exact wk_iret (pc := 99) dX9_put_99 rfl (xI_of hf)
  refine wk_iload_n (pc := 0) dX9_put_0 rfl 1 rfl ?_
  obtain ⟨r1, s1, hc1, hf⟩ := xbind_some hf
  refine wk_callSI (pc := 1) (As := [.int p1]) (rest := []) (kX9_isSheet l hG  hc1) cw_X9_263 (by decide) dX9_put_1 rfl (Nat.le_of_ble_eq_true rfl) ?_
  refine wk_if_ne (pc := 4) (tgt := 14) dX9_put_4 rfl hf (fun hf => ?_) (fun hf => ?_)
  · refine wk_aload_n (pc := 14) dX9_put_14 rfl 0 rfl ?_
    refine wk_getR (C := RX9) (T := TX9) (N := 24) (pc := 15) dX9_put_15 (nm_0 hG).2 (nm_0 hG).1 rfl qU_X9 20 (by decide) qF_X9_47 rfl ?_
    refine wk_iload_n (pc := 18) dX9_put_18 rfl 1 rfl ?_
    obtain ⟨h19, hf⟩ := xif_some hf
    refine wk_iald (pc := 19) (jj := p1.toNatClampNeg) dX9_put_19 (nm_11 hG).2 (nm_11 hG).1 h19 rfl ?_
    refine wk_if_ne (pc := 20) (tgt := 31) dX9_put_20 rfl hf (fun hf => ?_) (fun hf => ?_)
    · refine wk_iload_n (pc := 31) dX9_put_31 rfl 2 rfl ?_
      refine wk_iconst (pc := 32) (v := (0 : Int32)) dX9_put_32 (by decide) ?_
      refine wk_aload_n (pc := 33) dX9_put_33 rfl 0 rfl ?_
      refine wk_getR (C := RX9) (T := TX9) (N := 24) (pc := 34) dX9_put_34 (nm_0 hG).2 (nm_0 hG).1 rfl qU_X9 21 (by decide) qF_X9_50 rfl ?_
      refine wk_iload_n (pc := 37) dX9_put_37 rfl 1 rfl ?_
      obtain ⟨h38, hf⟩ := xif_some hf
      refine wk_iald (pc := 38) (jj := p1.toNatClampNeg) dX9_put_38 (nm_12 hG).2 (nm_12 hG).1 h38 rfl ?_
      refine wk_iconst (pc := 39) (v := (1 : Int32)) dX9_put_39 (by decide) ?_
      refine wk_isub (pc := 40) dX9_put_40 ?_
      obtain ⟨r41, s41, hc41, hf⟩ := xbind_some hf
      refine wk_callSI (pc := 41) (As := [.int p2, .int (0 : Int32), .int ((s1 12 p1.toNatClampNeg) - (1 : Int32))]) (rest := []) (kX9_within l hG  hc41) cw_X9_77 (by decide) dX9_put_41 rfl (Nat.le_of_ble_eq_true rfl) ?_
      refine wk_if_ne (pc := 44) (tgt := 54) dX9_put_44 rfl hf (fun hf => ?_) (fun hf => ?_)
      · refine wk_aload_n (pc := 54) dX9_put_54 rfl 0 rfl ?_
        refine wk_getR (C := RX9) (T := TX9) (N := 24) (pc := 55) dX9_put_55 (nm_0 hG).2 (nm_0 hG).1 rfl qU_X9 22 (by decide) qF_X9_53 rfl ?_
        refine wk_bipush (pc := 58) (v := (40 : Int32)) dX9_put_58 (by decide) ?_
        refine wk_iload_n (pc := 60) dX9_put_60 rfl 1 rfl ?_
        refine wk_imul (pc := 61) dX9_put_61 ?_
        refine wk_iload_n (pc := 62) dX9_put_62 rfl 2 rfl ?_
        refine wk_iadd (pc := 63) dX9_put_63 ?_
        refine wk_aload_n (pc := 64) dX9_put_64 rfl 0 rfl ?_
        refine wk_getR (C := RX9) (T := TX9) (N := 24) (pc := 65) dX9_put_65 (nm_0 hG).2 (nm_0 hG).1 rfl qU_X9 20 (by decide) qF_X9_47 rfl ?_
        refine wk_iload_n (pc := 68) dX9_put_68 rfl 1 rfl ?_
        obtain ⟨h69, hf⟩ := xif_some hf
        refine wk_iald (pc := 69) (jj := p1.toNatClampNeg) dX9_put_69 (nm_11 hG).2 (nm_11 hG).1 h69 rfl ?_
        refine wk_bipush (pc := 70) (v := (8 : Int32)) dX9_put_70 (by decide) ?_
        refine wk_icmp_ne (pc := 72) (tgt := 80) dX9_put_72 rfl hf (fun hf => ?_) (fun hf => ?_)
        · refine wk_aload_n (pc := 80) dX9_put_80 rfl 0 rfl ?_
          refine wk_getR (C := RX9) (T := TX9) (N := 24) (pc := 81) dX9_put_81 (nm_0 hG).2 (nm_0 hG).1 rfl qU_X9 20 (by decide) qF_X9_47 rfl ?_
          refine wk_iload_n (pc := 84) dX9_put_84 rfl 1 rfl ?_
          obtain ⟨h85, hf⟩ := xif_some hf
          refine wk_iald (pc := 85) (jj := p1.toNatClampNeg) dX9_put_85 (nm_11 hG).2 (nm_11 hG).1 h85 rfl ?_
          refine wk_bipush (pc := 86) (v := (16 : Int32)) dX9_put_86 (by decide) ?_
          refine wk_icmp_ne (pc := 88) (tgt := 96) dX9_put_88 rfl hf (fun hf => ?_) (fun hf => ?_)
          · refine wk_iload_n (pc := 96) dX9_put_96 rfl 3 rfl ?_
            exact wk_lv [] rfl (J97  p3  s41 hf)
          · refine wk_iload_n (pc := 91) dX9_put_91 rfl 3 rfl ?_
            refine wk_i2s (pc := 92) dX9_put_92 ?_
            refine wk_goto (pc := 93) (tgt := 97) dX9_put_93 rfl ?_
            exact wk_lv [] rfl (J97  (p3.toInt16.toInt32)  s41 hf)
        · refine wk_iload_n (pc := 75) dX9_put_75 rfl 3 rfl ?_
          refine wk_i2b (pc := 76) dX9_put_76 ?_
          refine wk_goto (pc := 77) (tgt := 97) dX9_put_77 rfl ?_
          exact wk_lv [] rfl (J97  (p3.toInt8.toInt32)  s41 hf)
      · refine wk_aload_n (pc := 47) dX9_put_47 rfl 0 rfl ?_
        refine wk_ldc (pc := 48) (v := (-1000000001 : Int32)) dX9_put_48 qK_X9_81 ?_
        obtain ⟨r50, s50, hc50, hf⟩ := xbind_some hf
        refine wk_callVI (pc := 50) (As := [.int (-1000000001 : Int32)]) (rest := []) (kX9_finding l hG  hc50) cw_X9_82 (by decide) dX9_put_50 (nm_0 hG).2 (nm_0 hG).1 rfl rfl rfl (Nat.le_of_ble_eq_true rfl) ?_
        exact wk_iret (pc := 53) dX9_put_53 rfl (xI_of hf)
    · refine wk_aload_n (pc := 23) dX9_put_23 rfl 0 rfl ?_
      refine wk_ldcw (pc := 24) (v := (-1000000002 : Int32)) dX9_put_24 qK_X9_256 ?_
      obtain ⟨r27, s27, hc27, hf⟩ := xbind_some hf
      refine wk_callVI (pc := 27) (As := [.int (-1000000002 : Int32)]) (rest := []) (kX9_finding l hG  hc27) cw_X9_82 (by decide) dX9_put_27 (nm_0 hG).2 (nm_0 hG).1 rfl rfl rfl (Nat.le_of_ble_eq_true rfl) ?_
      exact wk_iret (pc := 30) dX9_put_30 rfl (xI_of hf)
  · refine wk_aload_n (pc := 7) dX9_put_7 rfl 0 rfl ?_
    refine wk_ldc (pc := 8) (v := (-1000000001 : Int32)) dX9_put_8 qK_X9_81 ?_
    obtain ⟨r10, s10, hc10, hf⟩ := xbind_some hf
    refine wk_callVI (pc := 10) (As := [.int (-1000000001 : Int32)]) (rest := []) (kX9_finding l hG  hc10) cw_X9_82 (by decide) dX9_put_10 (nm_0 hG).2 (nm_0 hG).1 rfl rfl rfl (Nat.le_of_ble_eq_true rfl) ?_
    exact wk_iret (pc := 13) dX9_put_13 rfl (xI_of hf)
noncomputable def sX9_move_L165 (p3 : Int32) (p4 : Int32) (p5 : Int32) (self165 : Int32 → xS → Option (Int32 × xS)) : Int32 → xS → Option (Int32 × xS) := fun a6_165 s165 => (if p5 ≤ a6_165 then some (p5, s165) else (if xin a6_165 40 then (if xin ((((40 : Int32) * p3) + p4) + a6_165) 160 then xlet (xup s165 13 (upd (s165 13) ((((40 : Int32) * p3) + p4) + a6_165).toNatClampNeg (s165 14 a6_165.toNatClampNeg))) (fun s193 => xlet (a6_165 + (1 : Int32)) (fun y194 => self165 y194 s193)) else none) else none))
noncomputable def sX9_move_L128 (p1 : Int32) (p2 : Int32) (p3 : Int32) (p4 : Int32) (p5 : Int32) (self128 : Int32 → xS → Option (Int32 × xS)) : Int32 → xS → Option (Int32 × xS) := fun a6_128 s128 => (if p5 ≤ a6_128 then xloop (sX9_move_L165 p3 p4 p5) xF (0 : Int32) s128 else (if xin ((((40 : Int32) * p1) + p2) + a6_128) 160 then (if xin a6_128 40 then xlet (xup s128 14 (upd (s128 14) a6_128.toNatClampNeg (s128 13 ((((40 : Int32) * p1) + p2) + a6_128).toNatClampNeg))) (fun s155 => xlet (a6_128 + (1 : Int32)) (fun y156 => self128 y156 s155)) else none) else none))
noncomputable def sX9_move_L118   (s118 : xS) : Option (Int32 × xS) := xbind (sX9_finding (-1000000001 : Int32) s118) (fun r121 s121 => some (r121, s121))
noncomputable def sX9_move_L39   (s39 : xS) : Option (Int32 × xS) := xbind (sX9_finding (-1000000002 : Int32) s39) (fun r43 s43 => some (r43, s43))
noncomputable def sX9_move_L14   (s14 : xS) : Option (Int32 × xS) := xbind (sX9_finding (-1000000001 : Int32) s14) (fun r17 s17 => some (r17, s17))
noncomputable def sX9_move (p1 : Int32) (p2 : Int32) (p3 : Int32) (p4 : Int32) (p5 : Int32) (s : xS) : Option (Int32 × xS) := xbind (sX9_isSheet p1 s) (fun r1 s1 => (if r1 = 0 then sX9_move_L14  s1 else xbind (sX9_isSheet p3 s1) (fun r8 s8 => (if r8 = 0 then sX9_move_L14  s8 else (if xin p1 4 then (if (s8 11 p1.toNatClampNeg) = 0 then sX9_move_L39  s8 else (if xin p3 4 then (if (s8 11 p3.toNatClampNeg) = 0 then sX9_move_L39  s8 else (if xin p1 4 then (if xin p3 4 then (if (s8 11 p1.toNatClampNeg) = (s8 11 p3.toNatClampNeg) then (if p5 < 0 then sX9_move_L118  s8 else (if p2 < 0 then sX9_move_L118  s8 else (if p4 < 0 then sX9_move_L118  s8 else (if xin p1 4 then (if 0 < (lg_cmp ((p2.toInt64) + (p5.toInt64)) ((s8 12 p1.toNatClampNeg).toInt64)) then sX9_move_L118  s8 else (if xin p3 4 then (if (lg_cmp ((p4.toInt64) + (p5.toInt64)) ((s8 12 p3.toNatClampNeg).toInt64)) ≤ 0 then xloop (sX9_move_L128 p1 p2 p3 p4 p5) xF (0 : Int32) s8 else sX9_move_L118  s8) else none)) else none)))) else xbind (sX9_finding (-1000000005 : Int32) s8) (fun r65 s65 => some (r65, s65))) else none) else none)) else none)) else none)))))
set_option maxHeartbeats 4000000 in
set_option maxRecDepth 100000 in
theorem kX9_move (l : Launch) {G : xG} (hG : xM1 G)  {p1 : Int32} {p2 : Int32} {p3 : Int32} {p4 : Int32} {p5 : Int32}  {s : xS} {r : Int32} {s' : xS} (hf : sX9_move p1 p2 p3 p4 p5 s = some (r, s')) : xMet l G 4 yX9_move cX9_move 7 (some .int) [.ref (gA G 0), .int p1, .int p2, .int p3, .int p4, .int p5] s (xI r s') := by
  refine xMet.of (by decide) (Nat.le_of_ble_eq_true rfl) ?_
  show wk l G 4 RX9 cX9_move 7 (some .int) (xI r s') 0 [(0, .ref (gA G 0)), (1, .int p1), (2, .int p2), (3, .int p3), (4, .int p4), (5, .int p5)] [] s
  unfold sX9_move at hf
  have J165 : ∀   (N : Nat) (a6_165 : Int32)  (s165 : xS), xloop (sX9_move_L165 p3 p4 p5) N a6_165 s165 = some (r, s') → wk l G 4 RX9 cX9_move 7 (some .int) (xI r s') 165 [(0, .ref (gA G 0)), (3, .int p3), (4, .int p4), (5, .int p5), (6, .int a6_165)] [] s165 := by
    intro N
    induction N with
    | zero => intro a6_165 s165 hf; exact (xloop_0 hf).elim
    | succ N ih165 =>
      intro a6_165 s165 hf
      rw [xloop_s] at hf
      generalize xloop (sX9_move_L165 p3 p4 p5) N = self165 at hf ih165
      unfold sX9_move_L165 at hf
      refine wk_iload (pc := 165) dX9_move_165 4 rfl ?_
      refine wk_iload (pc := 167) dX9_move_167 3 rfl ?_
      refine wk_icmp_ge (pc := 169) (tgt := 200) dX9_move_169 rfl hf (fun hf => ?_) (fun hf => ?_)
      · refine wk_iload (pc := 200) dX9_move_200 3 rfl ?_
        exact wk_iret (pc := 202) dX9_move_202 rfl (xI_of hf)
      · refine wk_aload_n (pc := 172) dX9_move_172 rfl 0 rfl ?_
        refine wk_getR (C := RX9) (T := TX9) (N := 24) (pc := 173) dX9_move_173 (nm_0 hG).2 (nm_0 hG).1 rfl qU_X9 22 (by decide) qF_X9_53 rfl ?_
        refine wk_bipush (pc := 176) (v := (40 : Int32)) dX9_move_176 (by decide) ?_
        refine wk_iload_n (pc := 178) dX9_move_178 rfl 1 rfl ?_
        refine wk_imul (pc := 179) dX9_move_179 ?_
        refine wk_iload (pc := 180) dX9_move_180 2 rfl ?_
        refine wk_iadd (pc := 182) dX9_move_182 ?_
        refine wk_iload (pc := 183) dX9_move_183 4 rfl ?_
        refine wk_iadd (pc := 185) dX9_move_185 ?_
        refine wk_aload_n (pc := 186) dX9_move_186 rfl 0 rfl ?_
        refine wk_getR (C := RX9) (T := TX9) (N := 24) (pc := 187) dX9_move_187 (nm_0 hG).2 (nm_0 hG).1 rfl qU_X9 23 (by decide) qF_X9_56 rfl ?_
        refine wk_iload (pc := 190) dX9_move_190 4 rfl ?_
        obtain ⟨h192, hf⟩ := xif_some hf
        refine wk_iald (pc := 192) (jj := a6_165.toNatClampNeg) dX9_move_192 (nm_14 hG).2 (nm_14 hG).1 h192 rfl ?_
        obtain ⟨h193, hf⟩ := xif_some hf
        refine wk_iast (pc := 193) (jj := ((((40 : Int32) * p3) + p4) + a6_165).toNatClampNeg) dX9_move_193 (nm_13 hG).2 (nm_13 hG).1 h193 rfl ?_
        obtain ⟨s193, hs193, hf⟩ := xlet_some hf
        refine wk_sig hs193 ?_
        obtain ⟨y194, hy194, hf⟩ := xlet_some hf
        refine wk_iinc (pc := 194) (v := y194) (lv' := [(6, .int y194), (0, .ref (gA G 0)), (3, .int p3), (4, .int p4), (5, .int p5)]) dX9_move_194 4 rfl (by rw [hy194] <;> rfl) (by decide) rfl ?_
        refine wk_goto (pc := 197) (tgt := 165) dX9_move_197 rfl ?_
        exact wk_lv [1, 2, 3, 4, 0] rfl (ih165 y194  s193 hf)
  have J128 : ∀   (N : Nat) (a6_128 : Int32)  (s128 : xS), xloop (sX9_move_L128 p1 p2 p3 p4 p5) N a6_128 s128 = some (r, s') → wk l G 4 RX9 cX9_move 7 (some .int) (xI r s') 128 [(0, .ref (gA G 0)), (1, .int p1), (2, .int p2), (3, .int p3), (4, .int p4), (5, .int p5), (6, .int a6_128)] [] s128 := by
    intro N
    induction N with
    | zero => intro a6_128 s128 hf; exact (xloop_0 hf).elim
    | succ N ih128 =>
      intro a6_128 s128 hf
      rw [xloop_s] at hf
      generalize xloop (sX9_move_L128 p1 p2 p3 p4 p5) N = self128 at hf ih128
      unfold sX9_move_L128 at hf
      refine wk_iload (pc := 128) dX9_move_128 6 rfl ?_
      refine wk_iload (pc := 130) dX9_move_130 5 rfl ?_
      refine wk_icmp_ge (pc := 132) (tgt := 162) dX9_move_132 rfl hf (fun hf => ?_) (fun hf => ?_)
      · refine wk_iconst (pc := 162) (v := (0 : Int32)) dX9_move_162 (by decide) ?_
        refine wk_istore (pc := 163) (lv' := [(6, .int (0 : Int32)), (0, .ref (gA G 0)), (1, .int p1), (2, .int p2), (3, .int p3), (4, .int p4), (5, .int p5)]) dX9_move_163 (by decide) rfl ?_
        exact wk_lv [1, 4, 5, 6, 0] rfl (J165  xF (0 : Int32)  s128 hf)
      · refine wk_aload_n (pc := 135) dX9_move_135 rfl 0 rfl ?_
        refine wk_getR (C := RX9) (T := TX9) (N := 24) (pc := 136) dX9_move_136 (nm_0 hG).2 (nm_0 hG).1 rfl qU_X9 23 (by decide) qF_X9_56 rfl ?_
        refine wk_iload (pc := 139) dX9_move_139 6 rfl ?_
        refine wk_aload_n (pc := 141) dX9_move_141 rfl 0 rfl ?_
        refine wk_getR (C := RX9) (T := TX9) (N := 24) (pc := 142) dX9_move_142 (nm_0 hG).2 (nm_0 hG).1 rfl qU_X9 22 (by decide) qF_X9_53 rfl ?_
        refine wk_bipush (pc := 145) (v := (40 : Int32)) dX9_move_145 (by decide) ?_
        refine wk_iload_n (pc := 147) dX9_move_147 rfl 1 rfl ?_
        refine wk_imul (pc := 148) dX9_move_148 ?_
        refine wk_iload_n (pc := 149) dX9_move_149 rfl 2 rfl ?_
        refine wk_iadd (pc := 150) dX9_move_150 ?_
        refine wk_iload (pc := 151) dX9_move_151 6 rfl ?_
        refine wk_iadd (pc := 153) dX9_move_153 ?_
        obtain ⟨h154, hf⟩ := xif_some hf
        refine wk_iald (pc := 154) (jj := ((((40 : Int32) * p1) + p2) + a6_128).toNatClampNeg) dX9_move_154 (nm_13 hG).2 (nm_13 hG).1 h154 rfl ?_
        obtain ⟨h155, hf⟩ := xif_some hf
        refine wk_iast (pc := 155) (jj := a6_128.toNatClampNeg) dX9_move_155 (nm_14 hG).2 (nm_14 hG).1 h155 rfl ?_
        obtain ⟨s155, hs155, hf⟩ := xlet_some hf
        refine wk_sig hs155 ?_
        obtain ⟨y156, hy156, hf⟩ := xlet_some hf
        refine wk_iinc (pc := 156) (v := y156) (lv' := [(6, .int y156), (0, .ref (gA G 0)), (1, .int p1), (2, .int p2), (3, .int p3), (4, .int p4), (5, .int p5)]) dX9_move_156 6 rfl (by rw [hy156] <;> rfl) (by decide) rfl ?_
        refine wk_goto (pc := 159) (tgt := 128) dX9_move_159 rfl ?_
        exact wk_lv [1, 2, 3, 4, 5, 6, 0] rfl (ih128 y156  s155 hf)
  have J118 : ∀     (s118 : xS), sX9_move_L118  s118 = some (r, s') → wk l G 4 RX9 cX9_move 7 (some .int) (xI r s') 118 [(0, .ref (gA G 0))] [] s118 := by
    intro s118 hf
    unfold sX9_move_L118 at hf
    refine wk_aload_n (pc := 118) dX9_move_118 rfl 0 rfl ?_
    refine wk_ldc (pc := 119) (v := (-1000000001 : Int32)) dX9_move_119 qK_X9_81 ?_
    obtain ⟨r121, s121, hc121, hf⟩ := xbind_some hf
    refine wk_callVI (pc := 121) (As := [.int (-1000000001 : Int32)]) (rest := []) (kX9_finding l hG  hc121) cw_X9_82 (by decide) dX9_move_121 (nm_0 hG).2 (nm_0 hG).1 rfl rfl rfl (Nat.le_of_ble_eq_true rfl) ?_
    exact wk_iret (pc := 124) dX9_move_124 rfl (xI_of hf)
  have J39 : ∀     (s39 : xS), sX9_move_L39  s39 = some (r, s') → wk l G 4 RX9 cX9_move 7 (some .int) (xI r s') 39 [(0, .ref (gA G 0))] [] s39 := by
    intro s39 hf
    unfold sX9_move_L39 at hf
    refine wk_aload_n (pc := 39) dX9_move_39 rfl 0 rfl ?_
    refine wk_ldcw (pc := 40) (v := (-1000000002 : Int32)) dX9_move_40 qK_X9_256 ?_
    obtain ⟨r43, s43, hc43, hf⟩ := xbind_some hf
    refine wk_callVI (pc := 43) (As := [.int (-1000000002 : Int32)]) (rest := []) (kX9_finding l hG  hc43) cw_X9_82 (by decide) dX9_move_43 (nm_0 hG).2 (nm_0 hG).1 rfl rfl rfl (Nat.le_of_ble_eq_true rfl) ?_
    exact wk_iret (pc := 46) dX9_move_46 rfl (xI_of hf)
  have J14 : ∀     (s14 : xS), sX9_move_L14  s14 = some (r, s') → wk l G 4 RX9 cX9_move 7 (some .int) (xI r s') 14 [(0, .ref (gA G 0))] [] s14 := by
    intro s14 hf
    unfold sX9_move_L14 at hf
    refine wk_aload_n (pc := 14) dX9_move_14 rfl 0 rfl ?_
    refine wk_ldc (pc := 15) (v := (-1000000001 : Int32)) dX9_move_15 qK_X9_81 ?_
    obtain ⟨r17, s17, hc17, hf⟩ := xbind_some hf
    refine wk_callVI (pc := 17) (As := [.int (-1000000001 : Int32)]) (rest := []) (kX9_finding l hG  hc17) cw_X9_82 (by decide) dX9_move_17 (nm_0 hG).2 (nm_0 hG).1 rfl rfl rfl (Nat.le_of_ble_eq_true rfl) ?_
    exact wk_iret (pc := 20) dX9_move_20 rfl (xI_of hf)
  refine wk_iload_n (pc := 0) dX9_move_0 rfl 1 rfl ?_
  obtain ⟨r1, s1, hc1, hf⟩ := xbind_some hf
  refine wk_callSI (pc := 1) (As := [.int p1]) (rest := []) (kX9_isSheet l hG  hc1) cw_X9_263 (by decide) dX9_move_1 rfl (Nat.le_of_ble_eq_true rfl) ?_
  refine wk_if_eq (pc := 4) (tgt := 14) dX9_move_4 rfl hf (fun hf => ?_) (fun hf => ?_)
  · exact wk_lv [0] rfl (J14    s1 hf)
  · refine wk_iload_n (pc := 7) dX9_move_7 rfl 3 rfl ?_
    obtain ⟨r8, s8, hc8, hf⟩ := xbind_some hf
    refine wk_callSI (pc := 8) (As := [.int p3]) (rest := []) (kX9_isSheet l hG  hc8) cw_X9_263 (by decide) dX9_move_8 rfl (Nat.le_of_ble_eq_true rfl) ?_
    refine wk_if_ne (pc := 11) (tgt := 21) dX9_move_11 rfl hf (fun hf => ?_) (fun hf => ?_)
    · refine wk_aload_n (pc := 21) dX9_move_21 rfl 0 rfl ?_
      refine wk_getR (C := RX9) (T := TX9) (N := 24) (pc := 22) dX9_move_22 (nm_0 hG).2 (nm_0 hG).1 rfl qU_X9 20 (by decide) qF_X9_47 rfl ?_
      refine wk_iload_n (pc := 25) dX9_move_25 rfl 1 rfl ?_
      obtain ⟨h26, hf⟩ := xif_some hf
      refine wk_iald (pc := 26) (jj := p1.toNatClampNeg) dX9_move_26 (nm_11 hG).2 (nm_11 hG).1 h26 rfl ?_
      refine wk_if_eq (pc := 27) (tgt := 39) dX9_move_27 rfl hf (fun hf => ?_) (fun hf => ?_)
      · exact wk_lv [0] rfl (J39    s8 hf)
      · refine wk_aload_n (pc := 30) dX9_move_30 rfl 0 rfl ?_
        refine wk_getR (C := RX9) (T := TX9) (N := 24) (pc := 31) dX9_move_31 (nm_0 hG).2 (nm_0 hG).1 rfl qU_X9 20 (by decide) qF_X9_47 rfl ?_
        refine wk_iload_n (pc := 34) dX9_move_34 rfl 3 rfl ?_
        obtain ⟨h35, hf⟩ := xif_some hf
        refine wk_iald (pc := 35) (jj := p3.toNatClampNeg) dX9_move_35 (nm_11 hG).2 (nm_11 hG).1 h35 rfl ?_
        refine wk_if_ne (pc := 36) (tgt := 47) dX9_move_36 rfl hf (fun hf => ?_) (fun hf => ?_)
        · refine wk_aload_n (pc := 47) dX9_move_47 rfl 0 rfl ?_
          refine wk_getR (C := RX9) (T := TX9) (N := 24) (pc := 48) dX9_move_48 (nm_0 hG).2 (nm_0 hG).1 rfl qU_X9 20 (by decide) qF_X9_47 rfl ?_
          refine wk_iload_n (pc := 51) dX9_move_51 rfl 1 rfl ?_
          obtain ⟨h52, hf⟩ := xif_some hf
          refine wk_iald (pc := 52) (jj := p1.toNatClampNeg) dX9_move_52 (nm_11 hG).2 (nm_11 hG).1 h52 rfl ?_
          refine wk_aload_n (pc := 53) dX9_move_53 rfl 0 rfl ?_
          refine wk_getR (C := RX9) (T := TX9) (N := 24) (pc := 54) dX9_move_54 (nm_0 hG).2 (nm_0 hG).1 rfl qU_X9 20 (by decide) qF_X9_47 rfl ?_
          refine wk_iload_n (pc := 57) dX9_move_57 rfl 3 rfl ?_
          obtain ⟨h58, hf⟩ := xif_some hf
          refine wk_iald (pc := 58) (jj := p3.toNatClampNeg) dX9_move_58 (nm_11 hG).2 (nm_11 hG).1 h58 rfl ?_
          refine wk_icmp_eq (pc := 59) (tgt := 69) dX9_move_59 rfl hf (fun hf => ?_) (fun hf => ?_)
          · refine wk_iload (pc := 69) dX9_move_69 5 rfl ?_
            refine wk_if_lt (pc := 71) (tgt := 118) dX9_move_71 rfl hf (fun hf => ?_) (fun hf => ?_)
            · exact wk_lv [0] rfl (J118    s8 hf)
            · refine wk_iload_n (pc := 74) dX9_move_74 rfl 2 rfl ?_
              refine wk_if_lt (pc := 75) (tgt := 118) dX9_move_75 rfl hf (fun hf => ?_) (fun hf => ?_)
              · exact wk_lv [0] rfl (J118    s8 hf)
              · refine wk_iload (pc := 78) dX9_move_78 4 rfl ?_
                refine wk_if_lt (pc := 80) (tgt := 118) dX9_move_80 rfl hf (fun hf => ?_) (fun hf => ?_)
                · exact wk_lv [0] rfl (J118    s8 hf)
                · refine wk_iload_n (pc := 83) dX9_move_83 rfl 2 rfl ?_
                  refine wk_i2l (pc := 84) dX9_move_84 ?_
                  refine wk_iload (pc := 85) dX9_move_85 5 rfl ?_
                  refine wk_i2l (pc := 87) dX9_move_87 ?_
                  refine wk_ladd (pc := 88) dX9_move_88 ?_
                  refine wk_aload_n (pc := 89) dX9_move_89 rfl 0 rfl ?_
                  refine wk_getR (C := RX9) (T := TX9) (N := 24) (pc := 90) dX9_move_90 (nm_0 hG).2 (nm_0 hG).1 rfl qU_X9 21 (by decide) qF_X9_50 rfl ?_
                  refine wk_iload_n (pc := 93) dX9_move_93 rfl 1 rfl ?_
                  obtain ⟨h94, hf⟩ := xif_some hf
                  refine wk_iald (pc := 94) (jj := p1.toNatClampNeg) dX9_move_94 (nm_12 hG).2 (nm_12 hG).1 h94 rfl ?_
                  refine wk_i2l (pc := 95) dX9_move_95 ?_
                  refine wk_lcmp (pc := 96) dX9_move_96 ?_
                  refine wk_if_gt (pc := 97) (tgt := 118) dX9_move_97 rfl hf (fun hf => ?_) (fun hf => ?_)
                  · exact wk_lv [0] rfl (J118    s8 hf)
                  · refine wk_iload (pc := 100) dX9_move_100 4 rfl ?_
                    refine wk_i2l (pc := 102) dX9_move_102 ?_
                    refine wk_iload (pc := 103) dX9_move_103 5 rfl ?_
                    refine wk_i2l (pc := 105) dX9_move_105 ?_
                    refine wk_ladd (pc := 106) dX9_move_106 ?_
                    refine wk_aload_n (pc := 107) dX9_move_107 rfl 0 rfl ?_
                    refine wk_getR (C := RX9) (T := TX9) (N := 24) (pc := 108) dX9_move_108 (nm_0 hG).2 (nm_0 hG).1 rfl qU_X9 21 (by decide) qF_X9_50 rfl ?_
                    refine wk_iload_n (pc := 111) dX9_move_111 rfl 3 rfl ?_
                    obtain ⟨h112, hf⟩ := xif_some hf
                    refine wk_iald (pc := 112) (jj := p3.toNatClampNeg) dX9_move_112 (nm_12 hG).2 (nm_12 hG).1 h112 rfl ?_
                    refine wk_i2l (pc := 113) dX9_move_113 ?_
                    refine wk_lcmp (pc := 114) dX9_move_114 ?_
                    refine wk_if_le (pc := 115) (tgt := 125) dX9_move_115 rfl hf (fun hf => ?_) (fun hf => ?_)
                    · refine wk_iconst (pc := 125) (v := (0 : Int32)) dX9_move_125 (by decide) ?_
                      refine wk_istore (pc := 126) (lv' := [(6, .int (0 : Int32)), (0, .ref (gA G 0)), (1, .int p1), (2, .int p2), (3, .int p3), (4, .int p4), (5, .int p5)]) dX9_move_126 (by decide) rfl ?_
                      exact wk_lv [1, 2, 3, 4, 5, 6, 0] rfl (J128  xF (0 : Int32)  s8 hf)
                    · exact wk_lv [0] rfl (J118    s8 hf)
          · refine wk_aload_n (pc := 62) dX9_move_62 rfl 0 rfl ?_
            refine wk_ldc (pc := 63) (v := (-1000000005 : Int32)) dX9_move_63 qK_X9_227 ?_
            obtain ⟨r65, s65, hc65, hf⟩ := xbind_some hf
            refine wk_callVI (pc := 65) (As := [.int (-1000000005 : Int32)]) (rest := []) (kX9_finding l hG  hc65) cw_X9_82 (by decide) dX9_move_65 (nm_0 hG).2 (nm_0 hG).1 rfl rfl rfl (Nat.le_of_ble_eq_true rfl) ?_
            exact wk_iret (pc := 68) dX9_move_68 rfl (xI_of hf)
        · exact wk_lv [0] rfl (J39    s8 hf)
    · exact wk_lv [0] rfl (J14    s8 hf)
noncomputable def sX9_beds_L95 (a2_33 : Int32)  (s95 : xS) : Option (Int32 × xS) := xbind (sX9_forgetDepths  s95) (fun _ s96 => some (a2_33, s96))
noncomputable def sX9_beds_L33 (p1 : Int32) (self33 : Int32 → xS → Option (Int32 × xS)) : Int32 → xS → Option (Int32 × xS) := fun a2_33 s33 => (if xin p1 4 then (if (s33 12 p1.toNatClampNeg) ≤ a2_33 then (sX9_beds_L95 a2_33)  s33 else xbind (sX9_isCell a2_33 s33) (fun r45 s45 => (if r45 = 0 then (sX9_beds_L95 a2_33)  s45 else (if xin (((40 : Int32) * p1) + a2_33) 160 then xbind (sX9_isDigit (s45 13 (((40 : Int32) * p1) + a2_33).toNatClampNeg) s45) (fun r62 s62 => (if r62 = 0 then (sX9_beds_L95 a2_33)  s62 else xbind (sX9_cellAt a2_33 (0 : Int32) s62) (fun r74 s74 => (if xin (((40 : Int32) * p1) + a2_33) 160 then (if xin r74 242 then xlet (xup s74 1 (upd (s74 1) r74.toNatClampNeg (s74 13 (((40 : Int32) * p1) + a2_33).toNatClampNeg))) (fun s88 => xlet (a2_33 + (1 : Int32)) (fun y89 => self33 y89 s88)) else none) else none)))) else none)))) else none)
noncomputable def sX9_beds (p1 : Int32) (s : xS) : Option (Int32 × xS) := xbind (sX9_isSheet p1 s) (fun r1 s1 => (if r1 = 0 then xbind (sX9_finding (-1000000001 : Int32) s1) (fun r10 s10 => some (r10, s10)) else (if xin p1 4 then (if (s1 11 p1.toNatClampNeg) = 0 then xbind (sX9_finding (-1000000002 : Int32) s1) (fun r27 s27 => some (r27, s27)) else xloop (sX9_beds_L33 p1) xF (0 : Int32) s1) else none)))
set_option maxHeartbeats 4000000 in
set_option maxRecDepth 100000 in
theorem kX9_beds (l : Launch) {G : xG} (hG : xM1 G)  {p1 : Int32}  {s : xS} {r : Int32} {s' : xS} (hf : sX9_beds p1 s = some (r, s')) : xMet l G 4 yX9_beds cX9_beds 3 (some .int) [.ref (gA G 0), .int p1] s (xI r s') := by
  refine xMet.of (by decide) (Nat.le_of_ble_eq_true rfl) ?_
  show wk l G 4 RX9 cX9_beds 3 (some .int) (xI r s') 0 [(0, .ref (gA G 0)), (1, .int p1)] [] s
  unfold sX9_beds at hf
  have J95 : ∀ (a2_33 : Int32)    (s95 : xS), (sX9_beds_L95 a2_33)  s95 = some (r, s') → wk l G 4 RX9 cX9_beds 3 (some .int) (xI r s') 95 [(0, .ref (gA G 0)), (2, .int a2_33)] [] s95 := by
    intro a2_33 s95 hf
    unfold sX9_beds_L95 at hf
    refine wk_aload_n (pc := 95) dX9_beds_95 rfl 0 rfl ?_
    obtain ⟨⟨⟩, s96, hc96, hf⟩ := xbind_some hf
    refine wk_callVU (pc := 96) (As := []) (rest := []) (kX9_forgetDepths l hG  hc96) cw_X9_145 (by decide) dX9_beds_96 (nm_0 hG).2 (nm_0 hG).1 rfl rfl rfl (Nat.le_of_ble_eq_true rfl) ?_
    refine wk_iload_n (pc := 99) dX9_beds_99 rfl 1 rfl ?_
    exact wk_iret (pc := 100) dX9_beds_100 rfl (xI_of hf)
  have J33 : ∀   (N : Nat) (a2_33 : Int32)  (s33 : xS), xloop (sX9_beds_L33 p1) N a2_33 s33 = some (r, s') → wk l G 4 RX9 cX9_beds 3 (some .int) (xI r s') 33 [(0, .ref (gA G 0)), (1, .int p1), (2, .int a2_33)] [] s33 := by
    intro N
    induction N with
    | zero => intro a2_33 s33 hf; exact (xloop_0 hf).elim
    | succ N ih33 =>
      intro a2_33 s33 hf
      rw [xloop_s] at hf
      generalize xloop (sX9_beds_L33 p1) N = self33 at hf ih33
      unfold sX9_beds_L33 at hf
      refine wk_iload_n (pc := 33) dX9_beds_33 rfl 2 rfl ?_
      refine wk_aload_n (pc := 34) dX9_beds_34 rfl 0 rfl ?_
      refine wk_getR (C := RX9) (T := TX9) (N := 24) (pc := 35) dX9_beds_35 (nm_0 hG).2 (nm_0 hG).1 rfl qU_X9 21 (by decide) qF_X9_50 rfl ?_
      refine wk_iload_n (pc := 38) dX9_beds_38 rfl 1 rfl ?_
      obtain ⟨h39, hf⟩ := xif_some hf
      refine wk_iald (pc := 39) (jj := p1.toNatClampNeg) dX9_beds_39 (nm_12 hG).2 (nm_12 hG).1 h39 rfl ?_
      refine wk_icmp_ge (pc := 40) (tgt := 95) dX9_beds_40 rfl hf (fun hf => ?_) (fun hf => ?_)
      · exact wk_lv [0, 2] rfl (J95 a2_33   s33 hf)
      · refine wk_aload_n (pc := 43) dX9_beds_43 rfl 0 rfl ?_
        refine wk_iload_n (pc := 44) dX9_beds_44 rfl 2 rfl ?_
        obtain ⟨r45, s45, hc45, hf⟩ := xbind_some hf
        refine wk_callVI (pc := 45) (As := [.int a2_33]) (rest := []) (kX9_isCell l hG  hc45) cw_X9_175 (by decide) dX9_beds_45 (nm_0 hG).2 (nm_0 hG).1 rfl rfl rfl (Nat.le_of_ble_eq_true rfl) ?_
        refine wk_if_eq (pc := 48) (tgt := 95) dX9_beds_48 rfl hf (fun hf => ?_) (fun hf => ?_)
        · exact wk_lv [0, 2] rfl (J95 a2_33   s45 hf)
        · refine wk_aload_n (pc := 51) dX9_beds_51 rfl 0 rfl ?_
          refine wk_getR (C := RX9) (T := TX9) (N := 24) (pc := 52) dX9_beds_52 (nm_0 hG).2 (nm_0 hG).1 rfl qU_X9 22 (by decide) qF_X9_53 rfl ?_
          refine wk_bipush (pc := 55) (v := (40 : Int32)) dX9_beds_55 (by decide) ?_
          refine wk_iload_n (pc := 57) dX9_beds_57 rfl 1 rfl ?_
          refine wk_imul (pc := 58) dX9_beds_58 ?_
          refine wk_iload_n (pc := 59) dX9_beds_59 rfl 2 rfl ?_
          refine wk_iadd (pc := 60) dX9_beds_60 ?_
          obtain ⟨h61, hf⟩ := xif_some hf
          refine wk_iald (pc := 61) (jj := (((40 : Int32) * p1) + a2_33).toNatClampNeg) dX9_beds_61 (nm_13 hG).2 (nm_13 hG).1 h61 rfl ?_
          obtain ⟨r62, s62, hc62, hf⟩ := xbind_some hf
          refine wk_callSI (pc := 62) (As := [.int (s45 13 (((40 : Int32) * p1) + a2_33).toNatClampNeg)]) (rest := []) (kX9_isDigit l hG  hc62) cw_X9_209 (by decide) dX9_beds_62 rfl (Nat.le_of_ble_eq_true rfl) ?_
          refine wk_if_eq (pc := 65) (tgt := 95) dX9_beds_65 rfl hf (fun hf => ?_) (fun hf => ?_)
          · exact wk_lv [0, 2] rfl (J95 a2_33   s62 hf)
          · refine wk_aload_n (pc := 68) dX9_beds_68 rfl 0 rfl ?_
            refine wk_getR (C := RX9) (T := TX9) (N := 24) (pc := 69) dX9_beds_69 (nm_0 hG).2 (nm_0 hG).1 rfl qU_X9 0 (by decide) qF_X9_9 rfl ?_
            refine wk_iload_n (pc := 72) dX9_beds_72 rfl 2 rfl ?_
            refine wk_iconst (pc := 73) (v := (0 : Int32)) dX9_beds_73 (by decide) ?_
            obtain ⟨r74, s74, hc74, hf⟩ := xbind_some hf
            refine wk_callSI (pc := 74) (As := [.int a2_33, .int (0 : Int32)]) (rest := [.ref (gA G 1)]) (kX9_cellAt l hG  hc74) cw_X9_165 (by decide) dX9_beds_74 rfl (Nat.le_of_ble_eq_true rfl) ?_
            refine wk_aload_n (pc := 77) dX9_beds_77 rfl 0 rfl ?_
            refine wk_getR (C := RX9) (T := TX9) (N := 24) (pc := 78) dX9_beds_78 (nm_0 hG).2 (nm_0 hG).1 rfl qU_X9 22 (by decide) qF_X9_53 rfl ?_
            refine wk_bipush (pc := 81) (v := (40 : Int32)) dX9_beds_81 (by decide) ?_
            refine wk_iload_n (pc := 83) dX9_beds_83 rfl 1 rfl ?_
            refine wk_imul (pc := 84) dX9_beds_84 ?_
            refine wk_iload_n (pc := 85) dX9_beds_85 rfl 2 rfl ?_
            refine wk_iadd (pc := 86) dX9_beds_86 ?_
            obtain ⟨h87, hf⟩ := xif_some hf
            refine wk_iald (pc := 87) (jj := (((40 : Int32) * p1) + a2_33).toNatClampNeg) dX9_beds_87 (nm_13 hG).2 (nm_13 hG).1 h87 rfl ?_
            obtain ⟨h88, hf⟩ := xif_some hf
            refine wk_iast (pc := 88) (jj := r74.toNatClampNeg) dX9_beds_88 (nm_1 hG).2 (nm_1 hG).1 h88 rfl ?_
            obtain ⟨s88, hs88, hf⟩ := xlet_some hf
            refine wk_sig hs88 ?_
            obtain ⟨y89, hy89, hf⟩ := xlet_some hf
            refine wk_iinc (pc := 89) (v := y89) (lv' := [(2, .int y89), (0, .ref (gA G 0)), (1, .int p1)]) dX9_beds_89 2 rfl (by rw [hy89] <;> rfl) (by decide) rfl ?_
            refine wk_goto (pc := 92) (tgt := 33) dX9_beds_92 rfl ?_
            exact wk_lv [1, 2, 0] rfl (ih33 y89  s88 hf)
  refine wk_iload_n (pc := 0) dX9_beds_0 rfl 1 rfl ?_
  obtain ⟨r1, s1, hc1, hf⟩ := xbind_some hf
  refine wk_callSI (pc := 1) (As := [.int p1]) (rest := []) (kX9_isSheet l hG  hc1) cw_X9_263 (by decide) dX9_beds_1 rfl (Nat.le_of_ble_eq_true rfl) ?_
  refine wk_if_ne (pc := 4) (tgt := 14) dX9_beds_4 rfl hf (fun hf => ?_) (fun hf => ?_)
  · refine wk_aload_n (pc := 14) dX9_beds_14 rfl 0 rfl ?_
    refine wk_getR (C := RX9) (T := TX9) (N := 24) (pc := 15) dX9_beds_15 (nm_0 hG).2 (nm_0 hG).1 rfl qU_X9 20 (by decide) qF_X9_47 rfl ?_
    refine wk_iload_n (pc := 18) dX9_beds_18 rfl 1 rfl ?_
    obtain ⟨h19, hf⟩ := xif_some hf
    refine wk_iald (pc := 19) (jj := p1.toNatClampNeg) dX9_beds_19 (nm_11 hG).2 (nm_11 hG).1 h19 rfl ?_
    refine wk_if_ne (pc := 20) (tgt := 31) dX9_beds_20 rfl hf (fun hf => ?_) (fun hf => ?_)
    · refine wk_iconst (pc := 31) (v := (0 : Int32)) dX9_beds_31 (by decide) ?_
      refine wk_istore_n (pc := 32) (lv' := [(2, .int (0 : Int32)), (0, .ref (gA G 0)), (1, .int p1)]) dX9_beds_32 rfl (by decide) rfl ?_
      exact wk_lv [1, 2, 0] rfl (J33  xF (0 : Int32)  s1 hf)
    · refine wk_aload_n (pc := 23) dX9_beds_23 rfl 0 rfl ?_
      refine wk_ldcw (pc := 24) (v := (-1000000002 : Int32)) dX9_beds_24 qK_X9_256 ?_
      obtain ⟨r27, s27, hc27, hf⟩ := xbind_some hf
      refine wk_callVI (pc := 27) (As := [.int (-1000000002 : Int32)]) (rest := []) (kX9_finding l hG  hc27) cw_X9_82 (by decide) dX9_beds_27 (nm_0 hG).2 (nm_0 hG).1 rfl rfl rfl (Nat.le_of_ble_eq_true rfl) ?_
      exact wk_iret (pc := 30) dX9_beds_30 rfl (xI_of hf)
  · refine wk_aload_n (pc := 7) dX9_beds_7 rfl 0 rfl ?_
    refine wk_ldc (pc := 8) (v := (-1000000001 : Int32)) dX9_beds_8 qK_X9_81 ?_
    obtain ⟨r10, s10, hc10, hf⟩ := xbind_some hf
    refine wk_callVI (pc := 10) (As := [.int (-1000000001 : Int32)]) (rest := []) (kX9_finding l hG  hc10) cw_X9_82 (by decide) dX9_beds_10 (nm_0 hG).2 (nm_0 hG).1 rfl rfl rfl (Nat.le_of_ble_eq_true rfl) ?_
    exact wk_iret (pc := 13) dX9_beds_13 rfl (xI_of hf)
noncomputable def sX9_judge_L77 (p1 : Int32) (a2_33 : Int32)  (s77 : xS) : Option (Int32 × xS) := (if xin p1 4 then (if a2_33 = (s77 12 p1.toNatClampNeg) then xlet ((if a2_33 = (s77 1 2) then (-1 : Int32) else a2_33)) (fun y102d => some (y102d, s77)) else some (a2_33, s77)) else none)
noncomputable def sX9_judge_L33 (p1 : Int32) (self33 : Int32 → xS → Option (Int32 × xS)) : Int32 → xS → Option (Int32 × xS) := fun a2_33 s33 => (if xin p1 4 then (if (s33 12 p1.toNatClampNeg) ≤ a2_33 then (sX9_judge_L77 p1 a2_33)  s33 else xbind (sX9_isShip a2_33 s33) (fun r45 s45 => (if r45 = 0 then (sX9_judge_L77 p1 a2_33)  s45 else (if xin (((40 : Int32) * p1) + a2_33) 160 then xbind (sX9_shipIs a2_33 (3 : Int32) s45) (fun r65 s65 => (if (s45 13 (((40 : Int32) * p1) + a2_33).toNatClampNeg) = r65 then xlet (a2_33 + (1 : Int32)) (fun y71 => self33 y71 s65) else (sX9_judge_L77 p1 a2_33)  s65)) else none)))) else none)
noncomputable def sX9_judge (p1 : Int32) (s : xS) : Option (Int32 × xS) := xbind (sX9_isSheet p1 s) (fun r1 s1 => (if r1 = 0 then xbind (sX9_finding (-1000000001 : Int32) s1) (fun r10 s10 => some (r10, s10)) else (if xin p1 4 then (if (s1 11 p1.toNatClampNeg) = 0 then xbind (sX9_finding (-1000000002 : Int32) s1) (fun r27 s27 => some (r27, s27)) else xloop (sX9_judge_L33 p1) xF (0 : Int32) s1) else none)))
set_option maxHeartbeats 4000000 in
set_option maxRecDepth 100000 in
theorem kX9_judge (l : Launch) {G : xG} (hG : xM1 G)  {p1 : Int32}  {s : xS} {r : Int32} {s' : xS} (hf : sX9_judge p1 s = some (r, s')) : xMet l G 4 yX9_judge cX9_judge 3 (some .int) [.ref (gA G 0), .int p1] s (xI r s') := by
  refine xMet.of (by decide) (Nat.le_of_ble_eq_true rfl) ?_
  show wk l G 4 RX9 cX9_judge 3 (some .int) (xI r s') 0 [(0, .ref (gA G 0)), (1, .int p1)] [] s
  unfold sX9_judge at hf
  have J77 : ∀ (a2_33 : Int32)    (s77 : xS), (sX9_judge_L77 p1 a2_33)  s77 = some (r, s') → wk l G 4 RX9 cX9_judge 3 (some .int) (xI r s') 77 [(0, .ref (gA G 0)), (1, .int p1), (2, .int a2_33)] [] s77 := by
    intro a2_33 s77 hf
    unfold sX9_judge_L77 at hf
    refine wk_iload_n (pc := 77) dX9_judge_77 rfl 2 rfl ?_
    refine wk_aload_n (pc := 78) dX9_judge_78 rfl 0 rfl ?_
    refine wk_getR (C := RX9) (T := TX9) (N := 24) (pc := 79) dX9_judge_79 (nm_0 hG).2 (nm_0 hG).1 rfl qU_X9 21 (by decide) qF_X9_50 rfl ?_
    refine wk_iload_n (pc := 82) dX9_judge_82 rfl 1 rfl ?_
    obtain ⟨h83, hf⟩ := xif_some hf
    refine wk_iald (pc := 83) (jj := p1.toNatClampNeg) dX9_judge_83 (nm_12 hG).2 (nm_12 hG).1 h83 rfl ?_
    refine wk_icmp_ne (pc := 84) (tgt := 101) dX9_judge_84 rfl hf (fun hf => ?_) (fun hf => ?_)
    · refine wk_iload_n (pc := 101) dX9_judge_101 rfl 2 rfl ?_
      exact wk_iret (pc := 102) dX9_judge_102 rfl (xI_of hf)
    · refine wk_iload_n (pc := 87) dX9_judge_87 rfl 2 rfl ?_
      refine wk_aload_n (pc := 88) dX9_judge_88 rfl 0 rfl ?_
      refine wk_getR (C := RX9) (T := TX9) (N := 24) (pc := 89) dX9_judge_89 (nm_0 hG).2 (nm_0 hG).1 rfl qU_X9 0 (by decide) qF_X9_9 rfl ?_
      refine wk_iconst (pc := 92) (v := (2 : Int32)) dX9_judge_92 (by decide) ?_
      refine wk_iald (pc := 93) (jj := 2) dX9_judge_93 (nm_1 hG).2 (nm_1 hG).1 (by decide) (by decide) ?_
      obtain ⟨y102d, hy102d, hf⟩ := xlet_some hf
      have K102 : wk l G 4 RX9 cX9_judge 3 (some .int) (xI r s') 102 [(0, .ref (gA G 0)), (1, .int p1), (2, .int a2_33)] [.int y102d] s77 := by
        exact wk_iret (pc := 102) dX9_judge_102 rfl (xI_of hf)
      by_cases c94 : a2_33 = (s77 1 2)
      · rw [if_pos c94] at hy102d
        refine wk_icmp_ne_p (pc := 94) (tgt := 101) dX9_judge_94 rfl c94 ?_
        refine wk_iconst (pc := 97) (v := (-1 : Int32)) dX9_judge_97 (by decide) ?_
        refine wk_goto (pc := 98) (tgt := 102) dX9_judge_98 rfl ?_
        exact wk_top hy102d K102
      · rw [if_neg c94] at hy102d
        refine wk_icmp_ne_m (pc := 94) (tgt := 101) dX9_judge_94 rfl c94 ?_
        refine wk_iload_n (pc := 101) dX9_judge_101 rfl 2 rfl ?_
        exact wk_top hy102d K102
  have J33 : ∀   (N : Nat) (a2_33 : Int32)  (s33 : xS), xloop (sX9_judge_L33 p1) N a2_33 s33 = some (r, s') → wk l G 4 RX9 cX9_judge 3 (some .int) (xI r s') 33 [(0, .ref (gA G 0)), (1, .int p1), (2, .int a2_33)] [] s33 := by
    intro N
    induction N with
    | zero => intro a2_33 s33 hf; exact (xloop_0 hf).elim
    | succ N ih33 =>
      intro a2_33 s33 hf
      rw [xloop_s] at hf
      generalize xloop (sX9_judge_L33 p1) N = self33 at hf ih33
      unfold sX9_judge_L33 at hf
      refine wk_iload_n (pc := 33) dX9_judge_33 rfl 2 rfl ?_
      refine wk_aload_n (pc := 34) dX9_judge_34 rfl 0 rfl ?_
      refine wk_getR (C := RX9) (T := TX9) (N := 24) (pc := 35) dX9_judge_35 (nm_0 hG).2 (nm_0 hG).1 rfl qU_X9 21 (by decide) qF_X9_50 rfl ?_
      refine wk_iload_n (pc := 38) dX9_judge_38 rfl 1 rfl ?_
      obtain ⟨h39, hf⟩ := xif_some hf
      refine wk_iald (pc := 39) (jj := p1.toNatClampNeg) dX9_judge_39 (nm_12 hG).2 (nm_12 hG).1 h39 rfl ?_
      refine wk_icmp_ge (pc := 40) (tgt := 77) dX9_judge_40 rfl hf (fun hf => ?_) (fun hf => ?_)
      · exact wk_lv [0, 1, 2] rfl (J77 a2_33   s33 hf)
      · refine wk_aload_n (pc := 43) dX9_judge_43 rfl 0 rfl ?_
        refine wk_iload_n (pc := 44) dX9_judge_44 rfl 2 rfl ?_
        obtain ⟨r45, s45, hc45, hf⟩ := xbind_some hf
        refine wk_callVI (pc := 45) (As := [.int a2_33]) (rest := []) (kX9_isShip l hG  hc45) cw_X9_218 (by decide) dX9_judge_45 (nm_0 hG).2 (nm_0 hG).1 rfl rfl rfl (Nat.le_of_ble_eq_true rfl) ?_
        refine wk_if_eq (pc := 48) (tgt := 77) dX9_judge_48 rfl hf (fun hf => ?_) (fun hf => ?_)
        · exact wk_lv [0, 1, 2] rfl (J77 a2_33   s45 hf)
        · refine wk_aload_n (pc := 51) dX9_judge_51 rfl 0 rfl ?_
          refine wk_getR (C := RX9) (T := TX9) (N := 24) (pc := 52) dX9_judge_52 (nm_0 hG).2 (nm_0 hG).1 rfl qU_X9 22 (by decide) qF_X9_53 rfl ?_
          refine wk_bipush (pc := 55) (v := (40 : Int32)) dX9_judge_55 (by decide) ?_
          refine wk_iload_n (pc := 57) dX9_judge_57 rfl 1 rfl ?_
          refine wk_imul (pc := 58) dX9_judge_58 ?_
          refine wk_iload_n (pc := 59) dX9_judge_59 rfl 2 rfl ?_
          refine wk_iadd (pc := 60) dX9_judge_60 ?_
          obtain ⟨h61, hf⟩ := xif_some hf
          refine wk_iald (pc := 61) (jj := (((40 : Int32) * p1) + a2_33).toNatClampNeg) dX9_judge_61 (nm_13 hG).2 (nm_13 hG).1 h61 rfl ?_
          refine wk_aload_n (pc := 62) dX9_judge_62 rfl 0 rfl ?_
          refine wk_iload_n (pc := 63) dX9_judge_63 rfl 2 rfl ?_
          refine wk_iconst (pc := 64) (v := (3 : Int32)) dX9_judge_64 (by decide) ?_
          obtain ⟨r65, s65, hc65, hf⟩ := xbind_some hf
          refine wk_callVI (pc := 65) (As := [.int a2_33, .int (3 : Int32)]) (rest := [.int (s45 13 (((40 : Int32) * p1) + a2_33).toNatClampNeg)]) (kX9_shipIs l hG  hc65) cw_X9_191 (by decide) dX9_judge_65 (nm_0 hG).2 (nm_0 hG).1 rfl rfl rfl (Nat.le_of_ble_eq_true rfl) ?_
          refine wk_icmp_ne (pc := 68) (tgt := 77) dX9_judge_68 rfl hf (fun hf => ?_) (fun hf => ?_)
          · exact wk_lv [0, 1, 2] rfl (J77 a2_33   s65 hf)
          · obtain ⟨y71, hy71, hf⟩ := xlet_some hf
            refine wk_iinc (pc := 71) (v := y71) (lv' := [(2, .int y71), (0, .ref (gA G 0)), (1, .int p1)]) dX9_judge_71 2 rfl (by rw [hy71] <;> rfl) (by decide) rfl ?_
            refine wk_goto (pc := 74) (tgt := 33) dX9_judge_74 rfl ?_
            exact wk_lv [1, 2, 0] rfl (ih33 y71  s65 hf)
  refine wk_iload_n (pc := 0) dX9_judge_0 rfl 1 rfl ?_
  obtain ⟨r1, s1, hc1, hf⟩ := xbind_some hf
  refine wk_callSI (pc := 1) (As := [.int p1]) (rest := []) (kX9_isSheet l hG  hc1) cw_X9_263 (by decide) dX9_judge_1 rfl (Nat.le_of_ble_eq_true rfl) ?_
  refine wk_if_ne (pc := 4) (tgt := 14) dX9_judge_4 rfl hf (fun hf => ?_) (fun hf => ?_)
  · refine wk_aload_n (pc := 14) dX9_judge_14 rfl 0 rfl ?_
    refine wk_getR (C := RX9) (T := TX9) (N := 24) (pc := 15) dX9_judge_15 (nm_0 hG).2 (nm_0 hG).1 rfl qU_X9 20 (by decide) qF_X9_47 rfl ?_
    refine wk_iload_n (pc := 18) dX9_judge_18 rfl 1 rfl ?_
    obtain ⟨h19, hf⟩ := xif_some hf
    refine wk_iald (pc := 19) (jj := p1.toNatClampNeg) dX9_judge_19 (nm_11 hG).2 (nm_11 hG).1 h19 rfl ?_
    refine wk_if_ne (pc := 20) (tgt := 31) dX9_judge_20 rfl hf (fun hf => ?_) (fun hf => ?_)
    · refine wk_iconst (pc := 31) (v := (0 : Int32)) dX9_judge_31 (by decide) ?_
      refine wk_istore_n (pc := 32) (lv' := [(2, .int (0 : Int32)), (0, .ref (gA G 0)), (1, .int p1)]) dX9_judge_32 rfl (by decide) rfl ?_
      exact wk_lv [1, 2, 0] rfl (J33  xF (0 : Int32)  s1 hf)
    · refine wk_aload_n (pc := 23) dX9_judge_23 rfl 0 rfl ?_
      refine wk_ldcw (pc := 24) (v := (-1000000002 : Int32)) dX9_judge_24 qK_X9_256 ?_
      obtain ⟨r27, s27, hc27, hf⟩ := xbind_some hf
      refine wk_callVI (pc := 27) (As := [.int (-1000000002 : Int32)]) (rest := []) (kX9_finding l hG  hc27) cw_X9_82 (by decide) dX9_judge_27 (nm_0 hG).2 (nm_0 hG).1 rfl rfl rfl (Nat.le_of_ble_eq_true rfl) ?_
      exact wk_iret (pc := 30) dX9_judge_30 rfl (xI_of hf)
  · refine wk_aload_n (pc := 7) dX9_judge_7 rfl 0 rfl ?_
    refine wk_ldc (pc := 8) (v := (-1000000001 : Int32)) dX9_judge_8 qK_X9_81 ?_
    obtain ⟨r10, s10, hc10, hf⟩ := xbind_some hf
    refine wk_callVI (pc := 10) (As := [.int (-1000000001 : Int32)]) (rest := []) (kX9_finding l hG  hc10) cw_X9_82 (by decide) dX9_judge_10 (nm_0 hG).2 (nm_0 hG).1 rfl rfl rfl (Nat.le_of_ble_eq_true rfl) ?_
    exact wk_iret (pc := 13) dX9_judge_13 rfl (xI_of hf)
noncomputable def sX9_image  (s : xS) : Option (Int32 × xS) := xbind (sX9_copy 1 2 s) (fun _ s8 => xlet (xup s8 0 (upd (s8 0) 3 ((s8 0 3) + (1 : Int32)))) (fun s18 => some ((s18 0 3), s18)))
set_option maxHeartbeats 4000000 in
set_option maxRecDepth 100000 in
theorem kX9_image (l : Launch) {G : xG} (hG : xM1 G)    {s : xS} {r : Int32} {s' : xS} (hf : sX9_image  s = some (r, s')) : xMet l G 3 yX9_image cX9_image 1 (some .int) [.ref (gA G 0)] s (xI r s') := by
  refine xMet.of (by decide) (Nat.le_of_ble_eq_true rfl) ?_
  show wk l G 3 RX9 cX9_image 1 (some .int) (xI r s') 0 [(0, .ref (gA G 0))] [] s
  unfold sX9_image at hf
  refine wk_aload_n (pc := 0) dX9_image_0 rfl 0 rfl ?_
  refine wk_getR (C := RX9) (T := TX9) (N := 24) (pc := 1) dX9_image_1 (nm_0 hG).2 (nm_0 hG).1 rfl qU_X9 0 (by decide) qF_X9_9 rfl ?_
  refine wk_aload_n (pc := 4) dX9_image_4 rfl 0 rfl ?_
  refine wk_getR (C := RX9) (T := TX9) (N := 24) (pc := 5) dX9_image_5 (nm_0 hG).2 (nm_0 hG).1 rfl qU_X9 1 (by decide) qF_X9_13 rfl ?_
  obtain ⟨⟨⟩, s8, hc8, hf⟩ := xbind_some hf
  refine wk_callSU (pc := 8) (As := [.ref (gA G 1), .ref (gA G 2)]) (rest := []) (kX9_copy l hG (nm_1 hG) (nm_2 hG) hc8) cw_X9_73 (by decide) dX9_image_8 rfl (Nat.le_of_ble_eq_true rfl) ?_
  refine wk_aload_n (pc := 11) dX9_image_11 rfl 0 rfl ?_
  refine wk_dup (pc := 12) dX9_image_12 rfl ?_
  refine wk_getI (C := RX9) (T := TX9) (N := 24) (pc := 13) dX9_image_13 (nm_0 hG).2 (nm_0 hG).1 rfl qU_X9 3 (by decide) qF_X9_299 rfl ?_
  refine wk_iconst (pc := 16) (v := (1 : Int32)) dX9_image_16 (by decide) ?_
  refine wk_iadd (pc := 17) dX9_image_17 ?_
  refine wk_putI (C := RX9) (T := TX9) (N := 24) (ty := .int) (pc := 18) dX9_image_18 (nm_0 hG).2 (nm_0 hG).1 rfl qU_X9 tyX9 tyX9_ok nmX9 3 (by decide) qF_X9_299 rfl rfl rfl rfl rfl ?_
  obtain ⟨s18, hs18, hf⟩ := xlet_some hf
  refine wk_sig hs18 ?_
  refine wk_aload_n (pc := 21) dX9_image_21 rfl 0 rfl ?_
  refine wk_getI (C := RX9) (T := TX9) (N := 24) (pc := 22) dX9_image_22 (nm_0 hG).2 (nm_0 hG).1 rfl qU_X9 3 (by decide) qF_X9_299 rfl ?_
  exact wk_iret (pc := 25) dX9_image_25 rfl (xI_of hf)
noncomputable def sX9_restore  (s : xS) : Option (Int32 × xS) := (if (s 0 3) = 0 then xbind (sX9_finding (-1000000002 : Int32) s) (fun r11 s11 => some (r11, s11)) else xbind (sX9_copy 2 1 s) (fun _ s23 => xbind (sX9_forgetDepths  s23) (fun _ s27 => some ((s27 1 0), s27))))
set_option maxHeartbeats 4000000 in
set_option maxRecDepth 100000 in
theorem kX9_restore (l : Launch) {G : xG} (hG : xM1 G)    {s : xS} {r : Int32} {s' : xS} (hf : sX9_restore  s = some (r, s')) : xMet l G 3 yX9_restore cX9_restore 1 (some .int) [.ref (gA G 0)] s (xI r s') := by
  refine xMet.of (by decide) (Nat.le_of_ble_eq_true rfl) ?_
  show wk l G 3 RX9 cX9_restore 1 (some .int) (xI r s') 0 [(0, .ref (gA G 0))] [] s
  unfold sX9_restore at hf
  refine wk_aload_n (pc := 0) dX9_restore_0 rfl 0 rfl ?_
  refine wk_getI (C := RX9) (T := TX9) (N := 24) (pc := 1) dX9_restore_1 (nm_0 hG).2 (nm_0 hG).1 rfl qU_X9 3 (by decide) qF_X9_299 rfl ?_
  refine wk_if_ne (pc := 4) (tgt := 15) dX9_restore_4 rfl hf (fun hf => ?_) (fun hf => ?_)
  · refine wk_aload_n (pc := 15) dX9_restore_15 rfl 0 rfl ?_
    refine wk_getR (C := RX9) (T := TX9) (N := 24) (pc := 16) dX9_restore_16 (nm_0 hG).2 (nm_0 hG).1 rfl qU_X9 1 (by decide) qF_X9_13 rfl ?_
    refine wk_aload_n (pc := 19) dX9_restore_19 rfl 0 rfl ?_
    refine wk_getR (C := RX9) (T := TX9) (N := 24) (pc := 20) dX9_restore_20 (nm_0 hG).2 (nm_0 hG).1 rfl qU_X9 0 (by decide) qF_X9_9 rfl ?_
    obtain ⟨⟨⟩, s23, hc23, hf⟩ := xbind_some hf
    refine wk_callSU (pc := 23) (As := [.ref (gA G 2), .ref (gA G 1)]) (rest := []) (kX9_copy l hG (nm_2 hG) (nm_1 hG) hc23) cw_X9_73 (by decide) dX9_restore_23 rfl (Nat.le_of_ble_eq_true rfl) ?_
    refine wk_aload_n (pc := 26) dX9_restore_26 rfl 0 rfl ?_
    obtain ⟨⟨⟩, s27, hc27, hf⟩ := xbind_some hf
    refine wk_callVU (pc := 27) (As := []) (rest := []) (kX9_forgetDepths l hG  hc27) cw_X9_145 (by decide) dX9_restore_27 (nm_0 hG).2 (nm_0 hG).1 rfl rfl rfl (Nat.le_of_ble_eq_true rfl) ?_
    refine wk_aload_n (pc := 30) dX9_restore_30 rfl 0 rfl ?_
    refine wk_getR (C := RX9) (T := TX9) (N := 24) (pc := 31) dX9_restore_31 (nm_0 hG).2 (nm_0 hG).1 rfl qU_X9 0 (by decide) qF_X9_9 rfl ?_
    refine wk_iconst (pc := 34) (v := (0 : Int32)) dX9_restore_34 (by decide) ?_
    refine wk_iald (pc := 35) (jj := 0) dX9_restore_35 (nm_1 hG).2 (nm_1 hG).1 (by decide) (by decide) ?_
    exact wk_iret (pc := 36) dX9_restore_36 rfl (xI_of hf)
  · refine wk_aload_n (pc := 7) dX9_restore_7 rfl 0 rfl ?_
    refine wk_ldcw (pc := 8) (v := (-1000000002 : Int32)) dX9_restore_8 qK_X9_256 ?_
    obtain ⟨r11, s11, hc11, hf⟩ := xbind_some hf
    refine wk_callVI (pc := 11) (As := [.int (-1000000002 : Int32)]) (rest := []) (kX9_finding l hG  hc11) cw_X9_82 (by decide) dX9_restore_11 (nm_0 hG).2 (nm_0 hG).1 rfl rfl rfl (Nat.le_of_ble_eq_true rfl) ?_
    exact wk_iret (pc := 14) dX9_restore_14 rfl (xI_of hf)
noncomputable def sX9_tell (p1 : Int32) (s : xS) : Option (Int32 × xS) := (if (s 1 8) = (20 : Int32) then xbind (sX9_finding (-1000000004 : Int32) s) (fun r15 s15 => some (r15, s15)) else (if xin ((118 : Int32) + (s 1 8)) 242 then xlet (xup s 1 (upd (s 1) ((118 : Int32) + (s 1 8)).toNatClampNeg p1)) (fun s34 => xlet (xup s34 1 (upd (s34 1) 8 ((s34 1 8) + (1 : Int32)))) (fun s45 => some ((s45 1 8), s45))) else none))
set_option maxHeartbeats 4000000 in
set_option maxRecDepth 100000 in
theorem kX9_tell (l : Launch) {G : xG} (hG : xM1 G)  {p1 : Int32}  {s : xS} {r : Int32} {s' : xS} (hf : sX9_tell p1 s = some (r, s')) : xMet l G 3 yX9_tell cX9_tell 2 (some .int) [.ref (gA G 0), .int p1] s (xI r s') := by
  refine xMet.of (by decide) (Nat.le_of_ble_eq_true rfl) ?_
  show wk l G 3 RX9 cX9_tell 2 (some .int) (xI r s') 0 [(0, .ref (gA G 0)), (1, .int p1)] [] s
  unfold sX9_tell at hf
  refine wk_aload_n (pc := 0) dX9_tell_0 rfl 0 rfl ?_
  refine wk_getR (C := RX9) (T := TX9) (N := 24) (pc := 1) dX9_tell_1 (nm_0 hG).2 (nm_0 hG).1 rfl qU_X9 0 (by decide) qF_X9_9 rfl ?_
  refine wk_bipush (pc := 4) (v := (8 : Int32)) dX9_tell_4 (by decide) ?_
  refine wk_iald (pc := 6) (jj := 8) dX9_tell_6 (nm_1 hG).2 (nm_1 hG).1 (by decide) (by decide) ?_
  refine wk_bipush (pc := 7) (v := (20 : Int32)) dX9_tell_7 (by decide) ?_
  refine wk_icmp_ne (pc := 9) (tgt := 19) dX9_tell_9 rfl hf (fun hf => ?_) (fun hf => ?_)
  · refine wk_aload_n (pc := 19) dX9_tell_19 rfl 0 rfl ?_
    refine wk_getR (C := RX9) (T := TX9) (N := 24) (pc := 20) dX9_tell_20 (nm_0 hG).2 (nm_0 hG).1 rfl qU_X9 0 (by decide) qF_X9_9 rfl ?_
    refine wk_bipush (pc := 23) (v := (118 : Int32)) dX9_tell_23 (by decide) ?_
    refine wk_aload_n (pc := 25) dX9_tell_25 rfl 0 rfl ?_
    refine wk_getR (C := RX9) (T := TX9) (N := 24) (pc := 26) dX9_tell_26 (nm_0 hG).2 (nm_0 hG).1 rfl qU_X9 0 (by decide) qF_X9_9 rfl ?_
    refine wk_bipush (pc := 29) (v := (8 : Int32)) dX9_tell_29 (by decide) ?_
    refine wk_iald (pc := 31) (jj := 8) dX9_tell_31 (nm_1 hG).2 (nm_1 hG).1 (by decide) (by decide) ?_
    refine wk_iadd (pc := 32) dX9_tell_32 ?_
    refine wk_iload_n (pc := 33) dX9_tell_33 rfl 1 rfl ?_
    obtain ⟨h34, hf⟩ := xif_some hf
    refine wk_iast (pc := 34) (jj := ((118 : Int32) + (s 1 8)).toNatClampNeg) dX9_tell_34 (nm_1 hG).2 (nm_1 hG).1 h34 rfl ?_
    obtain ⟨s34, hs34, hf⟩ := xlet_some hf
    refine wk_sig hs34 ?_
    refine wk_aload_n (pc := 35) dX9_tell_35 rfl 0 rfl ?_
    refine wk_getR (C := RX9) (T := TX9) (N := 24) (pc := 36) dX9_tell_36 (nm_0 hG).2 (nm_0 hG).1 rfl qU_X9 0 (by decide) qF_X9_9 rfl ?_
    refine wk_bipush (pc := 39) (v := (8 : Int32)) dX9_tell_39 (by decide) ?_
    refine wk_dup2 (pc := 41) dX9_tell_41 rfl rfl ?_
    refine wk_iald (pc := 42) (jj := 8) dX9_tell_42 (nm_1 hG).2 (nm_1 hG).1 (by decide) (by decide) ?_
    refine wk_iconst (pc := 43) (v := (1 : Int32)) dX9_tell_43 (by decide) ?_
    refine wk_iadd (pc := 44) dX9_tell_44 ?_
    refine wk_iast (pc := 45) (jj := 8) dX9_tell_45 (nm_1 hG).2 (nm_1 hG).1 (by decide) (by decide) ?_
    obtain ⟨s45, hs45, hf⟩ := xlet_some hf
    refine wk_sig hs45 ?_
    refine wk_aload_n (pc := 46) dX9_tell_46 rfl 0 rfl ?_
    refine wk_getR (C := RX9) (T := TX9) (N := 24) (pc := 47) dX9_tell_47 (nm_0 hG).2 (nm_0 hG).1 rfl qU_X9 0 (by decide) qF_X9_9 rfl ?_
    refine wk_bipush (pc := 50) (v := (8 : Int32)) dX9_tell_50 (by decide) ?_
    refine wk_iald (pc := 52) (jj := 8) dX9_tell_52 (nm_1 hG).2 (nm_1 hG).1 (by decide) (by decide) ?_
    exact wk_iret (pc := 53) dX9_tell_53 rfl (xI_of hf)
  · refine wk_aload_n (pc := 12) dX9_tell_12 rfl 0 rfl ?_
    refine wk_ldc (pc := 13) (v := (-1000000004 : Int32)) dX9_tell_13 qK_X9_85 ?_
    obtain ⟨r15, s15, hc15, hf⟩ := xbind_some hf
    refine wk_callVI (pc := 15) (As := [.int (-1000000004 : Int32)]) (rest := []) (kX9_finding l hG  hc15) cw_X9_82 (by decide) dX9_tell_15 (nm_0 hG).2 (nm_0 hG).1 rfl rfl rfl (Nat.le_of_ble_eq_true rfl) ?_
    exact wk_iret (pc := 18) dX9_tell_18 rfl (xI_of hf)
noncomputable def sX9_check_L74 (a2_31 : Int32)  (s74 : xS) : Option (Int32 × xS) := xbind (sX9_putBack a2_31 s74) (fun r76 s76 => some (r76, s76))
noncomputable def sX9_check_L67 (a3_31 : Int32) (self31 : Int32 × Int32 → xS → Option (Int32 × xS)) (y67d : Int32)  (s67 : xS) : Option (Int32 × xS) := xlet (a3_31 + (1 : Int32)) (fun y68 => self31 (y67d, y68) s67)
noncomputable def sX9_check_L31 (y7 : Int32) (self31 : Int32 × Int32 → xS → Option (Int32 × xS)) : Int32 × Int32 → xS → Option (Int32 × xS) := fun (a2_31, a3_31) s31 => (if y7 ≤ a3_31 then (sX9_check_L74 a2_31)  s31 else (if a2_31 = 0 then xbind (sX9_hour  s31) (fun _ s41 => (if xin ((118 : Int32) + a3_31) 242 then xbind (sX9_manyIn  s41) (fun r54 s54 => xlet ((if (s41 1 ((118 : Int32) + a3_31).toNatClampNeg) = r54 then (0 : Int32) else ((1 : Int32) + a3_31))) (fun y67d => (sX9_check_L67 a3_31 self31 y67d)  s54)) else none)) else (sX9_check_L74 a2_31)  s31))
noncomputable def sX9_check  (s : xS) : Option (Int32 × xS) := xlet ((s 1 8)) (fun y7 => xlet (xup s 1 (upd (s 1) 8 (0 : Int32))) (fun s15 => xbind (sX9_copy 1 3 s15) (fun _ s24 => xloop (sX9_check_L31 y7) xF ((0 : Int32), (0 : Int32)) s24)))
set_option maxHeartbeats 4000000 in
set_option maxRecDepth 100000 in
theorem kX9_check (l : Launch) {G : xG} (hG : xM1 G)    {s : xS} {r : Int32} {s' : xS} (hf : sX9_check  s = some (r, s')) : xMet l G 11 yX9_check cX9_check 4 (some .int) [.ref (gA G 0)] s (xI r s') := by
  refine xMet.of (by decide) (Nat.le_of_ble_eq_true rfl) ?_
  show wk l G 11 RX9 cX9_check 4 (some .int) (xI r s') 0 [(0, .ref (gA G 0))] [] s
  unfold sX9_check at hf
  have J74 : ∀ (a2_31 : Int32)    (s74 : xS), (sX9_check_L74 a2_31)  s74 = some (r, s') → wk l G 11 RX9 cX9_check 4 (some .int) (xI r s') 74 [(0, .ref (gA G 0)), (2, .int a2_31)] [] s74 := by
    intro a2_31 s74 hf
    unfold sX9_check_L74 at hf
    refine wk_aload_n (pc := 74) dX9_check_74 rfl 0 rfl ?_
    refine wk_iload_n (pc := 75) dX9_check_75 rfl 1 rfl ?_
    obtain ⟨r76, s76, hc76, hf⟩ := xbind_some hf
    refine wk_callVI (pc := 76) (As := [.int a2_31]) (rest := []) (kX9_putBack l hG  hc76) cw_X9_250 (by decide) dX9_check_76 (nm_0 hG).2 (nm_0 hG).1 rfl rfl rfl (Nat.le_of_ble_eq_true rfl) ?_
    exact wk_iret (pc := 79) dX9_check_79 rfl (xI_of hf)
  have J31 : ∀ (y7 : Int32)  (N : Nat) (a2_31 : Int32) (a3_31 : Int32)  (s31 : xS), xloop (sX9_check_L31 y7) N (a2_31, a3_31) s31 = some (r, s') → wk l G 11 RX9 cX9_check 4 (some .int) (xI r s') 31 [(0, .ref (gA G 0)), (1, .int y7), (2, .int a2_31), (3, .int a3_31)] [] s31 := by
    intro y7
    intro N
    induction N with
    | zero => intro a2_31 a3_31 s31 hf; exact (xloop_0 hf).elim
    | succ N ih31 =>
      intro a2_31 a3_31 s31 hf
      rw [xloop_s] at hf
      generalize xloop (sX9_check_L31 y7) N = self31 at hf ih31
      unfold sX9_check_L31 at hf
      dsimp only at hf
      have J67 : ∀ (y67d : Int32)    (s67 : xS), (sX9_check_L67 a3_31 self31 y67d)  s67 = some (r, s') → wk l G 11 RX9 cX9_check 4 (some .int) (xI r s') 67 [(0, .ref (gA G 0)), (1, .int y7), (3, .int a3_31)] [.int y67d] s67 := by
        intro y67d s67 hf
        unfold sX9_check_L67 at hf
        refine wk_istore_n (pc := 67) (lv' := [(2, .int y67d), (0, .ref (gA G 0)), (1, .int y7), (3, .int a3_31)]) dX9_check_67 rfl (by decide) rfl ?_
        obtain ⟨y68, hy68, hf⟩ := xlet_some hf
        refine wk_iinc (pc := 68) (v := y68) (lv' := [(3, .int y68), (2, .int y67d), (0, .ref (gA G 0)), (1, .int y7)]) dX9_check_68 3 rfl (by rw [hy68] <;> rfl) (by decide) rfl ?_
        refine wk_goto (pc := 71) (tgt := 31) dX9_check_71 rfl ?_
        exact wk_lv [2, 3, 1, 0] rfl (ih31 y67d y68  s67 hf)
      refine wk_iload_n (pc := 31) dX9_check_31 rfl 3 rfl ?_
      refine wk_iload_n (pc := 32) dX9_check_32 rfl 1 rfl ?_
      refine wk_icmp_ge (pc := 33) (tgt := 74) dX9_check_33 rfl hf (fun hf => ?_) (fun hf => ?_)
      · exact wk_lv [0, 2] rfl (J74 a2_31   s31 hf)
      · refine wk_iload_n (pc := 36) dX9_check_36 rfl 2 rfl ?_
        refine wk_if_ne (pc := 37) (tgt := 74) dX9_check_37 rfl hf (fun hf => ?_) (fun hf => ?_)
        · exact wk_lv [0, 2] rfl (J74 a2_31   s31 hf)
        · refine wk_aload_n (pc := 40) dX9_check_40 rfl 0 rfl ?_
          obtain ⟨⟨⟩, s41, hc41, hf⟩ := xbind_some hf
          refine wk_callVU (pc := 41) (As := []) (rest := []) (kX9_hour l hG  hc41) cw_X9_231 (by decide) dX9_check_41 (nm_0 hG).2 (nm_0 hG).1 rfl rfl rfl (Nat.le_of_ble_eq_true rfl) ?_
          refine wk_aload_n (pc := 44) dX9_check_44 rfl 0 rfl ?_
          refine wk_getR (C := RX9) (T := TX9) (N := 24) (pc := 45) dX9_check_45 (nm_0 hG).2 (nm_0 hG).1 rfl qU_X9 0 (by decide) qF_X9_9 rfl ?_
          refine wk_bipush (pc := 48) (v := (118 : Int32)) dX9_check_48 (by decide) ?_
          refine wk_iload_n (pc := 50) dX9_check_50 rfl 3 rfl ?_
          refine wk_iadd (pc := 51) dX9_check_51 ?_
          obtain ⟨h52, hf⟩ := xif_some hf
          refine wk_iald (pc := 52) (jj := ((118 : Int32) + a3_31).toNatClampNeg) dX9_check_52 (nm_1 hG).2 (nm_1 hG).1 h52 rfl ?_
          refine wk_aload_n (pc := 53) dX9_check_53 rfl 0 rfl ?_
          obtain ⟨r54, s54, hc54, hf⟩ := xbind_some hf
          refine wk_callVI (pc := 54) (As := []) (rest := [.int (s41 1 ((118 : Int32) + a3_31).toNatClampNeg)]) (kX9_manyIn l hG  hc54) cw_X9_240 (by decide) dX9_check_54 (nm_0 hG).2 (nm_0 hG).1 rfl rfl rfl (Nat.le_of_ble_eq_true rfl) ?_
          obtain ⟨y67d, hy67d, hf⟩ := xlet_some hf
          have K67 : wk l G 11 RX9 cX9_check 4 (some .int) (xI r s') 67 [(0, .ref (gA G 0)), (1, .int y7), (2, .int a2_31), (3, .int a3_31)] [.int y67d] s54 := by
            exact wk_lv [0, 1, 3] rfl (J67 y67d   s54 hf)
          by_cases c57 : (s41 1 ((118 : Int32) + a3_31).toNatClampNeg) = r54
          · rw [if_pos c57] at hy67d
            refine wk_icmp_ne_p (pc := 57) (tgt := 64) dX9_check_57 rfl c57 ?_
            refine wk_iconst (pc := 60) (v := (0 : Int32)) dX9_check_60 (by decide) ?_
            refine wk_goto (pc := 61) (tgt := 67) dX9_check_61 rfl ?_
            exact wk_top hy67d K67
          · rw [if_neg c57] at hy67d
            refine wk_icmp_ne_m (pc := 57) (tgt := 64) dX9_check_57 rfl c57 ?_
            refine wk_iconst (pc := 64) (v := (1 : Int32)) dX9_check_64 (by decide) ?_
            refine wk_iload_n (pc := 65) dX9_check_65 rfl 3 rfl ?_
            refine wk_iadd (pc := 66) dX9_check_66 ?_
            exact wk_top hy67d K67
  refine wk_aload_n (pc := 0) dX9_check_0 rfl 0 rfl ?_
  refine wk_getR (C := RX9) (T := TX9) (N := 24) (pc := 1) dX9_check_1 (nm_0 hG).2 (nm_0 hG).1 rfl qU_X9 0 (by decide) qF_X9_9 rfl ?_
  refine wk_bipush (pc := 4) (v := (8 : Int32)) dX9_check_4 (by decide) ?_
  refine wk_iald (pc := 6) (jj := 8) dX9_check_6 (nm_1 hG).2 (nm_1 hG).1 (by decide) (by decide) ?_
  obtain ⟨y7, hy7, hf⟩ := xlet_some hf
  refine wk_top hy7 ?_
  refine wk_istore_n (pc := 7) (lv' := [(1, .int y7), (0, .ref (gA G 0))]) dX9_check_7 rfl (by decide) rfl ?_
  refine wk_aload_n (pc := 8) dX9_check_8 rfl 1 rfl ?_
  refine wk_getR (C := RX9) (T := TX9) (N := 24) (pc := 9) dX9_check_9 (nm_0 hG).2 (nm_0 hG).1 rfl qU_X9 0 (by decide) qF_X9_9 rfl ?_
  refine wk_bipush (pc := 12) (v := (8 : Int32)) dX9_check_12 (by decide) ?_
  refine wk_iconst (pc := 14) (v := (0 : Int32)) dX9_check_14 (by decide) ?_
  refine wk_iast (pc := 15) (jj := 8) dX9_check_15 (nm_1 hG).2 (nm_1 hG).1 (by decide) (by decide) ?_
  obtain ⟨s15, hs15, hf⟩ := xlet_some hf
  refine wk_sig hs15 ?_
  refine wk_aload_n (pc := 16) dX9_check_16 rfl 1 rfl ?_
  refine wk_getR (C := RX9) (T := TX9) (N := 24) (pc := 17) dX9_check_17 (nm_0 hG).2 (nm_0 hG).1 rfl qU_X9 0 (by decide) qF_X9_9 rfl ?_
  refine wk_aload_n (pc := 20) dX9_check_20 rfl 1 rfl ?_
  refine wk_getR (C := RX9) (T := TX9) (N := 24) (pc := 21) dX9_check_21 (nm_0 hG).2 (nm_0 hG).1 rfl qU_X9 2 (by decide) qF_X9_16 rfl ?_
  obtain ⟨⟨⟩, s24, hc24, hf⟩ := xbind_some hf
  refine wk_callSU (pc := 24) (As := [.ref (gA G 1), .ref (gA G 3)]) (rest := []) (kX9_copy l hG (nm_1 hG) (nm_3 hG) hc24) cw_X9_73 (by decide) dX9_check_24 rfl (Nat.le_of_ble_eq_true rfl) ?_
  refine wk_iconst (pc := 27) (v := (0 : Int32)) dX9_check_27 (by decide) ?_
  refine wk_istore_n (pc := 28) (lv' := [(2, .int (0 : Int32)), (1, .int y7), (0, .ref (gA G 0))]) dX9_check_28 rfl (by decide) rfl ?_
  refine wk_iconst (pc := 29) (v := (0 : Int32)) dX9_check_29 (by decide) ?_
  refine wk_istore_n (pc := 30) (lv' := [(3, .int (0 : Int32)), (2, .int (0 : Int32)), (1, .int y7), (0, .ref (gA G 0))]) dX9_check_30 rfl (by decide) rfl ?_
  exact wk_lv [3, 2, 1, 0] rfl (J31 y7 xF (0 : Int32) (0 : Int32)  s24 hf)
noncomputable def sX9_count (p1 : Int32) (s : xS) : Option (Int32 × xS) := (if p1 = 0 then some ((s 1 1), s) else (if p1 = 1 then some ((s 1 2), s) else (if p1 = 2 then some ((s 1 0), s) else (if p1 = 3 then some ((s 1 3), s) else (if p1 = 4 then some ((s 1 4), s) else (if p1 = 5 then some ((s 1 5), s) else (if p1 = 6 then xbind (sX9_manyIn  s) (fun r107 s107 => some (r107, s107)) else (if p1 = 7 then xbind (sX9_lostNow  s) (fun r112 s112 => xbind (sX9_bits r112 s112) (fun r115 s115 => some (r115, s115))) else (if p1 = 8 then some ((s 1 7), s) else (if p1 = 9 then some ((s 1 8), s) else (if p1 = 10 then some ((s 0 16), s) else (if p1 = 11 then some ((s 1 6), s) else xbind (sX9_finding (-1000000001 : Int32) s) (fun r151 s151 => some (r151, s151))))))))))))))
set_option maxHeartbeats 4000000 in
set_option maxRecDepth 100000 in
theorem kX9_count (l : Launch) {G : xG} (hG : xM1 G)  {p1 : Int32}  {s : xS} {r : Int32} {s' : xS} (hf : sX9_count p1 s = some (r, s')) : xMet l G 6 yX9_count cX9_count 2 (some .int) [.ref (gA G 0), .int p1] s (xI r s') := by
  refine xMet.of (by decide) (Nat.le_of_ble_eq_true rfl) ?_
  show wk l G 6 RX9 cX9_count 2 (some .int) (xI r s') 0 [(0, .ref (gA G 0)), (1, .int p1)] [] s
  unfold sX9_count at hf
  refine wk_iload_n (pc := 0) dX9_count_0 rfl 1 rfl ?_
  by_cases e0 : p1 = 0
  · rw [if_pos e0] at hf
    refine wk_tableIn (pc := 1) (off := 63) (tgt := 64) dX9_count_1 (0 : Int32) e0 (by decide) (by decide) (by decide) rfl ?_
    refine wk_aload_n (pc := 64) dX9_count_64 rfl 0 rfl ?_
    refine wk_getR (C := RX9) (T := TX9) (N := 24) (pc := 65) dX9_count_65 (nm_0 hG).2 (nm_0 hG).1 rfl qU_X9 0 (by decide) qF_X9_9 rfl ?_
    refine wk_iconst (pc := 68) (v := (1 : Int32)) dX9_count_68 (by decide) ?_
    refine wk_iald (pc := 69) (jj := 1) dX9_count_69 (nm_1 hG).2 (nm_1 hG).1 (by decide) (by decide) ?_
    exact wk_iret (pc := 70) dX9_count_70 rfl (xI_of hf)
  · rw [if_neg e0] at hf
    by_cases e1 : p1 = 1
    · rw [if_pos e1] at hf
      refine wk_tableIn (pc := 1) (off := 70) (tgt := 71) dX9_count_1 (1 : Int32) e1 (by decide) (by decide) (by decide) rfl ?_
      refine wk_aload_n (pc := 71) dX9_count_71 rfl 0 rfl ?_
      refine wk_getR (C := RX9) (T := TX9) (N := 24) (pc := 72) dX9_count_72 (nm_0 hG).2 (nm_0 hG).1 rfl qU_X9 0 (by decide) qF_X9_9 rfl ?_
      refine wk_iconst (pc := 75) (v := (2 : Int32)) dX9_count_75 (by decide) ?_
      refine wk_iald (pc := 76) (jj := 2) dX9_count_76 (nm_1 hG).2 (nm_1 hG).1 (by decide) (by decide) ?_
      exact wk_iret (pc := 77) dX9_count_77 rfl (xI_of hf)
    · rw [if_neg e1] at hf
      by_cases e2 : p1 = 2
      · rw [if_pos e2] at hf
        refine wk_tableIn (pc := 1) (off := 77) (tgt := 78) dX9_count_1 (2 : Int32) e2 (by decide) (by decide) (by decide) rfl ?_
        refine wk_aload_n (pc := 78) dX9_count_78 rfl 0 rfl ?_
        refine wk_getR (C := RX9) (T := TX9) (N := 24) (pc := 79) dX9_count_79 (nm_0 hG).2 (nm_0 hG).1 rfl qU_X9 0 (by decide) qF_X9_9 rfl ?_
        refine wk_iconst (pc := 82) (v := (0 : Int32)) dX9_count_82 (by decide) ?_
        refine wk_iald (pc := 83) (jj := 0) dX9_count_83 (nm_1 hG).2 (nm_1 hG).1 (by decide) (by decide) ?_
        exact wk_iret (pc := 84) dX9_count_84 rfl (xI_of hf)
      · rw [if_neg e2] at hf
        by_cases e3 : p1 = 3
        · rw [if_pos e3] at hf
          refine wk_tableIn (pc := 1) (off := 84) (tgt := 85) dX9_count_1 (3 : Int32) e3 (by decide) (by decide) (by decide) rfl ?_
          refine wk_aload_n (pc := 85) dX9_count_85 rfl 0 rfl ?_
          refine wk_getR (C := RX9) (T := TX9) (N := 24) (pc := 86) dX9_count_86 (nm_0 hG).2 (nm_0 hG).1 rfl qU_X9 0 (by decide) qF_X9_9 rfl ?_
          refine wk_iconst (pc := 89) (v := (3 : Int32)) dX9_count_89 (by decide) ?_
          refine wk_iald (pc := 90) (jj := 3) dX9_count_90 (nm_1 hG).2 (nm_1 hG).1 (by decide) (by decide) ?_
          exact wk_iret (pc := 91) dX9_count_91 rfl (xI_of hf)
        · rw [if_neg e3] at hf
          by_cases e4 : p1 = 4
          · rw [if_pos e4] at hf
            refine wk_tableIn (pc := 1) (off := 91) (tgt := 92) dX9_count_1 (4 : Int32) e4 (by decide) (by decide) (by decide) rfl ?_
            refine wk_aload_n (pc := 92) dX9_count_92 rfl 0 rfl ?_
            refine wk_getR (C := RX9) (T := TX9) (N := 24) (pc := 93) dX9_count_93 (nm_0 hG).2 (nm_0 hG).1 rfl qU_X9 0 (by decide) qF_X9_9 rfl ?_
            refine wk_iconst (pc := 96) (v := (4 : Int32)) dX9_count_96 (by decide) ?_
            refine wk_iald (pc := 97) (jj := 4) dX9_count_97 (nm_1 hG).2 (nm_1 hG).1 (by decide) (by decide) ?_
            exact wk_iret (pc := 98) dX9_count_98 rfl (xI_of hf)
          · rw [if_neg e4] at hf
            by_cases e5 : p1 = 5
            · rw [if_pos e5] at hf
              refine wk_tableIn (pc := 1) (off := 98) (tgt := 99) dX9_count_1 (5 : Int32) e5 (by decide) (by decide) (by decide) rfl ?_
              refine wk_aload_n (pc := 99) dX9_count_99 rfl 0 rfl ?_
              refine wk_getR (C := RX9) (T := TX9) (N := 24) (pc := 100) dX9_count_100 (nm_0 hG).2 (nm_0 hG).1 rfl qU_X9 0 (by decide) qF_X9_9 rfl ?_
              refine wk_iconst (pc := 103) (v := (5 : Int32)) dX9_count_103 (by decide) ?_
              refine wk_iald (pc := 104) (jj := 5) dX9_count_104 (nm_1 hG).2 (nm_1 hG).1 (by decide) (by decide) ?_
              exact wk_iret (pc := 105) dX9_count_105 rfl (xI_of hf)
            · rw [if_neg e5] at hf
              by_cases e6 : p1 = 6
              · rw [if_pos e6] at hf
                refine wk_tableIn (pc := 1) (off := 105) (tgt := 106) dX9_count_1 (6 : Int32) e6 (by decide) (by decide) (by decide) rfl ?_
                refine wk_aload_n (pc := 106) dX9_count_106 rfl 0 rfl ?_
                obtain ⟨r107, s107, hc107, hf⟩ := xbind_some hf
                refine wk_callVI (pc := 107) (As := []) (rest := []) (kX9_manyIn l hG  hc107) cw_X9_240 (by decide) dX9_count_107 (nm_0 hG).2 (nm_0 hG).1 rfl rfl rfl (Nat.le_of_ble_eq_true rfl) ?_
                exact wk_iret (pc := 110) dX9_count_110 rfl (xI_of hf)
              · rw [if_neg e6] at hf
                by_cases e7 : p1 = 7
                · rw [if_pos e7] at hf
                  refine wk_tableIn (pc := 1) (off := 110) (tgt := 111) dX9_count_1 (7 : Int32) e7 (by decide) (by decide) (by decide) rfl ?_
                  refine wk_aload_n (pc := 111) dX9_count_111 rfl 0 rfl ?_
                  obtain ⟨r112, s112, hc112, hf⟩ := xbind_some hf
                  refine wk_callVI (pc := 112) (As := []) (rest := []) (kX9_lostNow l hG  hc112) cw_X9_253 (by decide) dX9_count_112 (nm_0 hG).2 (nm_0 hG).1 rfl rfl rfl (Nat.le_of_ble_eq_true rfl) ?_
                  obtain ⟨r115, s115, hc115, hf⟩ := xbind_some hf
                  refine wk_callSI (pc := 115) (As := [.int r112]) (rest := []) (kX9_bits l hG  hc115) cw_X9_234 (by decide) dX9_count_115 rfl (Nat.le_of_ble_eq_true rfl) ?_
                  exact wk_iret (pc := 118) dX9_count_118 rfl (xI_of hf)
                · rw [if_neg e7] at hf
                  by_cases e8 : p1 = 8
                  · rw [if_pos e8] at hf
                    refine wk_tableIn (pc := 1) (off := 118) (tgt := 119) dX9_count_1 (8 : Int32) e8 (by decide) (by decide) (by decide) rfl ?_
                    refine wk_aload_n (pc := 119) dX9_count_119 rfl 0 rfl ?_
                    refine wk_getR (C := RX9) (T := TX9) (N := 24) (pc := 120) dX9_count_120 (nm_0 hG).2 (nm_0 hG).1 rfl qU_X9 0 (by decide) qF_X9_9 rfl ?_
                    refine wk_bipush (pc := 123) (v := (7 : Int32)) dX9_count_123 (by decide) ?_
                    refine wk_iald (pc := 125) (jj := 7) dX9_count_125 (nm_1 hG).2 (nm_1 hG).1 (by decide) (by decide) ?_
                    exact wk_iret (pc := 126) dX9_count_126 rfl (xI_of hf)
                  · rw [if_neg e8] at hf
                    by_cases e9 : p1 = 9
                    · rw [if_pos e9] at hf
                      refine wk_tableIn (pc := 1) (off := 126) (tgt := 127) dX9_count_1 (9 : Int32) e9 (by decide) (by decide) (by decide) rfl ?_
                      refine wk_aload_n (pc := 127) dX9_count_127 rfl 0 rfl ?_
                      refine wk_getR (C := RX9) (T := TX9) (N := 24) (pc := 128) dX9_count_128 (nm_0 hG).2 (nm_0 hG).1 rfl qU_X9 0 (by decide) qF_X9_9 rfl ?_
                      refine wk_bipush (pc := 131) (v := (8 : Int32)) dX9_count_131 (by decide) ?_
                      refine wk_iald (pc := 133) (jj := 8) dX9_count_133 (nm_1 hG).2 (nm_1 hG).1 (by decide) (by decide) ?_
                      exact wk_iret (pc := 134) dX9_count_134 rfl (xI_of hf)
                    · rw [if_neg e9] at hf
                      by_cases e10 : p1 = 10
                      · rw [if_pos e10] at hf
                        refine wk_tableIn (pc := 1) (off := 134) (tgt := 135) dX9_count_1 (10 : Int32) e10 (by decide) (by decide) (by decide) rfl ?_
                        refine wk_aload_n (pc := 135) dX9_count_135 rfl 0 rfl ?_
                        refine wk_getI (C := RX9) (T := TX9) (N := 24) (pc := 136) dX9_count_136 (nm_0 hG).2 (nm_0 hG).1 rfl qU_X9 16 (by decide) qF_X9_269 rfl ?_
                        exact wk_iret (pc := 139) dX9_count_139 rfl (xI_of hf)
                      · rw [if_neg e10] at hf
                        by_cases e11 : p1 = 11
                        · rw [if_pos e11] at hf
                          refine wk_tableIn (pc := 1) (off := 139) (tgt := 140) dX9_count_1 (11 : Int32) e11 (by decide) (by decide) (by decide) rfl ?_
                          refine wk_aload_n (pc := 140) dX9_count_140 rfl 0 rfl ?_
                          refine wk_getR (C := RX9) (T := TX9) (N := 24) (pc := 141) dX9_count_141 (nm_0 hG).2 (nm_0 hG).1 rfl qU_X9 0 (by decide) qF_X9_9 rfl ?_
                          refine wk_bipush (pc := 144) (v := (6 : Int32)) dX9_count_144 (by decide) ?_
                          refine wk_iald (pc := 146) (jj := 6) dX9_count_146 (nm_1 hG).2 (nm_1 hG).1 (by decide) (by decide) ?_
                          exact wk_iret (pc := 147) dX9_count_147 rfl (xI_of hf)
                        · rw [if_neg e11] at hf
                          have g0 : ¬ p1.toInt = 0 := fun q => e0 (Int32.toInt_inj.mp (q.trans (by decide)))
                          have g1 : ¬ p1.toInt = 1 := fun q => e1 (Int32.toInt_inj.mp (q.trans (by decide)))
                          have g2 : ¬ p1.toInt = 2 := fun q => e2 (Int32.toInt_inj.mp (q.trans (by decide)))
                          have g3 : ¬ p1.toInt = 3 := fun q => e3 (Int32.toInt_inj.mp (q.trans (by decide)))
                          have g4 : ¬ p1.toInt = 4 := fun q => e4 (Int32.toInt_inj.mp (q.trans (by decide)))
                          have g5 : ¬ p1.toInt = 5 := fun q => e5 (Int32.toInt_inj.mp (q.trans (by decide)))
                          have g6 : ¬ p1.toInt = 6 := fun q => e6 (Int32.toInt_inj.mp (q.trans (by decide)))
                          have g7 : ¬ p1.toInt = 7 := fun q => e7 (Int32.toInt_inj.mp (q.trans (by decide)))
                          have g8 : ¬ p1.toInt = 8 := fun q => e8 (Int32.toInt_inj.mp (q.trans (by decide)))
                          have g9 : ¬ p1.toInt = 9 := fun q => e9 (Int32.toInt_inj.mp (q.trans (by decide)))
                          have g10 : ¬ p1.toInt = 10 := fun q => e10 (Int32.toInt_inj.mp (q.trans (by decide)))
                          have g11 : ¬ p1.toInt = 11 := fun q => e11 (Int32.toInt_inj.mp (q.trans (by decide)))
                          refine wk_tableOut (pc := 1) (tgt := 148) dX9_count_1 (by omega) rfl ?_
                          refine wk_aload_n (pc := 148) dX9_count_148 rfl 0 rfl ?_
                          refine wk_ldc (pc := 149) (v := (-1000000001 : Int32)) dX9_count_149 qK_X9_81 ?_
                          obtain ⟨r151, s151, hc151, hf⟩ := xbind_some hf
                          refine wk_callVI (pc := 151) (As := [.int (-1000000001 : Int32)]) (rest := []) (kX9_finding l hG  hc151) cw_X9_82 (by decide) dX9_count_151 (nm_0 hG).2 (nm_0 hG).1 rfl rfl rfl (Nat.le_of_ble_eq_true rfl) ?_
                          exact wk_iret (pc := 154) dX9_count_154 rfl (xI_of hf)
noncomputable def sX9_told (p1 : Int32) (s : xS) : Option (Int32 × xS) := xbind (sX9_within p1 (1 : Int32) (5 : Int32) s) (fun r3 s3 => (if r3 = 0 then xbind (sX9_finding (-1000000001 : Int32) s3) (fun r21 s21 => some (r21, s21)) else (if xin p1 6 then some ((s3 4 p1.toNatClampNeg), s3) else none)))
set_option maxHeartbeats 4000000 in
set_option maxRecDepth 100000 in
theorem kX9_told (l : Launch) {G : xG} (hG : xM1 G)  {p1 : Int32}  {s : xS} {r : Int32} {s' : xS} (hf : sX9_told p1 s = some (r, s')) : xMet l G 3 yX9_told cX9_told 2 (some .int) [.ref (gA G 0), .int p1] s (xI r s') := by
  refine xMet.of (by decide) (Nat.le_of_ble_eq_true rfl) ?_
  show wk l G 3 RX9 cX9_told 2 (some .int) (xI r s') 0 [(0, .ref (gA G 0)), (1, .int p1)] [] s
  unfold sX9_told at hf
  refine wk_iload_n (pc := 0) dX9_told_0 rfl 1 rfl ?_
  refine wk_iconst (pc := 1) (v := (1 : Int32)) dX9_told_1 (by decide) ?_
  refine wk_iconst (pc := 2) (v := (5 : Int32)) dX9_told_2 (by decide) ?_
  obtain ⟨r3, s3, hc3, hf⟩ := xbind_some hf
  refine wk_callSI (pc := 3) (As := [.int p1, .int (1 : Int32), .int (5 : Int32)]) (rest := []) (kX9_within l hG  hc3) cw_X9_77 (by decide) dX9_told_3 rfl (Nat.le_of_ble_eq_true rfl) ?_
  refine wk_if_eq (pc := 6) (tgt := 18) dX9_told_6 rfl hf (fun hf => ?_) (fun hf => ?_)
  · refine wk_aload_n (pc := 18) dX9_told_18 rfl 0 rfl ?_
    refine wk_ldc (pc := 19) (v := (-1000000001 : Int32)) dX9_told_19 qK_X9_81 ?_
    obtain ⟨r21, s21, hc21, hf⟩ := xbind_some hf
    refine wk_callVI (pc := 21) (As := [.int (-1000000001 : Int32)]) (rest := []) (kX9_finding l hG  hc21) cw_X9_82 (by decide) dX9_told_21 (nm_0 hG).2 (nm_0 hG).1 rfl rfl rfl (Nat.le_of_ble_eq_true rfl) ?_
    exact wk_iret (pc := 24) dX9_told_24 rfl (xI_of hf)
  · refine wk_aload_n (pc := 9) dX9_told_9 rfl 0 rfl ?_
    refine wk_getR (C := RX9) (T := TX9) (N := 24) (pc := 10) dX9_told_10 (nm_0 hG).2 (nm_0 hG).1 rfl qU_X9 4 (by decide) qF_X9_19 rfl ?_
    refine wk_iload_n (pc := 13) dX9_told_13 rfl 1 rfl ?_
    obtain ⟨h14, hf⟩ := xif_some hf
    refine wk_iald (pc := 14) (jj := p1.toNatClampNeg) dX9_told_14 (nm_4 hG).2 (nm_4 hG).1 h14 rfl ?_
    refine wk_goto (pc := 15) (tgt := 24) dX9_told_15 rfl ?_
    exact wk_iret (pc := 24) dX9_told_24 rfl (xI_of hf)
