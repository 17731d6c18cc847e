noncomputable def sX8_refuse (p1 : Int32) (s : xS) : Option (Int32 × xS) := (if xin p1 6 then (if xin p1 6 then xlet (xup s 65 (upd (s 65) p1.toNatClampNeg ((s 65 p1.toNatClampNeg) + (1 : Int32)))) (fun s9 => some (((-1000000000 : Int32) - p1), s9)) else none) else none)
set_option maxHeartbeats 4000000 in
set_option maxRecDepth 100000 in
theorem kX8_refuse (l : Launch) {G : xG} (hG : xC1 G)  {p1 : Int32}  {s : xS} {r : Int32} {s' : xS} (hf : sX8_refuse p1 s = some (r, s')) : xMet l G 2 yX8_refuse cX8_refuse 2 (some .int) [.ref (gA G 0), .int p1] s (xI r s') := by
  refine xMet.of (by decide) (Nat.le_of_ble_eq_true rfl) ?_
  show wk l G 2 RX8 cX8_refuse 2 (some .int) (xI r s') 0 [(0, .ref (gA G 0)), (1, .int p1)] [] s
  unfold sX8_refuse at hf
  refine wk_aload_n (pc := 0) dX8_refuse_0 rfl 0 rfl ?_
  refine wk_getR (C := RX8) (T := TX8) (N := 13) (pc := 1) dX8_refuse_1 (nc_0 hG).2 (nc_0 hG).1 rfl qU_X8 12 (by decide) qF_X8_74 rfl ?_
  refine wk_iload_n (pc := 4) dX8_refuse_4 rfl 1 rfl ?_
  refine wk_dup2 (pc := 5) dX8_refuse_5 rfl rfl ?_
  obtain ⟨h6, hf⟩ := xif_some hf
  refine wk_iald (pc := 6) (jj := p1.toNatClampNeg) dX8_refuse_6 (nc_65 hG).2 (nc_65 hG).1 h6 rfl ?_
  refine wk_iconst (pc := 7) (v := (1 : Int32)) dX8_refuse_7 (by decide) ?_
  refine wk_iadd (pc := 8) dX8_refuse_8 ?_
  obtain ⟨h9, hf⟩ := xif_some hf
  refine wk_iast (pc := 9) (jj := p1.toNatClampNeg) dX8_refuse_9 (nc_65 hG).2 (nc_65 hG).1 h9 rfl ?_
  obtain ⟨s9, hs9, hf⟩ := xlet_some hf
  refine wk_sig hs9 ?_
  refine wk_ldcw (pc := 10) (v := (-1000000000 : Int32)) dX8_refuse_10 qK_X8_316 ?_
  refine wk_iload_n (pc := 13) dX8_refuse_13 rfl 1 rfl ?_
  refine wk_isub (pc := 14) dX8_refuse_14 ?_
  exact wk_iret (pc := 15) dX8_refuse_15 rfl (xI_of hf)
noncomputable def sX8_bay (p1 : Int32) (s : xS) : Option (Int32 × xS) := xbind (sX8_within p1 (3 : Int32) (8 : Int32) s) (fun r4 s4 => (if r4 = 0 then xbind (sX8_refuse (1 : Int32) s4) (fun r12 s12 => some (r12, s12)) else (if (s4 21 0) ≤ 0 then xlet ((s4 1 0)) (fun y39 => xbind (sX0_renew 1 p1 s4) (fun _ s45 => some (y39, s45))) else xbind (sX8_refuse (3 : Int32) s4) (fun r28 s28 => some (r28, s28)))))
set_option maxHeartbeats 4000000 in
set_option maxRecDepth 100000 in
theorem kX8_bay (l : Launch) {G : xG} (hG : xC1 G)  {p1 : Int32}  {s : xS} {r : Int32} {s' : xS} (hf : sX8_bay p1 s = some (r, s')) : xMet l G 3 yX8_bay cX8_bay 3 (some .int) [.ref (gA G 0), .int p1] s (xI r s') := by
  refine xMet.of (by decide) (Nat.le_of_ble_eq_true rfl) ?_
  show wk l G 3 RX8 cX8_bay 3 (some .int) (xI r s') 0 [(0, .ref (gA G 0)), (1, .int p1)] [] s
  unfold sX8_bay at hf
  refine wk_iload_n (pc := 0) dX8_bay_0 rfl 1 rfl ?_
  refine wk_iconst (pc := 1) (v := (3 : Int32)) dX8_bay_1 (by decide) ?_
  refine wk_bipush (pc := 2) (v := (8 : Int32)) dX8_bay_2 (by decide) ?_
  obtain ⟨r4, s4, hc4, hf⟩ := xbind_some hf
  refine wk_callSI (pc := 4) (As := [.int p1, .int (3 : Int32), .int (8 : Int32)]) (rest := []) (kX8_within l hG  hc4) cw_X8_82 (by decide) dX8_bay_4 rfl (Nat.le_of_ble_eq_true rfl) ?_
  refine wk_if_ne (pc := 7) (tgt := 16) dX8_bay_7 rfl hf (fun hf => ?_) (fun hf => ?_)
  · refine wk_aload_n (pc := 16) dX8_bay_16 rfl 0 rfl ?_
    refine wk_getR (C := RX8) (T := TX8) (N := 13) (pc := 17) dX8_bay_17 (nc_0 hG).2 (nc_0 hG).1 rfl qU_X8 1 (by decide) qF_X8_19 rfl ?_
    refine wk_getI (C := RX3) (T := TX3) (N := 7) (pc := 20) dX8_bay_20 (nc_21 hG).2 (nc_21 hG).1 rfl qU_X3 0 (by decide) qF_X8_90 rfl ?_
    refine wk_if_le (pc := 23) (tgt := 32) dX8_bay_23 rfl hf (fun hf => ?_) (fun hf => ?_)
    · refine wk_aload_n (pc := 32) dX8_bay_32 rfl 0 rfl ?_
      refine wk_getR (C := RX8) (T := TX8) (N := 13) (pc := 33) dX8_bay_33 (nc_0 hG).2 (nc_0 hG).1 rfl qU_X8 0 (by decide) qF_X8_10 rfl ?_
      refine wk_getI (C := RX0) (T := TX0) (N := 9) (pc := 36) dX8_bay_36 (nc_1 hG).2 (nc_1 hG).1 rfl qU_X0 0 (by decide) qF_X8_93 rfl ?_
      obtain ⟨y39, hy39, hf⟩ := xlet_some hf
      refine wk_top hy39 ?_
      refine wk_istore_n (pc := 39) (lv' := [(2, .int y39), (0, .ref (gA G 0)), (1, .int p1)]) dX8_bay_39 rfl (by decide) rfl ?_
      refine wk_aload_n (pc := 40) dX8_bay_40 rfl 1 rfl ?_
      refine wk_getR (C := RX8) (T := TX8) (N := 13) (pc := 41) dX8_bay_41 (nc_0 hG).2 (nc_0 hG).1 rfl qU_X8 0 (by decide) qF_X8_10 rfl ?_
      refine wk_iload_n (pc := 44) dX8_bay_44 rfl 2 rfl ?_
      obtain ⟨⟨⟩, s45, hc45, hf⟩ := xbind_some hf
      refine wk_callVU (pc := 45) (As := [.int p1]) (rest := []) (kX0_renew l hG (by decide) hc45) cw_X8_78 (by decide) dX8_bay_45 (nc_1 hG).2 (nc_1 hG).1 rfl rfl rfl (Nat.le_of_ble_eq_true rfl) ?_
      refine wk_iload_n (pc := 48) dX8_bay_48 rfl 0 rfl ?_
      exact wk_iret (pc := 49) dX8_bay_49 rfl (xI_of hf)
    · refine wk_aload_n (pc := 26) dX8_bay_26 rfl 0 rfl ?_
      refine wk_iconst (pc := 27) (v := (3 : Int32)) dX8_bay_27 (by decide) ?_
      obtain ⟨r28, s28, hc28, hf⟩ := xbind_some hf
      refine wk_callVI (pc := 28) (As := [.int (3 : Int32)]) (rest := []) (kX8_refuse l hG  hc28) cw_X8_86 (by decide) dX8_bay_28 (nc_0 hG).2 (nc_0 hG).1 rfl rfl rfl (Nat.le_of_ble_eq_true rfl) ?_
      exact wk_iret (pc := 31) dX8_bay_31 rfl (xI_of hf)
  · refine wk_aload_n (pc := 10) dX8_bay_10 rfl 0 rfl ?_
    refine wk_iconst (pc := 11) (v := (1 : Int32)) dX8_bay_11 (by decide) ?_
    obtain ⟨r12, s12, hc12, hf⟩ := xbind_some hf
    refine wk_callVI (pc := 12) (As := [.int (1 : Int32)]) (rest := []) (kX8_refuse l hG  hc12) cw_X8_86 (by decide) dX8_bay_12 (nc_0 hG).2 (nc_0 hG).1 rfl rfl rfl (Nat.le_of_ble_eq_true rfl) ?_
    exact wk_iret (pc := 15) dX8_bay_15 rfl (xI_of hf)
noncomputable def sX8_isCell (p1 : Int32) (s : xS) : Option (Int32 × xS) := xbind (sX8_within p1 (0 : Int32) ((s 1 0) - (1 : Int32)) s) (fun r11 s11 => (if r11 = 0 ∨ r11 = 1 then some (r11, s11) else none))
set_option maxHeartbeats 4000000 in
set_option maxRecDepth 100000 in
theorem kX8_isCell (l : Launch) {G : xG} (hG : xC1 G)  {p1 : Int32}  {s : xS} {r : Int32} {s' : xS} (hf : sX8_isCell p1 s = some (r, s')) : xMet l G 3 yX8_isCell cX8_isCell 2 (some .boolean) [.ref (gA G 0), .int p1] s (xI r s') := by
  refine xMet.of (by decide) (Nat.le_of_ble_eq_true rfl) ?_
  show wk l G 3 RX8 cX8_isCell 2 (some .boolean) (xI r s') 0 [(0, .ref (gA G 0)), (1, .int p1)] [] s
  unfold sX8_isCell at hf
  refine wk_iload_n (pc := 0) dX8_isCell_0 rfl 1 rfl ?_
  refine wk_iconst (pc := 1) (v := (0 : Int32)) dX8_isCell_1 (by decide) ?_
  refine wk_aload_n (pc := 2) dX8_isCell_2 rfl 0 rfl ?_
  refine wk_getR (C := RX8) (T := TX8) (N := 13) (pc := 3) dX8_isCell_3 (nc_0 hG).2 (nc_0 hG).1 rfl qU_X8 0 (by decide) qF_X8_10 rfl ?_
  refine wk_getI (C := RX0) (T := TX0) (N := 9) (pc := 6) dX8_isCell_6 (nc_1 hG).2 (nc_1 hG).1 rfl qU_X0 0 (by decide) qF_X8_93 rfl ?_
  refine wk_iconst (pc := 9) (v := (1 : Int32)) dX8_isCell_9 (by decide) ?_
  refine wk_isub (pc := 10) dX8_isCell_10 ?_
  obtain ⟨r11, s11, hc11, hf⟩ := xbind_some hf
  refine wk_callSI (pc := 11) (As := [.int p1, .int (0 : Int32), .int ((s 1 0) - (1 : Int32))]) (rest := []) (kX8_within l hG  hc11) cw_X8_82 (by decide) dX8_isCell_11 rfl (Nat.le_of_ble_eq_true rfl) ?_
  obtain ⟨h14, hf⟩ := xif_some hf
  exact wk_zret (pc := 14) dX8_isCell_14 rfl (x01n h14) (xI_of hf)
noncomputable def sX8_lay_L79 (p1 : Int32) (p3 : Int32) (y79d : Nat)  (s79 : xS) : Option (Int32 × xS) := (if xin p1 8 then xlet ((s79 y79d p1.toNatClampNeg)) (fun y85 => (if xin p1 8 then xlet (xup s79 y79d (upd (s79 y79d) p1.toNatClampNeg p3)) (fun s91 => some (y85, s91)) else none)) else none)
noncomputable def sX8_lay_L37   (s37 : xS) : Option (Int32 × xS) := xbind (sX8_refuse (1 : Int32) s37) (fun r39 s39 => some (r39, s39))
noncomputable def sX8_lay_L31 (p1 : Int32) (p2 : Int32) (p3 : Int32) (y31d : Int32)  (s31 : xS) : Option (Int32 × xS) := xbind (sX8_within p3 (0 : Int32) y31d s31) (fun r31 s31 => (if r31 = 0 then sX8_lay_L37  s31 else xlet ((if p2 = 0 then 2 else (if p2 = (1 : Int32) then 3 else 4))) (fun y79d => (sX8_lay_L79 p1 p3 y79d)  s31)))
noncomputable def sX8_lay (p1 : Int32) (p2 : Int32) (p3 : Int32) (s : xS) : Option (Int32 × xS) := xbind (sX8_isCell p1 s) (fun r2 s2 => (if r2 = 0 then sX8_lay_L37  s2 else xbind (sX8_within p2 (0 : Int32) (2 : Int32) s2) (fun r11 s11 => (if r11 = 0 then sX8_lay_L37  s11 else xlet ((if p2 = 0 then (9 : Int32) else (999 : Int32))) (fun y31d => (sX8_lay_L31 p1 p2 p3 y31d)  s11)))))
set_option maxHeartbeats 4000000 in
set_option maxRecDepth 100000 in
theorem kX8_lay (l : Launch) {G : xG} (hG : xC1 G)  {p1 : Int32} {p2 : Int32} {p3 : Int32}  {s : xS} {r : Int32} {s' : xS} (hf : sX8_lay p1 p2 p3 s = some (r, s')) : xMet l G 4 yX8_lay cX8_lay 6 (some .int) [.ref (gA G 0), .int p1, .int p2, .int p3] s (xI r s') := by
  refine xMet.of (by decide) (Nat.le_of_ble_eq_true rfl) ?_
  show wk l G 4 RX8 cX8_lay 6 (some .int) (xI r s') 0 [(0, .ref (gA G 0)), (1, .int p1), (2, .int p2), (3, .int p3)] [] s
  unfold sX8_lay at hf
  have J79 : ∀ (y79d : Nat) (fy79d : gS G y79d = .inl 8 ∧ y79d < gN G)   (s79 : xS), (sX8_lay_L79 p1 p3 y79d)  s79 = some (r, s') → wk l G 4 RX8 cX8_lay 6 (some .int) (xI r s') 79 [(1, .int p1), (3, .int p3)] [.ref (gA G y79d)] s79 := by
    intro y79d fy79d s79 hf
    unfold sX8_lay_L79 at hf
    refine wk_astore (pc := 79) (lv' := [(4, .ref (gA G y79d)), (1, .int p1), (3, .int p3)]) dX8_lay_79 (by decide) rfl ?_
    refine wk_aload (pc := 81) dX8_lay_81 0 rfl ?_
    refine wk_iload_n (pc := 83) dX8_lay_83 rfl 1 rfl ?_
    obtain ⟨h84, hf⟩ := xif_some hf
    refine wk_iald (pc := 84) (jj := p1.toNatClampNeg) dX8_lay_84 fy79d.2 fy79d.1 h84 rfl ?_
    obtain ⟨y85, hy85, hf⟩ := xlet_some hf
    refine wk_top hy85 ?_
    refine wk_istore (pc := 85) (lv' := [(5, .int y85), (4, .ref (gA G y79d)), (1, .int p1), (3, .int p3)]) dX8_lay_85 (by decide) rfl ?_
    refine wk_aload (pc := 87) dX8_lay_87 1 rfl ?_
    refine wk_iload_n (pc := 89) dX8_lay_89 rfl 2 rfl ?_
    refine wk_iload_n (pc := 90) dX8_lay_90 rfl 3 rfl ?_
    obtain ⟨h91, hf⟩ := xif_some hf
    refine wk_iast (pc := 91) (jj := p1.toNatClampNeg) dX8_lay_91 fy79d.2 fy79d.1 h91 rfl ?_
    obtain ⟨s91, hs91, hf⟩ := xlet_some hf
    refine wk_sig hs91 ?_
    refine wk_iload (pc := 92) dX8_lay_92 0 rfl ?_
    exact wk_iret (pc := 94) dX8_lay_94 rfl (xI_of hf)
  have J37 : ∀     (s37 : xS), sX8_lay_L37  s37 = some (r, s') → wk l G 4 RX8 cX8_lay 6 (some .int) (xI r s') 37 [(0, .ref (gA G 0))] [] s37 := by
    intro s37 hf
    unfold sX8_lay_L37 at hf
    refine wk_aload_n (pc := 37) dX8_lay_37 rfl 0 rfl ?_
    refine wk_iconst (pc := 38) (v := (1 : Int32)) dX8_lay_38 (by decide) ?_
    obtain ⟨r39, s39, hc39, hf⟩ := xbind_some hf
    refine wk_callVI (pc := 39) (As := [.int (1 : Int32)]) (rest := []) (kX8_refuse l hG  hc39) cw_X8_86 (by decide) dX8_lay_39 (nc_0 hG).2 (nc_0 hG).1 rfl rfl rfl (Nat.le_of_ble_eq_true rfl) ?_
    exact wk_iret (pc := 42) dX8_lay_42 rfl (xI_of hf)
  have J31 : ∀ (y31d : Int32)    (s31 : xS), (sX8_lay_L31 p1 p2 p3 y31d)  s31 = some (r, s') → wk l G 4 RX8 cX8_lay 6 (some .int) (xI r s') 31 [(0, .ref (gA G 0)), (1, .int p1), (2, .int p2), (3, .int p3)] [.int y31d, .int (0 : Int32), .int p3] s31 := by
    intro y31d s31 hf
    unfold sX8_lay_L31 at hf
    obtain ⟨r31, s31, hc31, hf⟩ := xbind_some hf
    refine wk_callSI (pc := 31) (As := [.int p3, .int (0 : Int32), .int y31d]) (rest := []) (kX8_within l hG  hc31) cw_X8_82 (by decide) dX8_lay_31 rfl (Nat.le_of_ble_eq_true rfl) ?_
    refine wk_if_ne (pc := 34) (tgt := 43) dX8_lay_34 rfl hf (fun hf => ?_) (fun hf => ?_)
    · refine wk_iload_n (pc := 43) dX8_lay_43 rfl 2 rfl ?_
      obtain ⟨y79d, hy79d, hf⟩ := xlet_some hf
      have fy79d : gS G y79d = .inl 8 ∧ y79d < gN G := by
        rw [hy79d]
        by_cases c44 : p2 = 0
        · rw [if_pos c44]
          exact (nc_2 hG)
        · rw [if_neg c44]
          by_cases c59 : p2 = (1 : Int32)
          · rw [if_pos c59]
            exact (nc_3 hG)
          · rw [if_neg c59]
            exact (nc_4 hG)
      have K79 : wk l G 4 RX8 cX8_lay 6 (some .int) (xI r s') 79 [(0, .ref (gA G 0)), (1, .int p1), (2, .int p2), (3, .int p3)] [.ref (gA G y79d)] s31 := by
        exact wk_lv [1, 3] rfl (J79 y79d fy79d   s31 hf)
      by_cases c44 : p2 = 0
      · rw [if_pos c44] at hy79d
        refine wk_if_ne_p (pc := 44) (tgt := 57) dX8_lay_44 rfl c44 ?_
        refine wk_aload_n (pc := 47) dX8_lay_47 rfl 0 rfl ?_
        refine wk_getR (C := RX8) (T := TX8) (N := 13) (pc := 48) dX8_lay_48 (nc_0 hG).2 (nc_0 hG).1 rfl qU_X8 0 (by decide) qF_X8_10 rfl ?_
        refine wk_getR (C := RX0) (T := TX0) (N := 9) (pc := 51) dX8_lay_51 (nc_1 hG).2 (nc_1 hG).1 rfl qU_X0 4 (by decide) qF_X8_100 rfl ?_
        refine wk_goto (pc := 54) (tgt := 79) dX8_lay_54 rfl ?_
        exact wk_topR hy79d K79
      · rw [if_neg c44] at hy79d
        refine wk_if_ne_m (pc := 44) (tgt := 57) dX8_lay_44 rfl c44 ?_
        refine wk_iload_n (pc := 57) dX8_lay_57 rfl 2 rfl ?_
        refine wk_iconst (pc := 58) (v := (1 : Int32)) dX8_lay_58 (by decide) ?_
        by_cases c59 : p2 = (1 : Int32)
        · rw [if_pos c59] at hy79d
          refine wk_icmp_ne_p (pc := 59) (tgt := 72) dX8_lay_59 rfl c59 ?_
          refine wk_aload_n (pc := 62) dX8_lay_62 rfl 0 rfl ?_
          refine wk_getR (C := RX8) (T := TX8) (N := 13) (pc := 63) dX8_lay_63 (nc_0 hG).2 (nc_0 hG).1 rfl qU_X8 0 (by decide) qF_X8_10 rfl ?_
          refine wk_getR (C := RX0) (T := TX0) (N := 9) (pc := 66) dX8_lay_66 (nc_1 hG).2 (nc_1 hG).1 rfl qU_X0 5 (by decide) qF_X8_103 rfl ?_
          refine wk_goto (pc := 69) (tgt := 79) dX8_lay_69 rfl ?_
          exact wk_topR hy79d K79
        · rw [if_neg c59] at hy79d
          refine wk_icmp_ne_m (pc := 59) (tgt := 72) dX8_lay_59 rfl c59 ?_
          refine wk_aload_n (pc := 72) dX8_lay_72 rfl 0 rfl ?_
          refine wk_getR (C := RX8) (T := TX8) (N := 13) (pc := 73) dX8_lay_73 (nc_0 hG).2 (nc_0 hG).1 rfl qU_X8 0 (by decide) qF_X8_10 rfl ?_
          refine wk_getR (C := RX0) (T := TX0) (N := 9) (pc := 76) dX8_lay_76 (nc_1 hG).2 (nc_1 hG).1 rfl qU_X0 6 (by decide) qF_X8_106 rfl ?_
          exact wk_topR hy79d K79
    · exact wk_lv [0] rfl (J37    s31 hf)
  refine wk_aload_n (pc := 0) dX8_lay_0 rfl 0 rfl ?_
  refine wk_iload_n (pc := 1) dX8_lay_1 rfl 1 rfl ?_
  obtain ⟨r2, s2, hc2, hf⟩ := xbind_some hf
  refine wk_callVI (pc := 2) (As := [.int p1]) (rest := []) (kX8_isCell l hG  hc2) cw_X8_96 (by decide) dX8_lay_2 (nc_0 hG).2 (nc_0 hG).1 rfl rfl rfl (Nat.le_of_ble_eq_true rfl) ?_
  refine wk_if_eq (pc := 5) (tgt := 37) dX8_lay_5 rfl hf (fun hf => ?_) (fun hf => ?_)
  · exact wk_lv [0] rfl (J37    s2 hf)
  · refine wk_iload_n (pc := 8) dX8_lay_8 rfl 2 rfl ?_
    refine wk_iconst (pc := 9) (v := (0 : Int32)) dX8_lay_9 (by decide) ?_
    refine wk_iconst (pc := 10) (v := (2 : Int32)) dX8_lay_10 (by decide) ?_
    obtain ⟨r11, s11, hc11, hf⟩ := xbind_some hf
    refine wk_callSI (pc := 11) (As := [.int p2, .int (0 : Int32), .int (2 : Int32)]) (rest := []) (kX8_within l hG  hc11) cw_X8_82 (by decide) dX8_lay_11 rfl (Nat.le_of_ble_eq_true rfl) ?_
    refine wk_if_eq (pc := 14) (tgt := 37) dX8_lay_14 rfl hf (fun hf => ?_) (fun hf => ?_)
    · exact wk_lv [0] rfl (J37    s11 hf)
    · refine wk_iload_n (pc := 17) dX8_lay_17 rfl 3 rfl ?_
      refine wk_iconst (pc := 18) (v := (0 : Int32)) dX8_lay_18 (by decide) ?_
      refine wk_iload_n (pc := 19) dX8_lay_19 rfl 2 rfl ?_
      obtain ⟨y31d, hy31d, hf⟩ := xlet_some hf
      have K31 : wk l G 4 RX8 cX8_lay 6 (some .int) (xI r s') 31 [(0, .ref (gA G 0)), (1, .int p1), (2, .int p2), (3, .int p3)] [.int y31d, .int (0 : Int32), .int p3] s11 := by
        exact wk_lv [0, 1, 2, 3] rfl (J31 y31d   s11 hf)
      by_cases c20 : p2 = 0
      · rw [if_pos c20] at hy31d
        refine wk_if_ne_p (pc := 20) (tgt := 28) dX8_lay_20 rfl c20 ?_
        refine wk_bipush (pc := 23) (v := (9 : Int32)) dX8_lay_23 (by decide) ?_
        refine wk_goto (pc := 25) (tgt := 31) dX8_lay_25 rfl ?_
        exact wk_top hy31d K31
      · rw [if_neg c20] at hy31d
        refine wk_if_ne_m (pc := 20) (tgt := 28) dX8_lay_20 rfl c20 ?_
        refine wk_sipush (pc := 28) (v := (999 : Int32)) dX8_lay_28 (by decide) ?_
        exact wk_top hy31d K31
noncomputable def sX8_ofCell_L17   (s17 : xS) : Option (Int32 × xS) := xbind (sX8_refuse (1 : Int32) s17) (fun r19 s19 => some (r19, s19))
noncomputable def sX8_ofCell (p1 : Int32) (p2 : Int32) (s : xS) : Option (Int32 × xS) := xbind (sX8_isCell p1 s) (fun r2 s2 => (if r2 = 0 then sX8_ofCell_L17  s2 else xbind (sX8_within p2 (0 : Int32) (5 : Int32) s2) (fun r11 s11 => (if r11 = 0 then sX8_ofCell_L17  s11 else (if p2 = 0 then (if xin p1 8 then some ((s11 2 p1.toNatClampNeg), s11) else none) else (if p2 = 1 then (if xin p1 8 then some ((s11 3 p1.toNatClampNeg), s11) else none) else (if p2 = 2 then (if xin p1 8 then some ((s11 4 p1.toNatClampNeg), s11) else none) else (if p2 = 3 then xbind (sX0_depthIn 1 p1 (s11 1 1) s11) (fun r102 s102 => some (r102, s102)) else (if p2 = 4 then xbind (sX0_shownBy 1 (s11 1 2) p1 s11) (fun r118 s118 => some (r118, s118)) else xbind (sX3_setAt 21 p1 s11) (fun r127 s127 => some (r127, s127)))))))))))
set_option maxHeartbeats 4000000 in
set_option maxRecDepth 100000 in
theorem kX8_ofCell (l : Launch) {G : xG} (hG : xC1 G)  {p1 : Int32} {p2 : Int32}  {s : xS} {r : Int32} {s' : xS} (hf : sX8_ofCell p1 p2 s = some (r, s')) : xMet l G 7 yX8_ofCell cX8_ofCell 3 (some .int) [.ref (gA G 0), .int p1, .int p2] s (xI r s') := by
  refine xMet.of (by decide) (Nat.le_of_ble_eq_true rfl) ?_
  show wk l G 7 RX8 cX8_ofCell 3 (some .int) (xI r s') 0 [(0, .ref (gA G 0)), (1, .int p1), (2, .int p2)] [] s
  unfold sX8_ofCell at hf
  have J17 : ∀     (s17 : xS), sX8_ofCell_L17  s17 = some (r, s') → wk l G 7 RX8 cX8_ofCell 3 (some .int) (xI r s') 17 [(0, .ref (gA G 0))] [] s17 := by
    intro s17 hf
    unfold sX8_ofCell_L17 at hf
    refine wk_aload_n (pc := 17) dX8_ofCell_17 rfl 0 rfl ?_
    refine wk_iconst (pc := 18) (v := (1 : Int32)) dX8_ofCell_18 (by decide) ?_
    obtain ⟨r19, s19, hc19, hf⟩ := xbind_some hf
    refine wk_callVI (pc := 19) (As := [.int (1 : Int32)]) (rest := []) (kX8_refuse l hG  hc19) cw_X8_86 (by decide) dX8_ofCell_19 (nc_0 hG).2 (nc_0 hG).1 rfl rfl rfl (Nat.le_of_ble_eq_true rfl) ?_
    exact wk_iret (pc := 22) dX8_ofCell_22 rfl (xI_of hf)
  refine wk_aload_n (pc := 0) dX8_ofCell_0 rfl 0 rfl ?_
  refine wk_iload_n (pc := 1) dX8_ofCell_1 rfl 1 rfl ?_
  obtain ⟨r2, s2, hc2, hf⟩ := xbind_some hf
  refine wk_callVI (pc := 2) (As := [.int p1]) (rest := []) (kX8_isCell l hG  hc2) cw_X8_96 (by decide) dX8_ofCell_2 (nc_0 hG).2 (nc_0 hG).1 rfl rfl rfl (Nat.le_of_ble_eq_true rfl) ?_
  refine wk_if_eq (pc := 5) (tgt := 17) dX8_ofCell_5 rfl hf (fun hf => ?_) (fun hf => ?_)
  · exact wk_lv [0] rfl (J17    s2 hf)
  · refine wk_iload_n (pc := 8) dX8_ofCell_8 rfl 2 rfl ?_
    refine wk_iconst (pc := 9) (v := (0 : Int32)) dX8_ofCell_9 (by decide) ?_
    refine wk_iconst (pc := 10) (v := (5 : Int32)) dX8_ofCell_10 (by decide) ?_
    obtain ⟨r11, s11, hc11, hf⟩ := xbind_some hf
    refine wk_callSI (pc := 11) (As := [.int p2, .int (0 : Int32), .int (5 : Int32)]) (rest := []) (kX8_within l hG  hc11) cw_X8_82 (by decide) dX8_ofCell_11 rfl (Nat.le_of_ble_eq_true rfl) ?_
    refine wk_if_ne (pc := 14) (tgt := 23) dX8_ofCell_14 rfl hf (fun hf => ?_) (fun hf => ?_)
    · refine wk_iload_n (pc := 23) dX8_ofCell_23 rfl 2 rfl ?_
      by_cases e0 : p2 = 0
      · rw [if_pos e0] at hf
        refine wk_tableIn (pc := 24) (off := 36) (tgt := 60) dX8_ofCell_24 (0 : Int32) e0 (by decide) (by decide) (by decide) rfl ?_
        refine wk_aload_n (pc := 60) dX8_ofCell_60 rfl 0 rfl ?_
        refine wk_getR (C := RX8) (T := TX8) (N := 13) (pc := 61) dX8_ofCell_61 (nc_0 hG).2 (nc_0 hG).1 rfl qU_X8 0 (by decide) qF_X8_10 rfl ?_
        refine wk_getR (C := RX0) (T := TX0) (N := 9) (pc := 64) dX8_ofCell_64 (nc_1 hG).2 (nc_1 hG).1 rfl qU_X0 4 (by decide) qF_X8_100 rfl ?_
        refine wk_iload_n (pc := 67) dX8_ofCell_67 rfl 1 rfl ?_
        obtain ⟨h68, hf⟩ := xif_some hf
        refine wk_iald (pc := 68) (jj := p1.toNatClampNeg) dX8_ofCell_68 (nc_2 hG).2 (nc_2 hG).1 h68 rfl ?_
        exact wk_iret (pc := 69) dX8_ofCell_69 rfl (xI_of hf)
      · rw [if_neg e0] at hf
        by_cases e1 : p2 = 1
        · rw [if_pos e1] at hf
          refine wk_tableIn (pc := 24) (off := 46) (tgt := 70) dX8_ofCell_24 (1 : Int32) e1 (by decide) (by decide) (by decide) rfl ?_
          refine wk_aload_n (pc := 70) dX8_ofCell_70 rfl 0 rfl ?_
          refine wk_getR (C := RX8) (T := TX8) (N := 13) (pc := 71) dX8_ofCell_71 (nc_0 hG).2 (nc_0 hG).1 rfl qU_X8 0 (by decide) qF_X8_10 rfl ?_
          refine wk_getR (C := RX0) (T := TX0) (N := 9) (pc := 74) dX8_ofCell_74 (nc_1 hG).2 (nc_1 hG).1 rfl qU_X0 5 (by decide) qF_X8_103 rfl ?_
          refine wk_iload_n (pc := 77) dX8_ofCell_77 rfl 1 rfl ?_
          obtain ⟨h78, hf⟩ := xif_some hf
          refine wk_iald (pc := 78) (jj := p1.toNatClampNeg) dX8_ofCell_78 (nc_3 hG).2 (nc_3 hG).1 h78 rfl ?_
          exact wk_iret (pc := 79) dX8_ofCell_79 rfl (xI_of hf)
        · rw [if_neg e1] at hf
          by_cases e2 : p2 = 2
          · rw [if_pos e2] at hf
            refine wk_tableIn (pc := 24) (off := 56) (tgt := 80) dX8_ofCell_24 (2 : Int32) e2 (by decide) (by decide) (by decide) rfl ?_
            refine wk_aload_n (pc := 80) dX8_ofCell_80 rfl 0 rfl ?_
            refine wk_getR (C := RX8) (T := TX8) (N := 13) (pc := 81) dX8_ofCell_81 (nc_0 hG).2 (nc_0 hG).1 rfl qU_X8 0 (by decide) qF_X8_10 rfl ?_
            refine wk_getR (C := RX0) (T := TX0) (N := 9) (pc := 84) dX8_ofCell_84 (nc_1 hG).2 (nc_1 hG).1 rfl qU_X0 6 (by decide) qF_X8_106 rfl ?_
            refine wk_iload_n (pc := 87) dX8_ofCell_87 rfl 1 rfl ?_
            obtain ⟨h88, hf⟩ := xif_some hf
            refine wk_iald (pc := 88) (jj := p1.toNatClampNeg) dX8_ofCell_88 (nc_4 hG).2 (nc_4 hG).1 h88 rfl ?_
            exact wk_iret (pc := 89) dX8_ofCell_89 rfl (xI_of hf)
          · rw [if_neg e2] at hf
            by_cases e3 : p2 = 3
            · rw [if_pos e3] at hf
              refine wk_tableIn (pc := 24) (off := 66) (tgt := 90) dX8_ofCell_24 (3 : Int32) e3 (by decide) (by decide) (by decide) rfl ?_
              refine wk_aload_n (pc := 90) dX8_ofCell_90 rfl 0 rfl ?_
              refine wk_getR (C := RX8) (T := TX8) (N := 13) (pc := 91) dX8_ofCell_91 (nc_0 hG).2 (nc_0 hG).1 rfl qU_X8 0 (by decide) qF_X8_10 rfl ?_
              refine wk_iload_n (pc := 94) dX8_ofCell_94 rfl 1 rfl ?_
              refine wk_aload_n (pc := 95) dX8_ofCell_95 rfl 0 rfl ?_
              refine wk_getR (C := RX8) (T := TX8) (N := 13) (pc := 96) dX8_ofCell_96 (nc_0 hG).2 (nc_0 hG).1 rfl qU_X8 0 (by decide) qF_X8_10 rfl ?_
              refine wk_getI (C := RX0) (T := TX0) (N := 9) (pc := 99) dX8_ofCell_99 (nc_1 hG).2 (nc_1 hG).1 rfl qU_X0 1 (by decide) qF_X8_109 rfl ?_
              obtain ⟨r102, s102, hc102, hf⟩ := xbind_some hf
              refine wk_callVI (pc := 102) (As := [.int p1, .int (s11 1 1)]) (rest := []) (kX0_depthIn l hG (by decide) hc102) cw_X8_112 (by decide) dX8_ofCell_102 (nc_1 hG).2 (nc_1 hG).1 rfl rfl rfl (Nat.le_of_ble_eq_true rfl) ?_
              exact wk_iret (pc := 105) dX8_ofCell_105 rfl (xI_of hf)
            · rw [if_neg e3] at hf
              by_cases e4 : p2 = 4
              · rw [if_pos e4] at hf
                refine wk_tableIn (pc := 24) (off := 82) (tgt := 106) dX8_ofCell_24 (4 : Int32) e4 (by decide) (by decide) (by decide) rfl ?_
                refine wk_aload_n (pc := 106) dX8_ofCell_106 rfl 0 rfl ?_
                refine wk_getR (C := RX8) (T := TX8) (N := 13) (pc := 107) dX8_ofCell_107 (nc_0 hG).2 (nc_0 hG).1 rfl qU_X8 0 (by decide) qF_X8_10 rfl ?_
                refine wk_aload_n (pc := 110) dX8_ofCell_110 rfl 0 rfl ?_
                refine wk_getR (C := RX8) (T := TX8) (N := 13) (pc := 111) dX8_ofCell_111 (nc_0 hG).2 (nc_0 hG).1 rfl qU_X8 0 (by decide) qF_X8_10 rfl ?_
                refine wk_getI (C := RX0) (T := TX0) (N := 9) (pc := 114) dX8_ofCell_114 (nc_1 hG).2 (nc_1 hG).1 rfl qU_X0 2 (by decide) qF_X8_116 rfl ?_
                refine wk_iload_n (pc := 117) dX8_ofCell_117 rfl 1 rfl ?_
                obtain ⟨r118, s118, hc118, hf⟩ := xbind_some hf
                refine wk_callVI (pc := 118) (As := [.int (s11 1 2), .int p1]) (rest := []) (kX0_shownBy l hG (by decide) hc118) cw_X8_119 (by decide) dX8_ofCell_118 (nc_1 hG).2 (nc_1 hG).1 rfl rfl rfl (Nat.le_of_ble_eq_true rfl) ?_
                exact wk_iret (pc := 121) dX8_ofCell_121 rfl (xI_of hf)
              · rw [if_neg e4] at hf
                have g0 : ¬ p2.toInt = 0 := fun q => e0 (Int32.toInt_inj.mp (q.trans (by decide)))
                have g1 : ¬ p2.toInt = 1 := fun q => e1 (Int32.toInt_inj.mp (q.trans (by decide)))
                have g2 : ¬ p2.toInt = 2 := fun q => e2 (Int32.toInt_inj.mp (q.trans (by decide)))
                have g3 : ¬ p2.toInt = 3 := fun q => e3 (Int32.toInt_inj.mp (q.trans (by decide)))
                have g4 : ¬ p2.toInt = 4 := fun q => e4 (Int32.toInt_inj.mp (q.trans (by decide)))
                refine wk_tableOut (pc := 24) (tgt := 122) dX8_ofCell_24 (by omega) rfl ?_
                refine wk_aload_n (pc := 122) dX8_ofCell_122 rfl 0 rfl ?_
                refine wk_getR (C := RX8) (T := TX8) (N := 13) (pc := 123) dX8_ofCell_123 (nc_0 hG).2 (nc_0 hG).1 rfl qU_X8 1 (by decide) qF_X8_19 rfl ?_
                refine wk_iload_n (pc := 126) dX8_ofCell_126 rfl 1 rfl ?_
                obtain ⟨r127, s127, hc127, hf⟩ := xbind_some hf
                refine wk_callVI (pc := 127) (As := [.int p1]) (rest := []) (kX3_setAt l hG (by decide) hc127) cw_X8_122 (by decide) dX8_ofCell_127 (nc_21 hG).2 (nc_21 hG).1 rfl rfl rfl (Nat.le_of_ble_eq_true rfl) ?_
                exact wk_iret (pc := 130) dX8_ofCell_130 rfl (xI_of hf)
    · exact wk_lv [0] rfl (J17    s11 hf)
noncomputable def sX8_greatestSetting (p1 : Int32) (s : xS) : Option (Int32 × xS) := (if p1 = 0 then some ((999 : Int32), s) else (if p1 = (1 : Int32) then some ((99 : Int32), s) else some ((((1 : Int32) <<< ((s 1 0) &&& 31)) - (1 : Int32)), s)))
set_option maxHeartbeats 4000000 in
set_option maxRecDepth 100000 in
theorem kX8_greatestSetting (l : Launch) {G : xG} (hG : xC1 G)  {p1 : Int32}  {s : xS} {r : Int32} {s' : xS} (hf : sX8_greatestSetting p1 s = some (r, s')) : xMet l G 2 yX8_greatestSetting cX8_greatestSetting 2 (some .int) [.ref (gA G 0), .int p1] s (xI r s') := by
  refine xMet.of (by decide) (Nat.le_of_ble_eq_true rfl) ?_
  show wk l G 2 RX8 cX8_greatestSetting 2 (some .int) (xI r s') 0 [(0, .ref (gA G 0)), (1, .int p1)] [] s
  unfold sX8_greatestSetting at hf
  refine wk_iload_n (pc := 0) dX8_greatestSetting_0 rfl 1 rfl ?_
  refine wk_if_ne (pc := 1) (tgt := 8) dX8_greatestSetting_1 rfl hf (fun hf => ?_) (fun hf => ?_)
  · refine wk_iload_n (pc := 8) dX8_greatestSetting_8 rfl 1 rfl ?_
    refine wk_iconst (pc := 9) (v := (1 : Int32)) dX8_greatestSetting_9 (by decide) ?_
    refine wk_icmp_ne (pc := 10) (tgt := 18) dX8_greatestSetting_10 rfl hf (fun hf => ?_) (fun hf => ?_)
    · refine wk_iconst (pc := 18) (v := (1 : Int32)) dX8_greatestSetting_18 (by decide) ?_
      refine wk_aload_n (pc := 19) dX8_greatestSetting_19 rfl 0 rfl ?_
      refine wk_getR (C := RX8) (T := TX8) (N := 13) (pc := 20) dX8_greatestSetting_20 (nc_0 hG).2 (nc_0 hG).1 rfl qU_X8 0 (by decide) qF_X8_10 rfl ?_
      refine wk_getI (C := RX0) (T := TX0) (N := 9) (pc := 23) dX8_greatestSetting_23 (nc_1 hG).2 (nc_1 hG).1 rfl qU_X0 0 (by decide) qF_X8_93 rfl ?_
      refine wk_ishl (pc := 26) dX8_greatestSetting_26 ?_
      refine wk_iconst (pc := 27) (v := (1 : Int32)) dX8_greatestSetting_27 (by decide) ?_
      refine wk_isub (pc := 28) dX8_greatestSetting_28 ?_
      exact wk_iret (pc := 29) dX8_greatestSetting_29 rfl (xI_of hf)
    · refine wk_bipush (pc := 13) (v := (99 : Int32)) dX8_greatestSetting_13 (by decide) ?_
      refine wk_goto (pc := 15) (tgt := 29) dX8_greatestSetting_15 rfl ?_
      exact wk_iret (pc := 29) dX8_greatestSetting_29 rfl (xI_of hf)
  · refine wk_sipush (pc := 4) (v := (999 : Int32)) dX8_greatestSetting_4 (by decide) ?_
    exact wk_iret (pc := 7) dX8_greatestSetting_7 rfl (xI_of hf)
noncomputable def sX8_set_L22   (s22 : xS) : Option (Int32 × xS) := xbind (sX8_refuse (1 : Int32) s22) (fun r24 s24 => some (r24, s24))
noncomputable def sX8_set (p1 : Int32) (p2 : Int32) (s : xS) : Option (Int32 × xS) := xbind (sX8_within p1 (0 : Int32) (2 : Int32) s) (fun r3 s3 => (if r3 = 0 then sX8_set_L22  s3 else xbind (sX8_greatestSetting p1 s3) (fun r13 s13 => xbind (sX8_within p2 (0 : Int32) r13 s13) (fun r16 s16 => (if r16 = 0 then sX8_set_L22  s16 else (if p1 = 0 then xlet ((s16 1 1)) (fun y39 => xlet (xup s16 1 (upd (s16 1) 1 p2)) (fun s45 => some (y39, s45))) else (if p1 = (1 : Int32) then xlet ((s16 1 2)) (fun y63 => xlet (xup s16 1 (upd (s16 1) 2 p2)) (fun s69 => some (y63, s69))) else xlet ((s16 1 3)) (fun y82 => xlet (xup s16 1 (upd (s16 1) 3 p2)) (fun s88 => some (y82, s88))))))))))
set_option maxHeartbeats 4000000 in
set_option maxRecDepth 100000 in
theorem kX8_set (l : Launch) {G : xG} (hG : xC1 G)  {p1 : Int32} {p2 : Int32}  {s : xS} {r : Int32} {s' : xS} (hf : sX8_set p1 p2 s = some (r, s')) : xMet l G 3 yX8_set cX8_set 4 (some .int) [.ref (gA G 0), .int p1, .int p2] s (xI r s') := by
  refine xMet.of (by decide) (Nat.le_of_ble_eq_true rfl) ?_
  show wk l G 3 RX8 cX8_set 4 (some .int) (xI r s') 0 [(0, .ref (gA G 0)), (1, .int p1), (2, .int p2)] [] s
  unfold sX8_set at hf
  have J22 : ∀     (s22 : xS), sX8_set_L22  s22 = some (r, s') → wk l G 3 RX8 cX8_set 4 (some .int) (xI r s') 22 [(0, .ref (gA G 0))] [] s22 := by
    intro s22 hf
    unfold sX8_set_L22 at hf
    refine wk_aload_n (pc := 22) dX8_set_22 rfl 0 rfl ?_
    refine wk_iconst (pc := 23) (v := (1 : Int32)) dX8_set_23 (by decide) ?_
    obtain ⟨r24, s24, hc24, hf⟩ := xbind_some hf
    refine wk_callVI (pc := 24) (As := [.int (1 : Int32)]) (rest := []) (kX8_refuse l hG  hc24) cw_X8_86 (by decide) dX8_set_24 (nc_0 hG).2 (nc_0 hG).1 rfl rfl rfl (Nat.le_of_ble_eq_true rfl) ?_
    exact wk_iret (pc := 27) dX8_set_27 rfl (xI_of hf)
  refine wk_iload_n (pc := 0) dX8_set_0 rfl 1 rfl ?_
  refine wk_iconst (pc := 1) (v := (0 : Int32)) dX8_set_1 (by decide) ?_
  refine wk_iconst (pc := 2) (v := (2 : Int32)) dX8_set_2 (by decide) ?_
  obtain ⟨r3, s3, hc3, hf⟩ := xbind_some hf
  refine wk_callSI (pc := 3) (As := [.int p1, .int (0 : Int32), .int (2 : Int32)]) (rest := []) (kX8_within l hG  hc3) cw_X8_82 (by decide) dX8_set_3 rfl (Nat.le_of_ble_eq_true rfl) ?_
  refine wk_if_eq (pc := 6) (tgt := 22) dX8_set_6 rfl hf (fun hf => ?_) (fun hf => ?_)
  · exact wk_lv [0] rfl (J22    s3 hf)
  · refine wk_iload_n (pc := 9) dX8_set_9 rfl 2 rfl ?_
    refine wk_iconst (pc := 10) (v := (0 : Int32)) dX8_set_10 (by decide) ?_
    refine wk_aload_n (pc := 11) dX8_set_11 rfl 0 rfl ?_
    refine wk_iload_n (pc := 12) dX8_set_12 rfl 1 rfl ?_
    obtain ⟨r13, s13, hc13, hf⟩ := xbind_some hf
    refine wk_callVI (pc := 13) (As := [.int p1]) (rest := [.int (0 : Int32), .int p2]) (kX8_greatestSetting l hG  hc13) cw_X8_125 (by decide) dX8_set_13 (nc_0 hG).2 (nc_0 hG).1 rfl rfl rfl (Nat.le_of_ble_eq_true rfl) ?_
    obtain ⟨r16, s16, hc16, hf⟩ := xbind_some hf
    refine wk_callSI (pc := 16) (As := [.int p2, .int (0 : Int32), .int r13]) (rest := []) (kX8_within l hG  hc16) cw_X8_82 (by decide) dX8_set_16 rfl (Nat.le_of_ble_eq_true rfl) ?_
    refine wk_if_ne (pc := 19) (tgt := 28) dX8_set_19 rfl hf (fun hf => ?_) (fun hf => ?_)
    · refine wk_iload_n (pc := 28) dX8_set_28 rfl 1 rfl ?_
      refine wk_if_ne (pc := 29) (tgt := 51) dX8_set_29 rfl hf (fun hf => ?_) (fun hf => ?_)
      · refine wk_iload_n (pc := 51) dX8_set_51 rfl 1 rfl ?_
        refine wk_iconst (pc := 52) (v := (1 : Int32)) dX8_set_52 (by decide) ?_
        refine wk_icmp_ne (pc := 53) (tgt := 75) dX8_set_53 rfl hf (fun hf => ?_) (fun hf => ?_)
        · refine wk_aload_n (pc := 75) dX8_set_75 rfl 0 rfl ?_
          refine wk_getR (C := RX8) (T := TX8) (N := 13) (pc := 76) dX8_set_76 (nc_0 hG).2 (nc_0 hG).1 rfl qU_X8 0 (by decide) qF_X8_10 rfl ?_
          refine wk_getI (C := RX0) (T := TX0) (N := 9) (pc := 79) dX8_set_79 (nc_1 hG).2 (nc_1 hG).1 rfl qU_X0 3 (by decide) qF_X8_128 rfl ?_
          obtain ⟨y82, hy82, hf⟩ := xlet_some hf
          refine wk_top hy82 ?_
          refine wk_istore_n (pc := 82) (lv' := [(3, .int y82), (0, .ref (gA G 0)), (1, .int p1), (2, .int p2)]) dX8_set_82 rfl (by decide) rfl ?_
          refine wk_aload_n (pc := 83) dX8_set_83 rfl 1 rfl ?_
          refine wk_getR (C := RX8) (T := TX8) (N := 13) (pc := 84) dX8_set_84 (nc_0 hG).2 (nc_0 hG).1 rfl qU_X8 0 (by decide) qF_X8_10 rfl ?_
          refine wk_iload_n (pc := 87) dX8_set_87 rfl 3 rfl ?_
          refine wk_putI (C := RX0) (T := TX0) (N := 9) (ty := .int) (pc := 88) dX8_set_88 (nc_1 hG).2 (nc_1 hG).1 rfl qU_X0 tyX0 tyX0_ok nmX0 3 (by decide) qF_X8_128 rfl rfl rfl rfl rfl ?_
          obtain ⟨s88, hs88, hf⟩ := xlet_some hf
          refine wk_sig hs88 ?_
          refine wk_iload_n (pc := 91) dX8_set_91 rfl 0 rfl ?_
          exact wk_iret (pc := 92) dX8_set_92 rfl (xI_of hf)
        · refine wk_aload_n (pc := 56) dX8_set_56 rfl 0 rfl ?_
          refine wk_getR (C := RX8) (T := TX8) (N := 13) (pc := 57) dX8_set_57 (nc_0 hG).2 (nc_0 hG).1 rfl qU_X8 0 (by decide) qF_X8_10 rfl ?_
          refine wk_getI (C := RX0) (T := TX0) (N := 9) (pc := 60) dX8_set_60 (nc_1 hG).2 (nc_1 hG).1 rfl qU_X0 2 (by decide) qF_X8_116 rfl ?_
          obtain ⟨y63, hy63, hf⟩ := xlet_some hf
          refine wk_top hy63 ?_
          refine wk_istore_n (pc := 63) (lv' := [(3, .int y63), (0, .ref (gA G 0)), (1, .int p1), (2, .int p2)]) dX8_set_63 rfl (by decide) rfl ?_
          refine wk_aload_n (pc := 64) dX8_set_64 rfl 1 rfl ?_
          refine wk_getR (C := RX8) (T := TX8) (N := 13) (pc := 65) dX8_set_65 (nc_0 hG).2 (nc_0 hG).1 rfl qU_X8 0 (by decide) qF_X8_10 rfl ?_
          refine wk_iload_n (pc := 68) dX8_set_68 rfl 3 rfl ?_
          refine wk_putI (C := RX0) (T := TX0) (N := 9) (ty := .int) (pc := 69) dX8_set_69 (nc_1 hG).2 (nc_1 hG).1 rfl qU_X0 tyX0 tyX0_ok nmX0 2 (by decide) qF_X8_116 rfl rfl rfl rfl rfl ?_
          obtain ⟨s69, hs69, hf⟩ := xlet_some hf
          refine wk_sig hs69 ?_
          refine wk_goto (pc := 72) (tgt := 91) dX8_set_72 rfl ?_
          refine wk_iload_n (pc := 91) dX8_set_91 rfl 0 rfl ?_
          exact wk_iret (pc := 92) dX8_set_92 rfl (xI_of hf)
      · refine wk_aload_n (pc := 32) dX8_set_32 rfl 0 rfl ?_
        refine wk_getR (C := RX8) (T := TX8) (N := 13) (pc := 33) dX8_set_33 (nc_0 hG).2 (nc_0 hG).1 rfl qU_X8 0 (by decide) qF_X8_10 rfl ?_
        refine wk_getI (C := RX0) (T := TX0) (N := 9) (pc := 36) dX8_set_36 (nc_1 hG).2 (nc_1 hG).1 rfl qU_X0 1 (by decide) qF_X8_109 rfl ?_
        obtain ⟨y39, hy39, hf⟩ := xlet_some hf
        refine wk_top hy39 ?_
        refine wk_istore_n (pc := 39) (lv' := [(3, .int y39), (0, .ref (gA G 0)), (1, .int p1), (2, .int p2)]) dX8_set_39 rfl (by decide) rfl ?_
        refine wk_aload_n (pc := 40) dX8_set_40 rfl 1 rfl ?_
        refine wk_getR (C := RX8) (T := TX8) (N := 13) (pc := 41) dX8_set_41 (nc_0 hG).2 (nc_0 hG).1 rfl qU_X8 0 (by decide) qF_X8_10 rfl ?_
        refine wk_iload_n (pc := 44) dX8_set_44 rfl 3 rfl ?_
        refine wk_putI (C := RX0) (T := TX0) (N := 9) (ty := .int) (pc := 45) dX8_set_45 (nc_1 hG).2 (nc_1 hG).1 rfl qU_X0 tyX0 tyX0_ok nmX0 1 (by decide) qF_X8_109 rfl rfl rfl rfl rfl ?_
        obtain ⟨s45, hs45, hf⟩ := xlet_some hf
        refine wk_sig hs45 ?_
        refine wk_goto (pc := 48) (tgt := 91) dX8_set_48 rfl ?_
        refine wk_iload_n (pc := 91) dX8_set_91 rfl 0 rfl ?_
        exact wk_iret (pc := 92) dX8_set_92 rfl (xI_of hf)
    · exact wk_lv [0] rfl (J22    s16 hf)
noncomputable def sX8_isKindAndM (p0 : Int32) (s : xS) : Option (Int32 × xS) := xbind (sX8_within p0 (0 : Int32) (69 : Int32) s) (fun r4 s4 => (if r4 = 0 ∨ r4 = 1 then some (r4, s4) else none))
set_option maxHeartbeats 4000000 in
set_option maxRecDepth 100000 in
theorem kX8_isKindAndM (l : Launch) {G : xG} (hG : xC1 G)  {p0 : Int32}  {s : xS} {r : Int32} {s' : xS} (hf : sX8_isKindAndM p0 s = some (r, s')) : xMet l G 3 yX8_isKindAndM cX8_isKindAndM 1 (some .boolean) [.int p0] s (xI r s') := by
  refine xMet.of (by decide) (Nat.le_of_ble_eq_true rfl) ?_
  show wk l G 3 RX8 cX8_isKindAndM 1 (some .boolean) (xI r s') 0 [(0, .int p0)] [] s
  unfold sX8_isKindAndM at hf
  refine wk_iload_n (pc := 0) dX8_isKindAndM_0 rfl 0 rfl ?_
  refine wk_iconst (pc := 1) (v := (0 : Int32)) dX8_isKindAndM_1 (by decide) ?_
  refine wk_bipush (pc := 2) (v := (69 : Int32)) dX8_isKindAndM_2 (by decide) ?_
  obtain ⟨r4, s4, hc4, hf⟩ := xbind_some hf
  refine wk_callSI (pc := 4) (As := [.int p0, .int (0 : Int32), .int (69 : Int32)]) (rest := []) (kX8_within l hG  hc4) cw_X8_82 (by decide) dX8_isKindAndM_4 rfl (Nat.le_of_ble_eq_true rfl) ?_
  obtain ⟨h7, hf⟩ := xif_some hf
  exact wk_zret (pc := 7) dX8_isKindAndM_7 rfl (x01n h7) (xI_of hf)
noncomputable def sX8_ship_L25   (s25 : xS) : Option (Int32 × xS) := xbind (sX8_refuse (1 : Int32) s25) (fun r27 s27 => some (r27, s27))
noncomputable def sX8_ship (p1 : Int32) (p2 : Int32) (p3 : Int32) (s : xS) : Option (Int32 × xS) := xbind (sX8_isKindAndM p1 s) (fun r1 s1 => (if r1 = 0 then sX8_ship_L25  s1 else xbind (sX8_within p2 (0 : Int32) (9 : Int32) s1) (fun r11 s11 => (if r11 = 0 then sX8_ship_L25  s11 else xbind (sX8_isCell p3 s11) (fun r19 s19 => (if r19 = 0 then sX8_ship_L25  s19 else (if (s19 21 0) < (7 : Int32) then xlet ((s19 21 0)) (fun y56 => (if xin y56 7 then xlet (xup s19 22 (upd (s19 22) y56.toNatClampNeg (p1 / (10 : Int32)))) (fun s71 => (if xin y56 7 then xlet (xup s71 23 (upd (s71 23) y56.toNatClampNeg (p1 - p1 / (10 : Int32) * (10 : Int32)))) (fun s85 => (if xin y56 7 then xlet (xup s85 24 (upd (s85 24) y56.toNatClampNeg p2)) (fun s96 => (if xin y56 7 then xlet (xup s96 25 (upd (s96 25) y56.toNatClampNeg p3)) (fun s107 => (if xin y56 7 then xlet (xup s107 26 (upd (s107 26) y56.toNatClampNeg (0 : Int32))) (fun s118 => xlet (xup s118 21 (upd (s118 21) 0 ((s118 21 0) + (1 : Int32)))) (fun s129 => some (y56, s129))) else none)) else none)) else none)) else none)) else none)) else xbind (sX8_refuse (4 : Int32) s19) (fun r45 s45 => some (r45, s45)))))))))
set_option maxHeartbeats 4000000 in
set_option maxRecDepth 100000 in
theorem kX8_ship (l : Launch) {G : xG} (hG : xC1 G)  {p1 : Int32} {p2 : Int32} {p3 : Int32}  {s : xS} {r : Int32} {s' : xS} (hf : sX8_ship p1 p2 p3 s = some (r, s')) : xMet l G 4 yX8_ship cX8_ship 5 (some .int) [.ref (gA G 0), .int p1, .int p2, .int p3] s (xI r s') := by
  refine xMet.of (by decide) (Nat.le_of_ble_eq_true rfl) ?_
  show wk l G 4 RX8 cX8_ship 5 (some .int) (xI r s') 0 [(0, .ref (gA G 0)), (1, .int p1), (2, .int p2), (3, .int p3)] [] s
  unfold sX8_ship at hf
  have J25 : ∀     (s25 : xS), sX8_ship_L25  s25 = some (r, s') → wk l G 4 RX8 cX8_ship 5 (some .int) (xI r s') 25 [(0, .ref (gA G 0))] [] s25 := by
    intro s25 hf
    unfold sX8_ship_L25 at hf
    refine wk_aload_n (pc := 25) dX8_ship_25 rfl 0 rfl ?_
    refine wk_iconst (pc := 26) (v := (1 : Int32)) dX8_ship_26 (by decide) ?_
    obtain ⟨r27, s27, hc27, hf⟩ := xbind_some hf
    refine wk_callVI (pc := 27) (As := [.int (1 : Int32)]) (rest := []) (kX8_refuse l hG  hc27) cw_X8_86 (by decide) dX8_ship_27 (nc_0 hG).2 (nc_0 hG).1 rfl rfl rfl (Nat.le_of_ble_eq_true rfl) ?_
    exact wk_iret (pc := 30) dX8_ship_30 rfl (xI_of hf)
  refine wk_iload_n (pc := 0) dX8_ship_0 rfl 1 rfl ?_
  obtain ⟨r1, s1, hc1, hf⟩ := xbind_some hf
  refine wk_callSI (pc := 1) (As := [.int p1]) (rest := []) (kX8_isKindAndM l hG  hc1) cw_X8_131 (by decide) dX8_ship_1 rfl (Nat.le_of_ble_eq_true rfl) ?_
  refine wk_if_eq (pc := 4) (tgt := 25) dX8_ship_4 rfl hf (fun hf => ?_) (fun hf => ?_)
  · exact wk_lv [0] rfl (J25    s1 hf)
  · refine wk_iload_n (pc := 7) dX8_ship_7 rfl 2 rfl ?_
    refine wk_iconst (pc := 8) (v := (0 : Int32)) dX8_ship_8 (by decide) ?_
    refine wk_bipush (pc := 9) (v := (9 : Int32)) dX8_ship_9 (by decide) ?_
    obtain ⟨r11, s11, hc11, hf⟩ := xbind_some hf
    refine wk_callSI (pc := 11) (As := [.int p2, .int (0 : Int32), .int (9 : Int32)]) (rest := []) (kX8_within l hG  hc11) cw_X8_82 (by decide) dX8_ship_11 rfl (Nat.le_of_ble_eq_true rfl) ?_
    refine wk_if_eq (pc := 14) (tgt := 25) dX8_ship_14 rfl hf (fun hf => ?_) (fun hf => ?_)
    · exact wk_lv [0] rfl (J25    s11 hf)
    · refine wk_aload_n (pc := 17) dX8_ship_17 rfl 0 rfl ?_
      refine wk_iload_n (pc := 18) dX8_ship_18 rfl 3 rfl ?_
      obtain ⟨r19, s19, hc19, hf⟩ := xbind_some hf
      refine wk_callVI (pc := 19) (As := [.int p3]) (rest := []) (kX8_isCell l hG  hc19) cw_X8_96 (by decide) dX8_ship_19 (nc_0 hG).2 (nc_0 hG).1 rfl rfl rfl (Nat.le_of_ble_eq_true rfl) ?_
      refine wk_if_ne (pc := 22) (tgt := 31) dX8_ship_22 rfl hf (fun hf => ?_) (fun hf => ?_)
      · refine wk_aload_n (pc := 31) dX8_ship_31 rfl 0 rfl ?_
        refine wk_getR (C := RX8) (T := TX8) (N := 13) (pc := 32) dX8_ship_32 (nc_0 hG).2 (nc_0 hG).1 rfl qU_X8 1 (by decide) qF_X8_19 rfl ?_
        refine wk_getI (C := RX3) (T := TX3) (N := 7) (pc := 35) dX8_ship_35 (nc_21 hG).2 (nc_21 hG).1 rfl qU_X3 0 (by decide) qF_X8_90 rfl ?_
        refine wk_bipush (pc := 38) (v := (7 : Int32)) dX8_ship_38 (by decide) ?_
        refine wk_icmp_lt (pc := 40) (tgt := 49) dX8_ship_40 rfl hf (fun hf => ?_) (fun hf => ?_)
        · refine wk_aload_n (pc := 49) dX8_ship_49 rfl 0 rfl ?_
          refine wk_getR (C := RX8) (T := TX8) (N := 13) (pc := 50) dX8_ship_50 (nc_0 hG).2 (nc_0 hG).1 rfl qU_X8 1 (by decide) qF_X8_19 rfl ?_
          refine wk_getI (C := RX3) (T := TX3) (N := 7) (pc := 53) dX8_ship_53 (nc_21 hG).2 (nc_21 hG).1 rfl qU_X3 0 (by decide) qF_X8_90 rfl ?_
          obtain ⟨y56, hy56, hf⟩ := xlet_some hf
          refine wk_top hy56 ?_
          refine wk_istore (pc := 56) (lv' := [(4, .int y56), (0, .ref (gA G 0)), (1, .int p1), (2, .int p2), (3, .int p3)]) dX8_ship_56 (by decide) rfl ?_
          refine wk_aload_n (pc := 58) dX8_ship_58 rfl 1 rfl ?_
          refine wk_getR (C := RX8) (T := TX8) (N := 13) (pc := 59) dX8_ship_59 (nc_0 hG).2 (nc_0 hG).1 rfl qU_X8 1 (by decide) qF_X8_19 rfl ?_
          refine wk_getR (C := RX3) (T := TX3) (N := 7) (pc := 62) dX8_ship_62 (nc_21 hG).2 (nc_21 hG).1 rfl qU_X3 2 (by decide) qF_X8_134 rfl ?_
          refine wk_iload (pc := 65) dX8_ship_65 0 rfl ?_
          refine wk_iload_n (pc := 67) dX8_ship_67 rfl 2 rfl ?_
          refine wk_bipush (pc := 68) (v := (10 : Int32)) dX8_ship_68 (by decide) ?_
          refine wk_idiv (pc := 70) dX8_ship_70 (by decide) ?_
          obtain ⟨h71, hf⟩ := xif_some hf
          refine wk_iast (pc := 71) (jj := y56.toNatClampNeg) dX8_ship_71 (nc_22 hG).2 (nc_22 hG).1 h71 rfl ?_
          obtain ⟨s71, hs71, hf⟩ := xlet_some hf
          refine wk_sig hs71 ?_
          refine wk_aload_n (pc := 72) dX8_ship_72 rfl 1 rfl ?_
          refine wk_getR (C := RX8) (T := TX8) (N := 13) (pc := 73) dX8_ship_73 (nc_0 hG).2 (nc_0 hG).1 rfl qU_X8 1 (by decide) qF_X8_19 rfl ?_
          refine wk_getR (C := RX3) (T := TX3) (N := 7) (pc := 76) dX8_ship_76 (nc_21 hG).2 (nc_21 hG).1 rfl qU_X3 3 (by decide) qF_X8_137 rfl ?_
          refine wk_iload (pc := 79) dX8_ship_79 0 rfl ?_
          refine wk_iload_n (pc := 81) dX8_ship_81 rfl 2 rfl ?_
          refine wk_bipush (pc := 82) (v := (10 : Int32)) dX8_ship_82 (by decide) ?_
          refine wk_irem (pc := 84) dX8_ship_84 (by decide) ?_
          obtain ⟨h85, hf⟩ := xif_some hf
          refine wk_iast (pc := 85) (jj := y56.toNatClampNeg) dX8_ship_85 (nc_23 hG).2 (nc_23 hG).1 h85 rfl ?_
          obtain ⟨s85, hs85, hf⟩ := xlet_some hf
          refine wk_sig hs85 ?_
          refine wk_aload_n (pc := 86) dX8_ship_86 rfl 1 rfl ?_
          refine wk_getR (C := RX8) (T := TX8) (N := 13) (pc := 87) dX8_ship_87 (nc_0 hG).2 (nc_0 hG).1 rfl qU_X8 1 (by decide) qF_X8_19 rfl ?_
          refine wk_getR (C := RX3) (T := TX3) (N := 7) (pc := 90) dX8_ship_90 (nc_21 hG).2 (nc_21 hG).1 rfl qU_X3 4 (by decide) qF_X8_140 rfl ?_
          refine wk_iload (pc := 93) dX8_ship_93 0 rfl ?_
          refine wk_iload_n (pc := 95) dX8_ship_95 rfl 3 rfl ?_
          obtain ⟨h96, hf⟩ := xif_some hf
          refine wk_iast (pc := 96) (jj := y56.toNatClampNeg) dX8_ship_96 (nc_24 hG).2 (nc_24 hG).1 h96 rfl ?_
          obtain ⟨s96, hs96, hf⟩ := xlet_some hf
          refine wk_sig hs96 ?_
          refine wk_aload_n (pc := 97) dX8_ship_97 rfl 1 rfl ?_
          refine wk_getR (C := RX8) (T := TX8) (N := 13) (pc := 98) dX8_ship_98 (nc_0 hG).2 (nc_0 hG).1 rfl qU_X8 1 (by decide) qF_X8_19 rfl ?_
          refine wk_getR (C := RX3) (T := TX3) (N := 7) (pc := 101) dX8_ship_101 (nc_21 hG).2 (nc_21 hG).1 rfl qU_X3 5 (by decide) qF_X8_143 rfl ?_
          refine wk_iload (pc := 104) dX8_ship_104 0 rfl ?_
          refine wk_iload_n (pc := 106) dX8_ship_106 rfl 4 rfl ?_
          obtain ⟨h107, hf⟩ := xif_some hf
          refine wk_iast (pc := 107) (jj := y56.toNatClampNeg) dX8_ship_107 (nc_25 hG).2 (nc_25 hG).1 h107 rfl ?_
          obtain ⟨s107, hs107, hf⟩ := xlet_some hf
          refine wk_sig hs107 ?_
          refine wk_aload_n (pc := 108) dX8_ship_108 rfl 1 rfl ?_
          refine wk_getR (C := RX8) (T := TX8) (N := 13) (pc := 109) dX8_ship_109 (nc_0 hG).2 (nc_0 hG).1 rfl qU_X8 1 (by decide) qF_X8_19 rfl ?_
          refine wk_getR (C := RX3) (T := TX3) (N := 7) (pc := 112) dX8_ship_112 (nc_21 hG).2 (nc_21 hG).1 rfl qU_X3 6 (by decide) qF_X8_146 rfl ?_
          refine wk_iload (pc := 115) dX8_ship_115 0 rfl ?_
          refine wk_iconst (pc := 117) (v := (0 : Int32)) dX8_ship_117 (by decide) ?_
          obtain ⟨h118, hf⟩ := xif_some hf
          refine wk_iast (pc := 118) (jj := y56.toNatClampNeg) dX8_ship_118 (nc_26 hG).2 (nc_26 hG).1 h118 rfl ?_
          obtain ⟨s118, hs118, hf⟩ := xlet_some hf
          refine wk_sig hs118 ?_
          refine wk_aload_n (pc := 119) dX8_ship_119 rfl 1 rfl ?_
          refine wk_getR (C := RX8) (T := TX8) (N := 13) (pc := 120) dX8_ship_120 (nc_0 hG).2 (nc_0 hG).1 rfl qU_X8 1 (by decide) qF_X8_19 rfl ?_
          refine wk_dup (pc := 123) dX8_ship_123 rfl ?_
          refine wk_getI (C := RX3) (T := TX3) (N := 7) (pc := 124) dX8_ship_124 (nc_21 hG).2 (nc_21 hG).1 rfl qU_X3 0 (by decide) qF_X8_90 rfl ?_
          refine wk_iconst (pc := 127) (v := (1 : Int32)) dX8_ship_127 (by decide) ?_
          refine wk_iadd (pc := 128) dX8_ship_128 ?_
          refine wk_putI (C := RX3) (T := TX3) (N := 7) (ty := .int) (pc := 129) dX8_ship_129 (nc_21 hG).2 (nc_21 hG).1 rfl qU_X3 tyX3 tyX3_ok nmX3 0 (by decide) qF_X8_90 rfl rfl rfl rfl rfl ?_
          obtain ⟨s129, hs129, hf⟩ := xlet_some hf
          refine wk_sig hs129 ?_
          refine wk_iload (pc := 132) dX8_ship_132 0 rfl ?_
          exact wk_iret (pc := 134) dX8_ship_134 rfl (xI_of hf)
        · refine wk_aload_n (pc := 43) dX8_ship_43 rfl 0 rfl ?_
          refine wk_iconst (pc := 44) (v := (4 : Int32)) dX8_ship_44 (by decide) ?_
          obtain ⟨r45, s45, hc45, hf⟩ := xbind_some hf
          refine wk_callVI (pc := 45) (As := [.int (4 : Int32)]) (rest := []) (kX8_refuse l hG  hc45) cw_X8_86 (by decide) dX8_ship_45 (nc_0 hG).2 (nc_0 hG).1 rfl rfl rfl (Nat.le_of_ble_eq_true rfl) ?_
          exact wk_iret (pc := 48) dX8_ship_48 rfl (xI_of hf)
      · exact wk_lv [0] rfl (J25    s19 hf)
noncomputable def sX8_isShip (p1 : Int32) (s : xS) : Option (Int32 × xS) := xbind (sX8_within p1 (0 : Int32) ((s 21 0) - (1 : Int32)) s) (fun r11 s11 => (if r11 = 0 ∨ r11 = 1 then some (r11, s11) else none))
set_option maxHeartbeats 4000000 in
set_option maxRecDepth 100000 in
theorem kX8_isShip (l : Launch) {G : xG} (hG : xC1 G)  {p1 : Int32}  {s : xS} {r : Int32} {s' : xS} (hf : sX8_isShip p1 s = some (r, s')) : xMet l G 3 yX8_isShip cX8_isShip 2 (some .boolean) [.ref (gA G 0), .int p1] s (xI r s') := by
  refine xMet.of (by decide) (Nat.le_of_ble_eq_true rfl) ?_
  show wk l G 3 RX8 cX8_isShip 2 (some .boolean) (xI r s') 0 [(0, .ref (gA G 0)), (1, .int p1)] [] s
  unfold sX8_isShip at hf
  refine wk_iload_n (pc := 0) dX8_isShip_0 rfl 1 rfl ?_
  refine wk_iconst (pc := 1) (v := (0 : Int32)) dX8_isShip_1 (by decide) ?_
  refine wk_aload_n (pc := 2) dX8_isShip_2 rfl 0 rfl ?_
  refine wk_getR (C := RX8) (T := TX8) (N := 13) (pc := 3) dX8_isShip_3 (nc_0 hG).2 (nc_0 hG).1 rfl qU_X8 1 (by decide) qF_X8_19 rfl ?_
  refine wk_getI (C := RX3) (T := TX3) (N := 7) (pc := 6) dX8_isShip_6 (nc_21 hG).2 (nc_21 hG).1 rfl qU_X3 0 (by decide) qF_X8_90 rfl ?_
  refine wk_iconst (pc := 9) (v := (1 : Int32)) dX8_isShip_9 (by decide) ?_
  refine wk_isub (pc := 10) dX8_isShip_10 ?_
  obtain ⟨r11, s11, hc11, hf⟩ := xbind_some hf
  refine wk_callSI (pc := 11) (As := [.int p1, .int (0 : Int32), .int ((s 21 0) - (1 : Int32))]) (rest := []) (kX8_within l hG  hc11) cw_X8_82 (by decide) dX8_isShip_11 rfl (Nat.le_of_ble_eq_true rfl) ?_
  obtain ⟨h14, hf⟩ := xif_some hf
  exact wk_zret (pc := 14) dX8_isShip_14 rfl (x01n h14) (xI_of hf)
noncomputable def sX8_believedNext (p1 : Int32) (s : xS) : Option (Int32 × xS) := (if xin p1 7 then xlet ((s 25 p1.toNatClampNeg)) (fun y9 => (if y9 = 0 then some ((-1 : Int32), s) else xbind (sX1_draw 1 (s 1 2) s) (fun _ s31 => (if xin p1 7 then (if xin p1 7 then xbind (sX1_believed (s31 22 p1.toNatClampNeg) (s31 23 p1.toNatClampNeg) (y9 - (1 : Int32)) s31) (fun r59 s59 => some (r59, s59)) else none) else none)))) else none)
set_option maxHeartbeats 4000000 in
set_option maxRecDepth 100000 in
theorem kX8_believedNext (l : Launch) {G : xG} (hG : xC1 G)  {p1 : Int32}  {s : xS} {r : Int32} {s' : xS} (hf : sX8_believedNext p1 s = some (r, s')) : xMet l G 7 yX8_believedNext cX8_believedNext 3 (some .int) [.ref (gA G 0), .int p1] s (xI r s') := by
  refine xMet.of (by decide) (Nat.le_of_ble_eq_true rfl) ?_
  show wk l G 7 RX8 cX8_believedNext 3 (some .int) (xI r s') 0 [(0, .ref (gA G 0)), (1, .int p1)] [] s
  unfold sX8_believedNext at hf
  refine wk_aload_n (pc := 0) dX8_believedNext_0 rfl 0 rfl ?_
  refine wk_getR (C := RX8) (T := TX8) (N := 13) (pc := 1) dX8_believedNext_1 (nc_0 hG).2 (nc_0 hG).1 rfl qU_X8 1 (by decide) qF_X8_19 rfl ?_
  refine wk_getR (C := RX3) (T := TX3) (N := 7) (pc := 4) dX8_believedNext_4 (nc_21 hG).2 (nc_21 hG).1 rfl qU_X3 5 (by decide) qF_X8_143 rfl ?_
  refine wk_iload_n (pc := 7) dX8_believedNext_7 rfl 1 rfl ?_
  obtain ⟨h8, hf⟩ := xif_some hf
  refine wk_iald (pc := 8) (jj := p1.toNatClampNeg) dX8_believedNext_8 (nc_25 hG).2 (nc_25 hG).1 h8 rfl ?_
  obtain ⟨y9, hy9, hf⟩ := xlet_some hf
  refine wk_top hy9 ?_
  refine wk_istore_n (pc := 9) (lv' := [(2, .int y9), (0, .ref (gA G 0)), (1, .int p1)]) dX8_believedNext_9 rfl (by decide) rfl ?_
  refine wk_iload_n (pc := 10) dX8_believedNext_10 rfl 0 rfl ?_
  refine wk_if_ne (pc := 11) (tgt := 16) dX8_believedNext_11 rfl hf (fun hf => ?_) (fun hf => ?_)
  · refine wk_aload_n (pc := 16) dX8_believedNext_16 rfl 1 rfl ?_
    refine wk_getR (C := RX8) (T := TX8) (N := 13) (pc := 17) dX8_believedNext_17 (nc_0 hG).2 (nc_0 hG).1 rfl qU_X8 8 (by decide) qF_X8_49 rfl ?_
    refine wk_aload_n (pc := 20) dX8_believedNext_20 rfl 1 rfl ?_
    refine wk_getR (C := RX8) (T := TX8) (N := 13) (pc := 21) dX8_believedNext_21 (nc_0 hG).2 (nc_0 hG).1 rfl qU_X8 0 (by decide) qF_X8_10 rfl ?_
    refine wk_aload_n (pc := 24) dX8_believedNext_24 rfl 1 rfl ?_
    refine wk_getR (C := RX8) (T := TX8) (N := 13) (pc := 25) dX8_believedNext_25 (nc_0 hG).2 (nc_0 hG).1 rfl qU_X8 0 (by decide) qF_X8_10 rfl ?_
    refine wk_getI (C := RX0) (T := TX0) (N := 9) (pc := 28) dX8_believedNext_28 (nc_1 hG).2 (nc_1 hG).1 rfl qU_X0 2 (by decide) qF_X8_116 rfl ?_
    obtain ⟨⟨⟩, s31, hc31, hf⟩ := xbind_some hf
    refine wk_callVU (pc := 31) (As := [.ref (gA G 1), .int (s 1 2)]) (rest := []) (kX1_draw l hG (by decide) hc31) cw_X8_155 (by decide) dX8_believedNext_31 (nc_45 hG).2 (nc_45 hG).1 rfl rfl rfl (Nat.le_of_ble_eq_true rfl) ?_
    refine wk_aload_n (pc := 34) dX8_believedNext_34 rfl 1 rfl ?_
    refine wk_getR (C := RX8) (T := TX8) (N := 13) (pc := 35) dX8_believedNext_35 (nc_0 hG).2 (nc_0 hG).1 rfl qU_X8 8 (by decide) qF_X8_49 rfl ?_
    refine wk_aload_n (pc := 38) dX8_believedNext_38 rfl 1 rfl ?_
    refine wk_getR (C := RX8) (T := TX8) (N := 13) (pc := 39) dX8_believedNext_39 (nc_0 hG).2 (nc_0 hG).1 rfl qU_X8 1 (by decide) qF_X8_19 rfl ?_
    refine wk_getR (C := RX3) (T := TX3) (N := 7) (pc := 42) dX8_believedNext_42 (nc_21 hG).2 (nc_21 hG).1 rfl qU_X3 2 (by decide) qF_X8_134 rfl ?_
    refine wk_iload_n (pc := 45) dX8_believedNext_45 rfl 2 rfl ?_
    obtain ⟨h46, hf⟩ := xif_some hf
    refine wk_iald (pc := 46) (jj := p1.toNatClampNeg) dX8_believedNext_46 (nc_22 hG).2 (nc_22 hG).1 h46 rfl ?_
    refine wk_aload_n (pc := 47) dX8_believedNext_47 rfl 1 rfl ?_
    refine wk_getR (C := RX8) (T := TX8) (N := 13) (pc := 48) dX8_believedNext_48 (nc_0 hG).2 (nc_0 hG).1 rfl qU_X8 1 (by decide) qF_X8_19 rfl ?_
    refine wk_getR (C := RX3) (T := TX3) (N := 7) (pc := 51) dX8_believedNext_51 (nc_21 hG).2 (nc_21 hG).1 rfl qU_X3 3 (by decide) qF_X8_137 rfl ?_
    refine wk_iload_n (pc := 54) dX8_believedNext_54 rfl 2 rfl ?_
    obtain ⟨h55, hf⟩ := xif_some hf
    refine wk_iald (pc := 55) (jj := p1.toNatClampNeg) dX8_believedNext_55 (nc_23 hG).2 (nc_23 hG).1 h55 rfl ?_
    refine wk_iload_n (pc := 56) dX8_believedNext_56 rfl 0 rfl ?_
    refine wk_iconst (pc := 57) (v := (1 : Int32)) dX8_believedNext_57 (by decide) ?_
    refine wk_isub (pc := 58) dX8_believedNext_58 ?_
    obtain ⟨r59, s59, hc59, hf⟩ := xbind_some hf
    refine wk_callVI (pc := 59) (As := [.int (s31 22 p1.toNatClampNeg), .int (s31 23 p1.toNatClampNeg), .int (y9 - (1 : Int32))]) (rest := []) (kX1_believed l hG  hc59) cw_X8_159 (by decide) dX8_believedNext_59 (nc_45 hG).2 (nc_45 hG).1 rfl rfl rfl (Nat.le_of_ble_eq_true rfl) ?_
    exact wk_iret (pc := 62) dX8_believedNext_62 rfl (xI_of hf)
  · refine wk_iconst (pc := 14) (v := (-1 : Int32)) dX8_believedNext_14 (by decide) ?_
    exact wk_iret (pc := 15) dX8_believedNext_15 rfl (xI_of hf)
noncomputable def sX8_ofShip_L17   (s17 : xS) : Option (Int32 × xS) := xbind (sX8_refuse (1 : Int32) s17) (fun r19 s19 => some (r19, s19))
noncomputable def sX8_ofShip (p1 : Int32) (p2 : Int32) (s : xS) : Option (Int32 × xS) := xbind (sX8_isShip p1 s) (fun r2 s2 => (if r2 = 0 then sX8_ofShip_L17  s2 else xbind (sX8_within p2 (0 : Int32) (5 : Int32) s2) (fun r11 s11 => (if r11 = 0 then sX8_ofShip_L17  s11 else (if p2 = 0 then (if xin p1 7 then some ((s11 22 p1.toNatClampNeg), s11) else none) else (if p2 = 1 then (if xin p1 7 then some ((s11 23 p1.toNatClampNeg), s11) else none) else (if p2 = 2 then (if xin p1 7 then some ((s11 24 p1.toNatClampNeg), s11) else none) else (if p2 = 3 then (if xin p1 7 then some ((s11 25 p1.toNatClampNeg), s11) else none) else (if p2 = 4 then (if xin p1 7 then some ((s11 26 p1.toNatClampNeg), s11) else none) else xbind (sX8_believedNext p1 s11) (fun r112 s112 => some (r112, s112)))))))))))
set_option maxHeartbeats 4000000 in
set_option maxRecDepth 100000 in
theorem kX8_ofShip (l : Launch) {G : xG} (hG : xC1 G)  {p1 : Int32} {p2 : Int32}  {s : xS} {r : Int32} {s' : xS} (hf : sX8_ofShip p1 p2 s = some (r, s')) : xMet l G 8 yX8_ofShip cX8_ofShip 3 (some .int) [.ref (gA G 0), .int p1, .int p2] s (xI r s') := by
  refine xMet.of (by decide) (Nat.le_of_ble_eq_true rfl) ?_
  show wk l G 8 RX8 cX8_ofShip 3 (some .int) (xI r s') 0 [(0, .ref (gA G 0)), (1, .int p1), (2, .int p2)] [] s
  unfold sX8_ofShip at hf
  have J17 : ∀     (s17 : xS), sX8_ofShip_L17  s17 = some (r, s') → wk l G 8 RX8 cX8_ofShip 3 (some .int) (xI r s') 17 [(0, .ref (gA G 0))] [] s17 := by
    intro s17 hf
    unfold sX8_ofShip_L17 at hf
    refine wk_aload_n (pc := 17) dX8_ofShip_17 rfl 0 rfl ?_
    refine wk_iconst (pc := 18) (v := (1 : Int32)) dX8_ofShip_18 (by decide) ?_
    obtain ⟨r19, s19, hc19, hf⟩ := xbind_some hf
    refine wk_callVI (pc := 19) (As := [.int (1 : Int32)]) (rest := []) (kX8_refuse l hG  hc19) cw_X8_86 (by decide) dX8_ofShip_19 (nc_0 hG).2 (nc_0 hG).1 rfl rfl rfl (Nat.le_of_ble_eq_true rfl) ?_
    exact wk_iret (pc := 22) dX8_ofShip_22 rfl (xI_of hf)
  refine wk_aload_n (pc := 0) dX8_ofShip_0 rfl 0 rfl ?_
  refine wk_iload_n (pc := 1) dX8_ofShip_1 rfl 1 rfl ?_
  obtain ⟨r2, s2, hc2, hf⟩ := xbind_some hf
  refine wk_callVI (pc := 2) (As := [.int p1]) (rest := []) (kX8_isShip l hG  hc2) cw_X8_149 (by decide) dX8_ofShip_2 (nc_0 hG).2 (nc_0 hG).1 rfl rfl rfl (Nat.le_of_ble_eq_true rfl) ?_
  refine wk_if_eq (pc := 5) (tgt := 17) dX8_ofShip_5 rfl hf (fun hf => ?_) (fun hf => ?_)
  · exact wk_lv [0] rfl (J17    s2 hf)
  · refine wk_iload_n (pc := 8) dX8_ofShip_8 rfl 2 rfl ?_
    refine wk_iconst (pc := 9) (v := (0 : Int32)) dX8_ofShip_9 (by decide) ?_
    refine wk_iconst (pc := 10) (v := (5 : Int32)) dX8_ofShip_10 (by decide) ?_
    obtain ⟨r11, s11, hc11, hf⟩ := xbind_some hf
    refine wk_callSI (pc := 11) (As := [.int p2, .int (0 : Int32), .int (5 : Int32)]) (rest := []) (kX8_within l hG  hc11) cw_X8_82 (by decide) dX8_ofShip_11 rfl (Nat.le_of_ble_eq_true rfl) ?_
    refine wk_if_ne (pc := 14) (tgt := 23) dX8_ofShip_14 rfl hf (fun hf => ?_) (fun hf => ?_)
    · refine wk_iload_n (pc := 23) dX8_ofShip_23 rfl 2 rfl ?_
      by_cases e0 : p2 = 0
      · rw [if_pos e0] at hf
        refine wk_tableIn (pc := 24) (off := 36) (tgt := 60) dX8_ofShip_24 (0 : Int32) e0 (by decide) (by decide) (by decide) rfl ?_
        refine wk_aload_n (pc := 60) dX8_ofShip_60 rfl 0 rfl ?_
        refine wk_getR (C := RX8) (T := TX8) (N := 13) (pc := 61) dX8_ofShip_61 (nc_0 hG).2 (nc_0 hG).1 rfl qU_X8 1 (by decide) qF_X8_19 rfl ?_
        refine wk_getR (C := RX3) (T := TX3) (N := 7) (pc := 64) dX8_ofShip_64 (nc_21 hG).2 (nc_21 hG).1 rfl qU_X3 2 (by decide) qF_X8_134 rfl ?_
        refine wk_iload_n (pc := 67) dX8_ofShip_67 rfl 1 rfl ?_
        obtain ⟨h68, hf⟩ := xif_some hf
        refine wk_iald (pc := 68) (jj := p1.toNatClampNeg) dX8_ofShip_68 (nc_22 hG).2 (nc_22 hG).1 h68 rfl ?_
        exact wk_iret (pc := 69) dX8_ofShip_69 rfl (xI_of hf)
      · rw [if_neg e0] at hf
        by_cases e1 : p2 = 1
        · rw [if_pos e1] at hf
          refine wk_tableIn (pc := 24) (off := 46) (tgt := 70) dX8_ofShip_24 (1 : Int32) e1 (by decide) (by decide) (by decide) rfl ?_
          refine wk_aload_n (pc := 70) dX8_ofShip_70 rfl 0 rfl ?_
          refine wk_getR (C := RX8) (T := TX8) (N := 13) (pc := 71) dX8_ofShip_71 (nc_0 hG).2 (nc_0 hG).1 rfl qU_X8 1 (by decide) qF_X8_19 rfl ?_
          refine wk_getR (C := RX3) (T := TX3) (N := 7) (pc := 74) dX8_ofShip_74 (nc_21 hG).2 (nc_21 hG).1 rfl qU_X3 3 (by decide) qF_X8_137 rfl ?_
          refine wk_iload_n (pc := 77) dX8_ofShip_77 rfl 1 rfl ?_
          obtain ⟨h78, hf⟩ := xif_some hf
          refine wk_iald (pc := 78) (jj := p1.toNatClampNeg) dX8_ofShip_78 (nc_23 hG).2 (nc_23 hG).1 h78 rfl ?_
          exact wk_iret (pc := 79) dX8_ofShip_79 rfl (xI_of hf)
        · rw [if_neg e1] at hf
          by_cases e2 : p2 = 2
          · rw [if_pos e2] at hf
            refine wk_tableIn (pc := 24) (off := 56) (tgt := 80) dX8_ofShip_24 (2 : Int32) e2 (by decide) (by decide) (by decide) rfl ?_
            refine wk_aload_n (pc := 80) dX8_ofShip_80 rfl 0 rfl ?_
            refine wk_getR (C := RX8) (T := TX8) (N := 13) (pc := 81) dX8_ofShip_81 (nc_0 hG).2 (nc_0 hG).1 rfl qU_X8 1 (by decide) qF_X8_19 rfl ?_
            refine wk_getR (C := RX3) (T := TX3) (N := 7) (pc := 84) dX8_ofShip_84 (nc_21 hG).2 (nc_21 hG).1 rfl qU_X3 4 (by decide) qF_X8_140 rfl ?_
            refine wk_iload_n (pc := 87) dX8_ofShip_87 rfl 1 rfl ?_
            obtain ⟨h88, hf⟩ := xif_some hf
            refine wk_iald (pc := 88) (jj := p1.toNatClampNeg) dX8_ofShip_88 (nc_24 hG).2 (nc_24 hG).1 h88 rfl ?_
            exact wk_iret (pc := 89) dX8_ofShip_89 rfl (xI_of hf)
          · rw [if_neg e2] at hf
            by_cases e3 : p2 = 3
            · rw [if_pos e3] at hf
              refine wk_tableIn (pc := 24) (off := 66) (tgt := 90) dX8_ofShip_24 (3 : Int32) e3 (by decide) (by decide) (by decide) rfl ?_
              refine wk_aload_n (pc := 90) dX8_ofShip_90 rfl 0 rfl ?_
              refine wk_getR (C := RX8) (T := TX8) (N := 13) (pc := 91) dX8_ofShip_91 (nc_0 hG).2 (nc_0 hG).1 rfl qU_X8 1 (by decide) qF_X8_19 rfl ?_
              refine wk_getR (C := RX3) (T := TX3) (N := 7) (pc := 94) dX8_ofShip_94 (nc_21 hG).2 (nc_21 hG).1 rfl qU_X3 5 (by decide) qF_X8_143 rfl ?_
              refine wk_iload_n (pc := 97) dX8_ofShip_97 rfl 1 rfl ?_
              obtain ⟨h98, hf⟩ := xif_some hf
              refine wk_iald (pc := 98) (jj := p1.toNatClampNeg) dX8_ofShip_98 (nc_25 hG).2 (nc_25 hG).1 h98 rfl ?_
              exact wk_iret (pc := 99) dX8_ofShip_99 rfl (xI_of hf)
            · rw [if_neg e3] at hf
              by_cases e4 : p2 = 4
              · rw [if_pos e4] at hf
                refine wk_tableIn (pc := 24) (off := 76) (tgt := 100) dX8_ofShip_24 (4 : Int32) e4 (by decide) (by decide) (by decide) rfl ?_
                refine wk_aload_n (pc := 100) dX8_ofShip_100 rfl 0 rfl ?_
                refine wk_getR (C := RX8) (T := TX8) (N := 13) (pc := 101) dX8_ofShip_101 (nc_0 hG).2 (nc_0 hG).1 rfl qU_X8 1 (by decide) qF_X8_19 rfl ?_
                refine wk_getR (C := RX3) (T := TX3) (N := 7) (pc := 104) dX8_ofShip_104 (nc_21 hG).2 (nc_21 hG).1 rfl qU_X3 6 (by decide) qF_X8_146 rfl ?_
                refine wk_iload_n (pc := 107) dX8_ofShip_107 rfl 1 rfl ?_
                obtain ⟨h108, hf⟩ := xif_some hf
                refine wk_iald (pc := 108) (jj := p1.toNatClampNeg) dX8_ofShip_108 (nc_26 hG).2 (nc_26 hG).1 h108 rfl ?_
                exact wk_iret (pc := 109) dX8_ofShip_109 rfl (xI_of hf)
              · rw [if_neg e4] at hf
                have g0 : ¬ p2.toInt = 0 := fun q => e0 (Int32.toInt_inj.mp (q.trans (by decide)))
                have g1 : ¬ p2.toInt = 1 := fun q => e1 (Int32.toInt_inj.mp (q.trans (by decide)))
                have g2 : ¬ p2.toInt = 2 := fun q => e2 (Int32.toInt_inj.mp (q.trans (by decide)))
                have g3 : ¬ p2.toInt = 3 := fun q => e3 (Int32.toInt_inj.mp (q.trans (by decide)))
                have g4 : ¬ p2.toInt = 4 := fun q => e4 (Int32.toInt_inj.mp (q.trans (by decide)))
                refine wk_tableOut (pc := 24) (tgt := 110) dX8_ofShip_24 (by omega) rfl ?_
                refine wk_aload_n (pc := 110) dX8_ofShip_110 rfl 0 rfl ?_
                refine wk_iload_n (pc := 111) dX8_ofShip_111 rfl 1 rfl ?_
                obtain ⟨r112, s112, hc112, hf⟩ := xbind_some hf
                refine wk_callVI (pc := 112) (As := [.int p1]) (rest := []) (kX8_believedNext l hG  hc112) cw_X8_152 (by decide) dX8_ofShip_112 (nc_0 hG).2 (nc_0 hG).1 rfl rfl rfl (Nat.le_of_ble_eq_true rfl) ?_
                exact wk_iret (pc := 115) dX8_ofShip_115 rfl (xI_of hf)
    · exact wk_lv [0] rfl (J17    s11 hf)
noncomputable def sX8_greatestChange (p1 : Int32) (s : xS) : Option (Int32 × xS) := (if p1 = 0 then some ((9 : Int32), s) else xlet ((if p1 = (1 : Int32) then ((s 1 0) - (1 : Int32)) else (1 : Int32))) (fun y25d => some (y25d, s)))
set_option maxHeartbeats 4000000 in
set_option maxRecDepth 100000 in
theorem kX8_greatestChange (l : Launch) {G : xG} (hG : xC1 G)  {p1 : Int32}  {s : xS} {r : Int32} {s' : xS} (hf : sX8_greatestChange p1 s = some (r, s')) : xMet l G 2 yX8_greatestChange cX8_greatestChange 2 (some .int) [.ref (gA G 0), .int p1] s (xI r s') := by
  refine xMet.of (by decide) (Nat.le_of_ble_eq_true rfl) ?_
  show wk l G 2 RX8 cX8_greatestChange 2 (some .int) (xI r s') 0 [(0, .ref (gA G 0)), (1, .int p1)] [] s
  unfold sX8_greatestChange at hf
  refine wk_iload_n (pc := 0) dX8_greatestChange_0 rfl 1 rfl ?_
  refine wk_if_ne (pc := 1) (tgt := 7) dX8_greatestChange_1 rfl hf (fun hf => ?_) (fun hf => ?_)
  · refine wk_iload_n (pc := 7) dX8_greatestChange_7 rfl 1 rfl ?_
    refine wk_iconst (pc := 8) (v := (1 : Int32)) dX8_greatestChange_8 (by decide) ?_
    obtain ⟨y25d, hy25d, hf⟩ := xlet_some hf
    have K25 : wk l G 2 RX8 cX8_greatestChange 2 (some .int) (xI r s') 25 [(0, .ref (gA G 0)), (1, .int p1)] [.int y25d] s := by
      exact wk_iret (pc := 25) dX8_greatestChange_25 rfl (xI_of hf)
    by_cases c9 : p1 = (1 : Int32)
    · rw [if_pos c9] at hy25d
      refine wk_icmp_ne_p (pc := 9) (tgt := 24) dX8_greatestChange_9 rfl c9 ?_
      refine wk_aload_n (pc := 12) dX8_greatestChange_12 rfl 0 rfl ?_
      refine wk_getR (C := RX8) (T := TX8) (N := 13) (pc := 13) dX8_greatestChange_13 (nc_0 hG).2 (nc_0 hG).1 rfl qU_X8 0 (by decide) qF_X8_10 rfl ?_
      refine wk_getI (C := RX0) (T := TX0) (N := 9) (pc := 16) dX8_greatestChange_16 (nc_1 hG).2 (nc_1 hG).1 rfl qU_X0 0 (by decide) qF_X8_93 rfl ?_
      refine wk_iconst (pc := 19) (v := (1 : Int32)) dX8_greatestChange_19 (by decide) ?_
      refine wk_isub (pc := 20) dX8_greatestChange_20 ?_
      refine wk_goto (pc := 21) (tgt := 25) dX8_greatestChange_21 rfl ?_
      exact wk_top hy25d K25
    · rw [if_neg c9] at hy25d
      refine wk_icmp_ne_m (pc := 9) (tgt := 24) dX8_greatestChange_9 rfl c9 ?_
      refine wk_iconst (pc := 24) (v := (1 : Int32)) dX8_greatestChange_24 (by decide) ?_
      exact wk_top hy25d K25
  · refine wk_bipush (pc := 4) (v := (9 : Int32)) dX8_greatestChange_4 (by decide) ?_
    exact wk_iret (pc := 6) dX8_greatestChange_6 rfl (xI_of hf)
noncomputable def sX8_change_L72 (p1 : Int32) (p3 : Int32) (y72d : Nat)  (s72 : xS) : Option (Int32 × xS) := (if xin p1 7 then xlet ((s72 y72d p1.toNatClampNeg)) (fun y78 => (if xin p1 7 then xlet (xup s72 y72d (upd (s72 y72d) p1.toNatClampNeg p3)) (fun s84 => some (y78, s84)) else none)) else none)
noncomputable def sX8_change_L30   (s30 : xS) : Option (Int32 × xS) := xbind (sX8_refuse (1 : Int32) s30) (fun r32 s32 => some (r32, s32))
noncomputable def sX8_change (p1 : Int32) (p2 : Int32) (p3 : Int32) (s : xS) : Option (Int32 × xS) := xbind (sX8_isShip p1 s) (fun r2 s2 => (if r2 = 0 then sX8_change_L30  s2 else xbind (sX8_within p2 (0 : Int32) (2 : Int32) s2) (fun r11 s11 => (if r11 = 0 then sX8_change_L30  s11 else xbind (sX8_greatestChange p2 s11) (fun r21 s21 => xbind (sX8_within p3 (0 : Int32) r21 s21) (fun r24 s24 => (if r24 = 0 then sX8_change_L30  s24 else xlet ((if p2 = 0 then 24 else (if p2 = (1 : Int32) then 25 else 26))) (fun y72d => (sX8_change_L72 p1 p3 y72d)  s24))))))))
set_option maxHeartbeats 4000000 in
set_option maxRecDepth 100000 in
theorem kX8_change (l : Launch) {G : xG} (hG : xC1 G)  {p1 : Int32} {p2 : Int32} {p3 : Int32}  {s : xS} {r : Int32} {s' : xS} (hf : sX8_change p1 p2 p3 s = some (r, s')) : xMet l G 4 yX8_change cX8_change 6 (some .int) [.ref (gA G 0), .int p1, .int p2, .int p3] s (xI r s') := by
  refine xMet.of (by decide) (Nat.le_of_ble_eq_true rfl) ?_
  show wk l G 4 RX8 cX8_change 6 (some .int) (xI r s') 0 [(0, .ref (gA G 0)), (1, .int p1), (2, .int p2), (3, .int p3)] [] s
  unfold sX8_change at hf
  have J72 : ∀ (y72d : Nat) (fy72d : gS G y72d = .inl 7 ∧ y72d < gN G)   (s72 : xS), (sX8_change_L72 p1 p3 y72d)  s72 = some (r, s') → wk l G 4 RX8 cX8_change 6 (some .int) (xI r s') 72 [(1, .int p1), (3, .int p3)] [.ref (gA G y72d)] s72 := by
    intro y72d fy72d s72 hf
    unfold sX8_change_L72 at hf
    refine wk_astore (pc := 72) (lv' := [(4, .ref (gA G y72d)), (1, .int p1), (3, .int p3)]) dX8_change_72 (by decide) rfl ?_
    refine wk_aload (pc := 74) dX8_change_74 0 rfl ?_
    refine wk_iload_n (pc := 76) dX8_change_76 rfl 1 rfl ?_
    obtain ⟨h77, hf⟩ := xif_some hf
    refine wk_iald (pc := 77) (jj := p1.toNatClampNeg) dX8_change_77 fy72d.2 fy72d.1 h77 rfl ?_
    obtain ⟨y78, hy78, hf⟩ := xlet_some hf
    refine wk_top hy78 ?_
    refine wk_istore (pc := 78) (lv' := [(5, .int y78), (4, .ref (gA G y72d)), (1, .int p1), (3, .int p3)]) dX8_change_78 (by decide) rfl ?_
    refine wk_aload (pc := 80) dX8_change_80 1 rfl ?_
    refine wk_iload_n (pc := 82) dX8_change_82 rfl 2 rfl ?_
    refine wk_iload_n (pc := 83) dX8_change_83 rfl 3 rfl ?_
    obtain ⟨h84, hf⟩ := xif_some hf
    refine wk_iast (pc := 84) (jj := p1.toNatClampNeg) dX8_change_84 fy72d.2 fy72d.1 h84 rfl ?_
    obtain ⟨s84, hs84, hf⟩ := xlet_some hf
    refine wk_sig hs84 ?_
    refine wk_iload (pc := 85) dX8_change_85 0 rfl ?_
    exact wk_iret (pc := 87) dX8_change_87 rfl (xI_of hf)
  have J30 : ∀     (s30 : xS), sX8_change_L30  s30 = some (r, s') → wk l G 4 RX8 cX8_change 6 (some .int) (xI r s') 30 [(0, .ref (gA G 0))] [] s30 := by
    intro s30 hf
    unfold sX8_change_L30 at hf
    refine wk_aload_n (pc := 30) dX8_change_30 rfl 0 rfl ?_
    refine wk_iconst (pc := 31) (v := (1 : Int32)) dX8_change_31 (by decide) ?_
    obtain ⟨r32, s32, hc32, hf⟩ := xbind_some hf
    refine wk_callVI (pc := 32) (As := [.int (1 : Int32)]) (rest := []) (kX8_refuse l hG  hc32) cw_X8_86 (by decide) dX8_change_32 (nc_0 hG).2 (nc_0 hG).1 rfl rfl rfl (Nat.le_of_ble_eq_true rfl) ?_
    exact wk_iret (pc := 35) dX8_change_35 rfl (xI_of hf)
  refine wk_aload_n (pc := 0) dX8_change_0 rfl 0 rfl ?_
  refine wk_iload_n (pc := 1) dX8_change_1 rfl 1 rfl ?_
  obtain ⟨r2, s2, hc2, hf⟩ := xbind_some hf
  refine wk_callVI (pc := 2) (As := [.int p1]) (rest := []) (kX8_isShip l hG  hc2) cw_X8_149 (by decide) dX8_change_2 (nc_0 hG).2 (nc_0 hG).1 rfl rfl rfl (Nat.le_of_ble_eq_true rfl) ?_
  refine wk_if_eq (pc := 5) (tgt := 30) dX8_change_5 rfl hf (fun hf => ?_) (fun hf => ?_)
  · exact wk_lv [0] rfl (J30    s2 hf)
  · refine wk_iload_n (pc := 8) dX8_change_8 rfl 2 rfl ?_
    refine wk_iconst (pc := 9) (v := (0 : Int32)) dX8_change_9 (by decide) ?_
    refine wk_iconst (pc := 10) (v := (2 : Int32)) dX8_change_10 (by decide) ?_
    obtain ⟨r11, s11, hc11, hf⟩ := xbind_some hf
    refine wk_callSI (pc := 11) (As := [.int p2, .int (0 : Int32), .int (2 : Int32)]) (rest := []) (kX8_within l hG  hc11) cw_X8_82 (by decide) dX8_change_11 rfl (Nat.le_of_ble_eq_true rfl) ?_
    refine wk_if_eq (pc := 14) (tgt := 30) dX8_change_14 rfl hf (fun hf => ?_) (fun hf => ?_)
    · exact wk_lv [0] rfl (J30    s11 hf)
    · refine wk_iload_n (pc := 17) dX8_change_17 rfl 3 rfl ?_
      refine wk_iconst (pc := 18) (v := (0 : Int32)) dX8_change_18 (by decide) ?_
      refine wk_aload_n (pc := 19) dX8_change_19 rfl 0 rfl ?_
      refine wk_iload_n (pc := 20) dX8_change_20 rfl 2 rfl ?_
      obtain ⟨r21, s21, hc21, hf⟩ := xbind_some hf
      refine wk_callVI (pc := 21) (As := [.int p2]) (rest := [.int (0 : Int32), .int p3]) (kX8_greatestChange l hG  hc21) cw_X8_163 (by decide) dX8_change_21 (nc_0 hG).2 (nc_0 hG).1 rfl rfl rfl (Nat.le_of_ble_eq_true rfl) ?_
      obtain ⟨r24, s24, hc24, hf⟩ := xbind_some hf
      refine wk_callSI (pc := 24) (As := [.int p3, .int (0 : Int32), .int r21]) (rest := []) (kX8_within l hG  hc24) cw_X8_82 (by decide) dX8_change_24 rfl (Nat.le_of_ble_eq_true rfl) ?_
      refine wk_if_ne (pc := 27) (tgt := 36) dX8_change_27 rfl hf (fun hf => ?_) (fun hf => ?_)
      · refine wk_iload_n (pc := 36) dX8_change_36 rfl 2 rfl ?_
        obtain ⟨y72d, hy72d, hf⟩ := xlet_some hf
        have fy72d : gS G y72d = .inl 7 ∧ y72d < gN G := by
          rw [hy72d]
          by_cases c37 : p2 = 0
          · rw [if_pos c37]
            exact (nc_24 hG)
          · rw [if_neg c37]
            by_cases c52 : p2 = (1 : Int32)
            · rw [if_pos c52]
              exact (nc_25 hG)
            · rw [if_neg c52]
              exact (nc_26 hG)
        have K72 : wk l G 4 RX8 cX8_change 6 (some .int) (xI r s') 72 [(0, .ref (gA G 0)), (1, .int p1), (2, .int p2), (3, .int p3)] [.ref (gA G y72d)] s24 := by
          exact wk_lv [1, 3] rfl (J72 y72d fy72d   s24 hf)
        by_cases c37 : p2 = 0
        · rw [if_pos c37] at hy72d
          refine wk_if_ne_p (pc := 37) (tgt := 50) dX8_change_37 rfl c37 ?_
          refine wk_aload_n (pc := 40) dX8_change_40 rfl 0 rfl ?_
          refine wk_getR (C := RX8) (T := TX8) (N := 13) (pc := 41) dX8_change_41 (nc_0 hG).2 (nc_0 hG).1 rfl qU_X8 1 (by decide) qF_X8_19 rfl ?_
          refine wk_getR (C := RX3) (T := TX3) (N := 7) (pc := 44) dX8_change_44 (nc_21 hG).2 (nc_21 hG).1 rfl qU_X3 4 (by decide) qF_X8_140 rfl ?_
          refine wk_goto (pc := 47) (tgt := 72) dX8_change_47 rfl ?_
          exact wk_topR hy72d K72
        · rw [if_neg c37] at hy72d
          refine wk_if_ne_m (pc := 37) (tgt := 50) dX8_change_37 rfl c37 ?_
          refine wk_iload_n (pc := 50) dX8_change_50 rfl 2 rfl ?_
          refine wk_iconst (pc := 51) (v := (1 : Int32)) dX8_change_51 (by decide) ?_
          by_cases c52 : p2 = (1 : Int32)
          · rw [if_pos c52] at hy72d
            refine wk_icmp_ne_p (pc := 52) (tgt := 65) dX8_change_52 rfl c52 ?_
            refine wk_aload_n (pc := 55) dX8_change_55 rfl 0 rfl ?_
            refine wk_getR (C := RX8) (T := TX8) (N := 13) (pc := 56) dX8_change_56 (nc_0 hG).2 (nc_0 hG).1 rfl qU_X8 1 (by decide) qF_X8_19 rfl ?_
            refine wk_getR (C := RX3) (T := TX3) (N := 7) (pc := 59) dX8_change_59 (nc_21 hG).2 (nc_21 hG).1 rfl qU_X3 5 (by decide) qF_X8_143 rfl ?_
            refine wk_goto (pc := 62) (tgt := 72) dX8_change_62 rfl ?_
            exact wk_topR hy72d K72
          · rw [if_neg c52] at hy72d
            refine wk_icmp_ne_m (pc := 52) (tgt := 65) dX8_change_52 rfl c52 ?_
            refine wk_aload_n (pc := 65) dX8_change_65 rfl 0 rfl ?_
            refine wk_getR (C := RX8) (T := TX8) (N := 13) (pc := 66) dX8_change_66 (nc_0 hG).2 (nc_0 hG).1 rfl qU_X8 1 (by decide) qF_X8_19 rfl ?_
            refine wk_getR (C := RX3) (T := TX3) (N := 7) (pc := 69) dX8_change_69 (nc_21 hG).2 (nc_21 hG).1 rfl qU_X3 6 (by decide) qF_X8_146 rfl ?_
            exact wk_topR hy72d K72
      · exact wk_lv [0] rfl (J30    s24 hf)
noncomputable def sX8_become_L15   (s15 : xS) : Option (Int32 × xS) := xbind (sX8_refuse (1 : Int32) s15) (fun r17 s17 => some (r17, s17))
noncomputable def sX8_become (p1 : Int32) (p2 : Int32) (s : xS) : Option (Int32 × xS) := xbind (sX8_isShip p1 s) (fun r2 s2 => (if r2 = 0 then sX8_become_L15  s2 else xbind (sX8_isKindAndM p2 s2) (fun r9 s9 => (if r9 = 0 then sX8_become_L15  s9 else (if xin p1 7 then xlet ((s9 22 p1.toNatClampNeg)) (fun y30 => (if xin p1 7 then xlet (xup s9 22 (upd (s9 22) p1.toNatClampNeg (p2 / (10 : Int32)))) (fun s43 => (if xin p1 7 then xlet (xup s43 23 (upd (s43 23) p1.toNatClampNeg (p2 - p2 / (10 : Int32) * (10 : Int32)))) (fun s56 => some (y30, s56)) else none)) else none)) else none)))))
set_option maxHeartbeats 4000000 in
set_option maxRecDepth 100000 in
theorem kX8_become (l : Launch) {G : xG} (hG : xC1 G)  {p1 : Int32} {p2 : Int32}  {s : xS} {r : Int32} {s' : xS} (hf : sX8_become p1 p2 s = some (r, s')) : xMet l G 4 yX8_become cX8_become 4 (some .int) [.ref (gA G 0), .int p1, .int p2] s (xI r s') := by
  refine xMet.of (by decide) (Nat.le_of_ble_eq_true rfl) ?_
  show wk l G 4 RX8 cX8_become 4 (some .int) (xI r s') 0 [(0, .ref (gA G 0)), (1, .int p1), (2, .int p2)] [] s
  unfold sX8_become at hf
  have J15 : ∀     (s15 : xS), sX8_become_L15  s15 = some (r, s') → wk l G 4 RX8 cX8_become 4 (some .int) (xI r s') 15 [(0, .ref (gA G 0))] [] s15 := by
    intro s15 hf
    unfold sX8_become_L15 at hf
    refine wk_aload_n (pc := 15) dX8_become_15 rfl 0 rfl ?_
    refine wk_iconst (pc := 16) (v := (1 : Int32)) dX8_become_16 (by decide) ?_
    obtain ⟨r17, s17, hc17, hf⟩ := xbind_some hf
    refine wk_callVI (pc := 17) (As := [.int (1 : Int32)]) (rest := []) (kX8_refuse l hG  hc17) cw_X8_86 (by decide) dX8_become_17 (nc_0 hG).2 (nc_0 hG).1 rfl rfl rfl (Nat.le_of_ble_eq_true rfl) ?_
    exact wk_iret (pc := 20) dX8_become_20 rfl (xI_of hf)
  refine wk_aload_n (pc := 0) dX8_become_0 rfl 0 rfl ?_
  refine wk_iload_n (pc := 1) dX8_become_1 rfl 1 rfl ?_
  obtain ⟨r2, s2, hc2, hf⟩ := xbind_some hf
  refine wk_callVI (pc := 2) (As := [.int p1]) (rest := []) (kX8_isShip l hG  hc2) cw_X8_149 (by decide) dX8_become_2 (nc_0 hG).2 (nc_0 hG).1 rfl rfl rfl (Nat.le_of_ble_eq_true rfl) ?_
  refine wk_if_eq (pc := 5) (tgt := 15) dX8_become_5 rfl hf (fun hf => ?_) (fun hf => ?_)
  · exact wk_lv [0] rfl (J15    s2 hf)
  · refine wk_iload_n (pc := 8) dX8_become_8 rfl 2 rfl ?_
    obtain ⟨r9, s9, hc9, hf⟩ := xbind_some hf
    refine wk_callSI (pc := 9) (As := [.int p2]) (rest := []) (kX8_isKindAndM l hG  hc9) cw_X8_131 (by decide) dX8_become_9 rfl (Nat.le_of_ble_eq_true rfl) ?_
    refine wk_if_ne (pc := 12) (tgt := 21) dX8_become_12 rfl hf (fun hf => ?_) (fun hf => ?_)
    · refine wk_aload_n (pc := 21) dX8_become_21 rfl 0 rfl ?_
      refine wk_getR (C := RX8) (T := TX8) (N := 13) (pc := 22) dX8_become_22 (nc_0 hG).2 (nc_0 hG).1 rfl qU_X8 1 (by decide) qF_X8_19 rfl ?_
      refine wk_getR (C := RX3) (T := TX3) (N := 7) (pc := 25) dX8_become_25 (nc_21 hG).2 (nc_21 hG).1 rfl qU_X3 2 (by decide) qF_X8_134 rfl ?_
      refine wk_iload_n (pc := 28) dX8_become_28 rfl 1 rfl ?_
      obtain ⟨h29, hf⟩ := xif_some hf
      refine wk_iald (pc := 29) (jj := p1.toNatClampNeg) dX8_become_29 (nc_22 hG).2 (nc_22 hG).1 h29 rfl ?_
      obtain ⟨y30, hy30, hf⟩ := xlet_some hf
      refine wk_top hy30 ?_
      refine wk_istore_n (pc := 30) (lv' := [(3, .int y30), (0, .ref (gA G 0)), (1, .int p1), (2, .int p2)]) dX8_become_30 rfl (by decide) rfl ?_
      refine wk_aload_n (pc := 31) dX8_become_31 rfl 1 rfl ?_
      refine wk_getR (C := RX8) (T := TX8) (N := 13) (pc := 32) dX8_become_32 (nc_0 hG).2 (nc_0 hG).1 rfl qU_X8 1 (by decide) qF_X8_19 rfl ?_
      refine wk_getR (C := RX3) (T := TX3) (N := 7) (pc := 35) dX8_become_35 (nc_21 hG).2 (nc_21 hG).1 rfl qU_X3 2 (by decide) qF_X8_134 rfl ?_
      refine wk_iload_n (pc := 38) dX8_become_38 rfl 2 rfl ?_
      refine wk_iload_n (pc := 39) dX8_become_39 rfl 3 rfl ?_
      refine wk_bipush (pc := 40) (v := (10 : Int32)) dX8_become_40 (by decide) ?_
      refine wk_idiv (pc := 42) dX8_become_42 (by decide) ?_
      obtain ⟨h43, hf⟩ := xif_some hf
      refine wk_iast (pc := 43) (jj := p1.toNatClampNeg) dX8_become_43 (nc_22 hG).2 (nc_22 hG).1 h43 rfl ?_
      obtain ⟨s43, hs43, hf⟩ := xlet_some hf
      refine wk_sig hs43 ?_
      refine wk_aload_n (pc := 44) dX8_become_44 rfl 1 rfl ?_
      refine wk_getR (C := RX8) (T := TX8) (N := 13) (pc := 45) dX8_become_45 (nc_0 hG).2 (nc_0 hG).1 rfl qU_X8 1 (by decide) qF_X8_19 rfl ?_
      refine wk_getR (C := RX3) (T := TX3) (N := 7) (pc := 48) dX8_become_48 (nc_21 hG).2 (nc_21 hG).1 rfl qU_X3 3 (by decide) qF_X8_137 rfl ?_
      refine wk_iload_n (pc := 51) dX8_become_51 rfl 2 rfl ?_
      refine wk_iload_n (pc := 52) dX8_become_52 rfl 3 rfl ?_
      refine wk_bipush (pc := 53) (v := (10 : Int32)) dX8_become_53 (by decide) ?_
      refine wk_irem (pc := 55) dX8_become_55 (by decide) ?_
      obtain ⟨h56, hf⟩ := xif_some hf
      refine wk_iast (pc := 56) (jj := p1.toNatClampNeg) dX8_become_56 (nc_23 hG).2 (nc_23 hG).1 h56 rfl ?_
      obtain ⟨s56, hs56, hf⟩ := xlet_some hf
      refine wk_sig hs56 ?_
      refine wk_iload_n (pc := 57) dX8_become_57 rfl 0 rfl ?_
      exact wk_iret (pc := 58) dX8_become_58 rfl (xI_of hf)
    · exact wk_lv [0] rfl (J15    s9 hf)
noncomputable def sX8_isUnder_L4 (p1 : Int32) (self4 : Int32 × Int32 → xS → Option (Int32 × xS)) : Int32 × Int32 → xS → Option (Int32 × xS) := fun (a2_4, a3_4) s4 => (if (6 : Int32) < a3_4 then some ((0 : Int32), s4) else (if a2_4 = p1 then some ((1 : Int32), s4) else (if xin a2_4 7 then xlet ((xAbove.getD a2_4.toNatClampNeg 0)) (fun y22 => xlet (a3_4 + (1 : Int32)) (fun y23 => self4 (y22, y23) s4)) else none)))
noncomputable def sX8_isUnder (p0 : Int32) (p1 : Int32) (s : xS) : Option (Int32 × xS) := xloop (sX8_isUnder_L4 p1) xF (p0, (0 : Int32)) s
set_option maxHeartbeats 4000000 in
set_option maxRecDepth 100000 in
theorem kX8_isUnder (l : Launch) {G : xG} (hG : xC1 G)  {p0 : Int32} {p1 : Int32}  {s : xS} {r : Int32} {s' : xS} (hf : sX8_isUnder p0 p1 s = some (r, s')) : xMet l G 2 yX8_isUnder cX8_isUnder 4 (some .boolean) [.int p0, .int p1] s (xI r s') := by
  refine xMet.of (by decide) (Nat.le_of_ble_eq_true rfl) ?_
  show wk l G 2 RX8 cX8_isUnder 4 (some .boolean) (xI r s') 0 [(0, .int p0), (1, .int p1)] [] s
  unfold sX8_isUnder at hf
  have J4 : ∀   (N : Nat) (a2_4 : Int32) (a3_4 : Int32)  (s4 : xS), xloop (sX8_isUnder_L4 p1) N (a2_4, a3_4) s4 = some (r, s') → wk l G 2 RX8 cX8_isUnder 4 (some .boolean) (xI r s') 4 [(1, .int p1), (2, .int a2_4), (3, .int a3_4)] [] s4 := by
    intro N
    induction N with
    | zero => intro a2_4 a3_4 s4 hf; exact (xloop_0 hf).elim
    | succ N ih4 =>
      intro a2_4 a3_4 s4 hf
      rw [xloop_s] at hf
      generalize xloop (sX8_isUnder_L4 p1) N = self4 at hf ih4
      unfold sX8_isUnder_L4 at hf
      dsimp only at hf
      refine wk_iload_n (pc := 4) dX8_isUnder_4 rfl 2 rfl ?_
      refine wk_bipush (pc := 5) (v := (6 : Int32)) dX8_isUnder_5 (by decide) ?_
      refine wk_icmp_gt (pc := 7) (tgt := 29) dX8_isUnder_7 rfl hf (fun hf => ?_) (fun hf => ?_)
      · refine wk_iconst (pc := 29) (v := (0 : Int32)) dX8_isUnder_29 (by decide) ?_
        exact wk_zret (pc := 30) dX8_isUnder_30 rfl rfl (xI_of hf)
      · refine wk_iload_n (pc := 10) dX8_isUnder_10 rfl 1 rfl ?_
        refine wk_iload_n (pc := 11) dX8_isUnder_11 rfl 0 rfl ?_
        refine wk_icmp_ne (pc := 12) (tgt := 17) dX8_isUnder_12 rfl hf (fun hf => ?_) (fun hf => ?_)
        · refine wk_getsAbove (pc := 17) dX8_isUnder_17 qF_X8_170 ?_
          refine wk_iload_n (pc := 20) dX8_isUnder_20 rfl 1 rfl ?_
          obtain ⟨h21, hf⟩ := xif_some hf
          refine wk_tldAbove (pc := 21) dX8_isUnder_21 h21 ?_
          obtain ⟨y22, hy22, hf⟩ := xlet_some hf
          refine wk_top hy22 ?_
          refine wk_istore_n (pc := 22) (lv' := [(2, .int y22), (1, .int p1), (3, .int a3_4)]) dX8_isUnder_22 rfl (by decide) rfl ?_
          obtain ⟨y23, hy23, hf⟩ := xlet_some hf
          refine wk_iinc (pc := 23) (v := y23) (lv' := [(3, .int y23), (2, .int y22), (1, .int p1)]) dX8_isUnder_23 2 rfl (by rw [hy23] <;> rfl) (by decide) rfl ?_
          refine wk_goto (pc := 26) (tgt := 4) dX8_isUnder_26 rfl ?_
          exact wk_lv [2, 1, 0] rfl (ih4 y22 y23  s4 hf)
        · refine wk_iconst (pc := 15) (v := (1 : Int32)) dX8_isUnder_15 (by decide) ?_
          exact wk_zret (pc := 16) dX8_isUnder_16 rfl rfl (xI_of hf)
  refine wk_iload_n (pc := 0) dX8_isUnder_0 rfl 0 rfl ?_
  refine wk_istore_n (pc := 1) (lv' := [(2, .int p0), (0, .int p0), (1, .int p1)]) dX8_isUnder_1 rfl (by decide) rfl ?_
  refine wk_iconst (pc := 2) (v := (0 : Int32)) dX8_isUnder_2 (by decide) ?_
  refine wk_istore_n (pc := 3) (lv' := [(3, .int (0 : Int32)), (2, .int p0), (0, .int p0), (1, .int p1)]) dX8_isUnder_3 rfl (by decide) rfl ?_
  exact wk_lv [3, 1, 0] rfl (J4  xF p0 (0 : Int32)  s hf)
noncomputable def sX8_as_L18   (s18 : xS) : Option (Int32 × xS) := xbind (sX8_refuse (1 : Int32) s18) (fun r20 s20 => some (r20, s20))
noncomputable def sX8_as (p1 : Int32) (p2 : Int32) (s : xS) : Option (Int32 × xS) := xbind (sX8_isShip p1 s) (fun r2 s2 => (if r2 = 0 then sX8_as_L18  s2 else xbind (sX8_within p2 (0 : Int32) (6 : Int32) s2) (fun r12 s12 => (if r12 = 0 then sX8_as_L18  s12 else (if xin p1 7 then xbind (sX8_isUnder (s12 22 p1.toNatClampNeg) p2 s12) (fun r34 s34 => (if r34 = 0 then xbind (sX8_refuse (5 : Int32) s34) (fun r54 s54 => some (r54, s54)) else (if xin p1 7 then some ((s34 23 p1.toNatClampNeg), s34) else none))) else none)))))
set_option maxHeartbeats 4000000 in
set_option maxRecDepth 100000 in
theorem kX8_as (l : Launch) {G : xG} (hG : xC1 G)  {p1 : Int32} {p2 : Int32}  {s : xS} {r : Int32} {s' : xS} (hf : sX8_as p1 p2 s = some (r, s')) : xMet l G 4 yX8_as cX8_as 3 (some .int) [.ref (gA G 0), .int p1, .int p2] s (xI r s') := by
  refine xMet.of (by decide) (Nat.le_of_ble_eq_true rfl) ?_
  show wk l G 4 RX8 cX8_as 3 (some .int) (xI r s') 0 [(0, .ref (gA G 0)), (1, .int p1), (2, .int p2)] [] s
  unfold sX8_as at hf
  have J18 : ∀     (s18 : xS), sX8_as_L18  s18 = some (r, s') → wk l G 4 RX8 cX8_as 3 (some .int) (xI r s') 18 [(0, .ref (gA G 0))] [] s18 := by
    intro s18 hf
    unfold sX8_as_L18 at hf
    refine wk_aload_n (pc := 18) dX8_as_18 rfl 0 rfl ?_
    refine wk_iconst (pc := 19) (v := (1 : Int32)) dX8_as_19 (by decide) ?_
    obtain ⟨r20, s20, hc20, hf⟩ := xbind_some hf
    refine wk_callVI (pc := 20) (As := [.int (1 : Int32)]) (rest := []) (kX8_refuse l hG  hc20) cw_X8_86 (by decide) dX8_as_20 (nc_0 hG).2 (nc_0 hG).1 rfl rfl rfl (Nat.le_of_ble_eq_true rfl) ?_
    exact wk_iret (pc := 23) dX8_as_23 rfl (xI_of hf)
  refine wk_aload_n (pc := 0) dX8_as_0 rfl 0 rfl ?_
  refine wk_iload_n (pc := 1) dX8_as_1 rfl 1 rfl ?_
  obtain ⟨r2, s2, hc2, hf⟩ := xbind_some hf
  refine wk_callVI (pc := 2) (As := [.int p1]) (rest := []) (kX8_isShip l hG  hc2) cw_X8_149 (by decide) dX8_as_2 (nc_0 hG).2 (nc_0 hG).1 rfl rfl rfl (Nat.le_of_ble_eq_true rfl) ?_
  refine wk_if_eq (pc := 5) (tgt := 18) dX8_as_5 rfl hf (fun hf => ?_) (fun hf => ?_)
  · exact wk_lv [0] rfl (J18    s2 hf)
  · refine wk_iload_n (pc := 8) dX8_as_8 rfl 2 rfl ?_
    refine wk_iconst (pc := 9) (v := (0 : Int32)) dX8_as_9 (by decide) ?_
    refine wk_bipush (pc := 10) (v := (6 : Int32)) dX8_as_10 (by decide) ?_
    obtain ⟨r12, s12, hc12, hf⟩ := xbind_some hf
    refine wk_callSI (pc := 12) (As := [.int p2, .int (0 : Int32), .int (6 : Int32)]) (rest := []) (kX8_within l hG  hc12) cw_X8_82 (by decide) dX8_as_12 rfl (Nat.le_of_ble_eq_true rfl) ?_
    refine wk_if_ne (pc := 15) (tgt := 24) dX8_as_15 rfl hf (fun hf => ?_) (fun hf => ?_)
    · refine wk_aload_n (pc := 24) dX8_as_24 rfl 0 rfl ?_
      refine wk_getR (C := RX8) (T := TX8) (N := 13) (pc := 25) dX8_as_25 (nc_0 hG).2 (nc_0 hG).1 rfl qU_X8 1 (by decide) qF_X8_19 rfl ?_
      refine wk_getR (C := RX3) (T := TX3) (N := 7) (pc := 28) dX8_as_28 (nc_21 hG).2 (nc_21 hG).1 rfl qU_X3 2 (by decide) qF_X8_134 rfl ?_
      refine wk_iload_n (pc := 31) dX8_as_31 rfl 1 rfl ?_
      obtain ⟨h32, hf⟩ := xif_some hf
      refine wk_iald (pc := 32) (jj := p1.toNatClampNeg) dX8_as_32 (nc_22 hG).2 (nc_22 hG).1 h32 rfl ?_
      refine wk_iload_n (pc := 33) dX8_as_33 rfl 2 rfl ?_
      obtain ⟨r34, s34, hc34, hf⟩ := xbind_some hf
      refine wk_callSI (pc := 34) (As := [.int (s12 22 p1.toNatClampNeg), .int p2]) (rest := []) (kX8_isUnder l hG  hc34) cw_X8_166 (by decide) dX8_as_34 rfl (Nat.le_of_ble_eq_true rfl) ?_
      refine wk_if_eq (pc := 37) (tgt := 52) dX8_as_37 rfl hf (fun hf => ?_) (fun hf => ?_)
      · refine wk_aload_n (pc := 52) dX8_as_52 rfl 0 rfl ?_
        refine wk_iconst (pc := 53) (v := (5 : Int32)) dX8_as_53 (by decide) ?_
        obtain ⟨r54, s54, hc54, hf⟩ := xbind_some hf
        refine wk_callVI (pc := 54) (As := [.int (5 : Int32)]) (rest := []) (kX8_refuse l hG  hc54) cw_X8_86 (by decide) dX8_as_54 (nc_0 hG).2 (nc_0 hG).1 rfl rfl rfl (Nat.le_of_ble_eq_true rfl) ?_
        exact wk_iret (pc := 57) dX8_as_57 rfl (xI_of hf)
      · refine wk_aload_n (pc := 40) dX8_as_40 rfl 0 rfl ?_
        refine wk_getR (C := RX8) (T := TX8) (N := 13) (pc := 41) dX8_as_41 (nc_0 hG).2 (nc_0 hG).1 rfl qU_X8 1 (by decide) qF_X8_19 rfl ?_
        refine wk_getR (C := RX3) (T := TX3) (N := 7) (pc := 44) dX8_as_44 (nc_21 hG).2 (nc_21 hG).1 rfl qU_X3 3 (by decide) qF_X8_137 rfl ?_
        refine wk_iload_n (pc := 47) dX8_as_47 rfl 1 rfl ?_
        obtain ⟨h48, hf⟩ := xif_some hf
        refine wk_iald (pc := 48) (jj := p1.toNatClampNeg) dX8_as_48 (nc_23 hG).2 (nc_23 hG).1 h48 rfl ?_
        refine wk_goto (pc := 49) (tgt := 57) dX8_as_49 rfl ?_
        exact wk_iret (pc := 57) dX8_as_57 rfl (xI_of hf)
    · exact wk_lv [0] rfl (J18    s12 hf)
noncomputable def sX8_feed_L39 (p1 : Int64) (p3 : Int32) (self39 : Int32 → xS → Option (Int32 × xS)) : Int32 → xS → Option (Int32 × xS) := fun a4_39 s39 => (if p3 ≤ a4_39 then some ((s39 39 1), s39) else (if xin (s39 39 1) 50 then xlet (xup s39 40 (upd (s39 40) (s39 39 1).toNatClampNeg ((((p1.toUInt64 >>> (((8 : Int32) * a4_39).toInt64.toUInt64 &&& Int64.toUInt64 63)).toInt64).toInt32) &&& (255 : Int32)))) (fun s71 => xlet (xup s71 39 (upd (s71 39) 1 ((s71 39 1) + (1 : Int32)))) (fun s82 => xlet (a4_39 + (1 : Int32)) (fun y85 => self39 y85 s82))) else none))
noncomputable def sX8_feed (p1 : Int64) (p3 : Int32) (s : xS) : Option (Int32 × xS) := xbind (sX8_within p3 (1 : Int32) (8 : Int32) s) (fun r4 s4 => (if r4 = 0 then xbind (sX8_refuse (1 : Int32) s4) (fun r12 s12 => some (r12, s12)) else (if (s4 39 1) ≤ ((50 : Int32) - p3) then xloop (sX8_feed_L39 p1 p3) xF (0 : Int32) s4 else xbind (sX8_refuse (4 : Int32) s4) (fun r32 s32 => some (r32, s32)))))
set_option maxHeartbeats 4000000 in
set_option maxRecDepth 100000 in
theorem kX8_feed (l : Launch) {G : xG} (hG : xC1 G)  {p1 : Int64} {p3 : Int32}  {s : xS} {r : Int32} {s' : xS} (hf : sX8_feed p1 p3 s = some (r, s')) : xMet l G 3 yX8_feed cX8_feed 5 (some .int) [.ref (gA G 0), .long p1, .int p3] s (xI r s') := by
  refine xMet.of (by decide) (Nat.le_of_ble_eq_true rfl) ?_
  show wk l G 3 RX8 cX8_feed 5 (some .int) (xI r s') 0 [(0, .ref (gA G 0)), (1, .long p1), (3, .int p3)] [] s
  unfold sX8_feed at hf
  have J39 : ∀   (N : Nat) (a4_39 : Int32)  (s39 : xS), xloop (sX8_feed_L39 p1 p3) N a4_39 s39 = some (r, s') → wk l G 3 RX8 cX8_feed 5 (some .int) (xI r s') 39 [(0, .ref (gA G 0)), (1, .long p1), (3, .int p3), (4, .int a4_39)] [] s39 := by
    intro N
    induction N with
    | zero => intro a4_39 s39 hf; exact (xloop_0 hf).elim
    | succ N ih39 =>
      intro a4_39 s39 hf
      rw [xloop_s] at hf
      generalize xloop (sX8_feed_L39 p1 p3) N = self39 at hf ih39
      unfold sX8_feed_L39 at hf
      refine wk_iload (pc := 39) dX8_feed_39 3 rfl ?_
      refine wk_iload_n (pc := 41) dX8_feed_41 rfl 2 rfl ?_
      refine wk_icmp_ge (pc := 42) (tgt := 91) dX8_feed_42 rfl hf (fun hf => ?_) (fun hf => ?_)
      · refine wk_aload_n (pc := 91) dX8_feed_91 rfl 0 rfl ?_
        refine wk_getR (C := RX8) (T := TX8) (N := 13) (pc := 92) dX8_feed_92 (nc_0 hG).2 (nc_0 hG).1 rfl qU_X8 2 (by decide) qF_X8_26 rfl ?_
        refine wk_getI (C := RX2) (T := TX2) (N := 5) (pc := 95) dX8_feed_95 (nc_39 hG).2 (nc_39 hG).1 rfl qU_X2 1 (by decide) qF_X8_173 rfl ?_
        exact wk_iret (pc := 98) dX8_feed_98 rfl (xI_of hf)
      · refine wk_aload_n (pc := 45) dX8_feed_45 rfl 0 rfl ?_
        refine wk_getR (C := RX8) (T := TX8) (N := 13) (pc := 46) dX8_feed_46 (nc_0 hG).2 (nc_0 hG).1 rfl qU_X8 2 (by decide) qF_X8_26 rfl ?_
        refine wk_getR (C := RX2) (T := TX2) (N := 5) (pc := 49) dX8_feed_49 (nc_39 hG).2 (nc_39 hG).1 rfl qU_X2 3 (by decide) qF_X8_176 rfl ?_
        refine wk_aload_n (pc := 52) dX8_feed_52 rfl 0 rfl ?_
        refine wk_getR (C := RX8) (T := TX8) (N := 13) (pc := 53) dX8_feed_53 (nc_0 hG).2 (nc_0 hG).1 rfl qU_X8 2 (by decide) qF_X8_26 rfl ?_
        refine wk_getI (C := RX2) (T := TX2) (N := 5) (pc := 56) dX8_feed_56 (nc_39 hG).2 (nc_39 hG).1 rfl qU_X2 1 (by decide) qF_X8_173 rfl ?_
        refine wk_lload_n (pc := 59) dX8_feed_59 rfl 1 rfl ?_
        refine wk_bipush (pc := 60) (v := (8 : Int32)) dX8_feed_60 (by decide) ?_
        refine wk_iload (pc := 62) dX8_feed_62 3 rfl ?_
        refine wk_imul (pc := 64) dX8_feed_64 ?_
        refine wk_lushr (pc := 65) dX8_feed_65 ?_
        refine wk_l2i (pc := 66) dX8_feed_66 ?_
        refine wk_sipush (pc := 67) (v := (255 : Int32)) dX8_feed_67 (by decide) ?_
        refine wk_iand (pc := 70) dX8_feed_70 ?_
        obtain ⟨h71, hf⟩ := xif_some hf
        refine wk_iast (pc := 71) (jj := (s39 39 1).toNatClampNeg) dX8_feed_71 (nc_40 hG).2 (nc_40 hG).1 h71 rfl ?_
        obtain ⟨s71, hs71, hf⟩ := xlet_some hf
        refine wk_sig hs71 ?_
        refine wk_aload_n (pc := 72) dX8_feed_72 rfl 0 rfl ?_
        refine wk_getR (C := RX8) (T := TX8) (N := 13) (pc := 73) dX8_feed_73 (nc_0 hG).2 (nc_0 hG).1 rfl qU_X8 2 (by decide) qF_X8_26 rfl ?_
        refine wk_dup (pc := 76) dX8_feed_76 rfl ?_
        refine wk_getI (C := RX2) (T := TX2) (N := 5) (pc := 77) dX8_feed_77 (nc_39 hG).2 (nc_39 hG).1 rfl qU_X2 1 (by decide) qF_X8_173 rfl ?_
        refine wk_iconst (pc := 80) (v := (1 : Int32)) dX8_feed_80 (by decide) ?_
        refine wk_iadd (pc := 81) dX8_feed_81 ?_
        refine wk_putI (C := RX2) (T := TX2) (N := 5) (ty := .int) (pc := 82) dX8_feed_82 (nc_39 hG).2 (nc_39 hG).1 rfl qU_X2 tyX2 tyX2_ok nmX2 1 (by decide) qF_X8_173 rfl rfl rfl rfl rfl ?_
        obtain ⟨s82, hs82, hf⟩ := xlet_some hf
        refine wk_sig hs82 ?_
        obtain ⟨y85, hy85, hf⟩ := xlet_some hf
        refine wk_iinc (pc := 85) (v := y85) (lv' := [(4, .int y85), (0, .ref (gA G 0)), (1, .long p1), (3, .int p3)]) dX8_feed_85 3 rfl (by rw [hy85] <;> rfl) (by decide) rfl ?_
        refine wk_goto (pc := 88) (tgt := 39) dX8_feed_88 rfl ?_
        exact wk_lv [1, 2, 3, 0] rfl (ih39 y85  s82 hf)
  refine wk_iload_n (pc := 0) dX8_feed_0 rfl 2 rfl ?_
  refine wk_iconst (pc := 1) (v := (1 : Int32)) dX8_feed_1 (by decide) ?_
  refine wk_bipush (pc := 2) (v := (8 : Int32)) dX8_feed_2 (by decide) ?_
  obtain ⟨r4, s4, hc4, hf⟩ := xbind_some hf
  refine wk_callSI (pc := 4) (As := [.int p3, .int (1 : Int32), .int (8 : Int32)]) (rest := []) (kX8_within l hG  hc4) cw_X8_82 (by decide) dX8_feed_4 rfl (Nat.le_of_ble_eq_true rfl) ?_
  refine wk_if_ne (pc := 7) (tgt := 16) dX8_feed_7 rfl hf (fun hf => ?_) (fun hf => ?_)
  · refine wk_aload_n (pc := 16) dX8_feed_16 rfl 0 rfl ?_
    refine wk_getR (C := RX8) (T := TX8) (N := 13) (pc := 17) dX8_feed_17 (nc_0 hG).2 (nc_0 hG).1 rfl qU_X8 2 (by decide) qF_X8_26 rfl ?_
    refine wk_getI (C := RX2) (T := TX2) (N := 5) (pc := 20) dX8_feed_20 (nc_39 hG).2 (nc_39 hG).1 rfl qU_X2 1 (by decide) qF_X8_173 rfl ?_
    refine wk_bipush (pc := 23) (v := (50 : Int32)) dX8_feed_23 (by decide) ?_
    refine wk_iload_n (pc := 25) dX8_feed_25 rfl 2 rfl ?_
    refine wk_isub (pc := 26) dX8_feed_26 ?_
    refine wk_icmp_le (pc := 27) (tgt := 36) dX8_feed_27 rfl hf (fun hf => ?_) (fun hf => ?_)
    · refine wk_iconst (pc := 36) (v := (0 : Int32)) dX8_feed_36 (by decide) ?_
      refine wk_istore (pc := 37) (lv' := [(4, .int (0 : Int32)), (0, .ref (gA G 0)), (1, .long p1), (3, .int p3)]) dX8_feed_37 (by decide) rfl ?_
      exact wk_lv [1, 2, 3, 0] rfl (J39  xF (0 : Int32)  s4 hf)
    · refine wk_aload_n (pc := 30) dX8_feed_30 rfl 0 rfl ?_
      refine wk_iconst (pc := 31) (v := (4 : Int32)) dX8_feed_31 (by decide) ?_
      obtain ⟨r32, s32, hc32, hf⟩ := xbind_some hf
      refine wk_callVI (pc := 32) (As := [.int (4 : Int32)]) (rest := []) (kX8_refuse l hG  hc32) cw_X8_86 (by decide) dX8_feed_32 (nc_0 hG).2 (nc_0 hG).1 rfl rfl rfl (Nat.le_of_ble_eq_true rfl) ?_
      exact wk_iret (pc := 35) dX8_feed_35 rfl (xI_of hf)
  · refine wk_aload_n (pc := 10) dX8_feed_10 rfl 0 rfl ?_
    refine wk_iconst (pc := 11) (v := (1 : Int32)) dX8_feed_11 (by decide) ?_
    obtain ⟨r12, s12, hc12, hf⟩ := xbind_some hf
    refine wk_callVI (pc := 12) (As := [.int (1 : Int32)]) (rest := []) (kX8_refuse l hG  hc12) cw_X8_86 (by decide) dX8_feed_12 (nc_0 hG).2 (nc_0 hG).1 rfl rfl rfl (Nat.le_of_ble_eq_true rfl) ?_
    exact wk_iret (pc := 15) dX8_feed_15 rfl (xI_of hf)
noncomputable def sX8_isUse (p0 : Int32) (s : xS) : Option (Int32 × xS) := xbind (sX8_within p0 (0 : Int32) (1 : Int32) s) (fun r3 s3 => (if r3 = 0 ∨ r3 = 1 then some (r3, s3) else none))
set_option maxHeartbeats 4000000 in
set_option maxRecDepth 100000 in
theorem kX8_isUse (l : Launch) {G : xG} (hG : xC1 G)  {p0 : Int32}  {s : xS} {r : Int32} {s' : xS} (hf : sX8_isUse p0 s = some (r, s')) : xMet l G 3 yX8_isUse cX8_isUse 1 (some .boolean) [.int p0] s (xI r s') := by
  refine xMet.of (by decide) (Nat.le_of_ble_eq_true rfl) ?_
  show wk l G 3 RX8 cX8_isUse 1 (some .boolean) (xI r s') 0 [(0, .int p0)] [] s
  unfold sX8_isUse at hf
  refine wk_iload_n (pc := 0) dX8_isUse_0 rfl 0 rfl ?_
  refine wk_iconst (pc := 1) (v := (0 : Int32)) dX8_isUse_1 (by decide) ?_
  refine wk_iconst (pc := 2) (v := (1 : Int32)) dX8_isUse_2 (by decide) ?_
  obtain ⟨r3, s3, hc3, hf⟩ := xbind_some hf
  refine wk_callSI (pc := 3) (As := [.int p0, .int (0 : Int32), .int (1 : Int32)]) (rest := []) (kX8_within l hG  hc3) cw_X8_82 (by decide) dX8_isUse_3 rfl (Nat.le_of_ble_eq_true rfl) ?_
  obtain ⟨h6, hf⟩ := xif_some hf
  exact wk_zret (pc := 6) dX8_isUse_6 rfl (x01n h6) (xI_of hf)
noncomputable def sX8_text (p1 : Int32) (s : xS) : Option (Int32 × xS) := xbind (sX8_isUse p1 s) (fun r1 s1 => (if r1 = 0 then xbind (sX8_refuse (1 : Int32) s1) (fun r9 s9 => some (r9, s9)) else xbind (sX5_faultOf 40 (s1 39 1) p1 s1) (fun r32 s32 => xlet (xup s32 39 (upd (s32 39) 1 (0 : Int32))) (fun s41 => (if r32 < 0 then xbind (sX0_lawOf 1 p1 s41) (fun r58 s58 => (if r58 ∈ lLaw then xbind (sX4_copyFrom r58 51 s58) (fun _ s68 => some ((1 : Int32), s68)) else none)) else some (((-10 : Int32) - r32), s41))))))
set_option maxHeartbeats 4000000 in
set_option maxRecDepth 100000 in
theorem kX8_text (l : Launch) {G : xG} (hG : xC1 G)  {p1 : Int32}  {s : xS} {r : Int32} {s' : xS} (hf : sX8_text p1 s = some (r, s')) : xMet l G 91 yX8_text cX8_text 3 (some .int) [.ref (gA G 0), .int p1] s (xI r s') := by
  refine xMet.of (by decide) (Nat.le_of_ble_eq_true rfl) ?_
  show wk l G 91 RX8 cX8_text 3 (some .int) (xI r s') 0 [(0, .ref (gA G 0)), (1, .int p1)] [] s
  unfold sX8_text at hf
  refine wk_iload_n (pc := 0) dX8_text_0 rfl 1 rfl ?_
  obtain ⟨r1, s1, hc1, hf⟩ := xbind_some hf
  refine wk_callSI (pc := 1) (As := [.int p1]) (rest := []) (kX8_isUse l hG  hc1) cw_X8_179 (by decide) dX8_text_1 rfl (Nat.le_of_ble_eq_true rfl) ?_
  refine wk_if_ne (pc := 4) (tgt := 13) dX8_text_4 rfl hf (fun hf => ?_) (fun hf => ?_)
  · refine wk_aload_n (pc := 13) dX8_text_13 rfl 0 rfl ?_
    refine wk_getR (C := RX8) (T := TX8) (N := 13) (pc := 14) dX8_text_14 (nc_0 hG).2 (nc_0 hG).1 rfl qU_X8 9 (by decide) qF_X8_56 rfl ?_
    refine wk_aload_n (pc := 17) dX8_text_17 rfl 0 rfl ?_
    refine wk_getR (C := RX8) (T := TX8) (N := 13) (pc := 18) dX8_text_18 (nc_0 hG).2 (nc_0 hG).1 rfl qU_X8 2 (by decide) qF_X8_26 rfl ?_
    refine wk_getR (C := RX2) (T := TX2) (N := 5) (pc := 21) dX8_text_21 (nc_39 hG).2 (nc_39 hG).1 rfl qU_X2 3 (by decide) qF_X8_176 rfl ?_
    refine wk_aload_n (pc := 24) dX8_text_24 rfl 0 rfl ?_
    refine wk_getR (C := RX8) (T := TX8) (N := 13) (pc := 25) dX8_text_25 (nc_0 hG).2 (nc_0 hG).1 rfl qU_X8 2 (by decide) qF_X8_26 rfl ?_
    refine wk_getI (C := RX2) (T := TX2) (N := 5) (pc := 28) dX8_text_28 (nc_39 hG).2 (nc_39 hG).1 rfl qU_X2 1 (by decide) qF_X8_173 rfl ?_
    refine wk_iload_n (pc := 31) dX8_text_31 rfl 1 rfl ?_
    obtain ⟨r32, s32, hc32, hf⟩ := xbind_some hf
    refine wk_callVI (pc := 32) (As := [.ref (gA G 40), .int (s1 39 1), .int p1]) (rest := []) (kX5_faultOf l hG (nc_40 hG) hc32) cw_X8_182 (by decide) dX8_text_32 (nc_49 hG).2 (nc_49 hG).1 rfl rfl rfl (Nat.le_of_ble_eq_true rfl) ?_
    refine wk_istore_n (pc := 35) (lv' := [(2, .int r32), (0, .ref (gA G 0)), (1, .int p1)]) dX8_text_35 rfl (by decide) rfl ?_
    refine wk_aload_n (pc := 36) dX8_text_36 rfl 1 rfl ?_
    refine wk_getR (C := RX8) (T := TX8) (N := 13) (pc := 37) dX8_text_37 (nc_0 hG).2 (nc_0 hG).1 rfl qU_X8 2 (by decide) qF_X8_26 rfl ?_
    refine wk_iconst (pc := 40) (v := (0 : Int32)) dX8_text_40 (by decide) ?_
    refine wk_putI (C := RX2) (T := TX2) (N := 5) (ty := .int) (pc := 41) dX8_text_41 (nc_39 hG).2 (nc_39 hG).1 rfl qU_X2 tyX2 tyX2_ok nmX2 1 (by decide) qF_X8_173 rfl rfl rfl rfl rfl ?_
    obtain ⟨s41, hs41, hf⟩ := xlet_some hf
    refine wk_sig hs41 ?_
    refine wk_iload_n (pc := 44) dX8_text_44 rfl 0 rfl ?_
    refine wk_if_lt (pc := 45) (tgt := 53) dX8_text_45 rfl hf (fun hf => ?_) (fun hf => ?_)
    · refine wk_aload_n (pc := 53) dX8_text_53 rfl 1 rfl ?_
      refine wk_getR (C := RX8) (T := TX8) (N := 13) (pc := 54) dX8_text_54 (nc_0 hG).2 (nc_0 hG).1 rfl qU_X8 0 (by decide) qF_X8_10 rfl ?_
      refine wk_iload_n (pc := 57) dX8_text_57 rfl 2 rfl ?_
      obtain ⟨r58, s58, hc58, hf⟩ := xbind_some hf
      refine wk_callVR (pc := 58) (As := [.int p1]) (rest := []) (kX0_lawOf l hG (by decide) hc58) cw_X8_186 (by decide) dX8_text_58 (nc_1 hG).2 (nc_1 hG).1 rfl rfl rfl (Nat.le_of_ble_eq_true rfl) ?_
      obtain ⟨fr58, hf⟩ := xif_some hf
      refine wk_aload_n (pc := 61) dX8_text_61 rfl 1 rfl ?_
      refine wk_getR (C := RX8) (T := TX8) (N := 13) (pc := 62) dX8_text_62 (nc_0 hG).2 (nc_0 hG).1 rfl qU_X8 9 (by decide) qF_X8_56 rfl ?_
      refine wk_getR (C := RX5) (T := TX5) (N := 5) (pc := 65) dX8_text_65 (nc_49 hG).2 (nc_49 hG).1 rfl qU_X5 4 (by decide) qF_X8_190 rfl ?_
      obtain ⟨⟨⟩, s68, hc68, hf⟩ := xbind_some hf
      refine wk_callVU (pc := 68) (As := [.ref (gA G 51)]) (rest := []) (kX4_copyFrom l hG fr58 (by decide) hc68) cw_X8_194 (by decide) dX8_text_68 (sX4_0 hG fr58).2 (sX4_0 hG fr58).1 rfl rfl rfl (Nat.le_of_ble_eq_true rfl) ?_
      refine wk_iconst (pc := 71) (v := (1 : Int32)) dX8_text_71 (by decide) ?_
      exact wk_iret (pc := 72) dX8_text_72 rfl (xI_of hf)
    · refine wk_bipush (pc := 48) (v := (-10 : Int32)) dX8_text_48 (by decide) ?_
      refine wk_iload_n (pc := 50) dX8_text_50 rfl 0 rfl ?_
      refine wk_isub (pc := 51) dX8_text_51 ?_
      exact wk_iret (pc := 52) dX8_text_52 rfl (xI_of hf)
  · refine wk_aload_n (pc := 7) dX8_text_7 rfl 0 rfl ?_
    refine wk_iconst (pc := 8) (v := (1 : Int32)) dX8_text_8 (by decide) ?_
    obtain ⟨r9, s9, hc9, hf⟩ := xbind_some hf
    refine wk_callVI (pc := 9) (As := [.int (1 : Int32)]) (rest := []) (kX8_refuse l hG  hc9) cw_X8_86 (by decide) dX8_text_9 (nc_0 hG).2 (nc_0 hG).1 rfl rfl rfl (Nat.le_of_ble_eq_true rfl) ?_
    exact wk_iret (pc := 12) dX8_text_12 rfl (xI_of hf)
noncomputable def sX8_law (p1 : Int32) (p2 : Int32) (p3 : Int32) (p4 : Int32) (s : xS) : Option (Int32 × xS) := xbind (sX8_isUse p1 s) (fun r1 s1 => (if r1 = 0 then xbind (sX8_refuse (1 : Int32) s1) (fun r24 s24 => some (r24, s24)) else xbind (sX0_give 1 p1 p2 p3 p4 s1) (fun r16 s16 => some (r16, s16))))
set_option maxHeartbeats 4000000 in
set_option maxRecDepth 100000 in
theorem kX8_law (l : Launch) {G : xG} (hG : xC1 G)  {p1 : Int32} {p2 : Int32} {p3 : Int32} {p4 : Int32}  {s : xS} {r : Int32} {s' : xS} (hf : sX8_law p1 p2 p3 p4 s = some (r, s')) : xMet l G 5 yX8_law cX8_law 5 (some .int) [.ref (gA G 0), .int p1, .int p2, .int p3, .int p4] s (xI r s') := by
  refine xMet.of (by decide) (Nat.le_of_ble_eq_true rfl) ?_
  show wk l G 5 RX8 cX8_law 5 (some .int) (xI r s') 0 [(0, .ref (gA G 0)), (1, .int p1), (2, .int p2), (3, .int p3), (4, .int p4)] [] s
  unfold sX8_law at hf
  refine wk_iload_n (pc := 0) dX8_law_0 rfl 1 rfl ?_
  obtain ⟨r1, s1, hc1, hf⟩ := xbind_some hf
  refine wk_callSI (pc := 1) (As := [.int p1]) (rest := []) (kX8_isUse l hG  hc1) cw_X8_179 (by decide) dX8_law_1 rfl (Nat.le_of_ble_eq_true rfl) ?_
  refine wk_if_eq (pc := 4) (tgt := 22) dX8_law_4 rfl hf (fun hf => ?_) (fun hf => ?_)
  · refine wk_aload_n (pc := 22) dX8_law_22 rfl 0 rfl ?_
    refine wk_iconst (pc := 23) (v := (1 : Int32)) dX8_law_23 (by decide) ?_
    obtain ⟨r24, s24, hc24, hf⟩ := xbind_some hf
    refine wk_callVI (pc := 24) (As := [.int (1 : Int32)]) (rest := []) (kX8_refuse l hG  hc24) cw_X8_86 (by decide) dX8_law_24 (nc_0 hG).2 (nc_0 hG).1 rfl rfl rfl (Nat.le_of_ble_eq_true rfl) ?_
    exact wk_iret (pc := 27) dX8_law_27 rfl (xI_of hf)
  · refine wk_aload_n (pc := 7) dX8_law_7 rfl 0 rfl ?_
    refine wk_getR (C := RX8) (T := TX8) (N := 13) (pc := 8) dX8_law_8 (nc_0 hG).2 (nc_0 hG).1 rfl qU_X8 0 (by decide) qF_X8_10 rfl ?_
    refine wk_iload_n (pc := 11) dX8_law_11 rfl 1 rfl ?_
    refine wk_iload_n (pc := 12) dX8_law_12 rfl 2 rfl ?_
    refine wk_iload_n (pc := 13) dX8_law_13 rfl 3 rfl ?_
    refine wk_iload (pc := 14) dX8_law_14 4 rfl ?_
    obtain ⟨r16, s16, hc16, hf⟩ := xbind_some hf
    refine wk_callVI (pc := 16) (As := [.int p1, .int p2, .int p3, .int p4]) (rest := []) (kX0_give l hG (by decide) hc16) cw_X8_200 (by decide) dX8_law_16 (nc_1 hG).2 (nc_1 hG).1 rfl rfl rfl (Nat.le_of_ble_eq_true rfl) ?_
    refine wk_goto (pc := 19) (tgt := 27) dX8_law_19 rfl ?_
    exact wk_iret (pc := 27) dX8_law_27 rfl (xI_of hf)
noncomputable def sX8_sail_L78 (p1 : Nat) (p2 : Int32) (y78d : Int32)  (s78 : xS) : Option (Unit × xS) := (if xin p2 7 then xlet (xup s78 (p1 + 5) (upd (s78 (p1 + 5)) p2.toNatClampNeg y78d)) (fun s78b => some ((), s78b)) else none)
noncomputable def sX8_sail (p1 : Nat) (p2 : Int32) (s : xS) : Option (Unit × xS) := (if xin p2 7 then xlet ((s (p1 + 3) p2.toNatClampNeg)) (fun y6 => (if xin p2 7 then xlet ((s (p1 + 2) p2.toNatClampNeg)) (fun y13 => (if xin p2 7 then xlet (((s (p1 + 4) p2.toNatClampNeg) - (1 : Int32))) (fun y23 => (if xin p2 7 then xbind (sX1_believed (s (p1 + 1) p2.toNatClampNeg) y13 y23 s) (fun r39 s39 => (if r39 < y6 then xbind (sX0_give 1 (1 : Int32) y6 y13 (s39 p1 1) s39) (fun r94 s94 => (if r94 = (1 : Int32) then (if xin p2 7 then (if ((s94 1 0) - (1 : Int32)) ≤ (s94 (p1 + 4) p2.toNatClampNeg) then some ((), s94) else (if xin p2 7 then (if xin p2 7 then xlet (xup s94 (p1 + 4) (upd (s94 (p1 + 4)) p2.toNatClampNeg ((s94 (p1 + 4) p2.toNatClampNeg) + (1 : Int32)))) (fun s128 => some ((), s128)) else none) else none)) else none) else some ((), s94))) else (if xin p2 7 then xlet (xup s39 (p1 + 4) (upd (s39 (p1 + 4)) p2.toNatClampNeg y23)) (fun s53 => (if xin y23 8 then xlet ((if y6 ≤ (s53 46 y23.toNatClampNeg) then (0 : Int32) else (1 : Int32))) (fun y78d => (sX8_sail_L78 p1 p2 y78d)  s53) else none)) else none))) else none)) else none)) else none)) else none)
set_option maxHeartbeats 4000000 in
set_option maxRecDepth 100000 in
theorem kX8_sail (l : Launch) {G : xG} (hG : xC1 G)  {p1 : Nat} {p2 : Int32} (hp1 : p1 ∈ lFleet) {s : xS} {s' : xS} (hf : sX8_sail p1 p2 s = some ((), s')) : xMet l G 5 yX8_sail cX8_sail 6 none [.ref (gA G 0), .ref (gA G p1), .int p2] s (xU s') := by
  refine xMet.of (by decide) (Nat.le_of_ble_eq_true rfl) ?_
  show wk l G 5 RX8 cX8_sail 6 none (xU s') 0 [(0, .ref (gA G 0)), (1, .ref (gA G p1)), (2, .int p2)] [] s
  unfold sX8_sail at hf
  have J78 : ∀ (y78d : Int32)    (s78 : xS), (sX8_sail_L78 p1 p2 y78d)  s78 = some ((), s') → wk l G 5 RX8 cX8_sail 6 none (xU s') 78 [] [.int y78d, .int p2, .ref (gA G (p1 + 5))] s78 := by
    intro y78d s78 hf
    unfold sX8_sail_L78 at hf
    obtain ⟨h78, hf⟩ := xif_some hf
    refine wk_iast (pc := 78) (jj := p2.toNatClampNeg) dX8_sail_78 (sX3_5 hG hp1).2 (sX3_5 hG hp1).1 h78 rfl ?_
    obtain ⟨s78b, hs78b, hf⟩ := xlet_some hf
    refine wk_sig hs78b ?_
    refine wk_goto (pc := 79) (tgt := 129) dX8_sail_79 rfl ?_
    exact wk_vret (pc := 129) dX8_sail_129 rfl (xU_of hf)
  refine wk_aload_n (pc := 0) dX8_sail_0 rfl 1 rfl ?_
  refine wk_getR (C := RX3) (T := TX3) (N := 7) (pc := 1) dX8_sail_1 (sX3_0 hG hp1).2 (sX3_0 hG hp1).1 rfl qU_X3 4 (by decide) qF_X8_140 rfl ?_
  refine wk_iload_n (pc := 4) dX8_sail_4 rfl 2 rfl ?_
  obtain ⟨h5, hf⟩ := xif_some hf
  refine wk_iald (pc := 5) (jj := p2.toNatClampNeg) dX8_sail_5 (sX3_3 hG hp1).2 (sX3_3 hG hp1).1 h5 rfl ?_
  obtain ⟨y6, hy6, hf⟩ := xlet_some hf
  refine wk_top hy6 ?_
  refine wk_istore_n (pc := 6) (lv' := [(3, .int y6), (0, .ref (gA G 0)), (1, .ref (gA G p1)), (2, .int p2)]) dX8_sail_6 rfl (by decide) rfl ?_
  refine wk_aload_n (pc := 7) dX8_sail_7 rfl 2 rfl ?_
  refine wk_getR (C := RX3) (T := TX3) (N := 7) (pc := 8) dX8_sail_8 (sX3_0 hG hp1).2 (sX3_0 hG hp1).1 rfl qU_X3 3 (by decide) qF_X8_137 rfl ?_
  refine wk_iload_n (pc := 11) dX8_sail_11 rfl 3 rfl ?_
  obtain ⟨h12, hf⟩ := xif_some hf
  refine wk_iald (pc := 12) (jj := p2.toNatClampNeg) dX8_sail_12 (sX3_2 hG hp1).2 (sX3_2 hG hp1).1 h12 rfl ?_
  obtain ⟨y13, hy13, hf⟩ := xlet_some hf
  refine wk_top hy13 ?_
  refine wk_istore (pc := 13) (lv' := [(4, .int y13), (3, .int y6), (0, .ref (gA G 0)), (1, .ref (gA G p1)), (2, .int p2)]) dX8_sail_13 (by decide) rfl ?_
  refine wk_aload_n (pc := 15) dX8_sail_15 rfl 3 rfl ?_
  refine wk_getR (C := RX3) (T := TX3) (N := 7) (pc := 16) dX8_sail_16 (sX3_0 hG hp1).2 (sX3_0 hG hp1).1 rfl qU_X3 5 (by decide) qF_X8_143 rfl ?_
  refine wk_iload_n (pc := 19) dX8_sail_19 rfl 4 rfl ?_
  obtain ⟨h20, hf⟩ := xif_some hf
  refine wk_iald (pc := 20) (jj := p2.toNatClampNeg) dX8_sail_20 (sX3_4 hG hp1).2 (sX3_4 hG hp1).1 h20 rfl ?_
  refine wk_iconst (pc := 21) (v := (1 : Int32)) dX8_sail_21 (by decide) ?_
  refine wk_isub (pc := 22) dX8_sail_22 ?_
  obtain ⟨y23, hy23, hf⟩ := xlet_some hf
  refine wk_top hy23 ?_
  refine wk_istore (pc := 23) (lv' := [(5, .int y23), (4, .int y13), (3, .int y6), (0, .ref (gA G 0)), (1, .ref (gA G p1)), (2, .int p2)]) dX8_sail_23 (by decide) rfl ?_
  refine wk_aload_n (pc := 25) dX8_sail_25 rfl 3 rfl ?_
  refine wk_getR (C := RX8) (T := TX8) (N := 13) (pc := 26) dX8_sail_26 (nc_0 hG).2 (nc_0 hG).1 rfl qU_X8 8 (by decide) qF_X8_49 rfl ?_
  refine wk_aload_n (pc := 29) dX8_sail_29 rfl 4 rfl ?_
  refine wk_getR (C := RX3) (T := TX3) (N := 7) (pc := 30) dX8_sail_30 (sX3_0 hG hp1).2 (sX3_0 hG hp1).1 rfl qU_X3 2 (by decide) qF_X8_134 rfl ?_
  refine wk_iload_n (pc := 33) dX8_sail_33 rfl 5 rfl ?_
  obtain ⟨h34, hf⟩ := xif_some hf
  refine wk_iald (pc := 34) (jj := p2.toNatClampNeg) dX8_sail_34 (sX3_1 hG hp1).2 (sX3_1 hG hp1).1 h34 rfl ?_
  refine wk_iload (pc := 35) dX8_sail_35 1 rfl ?_
  refine wk_iload (pc := 37) dX8_sail_37 0 rfl ?_
  obtain ⟨r39, s39, hc39, hf⟩ := xbind_some hf
  refine wk_callVI (pc := 39) (As := [.int (s (p1 + 1) p2.toNatClampNeg), .int y13, .int y23]) (rest := []) (kX1_believed l hG  hc39) cw_X8_159 (by decide) dX8_sail_39 (nc_45 hG).2 (nc_45 hG).1 rfl rfl rfl (Nat.le_of_ble_eq_true rfl) ?_
  refine wk_iload_n (pc := 42) dX8_sail_42 rfl 2 rfl ?_
  refine wk_icmp_lt (pc := 43) (tgt := 82) dX8_sail_43 rfl hf (fun hf => ?_) (fun hf => ?_)
  · refine wk_aload_n (pc := 82) dX8_sail_82 rfl 3 rfl ?_
    refine wk_getR (C := RX8) (T := TX8) (N := 13) (pc := 83) dX8_sail_83 (nc_0 hG).2 (nc_0 hG).1 rfl qU_X8 0 (by decide) qF_X8_10 rfl ?_
    refine wk_iconst (pc := 86) (v := (1 : Int32)) dX8_sail_86 (by decide) ?_
    refine wk_iload_n (pc := 87) dX8_sail_87 rfl 2 rfl ?_
    refine wk_iload (pc := 88) dX8_sail_88 1 rfl ?_
    refine wk_aload_n (pc := 90) dX8_sail_90 rfl 4 rfl ?_
    refine wk_getI (C := RX3) (T := TX3) (N := 7) (pc := 91) dX8_sail_91 (sX3_0 hG hp1).2 (sX3_0 hG hp1).1 rfl qU_X3 1 (by decide) qF_X8_204 rfl ?_
    obtain ⟨r94, s94, hc94, hf⟩ := xbind_some hf
    refine wk_callVI (pc := 94) (As := [.int (1 : Int32), .int y6, .int y13, .int (s39 p1 1)]) (rest := []) (kX0_give l hG (by decide) hc94) cw_X8_200 (by decide) dX8_sail_94 (nc_1 hG).2 (nc_1 hG).1 rfl rfl rfl (Nat.le_of_ble_eq_true rfl) ?_
    refine wk_iconst (pc := 97) (v := (1 : Int32)) dX8_sail_97 (by decide) ?_
    refine wk_icmp_ne (pc := 98) (tgt := 129) dX8_sail_98 rfl hf (fun hf => ?_) (fun hf => ?_)
    · exact wk_vret (pc := 129) dX8_sail_129 rfl (xU_of hf)
    · refine wk_aload_n (pc := 101) dX8_sail_101 rfl 4 rfl ?_
      refine wk_getR (C := RX3) (T := TX3) (N := 7) (pc := 102) dX8_sail_102 (sX3_0 hG hp1).2 (sX3_0 hG hp1).1 rfl qU_X3 5 (by decide) qF_X8_143 rfl ?_
      refine wk_iload_n (pc := 105) dX8_sail_105 rfl 5 rfl ?_
      obtain ⟨h106, hf⟩ := xif_some hf
      refine wk_iald (pc := 106) (jj := p2.toNatClampNeg) dX8_sail_106 (sX3_4 hG hp1).2 (sX3_4 hG hp1).1 h106 rfl ?_
      refine wk_aload_n (pc := 107) dX8_sail_107 rfl 3 rfl ?_
      refine wk_getR (C := RX8) (T := TX8) (N := 13) (pc := 108) dX8_sail_108 (nc_0 hG).2 (nc_0 hG).1 rfl qU_X8 0 (by decide) qF_X8_10 rfl ?_
      refine wk_getI (C := RX0) (T := TX0) (N := 9) (pc := 111) dX8_sail_111 (nc_1 hG).2 (nc_1 hG).1 rfl qU_X0 0 (by decide) qF_X8_93 rfl ?_
      refine wk_iconst (pc := 114) (v := (1 : Int32)) dX8_sail_114 (by decide) ?_
      refine wk_isub (pc := 115) dX8_sail_115 ?_
      refine wk_icmp_ge (pc := 116) (tgt := 129) dX8_sail_116 rfl hf (fun hf => ?_) (fun hf => ?_)
      · exact wk_vret (pc := 129) dX8_sail_129 rfl (xU_of hf)
      · refine wk_aload_n (pc := 119) dX8_sail_119 rfl 4 rfl ?_
        refine wk_getR (C := RX3) (T := TX3) (N := 7) (pc := 120) dX8_sail_120 (sX3_0 hG hp1).2 (sX3_0 hG hp1).1 rfl qU_X3 5 (by decide) qF_X8_143 rfl ?_
        refine wk_iload_n (pc := 123) dX8_sail_123 rfl 5 rfl ?_
        refine wk_dup2 (pc := 124) dX8_sail_124 rfl rfl ?_
        obtain ⟨h125, hf⟩ := xif_some hf
        refine wk_iald (pc := 125) (jj := p2.toNatClampNeg) dX8_sail_125 (sX3_4 hG hp1).2 (sX3_4 hG hp1).1 h125 rfl ?_
        refine wk_iconst (pc := 126) (v := (1 : Int32)) dX8_sail_126 (by decide) ?_
        refine wk_iadd (pc := 127) dX8_sail_127 ?_
        obtain ⟨h128, hf⟩ := xif_some hf
        refine wk_iast (pc := 128) (jj := p2.toNatClampNeg) dX8_sail_128 (sX3_4 hG hp1).2 (sX3_4 hG hp1).1 h128 rfl ?_
        obtain ⟨s128, hs128, hf⟩ := xlet_some hf
        refine wk_sig hs128 ?_
        exact wk_vret (pc := 129) dX8_sail_129 rfl (xU_of hf)
  · refine wk_aload_n (pc := 46) dX8_sail_46 rfl 4 rfl ?_
    refine wk_getR (C := RX3) (T := TX3) (N := 7) (pc := 47) dX8_sail_47 (sX3_0 hG hp1).2 (sX3_0 hG hp1).1 rfl qU_X3 5 (by decide) qF_X8_143 rfl ?_
    refine wk_iload_n (pc := 50) dX8_sail_50 rfl 5 rfl ?_
    refine wk_iload (pc := 51) dX8_sail_51 0 rfl ?_
    obtain ⟨h53, hf⟩ := xif_some hf
    refine wk_iast (pc := 53) (jj := p2.toNatClampNeg) dX8_sail_53 (sX3_4 hG hp1).2 (sX3_4 hG hp1).1 h53 rfl ?_
    obtain ⟨s53, hs53, hf⟩ := xlet_some hf
    refine wk_sig hs53 ?_
    refine wk_aload_n (pc := 54) dX8_sail_54 rfl 4 rfl ?_
    refine wk_getR (C := RX3) (T := TX3) (N := 7) (pc := 55) dX8_sail_55 (sX3_0 hG hp1).2 (sX3_0 hG hp1).1 rfl qU_X3 6 (by decide) qF_X8_146 rfl ?_
    refine wk_iload_n (pc := 58) dX8_sail_58 rfl 5 rfl ?_
    refine wk_aload_n (pc := 59) dX8_sail_59 rfl 3 rfl ?_
    refine wk_getR (C := RX8) (T := TX8) (N := 13) (pc := 60) dX8_sail_60 (nc_0 hG).2 (nc_0 hG).1 rfl qU_X8 8 (by decide) qF_X8_49 rfl ?_
    refine wk_getR (C := RX1) (T := TX1) (N := 5) (pc := 63) dX8_sail_63 (nc_45 hG).2 (nc_45 hG).1 rfl qU_X1 2 (by decide) qF_X8_222 rfl ?_
    refine wk_iload (pc := 66) dX8_sail_66 0 rfl ?_
    obtain ⟨h68, hf⟩ := xif_some hf
    refine wk_iald (pc := 68) (jj := y23.toNatClampNeg) dX8_sail_68 (nc_46 hG).2 (nc_46 hG).1 h68 rfl ?_
    refine wk_iload_n (pc := 69) dX8_sail_69 rfl 2 rfl ?_
    obtain ⟨y78d, hy78d, hf⟩ := xlet_some hf
    have K78 : wk l G 5 RX8 cX8_sail 6 none (xU s') 78 [(5, .int y23), (4, .int y13), (3, .int y6), (0, .ref (gA G 0)), (1, .ref (gA G p1)), (2, .int p2)] [.int y78d, .int p2, .ref (gA G (p1 + 5))] s53 := by
      exact wk_lv [] rfl (J78 y78d   s53 hf)
    by_cases c70 : y6 ≤ (s53 46 y23.toNatClampNeg)
    · rw [if_pos c70] at hy78d
      refine wk_icmp_ge_p (pc := 70) (tgt := 77) dX8_sail_70 rfl c70 ?_
      refine wk_iconst (pc := 77) (v := (0 : Int32)) dX8_sail_77 (by decide) ?_
      exact wk_top hy78d K78
    · rw [if_neg c70] at hy78d
      refine wk_icmp_ge_m (pc := 70) (tgt := 77) dX8_sail_70 rfl c70 ?_
      refine wk_iconst (pc := 73) (v := (1 : Int32)) dX8_sail_73 (by decide) ?_
      refine wk_goto (pc := 74) (tgt := 78) dX8_sail_74 rfl ?_
      exact wk_top hy78d K78
noncomputable def sX8_passHour_L34 (a2_2 : Int32) (self2 : Int32 → xS → Option (Unit × xS))  (s34 : xS) : Option (Unit × xS) := xlet (a2_2 + (1 : Int32)) (fun y34 => self2 y34 s34)
noncomputable def sX8_passHour_L2 (p1 : Nat) (self2 : Int32 → xS → Option (Unit × xS)) : Int32 → xS → Option (Unit × xS) := fun a2_2 s2 => (if (s2 p1 0) ≤ a2_2 then xlet (xup s2 p1 (upd (s2 p1) 1 ((s2 p1 1) + (1 : Int32)))) (fun s47 => some ((), s47)) else (if xin a2_2 7 then (if (s2 (p1 + 5) a2_2.toNatClampNeg) = 0 then (if xin a2_2 7 then (if (s2 (p1 + 4) a2_2.toNatClampNeg) ≤ 0 then (sX8_passHour_L34 a2_2 self2)  s2 else xbind (sX8_sail p1 a2_2 s2) (fun _ s31 => (sX8_passHour_L34 a2_2 self2)  s31)) else none) else (sX8_passHour_L34 a2_2 self2)  s2) else none))
noncomputable def sX8_passHour (p1 : Nat) (s : xS) : Option (Unit × xS) := xloop (sX8_passHour_L2 p1) xF (0 : Int32) s
set_option maxHeartbeats 4000000 in
set_option maxRecDepth 100000 in
theorem kX8_passHour (l : Launch) {G : xG} (hG : xC1 G)  {p1 : Nat} (hp1 : p1 ∈ lFleet) {s : xS} {s' : xS} (hf : sX8_passHour p1 s = some ((), s')) : xMet l G 6 yX8_passHour cX8_passHour 3 none [.ref (gA G 0), .ref (gA G p1)] s (xU s') := by
  refine xMet.of (by decide) (Nat.le_of_ble_eq_true rfl) ?_
  show wk l G 6 RX8 cX8_passHour 3 none (xU s') 0 [(0, .ref (gA G 0)), (1, .ref (gA G p1))] [] s
  unfold sX8_passHour at hf
  have J2 : ∀   (N : Nat) (a2_2 : Int32)  (s2 : xS), xloop (sX8_passHour_L2 p1) N a2_2 s2 = some ((), s') → wk l G 6 RX8 cX8_passHour 3 none (xU s') 2 [(0, .ref (gA G 0)), (1, .ref (gA G p1)), (2, .int a2_2)] [] s2 := by
    intro N
    induction N with
    | zero => intro a2_2 s2 hf; exact (xloop_0 hf).elim
    | succ N ih2 =>
      intro a2_2 s2 hf
      rw [xloop_s] at hf
      generalize xloop (sX8_passHour_L2 p1) N = self2 at hf ih2
      unfold sX8_passHour_L2 at hf
      have J34 : ∀     (s34 : xS), (sX8_passHour_L34 a2_2 self2)  s34 = some ((), s') → wk l G 6 RX8 cX8_passHour 3 none (xU s') 34 [(0, .ref (gA G 0)), (1, .ref (gA G p1)), (2, .int a2_2)] [] s34 := by
        intro s34 hf
        unfold sX8_passHour_L34 at hf
        obtain ⟨y34, hy34, hf⟩ := xlet_some hf
        refine wk_iinc (pc := 34) (v := y34) (lv' := [(2, .int y34), (0, .ref (gA G 0)), (1, .ref (gA G p1))]) dX8_passHour_34 2 rfl (by rw [hy34] <;> rfl) (by decide) rfl ?_
        refine wk_goto (pc := 37) (tgt := 2) dX8_passHour_37 rfl ?_
        exact wk_lv [1, 2, 0] rfl (ih2 y34  s34 hf)
      refine wk_iload_n (pc := 2) dX8_passHour_2 rfl 2 rfl ?_
      refine wk_aload_n (pc := 3) dX8_passHour_3 rfl 1 rfl ?_
      refine wk_getI (C := RX3) (T := TX3) (N := 7) (pc := 4) dX8_passHour_4 (sX3_0 hG hp1).2 (sX3_0 hG hp1).1 rfl qU_X3 0 (by decide) qF_X8_90 rfl ?_
      refine wk_icmp_ge (pc := 7) (tgt := 40) dX8_passHour_7 rfl hf (fun hf => ?_) (fun hf => ?_)
      · refine wk_aload_n (pc := 40) dX8_passHour_40 rfl 1 rfl ?_
        refine wk_dup (pc := 41) dX8_passHour_41 rfl ?_
        refine wk_getI (C := RX3) (T := TX3) (N := 7) (pc := 42) dX8_passHour_42 (sX3_0 hG hp1).2 (sX3_0 hG hp1).1 rfl qU_X3 1 (by decide) qF_X8_204 rfl ?_
        refine wk_iconst (pc := 45) (v := (1 : Int32)) dX8_passHour_45 (by decide) ?_
        refine wk_iadd (pc := 46) dX8_passHour_46 ?_
        refine wk_putI (C := RX3) (T := TX3) (N := 7) (ty := .int) (pc := 47) dX8_passHour_47 (sX3_0 hG hp1).2 (sX3_0 hG hp1).1 rfl qU_X3 tyX3 tyX3_ok nmX3 1 (by decide) qF_X8_204 rfl rfl rfl rfl rfl ?_
        obtain ⟨s47, hs47, hf⟩ := xlet_some hf
        refine wk_sig hs47 ?_
        exact wk_vret (pc := 50) dX8_passHour_50 rfl (xU_of hf)
      · refine wk_aload_n (pc := 10) dX8_passHour_10 rfl 1 rfl ?_
        refine wk_getR (C := RX3) (T := TX3) (N := 7) (pc := 11) dX8_passHour_11 (sX3_0 hG hp1).2 (sX3_0 hG hp1).1 rfl qU_X3 6 (by decide) qF_X8_146 rfl ?_
        refine wk_iload_n (pc := 14) dX8_passHour_14 rfl 2 rfl ?_
        obtain ⟨h15, hf⟩ := xif_some hf
        refine wk_iald (pc := 15) (jj := a2_2.toNatClampNeg) dX8_passHour_15 (sX3_5 hG hp1).2 (sX3_5 hG hp1).1 h15 rfl ?_
        refine wk_if_ne (pc := 16) (tgt := 34) dX8_passHour_16 rfl hf (fun hf => ?_) (fun hf => ?_)
        · exact wk_lv [0, 1, 2] rfl (J34    s2 hf)
        · refine wk_aload_n (pc := 19) dX8_passHour_19 rfl 1 rfl ?_
          refine wk_getR (C := RX3) (T := TX3) (N := 7) (pc := 20) dX8_passHour_20 (sX3_0 hG hp1).2 (sX3_0 hG hp1).1 rfl qU_X3 5 (by decide) qF_X8_143 rfl ?_
          refine wk_iload_n (pc := 23) dX8_passHour_23 rfl 2 rfl ?_
          obtain ⟨h24, hf⟩ := xif_some hf
          refine wk_iald (pc := 24) (jj := a2_2.toNatClampNeg) dX8_passHour_24 (sX3_4 hG hp1).2 (sX3_4 hG hp1).1 h24 rfl ?_
          refine wk_if_le (pc := 25) (tgt := 34) dX8_passHour_25 rfl hf (fun hf => ?_) (fun hf => ?_)
          · exact wk_lv [0, 1, 2] rfl (J34    s2 hf)
          · refine wk_aload_n (pc := 28) dX8_passHour_28 rfl 0 rfl ?_
            refine wk_aload_n (pc := 29) dX8_passHour_29 rfl 1 rfl ?_
            refine wk_iload_n (pc := 30) dX8_passHour_30 rfl 2 rfl ?_
            obtain ⟨⟨⟩, s31, hc31, hf⟩ := xbind_some hf
            refine wk_callVU (pc := 31) (As := [.ref (gA G p1), .int a2_2]) (rest := []) (kX8_sail l hG hp1 hc31) cw_X8_218 (by decide) dX8_passHour_31 (nc_0 hG).2 (nc_0 hG).1 rfl rfl rfl (Nat.le_of_ble_eq_true rfl) ?_
            exact wk_lv [0, 1, 2] rfl (J34    s31 hf)
  refine wk_iconst (pc := 0) (v := (0 : Int32)) dX8_passHour_0 (by decide) ?_
  refine wk_istore_n (pc := 1) (lv' := [(2, .int (0 : Int32)), (0, .ref (gA G 0)), (1, .ref (gA G p1))]) dX8_passHour_1 rfl (by decide) rfl ?_
  exact wk_lv [1, 2, 0] rfl (J2  xF (0 : Int32)  s hf)
noncomputable def sX8_hours_L57 (p1 : Int32) (self57 : Int32 → xS → Option (Int32 × xS)) : Int32 → xS → Option (Int32 × xS) := fun a2_57 s57 => (if p1 ≤ a2_57 then xbind (sX3_countAt 21 (0 : Int32) s57) (fun r81 s81 => some (r81, s81)) else xbind (sX8_passHour 21 s57) (fun _ s67 => xlet (a2_57 + (1 : Int32)) (fun y70 => self57 y70 s67)))
noncomputable def sX8_hours (p1 : Int32) (s : xS) : Option (Int32 × xS) := xbind (sX8_within p1 (1 : Int32) (60 : Int32) s) (fun r4 s4 => (if r4 = 0 then xbind (sX8_refuse (1 : Int32) s4) (fun r12 s12 => some (r12, s12)) else (if (s4 21 1) ≤ ((9999 : Int32) - p1) then xbind (sX1_draw 1 (s4 1 2) s4) (fun _ s52 => xloop (sX8_hours_L57 p1) xF (0 : Int32) s52) else xbind (sX8_refuse (3 : Int32) s4) (fun r33 s33 => some (r33, s33)))))
set_option maxHeartbeats 4000000 in
set_option maxRecDepth 100000 in
theorem kX8_hours (l : Launch) {G : xG} (hG : xC1 G)  {p1 : Int32}  {s : xS} {r : Int32} {s' : xS} (hf : sX8_hours p1 s = some (r, s')) : xMet l G 7 yX8_hours cX8_hours 3 (some .int) [.ref (gA G 0), .int p1] s (xI r s') := by
  refine xMet.of (by decide) (Nat.le_of_ble_eq_true rfl) ?_
  show wk l G 7 RX8 cX8_hours 3 (some .int) (xI r s') 0 [(0, .ref (gA G 0)), (1, .int p1)] [] s
  unfold sX8_hours at hf
  have J57 : ∀   (N : Nat) (a2_57 : Int32)  (s57 : xS), xloop (sX8_hours_L57 p1) N a2_57 s57 = some (r, s') → wk l G 7 RX8 cX8_hours 3 (some .int) (xI r s') 57 [(0, .ref (gA G 0)), (1, .int p1), (2, .int a2_57)] [] s57 := by
    intro N
    induction N with
    | zero => intro a2_57 s57 hf; exact (xloop_0 hf).elim
    | succ N ih57 =>
      intro a2_57 s57 hf
      rw [xloop_s] at hf
      generalize xloop (sX8_hours_L57 p1) N = self57 at hf ih57
      unfold sX8_hours_L57 at hf
      refine wk_iload_n (pc := 57) dX8_hours_57 rfl 2 rfl ?_
      refine wk_iload_n (pc := 58) dX8_hours_58 rfl 1 rfl ?_
      refine wk_icmp_ge (pc := 59) (tgt := 76) dX8_hours_59 rfl hf (fun hf => ?_) (fun hf => ?_)
      · refine wk_aload_n (pc := 76) dX8_hours_76 rfl 0 rfl ?_
        refine wk_getR (C := RX8) (T := TX8) (N := 13) (pc := 77) dX8_hours_77 (nc_0 hG).2 (nc_0 hG).1 rfl qU_X8 1 (by decide) qF_X8_19 rfl ?_
        refine wk_iconst (pc := 80) (v := (0 : Int32)) dX8_hours_80 (by decide) ?_
        obtain ⟨r81, s81, hc81, hf⟩ := xbind_some hf
        refine wk_callVI (pc := 81) (As := [.int (0 : Int32)]) (rest := []) (kX3_countAt l hG (by decide) hc81) cw_X8_211 (by decide) dX8_hours_81 (nc_21 hG).2 (nc_21 hG).1 rfl rfl rfl (Nat.le_of_ble_eq_true rfl) ?_
        exact wk_iret (pc := 84) dX8_hours_84 rfl (xI_of hf)
      · refine wk_aload_n (pc := 62) dX8_hours_62 rfl 0 rfl ?_
        refine wk_aload_n (pc := 63) dX8_hours_63 rfl 0 rfl ?_
        refine wk_getR (C := RX8) (T := TX8) (N := 13) (pc := 64) dX8_hours_64 (nc_0 hG).2 (nc_0 hG).1 rfl qU_X8 1 (by decide) qF_X8_19 rfl ?_
        obtain ⟨⟨⟩, s67, hc67, hf⟩ := xbind_some hf
        refine wk_callVU (pc := 67) (As := [.ref (gA G 21)]) (rest := []) (kX8_passHour l hG (by decide) hc67) cw_X8_207 (by decide) dX8_hours_67 (nc_0 hG).2 (nc_0 hG).1 rfl rfl rfl (Nat.le_of_ble_eq_true rfl) ?_
        obtain ⟨y70, hy70, hf⟩ := xlet_some hf
        refine wk_iinc (pc := 70) (v := y70) (lv' := [(2, .int y70), (0, .ref (gA G 0)), (1, .int p1)]) dX8_hours_70 2 rfl (by rw [hy70] <;> rfl) (by decide) rfl ?_
        refine wk_goto (pc := 73) (tgt := 57) dX8_hours_73 rfl ?_
        exact wk_lv [1, 2, 0] rfl (ih57 y70  s67 hf)
  refine wk_iload_n (pc := 0) dX8_hours_0 rfl 1 rfl ?_
  refine wk_iconst (pc := 1) (v := (1 : Int32)) dX8_hours_1 (by decide) ?_
  refine wk_bipush (pc := 2) (v := (60 : Int32)) dX8_hours_2 (by decide) ?_
  obtain ⟨r4, s4, hc4, hf⟩ := xbind_some hf
  refine wk_callSI (pc := 4) (As := [.int p1, .int (1 : Int32), .int (60 : Int32)]) (rest := []) (kX8_within l hG  hc4) cw_X8_82 (by decide) dX8_hours_4 rfl (Nat.le_of_ble_eq_true rfl) ?_
  refine wk_if_ne (pc := 7) (tgt := 16) dX8_hours_7 rfl hf (fun hf => ?_) (fun hf => ?_)
  · refine wk_aload_n (pc := 16) dX8_hours_16 rfl 0 rfl ?_
    refine wk_getR (C := RX8) (T := TX8) (N := 13) (pc := 17) dX8_hours_17 (nc_0 hG).2 (nc_0 hG).1 rfl qU_X8 1 (by decide) qF_X8_19 rfl ?_
    refine wk_getI (C := RX3) (T := TX3) (N := 7) (pc := 20) dX8_hours_20 (nc_21 hG).2 (nc_21 hG).1 rfl qU_X3 1 (by decide) qF_X8_204 rfl ?_
    refine wk_sipush (pc := 23) (v := (9999 : Int32)) dX8_hours_23 (by decide) ?_
    refine wk_iload_n (pc := 26) dX8_hours_26 rfl 1 rfl ?_
    refine wk_isub (pc := 27) dX8_hours_27 ?_
    refine wk_icmp_le (pc := 28) (tgt := 37) dX8_hours_28 rfl hf (fun hf => ?_) (fun hf => ?_)
    · refine wk_aload_n (pc := 37) dX8_hours_37 rfl 0 rfl ?_
      refine wk_getR (C := RX8) (T := TX8) (N := 13) (pc := 38) dX8_hours_38 (nc_0 hG).2 (nc_0 hG).1 rfl qU_X8 8 (by decide) qF_X8_49 rfl ?_
      refine wk_aload_n (pc := 41) dX8_hours_41 rfl 0 rfl ?_
      refine wk_getR (C := RX8) (T := TX8) (N := 13) (pc := 42) dX8_hours_42 (nc_0 hG).2 (nc_0 hG).1 rfl qU_X8 0 (by decide) qF_X8_10 rfl ?_
      refine wk_aload_n (pc := 45) dX8_hours_45 rfl 0 rfl ?_
      refine wk_getR (C := RX8) (T := TX8) (N := 13) (pc := 46) dX8_hours_46 (nc_0 hG).2 (nc_0 hG).1 rfl qU_X8 0 (by decide) qF_X8_10 rfl ?_
      refine wk_getI (C := RX0) (T := TX0) (N := 9) (pc := 49) dX8_hours_49 (nc_1 hG).2 (nc_1 hG).1 rfl qU_X0 2 (by decide) qF_X8_116 rfl ?_
      obtain ⟨⟨⟩, s52, hc52, hf⟩ := xbind_some hf
      refine wk_callVU (pc := 52) (As := [.ref (gA G 1), .int (s4 1 2)]) (rest := []) (kX1_draw l hG (by decide) hc52) cw_X8_155 (by decide) dX8_hours_52 (nc_45 hG).2 (nc_45 hG).1 rfl rfl rfl (Nat.le_of_ble_eq_true rfl) ?_
      refine wk_iconst (pc := 55) (v := (0 : Int32)) dX8_hours_55 (by decide) ?_
      refine wk_istore_n (pc := 56) (lv' := [(2, .int (0 : Int32)), (0, .ref (gA G 0)), (1, .int p1)]) dX8_hours_56 rfl (by decide) rfl ?_
      exact wk_lv [1, 2, 0] rfl (J57  xF (0 : Int32)  s52 hf)
    · refine wk_aload_n (pc := 31) dX8_hours_31 rfl 0 rfl ?_
      refine wk_iconst (pc := 32) (v := (3 : Int32)) dX8_hours_32 (by decide) ?_
      obtain ⟨r33, s33, hc33, hf⟩ := xbind_some hf
      refine wk_callVI (pc := 33) (As := [.int (3 : Int32)]) (rest := []) (kX8_refuse l hG  hc33) cw_X8_86 (by decide) dX8_hours_33 (nc_0 hG).2 (nc_0 hG).1 rfl rfl rfl (Nat.le_of_ble_eq_true rfl) ?_
      exact wk_iret (pc := 36) dX8_hours_36 rfl (xI_of hf)
  · refine wk_aload_n (pc := 10) dX8_hours_10 rfl 0 rfl ?_
    refine wk_iconst (pc := 11) (v := (1 : Int32)) dX8_hours_11 (by decide) ?_
    obtain ⟨r12, s12, hc12, hf⟩ := xbind_some hf
    refine wk_callVI (pc := 12) (As := [.int (1 : Int32)]) (rest := []) (kX8_refuse l hG  hc12) cw_X8_86 (by decide) dX8_hours_12 (nc_0 hG).2 (nc_0 hG).1 rfl rfl rfl (Nat.le_of_ble_eq_true rfl) ?_
    exact wk_iret (pc := 15) dX8_hours_15 rfl (xI_of hf)
noncomputable def sX8_loose_L39 (p1 : Int32) (self39 : Int32 → xS → Option (Int32 × xS)) : Int32 → xS → Option (Int32 × xS) := fun a2_39 s39 => (if p1 ≤ a2_39 then xbind (sX3_countAt 21 (0 : Int32) s39) (fun r98 s98 => some (r98, s98)) else xbind (sX2_nextDraw 39 s39) (fun r52 s52 => xlet (xup s52 1 (upd (s52 1) 2 (r52 - r52 / (100 : Int32) * (100 : Int32)))) (fun s58 => xbind (sX1_draw 1 (s58 1 2) s58) (fun _ s76 => xbind (sX8_passHour 21 s76) (fun _ s84 => xlet (a2_39 + (1 : Int32)) (fun y87 => self39 y87 s84))))))
noncomputable def sX8_loose (p1 : Int32) (s : xS) : Option (Int32 × xS) := xbind (sX8_within p1 (1 : Int32) (40 : Int32) s) (fun r4 s4 => (if r4 = 0 then xbind (sX8_refuse (1 : Int32) s4) (fun r12 s12 => some (r12, s12)) else (if (s4 21 1) ≤ ((9999 : Int32) - p1) then xloop (sX8_loose_L39 p1) xF (0 : Int32) s4 else xbind (sX8_refuse (3 : Int32) s4) (fun r33 s33 => some (r33, s33)))))
set_option maxHeartbeats 4000000 in
set_option maxRecDepth 100000 in
theorem kX8_loose (l : Launch) {G : xG} (hG : xC1 G)  {p1 : Int32}  {s : xS} {r : Int32} {s' : xS} (hf : sX8_loose p1 s = some (r, s')) : xMet l G 7 yX8_loose cX8_loose 3 (some .int) [.ref (gA G 0), .int p1] s (xI r s') := by
  refine xMet.of (by decide) (Nat.le_of_ble_eq_true rfl) ?_
  show wk l G 7 RX8 cX8_loose 3 (some .int) (xI r s') 0 [(0, .ref (gA G 0)), (1, .int p1)] [] s
  unfold sX8_loose at hf
  have J39 : ∀   (N : Nat) (a2_39 : Int32)  (s39 : xS), xloop (sX8_loose_L39 p1) N a2_39 s39 = some (r, s') → wk l G 7 RX8 cX8_loose 3 (some .int) (xI r s') 39 [(0, .ref (gA G 0)), (1, .int p1), (2, .int a2_39)] [] s39 := by
    intro N
    induction N with
    | zero => intro a2_39 s39 hf; exact (xloop_0 hf).elim
    | succ N ih39 =>
      intro a2_39 s39 hf
      rw [xloop_s] at hf
      generalize xloop (sX8_loose_L39 p1) N = self39 at hf ih39
      unfold sX8_loose_L39 at hf
      refine wk_iload_n (pc := 39) dX8_loose_39 rfl 2 rfl ?_
      refine wk_iload_n (pc := 40) dX8_loose_40 rfl 1 rfl ?_
      refine wk_icmp_ge (pc := 41) (tgt := 93) dX8_loose_41 rfl hf (fun hf => ?_) (fun hf => ?_)
      · refine wk_aload_n (pc := 93) dX8_loose_93 rfl 0 rfl ?_
        refine wk_getR (C := RX8) (T := TX8) (N := 13) (pc := 94) dX8_loose_94 (nc_0 hG).2 (nc_0 hG).1 rfl qU_X8 1 (by decide) qF_X8_19 rfl ?_
        refine wk_iconst (pc := 97) (v := (0 : Int32)) dX8_loose_97 (by decide) ?_
        obtain ⟨r98, s98, hc98, hf⟩ := xbind_some hf
        refine wk_callVI (pc := 98) (As := [.int (0 : Int32)]) (rest := []) (kX3_countAt l hG (by decide) hc98) cw_X8_211 (by decide) dX8_loose_98 (nc_21 hG).2 (nc_21 hG).1 rfl rfl rfl (Nat.le_of_ble_eq_true rfl) ?_
        exact wk_iret (pc := 101) dX8_loose_101 rfl (xI_of hf)
      · refine wk_aload_n (pc := 44) dX8_loose_44 rfl 0 rfl ?_
        refine wk_getR (C := RX8) (T := TX8) (N := 13) (pc := 45) dX8_loose_45 (nc_0 hG).2 (nc_0 hG).1 rfl qU_X8 0 (by decide) qF_X8_10 rfl ?_
        refine wk_aload_n (pc := 48) dX8_loose_48 rfl 0 rfl ?_
        refine wk_getR (C := RX8) (T := TX8) (N := 13) (pc := 49) dX8_loose_49 (nc_0 hG).2 (nc_0 hG).1 rfl qU_X8 2 (by decide) qF_X8_26 rfl ?_
        obtain ⟨r52, s52, hc52, hf⟩ := xbind_some hf
        refine wk_callVI (pc := 52) (As := []) (rest := [.ref (gA G 1)]) (kX2_nextDraw l hG (by decide) hc52) cw_X8_214 (by decide) dX8_loose_52 (nc_39 hG).2 (nc_39 hG).1 rfl rfl rfl (Nat.le_of_ble_eq_true rfl) ?_
        refine wk_bipush (pc := 55) (v := (100 : Int32)) dX8_loose_55 (by decide) ?_
        refine wk_irem (pc := 57) dX8_loose_57 (by decide) ?_
        refine wk_putI (C := RX0) (T := TX0) (N := 9) (ty := .int) (pc := 58) dX8_loose_58 (nc_1 hG).2 (nc_1 hG).1 rfl qU_X0 tyX0 tyX0_ok nmX0 2 (by decide) qF_X8_116 rfl rfl rfl rfl rfl ?_
        obtain ⟨s58, hs58, hf⟩ := xlet_some hf
        refine wk_sig hs58 ?_
        refine wk_aload_n (pc := 61) dX8_loose_61 rfl 0 rfl ?_
        refine wk_getR (C := RX8) (T := TX8) (N := 13) (pc := 62) dX8_loose_62 (nc_0 hG).2 (nc_0 hG).1 rfl qU_X8 8 (by decide) qF_X8_49 rfl ?_
        refine wk_aload_n (pc := 65) dX8_loose_65 rfl 0 rfl ?_
        refine wk_getR (C := RX8) (T := TX8) (N := 13) (pc := 66) dX8_loose_66 (nc_0 hG).2 (nc_0 hG).1 rfl qU_X8 0 (by decide) qF_X8_10 rfl ?_
        refine wk_aload_n (pc := 69) dX8_loose_69 rfl 0 rfl ?_
        refine wk_getR (C := RX8) (T := TX8) (N := 13) (pc := 70) dX8_loose_70 (nc_0 hG).2 (nc_0 hG).1 rfl qU_X8 0 (by decide) qF_X8_10 rfl ?_
        refine wk_getI (C := RX0) (T := TX0) (N := 9) (pc := 73) dX8_loose_73 (nc_1 hG).2 (nc_1 hG).1 rfl qU_X0 2 (by decide) qF_X8_116 rfl ?_
        obtain ⟨⟨⟩, s76, hc76, hf⟩ := xbind_some hf
        refine wk_callVU (pc := 76) (As := [.ref (gA G 1), .int (s58 1 2)]) (rest := []) (kX1_draw l hG (by decide) hc76) cw_X8_155 (by decide) dX8_loose_76 (nc_45 hG).2 (nc_45 hG).1 rfl rfl rfl (Nat.le_of_ble_eq_true rfl) ?_
        refine wk_aload_n (pc := 79) dX8_loose_79 rfl 0 rfl ?_
        refine wk_aload_n (pc := 80) dX8_loose_80 rfl 0 rfl ?_
        refine wk_getR (C := RX8) (T := TX8) (N := 13) (pc := 81) dX8_loose_81 (nc_0 hG).2 (nc_0 hG).1 rfl qU_X8 1 (by decide) qF_X8_19 rfl ?_
        obtain ⟨⟨⟩, s84, hc84, hf⟩ := xbind_some hf
        refine wk_callVU (pc := 84) (As := [.ref (gA G 21)]) (rest := []) (kX8_passHour l hG (by decide) hc84) cw_X8_207 (by decide) dX8_loose_84 (nc_0 hG).2 (nc_0 hG).1 rfl rfl rfl (Nat.le_of_ble_eq_true rfl) ?_
        obtain ⟨y87, hy87, hf⟩ := xlet_some hf
        refine wk_iinc (pc := 87) (v := y87) (lv' := [(2, .int y87), (0, .ref (gA G 0)), (1, .int p1)]) dX8_loose_87 2 rfl (by rw [hy87] <;> rfl) (by decide) rfl ?_
        refine wk_goto (pc := 90) (tgt := 39) dX8_loose_90 rfl ?_
        exact wk_lv [1, 2, 0] rfl (ih39 y87  s84 hf)
  refine wk_iload_n (pc := 0) dX8_loose_0 rfl 1 rfl ?_
  refine wk_iconst (pc := 1) (v := (1 : Int32)) dX8_loose_1 (by decide) ?_
  refine wk_bipush (pc := 2) (v := (40 : Int32)) dX8_loose_2 (by decide) ?_
  obtain ⟨r4, s4, hc4, hf⟩ := xbind_some hf
  refine wk_callSI (pc := 4) (As := [.int p1, .int (1 : Int32), .int (40 : Int32)]) (rest := []) (kX8_within l hG  hc4) cw_X8_82 (by decide) dX8_loose_4 rfl (Nat.le_of_ble_eq_true rfl) ?_
  refine wk_if_ne (pc := 7) (tgt := 16) dX8_loose_7 rfl hf (fun hf => ?_) (fun hf => ?_)
  · refine wk_aload_n (pc := 16) dX8_loose_16 rfl 0 rfl ?_
    refine wk_getR (C := RX8) (T := TX8) (N := 13) (pc := 17) dX8_loose_17 (nc_0 hG).2 (nc_0 hG).1 rfl qU_X8 1 (by decide) qF_X8_19 rfl ?_
    refine wk_getI (C := RX3) (T := TX3) (N := 7) (pc := 20) dX8_loose_20 (nc_21 hG).2 (nc_21 hG).1 rfl qU_X3 1 (by decide) qF_X8_204 rfl ?_
    refine wk_sipush (pc := 23) (v := (9999 : Int32)) dX8_loose_23 (by decide) ?_
    refine wk_iload_n (pc := 26) dX8_loose_26 rfl 1 rfl ?_
    refine wk_isub (pc := 27) dX8_loose_27 ?_
    refine wk_icmp_le (pc := 28) (tgt := 37) dX8_loose_28 rfl hf (fun hf => ?_) (fun hf => ?_)
    · refine wk_iconst (pc := 37) (v := (0 : Int32)) dX8_loose_37 (by decide) ?_
      refine wk_istore_n (pc := 38) (lv' := [(2, .int (0 : Int32)), (0, .ref (gA G 0)), (1, .int p1)]) dX8_loose_38 rfl (by decide) rfl ?_
      exact wk_lv [1, 2, 0] rfl (J39  xF (0 : Int32)  s4 hf)
    · refine wk_aload_n (pc := 31) dX8_loose_31 rfl 0 rfl ?_
      refine wk_iconst (pc := 32) (v := (3 : Int32)) dX8_loose_32 (by decide) ?_
      obtain ⟨r33, s33, hc33, hf⟩ := xbind_some hf
      refine wk_callVI (pc := 33) (As := [.int (3 : Int32)]) (rest := []) (kX8_refuse l hG  hc33) cw_X8_86 (by decide) dX8_loose_33 (nc_0 hG).2 (nc_0 hG).1 rfl rfl rfl (Nat.le_of_ble_eq_true rfl) ?_
      exact wk_iret (pc := 36) dX8_loose_36 rfl (xI_of hf)
  · refine wk_aload_n (pc := 10) dX8_loose_10 rfl 0 rfl ?_
    refine wk_iconst (pc := 11) (v := (1 : Int32)) dX8_loose_11 (by decide) ?_
    obtain ⟨r12, s12, hc12, hf⟩ := xbind_some hf
    refine wk_callVI (pc := 12) (As := [.int (1 : Int32)]) (rest := []) (kX8_refuse l hG  hc12) cw_X8_86 (by decide) dX8_loose_12 (nc_0 hG).2 (nc_0 hG).1 rfl rfl rfl (Nat.le_of_ble_eq_true rfl) ?_
    exact wk_iret (pc := 15) dX8_loose_15 rfl (xI_of hf)
noncomputable def sX8_depth_L20   (s20 : xS) : Option (Int32 × xS) := xbind (sX8_refuse (1 : Int32) s20) (fun r22 s22 => some (r22, s22))
noncomputable def sX8_depth (p1 : Int32) (p2 : Int32) (s : xS) : Option (Int32 × xS) := xbind (sX8_isCell p1 s) (fun r2 s2 => (if r2 = 0 then sX8_depth_L20  s2 else xbind (sX8_within p2 (-99 : Int32) (999 : Int32) s2) (fun r14 s14 => (if r14 = 0 then sX8_depth_L20  s14 else xbind (sX0_depthIn 1 p1 p2 s14) (fun r32 s32 => some (r32, s32))))))
set_option maxHeartbeats 4000000 in
set_option maxRecDepth 100000 in
theorem kX8_depth (l : Launch) {G : xG} (hG : xC1 G)  {p1 : Int32} {p2 : Int32}  {s : xS} {r : Int32} {s' : xS} (hf : sX8_depth p1 p2 s = some (r, s')) : xMet l G 6 yX8_depth cX8_depth 3 (some .int) [.ref (gA G 0), .int p1, .int p2] s (xI r s') := by
  refine xMet.of (by decide) (Nat.le_of_ble_eq_true rfl) ?_
  show wk l G 6 RX8 cX8_depth 3 (some .int) (xI r s') 0 [(0, .ref (gA G 0)), (1, .int p1), (2, .int p2)] [] s
  unfold sX8_depth at hf
  have J20 : ∀     (s20 : xS), sX8_depth_L20  s20 = some (r, s') → wk l G 6 RX8 cX8_depth 3 (some .int) (xI r s') 20 [(0, .ref (gA G 0))] [] s20 := by
    intro s20 hf
    unfold sX8_depth_L20 at hf
    refine wk_aload_n (pc := 20) dX8_depth_20 rfl 0 rfl ?_
    refine wk_iconst (pc := 21) (v := (1 : Int32)) dX8_depth_21 (by decide) ?_
    obtain ⟨r22, s22, hc22, hf⟩ := xbind_some hf
    refine wk_callVI (pc := 22) (As := [.int (1 : Int32)]) (rest := []) (kX8_refuse l hG  hc22) cw_X8_86 (by decide) dX8_depth_22 (nc_0 hG).2 (nc_0 hG).1 rfl rfl rfl (Nat.le_of_ble_eq_true rfl) ?_
    exact wk_iret (pc := 25) dX8_depth_25 rfl (xI_of hf)
  refine wk_aload_n (pc := 0) dX8_depth_0 rfl 0 rfl ?_
  refine wk_iload_n (pc := 1) dX8_depth_1 rfl 1 rfl ?_
  obtain ⟨r2, s2, hc2, hf⟩ := xbind_some hf
  refine wk_callVI (pc := 2) (As := [.int p1]) (rest := []) (kX8_isCell l hG  hc2) cw_X8_96 (by decide) dX8_depth_2 (nc_0 hG).2 (nc_0 hG).1 rfl rfl rfl (Nat.le_of_ble_eq_true rfl) ?_
  refine wk_if_eq (pc := 5) (tgt := 20) dX8_depth_5 rfl hf (fun hf => ?_) (fun hf => ?_)
  · exact wk_lv [0] rfl (J20    s2 hf)
  · refine wk_iload_n (pc := 8) dX8_depth_8 rfl 2 rfl ?_
    refine wk_bipush (pc := 9) (v := (-99 : Int32)) dX8_depth_9 (by decide) ?_
    refine wk_sipush (pc := 11) (v := (999 : Int32)) dX8_depth_11 (by decide) ?_
    obtain ⟨r14, s14, hc14, hf⟩ := xbind_some hf
    refine wk_callSI (pc := 14) (As := [.int p2, .int (-99 : Int32), .int (999 : Int32)]) (rest := []) (kX8_within l hG  hc14) cw_X8_82 (by decide) dX8_depth_14 rfl (Nat.le_of_ble_eq_true rfl) ?_
    refine wk_if_ne (pc := 17) (tgt := 26) dX8_depth_17 rfl hf (fun hf => ?_) (fun hf => ?_)
    · refine wk_aload_n (pc := 26) dX8_depth_26 rfl 0 rfl ?_
      refine wk_getR (C := RX8) (T := TX8) (N := 13) (pc := 27) dX8_depth_27 (nc_0 hG).2 (nc_0 hG).1 rfl qU_X8 0 (by decide) qF_X8_10 rfl ?_
      refine wk_iload_n (pc := 30) dX8_depth_30 rfl 1 rfl ?_
      refine wk_iload_n (pc := 31) dX8_depth_31 rfl 2 rfl ?_
      obtain ⟨r32, s32, hc32, hf⟩ := xbind_some hf
      refine wk_callVI (pc := 32) (As := [.int p1, .int p2]) (rest := []) (kX0_depthIn l hG (by decide) hc32) cw_X8_112 (by decide) dX8_depth_32 (nc_1 hG).2 (nc_1 hG).1 rfl rfl rfl (Nat.le_of_ble_eq_true rfl) ?_
      exact wk_iret (pc := 35) dX8_depth_35 rfl (xI_of hf)
    · exact wk_lv [0] rfl (J20    s14 hf)
noncomputable def sX8_think_L13 (p1 : Int32) (self13 : Int32 → xS → Option (Unit × xS)) : Int32 → xS → Option (Unit × xS) := fun a2_13 s13 => (if p1 ≤ a2_13 then some ((), s13) else xbind (sX8_passHour 33 s13) (fun _ s23 => xlet (a2_13 + (1 : Int32)) (fun y26 => self13 y26 s23)))
noncomputable def sX8_think (p1 : Int32) (s : xS) : Option (Unit × xS) := xbind (sX3_copyFrom 33 21 s) (fun _ s8 => xloop (sX8_think_L13 p1) xF (0 : Int32) s8)
set_option maxHeartbeats 4000000 in
set_option maxRecDepth 100000 in
theorem kX8_think (l : Launch) {G : xG} (hG : xC1 G)  {p1 : Int32}  {s : xS} {s' : xS} (hf : sX8_think p1 s = some ((), s')) : xMet l G 7 yX8_think cX8_think 3 none [.ref (gA G 0), .int p1] s (xU s') := by
  refine xMet.of (by decide) (Nat.le_of_ble_eq_true rfl) ?_
  show wk l G 7 RX8 cX8_think 3 none (xU s') 0 [(0, .ref (gA G 0)), (1, .int p1)] [] s
  unfold sX8_think at hf
  have J13 : ∀   (N : Nat) (a2_13 : Int32)  (s13 : xS), xloop (sX8_think_L13 p1) N a2_13 s13 = some ((), s') → wk l G 7 RX8 cX8_think 3 none (xU s') 13 [(0, .ref (gA G 0)), (1, .int p1), (2, .int a2_13)] [] s13 := by
    intro N
    induction N with
    | zero => intro a2_13 s13 hf; exact (xloop_0 hf).elim
    | succ N ih13 =>
      intro a2_13 s13 hf
      rw [xloop_s] at hf
      generalize xloop (sX8_think_L13 p1) N = self13 at hf ih13
      unfold sX8_think_L13 at hf
      refine wk_iload_n (pc := 13) dX8_think_13 rfl 2 rfl ?_
      refine wk_iload_n (pc := 14) dX8_think_14 rfl 1 rfl ?_
      refine wk_icmp_ge (pc := 15) (tgt := 32) dX8_think_15 rfl hf (fun hf => ?_) (fun hf => ?_)
      · exact wk_vret (pc := 32) dX8_think_32 rfl (xU_of hf)
      · refine wk_aload_n (pc := 18) dX8_think_18 rfl 0 rfl ?_
        refine wk_aload_n (pc := 19) dX8_think_19 rfl 0 rfl ?_
        refine wk_getR (C := RX8) (T := TX8) (N := 13) (pc := 20) dX8_think_20 (nc_0 hG).2 (nc_0 hG).1 rfl qU_X8 7 (by decide) qF_X8_43 rfl ?_
        obtain ⟨⟨⟩, s23, hc23, hf⟩ := xbind_some hf
        refine wk_callVU (pc := 23) (As := [.ref (gA G 33)]) (rest := []) (kX8_passHour l hG (by decide) hc23) cw_X8_207 (by decide) dX8_think_23 (nc_0 hG).2 (nc_0 hG).1 rfl rfl rfl (Nat.le_of_ble_eq_true rfl) ?_
        obtain ⟨y26, hy26, hf⟩ := xlet_some hf
        refine wk_iinc (pc := 26) (v := y26) (lv' := [(2, .int y26), (0, .ref (gA G 0)), (1, .int p1)]) dX8_think_26 2 rfl (by rw [hy26] <;> rfl) (by decide) rfl ?_
        refine wk_goto (pc := 29) (tgt := 13) dX8_think_29 rfl ?_
        exact wk_lv [1, 2, 0] rfl (ih13 y26  s23 hf)
  refine wk_aload_n (pc := 0) dX8_think_0 rfl 0 rfl ?_
  refine wk_getR (C := RX8) (T := TX8) (N := 13) (pc := 1) dX8_think_1 (nc_0 hG).2 (nc_0 hG).1 rfl qU_X8 7 (by decide) qF_X8_43 rfl ?_
  refine wk_aload_n (pc := 4) dX8_think_4 rfl 0 rfl ?_
  refine wk_getR (C := RX8) (T := TX8) (N := 13) (pc := 5) dX8_think_5 (nc_0 hG).2 (nc_0 hG).1 rfl qU_X8 1 (by decide) qF_X8_19 rfl ?_
  obtain ⟨⟨⟩, s8, hc8, hf⟩ := xbind_some hf
  refine wk_callVU (pc := 8) (As := [.ref (gA G 21)]) (rest := []) (kX3_copyFrom l hG (by decide) (by decide) hc8) cw_X8_228 (by decide) dX8_think_8 (nc_33 hG).2 (nc_33 hG).1 rfl rfl rfl (Nat.le_of_ble_eq_true rfl) ?_
  refine wk_iconst (pc := 11) (v := (0 : Int32)) dX8_think_11 (by decide) ?_
  refine wk_istore_n (pc := 12) (lv' := [(2, .int (0 : Int32)), (0, .ref (gA G 0)), (1, .int p1)]) dX8_think_12 rfl (by decide) rfl ?_
  exact wk_lv [1, 2, 0] rfl (J13  xF (0 : Int32)  s8 hf)
noncomputable def sX8_then_L27   (s27 : xS) : Option (Int32 × xS) := xbind (sX8_refuse (1 : Int32) s27) (fun r29 s29 => some (r29, s29))
noncomputable def sX8_then (p1 : Int32) (p2 : Int32) (p3 : Int32) (s : xS) : Option (Int32 × xS) := xbind (sX8_within p1 (0 : Int32) (60 : Int32) s) (fun r4 s4 => (if r4 = 0 then sX8_then_L27  s4 else xbind (sX8_isShip p2 s4) (fun r12 s12 => (if r12 = 0 then sX8_then_L27  s12 else xbind (sX8_within p3 (0 : Int32) (1 : Int32) s12) (fun r21 s21 => (if r21 = 0 then sX8_then_L27  s21 else xbind (sX1_draw 1 (s21 1 2) s21) (fun _ s48 => xbind (sX8_think p1 s48) (fun _ s53 => (if p3 = 0 then (if xin p2 7 then some ((s53 37 p2.toNatClampNeg), s53) else none) else (if xin p2 7 then some ((s53 38 p2.toNatClampNeg), s53) else none))))))))))
set_option maxHeartbeats 4000000 in
set_option maxRecDepth 100000 in
theorem kX8_then (l : Launch) {G : xG} (hG : xC1 G)  {p1 : Int32} {p2 : Int32} {p3 : Int32}  {s : xS} {r : Int32} {s' : xS} (hf : sX8_then p1 p2 p3 s = some (r, s')) : xMet l G 8 yX8_then cX8_then 4 (some .int) [.ref (gA G 0), .int p1, .int p2, .int p3] s (xI r s') := by
  refine xMet.of (by decide) (Nat.le_of_ble_eq_true rfl) ?_
  show wk l G 8 RX8 cX8_then 4 (some .int) (xI r s') 0 [(0, .ref (gA G 0)), (1, .int p1), (2, .int p2), (3, .int p3)] [] s
  unfold sX8_then at hf
  have J27 : ∀     (s27 : xS), sX8_then_L27  s27 = some (r, s') → wk l G 8 RX8 cX8_then 4 (some .int) (xI r s') 27 [(0, .ref (gA G 0))] [] s27 := by
    intro s27 hf
    unfold sX8_then_L27 at hf
    refine wk_aload_n (pc := 27) dX8_then_27 rfl 0 rfl ?_
    refine wk_iconst (pc := 28) (v := (1 : Int32)) dX8_then_28 (by decide) ?_
    obtain ⟨r29, s29, hc29, hf⟩ := xbind_some hf
    refine wk_callVI (pc := 29) (As := [.int (1 : Int32)]) (rest := []) (kX8_refuse l hG  hc29) cw_X8_86 (by decide) dX8_then_29 (nc_0 hG).2 (nc_0 hG).1 rfl rfl rfl (Nat.le_of_ble_eq_true rfl) ?_
    exact wk_iret (pc := 32) dX8_then_32 rfl (xI_of hf)
  refine wk_iload_n (pc := 0) dX8_then_0 rfl 1 rfl ?_
  refine wk_iconst (pc := 1) (v := (0 : Int32)) dX8_then_1 (by decide) ?_
  refine wk_bipush (pc := 2) (v := (60 : Int32)) dX8_then_2 (by decide) ?_
  obtain ⟨r4, s4, hc4, hf⟩ := xbind_some hf
  refine wk_callSI (pc := 4) (As := [.int p1, .int (0 : Int32), .int (60 : Int32)]) (rest := []) (kX8_within l hG  hc4) cw_X8_82 (by decide) dX8_then_4 rfl (Nat.le_of_ble_eq_true rfl) ?_
  refine wk_if_eq (pc := 7) (tgt := 27) dX8_then_7 rfl hf (fun hf => ?_) (fun hf => ?_)
  · exact wk_lv [0] rfl (J27    s4 hf)
  · refine wk_aload_n (pc := 10) dX8_then_10 rfl 0 rfl ?_
    refine wk_iload_n (pc := 11) dX8_then_11 rfl 2 rfl ?_
    obtain ⟨r12, s12, hc12, hf⟩ := xbind_some hf
    refine wk_callVI (pc := 12) (As := [.int p2]) (rest := []) (kX8_isShip l hG  hc12) cw_X8_149 (by decide) dX8_then_12 (nc_0 hG).2 (nc_0 hG).1 rfl rfl rfl (Nat.le_of_ble_eq_true rfl) ?_
    refine wk_if_eq (pc := 15) (tgt := 27) dX8_then_15 rfl hf (fun hf => ?_) (fun hf => ?_)
    · exact wk_lv [0] rfl (J27    s12 hf)
    · refine wk_iload_n (pc := 18) dX8_then_18 rfl 3 rfl ?_
      refine wk_iconst (pc := 19) (v := (0 : Int32)) dX8_then_19 (by decide) ?_
      refine wk_iconst (pc := 20) (v := (1 : Int32)) dX8_then_20 (by decide) ?_
      obtain ⟨r21, s21, hc21, hf⟩ := xbind_some hf
      refine wk_callSI (pc := 21) (As := [.int p3, .int (0 : Int32), .int (1 : Int32)]) (rest := []) (kX8_within l hG  hc21) cw_X8_82 (by decide) dX8_then_21 rfl (Nat.le_of_ble_eq_true rfl) ?_
      refine wk_if_ne (pc := 24) (tgt := 33) dX8_then_24 rfl hf (fun hf => ?_) (fun hf => ?_)
      · refine wk_aload_n (pc := 33) dX8_then_33 rfl 0 rfl ?_
        refine wk_getR (C := RX8) (T := TX8) (N := 13) (pc := 34) dX8_then_34 (nc_0 hG).2 (nc_0 hG).1 rfl qU_X8 8 (by decide) qF_X8_49 rfl ?_
        refine wk_aload_n (pc := 37) dX8_then_37 rfl 0 rfl ?_
        refine wk_getR (C := RX8) (T := TX8) (N := 13) (pc := 38) dX8_then_38 (nc_0 hG).2 (nc_0 hG).1 rfl qU_X8 0 (by decide) qF_X8_10 rfl ?_
        refine wk_aload_n (pc := 41) dX8_then_41 rfl 0 rfl ?_
        refine wk_getR (C := RX8) (T := TX8) (N := 13) (pc := 42) dX8_then_42 (nc_0 hG).2 (nc_0 hG).1 rfl qU_X8 0 (by decide) qF_X8_10 rfl ?_
        refine wk_getI (C := RX0) (T := TX0) (N := 9) (pc := 45) dX8_then_45 (nc_1 hG).2 (nc_1 hG).1 rfl qU_X0 2 (by decide) qF_X8_116 rfl ?_
        obtain ⟨⟨⟩, s48, hc48, hf⟩ := xbind_some hf
        refine wk_callVU (pc := 48) (As := [.ref (gA G 1), .int (s21 1 2)]) (rest := []) (kX1_draw l hG (by decide) hc48) cw_X8_155 (by decide) dX8_then_48 (nc_45 hG).2 (nc_45 hG).1 rfl rfl rfl (Nat.le_of_ble_eq_true rfl) ?_
        refine wk_aload_n (pc := 51) dX8_then_51 rfl 0 rfl ?_
        refine wk_iload_n (pc := 52) dX8_then_52 rfl 1 rfl ?_
        obtain ⟨⟨⟩, s53, hc53, hf⟩ := xbind_some hf
        refine wk_callVU (pc := 53) (As := [.int p1]) (rest := []) (kX8_think l hG  hc53) cw_X8_225 (by decide) dX8_then_53 (nc_0 hG).2 (nc_0 hG).1 rfl rfl rfl (Nat.le_of_ble_eq_true rfl) ?_
        refine wk_iload_n (pc := 56) dX8_then_56 rfl 3 rfl ?_
        refine wk_if_ne (pc := 57) (tgt := 72) dX8_then_57 rfl hf (fun hf => ?_) (fun hf => ?_)
        · refine wk_aload_n (pc := 72) dX8_then_72 rfl 0 rfl ?_
          refine wk_getR (C := RX8) (T := TX8) (N := 13) (pc := 73) dX8_then_73 (nc_0 hG).2 (nc_0 hG).1 rfl qU_X8 7 (by decide) qF_X8_43 rfl ?_
          refine wk_getR (C := RX3) (T := TX3) (N := 7) (pc := 76) dX8_then_76 (nc_33 hG).2 (nc_33 hG).1 rfl qU_X3 6 (by decide) qF_X8_146 rfl ?_
          refine wk_iload_n (pc := 79) dX8_then_79 rfl 2 rfl ?_
          obtain ⟨h80, hf⟩ := xif_some hf
          refine wk_iald (pc := 80) (jj := p2.toNatClampNeg) dX8_then_80 (nc_38 hG).2 (nc_38 hG).1 h80 rfl ?_
          exact wk_iret (pc := 81) dX8_then_81 rfl (xI_of hf)
        · refine wk_aload_n (pc := 60) dX8_then_60 rfl 0 rfl ?_
          refine wk_getR (C := RX8) (T := TX8) (N := 13) (pc := 61) dX8_then_61 (nc_0 hG).2 (nc_0 hG).1 rfl qU_X8 7 (by decide) qF_X8_43 rfl ?_
          refine wk_getR (C := RX3) (T := TX3) (N := 7) (pc := 64) dX8_then_64 (nc_33 hG).2 (nc_33 hG).1 rfl qU_X3 5 (by decide) qF_X8_143 rfl ?_
          refine wk_iload_n (pc := 67) dX8_then_67 rfl 2 rfl ?_
          obtain ⟨h68, hf⟩ := xif_some hf
          refine wk_iald (pc := 68) (jj := p2.toNatClampNeg) dX8_then_68 (nc_37 hG).2 (nc_37 hG).1 h68 rfl ?_
          refine wk_goto (pc := 69) (tgt := 81) dX8_then_69 rfl ?_
          exact wk_iret (pc := 81) dX8_then_81 rfl (xI_of hf)
      · exact wk_lv [0] rfl (J27    s21 hf)
