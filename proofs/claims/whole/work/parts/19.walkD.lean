noncomputable def sX8_leastNewlyLost_L39 (a2_12 : Int32) (self12 : Int32 × Int32 → xS → Option (Int32 × xS)) (a1_39 : Int32) (s39 : xS) : Option (Int32 × xS) := xlet (a2_12 + (-1 : Int32)) (fun y39 => self12 (a1_39, y39) s39)
noncomputable def sX8_leastNewlyLost_L12  (self12 : Int32 × Int32 → xS → Option (Int32 × xS)) : Int32 × Int32 → xS → Option (Int32 × xS) := fun (a1_12, a2_12) s12 => (if a2_12 < 0 then some (a1_12, s12) else (if xin a2_12 7 then (if xin a2_12 7 then (if (s12 38 a2_12.toNatClampNeg) ≤ (s12 26 a2_12.toNatClampNeg) then (sX8_leastNewlyLost_L39 a2_12 self12) a1_12 s12 else (sX8_leastNewlyLost_L39 a2_12 self12) a2_12 s12) else none) else none))
noncomputable def sX8_leastNewlyLost  (s : xS) : Option (Int32 × xS) := xlet (((s 21 0) - (1 : Int32))) (fun y11 => xloop sX8_leastNewlyLost_L12 xF ((0 : Int32), y11) s)
set_option maxHeartbeats 4000000 in
set_option maxRecDepth 100000 in
theorem kX8_leastNewlyLost (l : Launch) {G : xG} (hG : xC1 G)    {s : xS} {r : Int32} {s' : xS} (hf : sX8_leastNewlyLost  s = some (r, s')) : xMet l G 2 yX8_leastNewlyLost cX8_leastNewlyLost 3 (some .int) [.ref (gA G 0)] s (xI r s') := by
  refine xMet.of (by decide) (Nat.le_of_ble_eq_true rfl) ?_
  show wk l G 2 RX8 cX8_leastNewlyLost 3 (some .int) (xI r s') 0 [(0, .ref (gA G 0))] [] s
  unfold sX8_leastNewlyLost at hf
  have J12 : ∀   (N : Nat) (a1_12 : Int32) (a2_12 : Int32)  (s12 : xS), xloop sX8_leastNewlyLost_L12 N (a1_12, a2_12) s12 = some (r, s') → wk l G 2 RX8 cX8_leastNewlyLost 3 (some .int) (xI r s') 12 [(0, .ref (gA G 0)), (1, .int a1_12), (2, .int a2_12)] [] s12 := by
    intro N
    induction N with
    | zero => intro a1_12 a2_12 s12 hf; exact (xloop_0 hf).elim
    | succ N ih12 =>
      intro a1_12 a2_12 s12 hf
      rw [xloop_s] at hf
      generalize xloop sX8_leastNewlyLost_L12 N = self12 at hf ih12
      unfold sX8_leastNewlyLost_L12 at hf
      dsimp only at hf
      have J39 : ∀   (a1_39 : Int32)  (s39 : xS), (sX8_leastNewlyLost_L39 a2_12 self12) a1_39 s39 = some (r, s') → wk l G 2 RX8 cX8_leastNewlyLost 3 (some .int) (xI r s') 39 [(0, .ref (gA G 0)), (1, .int a1_39), (2, .int a2_12)] [] s39 := by
        intro a1_39 s39 hf
        unfold sX8_leastNewlyLost_L39 at hf
        obtain ⟨y39, hy39, hf⟩ := xlet_some hf
        refine wk_iinc (pc := 39) (v := y39) (lv' := [(2, .int y39), (0, .ref (gA G 0)), (1, .int a1_39)]) dX8_leastNewlyLost_39 2 rfl (by rw [hy39] <;> rfl) (by decide) rfl ?_
        refine wk_goto (pc := 42) (tgt := 12) dX8_leastNewlyLost_42 rfl ?_
        exact wk_lv [1, 2, 0] rfl (ih12 a1_39 y39  s39 hf)
      refine wk_iload_n (pc := 12) dX8_leastNewlyLost_12 rfl 2 rfl ?_
      refine wk_if_lt (pc := 13) (tgt := 45) dX8_leastNewlyLost_13 rfl hf (fun hf => ?_) (fun hf => ?_)
      · refine wk_iload_n (pc := 45) dX8_leastNewlyLost_45 rfl 1 rfl ?_
        exact wk_iret (pc := 46) dX8_leastNewlyLost_46 rfl (xI_of hf)
      · refine wk_aload_n (pc := 16) dX8_leastNewlyLost_16 rfl 0 rfl ?_
        refine wk_getR (C := RX8) (T := TX8) (N := 13) (pc := 17) dX8_leastNewlyLost_17 (nc_0 hG).2 (nc_0 hG).1 rfl qU_X8 7 (by decide) qF_X8_43 rfl ?_
        refine wk_getR (C := RX3) (T := TX3) (N := 7) (pc := 20) dX8_leastNewlyLost_20 (nc_33 hG).2 (nc_33 hG).1 rfl qU_X3 6 (by decide) qF_X8_146 rfl ?_
        refine wk_iload_n (pc := 23) dX8_leastNewlyLost_23 rfl 2 rfl ?_
        obtain ⟨h24, hf⟩ := xif_some hf
        refine wk_iald (pc := 24) (jj := a2_12.toNatClampNeg) dX8_leastNewlyLost_24 (nc_38 hG).2 (nc_38 hG).1 h24 rfl ?_
        refine wk_aload_n (pc := 25) dX8_leastNewlyLost_25 rfl 0 rfl ?_
        refine wk_getR (C := RX8) (T := TX8) (N := 13) (pc := 26) dX8_leastNewlyLost_26 (nc_0 hG).2 (nc_0 hG).1 rfl qU_X8 1 (by decide) qF_X8_19 rfl ?_
        refine wk_getR (C := RX3) (T := TX3) (N := 7) (pc := 29) dX8_leastNewlyLost_29 (nc_21 hG).2 (nc_21 hG).1 rfl qU_X3 6 (by decide) qF_X8_146 rfl ?_
        refine wk_iload_n (pc := 32) dX8_leastNewlyLost_32 rfl 2 rfl ?_
        obtain ⟨h33, hf⟩ := xif_some hf
        refine wk_iald (pc := 33) (jj := a2_12.toNatClampNeg) dX8_leastNewlyLost_33 (nc_26 hG).2 (nc_26 hG).1 h33 rfl ?_
        refine wk_icmp_le (pc := 34) (tgt := 39) dX8_leastNewlyLost_34 rfl hf (fun hf => ?_) (fun hf => ?_)
        · exact wk_lv [0, 1, 2] rfl (J39  a1_12  s12 hf)
        · refine wk_iload_n (pc := 37) dX8_leastNewlyLost_37 rfl 2 rfl ?_
          refine wk_istore_n (pc := 38) (lv' := [(1, .int a2_12), (0, .ref (gA G 0)), (2, .int a2_12)]) dX8_leastNewlyLost_38 rfl (by decide) rfl ?_
          exact wk_lv [1, 0, 2] rfl (J39  a2_12  s12 hf)
  refine wk_iconst (pc := 0) (v := (0 : Int32)) dX8_leastNewlyLost_0 (by decide) ?_
  refine wk_istore_n (pc := 1) (lv' := [(1, .int (0 : Int32)), (0, .ref (gA G 0))]) dX8_leastNewlyLost_1 rfl (by decide) rfl ?_
  refine wk_aload_n (pc := 2) dX8_leastNewlyLost_2 rfl 1 rfl ?_
  refine wk_getR (C := RX8) (T := TX8) (N := 13) (pc := 3) dX8_leastNewlyLost_3 (nc_0 hG).2 (nc_0 hG).1 rfl qU_X8 1 (by decide) qF_X8_19 rfl ?_
  refine wk_getI (C := RX3) (T := TX3) (N := 7) (pc := 6) dX8_leastNewlyLost_6 (nc_21 hG).2 (nc_21 hG).1 rfl qU_X3 0 (by decide) qF_X8_90 rfl ?_
  refine wk_iconst (pc := 9) (v := (1 : Int32)) dX8_leastNewlyLost_9 (by decide) ?_
  refine wk_isub (pc := 10) dX8_leastNewlyLost_10 ?_
  obtain ⟨y11, hy11, hf⟩ := xlet_some hf
  refine wk_top hy11 ?_
  refine wk_istore_n (pc := 11) (lv' := [(2, .int y11), (1, .int (0 : Int32)), (0, .ref (gA G 0))]) dX8_leastNewlyLost_11 rfl (by decide) rfl ?_
  exact wk_lv [2, 1, 0] rfl (J12  xF (0 : Int32) y11  s hf)
noncomputable def sX8_lost_L48 (p1 : Int32) (r19 : Int32) (self48 : Int32 → xS → Option (Int32 × xS)) : Int32 → xS → Option (Int32 × xS) := fun a3_48 s48 => (if (60 : Int32) < a3_48 then xbind (sX8_refuse (2 : Int32) s48) (fun r94 s94 => some (r94, s94)) else xbind (sX8_passHour 33 s48) (fun _ s59 => xbind (sX3_countLost 33 s59) (fun r66 s66 => (if r66 ≤ r19 then xlet (a3_48 + (1 : Int32)) (fun y86 => self48 y86 s66) else (if p1 = 0 then some (a3_48, s66) else xbind (sX8_leastNewlyLost  s66) (fun r82 s82 => some (r82, s82)))))))
noncomputable def sX8_lost (p1 : Int32) (s : xS) : Option (Int32 × xS) := xbind (sX8_within p1 (0 : Int32) (1 : Int32) s) (fun r3 s3 => (if r3 = 0 then xbind (sX8_refuse (1 : Int32) s3) (fun r11 s11 => some (r11, s11)) else xbind (sX3_countLost 21 s3) (fun r19 s19 => xbind (sX1_draw 1 (s19 1 2) s19) (fun _ s38 => xbind (sX8_think (0 : Int32) s38) (fun _ s43 => xloop (sX8_lost_L48 p1 r19) xF (1 : Int32) s43)))))
set_option maxHeartbeats 4000000 in
set_option maxRecDepth 100000 in
theorem kX8_lost (l : Launch) {G : xG} (hG : xC1 G)  {p1 : Int32}  {s : xS} {r : Int32} {s' : xS} (hf : sX8_lost p1 s = some (r, s')) : xMet l G 8 yX8_lost cX8_lost 4 (some .int) [.ref (gA G 0), .int p1] s (xI r s') := by
  refine xMet.of (by decide) (Nat.le_of_ble_eq_true rfl) ?_
  show wk l G 8 RX8 cX8_lost 4 (some .int) (xI r s') 0 [(0, .ref (gA G 0)), (1, .int p1)] [] s
  unfold sX8_lost at hf
  have J48 : ∀ (r19 : Int32)  (N : Nat) (a3_48 : Int32)  (s48 : xS), xloop (sX8_lost_L48 p1 r19) N a3_48 s48 = some (r, s') → wk l G 8 RX8 cX8_lost 4 (some .int) (xI r s') 48 [(0, .ref (gA G 0)), (1, .int p1), (2, .int r19), (3, .int a3_48)] [] s48 := by
    intro r19
    intro N
    induction N with
    | zero => intro a3_48 s48 hf; exact (xloop_0 hf).elim
    | succ N ih48 =>
      intro a3_48 s48 hf
      rw [xloop_s] at hf
      generalize xloop (sX8_lost_L48 p1 r19) N = self48 at hf ih48
      unfold sX8_lost_L48 at hf
      refine wk_iload_n (pc := 48) dX8_lost_48 rfl 3 rfl ?_
      refine wk_bipush (pc := 49) (v := (60 : Int32)) dX8_lost_49 (by decide) ?_
      refine wk_icmp_gt (pc := 51) (tgt := 92) dX8_lost_51 rfl hf (fun hf => ?_) (fun hf => ?_)
      · refine wk_aload_n (pc := 92) dX8_lost_92 rfl 0 rfl ?_
        refine wk_iconst (pc := 93) (v := (2 : Int32)) dX8_lost_93 (by decide) ?_
        obtain ⟨r94, s94, hc94, hf⟩ := xbind_some hf
        refine wk_callVI (pc := 94) (As := [.int (2 : Int32)]) (rest := []) (kX8_refuse l hG  hc94) cw_X8_86 (by decide) dX8_lost_94 (nc_0 hG).2 (nc_0 hG).1 rfl rfl rfl (Nat.le_of_ble_eq_true rfl) ?_
        exact wk_iret (pc := 97) dX8_lost_97 rfl (xI_of hf)
      · refine wk_aload_n (pc := 54) dX8_lost_54 rfl 0 rfl ?_
        refine wk_aload_n (pc := 55) dX8_lost_55 rfl 0 rfl ?_
        refine wk_getR (C := RX8) (T := TX8) (N := 13) (pc := 56) dX8_lost_56 (nc_0 hG).2 (nc_0 hG).1 rfl qU_X8 7 (by decide) qF_X8_43 rfl ?_
        obtain ⟨⟨⟩, s59, hc59, hf⟩ := xbind_some hf
        refine wk_callVU (pc := 59) (As := [.ref (gA G 33)]) (rest := []) (kX8_passHour l hG (by decide) hc59) cw_X8_207 (by decide) dX8_lost_59 (nc_0 hG).2 (nc_0 hG).1 rfl rfl rfl (Nat.le_of_ble_eq_true rfl) ?_
        refine wk_aload_n (pc := 62) dX8_lost_62 rfl 0 rfl ?_
        refine wk_getR (C := RX8) (T := TX8) (N := 13) (pc := 63) dX8_lost_63 (nc_0 hG).2 (nc_0 hG).1 rfl qU_X8 7 (by decide) qF_X8_43 rfl ?_
        obtain ⟨r66, s66, hc66, hf⟩ := xbind_some hf
        refine wk_callVI (pc := 66) (As := []) (rest := []) (kX3_countLost l hG (by decide) hc66) cw_X8_230 (by decide) dX8_lost_66 (nc_33 hG).2 (nc_33 hG).1 rfl rfl rfl (Nat.le_of_ble_eq_true rfl) ?_
        refine wk_iload_n (pc := 69) dX8_lost_69 rfl 2 rfl ?_
        refine wk_icmp_le (pc := 70) (tgt := 86) dX8_lost_70 rfl hf (fun hf => ?_) (fun hf => ?_)
        · obtain ⟨y86, hy86, hf⟩ := xlet_some hf
          refine wk_iinc (pc := 86) (v := y86) (lv' := [(3, .int y86), (0, .ref (gA G 0)), (1, .int p1), (2, .int r19)]) dX8_lost_86 3 rfl (by rw [hy86] <;> rfl) (by decide) rfl ?_
          refine wk_goto (pc := 89) (tgt := 48) dX8_lost_89 rfl ?_
          exact wk_lv [1, 2, 3, 0] rfl (ih48 y86  s66 hf)
        · refine wk_iload_n (pc := 73) dX8_lost_73 rfl 1 rfl ?_
          refine wk_if_ne (pc := 74) (tgt := 81) dX8_lost_74 rfl hf (fun hf => ?_) (fun hf => ?_)
          · refine wk_aload_n (pc := 81) dX8_lost_81 rfl 0 rfl ?_
            obtain ⟨r82, s82, hc82, hf⟩ := xbind_some hf
            refine wk_callVI (pc := 82) (As := []) (rest := []) (kX8_leastNewlyLost l hG  hc82) cw_X8_233 (by decide) dX8_lost_82 (nc_0 hG).2 (nc_0 hG).1 rfl rfl rfl (Nat.le_of_ble_eq_true rfl) ?_
            exact wk_iret (pc := 85) dX8_lost_85 rfl (xI_of hf)
          · refine wk_iload_n (pc := 77) dX8_lost_77 rfl 3 rfl ?_
            refine wk_goto (pc := 78) (tgt := 85) dX8_lost_78 rfl ?_
            exact wk_iret (pc := 85) dX8_lost_85 rfl (xI_of hf)
  refine wk_iload_n (pc := 0) dX8_lost_0 rfl 1 rfl ?_
  refine wk_iconst (pc := 1) (v := (0 : Int32)) dX8_lost_1 (by decide) ?_
  refine wk_iconst (pc := 2) (v := (1 : Int32)) dX8_lost_2 (by decide) ?_
  obtain ⟨r3, s3, hc3, hf⟩ := xbind_some hf
  refine wk_callSI (pc := 3) (As := [.int p1, .int (0 : Int32), .int (1 : Int32)]) (rest := []) (kX8_within l hG  hc3) cw_X8_82 (by decide) dX8_lost_3 rfl (Nat.le_of_ble_eq_true rfl) ?_
  refine wk_if_ne (pc := 6) (tgt := 15) dX8_lost_6 rfl hf (fun hf => ?_) (fun hf => ?_)
  · refine wk_aload_n (pc := 15) dX8_lost_15 rfl 0 rfl ?_
    refine wk_getR (C := RX8) (T := TX8) (N := 13) (pc := 16) dX8_lost_16 (nc_0 hG).2 (nc_0 hG).1 rfl qU_X8 1 (by decide) qF_X8_19 rfl ?_
    obtain ⟨r19, s19, hc19, hf⟩ := xbind_some hf
    refine wk_callVI (pc := 19) (As := []) (rest := []) (kX3_countLost l hG (by decide) hc19) cw_X8_230 (by decide) dX8_lost_19 (nc_21 hG).2 (nc_21 hG).1 rfl rfl rfl (Nat.le_of_ble_eq_true rfl) ?_
    refine wk_istore_n (pc := 22) (lv' := [(2, .int r19), (0, .ref (gA G 0)), (1, .int p1)]) dX8_lost_22 rfl (by decide) rfl ?_
    refine wk_aload_n (pc := 23) dX8_lost_23 rfl 1 rfl ?_
    refine wk_getR (C := RX8) (T := TX8) (N := 13) (pc := 24) dX8_lost_24 (nc_0 hG).2 (nc_0 hG).1 rfl qU_X8 8 (by decide) qF_X8_49 rfl ?_
    refine wk_aload_n (pc := 27) dX8_lost_27 rfl 1 rfl ?_
    refine wk_getR (C := RX8) (T := TX8) (N := 13) (pc := 28) dX8_lost_28 (nc_0 hG).2 (nc_0 hG).1 rfl qU_X8 0 (by decide) qF_X8_10 rfl ?_
    refine wk_aload_n (pc := 31) dX8_lost_31 rfl 1 rfl ?_
    refine wk_getR (C := RX8) (T := TX8) (N := 13) (pc := 32) dX8_lost_32 (nc_0 hG).2 (nc_0 hG).1 rfl qU_X8 0 (by decide) qF_X8_10 rfl ?_
    refine wk_getI (C := RX0) (T := TX0) (N := 9) (pc := 35) dX8_lost_35 (nc_1 hG).2 (nc_1 hG).1 rfl qU_X0 2 (by decide) qF_X8_116 rfl ?_
    obtain ⟨⟨⟩, s38, hc38, hf⟩ := xbind_some hf
    refine wk_callVU (pc := 38) (As := [.ref (gA G 1), .int (s19 1 2)]) (rest := []) (kX1_draw l hG (by decide) hc38) cw_X8_155 (by decide) dX8_lost_38 (nc_45 hG).2 (nc_45 hG).1 rfl rfl rfl (Nat.le_of_ble_eq_true rfl) ?_
    refine wk_aload_n (pc := 41) dX8_lost_41 rfl 1 rfl ?_
    refine wk_iconst (pc := 42) (v := (0 : Int32)) dX8_lost_42 (by decide) ?_
    obtain ⟨⟨⟩, s43, hc43, hf⟩ := xbind_some hf
    refine wk_callVU (pc := 43) (As := [.int (0 : Int32)]) (rest := []) (kX8_think l hG  hc43) cw_X8_225 (by decide) dX8_lost_43 (nc_0 hG).2 (nc_0 hG).1 rfl rfl rfl (Nat.le_of_ble_eq_true rfl) ?_
    refine wk_iconst (pc := 46) (v := (1 : Int32)) dX8_lost_46 (by decide) ?_
    refine wk_istore_n (pc := 47) (lv' := [(3, .int (1 : Int32)), (2, .int r19), (0, .ref (gA G 0)), (1, .int p1)]) dX8_lost_47 rfl (by decide) rfl ?_
    exact wk_lv [2, 3, 1, 0] rfl (J48 r19 xF (1 : Int32)  s43 hf)
  · refine wk_aload_n (pc := 9) dX8_lost_9 rfl 0 rfl ?_
    refine wk_iconst (pc := 10) (v := (1 : Int32)) dX8_lost_10 (by decide) ?_
    obtain ⟨r11, s11, hc11, hf⟩ := xbind_some hf
    refine wk_callVI (pc := 11) (As := [.int (1 : Int32)]) (rest := []) (kX8_refuse l hG  hc11) cw_X8_86 (by decide) dX8_lost_11 (nc_0 hG).2 (nc_0 hG).1 rfl rfl rfl (Nat.le_of_ble_eq_true rfl) ?_
    exact wk_iret (pc := 14) dX8_lost_14 rfl (xI_of hf)
noncomputable def sX8_setting_L37 (p1 : Int32) (p2 : Int32) (self37 : Int32 → xS → Option (Int32 × xS)) : Int32 → xS → Option (Int32 × xS) := fun a3_37 s37 => (if (99 : Int32) < a3_37 then xbind (sX8_refuse (2 : Int32) s37) (fun r84 s84 => some (r84, s84)) else xbind (sX1_draw 1 a3_37 s37) (fun _ s52 => xbind (sX8_think p2 s52) (fun _ s57 => xbind (sX3_setAt 33 (0 : Int32) s57) (fun r65 s65 => (if (r65 &&& p1) = p1 then some (a3_37, s65) else xlet (a3_37 + (1 : Int32)) (fun y76 => self37 y76 s65))))))
noncomputable def sX8_setting_L29   (s29 : xS) : Option (Int32 × xS) := xbind (sX8_refuse (1 : Int32) s29) (fun r31 s31 => some (r31, s31))
noncomputable def sX8_setting (p1 : Int32) (p2 : Int32) (s : xS) : Option (Int32 × xS) := xbind (sX8_within p1 (0 : Int32) (((1 : Int32) <<< ((s 21 0) &&& 31)) - (1 : Int32)) s) (fun r13 s13 => (if r13 = 0 then sX8_setting_L29  s13 else xbind (sX8_within p2 (0 : Int32) (20 : Int32) s13) (fun r23 s23 => (if r23 = 0 then sX8_setting_L29  s23 else xloop (sX8_setting_L37 p1 p2) xF (0 : Int32) s23))))
set_option maxHeartbeats 4000000 in
set_option maxRecDepth 100000 in
theorem kX8_setting (l : Launch) {G : xG} (hG : xC1 G)  {p1 : Int32} {p2 : Int32}  {s : xS} {r : Int32} {s' : xS} (hf : sX8_setting p1 p2 s = some (r, s')) : xMet l G 8 yX8_setting cX8_setting 4 (some .int) [.ref (gA G 0), .int p1, .int p2] s (xI r s') := by
  refine xMet.of (by decide) (Nat.le_of_ble_eq_true rfl) ?_
  show wk l G 8 RX8 cX8_setting 4 (some .int) (xI r s') 0 [(0, .ref (gA G 0)), (1, .int p1), (2, .int p2)] [] s
  unfold sX8_setting at hf
  have J37 : ∀   (N : Nat) (a3_37 : Int32)  (s37 : xS), xloop (sX8_setting_L37 p1 p2) N a3_37 s37 = some (r, s') → wk l G 8 RX8 cX8_setting 4 (some .int) (xI r s') 37 [(0, .ref (gA G 0)), (1, .int p1), (2, .int p2), (3, .int a3_37)] [] s37 := by
    intro N
    induction N with
    | zero => intro a3_37 s37 hf; exact (xloop_0 hf).elim
    | succ N ih37 =>
      intro a3_37 s37 hf
      rw [xloop_s] at hf
      generalize xloop (sX8_setting_L37 p1 p2) N = self37 at hf ih37
      unfold sX8_setting_L37 at hf
      refine wk_iload_n (pc := 37) dX8_setting_37 rfl 3 rfl ?_
      refine wk_bipush (pc := 38) (v := (99 : Int32)) dX8_setting_38 (by decide) ?_
      refine wk_icmp_gt (pc := 40) (tgt := 82) dX8_setting_40 rfl hf (fun hf => ?_) (fun hf => ?_)
      · refine wk_aload_n (pc := 82) dX8_setting_82 rfl 0 rfl ?_
        refine wk_iconst (pc := 83) (v := (2 : Int32)) dX8_setting_83 (by decide) ?_
        obtain ⟨r84, s84, hc84, hf⟩ := xbind_some hf
        refine wk_callVI (pc := 84) (As := [.int (2 : Int32)]) (rest := []) (kX8_refuse l hG  hc84) cw_X8_86 (by decide) dX8_setting_84 (nc_0 hG).2 (nc_0 hG).1 rfl rfl rfl (Nat.le_of_ble_eq_true rfl) ?_
        exact wk_iret (pc := 87) dX8_setting_87 rfl (xI_of hf)
      · refine wk_aload_n (pc := 43) dX8_setting_43 rfl 0 rfl ?_
        refine wk_getR (C := RX8) (T := TX8) (N := 13) (pc := 44) dX8_setting_44 (nc_0 hG).2 (nc_0 hG).1 rfl qU_X8 8 (by decide) qF_X8_49 rfl ?_
        refine wk_aload_n (pc := 47) dX8_setting_47 rfl 0 rfl ?_
        refine wk_getR (C := RX8) (T := TX8) (N := 13) (pc := 48) dX8_setting_48 (nc_0 hG).2 (nc_0 hG).1 rfl qU_X8 0 (by decide) qF_X8_10 rfl ?_
        refine wk_iload_n (pc := 51) dX8_setting_51 rfl 3 rfl ?_
        obtain ⟨⟨⟩, s52, hc52, hf⟩ := xbind_some hf
        refine wk_callVU (pc := 52) (As := [.ref (gA G 1), .int a3_37]) (rest := []) (kX1_draw l hG (by decide) hc52) cw_X8_155 (by decide) dX8_setting_52 (nc_45 hG).2 (nc_45 hG).1 rfl rfl rfl (Nat.le_of_ble_eq_true rfl) ?_
        refine wk_aload_n (pc := 55) dX8_setting_55 rfl 0 rfl ?_
        refine wk_iload_n (pc := 56) dX8_setting_56 rfl 2 rfl ?_
        obtain ⟨⟨⟩, s57, hc57, hf⟩ := xbind_some hf
        refine wk_callVU (pc := 57) (As := [.int p2]) (rest := []) (kX8_think l hG  hc57) cw_X8_225 (by decide) dX8_setting_57 (nc_0 hG).2 (nc_0 hG).1 rfl rfl rfl (Nat.le_of_ble_eq_true rfl) ?_
        refine wk_aload_n (pc := 60) dX8_setting_60 rfl 0 rfl ?_
        refine wk_getR (C := RX8) (T := TX8) (N := 13) (pc := 61) dX8_setting_61 (nc_0 hG).2 (nc_0 hG).1 rfl qU_X8 7 (by decide) qF_X8_43 rfl ?_
        refine wk_iconst (pc := 64) (v := (0 : Int32)) dX8_setting_64 (by decide) ?_
        obtain ⟨r65, s65, hc65, hf⟩ := xbind_some hf
        refine wk_callVI (pc := 65) (As := [.int (0 : Int32)]) (rest := []) (kX3_setAt l hG (by decide) hc65) cw_X8_122 (by decide) dX8_setting_65 (nc_33 hG).2 (nc_33 hG).1 rfl rfl rfl (Nat.le_of_ble_eq_true rfl) ?_
        refine wk_iload_n (pc := 68) dX8_setting_68 rfl 1 rfl ?_
        refine wk_iand (pc := 69) dX8_setting_69 ?_
        refine wk_iload_n (pc := 70) dX8_setting_70 rfl 1 rfl ?_
        refine wk_icmp_ne (pc := 71) (tgt := 76) dX8_setting_71 rfl hf (fun hf => ?_) (fun hf => ?_)
        · obtain ⟨y76, hy76, hf⟩ := xlet_some hf
          refine wk_iinc (pc := 76) (v := y76) (lv' := [(3, .int y76), (0, .ref (gA G 0)), (1, .int p1), (2, .int p2)]) dX8_setting_76 3 rfl (by rw [hy76] <;> rfl) (by decide) rfl ?_
          refine wk_goto (pc := 79) (tgt := 37) dX8_setting_79 rfl ?_
          exact wk_lv [1, 2, 3, 0] rfl (ih37 y76  s65 hf)
        · refine wk_iload_n (pc := 74) dX8_setting_74 rfl 3 rfl ?_
          exact wk_iret (pc := 75) dX8_setting_75 rfl (xI_of hf)
  have J29 : ∀     (s29 : xS), sX8_setting_L29  s29 = some (r, s') → wk l G 8 RX8 cX8_setting 4 (some .int) (xI r s') 29 [(0, .ref (gA G 0))] [] s29 := by
    intro s29 hf
    unfold sX8_setting_L29 at hf
    refine wk_aload_n (pc := 29) dX8_setting_29 rfl 0 rfl ?_
    refine wk_iconst (pc := 30) (v := (1 : Int32)) dX8_setting_30 (by decide) ?_
    obtain ⟨r31, s31, hc31, hf⟩ := xbind_some hf
    refine wk_callVI (pc := 31) (As := [.int (1 : Int32)]) (rest := []) (kX8_refuse l hG  hc31) cw_X8_86 (by decide) dX8_setting_31 (nc_0 hG).2 (nc_0 hG).1 rfl rfl rfl (Nat.le_of_ble_eq_true rfl) ?_
    exact wk_iret (pc := 34) dX8_setting_34 rfl (xI_of hf)
  refine wk_iload_n (pc := 0) dX8_setting_0 rfl 1 rfl ?_
  refine wk_iconst (pc := 1) (v := (0 : Int32)) dX8_setting_1 (by decide) ?_
  refine wk_iconst (pc := 2) (v := (1 : Int32)) dX8_setting_2 (by decide) ?_
  refine wk_aload_n (pc := 3) dX8_setting_3 rfl 0 rfl ?_
  refine wk_getR (C := RX8) (T := TX8) (N := 13) (pc := 4) dX8_setting_4 (nc_0 hG).2 (nc_0 hG).1 rfl qU_X8 1 (by decide) qF_X8_19 rfl ?_
  refine wk_getI (C := RX3) (T := TX3) (N := 7) (pc := 7) dX8_setting_7 (nc_21 hG).2 (nc_21 hG).1 rfl qU_X3 0 (by decide) qF_X8_90 rfl ?_
  refine wk_ishl (pc := 10) dX8_setting_10 ?_
  refine wk_iconst (pc := 11) (v := (1 : Int32)) dX8_setting_11 (by decide) ?_
  refine wk_isub (pc := 12) dX8_setting_12 ?_
  obtain ⟨r13, s13, hc13, hf⟩ := xbind_some hf
  refine wk_callSI (pc := 13) (As := [.int p1, .int (0 : Int32), .int (((1 : Int32) <<< ((s 21 0) &&& 31)) - (1 : Int32))]) (rest := []) (kX8_within l hG  hc13) cw_X8_82 (by decide) dX8_setting_13 rfl (Nat.le_of_ble_eq_true rfl) ?_
  refine wk_if_eq (pc := 16) (tgt := 29) dX8_setting_16 rfl hf (fun hf => ?_) (fun hf => ?_)
  · exact wk_lv [0] rfl (J29    s13 hf)
  · refine wk_iload_n (pc := 19) dX8_setting_19 rfl 2 rfl ?_
    refine wk_iconst (pc := 20) (v := (0 : Int32)) dX8_setting_20 (by decide) ?_
    refine wk_bipush (pc := 21) (v := (20 : Int32)) dX8_setting_21 (by decide) ?_
    obtain ⟨r23, s23, hc23, hf⟩ := xbind_some hf
    refine wk_callSI (pc := 23) (As := [.int p2, .int (0 : Int32), .int (20 : Int32)]) (rest := []) (kX8_within l hG  hc23) cw_X8_82 (by decide) dX8_setting_23 rfl (Nat.le_of_ble_eq_true rfl) ?_
    refine wk_if_ne (pc := 26) (tgt := 35) dX8_setting_26 rfl hf (fun hf => ?_) (fun hf => ?_)
    · refine wk_iconst (pc := 35) (v := (0 : Int32)) dX8_setting_35 (by decide) ?_
      refine wk_istore_n (pc := 36) (lv' := [(3, .int (0 : Int32)), (0, .ref (gA G 0)), (1, .int p1), (2, .int p2)]) dX8_setting_36 rfl (by decide) rfl ?_
      exact wk_lv [1, 2, 3, 0] rfl (J37  xF (0 : Int32)  s23 hf)
    · exact wk_lv [0] rfl (J29    s23 hf)
noncomputable def sX8_leastFalse_L64 (a4_23 : Int32) (self23 : Int32 × Int32 × Int32 → xS → Option (Int32 × xS)) (a2_64 : Int32) (a3_64 : Int32) (s64 : xS) : Option (Int32 × xS) := xlet (a4_23 + (1 : Int32)) (fun y64 => self23 (a2_64, a3_64, y64) s64)
noncomputable def sX8_leastFalse_L23 (p1 : Int32) (self23 : Int32 × Int32 × Int32 → xS → Option (Int32 × xS)) : Int32 × Int32 × Int32 → xS → Option (Int32 × xS) := fun (a2_23, a3_23, a4_23) s23 => (if (99 : Int32) < a4_23 then xlet ((if p1 = 0 then a2_23 else a3_23)) (fun y79d => some (y79d, s23)) else xbind (sX1_draw 1 a4_23 s23) (fun _ s40 => xbind (sX1_countFalse  s40) (fun r47 s47 => (if a3_23 ≤ r47 then (sX8_leastFalse_L64 a4_23 self23) a2_23 a3_23 s47 else (sX8_leastFalse_L64 a4_23 self23) a4_23 r47 s47))))
noncomputable def sX8_leastFalse (p1 : Int32) (s : xS) : Option (Int32 × xS) := xbind (sX8_within p1 (0 : Int32) (1 : Int32) s) (fun r3 s3 => (if r3 = 0 then xbind (sX8_refuse (1 : Int32) s3) (fun r11 s11 => some (r11, s11)) else xloop (sX8_leastFalse_L23 p1) xF ((1 : Int32), (9 : Int32), (1 : Int32)) s3))
set_option maxHeartbeats 4000000 in
set_option maxRecDepth 100000 in
theorem kX8_leastFalse (l : Launch) {G : xG} (hG : xC1 G)  {p1 : Int32}  {s : xS} {r : Int32} {s' : xS} (hf : sX8_leastFalse p1 s = some (r, s')) : xMet l G 7 yX8_leastFalse cX8_leastFalse 6 (some .int) [.ref (gA G 0), .int p1] s (xI r s') := by
  refine xMet.of (by decide) (Nat.le_of_ble_eq_true rfl) ?_
  show wk l G 7 RX8 cX8_leastFalse 6 (some .int) (xI r s') 0 [(0, .ref (gA G 0)), (1, .int p1)] [] s
  unfold sX8_leastFalse at hf
  have J23 : ∀   (N : Nat) (a2_23 : Int32) (a3_23 : Int32) (a4_23 : Int32)  (s23 : xS), xloop (sX8_leastFalse_L23 p1) N (a2_23, a3_23, a4_23) s23 = some (r, s') → wk l G 7 RX8 cX8_leastFalse 6 (some .int) (xI r s') 23 [(0, .ref (gA G 0)), (1, .int p1), (2, .int a2_23), (3, .int a3_23), (4, .int a4_23)] [] s23 := by
    intro N
    induction N with
    | zero => intro a2_23 a3_23 a4_23 s23 hf; exact (xloop_0 hf).elim
    | succ N ih23 =>
      intro a2_23 a3_23 a4_23 s23 hf
      rw [xloop_s] at hf
      generalize xloop (sX8_leastFalse_L23 p1) N = self23 at hf ih23
      unfold sX8_leastFalse_L23 at hf
      dsimp only at hf
      have J64 : ∀   (a2_64 : Int32) (a3_64 : Int32)  (s64 : xS), (sX8_leastFalse_L64 a4_23 self23) a2_64 a3_64 s64 = some (r, s') → wk l G 7 RX8 cX8_leastFalse 6 (some .int) (xI r s') 64 [(0, .ref (gA G 0)), (1, .int p1), (2, .int a2_64), (3, .int a3_64), (4, .int a4_23)] [] s64 := by
        intro a2_64 a3_64 s64 hf
        unfold sX8_leastFalse_L64 at hf
        obtain ⟨y64, hy64, hf⟩ := xlet_some hf
        refine wk_iinc (pc := 64) (v := y64) (lv' := [(4, .int y64), (0, .ref (gA G 0)), (1, .int p1), (2, .int a2_64), (3, .int a3_64)]) dX8_leastFalse_64 4 rfl (by rw [hy64] <;> rfl) (by decide) rfl ?_
        refine wk_goto (pc := 67) (tgt := 23) dX8_leastFalse_67 rfl ?_
        exact wk_lv [1, 2, 3, 4, 0] rfl (ih23 a2_64 a3_64 y64  s64 hf)
      refine wk_iload (pc := 23) dX8_leastFalse_23 4 rfl ?_
      refine wk_bipush (pc := 25) (v := (99 : Int32)) dX8_leastFalse_25 (by decide) ?_
      refine wk_icmp_gt (pc := 27) (tgt := 70) dX8_leastFalse_27 rfl hf (fun hf => ?_) (fun hf => ?_)
      · refine wk_iload_n (pc := 70) dX8_leastFalse_70 rfl 1 rfl ?_
        obtain ⟨y79d, hy79d, hf⟩ := xlet_some hf
        have K79 : wk l G 7 RX8 cX8_leastFalse 6 (some .int) (xI r s') 79 [(0, .ref (gA G 0)), (1, .int p1), (2, .int a2_23), (3, .int a3_23), (4, .int a4_23)] [.int y79d] s23 := by
          exact wk_iret (pc := 79) dX8_leastFalse_79 rfl (xI_of hf)
        by_cases c71 : p1 = 0
        · rw [if_pos c71] at hy79d
          refine wk_if_ne_p (pc := 71) (tgt := 78) dX8_leastFalse_71 rfl c71 ?_
          refine wk_iload_n (pc := 74) dX8_leastFalse_74 rfl 2 rfl ?_
          refine wk_goto (pc := 75) (tgt := 79) dX8_leastFalse_75 rfl ?_
          exact wk_top hy79d K79
        · rw [if_neg c71] at hy79d
          refine wk_if_ne_m (pc := 71) (tgt := 78) dX8_leastFalse_71 rfl c71 ?_
          refine wk_iload_n (pc := 78) dX8_leastFalse_78 rfl 3 rfl ?_
          exact wk_top hy79d K79
      · refine wk_aload_n (pc := 30) dX8_leastFalse_30 rfl 0 rfl ?_
        refine wk_getR (C := RX8) (T := TX8) (N := 13) (pc := 31) dX8_leastFalse_31 (nc_0 hG).2 (nc_0 hG).1 rfl qU_X8 8 (by decide) qF_X8_49 rfl ?_
        refine wk_aload_n (pc := 34) dX8_leastFalse_34 rfl 0 rfl ?_
        refine wk_getR (C := RX8) (T := TX8) (N := 13) (pc := 35) dX8_leastFalse_35 (nc_0 hG).2 (nc_0 hG).1 rfl qU_X8 0 (by decide) qF_X8_10 rfl ?_
        refine wk_iload (pc := 38) dX8_leastFalse_38 4 rfl ?_
        obtain ⟨⟨⟩, s40, hc40, hf⟩ := xbind_some hf
        refine wk_callVU (pc := 40) (As := [.ref (gA G 1), .int a4_23]) (rest := []) (kX1_draw l hG (by decide) hc40) cw_X8_155 (by decide) dX8_leastFalse_40 (nc_45 hG).2 (nc_45 hG).1 rfl rfl rfl (Nat.le_of_ble_eq_true rfl) ?_
        refine wk_aload_n (pc := 43) dX8_leastFalse_43 rfl 0 rfl ?_
        refine wk_getR (C := RX8) (T := TX8) (N := 13) (pc := 44) dX8_leastFalse_44 (nc_0 hG).2 (nc_0 hG).1 rfl qU_X8 8 (by decide) qF_X8_49 rfl ?_
        obtain ⟨r47, s47, hc47, hf⟩ := xbind_some hf
        refine wk_callVI (pc := 47) (As := []) (rest := []) (kX1_countFalse l hG  hc47) cw_X8_236 (by decide) dX8_leastFalse_47 (nc_45 hG).2 (nc_45 hG).1 rfl rfl rfl (Nat.le_of_ble_eq_true rfl) ?_
        refine wk_istore (pc := 50) (lv' := [(5, .int r47), (0, .ref (gA G 0)), (1, .int p1), (2, .int a2_23), (3, .int a3_23), (4, .int a4_23)]) dX8_leastFalse_50 (by decide) rfl ?_
        refine wk_iload (pc := 52) dX8_leastFalse_52 0 rfl ?_
        refine wk_iload_n (pc := 54) dX8_leastFalse_54 rfl 4 rfl ?_
        refine wk_icmp_ge (pc := 55) (tgt := 64) dX8_leastFalse_55 rfl hf (fun hf => ?_) (fun hf => ?_)
        · exact wk_lv [1, 2, 3, 4, 5] rfl (J64  a2_23 a3_23  s47 hf)
        · refine wk_iload (pc := 58) dX8_leastFalse_58 0 rfl ?_
          refine wk_istore_n (pc := 60) (lv' := [(3, .int r47), (5, .int r47), (0, .ref (gA G 0)), (1, .int p1), (2, .int a2_23), (4, .int a4_23)]) dX8_leastFalse_60 rfl (by decide) rfl ?_
          refine wk_iload (pc := 61) dX8_leastFalse_61 5 rfl ?_
          refine wk_istore_n (pc := 63) (lv' := [(2, .int a4_23), (3, .int r47), (5, .int r47), (0, .ref (gA G 0)), (1, .int p1), (4, .int a4_23)]) dX8_leastFalse_63 rfl (by decide) rfl ?_
          exact wk_lv [3, 4, 0, 1, 5] rfl (J64  a4_23 r47  s47 hf)
  refine wk_iload_n (pc := 0) dX8_leastFalse_0 rfl 1 rfl ?_
  refine wk_iconst (pc := 1) (v := (0 : Int32)) dX8_leastFalse_1 (by decide) ?_
  refine wk_iconst (pc := 2) (v := (1 : Int32)) dX8_leastFalse_2 (by decide) ?_
  obtain ⟨r3, s3, hc3, hf⟩ := xbind_some hf
  refine wk_callSI (pc := 3) (As := [.int p1, .int (0 : Int32), .int (1 : Int32)]) (rest := []) (kX8_within l hG  hc3) cw_X8_82 (by decide) dX8_leastFalse_3 rfl (Nat.le_of_ble_eq_true rfl) ?_
  refine wk_if_ne (pc := 6) (tgt := 15) dX8_leastFalse_6 rfl hf (fun hf => ?_) (fun hf => ?_)
  · refine wk_iconst (pc := 15) (v := (1 : Int32)) dX8_leastFalse_15 (by decide) ?_
    refine wk_istore_n (pc := 16) (lv' := [(2, .int (1 : Int32)), (0, .ref (gA G 0)), (1, .int p1)]) dX8_leastFalse_16 rfl (by decide) rfl ?_
    refine wk_bipush (pc := 17) (v := (9 : Int32)) dX8_leastFalse_17 (by decide) ?_
    refine wk_istore_n (pc := 19) (lv' := [(3, .int (9 : Int32)), (2, .int (1 : Int32)), (0, .ref (gA G 0)), (1, .int p1)]) dX8_leastFalse_19 rfl (by decide) rfl ?_
    refine wk_iconst (pc := 20) (v := (1 : Int32)) dX8_leastFalse_20 (by decide) ?_
    refine wk_istore (pc := 21) (lv' := [(4, .int (1 : Int32)), (3, .int (9 : Int32)), (2, .int (1 : Int32)), (0, .ref (gA G 0)), (1, .int p1)]) dX8_leastFalse_21 (by decide) rfl ?_
    exact wk_lv [3, 4, 2, 1, 0] rfl (J23  xF (1 : Int32) (9 : Int32) (1 : Int32)  s3 hf)
  · refine wk_aload_n (pc := 9) dX8_leastFalse_9 rfl 0 rfl ?_
    refine wk_iconst (pc := 10) (v := (1 : Int32)) dX8_leastFalse_10 (by decide) ?_
    obtain ⟨r11, s11, hc11, hf⟩ := xbind_some hf
    refine wk_callVI (pc := 11) (As := [.int (1 : Int32)]) (rest := []) (kX8_refuse l hG  hc11) cw_X8_86 (by decide) dX8_leastFalse_11 (nc_0 hG).2 (nc_0 hG).1 rfl rfl rfl (Nat.le_of_ble_eq_true rfl) ?_
    exact wk_iret (pc := 14) dX8_leastFalse_14 rfl (xI_of hf)
noncomputable def sX8_isSheet (p0 : Int32) (s : xS) : Option (Int32 × xS) := xbind (sX8_within p0 (0 : Int32) (3 : Int32) s) (fun r3 s3 => (if r3 = 0 ∨ r3 = 1 then some (r3, s3) else none))
set_option maxHeartbeats 4000000 in
set_option maxRecDepth 100000 in
theorem kX8_isSheet (l : Launch) {G : xG} (hG : xC1 G)  {p0 : Int32}  {s : xS} {r : Int32} {s' : xS} (hf : sX8_isSheet p0 s = some (r, s')) : xMet l G 3 yX8_isSheet cX8_isSheet 1 (some .boolean) [.int p0] s (xI r s') := by
  refine xMet.of (by decide) (Nat.le_of_ble_eq_true rfl) ?_
  show wk l G 3 RX8 cX8_isSheet 1 (some .boolean) (xI r s') 0 [(0, .int p0)] [] s
  unfold sX8_isSheet at hf
  refine wk_iload_n (pc := 0) dX8_isSheet_0 rfl 0 rfl ?_
  refine wk_iconst (pc := 1) (v := (0 : Int32)) dX8_isSheet_1 (by decide) ?_
  refine wk_iconst (pc := 2) (v := (3 : Int32)) dX8_isSheet_2 (by decide) ?_
  obtain ⟨r3, s3, hc3, hf⟩ := xbind_some hf
  refine wk_callSI (pc := 3) (As := [.int p0, .int (0 : Int32), .int (3 : Int32)]) (rest := []) (kX8_within l hG  hc3) cw_X8_82 (by decide) dX8_isSheet_3 rfl (Nat.le_of_ble_eq_true rfl) ?_
  obtain ⟨h6, hf⟩ := xif_some hf
  exact wk_zret (pc := 6) dX8_isSheet_6 rfl (x01n h6) (xI_of hf)
noncomputable def sX8_isShownAs_L39 (a3_2 : Int32) (self2 : Int32 → xS → Option (Int32 × xS))  (s39 : xS) : Option (Int32 × xS) := xlet (a3_2 + (1 : Int32)) (fun y39 => self2 y39 s39)
noncomputable def sX8_isShownAs_L2 (p1 : Nat) (p2 : Int32) (self2 : Int32 → xS → Option (Int32 × xS)) : Int32 → xS → Option (Int32 × xS) := fun a3_2 s2 => (if (s2 p1 1) ≤ a3_2 then some ((1 : Int32), s2) else (if xin a3_2 40 then xlet ((s2 (p1 + 1) a3_2.toNatClampNeg)) (fun y16 => (if y16 < 0 then (sX8_isShownAs_L39 a3_2 self2)  s2 else xbind (sX0_shownBy 1 p2 a3_2 s2) (fun r31 s31 => (if y16 = r31 then (sX8_isShownAs_L39 a3_2 self2)  s31 else some ((0 : Int32), s31))))) else none))
noncomputable def sX8_isShownAs (p1 : Nat) (p2 : Int32) (s : xS) : Option (Int32 × xS) := xloop (sX8_isShownAs_L2 p1 p2) xF (0 : Int32) s
set_option maxHeartbeats 4000000 in
set_option maxRecDepth 100000 in
theorem kX8_isShownAs (l : Launch) {G : xG} (hG : xC1 G)  {p1 : Nat} {p2 : Int32} (hp1 : p1 ∈ lSheet) {s : xS} {r : Int32} {s' : xS} (hf : sX8_isShownAs p1 p2 s = some (r, s')) : xMet l G 7 yX8_isShownAs cX8_isShownAs 5 (some .boolean) [.ref (gA G 0), .ref (gA G p1), .int p2] s (xI r s') := by
  refine xMet.of (by decide) (Nat.le_of_ble_eq_true rfl) ?_
  show wk l G 7 RX8 cX8_isShownAs 5 (some .boolean) (xI r s') 0 [(0, .ref (gA G 0)), (1, .ref (gA G p1)), (2, .int p2)] [] s
  unfold sX8_isShownAs at hf
  have J2 : ∀   (N : Nat) (a3_2 : Int32)  (s2 : xS), xloop (sX8_isShownAs_L2 p1 p2) N a3_2 s2 = some (r, s') → wk l G 7 RX8 cX8_isShownAs 5 (some .boolean) (xI r s') 2 [(0, .ref (gA G 0)), (1, .ref (gA G p1)), (2, .int p2), (3, .int a3_2)] [] s2 := by
    intro N
    induction N with
    | zero => intro a3_2 s2 hf; exact (xloop_0 hf).elim
    | succ N ih2 =>
      intro a3_2 s2 hf
      rw [xloop_s] at hf
      generalize xloop (sX8_isShownAs_L2 p1 p2) N = self2 at hf ih2
      unfold sX8_isShownAs_L2 at hf
      have J39 : ∀     (s39 : xS), (sX8_isShownAs_L39 a3_2 self2)  s39 = some (r, s') → wk l G 7 RX8 cX8_isShownAs 5 (some .boolean) (xI r s') 39 [(0, .ref (gA G 0)), (1, .ref (gA G p1)), (2, .int p2), (3, .int a3_2)] [] s39 := by
        intro s39 hf
        unfold sX8_isShownAs_L39 at hf
        obtain ⟨y39, hy39, hf⟩ := xlet_some hf
        refine wk_iinc (pc := 39) (v := y39) (lv' := [(3, .int y39), (0, .ref (gA G 0)), (1, .ref (gA G p1)), (2, .int p2)]) dX8_isShownAs_39 3 rfl (by rw [hy39] <;> rfl) (by decide) rfl ?_
        refine wk_goto (pc := 42) (tgt := 2) dX8_isShownAs_42 rfl ?_
        exact wk_lv [1, 2, 3, 0] rfl (ih2 y39  s39 hf)
      refine wk_iload_n (pc := 2) dX8_isShownAs_2 rfl 3 rfl ?_
      refine wk_aload_n (pc := 3) dX8_isShownAs_3 rfl 1 rfl ?_
      refine wk_getI (C := RX6) (T := TX6) (N := 3) (pc := 4) dX8_isShownAs_4 (sX6_0 hG hp1).2 (sX6_0 hG hp1).1 rfl qU_X6 1 (by decide) qF_X8_246 rfl ?_
      refine wk_icmp_ge (pc := 7) (tgt := 45) dX8_isShownAs_7 rfl hf (fun hf => ?_) (fun hf => ?_)
      · refine wk_iconst (pc := 45) (v := (1 : Int32)) dX8_isShownAs_45 (by decide) ?_
        exact wk_zret (pc := 46) dX8_isShownAs_46 rfl rfl (xI_of hf)
      · refine wk_aload_n (pc := 10) dX8_isShownAs_10 rfl 1 rfl ?_
        refine wk_getR (C := RX6) (T := TX6) (N := 3) (pc := 11) dX8_isShownAs_11 (sX6_0 hG hp1).2 (sX6_0 hG hp1).1 rfl qU_X6 2 (by decide) qF_X8_253 rfl ?_
        refine wk_iload_n (pc := 14) dX8_isShownAs_14 rfl 3 rfl ?_
        obtain ⟨h15, hf⟩ := xif_some hf
        refine wk_iald (pc := 15) (jj := a3_2.toNatClampNeg) dX8_isShownAs_15 (sX6_1 hG hp1).2 (sX6_1 hG hp1).1 h15 rfl ?_
        obtain ⟨y16, hy16, hf⟩ := xlet_some hf
        refine wk_top hy16 ?_
        refine wk_istore (pc := 16) (lv' := [(4, .int y16), (0, .ref (gA G 0)), (1, .ref (gA G p1)), (2, .int p2), (3, .int a3_2)]) dX8_isShownAs_16 (by decide) rfl ?_
        refine wk_iload (pc := 18) dX8_isShownAs_18 0 rfl ?_
        refine wk_if_lt (pc := 20) (tgt := 39) dX8_isShownAs_20 rfl hf (fun hf => ?_) (fun hf => ?_)
        · exact wk_lv [1, 2, 3, 4] rfl (J39    s2 hf)
        · refine wk_iload (pc := 23) dX8_isShownAs_23 0 rfl ?_
          refine wk_aload_n (pc := 25) dX8_isShownAs_25 rfl 1 rfl ?_
          refine wk_getR (C := RX8) (T := TX8) (N := 13) (pc := 26) dX8_isShownAs_26 (nc_0 hG).2 (nc_0 hG).1 rfl qU_X8 0 (by decide) qF_X8_10 rfl ?_
          refine wk_iload_n (pc := 29) dX8_isShownAs_29 rfl 3 rfl ?_
          refine wk_iload_n (pc := 30) dX8_isShownAs_30 rfl 4 rfl ?_
          obtain ⟨r31, s31, hc31, hf⟩ := xbind_some hf
          refine wk_callVI (pc := 31) (As := [.int p2, .int a3_2]) (rest := [.int y16]) (kX0_shownBy l hG (by decide) hc31) cw_X8_119 (by decide) dX8_isShownAs_31 (nc_1 hG).2 (nc_1 hG).1 rfl rfl rfl (Nat.le_of_ble_eq_true rfl) ?_
          refine wk_icmp_eq (pc := 34) (tgt := 39) dX8_isShownAs_34 rfl hf (fun hf => ?_) (fun hf => ?_)
          · exact wk_lv [1, 2, 3, 4] rfl (J39    s31 hf)
          · refine wk_iconst (pc := 37) (v := (0 : Int32)) dX8_isShownAs_37 (by decide) ?_
            exact wk_zret (pc := 38) dX8_isShownAs_38 rfl rfl (xI_of hf)
  refine wk_iconst (pc := 0) (v := (0 : Int32)) dX8_isShownAs_0 (by decide) ?_
  refine wk_istore_n (pc := 1) (lv' := [(3, .int (0 : Int32)), (0, .ref (gA G 0)), (1, .ref (gA G p1)), (2, .int p2)]) dX8_isShownAs_1 rfl (by decide) rfl ?_
  exact wk_lv [1, 2, 3, 0] rfl (J2  xF (0 : Int32)  s hf)
noncomputable def sX8_which_L88 (a6_66 : Int32) (self66 : Int32 × Int32 × Int32 → xS → Option (Int32 × xS)) (a4_88 : Int32) (a5_88 : Int32) (s88 : xS) : Option (Int32 × xS) := xlet (a6_66 + (-1 : Int32)) (fun y88 => self66 (a4_88, a5_88, y88) s88)
noncomputable def sX8_which_L66 (p2 : Int32) (o27 : Nat) (self66 : Int32 × Int32 × Int32 → xS → Option (Int32 × xS)) : Int32 × Int32 × Int32 → xS → Option (Int32 × xS) := fun (a4_66, a5_66, a6_66) s66 => (if a6_66 < 0 then (if p2 = 0 then some (a4_66, s66) else (if a4_66 ≤ 0 then xbind (sX8_refuse (2 : Int32) s66) (fun r113 s113 => some (r113, s113)) else some (a5_66, s66))) else xbind (sX8_isShownAs o27 a6_66 s66) (fun r75 s75 => (if r75 = 0 then (sX8_which_L88 a6_66 self66) a4_66 a5_66 s75 else xlet (a4_66 + (1 : Int32)) (fun y81 => (sX8_which_L88 a6_66 self66) y81 a6_66 s75))))
noncomputable def sX8_which_L50   (s50 : xS) : Option (Int32 × xS) := xbind (sX8_refuse (2 : Int32) s50) (fun r52 s52 => some (r52, s52))
noncomputable def sX8_which_L16   (s16 : xS) : Option (Int32 × xS) := xbind (sX8_refuse (1 : Int32) s16) (fun r18 s18 => some (r18, s18))
noncomputable def sX8_which (p1 : Int32) (p2 : Int32) (s : xS) : Option (Int32 × xS) := xbind (sX8_isSheet p1 s) (fun r1 s1 => (if r1 = 0 then sX8_which_L16  s1 else xbind (sX8_within p2 (0 : Int32) (1 : Int32) s1) (fun r10 s10 => (if r10 = 0 then sX8_which_L16  s10 else (if xin p1 4 then xlet (57 + 2 * p1.toNatClampNeg) (fun o27 => xbind (sX6_isMissing o27 s10) (fun r30 s30 => (if r30 = 0 then (if (s30 o27 1) = (s30 1 0) then xloop (sX8_which_L66 p2 o27) xF ((0 : Int32), (-1 : Int32), (99 : Int32)) s30 else sX8_which_L50  s30) else sX8_which_L50  s30))) else none)))))
set_option maxHeartbeats 4000000 in
set_option maxRecDepth 100000 in
theorem kX8_which (l : Launch) {G : xG} (hG : xC1 G)  {p1 : Int32} {p2 : Int32}  {s : xS} {r : Int32} {s' : xS} (hf : sX8_which p1 p2 s = some (r, s')) : xMet l G 8 yX8_which cX8_which 7 (some .int) [.ref (gA G 0), .int p1, .int p2] s (xI r s') := by
  refine xMet.of (by decide) (Nat.le_of_ble_eq_true rfl) ?_
  show wk l G 8 RX8 cX8_which 7 (some .int) (xI r s') 0 [(0, .ref (gA G 0)), (1, .int p1), (2, .int p2)] [] s
  unfold sX8_which at hf
  have J66 : ∀ (o27 : Nat) (fo27 : o27 ∈ lSheet) (N : Nat) (a4_66 : Int32) (a5_66 : Int32) (a6_66 : Int32)  (s66 : xS), xloop (sX8_which_L66 p2 o27) N (a4_66, a5_66, a6_66) s66 = some (r, s') → wk l G 8 RX8 cX8_which 7 (some .int) (xI r s') 66 [(0, .ref (gA G 0)), (2, .int p2), (3, .ref (gA G o27)), (4, .int a4_66), (5, .int a5_66), (6, .int a6_66)] [] s66 := by
    intro o27 fo27
    intro N
    induction N with
    | zero => intro a4_66 a5_66 a6_66 s66 hf; exact (xloop_0 hf).elim
    | succ N ih66 =>
      intro a4_66 a5_66 a6_66 s66 hf
      rw [xloop_s] at hf
      generalize xloop (sX8_which_L66 p2 o27) N = self66 at hf ih66
      unfold sX8_which_L66 at hf
      dsimp only at hf
      have J88 : ∀   (a4_88 : Int32) (a5_88 : Int32)  (s88 : xS), (sX8_which_L88 a6_66 self66) a4_88 a5_88 s88 = some (r, s') → wk l G 8 RX8 cX8_which 7 (some .int) (xI r s') 88 [(0, .ref (gA G 0)), (2, .int p2), (3, .ref (gA G o27)), (4, .int a4_88), (5, .int a5_88), (6, .int a6_66)] [] s88 := by
        intro a4_88 a5_88 s88 hf
        unfold sX8_which_L88 at hf
        obtain ⟨y88, hy88, hf⟩ := xlet_some hf
        refine wk_iinc (pc := 88) (v := y88) (lv' := [(6, .int y88), (0, .ref (gA G 0)), (2, .int p2), (3, .ref (gA G o27)), (4, .int a4_88), (5, .int a5_88)]) dX8_which_88 5 rfl (by rw [hy88] <;> rfl) (by decide) rfl ?_
        refine wk_goto (pc := 91) (tgt := 66) dX8_which_91 rfl ?_
        exact wk_lv [1, 2, 3, 4, 5, 0] rfl (ih66 a4_88 a5_88 y88  s88 hf)
      refine wk_iload (pc := 66) dX8_which_66 5 rfl ?_
      refine wk_if_lt (pc := 68) (tgt := 94) dX8_which_68 rfl hf (fun hf => ?_) (fun hf => ?_)
      · refine wk_iload_n (pc := 94) dX8_which_94 rfl 1 rfl ?_
        refine wk_if_ne (pc := 95) (tgt := 101) dX8_which_95 rfl hf (fun hf => ?_) (fun hf => ?_)
        · refine wk_iload (pc := 101) dX8_which_101 3 rfl ?_
          refine wk_if_le (pc := 103) (tgt := 111) dX8_which_103 rfl hf (fun hf => ?_) (fun hf => ?_)
          · refine wk_aload_n (pc := 111) dX8_which_111 rfl 0 rfl ?_
            refine wk_iconst (pc := 112) (v := (2 : Int32)) dX8_which_112 (by decide) ?_
            obtain ⟨r113, s113, hc113, hf⟩ := xbind_some hf
            refine wk_callVI (pc := 113) (As := [.int (2 : Int32)]) (rest := []) (kX8_refuse l hG  hc113) cw_X8_86 (by decide) dX8_which_113 (nc_0 hG).2 (nc_0 hG).1 rfl rfl rfl (Nat.le_of_ble_eq_true rfl) ?_
            exact wk_iret (pc := 116) dX8_which_116 rfl (xI_of hf)
          · refine wk_iload (pc := 106) dX8_which_106 4 rfl ?_
            refine wk_goto (pc := 108) (tgt := 116) dX8_which_108 rfl ?_
            exact wk_iret (pc := 116) dX8_which_116 rfl (xI_of hf)
        · refine wk_iload (pc := 98) dX8_which_98 3 rfl ?_
          exact wk_iret (pc := 100) dX8_which_100 rfl (xI_of hf)
      · refine wk_aload_n (pc := 71) dX8_which_71 rfl 0 rfl ?_
        refine wk_aload_n (pc := 72) dX8_which_72 rfl 2 rfl ?_
        refine wk_iload (pc := 73) dX8_which_73 5 rfl ?_
        obtain ⟨r75, s75, hc75, hf⟩ := xbind_some hf
        refine wk_callVI (pc := 75) (As := [.ref (gA G o27), .int a6_66]) (rest := []) (kX8_isShownAs l hG fo27 hc75) cw_X8_249 (by decide) dX8_which_75 (nc_0 hG).2 (nc_0 hG).1 rfl rfl rfl (Nat.le_of_ble_eq_true rfl) ?_
        refine wk_if_eq (pc := 78) (tgt := 88) dX8_which_78 rfl hf (fun hf => ?_) (fun hf => ?_)
        · exact wk_lv [0, 1, 2, 3, 4, 5] rfl (J88  a4_66 a5_66  s75 hf)
        · obtain ⟨y81, hy81, hf⟩ := xlet_some hf
          refine wk_iinc (pc := 81) (v := y81) (lv' := [(4, .int y81), (0, .ref (gA G 0)), (2, .int p2), (3, .ref (gA G o27)), (5, .int a5_66), (6, .int a6_66)]) dX8_which_81 3 rfl (by rw [hy81] <;> rfl) (by decide) rfl ?_
          refine wk_iload (pc := 84) dX8_which_84 5 rfl ?_
          refine wk_istore (pc := 86) (lv' := [(5, .int a6_66), (4, .int y81), (0, .ref (gA G 0)), (2, .int p2), (3, .ref (gA G o27)), (6, .int a6_66)]) dX8_which_86 (by decide) rfl ?_
          exact wk_lv [2, 3, 4, 1, 0, 5] rfl (J88  y81 a6_66  s75 hf)
  have J50 : ∀     (s50 : xS), sX8_which_L50  s50 = some (r, s') → wk l G 8 RX8 cX8_which 7 (some .int) (xI r s') 50 [(0, .ref (gA G 0))] [] s50 := by
    intro s50 hf
    unfold sX8_which_L50 at hf
    refine wk_aload_n (pc := 50) dX8_which_50 rfl 0 rfl ?_
    refine wk_iconst (pc := 51) (v := (2 : Int32)) dX8_which_51 (by decide) ?_
    obtain ⟨r52, s52, hc52, hf⟩ := xbind_some hf
    refine wk_callVI (pc := 52) (As := [.int (2 : Int32)]) (rest := []) (kX8_refuse l hG  hc52) cw_X8_86 (by decide) dX8_which_52 (nc_0 hG).2 (nc_0 hG).1 rfl rfl rfl (Nat.le_of_ble_eq_true rfl) ?_
    exact wk_iret (pc := 55) dX8_which_55 rfl (xI_of hf)
  have J16 : ∀     (s16 : xS), sX8_which_L16  s16 = some (r, s') → wk l G 8 RX8 cX8_which 7 (some .int) (xI r s') 16 [(0, .ref (gA G 0))] [] s16 := by
    intro s16 hf
    unfold sX8_which_L16 at hf
    refine wk_aload_n (pc := 16) dX8_which_16 rfl 0 rfl ?_
    refine wk_iconst (pc := 17) (v := (1 : Int32)) dX8_which_17 (by decide) ?_
    obtain ⟨r18, s18, hc18, hf⟩ := xbind_some hf
    refine wk_callVI (pc := 18) (As := [.int (1 : Int32)]) (rest := []) (kX8_refuse l hG  hc18) cw_X8_86 (by decide) dX8_which_18 (nc_0 hG).2 (nc_0 hG).1 rfl rfl rfl (Nat.le_of_ble_eq_true rfl) ?_
    exact wk_iret (pc := 21) dX8_which_21 rfl (xI_of hf)
  refine wk_iload_n (pc := 0) dX8_which_0 rfl 1 rfl ?_
  obtain ⟨r1, s1, hc1, hf⟩ := xbind_some hf
  refine wk_callSI (pc := 1) (As := [.int p1]) (rest := []) (kX8_isSheet l hG  hc1) cw_X8_239 (by decide) dX8_which_1 rfl (Nat.le_of_ble_eq_true rfl) ?_
  refine wk_if_eq (pc := 4) (tgt := 16) dX8_which_4 rfl hf (fun hf => ?_) (fun hf => ?_)
  · exact wk_lv [0] rfl (J16    s1 hf)
  · refine wk_iload_n (pc := 7) dX8_which_7 rfl 2 rfl ?_
    refine wk_iconst (pc := 8) (v := (0 : Int32)) dX8_which_8 (by decide) ?_
    refine wk_iconst (pc := 9) (v := (1 : Int32)) dX8_which_9 (by decide) ?_
    obtain ⟨r10, s10, hc10, hf⟩ := xbind_some hf
    refine wk_callSI (pc := 10) (As := [.int p2, .int (0 : Int32), .int (1 : Int32)]) (rest := []) (kX8_within l hG  hc10) cw_X8_82 (by decide) dX8_which_10 rfl (Nat.le_of_ble_eq_true rfl) ?_
    refine wk_if_ne (pc := 13) (tgt := 22) dX8_which_13 rfl hf (fun hf => ?_) (fun hf => ?_)
    · refine wk_aload_n (pc := 22) dX8_which_22 rfl 0 rfl ?_
      refine wk_getR (C := RX8) (T := TX8) (N := 13) (pc := 23) dX8_which_23 (nc_0 hG).2 (nc_0 hG).1 rfl qU_X8 11 (by decide) qF_X8_70 rfl ?_
      refine wk_iload_n (pc := 26) dX8_which_26 rfl 1 rfl ?_
      obtain ⟨h27, hf⟩ := xif_some hf
      refine wk_aald (pc := 27) dX8_which_27 (nc_56 hG).2 (nc_56 hG).1 h27 (sheet_at h27) ?_
      obtain ⟨o27, ho27, hf⟩ := xlet_some hf
      refine wk_topR ho27 ?_
      have fo27 : o27 ∈ lSheet := by rw [ho27]; exact sheet_in h27
      refine wk_astore_n (pc := 28) (lv' := [(3, .ref (gA G o27)), (0, .ref (gA G 0)), (1, .int p1), (2, .int p2)]) dX8_which_28 rfl (by decide) rfl ?_
      refine wk_aload_n (pc := 29) dX8_which_29 rfl 0 rfl ?_
      obtain ⟨r30, s30, hc30, hf⟩ := xbind_some hf
      refine wk_callVI (pc := 30) (As := []) (rest := []) (kX6_isMissing l hG fo27 hc30) cw_X8_242 (by decide) dX8_which_30 (sX6_0 hG fo27).2 (sX6_0 hG fo27).1 rfl rfl rfl (Nat.le_of_ble_eq_true rfl) ?_
      refine wk_if_ne (pc := 33) (tgt := 50) dX8_which_33 rfl hf (fun hf => ?_) (fun hf => ?_)
      · exact wk_lv [1] rfl (J50    s30 hf)
      · refine wk_aload_n (pc := 36) dX8_which_36 rfl 0 rfl ?_
        refine wk_getI (C := RX6) (T := TX6) (N := 3) (pc := 37) dX8_which_37 (sX6_0 hG fo27).2 (sX6_0 hG fo27).1 rfl qU_X6 1 (by decide) qF_X8_246 rfl ?_
        refine wk_aload_n (pc := 40) dX8_which_40 rfl 1 rfl ?_
        refine wk_getR (C := RX8) (T := TX8) (N := 13) (pc := 41) dX8_which_41 (nc_0 hG).2 (nc_0 hG).1 rfl qU_X8 0 (by decide) qF_X8_10 rfl ?_
        refine wk_getI (C := RX0) (T := TX0) (N := 9) (pc := 44) dX8_which_44 (nc_1 hG).2 (nc_1 hG).1 rfl qU_X0 0 (by decide) qF_X8_93 rfl ?_
        refine wk_icmp_eq (pc := 47) (tgt := 56) dX8_which_47 rfl hf (fun hf => ?_) (fun hf => ?_)
        · refine wk_iconst (pc := 56) (v := (0 : Int32)) dX8_which_56 (by decide) ?_
          refine wk_istore (pc := 57) (lv' := [(4, .int (0 : Int32)), (3, .ref (gA G o27)), (0, .ref (gA G 0)), (1, .int p1), (2, .int p2)]) dX8_which_57 (by decide) rfl ?_
          refine wk_iconst (pc := 59) (v := (-1 : Int32)) dX8_which_59 (by decide) ?_
          refine wk_istore (pc := 60) (lv' := [(5, .int (-1 : Int32)), (4, .int (0 : Int32)), (3, .ref (gA G o27)), (0, .ref (gA G 0)), (1, .int p1), (2, .int p2)]) dX8_which_60 (by decide) rfl ?_
          refine wk_bipush (pc := 62) (v := (99 : Int32)) dX8_which_62 (by decide) ?_
          refine wk_istore (pc := 64) (lv' := [(6, .int (99 : Int32)), (5, .int (-1 : Int32)), (4, .int (0 : Int32)), (3, .ref (gA G o27)), (0, .ref (gA G 0)), (1, .int p1), (2, .int p2)]) dX8_which_64 (by decide) rfl ?_
          exact wk_lv [4, 6, 3, 2, 1, 0] rfl (J66 o27 fo27 xF (0 : Int32) (-1 : Int32) (99 : Int32)  s30 hf)
        · exact wk_lv [1] rfl (J50    s30 hf)
    · exact wk_lv [0] rfl (J16    s10 hf)
noncomputable def sX8_struck (p1 : Int32) (s : xS) : Option (Int32 × xS) := xbind (sX8_isCell p1 s) (fun r2 s2 => (if r2 = 0 then xbind (sX8_refuse (1 : Int32) s2) (fun r10 s10 => some (r10, s10)) else xbind (sX1_draw 1 (s2 1 2) s2) (fun _ s29 => xbind (sX8_think (60 : Int32) s29) (fun _ s35 => xbind (sX3_setAt 33 p1 s35) (fun r43 s43 => xbind (sX3_setLost 33 s43) (fun r50 s50 => some ((r43 &&& r50), s50)))))))
set_option maxHeartbeats 4000000 in
set_option maxRecDepth 100000 in
theorem kX8_struck (l : Launch) {G : xG} (hG : xC1 G)  {p1 : Int32}  {s : xS} {r : Int32} {s' : xS} (hf : sX8_struck p1 s = some (r, s')) : xMet l G 8 yX8_struck cX8_struck 2 (some .int) [.ref (gA G 0), .int p1] s (xI r s') := by
  refine xMet.of (by decide) (Nat.le_of_ble_eq_true rfl) ?_
  show wk l G 8 RX8 cX8_struck 2 (some .int) (xI r s') 0 [(0, .ref (gA G 0)), (1, .int p1)] [] s
  unfold sX8_struck at hf
  refine wk_aload_n (pc := 0) dX8_struck_0 rfl 0 rfl ?_
  refine wk_iload_n (pc := 1) dX8_struck_1 rfl 1 rfl ?_
  obtain ⟨r2, s2, hc2, hf⟩ := xbind_some hf
  refine wk_callVI (pc := 2) (As := [.int p1]) (rest := []) (kX8_isCell l hG  hc2) cw_X8_96 (by decide) dX8_struck_2 (nc_0 hG).2 (nc_0 hG).1 rfl rfl rfl (Nat.le_of_ble_eq_true rfl) ?_
  refine wk_if_ne (pc := 5) (tgt := 14) dX8_struck_5 rfl hf (fun hf => ?_) (fun hf => ?_)
  · refine wk_aload_n (pc := 14) dX8_struck_14 rfl 0 rfl ?_
    refine wk_getR (C := RX8) (T := TX8) (N := 13) (pc := 15) dX8_struck_15 (nc_0 hG).2 (nc_0 hG).1 rfl qU_X8 8 (by decide) qF_X8_49 rfl ?_
    refine wk_aload_n (pc := 18) dX8_struck_18 rfl 0 rfl ?_
    refine wk_getR (C := RX8) (T := TX8) (N := 13) (pc := 19) dX8_struck_19 (nc_0 hG).2 (nc_0 hG).1 rfl qU_X8 0 (by decide) qF_X8_10 rfl ?_
    refine wk_aload_n (pc := 22) dX8_struck_22 rfl 0 rfl ?_
    refine wk_getR (C := RX8) (T := TX8) (N := 13) (pc := 23) dX8_struck_23 (nc_0 hG).2 (nc_0 hG).1 rfl qU_X8 0 (by decide) qF_X8_10 rfl ?_
    refine wk_getI (C := RX0) (T := TX0) (N := 9) (pc := 26) dX8_struck_26 (nc_1 hG).2 (nc_1 hG).1 rfl qU_X0 2 (by decide) qF_X8_116 rfl ?_
    obtain ⟨⟨⟩, s29, hc29, hf⟩ := xbind_some hf
    refine wk_callVU (pc := 29) (As := [.ref (gA G 1), .int (s2 1 2)]) (rest := []) (kX1_draw l hG (by decide) hc29) cw_X8_155 (by decide) dX8_struck_29 (nc_45 hG).2 (nc_45 hG).1 rfl rfl rfl (Nat.le_of_ble_eq_true rfl) ?_
    refine wk_aload_n (pc := 32) dX8_struck_32 rfl 0 rfl ?_
    refine wk_bipush (pc := 33) (v := (60 : Int32)) dX8_struck_33 (by decide) ?_
    obtain ⟨⟨⟩, s35, hc35, hf⟩ := xbind_some hf
    refine wk_callVU (pc := 35) (As := [.int (60 : Int32)]) (rest := []) (kX8_think l hG  hc35) cw_X8_225 (by decide) dX8_struck_35 (nc_0 hG).2 (nc_0 hG).1 rfl rfl rfl (Nat.le_of_ble_eq_true rfl) ?_
    refine wk_aload_n (pc := 38) dX8_struck_38 rfl 0 rfl ?_
    refine wk_getR (C := RX8) (T := TX8) (N := 13) (pc := 39) dX8_struck_39 (nc_0 hG).2 (nc_0 hG).1 rfl qU_X8 7 (by decide) qF_X8_43 rfl ?_
    refine wk_iload_n (pc := 42) dX8_struck_42 rfl 1 rfl ?_
    obtain ⟨r43, s43, hc43, hf⟩ := xbind_some hf
    refine wk_callVI (pc := 43) (As := [.int p1]) (rest := []) (kX3_setAt l hG (by decide) hc43) cw_X8_122 (by decide) dX8_struck_43 (nc_33 hG).2 (nc_33 hG).1 rfl rfl rfl (Nat.le_of_ble_eq_true rfl) ?_
    refine wk_aload_n (pc := 46) dX8_struck_46 rfl 0 rfl ?_
    refine wk_getR (C := RX8) (T := TX8) (N := 13) (pc := 47) dX8_struck_47 (nc_0 hG).2 (nc_0 hG).1 rfl qU_X8 7 (by decide) qF_X8_43 rfl ?_
    obtain ⟨r50, s50, hc50, hf⟩ := xbind_some hf
    refine wk_callVI (pc := 50) (As := []) (rest := [.int r43]) (kX3_setLost l hG (by decide) hc50) cw_X8_256 (by decide) dX8_struck_50 (nc_33 hG).2 (nc_33 hG).1 rfl rfl rfl (Nat.le_of_ble_eq_true rfl) ?_
    refine wk_iand (pc := 53) dX8_struck_53 ?_
    exact wk_iret (pc := 54) dX8_struck_54 rfl (xI_of hf)
  · refine wk_aload_n (pc := 8) dX8_struck_8 rfl 0 rfl ?_
    refine wk_iconst (pc := 9) (v := (1 : Int32)) dX8_struck_9 (by decide) ?_
    obtain ⟨r10, s10, hc10, hf⟩ := xbind_some hf
    refine wk_callVI (pc := 10) (As := [.int (1 : Int32)]) (rest := []) (kX8_refuse l hG  hc10) cw_X8_86 (by decide) dX8_struck_10 (nc_0 hG).2 (nc_0 hG).1 rfl rfl rfl (Nat.le_of_ble_eq_true rfl) ?_
    exact wk_iret (pc := 13) dX8_struck_13 rfl (xI_of hf)
noncomputable def sX8_dark_L135 (a5_51 : Int32) (self51 : Int32 × Int32 × Int32 → xS → Option (Int32 × xS)) (a3_135 : Int32) (a4_135 : Int32) (s135 : xS) : Option (Int32 × xS) := xlet (a5_51 + (1 : Int32)) (fun y135 => self51 (a3_135, a4_135, y135) s135)
noncomputable def sX8_dark_L51 (p1 : Int32) (r20 : Int32) (self51 : Int32 × Int32 × Int32 → xS → Option (Int32 × xS)) : Int32 × Int32 × Int32 → xS → Option (Int32 × xS) := fun (a3_51, a4_51, a5_51) s51 => (if ((1 : Int32) <<< ((s51 1 0) &&& 31)) ≤ a5_51 then (if a3_51 < 0 then xbind (sX8_refuse (2 : Int32) s51) (fun r151 s151 => some (r151, s151)) else some (a3_51, s51)) else (if (a5_51 &&& ((s51 1 3) ^^^ (-1 : Int32))) = 0 then xbind (sJ6_bitCount_0f7a4 a5_51 s51) (fun r82 s82 => (if a4_51 ≤ r82 then (sX8_dark_L135 a5_51 self51) a3_51 a4_51 s82 else xlet (xup s82 45 (upd (s82 45) 0 ((s82 1 3) &&& (a5_51 ^^^ (-1 : Int32))))) (fun s106 => xbind (sX8_think p1 s106) (fun _ s111 => xbind (sX3_countLost 33 s111) (fun r118 s118 => (if r20 < r118 then (sX8_dark_L135 a5_51 self51) a3_51 a4_51 s118 else xbind (sJ6_bitCount_0f7a4 a5_51 s118) (fun r130 s130 => (sX8_dark_L135 a5_51 self51) a5_51 r130 s130))))))) else (sX8_dark_L135 a5_51 self51) a3_51 a4_51 s51))
noncomputable def sX8_dark (p1 : Int32) (s : xS) : Option (Int32 × xS) := xbind (sX8_within p1 (0 : Int32) (20 : Int32) s) (fun r4 s4 => (if r4 = 0 then xbind (sX8_refuse (1 : Int32) s4) (fun r12 s12 => some (r12, s12)) else xbind (sX3_countLost 21 s4) (fun r20 s20 => xbind (sX1_draw 1 (s20 1 2) s20) (fun _ s39 => xloop (sX8_dark_L51 p1 r20) xF ((-1 : Int32), (9 : Int32), (0 : Int32)) s39))))
set_option maxHeartbeats 4000000 in
set_option maxRecDepth 100000 in
theorem kX8_dark (l : Launch) {G : xG} (hG : xC1 G)  {p1 : Int32}  {s : xS} {r : Int32} {s' : xS} (hf : sX8_dark p1 s = some (r, s')) : xMet l G 8 yX8_dark cX8_dark 6 (some .int) [.ref (gA G 0), .int p1] s (xI r s') := by
  refine xMet.of (by decide) (Nat.le_of_ble_eq_true rfl) ?_
  show wk l G 8 RX8 cX8_dark 6 (some .int) (xI r s') 0 [(0, .ref (gA G 0)), (1, .int p1)] [] s
  unfold sX8_dark at hf
  have J51 : ∀ (r20 : Int32)  (N : Nat) (a3_51 : Int32) (a4_51 : Int32) (a5_51 : Int32)  (s51 : xS), xloop (sX8_dark_L51 p1 r20) N (a3_51, a4_51, a5_51) s51 = some (r, s') → wk l G 8 RX8 cX8_dark 6 (some .int) (xI r s') 51 [(0, .ref (gA G 0)), (1, .int p1), (2, .int r20), (3, .int a3_51), (4, .int a4_51), (5, .int a5_51)] [] s51 := by
    intro r20
    intro N
    induction N with
    | zero => intro a3_51 a4_51 a5_51 s51 hf; exact (xloop_0 hf).elim
    | succ N ih51 =>
      intro a3_51 a4_51 a5_51 s51 hf
      rw [xloop_s] at hf
      generalize xloop (sX8_dark_L51 p1 r20) N = self51 at hf ih51
      unfold sX8_dark_L51 at hf
      dsimp only at hf
      have J135 : ∀   (a3_135 : Int32) (a4_135 : Int32)  (s135 : xS), (sX8_dark_L135 a5_51 self51) a3_135 a4_135 s135 = some (r, s') → wk l G 8 RX8 cX8_dark 6 (some .int) (xI r s') 135 [(0, .ref (gA G 0)), (1, .int p1), (2, .int r20), (3, .int a3_135), (4, .int a4_135), (5, .int a5_51)] [] s135 := by
        intro a3_135 a4_135 s135 hf
        unfold sX8_dark_L135 at hf
        obtain ⟨y135, hy135, hf⟩ := xlet_some hf
        refine wk_iinc (pc := 135) (v := y135) (lv' := [(5, .int y135), (0, .ref (gA G 0)), (1, .int p1), (2, .int r20), (3, .int a3_135), (4, .int a4_135)]) dX8_dark_135 5 rfl (by rw [hy135] <;> rfl) (by decide) rfl ?_
        refine wk_goto (pc := 138) (tgt := 51) dX8_dark_138 rfl ?_
        exact wk_lv [1, 2, 3, 4, 5, 0] rfl (ih51 a3_135 a4_135 y135  s135 hf)
      refine wk_iload (pc := 51) dX8_dark_51 5 rfl ?_
      refine wk_iconst (pc := 53) (v := (1 : Int32)) dX8_dark_53 (by decide) ?_
      refine wk_aload_n (pc := 54) dX8_dark_54 rfl 0 rfl ?_
      refine wk_getR (C := RX8) (T := TX8) (N := 13) (pc := 55) dX8_dark_55 (nc_0 hG).2 (nc_0 hG).1 rfl qU_X8 0 (by decide) qF_X8_10 rfl ?_
      refine wk_getI (C := RX0) (T := TX0) (N := 9) (pc := 58) dX8_dark_58 (nc_1 hG).2 (nc_1 hG).1 rfl qU_X0 0 (by decide) qF_X8_93 rfl ?_
      refine wk_ishl (pc := 61) dX8_dark_61 ?_
      refine wk_icmp_ge (pc := 62) (tgt := 141) dX8_dark_62 rfl hf (fun hf => ?_) (fun hf => ?_)
      · refine wk_iload_n (pc := 141) dX8_dark_141 rfl 3 rfl ?_
        refine wk_if_lt (pc := 142) (tgt := 149) dX8_dark_142 rfl hf (fun hf => ?_) (fun hf => ?_)
        · refine wk_aload_n (pc := 149) dX8_dark_149 rfl 0 rfl ?_
          refine wk_iconst (pc := 150) (v := (2 : Int32)) dX8_dark_150 (by decide) ?_
          obtain ⟨r151, s151, hc151, hf⟩ := xbind_some hf
          refine wk_callVI (pc := 151) (As := [.int (2 : Int32)]) (rest := []) (kX8_refuse l hG  hc151) cw_X8_86 (by decide) dX8_dark_151 (nc_0 hG).2 (nc_0 hG).1 rfl rfl rfl (Nat.le_of_ble_eq_true rfl) ?_
          exact wk_iret (pc := 154) dX8_dark_154 rfl (xI_of hf)
        · refine wk_iload_n (pc := 145) dX8_dark_145 rfl 3 rfl ?_
          refine wk_goto (pc := 146) (tgt := 154) dX8_dark_146 rfl ?_
          exact wk_iret (pc := 154) dX8_dark_154 rfl (xI_of hf)
      · refine wk_iload (pc := 65) dX8_dark_65 5 rfl ?_
        refine wk_aload_n (pc := 67) dX8_dark_67 rfl 0 rfl ?_
        refine wk_getR (C := RX8) (T := TX8) (N := 13) (pc := 68) dX8_dark_68 (nc_0 hG).2 (nc_0 hG).1 rfl qU_X8 0 (by decide) qF_X8_10 rfl ?_
        refine wk_getI (C := RX0) (T := TX0) (N := 9) (pc := 71) dX8_dark_71 (nc_1 hG).2 (nc_1 hG).1 rfl qU_X0 3 (by decide) qF_X8_128 rfl ?_
        refine wk_iconst (pc := 74) (v := (-1 : Int32)) dX8_dark_74 (by decide) ?_
        refine wk_ixor (pc := 75) dX8_dark_75 ?_
        refine wk_iand (pc := 76) dX8_dark_76 ?_
        refine wk_if_ne (pc := 77) (tgt := 135) dX8_dark_77 rfl hf (fun hf => ?_) (fun hf => ?_)
        · exact wk_lv [0, 1, 2, 3, 4, 5] rfl (J135  a3_51 a4_51  s51 hf)
        · refine wk_iload (pc := 80) dX8_dark_80 5 rfl ?_
          obtain ⟨r82, s82, hc82, hf⟩ := xbind_some hf
          refine wk_callSI (pc := 82) (As := [.int a5_51]) (rest := []) (kJ6_bitCount_0f7a4 l trivial  hc82) cw_X8_259 (by decide) dX8_dark_82 rfl (Nat.le_of_ble_eq_true rfl) ?_
          refine wk_iload (pc := 85) dX8_dark_85 4 rfl ?_
          refine wk_icmp_ge (pc := 87) (tgt := 135) dX8_dark_87 rfl hf (fun hf => ?_) (fun hf => ?_)
          · exact wk_lv [0, 1, 2, 3, 4, 5] rfl (J135  a3_51 a4_51  s82 hf)
          · refine wk_aload_n (pc := 90) dX8_dark_90 rfl 0 rfl ?_
            refine wk_getR (C := RX8) (T := TX8) (N := 13) (pc := 91) dX8_dark_91 (nc_0 hG).2 (nc_0 hG).1 rfl qU_X8 8 (by decide) qF_X8_49 rfl ?_
            refine wk_aload_n (pc := 94) dX8_dark_94 rfl 0 rfl ?_
            refine wk_getR (C := RX8) (T := TX8) (N := 13) (pc := 95) dX8_dark_95 (nc_0 hG).2 (nc_0 hG).1 rfl qU_X8 0 (by decide) qF_X8_10 rfl ?_
            refine wk_getI (C := RX0) (T := TX0) (N := 9) (pc := 98) dX8_dark_98 (nc_1 hG).2 (nc_1 hG).1 rfl qU_X0 3 (by decide) qF_X8_128 rfl ?_
            refine wk_iload (pc := 101) dX8_dark_101 5 rfl ?_
            refine wk_iconst (pc := 103) (v := (-1 : Int32)) dX8_dark_103 (by decide) ?_
            refine wk_ixor (pc := 104) dX8_dark_104 ?_
            refine wk_iand (pc := 105) dX8_dark_105 ?_
            refine wk_putI (C := RX1) (T := TX1) (N := 5) (ty := .int) (pc := 106) dX8_dark_106 (nc_45 hG).2 (nc_45 hG).1 rfl qU_X1 tyX1 tyX1_ok nmX1 0 (by decide) qF_X8_264 rfl rfl rfl rfl rfl ?_
            obtain ⟨s106, hs106, hf⟩ := xlet_some hf
            refine wk_sig hs106 ?_
            refine wk_aload_n (pc := 109) dX8_dark_109 rfl 0 rfl ?_
            refine wk_iload_n (pc := 110) dX8_dark_110 rfl 1 rfl ?_
            obtain ⟨⟨⟩, s111, hc111, hf⟩ := xbind_some hf
            refine wk_callVU (pc := 111) (As := [.int p1]) (rest := []) (kX8_think l hG  hc111) cw_X8_225 (by decide) dX8_dark_111 (nc_0 hG).2 (nc_0 hG).1 rfl rfl rfl (Nat.le_of_ble_eq_true rfl) ?_
            refine wk_aload_n (pc := 114) dX8_dark_114 rfl 0 rfl ?_
            refine wk_getR (C := RX8) (T := TX8) (N := 13) (pc := 115) dX8_dark_115 (nc_0 hG).2 (nc_0 hG).1 rfl qU_X8 7 (by decide) qF_X8_43 rfl ?_
            obtain ⟨r118, s118, hc118, hf⟩ := xbind_some hf
            refine wk_callVI (pc := 118) (As := []) (rest := []) (kX3_countLost l hG (by decide) hc118) cw_X8_230 (by decide) dX8_dark_118 (nc_33 hG).2 (nc_33 hG).1 rfl rfl rfl (Nat.le_of_ble_eq_true rfl) ?_
            refine wk_iload_n (pc := 121) dX8_dark_121 rfl 2 rfl ?_
            refine wk_icmp_gt (pc := 122) (tgt := 135) dX8_dark_122 rfl hf (fun hf => ?_) (fun hf => ?_)
            · exact wk_lv [0, 1, 2, 3, 4, 5] rfl (J135  a3_51 a4_51  s118 hf)
            · refine wk_iload (pc := 125) dX8_dark_125 5 rfl ?_
              refine wk_istore_n (pc := 127) (lv' := [(3, .int a5_51), (0, .ref (gA G 0)), (1, .int p1), (2, .int r20), (4, .int a4_51), (5, .int a5_51)]) dX8_dark_127 rfl (by decide) rfl ?_
              refine wk_iload (pc := 128) dX8_dark_128 5 rfl ?_
              obtain ⟨r130, s130, hc130, hf⟩ := xbind_some hf
              refine wk_callSI (pc := 130) (As := [.int a5_51]) (rest := []) (kJ6_bitCount_0f7a4 l trivial  hc130) cw_X8_259 (by decide) dX8_dark_130 rfl (Nat.le_of_ble_eq_true rfl) ?_
              refine wk_istore (pc := 133) (lv' := [(4, .int r130), (3, .int a5_51), (0, .ref (gA G 0)), (1, .int p1), (2, .int r20), (5, .int a5_51)]) dX8_dark_133 (by decide) rfl ?_
              exact wk_lv [2, 3, 4, 1, 0, 5] rfl (J135  a5_51 r130  s130 hf)
  refine wk_iload_n (pc := 0) dX8_dark_0 rfl 1 rfl ?_
  refine wk_iconst (pc := 1) (v := (0 : Int32)) dX8_dark_1 (by decide) ?_
  refine wk_bipush (pc := 2) (v := (20 : Int32)) dX8_dark_2 (by decide) ?_
  obtain ⟨r4, s4, hc4, hf⟩ := xbind_some hf
  refine wk_callSI (pc := 4) (As := [.int p1, .int (0 : Int32), .int (20 : Int32)]) (rest := []) (kX8_within l hG  hc4) cw_X8_82 (by decide) dX8_dark_4 rfl (Nat.le_of_ble_eq_true rfl) ?_
  refine wk_if_ne (pc := 7) (tgt := 16) dX8_dark_7 rfl hf (fun hf => ?_) (fun hf => ?_)
  · refine wk_aload_n (pc := 16) dX8_dark_16 rfl 0 rfl ?_
    refine wk_getR (C := RX8) (T := TX8) (N := 13) (pc := 17) dX8_dark_17 (nc_0 hG).2 (nc_0 hG).1 rfl qU_X8 1 (by decide) qF_X8_19 rfl ?_
    obtain ⟨r20, s20, hc20, hf⟩ := xbind_some hf
    refine wk_callVI (pc := 20) (As := []) (rest := []) (kX3_countLost l hG (by decide) hc20) cw_X8_230 (by decide) dX8_dark_20 (nc_21 hG).2 (nc_21 hG).1 rfl rfl rfl (Nat.le_of_ble_eq_true rfl) ?_
    refine wk_istore_n (pc := 23) (lv' := [(2, .int r20), (0, .ref (gA G 0)), (1, .int p1)]) dX8_dark_23 rfl (by decide) rfl ?_
    refine wk_aload_n (pc := 24) dX8_dark_24 rfl 1 rfl ?_
    refine wk_getR (C := RX8) (T := TX8) (N := 13) (pc := 25) dX8_dark_25 (nc_0 hG).2 (nc_0 hG).1 rfl qU_X8 8 (by decide) qF_X8_49 rfl ?_
    refine wk_aload_n (pc := 28) dX8_dark_28 rfl 1 rfl ?_
    refine wk_getR (C := RX8) (T := TX8) (N := 13) (pc := 29) dX8_dark_29 (nc_0 hG).2 (nc_0 hG).1 rfl qU_X8 0 (by decide) qF_X8_10 rfl ?_
    refine wk_aload_n (pc := 32) dX8_dark_32 rfl 1 rfl ?_
    refine wk_getR (C := RX8) (T := TX8) (N := 13) (pc := 33) dX8_dark_33 (nc_0 hG).2 (nc_0 hG).1 rfl qU_X8 0 (by decide) qF_X8_10 rfl ?_
    refine wk_getI (C := RX0) (T := TX0) (N := 9) (pc := 36) dX8_dark_36 (nc_1 hG).2 (nc_1 hG).1 rfl qU_X0 2 (by decide) qF_X8_116 rfl ?_
    obtain ⟨⟨⟩, s39, hc39, hf⟩ := xbind_some hf
    refine wk_callVU (pc := 39) (As := [.ref (gA G 1), .int (s20 1 2)]) (rest := []) (kX1_draw l hG (by decide) hc39) cw_X8_155 (by decide) dX8_dark_39 (nc_45 hG).2 (nc_45 hG).1 rfl rfl rfl (Nat.le_of_ble_eq_true rfl) ?_
    refine wk_iconst (pc := 42) (v := (-1 : Int32)) dX8_dark_42 (by decide) ?_
    refine wk_istore_n (pc := 43) (lv' := [(3, .int (-1 : Int32)), (2, .int r20), (0, .ref (gA G 0)), (1, .int p1)]) dX8_dark_43 rfl (by decide) rfl ?_
    refine wk_bipush (pc := 44) (v := (9 : Int32)) dX8_dark_44 (by decide) ?_
    refine wk_istore (pc := 46) (lv' := [(4, .int (9 : Int32)), (3, .int (-1 : Int32)), (2, .int r20), (0, .ref (gA G 0)), (1, .int p1)]) dX8_dark_46 (by decide) rfl ?_
    refine wk_iconst (pc := 48) (v := (0 : Int32)) dX8_dark_48 (by decide) ?_
    refine wk_istore (pc := 49) (lv' := [(5, .int (0 : Int32)), (4, .int (9 : Int32)), (3, .int (-1 : Int32)), (2, .int r20), (0, .ref (gA G 0)), (1, .int p1)]) dX8_dark_49 (by decide) rfl ?_
    exact wk_lv [4, 5, 3, 2, 1, 0] rfl (J51 r20 xF (-1 : Int32) (9 : Int32) (0 : Int32)  s39 hf)
  · refine wk_aload_n (pc := 10) dX8_dark_10 rfl 0 rfl ?_
    refine wk_iconst (pc := 11) (v := (1 : Int32)) dX8_dark_11 (by decide) ?_
    obtain ⟨r12, s12, hc12, hf⟩ := xbind_some hf
    refine wk_callVI (pc := 12) (As := [.int (1 : Int32)]) (rest := []) (kX8_refuse l hG  hc12) cw_X8_86 (by decide) dX8_dark_12 (nc_0 hG).2 (nc_0 hG).1 rfl rfl rfl (Nat.le_of_ble_eq_true rfl) ?_
    exact wk_iret (pc := 15) dX8_dark_15 rfl (xI_of hf)
noncomputable def sX8_deep_L26 (p1 : Int32) (p2 : Int32) (self26 : Int32 → xS → Option (Int32 × xS)) : Int32 → xS → Option (Int32 × xS) := fun a3_26 s26 => (if (99 : Int32) < a3_26 then xbind (sX8_refuse (2 : Int32) s26) (fun r63 s63 => some (r63, s63)) else xbind (sX0_depthIn 1 p1 ((s26 1 1) - a3_26) s26) (fun r46 s46 => (if r46 < p2 then xlet (a3_26 + (1 : Int32)) (fun y55 => self26 y55 s46) else some (a3_26, s46))))
noncomputable def sX8_deep_L18   (s18 : xS) : Option (Int32 × xS) := xbind (sX8_refuse (1 : Int32) s18) (fun r20 s20 => some (r20, s20))
noncomputable def sX8_deep (p1 : Int32) (p2 : Int32) (s : xS) : Option (Int32 × xS) := xbind (sX8_isCell p1 s) (fun r2 s2 => (if r2 = 0 then sX8_deep_L18  s2 else xbind (sX8_within p2 (0 : Int32) (19 : Int32) s2) (fun r12 s12 => (if r12 = 0 then sX8_deep_L18  s12 else xloop (sX8_deep_L26 p1 p2) xF (0 : Int32) s12))))
set_option maxHeartbeats 4000000 in
set_option maxRecDepth 100000 in
theorem kX8_deep (l : Launch) {G : xG} (hG : xC1 G)  {p1 : Int32} {p2 : Int32}  {s : xS} {r : Int32} {s' : xS} (hf : sX8_deep p1 p2 s = some (r, s')) : xMet l G 6 yX8_deep cX8_deep 4 (some .int) [.ref (gA G 0), .int p1, .int p2] s (xI r s') := by
  refine xMet.of (by decide) (Nat.le_of_ble_eq_true rfl) ?_
  show wk l G 6 RX8 cX8_deep 4 (some .int) (xI r s') 0 [(0, .ref (gA G 0)), (1, .int p1), (2, .int p2)] [] s
  unfold sX8_deep at hf
  have J26 : ∀   (N : Nat) (a3_26 : Int32)  (s26 : xS), xloop (sX8_deep_L26 p1 p2) N a3_26 s26 = some (r, s') → wk l G 6 RX8 cX8_deep 4 (some .int) (xI r s') 26 [(0, .ref (gA G 0)), (1, .int p1), (2, .int p2), (3, .int a3_26)] [] s26 := by
    intro N
    induction N with
    | zero => intro a3_26 s26 hf; exact (xloop_0 hf).elim
    | succ N ih26 =>
      intro a3_26 s26 hf
      rw [xloop_s] at hf
      generalize xloop (sX8_deep_L26 p1 p2) N = self26 at hf ih26
      unfold sX8_deep_L26 at hf
      refine wk_iload_n (pc := 26) dX8_deep_26 rfl 3 rfl ?_
      refine wk_bipush (pc := 27) (v := (99 : Int32)) dX8_deep_27 (by decide) ?_
      refine wk_icmp_gt (pc := 29) (tgt := 61) dX8_deep_29 rfl hf (fun hf => ?_) (fun hf => ?_)
      · refine wk_aload_n (pc := 61) dX8_deep_61 rfl 0 rfl ?_
        refine wk_iconst (pc := 62) (v := (2 : Int32)) dX8_deep_62 (by decide) ?_
        obtain ⟨r63, s63, hc63, hf⟩ := xbind_some hf
        refine wk_callVI (pc := 63) (As := [.int (2 : Int32)]) (rest := []) (kX8_refuse l hG  hc63) cw_X8_86 (by decide) dX8_deep_63 (nc_0 hG).2 (nc_0 hG).1 rfl rfl rfl (Nat.le_of_ble_eq_true rfl) ?_
        exact wk_iret (pc := 66) dX8_deep_66 rfl (xI_of hf)
      · refine wk_aload_n (pc := 32) dX8_deep_32 rfl 0 rfl ?_
        refine wk_getR (C := RX8) (T := TX8) (N := 13) (pc := 33) dX8_deep_33 (nc_0 hG).2 (nc_0 hG).1 rfl qU_X8 0 (by decide) qF_X8_10 rfl ?_
        refine wk_iload_n (pc := 36) dX8_deep_36 rfl 1 rfl ?_
        refine wk_aload_n (pc := 37) dX8_deep_37 rfl 0 rfl ?_
        refine wk_getR (C := RX8) (T := TX8) (N := 13) (pc := 38) dX8_deep_38 (nc_0 hG).2 (nc_0 hG).1 rfl qU_X8 0 (by decide) qF_X8_10 rfl ?_
        refine wk_getI (C := RX0) (T := TX0) (N := 9) (pc := 41) dX8_deep_41 (nc_1 hG).2 (nc_1 hG).1 rfl qU_X0 1 (by decide) qF_X8_109 rfl ?_
        refine wk_iload_n (pc := 44) dX8_deep_44 rfl 3 rfl ?_
        refine wk_isub (pc := 45) dX8_deep_45 ?_
        obtain ⟨r46, s46, hc46, hf⟩ := xbind_some hf
        refine wk_callVI (pc := 46) (As := [.int p1, .int ((s26 1 1) - a3_26)]) (rest := []) (kX0_depthIn l hG (by decide) hc46) cw_X8_112 (by decide) dX8_deep_46 (nc_1 hG).2 (nc_1 hG).1 rfl rfl rfl (Nat.le_of_ble_eq_true rfl) ?_
        refine wk_iload_n (pc := 49) dX8_deep_49 rfl 2 rfl ?_
        refine wk_icmp_lt (pc := 50) (tgt := 55) dX8_deep_50 rfl hf (fun hf => ?_) (fun hf => ?_)
        · obtain ⟨y55, hy55, hf⟩ := xlet_some hf
          refine wk_iinc (pc := 55) (v := y55) (lv' := [(3, .int y55), (0, .ref (gA G 0)), (1, .int p1), (2, .int p2)]) dX8_deep_55 3 rfl (by rw [hy55] <;> rfl) (by decide) rfl ?_
          refine wk_goto (pc := 58) (tgt := 26) dX8_deep_58 rfl ?_
          exact wk_lv [1, 2, 3, 0] rfl (ih26 y55  s46 hf)
        · refine wk_iload_n (pc := 53) dX8_deep_53 rfl 3 rfl ?_
          exact wk_iret (pc := 54) dX8_deep_54 rfl (xI_of hf)
  have J18 : ∀     (s18 : xS), sX8_deep_L18  s18 = some (r, s') → wk l G 6 RX8 cX8_deep 4 (some .int) (xI r s') 18 [(0, .ref (gA G 0))] [] s18 := by
    intro s18 hf
    unfold sX8_deep_L18 at hf
    refine wk_aload_n (pc := 18) dX8_deep_18 rfl 0 rfl ?_
    refine wk_iconst (pc := 19) (v := (1 : Int32)) dX8_deep_19 (by decide) ?_
    obtain ⟨r20, s20, hc20, hf⟩ := xbind_some hf
    refine wk_callVI (pc := 20) (As := [.int (1 : Int32)]) (rest := []) (kX8_refuse l hG  hc20) cw_X8_86 (by decide) dX8_deep_20 (nc_0 hG).2 (nc_0 hG).1 rfl rfl rfl (Nat.le_of_ble_eq_true rfl) ?_
    exact wk_iret (pc := 23) dX8_deep_23 rfl (xI_of hf)
  refine wk_aload_n (pc := 0) dX8_deep_0 rfl 0 rfl ?_
  refine wk_iload_n (pc := 1) dX8_deep_1 rfl 1 rfl ?_
  obtain ⟨r2, s2, hc2, hf⟩ := xbind_some hf
  refine wk_callVI (pc := 2) (As := [.int p1]) (rest := []) (kX8_isCell l hG  hc2) cw_X8_96 (by decide) dX8_deep_2 (nc_0 hG).2 (nc_0 hG).1 rfl rfl rfl (Nat.le_of_ble_eq_true rfl) ?_
  refine wk_if_eq (pc := 5) (tgt := 18) dX8_deep_5 rfl hf (fun hf => ?_) (fun hf => ?_)
  · exact wk_lv [0] rfl (J18    s2 hf)
  · refine wk_iload_n (pc := 8) dX8_deep_8 rfl 2 rfl ?_
    refine wk_iconst (pc := 9) (v := (0 : Int32)) dX8_deep_9 (by decide) ?_
    refine wk_bipush (pc := 10) (v := (19 : Int32)) dX8_deep_10 (by decide) ?_
    obtain ⟨r12, s12, hc12, hf⟩ := xbind_some hf
    refine wk_callSI (pc := 12) (As := [.int p2, .int (0 : Int32), .int (19 : Int32)]) (rest := []) (kX8_within l hG  hc12) cw_X8_82 (by decide) dX8_deep_12 rfl (Nat.le_of_ble_eq_true rfl) ?_
    refine wk_if_ne (pc := 15) (tgt := 24) dX8_deep_15 rfl hf (fun hf => ?_) (fun hf => ?_)
    · refine wk_iconst (pc := 24) (v := (0 : Int32)) dX8_deep_24 (by decide) ?_
      refine wk_istore_n (pc := 25) (lv' := [(3, .int (0 : Int32)), (0, .ref (gA G 0)), (1, .int p1), (2, .int p2)]) dX8_deep_25 rfl (by decide) rfl ?_
      exact wk_lv [1, 2, 3, 0] rfl (J26  xF (0 : Int32)  s12 hf)
    · exact wk_lv [0] rfl (J18    s12 hf)
noncomputable def sX8_draws_L74 (p1 : Int32) (a2_53 : Int32) (self53 : Int32 → xS → Option (Int32 × xS)) (self74 : Int32 → xS → Option (Int32 × xS)) : Int32 → xS → Option (Int32 × xS) := fun a3_74 s74 => (if (60 : Int32) ≤ a3_74 then (if xin p1 7 then (if (s74 37 p1.toNatClampNeg) = 0 then some (a2_53, s74) else xlet (a2_53 + (-1 : Int32)) (fun y108 => self53 y108 s74)) else none) else xbind (sX8_passHour 33 s74) (fun _ s85 => xlet (a3_74 + (1 : Int32)) (fun y88 => self74 y88 s85)))
noncomputable def sX8_draws_L53 (p1 : Int32) (self53 : Int32 → xS → Option (Int32 × xS)) : Int32 → xS → Option (Int32 × xS) := fun a2_53 s53 => (if a2_53 < 0 then xbind (sX8_refuse (2 : Int32) s53) (fun r116 s116 => some (r116, s116)) else xbind (sX8_think (0 : Int32) s53) (fun _ s59 => (if xin p1 7 then xlet (xup s59 36 (upd (s59 36) p1.toNatClampNeg a2_53)) (fun s71 => xloop (sX8_draws_L74 p1 a2_53 self53) xF (0 : Int32) s71) else none)))
noncomputable def sX8_draws (p1 : Int32) (s : xS) : Option (Int32 × xS) := xbind (sX8_isShip p1 s) (fun r2 s2 => (if r2 = 0 then xbind (sX8_refuse (1 : Int32) s2) (fun r10 s10 => some (r10, s10)) else (if xin p1 7 then (if (s2 26 p1.toNatClampNeg) = 0 then xbind (sX1_draw 1 (s2 1 2) s2) (fun _ s47 => xloop (sX8_draws_L53 p1) xF (9 : Int32) s47) else xbind (sX8_refuse (3 : Int32) s2) (fun r28 s28 => some (r28, s28))) else none)))
set_option maxHeartbeats 4000000 in
set_option maxRecDepth 100000 in
theorem kX8_draws (l : Launch) {G : xG} (hG : xC1 G)  {p1 : Int32}  {s : xS} {r : Int32} {s' : xS} (hf : sX8_draws p1 s = some (r, s')) : xMet l G 8 yX8_draws cX8_draws 4 (some .int) [.ref (gA G 0), .int p1] s (xI r s') := by
  refine xMet.of (by decide) (Nat.le_of_ble_eq_true rfl) ?_
  show wk l G 8 RX8 cX8_draws 4 (some .int) (xI r s') 0 [(0, .ref (gA G 0)), (1, .int p1)] [] s
  unfold sX8_draws at hf
  have J53 : ∀   (N : Nat) (a2_53 : Int32)  (s53 : xS), xloop (sX8_draws_L53 p1) N a2_53 s53 = some (r, s') → wk l G 8 RX8 cX8_draws 4 (some .int) (xI r s') 53 [(0, .ref (gA G 0)), (1, .int p1), (2, .int a2_53)] [] s53 := by
    intro N
    induction N with
    | zero => intro a2_53 s53 hf; exact (xloop_0 hf).elim
    | succ N ih53 =>
      intro a2_53 s53 hf
      rw [xloop_s] at hf
      generalize xloop (sX8_draws_L53 p1) N = self53 at hf ih53
      unfold sX8_draws_L53 at hf
      have J74 : ∀   (N : Nat) (a3_74 : Int32)  (s74 : xS), xloop (sX8_draws_L74 p1 a2_53 self53) N a3_74 s74 = some (r, s') → wk l G 8 RX8 cX8_draws 4 (some .int) (xI r s') 74 [(0, .ref (gA G 0)), (1, .int p1), (2, .int a2_53), (3, .int a3_74)] [] s74 := by
        intro N
        induction N with
        | zero => intro a3_74 s74 hf; exact (xloop_0 hf).elim
        | succ N ih74 =>
          intro a3_74 s74 hf
          rw [xloop_s] at hf
          generalize xloop (sX8_draws_L74 p1 a2_53 self53) N = self74 at hf ih74
          unfold sX8_draws_L74 at hf
          refine wk_iload_n (pc := 74) dX8_draws_74 rfl 3 rfl ?_
          refine wk_bipush (pc := 75) (v := (60 : Int32)) dX8_draws_75 (by decide) ?_
          refine wk_icmp_ge (pc := 77) (tgt := 94) dX8_draws_77 rfl hf (fun hf => ?_) (fun hf => ?_)
          · refine wk_aload_n (pc := 94) dX8_draws_94 rfl 0 rfl ?_
            refine wk_getR (C := RX8) (T := TX8) (N := 13) (pc := 95) dX8_draws_95 (nc_0 hG).2 (nc_0 hG).1 rfl qU_X8 7 (by decide) qF_X8_43 rfl ?_
            refine wk_getR (C := RX3) (T := TX3) (N := 7) (pc := 98) dX8_draws_98 (nc_33 hG).2 (nc_33 hG).1 rfl qU_X3 5 (by decide) qF_X8_143 rfl ?_
            refine wk_iload_n (pc := 101) dX8_draws_101 rfl 1 rfl ?_
            obtain ⟨h102, hf⟩ := xif_some hf
            refine wk_iald (pc := 102) (jj := p1.toNatClampNeg) dX8_draws_102 (nc_37 hG).2 (nc_37 hG).1 h102 rfl ?_
            refine wk_if_ne (pc := 103) (tgt := 108) dX8_draws_103 rfl hf (fun hf => ?_) (fun hf => ?_)
            · obtain ⟨y108, hy108, hf⟩ := xlet_some hf
              refine wk_iinc (pc := 108) (v := y108) (lv' := [(2, .int y108), (0, .ref (gA G 0)), (1, .int p1), (3, .int a3_74)]) dX8_draws_108 2 rfl (by rw [hy108] <;> rfl) (by decide) rfl ?_
              refine wk_goto (pc := 111) (tgt := 53) dX8_draws_111 rfl ?_
              exact wk_lv [1, 2, 0] rfl (ih53 y108  s74 hf)
            · refine wk_iload_n (pc := 106) dX8_draws_106 rfl 2 rfl ?_
              exact wk_iret (pc := 107) dX8_draws_107 rfl (xI_of hf)
          · refine wk_aload_n (pc := 80) dX8_draws_80 rfl 0 rfl ?_
            refine wk_aload_n (pc := 81) dX8_draws_81 rfl 0 rfl ?_
            refine wk_getR (C := RX8) (T := TX8) (N := 13) (pc := 82) dX8_draws_82 (nc_0 hG).2 (nc_0 hG).1 rfl qU_X8 7 (by decide) qF_X8_43 rfl ?_
            obtain ⟨⟨⟩, s85, hc85, hf⟩ := xbind_some hf
            refine wk_callVU (pc := 85) (As := [.ref (gA G 33)]) (rest := []) (kX8_passHour l hG (by decide) hc85) cw_X8_207 (by decide) dX8_draws_85 (nc_0 hG).2 (nc_0 hG).1 rfl rfl rfl (Nat.le_of_ble_eq_true rfl) ?_
            obtain ⟨y88, hy88, hf⟩ := xlet_some hf
            refine wk_iinc (pc := 88) (v := y88) (lv' := [(3, .int y88), (0, .ref (gA G 0)), (1, .int p1), (2, .int a2_53)]) dX8_draws_88 3 rfl (by rw [hy88] <;> rfl) (by decide) rfl ?_
            refine wk_goto (pc := 91) (tgt := 74) dX8_draws_91 rfl ?_
            exact wk_lv [1, 2, 3, 0] rfl (ih74 y88  s85 hf)
      refine wk_iload_n (pc := 53) dX8_draws_53 rfl 2 rfl ?_
      refine wk_if_lt (pc := 54) (tgt := 114) dX8_draws_54 rfl hf (fun hf => ?_) (fun hf => ?_)
      · refine wk_aload_n (pc := 114) dX8_draws_114 rfl 0 rfl ?_
        refine wk_iconst (pc := 115) (v := (2 : Int32)) dX8_draws_115 (by decide) ?_
        obtain ⟨r116, s116, hc116, hf⟩ := xbind_some hf
        refine wk_callVI (pc := 116) (As := [.int (2 : Int32)]) (rest := []) (kX8_refuse l hG  hc116) cw_X8_86 (by decide) dX8_draws_116 (nc_0 hG).2 (nc_0 hG).1 rfl rfl rfl (Nat.le_of_ble_eq_true rfl) ?_
        exact wk_iret (pc := 119) dX8_draws_119 rfl (xI_of hf)
      · refine wk_aload_n (pc := 57) dX8_draws_57 rfl 0 rfl ?_
        refine wk_iconst (pc := 58) (v := (0 : Int32)) dX8_draws_58 (by decide) ?_
        obtain ⟨⟨⟩, s59, hc59, hf⟩ := xbind_some hf
        refine wk_callVU (pc := 59) (As := [.int (0 : Int32)]) (rest := []) (kX8_think l hG  hc59) cw_X8_225 (by decide) dX8_draws_59 (nc_0 hG).2 (nc_0 hG).1 rfl rfl rfl (Nat.le_of_ble_eq_true rfl) ?_
        refine wk_aload_n (pc := 62) dX8_draws_62 rfl 0 rfl ?_
        refine wk_getR (C := RX8) (T := TX8) (N := 13) (pc := 63) dX8_draws_63 (nc_0 hG).2 (nc_0 hG).1 rfl qU_X8 7 (by decide) qF_X8_43 rfl ?_
        refine wk_getR (C := RX3) (T := TX3) (N := 7) (pc := 66) dX8_draws_66 (nc_33 hG).2 (nc_33 hG).1 rfl qU_X3 4 (by decide) qF_X8_140 rfl ?_
        refine wk_iload_n (pc := 69) dX8_draws_69 rfl 1 rfl ?_
        refine wk_iload_n (pc := 70) dX8_draws_70 rfl 2 rfl ?_
        obtain ⟨h71, hf⟩ := xif_some hf
        refine wk_iast (pc := 71) (jj := p1.toNatClampNeg) dX8_draws_71 (nc_36 hG).2 (nc_36 hG).1 h71 rfl ?_
        obtain ⟨s71, hs71, hf⟩ := xlet_some hf
        refine wk_sig hs71 ?_
        refine wk_iconst (pc := 72) (v := (0 : Int32)) dX8_draws_72 (by decide) ?_
        refine wk_istore_n (pc := 73) (lv' := [(3, .int (0 : Int32)), (0, .ref (gA G 0)), (1, .int p1), (2, .int a2_53)]) dX8_draws_73 rfl (by decide) rfl ?_
        exact wk_lv [1, 2, 3, 0] rfl (J74  xF (0 : Int32)  s71 hf)
  refine wk_aload_n (pc := 0) dX8_draws_0 rfl 0 rfl ?_
  refine wk_iload_n (pc := 1) dX8_draws_1 rfl 1 rfl ?_
  obtain ⟨r2, s2, hc2, hf⟩ := xbind_some hf
  refine wk_callVI (pc := 2) (As := [.int p1]) (rest := []) (kX8_isShip l hG  hc2) cw_X8_149 (by decide) dX8_draws_2 (nc_0 hG).2 (nc_0 hG).1 rfl rfl rfl (Nat.le_of_ble_eq_true rfl) ?_
  refine wk_if_ne (pc := 5) (tgt := 14) dX8_draws_5 rfl hf (fun hf => ?_) (fun hf => ?_)
  · refine wk_aload_n (pc := 14) dX8_draws_14 rfl 0 rfl ?_
    refine wk_getR (C := RX8) (T := TX8) (N := 13) (pc := 15) dX8_draws_15 (nc_0 hG).2 (nc_0 hG).1 rfl qU_X8 1 (by decide) qF_X8_19 rfl ?_
    refine wk_getR (C := RX3) (T := TX3) (N := 7) (pc := 18) dX8_draws_18 (nc_21 hG).2 (nc_21 hG).1 rfl qU_X3 6 (by decide) qF_X8_146 rfl ?_
    refine wk_iload_n (pc := 21) dX8_draws_21 rfl 1 rfl ?_
    obtain ⟨h22, hf⟩ := xif_some hf
    refine wk_iald (pc := 22) (jj := p1.toNatClampNeg) dX8_draws_22 (nc_26 hG).2 (nc_26 hG).1 h22 rfl ?_
    refine wk_if_eq (pc := 23) (tgt := 32) dX8_draws_23 rfl hf (fun hf => ?_) (fun hf => ?_)
    · refine wk_aload_n (pc := 32) dX8_draws_32 rfl 0 rfl ?_
      refine wk_getR (C := RX8) (T := TX8) (N := 13) (pc := 33) dX8_draws_33 (nc_0 hG).2 (nc_0 hG).1 rfl qU_X8 8 (by decide) qF_X8_49 rfl ?_
      refine wk_aload_n (pc := 36) dX8_draws_36 rfl 0 rfl ?_
      refine wk_getR (C := RX8) (T := TX8) (N := 13) (pc := 37) dX8_draws_37 (nc_0 hG).2 (nc_0 hG).1 rfl qU_X8 0 (by decide) qF_X8_10 rfl ?_
      refine wk_aload_n (pc := 40) dX8_draws_40 rfl 0 rfl ?_
      refine wk_getR (C := RX8) (T := TX8) (N := 13) (pc := 41) dX8_draws_41 (nc_0 hG).2 (nc_0 hG).1 rfl qU_X8 0 (by decide) qF_X8_10 rfl ?_
      refine wk_getI (C := RX0) (T := TX0) (N := 9) (pc := 44) dX8_draws_44 (nc_1 hG).2 (nc_1 hG).1 rfl qU_X0 2 (by decide) qF_X8_116 rfl ?_
      obtain ⟨⟨⟩, s47, hc47, hf⟩ := xbind_some hf
      refine wk_callVU (pc := 47) (As := [.ref (gA G 1), .int (s2 1 2)]) (rest := []) (kX1_draw l hG (by decide) hc47) cw_X8_155 (by decide) dX8_draws_47 (nc_45 hG).2 (nc_45 hG).1 rfl rfl rfl (Nat.le_of_ble_eq_true rfl) ?_
      refine wk_bipush (pc := 50) (v := (9 : Int32)) dX8_draws_50 (by decide) ?_
      refine wk_istore_n (pc := 52) (lv' := [(2, .int (9 : Int32)), (0, .ref (gA G 0)), (1, .int p1)]) dX8_draws_52 rfl (by decide) rfl ?_
      exact wk_lv [1, 2, 0] rfl (J53  xF (9 : Int32)  s47 hf)
    · refine wk_aload_n (pc := 26) dX8_draws_26 rfl 0 rfl ?_
      refine wk_iconst (pc := 27) (v := (3 : Int32)) dX8_draws_27 (by decide) ?_
      obtain ⟨r28, s28, hc28, hf⟩ := xbind_some hf
      refine wk_callVI (pc := 28) (As := [.int (3 : Int32)]) (rest := []) (kX8_refuse l hG  hc28) cw_X8_86 (by decide) dX8_draws_28 (nc_0 hG).2 (nc_0 hG).1 rfl rfl rfl (Nat.le_of_ble_eq_true rfl) ?_
      exact wk_iret (pc := 31) dX8_draws_31 rfl (xI_of hf)
  · refine wk_aload_n (pc := 8) dX8_draws_8 rfl 0 rfl ?_
    refine wk_iconst (pc := 9) (v := (1 : Int32)) dX8_draws_9 (by decide) ?_
    obtain ⟨r10, s10, hc10, hf⟩ := xbind_some hf
    refine wk_callVI (pc := 10) (As := [.int (1 : Int32)]) (rest := []) (kX8_refuse l hG  hc10) cw_X8_86 (by decide) dX8_draws_10 (nc_0 hG).2 (nc_0 hG).1 rfl rfl rfl (Nat.le_of_ble_eq_true rfl) ?_
    exact wk_iret (pc := 13) dX8_draws_13 rfl (xI_of hf)
noncomputable def sX8_traffic_L110 (a6_67 : Int32) (self67 : Int32 × Int32 × Int32 → xS → Option (Int32 × xS)) (a4_110 : Int32) (a5_110 : Int32) (s110 : xS) : Option (Int32 × xS) := xlet (a6_67 + (1 : Int32)) (fun y110 => self67 (a4_110, a5_110, y110) s110)
noncomputable def sX8_traffic_L67 (p2 : Int32) (y57 : Int32) (self67 : Int32 × Int32 × Int32 → xS → Option (Int32 × xS)) : Int32 × Int32 × Int32 → xS → Option (Int32 × xS) := fun (a4_67, a5_67, a6_67) s67 => (if (s67 1 0) ≤ a6_67 then xlet ((if p2 = 0 then a4_67 else a5_67)) (fun y127d => some (y127d, s67)) else xbind (sX3_setAt 33 a6_67 s67) (fun r85 s85 => xbind (sJ6_bitCount_0f7a4 (r85 &&& y57) s85) (fun r90 s90 => (if r90 ≤ a5_67 then (sX8_traffic_L110 a6_67 self67) a4_67 a5_67 s90 else (sX8_traffic_L110 a6_67 self67) a6_67 r90 s90))))
noncomputable def sX8_traffic_L19   (s19 : xS) : Option (Int32 × xS) := xbind (sX8_refuse (1 : Int32) s19) (fun r21 s21 => some (r21, s21))
noncomputable def sX8_traffic (p1 : Int32) (p2 : Int32) (s : xS) : Option (Int32 × xS) := xbind (sX8_within p1 (0 : Int32) (60 : Int32) s) (fun r4 s4 => (if r4 = 0 then sX8_traffic_L19  s4 else xbind (sX8_within p2 (0 : Int32) (1 : Int32) s4) (fun r13 s13 => (if r13 = 0 then sX8_traffic_L19  s13 else xbind (sX1_draw 1 (s13 1 2) s13) (fun _ s40 => xbind (sX8_think p1 s40) (fun _ s45 => xbind (sX3_setLost 33 s45) (fun r52 s52 => xlet ((r52 ^^^ (-1 : Int32))) (fun y57 => xloop (sX8_traffic_L67 p2 y57) xF ((0 : Int32), (-1 : Int32), (0 : Int32)) s52))))))))
set_option maxHeartbeats 4000000 in
set_option maxRecDepth 100000 in
theorem kX8_traffic (l : Launch) {G : xG} (hG : xC1 G)  {p1 : Int32} {p2 : Int32}  {s : xS} {r : Int32} {s' : xS} (hf : sX8_traffic p1 p2 s = some (r, s')) : xMet l G 8 yX8_traffic cX8_traffic 8 (some .int) [.ref (gA G 0), .int p1, .int p2] s (xI r s') := by
  refine xMet.of (by decide) (Nat.le_of_ble_eq_true rfl) ?_
  show wk l G 8 RX8 cX8_traffic 8 (some .int) (xI r s') 0 [(0, .ref (gA G 0)), (1, .int p1), (2, .int p2)] [] s
  unfold sX8_traffic at hf
  have J67 : ∀ (y57 : Int32)  (N : Nat) (a4_67 : Int32) (a5_67 : Int32) (a6_67 : Int32)  (s67 : xS), xloop (sX8_traffic_L67 p2 y57) N (a4_67, a5_67, a6_67) s67 = some (r, s') → wk l G 8 RX8 cX8_traffic 8 (some .int) (xI r s') 67 [(0, .ref (gA G 0)), (2, .int p2), (3, .int y57), (4, .int a4_67), (5, .int a5_67), (6, .int a6_67)] [] s67 := by
    intro y57
    intro N
    induction N with
    | zero => intro a4_67 a5_67 a6_67 s67 hf; exact (xloop_0 hf).elim
    | succ N ih67 =>
      intro a4_67 a5_67 a6_67 s67 hf
      rw [xloop_s] at hf
      generalize xloop (sX8_traffic_L67 p2 y57) N = self67 at hf ih67
      unfold sX8_traffic_L67 at hf
      dsimp only at hf
      have J110 : ∀   (a4_110 : Int32) (a5_110 : Int32)  (s110 : xS), (sX8_traffic_L110 a6_67 self67) a4_110 a5_110 s110 = some (r, s') → wk l G 8 RX8 cX8_traffic 8 (some .int) (xI r s') 110 [(0, .ref (gA G 0)), (2, .int p2), (3, .int y57), (4, .int a4_110), (5, .int a5_110), (6, .int a6_67)] [] s110 := by
        intro a4_110 a5_110 s110 hf
        unfold sX8_traffic_L110 at hf
        obtain ⟨y110, hy110, hf⟩ := xlet_some hf
        refine wk_iinc (pc := 110) (v := y110) (lv' := [(6, .int y110), (0, .ref (gA G 0)), (2, .int p2), (3, .int y57), (4, .int a4_110), (5, .int a5_110)]) dX8_traffic_110 5 rfl (by rw [hy110] <;> rfl) (by decide) rfl ?_
        refine wk_goto (pc := 113) (tgt := 67) dX8_traffic_113 rfl ?_
        exact wk_lv [1, 2, 3, 4, 5, 0] rfl (ih67 a4_110 a5_110 y110  s110 hf)
      refine wk_iload (pc := 67) dX8_traffic_67 5 rfl ?_
      refine wk_aload_n (pc := 69) dX8_traffic_69 rfl 0 rfl ?_
      refine wk_getR (C := RX8) (T := TX8) (N := 13) (pc := 70) dX8_traffic_70 (nc_0 hG).2 (nc_0 hG).1 rfl qU_X8 0 (by decide) qF_X8_10 rfl ?_
      refine wk_getI (C := RX0) (T := TX0) (N := 9) (pc := 73) dX8_traffic_73 (nc_1 hG).2 (nc_1 hG).1 rfl qU_X0 0 (by decide) qF_X8_93 rfl ?_
      refine wk_icmp_ge (pc := 76) (tgt := 116) dX8_traffic_76 rfl hf (fun hf => ?_) (fun hf => ?_)
      · refine wk_iload_n (pc := 116) dX8_traffic_116 rfl 1 rfl ?_
        obtain ⟨y127d, hy127d, hf⟩ := xlet_some hf
        have K127 : wk l G 8 RX8 cX8_traffic 8 (some .int) (xI r s') 127 [(0, .ref (gA G 0)), (2, .int p2), (3, .int y57), (4, .int a4_67), (5, .int a5_67), (6, .int a6_67)] [.int y127d] s67 := by
          exact wk_iret (pc := 127) dX8_traffic_127 rfl (xI_of hf)
        by_cases c117 : p2 = 0
        · rw [if_pos c117] at hy127d
          refine wk_if_ne_p (pc := 117) (tgt := 125) dX8_traffic_117 rfl c117 ?_
          refine wk_iload (pc := 120) dX8_traffic_120 3 rfl ?_
          refine wk_goto (pc := 122) (tgt := 127) dX8_traffic_122 rfl ?_
          exact wk_top hy127d K127
        · rw [if_neg c117] at hy127d
          refine wk_if_ne_m (pc := 117) (tgt := 125) dX8_traffic_117 rfl c117 ?_
          refine wk_iload (pc := 125) dX8_traffic_125 4 rfl ?_
          exact wk_top hy127d K127
      · refine wk_aload_n (pc := 79) dX8_traffic_79 rfl 0 rfl ?_
        refine wk_getR (C := RX8) (T := TX8) (N := 13) (pc := 80) dX8_traffic_80 (nc_0 hG).2 (nc_0 hG).1 rfl qU_X8 7 (by decide) qF_X8_43 rfl ?_
        refine wk_iload (pc := 83) dX8_traffic_83 5 rfl ?_
        obtain ⟨r85, s85, hc85, hf⟩ := xbind_some hf
        refine wk_callVI (pc := 85) (As := [.int a6_67]) (rest := []) (kX3_setAt l hG (by decide) hc85) cw_X8_122 (by decide) dX8_traffic_85 (nc_33 hG).2 (nc_33 hG).1 rfl rfl rfl (Nat.le_of_ble_eq_true rfl) ?_
        refine wk_iload_n (pc := 88) dX8_traffic_88 rfl 2 rfl ?_
        refine wk_iand (pc := 89) dX8_traffic_89 ?_
        obtain ⟨r90, s90, hc90, hf⟩ := xbind_some hf
        refine wk_callSI (pc := 90) (As := [.int (r85 &&& y57)]) (rest := []) (kJ6_bitCount_0f7a4 l trivial  hc90) cw_X8_259 (by decide) dX8_traffic_90 rfl (Nat.le_of_ble_eq_true rfl) ?_
        refine wk_istore (pc := 93) (lv' := [(7, .int r90), (0, .ref (gA G 0)), (2, .int p2), (3, .int y57), (4, .int a4_67), (5, .int a5_67), (6, .int a6_67)]) dX8_traffic_93 (by decide) rfl ?_
        refine wk_iload (pc := 95) dX8_traffic_95 0 rfl ?_
        refine wk_iload (pc := 97) dX8_traffic_97 5 rfl ?_
        refine wk_icmp_le (pc := 99) (tgt := 110) dX8_traffic_99 rfl hf (fun hf => ?_) (fun hf => ?_)
        · exact wk_lv [1, 2, 3, 4, 5, 6] rfl (J110  a4_67 a5_67  s90 hf)
        · refine wk_iload (pc := 102) dX8_traffic_102 6 rfl ?_
          refine wk_istore (pc := 104) (lv' := [(4, .int a6_67), (7, .int r90), (0, .ref (gA G 0)), (2, .int p2), (3, .int y57), (5, .int a5_67), (6, .int a6_67)]) dX8_traffic_104 (by decide) rfl ?_
          refine wk_iload (pc := 106) dX8_traffic_106 1 rfl ?_
          refine wk_istore (pc := 108) (lv' := [(5, .int r90), (4, .int a6_67), (7, .int r90), (0, .ref (gA G 0)), (2, .int p2), (3, .int y57), (6, .int a6_67)]) dX8_traffic_108 (by decide) rfl ?_
          exact wk_lv [3, 4, 5, 1, 0, 6] rfl (J110  a6_67 r90  s90 hf)
  have J19 : ∀     (s19 : xS), sX8_traffic_L19  s19 = some (r, s') → wk l G 8 RX8 cX8_traffic 8 (some .int) (xI r s') 19 [(0, .ref (gA G 0))] [] s19 := by
    intro s19 hf
    unfold sX8_traffic_L19 at hf
    refine wk_aload_n (pc := 19) dX8_traffic_19 rfl 0 rfl ?_
    refine wk_iconst (pc := 20) (v := (1 : Int32)) dX8_traffic_20 (by decide) ?_
    obtain ⟨r21, s21, hc21, hf⟩ := xbind_some hf
    refine wk_callVI (pc := 21) (As := [.int (1 : Int32)]) (rest := []) (kX8_refuse l hG  hc21) cw_X8_86 (by decide) dX8_traffic_21 (nc_0 hG).2 (nc_0 hG).1 rfl rfl rfl (Nat.le_of_ble_eq_true rfl) ?_
    exact wk_iret (pc := 24) dX8_traffic_24 rfl (xI_of hf)
  refine wk_iload_n (pc := 0) dX8_traffic_0 rfl 1 rfl ?_
  refine wk_iconst (pc := 1) (v := (0 : Int32)) dX8_traffic_1 (by decide) ?_
  refine wk_bipush (pc := 2) (v := (60 : Int32)) dX8_traffic_2 (by decide) ?_
  obtain ⟨r4, s4, hc4, hf⟩ := xbind_some hf
  refine wk_callSI (pc := 4) (As := [.int p1, .int (0 : Int32), .int (60 : Int32)]) (rest := []) (kX8_within l hG  hc4) cw_X8_82 (by decide) dX8_traffic_4 rfl (Nat.le_of_ble_eq_true rfl) ?_
  refine wk_if_eq (pc := 7) (tgt := 19) dX8_traffic_7 rfl hf (fun hf => ?_) (fun hf => ?_)
  · exact wk_lv [0] rfl (J19    s4 hf)
  · refine wk_iload_n (pc := 10) dX8_traffic_10 rfl 2 rfl ?_
    refine wk_iconst (pc := 11) (v := (0 : Int32)) dX8_traffic_11 (by decide) ?_
    refine wk_iconst (pc := 12) (v := (1 : Int32)) dX8_traffic_12 (by decide) ?_
    obtain ⟨r13, s13, hc13, hf⟩ := xbind_some hf
    refine wk_callSI (pc := 13) (As := [.int p2, .int (0 : Int32), .int (1 : Int32)]) (rest := []) (kX8_within l hG  hc13) cw_X8_82 (by decide) dX8_traffic_13 rfl (Nat.le_of_ble_eq_true rfl) ?_
    refine wk_if_ne (pc := 16) (tgt := 25) dX8_traffic_16 rfl hf (fun hf => ?_) (fun hf => ?_)
    · refine wk_aload_n (pc := 25) dX8_traffic_25 rfl 0 rfl ?_
      refine wk_getR (C := RX8) (T := TX8) (N := 13) (pc := 26) dX8_traffic_26 (nc_0 hG).2 (nc_0 hG).1 rfl qU_X8 8 (by decide) qF_X8_49 rfl ?_
      refine wk_aload_n (pc := 29) dX8_traffic_29 rfl 0 rfl ?_
      refine wk_getR (C := RX8) (T := TX8) (N := 13) (pc := 30) dX8_traffic_30 (nc_0 hG).2 (nc_0 hG).1 rfl qU_X8 0 (by decide) qF_X8_10 rfl ?_
      refine wk_aload_n (pc := 33) dX8_traffic_33 rfl 0 rfl ?_
      refine wk_getR (C := RX8) (T := TX8) (N := 13) (pc := 34) dX8_traffic_34 (nc_0 hG).2 (nc_0 hG).1 rfl qU_X8 0 (by decide) qF_X8_10 rfl ?_
      refine wk_getI (C := RX0) (T := TX0) (N := 9) (pc := 37) dX8_traffic_37 (nc_1 hG).2 (nc_1 hG).1 rfl qU_X0 2 (by decide) qF_X8_116 rfl ?_
      obtain ⟨⟨⟩, s40, hc40, hf⟩ := xbind_some hf
      refine wk_callVU (pc := 40) (As := [.ref (gA G 1), .int (s13 1 2)]) (rest := []) (kX1_draw l hG (by decide) hc40) cw_X8_155 (by decide) dX8_traffic_40 (nc_45 hG).2 (nc_45 hG).1 rfl rfl rfl (Nat.le_of_ble_eq_true rfl) ?_
      refine wk_aload_n (pc := 43) dX8_traffic_43 rfl 0 rfl ?_
      refine wk_iload_n (pc := 44) dX8_traffic_44 rfl 1 rfl ?_
      obtain ⟨⟨⟩, s45, hc45, hf⟩ := xbind_some hf
      refine wk_callVU (pc := 45) (As := [.int p1]) (rest := []) (kX8_think l hG  hc45) cw_X8_225 (by decide) dX8_traffic_45 (nc_0 hG).2 (nc_0 hG).1 rfl rfl rfl (Nat.le_of_ble_eq_true rfl) ?_
      refine wk_aload_n (pc := 48) dX8_traffic_48 rfl 0 rfl ?_
      refine wk_getR (C := RX8) (T := TX8) (N := 13) (pc := 49) dX8_traffic_49 (nc_0 hG).2 (nc_0 hG).1 rfl qU_X8 7 (by decide) qF_X8_43 rfl ?_
      obtain ⟨r52, s52, hc52, hf⟩ := xbind_some hf
      refine wk_callVI (pc := 52) (As := []) (rest := []) (kX3_setLost l hG (by decide) hc52) cw_X8_256 (by decide) dX8_traffic_52 (nc_33 hG).2 (nc_33 hG).1 rfl rfl rfl (Nat.le_of_ble_eq_true rfl) ?_
      refine wk_iconst (pc := 55) (v := (-1 : Int32)) dX8_traffic_55 (by decide) ?_
      refine wk_ixor (pc := 56) dX8_traffic_56 ?_
      obtain ⟨y57, hy57, hf⟩ := xlet_some hf
      refine wk_top hy57 ?_
      refine wk_istore_n (pc := 57) (lv' := [(3, .int y57), (0, .ref (gA G 0)), (1, .int p1), (2, .int p2)]) dX8_traffic_57 rfl (by decide) rfl ?_
      refine wk_iconst (pc := 58) (v := (0 : Int32)) dX8_traffic_58 (by decide) ?_
      refine wk_istore (pc := 59) (lv' := [(4, .int (0 : Int32)), (3, .int y57), (0, .ref (gA G 0)), (1, .int p1), (2, .int p2)]) dX8_traffic_59 (by decide) rfl ?_
      refine wk_iconst (pc := 61) (v := (-1 : Int32)) dX8_traffic_61 (by decide) ?_
      refine wk_istore (pc := 62) (lv' := [(5, .int (-1 : Int32)), (4, .int (0 : Int32)), (3, .int y57), (0, .ref (gA G 0)), (1, .int p1), (2, .int p2)]) dX8_traffic_62 (by decide) rfl ?_
      refine wk_iconst (pc := 64) (v := (0 : Int32)) dX8_traffic_64 (by decide) ?_
      refine wk_istore (pc := 65) (lv' := [(6, .int (0 : Int32)), (5, .int (-1 : Int32)), (4, .int (0 : Int32)), (3, .int y57), (0, .ref (gA G 0)), (1, .int p1), (2, .int p2)]) dX8_traffic_65 (by decide) rfl ?_
      exact wk_lv [4, 6, 3, 2, 1, 0] rfl (J67 y57 xF (0 : Int32) (-1 : Int32) (0 : Int32)  s52 hf)
    · exact wk_lv [0] rfl (J19    s13 hf)
noncomputable def sX8_greatestDivisor_L23 (a3_4 : Int32) (self4 : Int32 × Int32 → xS → Option (Int32 × xS)) (a2_23 : Int32) (s23 : xS) : Option (Int32 × xS) := xlet (a3_4 + (1 : Int32)) (fun y23 => self4 (a2_23, y23) s23)
noncomputable def sX8_greatestDivisor_L4 (p0 : Int32) (p1 : Int32) (self4 : Int32 × Int32 → xS → Option (Int32 × xS)) : Int32 × Int32 → xS → Option (Int32 × xS) := fun (a2_4, a3_4) s4 => (if p1 < a3_4 then some (a2_4, s4) else (if a3_4 = 0 then none else (if (p0 - p0 / a3_4 * a3_4) = 0 then (if a3_4 = 0 then none else (if (p1 - p1 / a3_4 * a3_4) = 0 then (sX8_greatestDivisor_L23 a3_4 self4) a3_4 s4 else (sX8_greatestDivisor_L23 a3_4 self4) a2_4 s4)) else (sX8_greatestDivisor_L23 a3_4 self4) a2_4 s4)))
noncomputable def sX8_greatestDivisor (p0 : Int32) (p1 : Int32) (s : xS) : Option (Int32 × xS) := xloop (sX8_greatestDivisor_L4 p0 p1) xF ((1 : Int32), (2 : Int32)) s
set_option maxHeartbeats 4000000 in
set_option maxRecDepth 100000 in
theorem kX8_greatestDivisor (l : Launch) {G : xG} (hG : xC1 G)  {p0 : Int32} {p1 : Int32}  {s : xS} {r : Int32} {s' : xS} (hf : sX8_greatestDivisor p0 p1 s = some (r, s')) : xMet l G 2 yX8_greatestDivisor cX8_greatestDivisor 4 (some .int) [.int p0, .int p1] s (xI r s') := by
  refine xMet.of (by decide) (Nat.le_of_ble_eq_true rfl) ?_
  show wk l G 2 RX8 cX8_greatestDivisor 4 (some .int) (xI r s') 0 [(0, .int p0), (1, .int p1)] [] s
  unfold sX8_greatestDivisor at hf
  have J4 : ∀   (N : Nat) (a2_4 : Int32) (a3_4 : Int32)  (s4 : xS), xloop (sX8_greatestDivisor_L4 p0 p1) N (a2_4, a3_4) s4 = some (r, s') → wk l G 2 RX8 cX8_greatestDivisor 4 (some .int) (xI r s') 4 [(0, .int p0), (1, .int p1), (2, .int a2_4), (3, .int a3_4)] [] s4 := by
    intro N
    induction N with
    | zero => intro a2_4 a3_4 s4 hf; exact (xloop_0 hf).elim
    | succ N ih4 =>
      intro a2_4 a3_4 s4 hf
      rw [xloop_s] at hf
      generalize xloop (sX8_greatestDivisor_L4 p0 p1) N = self4 at hf ih4
      unfold sX8_greatestDivisor_L4 at hf
      dsimp only at hf
      have J23 : ∀   (a2_23 : Int32)  (s23 : xS), (sX8_greatestDivisor_L23 a3_4 self4) a2_23 s23 = some (r, s') → wk l G 2 RX8 cX8_greatestDivisor 4 (some .int) (xI r s') 23 [(0, .int p0), (1, .int p1), (2, .int a2_23), (3, .int a3_4)] [] s23 := by
        intro a2_23 s23 hf
        unfold sX8_greatestDivisor_L23 at hf
        obtain ⟨y23, hy23, hf⟩ := xlet_some hf
        refine wk_iinc (pc := 23) (v := y23) (lv' := [(3, .int y23), (0, .int p0), (1, .int p1), (2, .int a2_23)]) dX8_greatestDivisor_23 3 rfl (by rw [hy23] <;> rfl) (by decide) rfl ?_
        refine wk_goto (pc := 26) (tgt := 4) dX8_greatestDivisor_26 rfl ?_
        exact wk_lv [1, 2, 3, 0] rfl (ih4 a2_23 y23  s23 hf)
      refine wk_iload_n (pc := 4) dX8_greatestDivisor_4 rfl 3 rfl ?_
      refine wk_iload_n (pc := 5) dX8_greatestDivisor_5 rfl 1 rfl ?_
      refine wk_icmp_gt (pc := 6) (tgt := 29) dX8_greatestDivisor_6 rfl hf (fun hf => ?_) (fun hf => ?_)
      · refine wk_iload_n (pc := 29) dX8_greatestDivisor_29 rfl 2 rfl ?_
        exact wk_iret (pc := 30) dX8_greatestDivisor_30 rfl (xI_of hf)
      · refine wk_iload_n (pc := 9) dX8_greatestDivisor_9 rfl 0 rfl ?_
        refine wk_iload_n (pc := 10) dX8_greatestDivisor_10 rfl 3 rfl ?_
        obtain ⟨h11, hf⟩ := xif_none hf
        refine wk_irem (pc := 11) dX8_greatestDivisor_11 h11 ?_
        refine wk_if_ne (pc := 12) (tgt := 23) dX8_greatestDivisor_12 rfl hf (fun hf => ?_) (fun hf => ?_)
        · exact wk_lv [0, 1, 2, 3] rfl (J23  a2_4  s4 hf)
        · refine wk_iload_n (pc := 15) dX8_greatestDivisor_15 rfl 1 rfl ?_
          refine wk_iload_n (pc := 16) dX8_greatestDivisor_16 rfl 3 rfl ?_
          obtain ⟨h17, hf⟩ := xif_none hf
          refine wk_irem (pc := 17) dX8_greatestDivisor_17 h17 ?_
          refine wk_if_ne (pc := 18) (tgt := 23) dX8_greatestDivisor_18 rfl hf (fun hf => ?_) (fun hf => ?_)
          · exact wk_lv [0, 1, 2, 3] rfl (J23  a2_4  s4 hf)
          · refine wk_iload_n (pc := 21) dX8_greatestDivisor_21 rfl 3 rfl ?_
            refine wk_istore_n (pc := 22) (lv' := [(2, .int a3_4), (0, .int p0), (1, .int p1), (3, .int a3_4)]) dX8_greatestDivisor_22 rfl (by decide) rfl ?_
            exact wk_lv [1, 2, 0, 3] rfl (J23  a3_4  s4 hf)
  refine wk_iconst (pc := 0) (v := (1 : Int32)) dX8_greatestDivisor_0 (by decide) ?_
  refine wk_istore_n (pc := 1) (lv' := [(2, .int (1 : Int32)), (0, .int p0), (1, .int p1)]) dX8_greatestDivisor_1 rfl (by decide) rfl ?_
  refine wk_iconst (pc := 2) (v := (2 : Int32)) dX8_greatestDivisor_2 (by decide) ?_
  refine wk_istore_n (pc := 3) (lv' := [(3, .int (2 : Int32)), (2, .int (1 : Int32)), (0, .int p0), (1, .int p1)]) dX8_greatestDivisor_3 rfl (by decide) rfl ?_
  exact wk_lv [2, 3, 1, 0] rfl (J4  xF (1 : Int32) (2 : Int32)  s hf)
noncomputable def sX8_odds_L105 (r89 : Int32) (y105d : Int32)  (s105 : xS) : Option (Int32 × xS) := (if r89 = 0 then none else some ((y105d / r89), s105))
noncomputable def sX8_odds_L79 (a5_39 : Int32) (self39 : Int32 × Int32 → xS → Option (Int32 × xS)) (a4_79 : Int32) (s79 : xS) : Option (Int32 × xS) := xlet (a5_39 + (1 : Int32)) (fun y79 => self39 (a4_79, y79) s79)
noncomputable def sX8_odds_L39 (p1 : Int32) (p2 : Int32) (p3 : Int32) (self39 : Int32 × Int32 → xS → Option (Int32 × xS)) : Int32 × Int32 → xS → Option (Int32 × xS) := fun (a4_39, a5_39) s39 => (if (20 : Int32) ≤ a5_39 then xbind (sX8_greatestDivisor a4_39 (20 : Int32) s39) (fun r89 s89 => xlet ((if p3 = 0 then a4_39 else (20 : Int32))) (fun y105d => (sX8_odds_L105 r89 y105d)  s89)) else xbind (sX1_draw 1 a5_39 s39) (fun _ s56 => xbind (sX8_think p2 s56) (fun _ s61 => (if xin p1 7 then (if (s61 37 p1.toNatClampNeg) = 0 then xlet (a4_39 + (1 : Int32)) (fun y76 => (sX8_odds_L79 a5_39 self39) y76 s61) else (sX8_odds_L79 a5_39 self39) a4_39 s61) else none))))
noncomputable def sX8_odds_L27   (s27 : xS) : Option (Int32 × xS) := xbind (sX8_refuse (1 : Int32) s27) (fun r29 s29 => some (r29, s29))
noncomputable def sX8_odds (p1 : Int32) (p2 : Int32) (p3 : Int32) (s : xS) : Option (Int32 × xS) := xbind (sX8_isShip p1 s) (fun r2 s2 => (if r2 = 0 then sX8_odds_L27  s2 else xbind (sX8_within p2 (0 : Int32) (60 : Int32) s2) (fun r12 s12 => (if r12 = 0 then sX8_odds_L27  s12 else xbind (sX8_within p3 (0 : Int32) (1 : Int32) s12) (fun r21 s21 => (if r21 = 0 then sX8_odds_L27  s21 else xloop (sX8_odds_L39 p1 p2 p3) xF ((0 : Int32), (0 : Int32)) s21))))))
set_option maxHeartbeats 4000000 in
set_option maxRecDepth 100000 in
theorem kX8_odds (l : Launch) {G : xG} (hG : xC1 G)  {p1 : Int32} {p2 : Int32} {p3 : Int32}  {s : xS} {r : Int32} {s' : xS} (hf : sX8_odds p1 p2 p3 s = some (r, s')) : xMet l G 8 yX8_odds cX8_odds 6 (some .int) [.ref (gA G 0), .int p1, .int p2, .int p3] s (xI r s') := by
  refine xMet.of (by decide) (Nat.le_of_ble_eq_true rfl) ?_
  show wk l G 8 RX8 cX8_odds 6 (some .int) (xI r s') 0 [(0, .ref (gA G 0)), (1, .int p1), (2, .int p2), (3, .int p3)] [] s
  unfold sX8_odds at hf
  have J105 : ∀ (r89 : Int32) (y105d : Int32)    (s105 : xS), (sX8_odds_L105 r89 y105d)  s105 = some (r, s') → wk l G 8 RX8 cX8_odds 6 (some .int) (xI r s') 105 [(5, .int r89)] [.int y105d] s105 := by
    intro r89 y105d s105 hf
    unfold sX8_odds_L105 at hf
    refine wk_iload (pc := 105) dX8_odds_105 0 rfl ?_
    obtain ⟨h107, hf⟩ := xif_none hf
    refine wk_idiv (pc := 107) dX8_odds_107 h107 ?_
    exact wk_iret (pc := 108) dX8_odds_108 rfl (xI_of hf)
  have J39 : ∀   (N : Nat) (a4_39 : Int32) (a5_39 : Int32)  (s39 : xS), xloop (sX8_odds_L39 p1 p2 p3) N (a4_39, a5_39) s39 = some (r, s') → wk l G 8 RX8 cX8_odds 6 (some .int) (xI r s') 39 [(0, .ref (gA G 0)), (1, .int p1), (2, .int p2), (3, .int p3), (4, .int a4_39), (5, .int a5_39)] [] s39 := by
    intro N
    induction N with
    | zero => intro a4_39 a5_39 s39 hf; exact (xloop_0 hf).elim
    | succ N ih39 =>
      intro a4_39 a5_39 s39 hf
      rw [xloop_s] at hf
      generalize xloop (sX8_odds_L39 p1 p2 p3) N = self39 at hf ih39
      unfold sX8_odds_L39 at hf
      dsimp only at hf
      have J79 : ∀   (a4_79 : Int32)  (s79 : xS), (sX8_odds_L79 a5_39 self39) a4_79 s79 = some (r, s') → wk l G 8 RX8 cX8_odds 6 (some .int) (xI r s') 79 [(0, .ref (gA G 0)), (1, .int p1), (2, .int p2), (3, .int p3), (4, .int a4_79), (5, .int a5_39)] [] s79 := by
        intro a4_79 s79 hf
        unfold sX8_odds_L79 at hf
        obtain ⟨y79, hy79, hf⟩ := xlet_some hf
        refine wk_iinc (pc := 79) (v := y79) (lv' := [(5, .int y79), (0, .ref (gA G 0)), (1, .int p1), (2, .int p2), (3, .int p3), (4, .int a4_79)]) dX8_odds_79 5 rfl (by rw [hy79] <;> rfl) (by decide) rfl ?_
        refine wk_goto (pc := 82) (tgt := 39) dX8_odds_82 rfl ?_
        exact wk_lv [1, 2, 3, 4, 5, 0] rfl (ih39 a4_79 y79  s79 hf)
      refine wk_iload (pc := 39) dX8_odds_39 5 rfl ?_
      refine wk_bipush (pc := 41) (v := (20 : Int32)) dX8_odds_41 (by decide) ?_
      refine wk_icmp_ge (pc := 43) (tgt := 85) dX8_odds_43 rfl hf (fun hf => ?_) (fun hf => ?_)
      · refine wk_iload (pc := 85) dX8_odds_85 4 rfl ?_
        refine wk_bipush (pc := 87) (v := (20 : Int32)) dX8_odds_87 (by decide) ?_
        obtain ⟨r89, s89, hc89, hf⟩ := xbind_some hf
        refine wk_callSI (pc := 89) (As := [.int a4_39, .int (20 : Int32)]) (rest := []) (kX8_greatestDivisor l hG  hc89) cw_X8_265 (by decide) dX8_odds_89 rfl (Nat.le_of_ble_eq_true rfl) ?_
        refine wk_istore (pc := 92) (lv' := [(5, .int r89), (0, .ref (gA G 0)), (1, .int p1), (2, .int p2), (3, .int p3), (4, .int a4_39)]) dX8_odds_92 (by decide) rfl ?_
        refine wk_iload_n (pc := 94) dX8_odds_94 rfl 4 rfl ?_
        obtain ⟨y105d, hy105d, hf⟩ := xlet_some hf
        have K105 : wk l G 8 RX8 cX8_odds 6 (some .int) (xI r s') 105 [(5, .int r89), (0, .ref (gA G 0)), (1, .int p1), (2, .int p2), (3, .int p3), (4, .int a4_39)] [.int y105d] s89 := by
          exact wk_lv [0] rfl (J105 r89 y105d   s89 hf)
        by_cases c95 : p3 = 0
        · rw [if_pos c95] at hy105d
          refine wk_if_ne_p (pc := 95) (tgt := 103) dX8_odds_95 rfl c95 ?_
          refine wk_iload (pc := 98) dX8_odds_98 5 rfl ?_
          refine wk_goto (pc := 100) (tgt := 105) dX8_odds_100 rfl ?_
          exact wk_top hy105d K105
        · rw [if_neg c95] at hy105d
          refine wk_if_ne_m (pc := 95) (tgt := 103) dX8_odds_95 rfl c95 ?_
          refine wk_bipush (pc := 103) (v := (20 : Int32)) dX8_odds_103 (by decide) ?_
          exact wk_top hy105d K105
      · refine wk_aload_n (pc := 46) dX8_odds_46 rfl 0 rfl ?_
        refine wk_getR (C := RX8) (T := TX8) (N := 13) (pc := 47) dX8_odds_47 (nc_0 hG).2 (nc_0 hG).1 rfl qU_X8 8 (by decide) qF_X8_49 rfl ?_
        refine wk_aload_n (pc := 50) dX8_odds_50 rfl 0 rfl ?_
        refine wk_getR (C := RX8) (T := TX8) (N := 13) (pc := 51) dX8_odds_51 (nc_0 hG).2 (nc_0 hG).1 rfl qU_X8 0 (by decide) qF_X8_10 rfl ?_
        refine wk_iload (pc := 54) dX8_odds_54 5 rfl ?_
        obtain ⟨⟨⟩, s56, hc56, hf⟩ := xbind_some hf
        refine wk_callVU (pc := 56) (As := [.ref (gA G 1), .int a5_39]) (rest := []) (kX1_draw l hG (by decide) hc56) cw_X8_155 (by decide) dX8_odds_56 (nc_45 hG).2 (nc_45 hG).1 rfl rfl rfl (Nat.le_of_ble_eq_true rfl) ?_
        refine wk_aload_n (pc := 59) dX8_odds_59 rfl 0 rfl ?_
        refine wk_iload_n (pc := 60) dX8_odds_60 rfl 2 rfl ?_
        obtain ⟨⟨⟩, s61, hc61, hf⟩ := xbind_some hf
        refine wk_callVU (pc := 61) (As := [.int p2]) (rest := []) (kX8_think l hG  hc61) cw_X8_225 (by decide) dX8_odds_61 (nc_0 hG).2 (nc_0 hG).1 rfl rfl rfl (Nat.le_of_ble_eq_true rfl) ?_
        refine wk_aload_n (pc := 64) dX8_odds_64 rfl 0 rfl ?_
        refine wk_getR (C := RX8) (T := TX8) (N := 13) (pc := 65) dX8_odds_65 (nc_0 hG).2 (nc_0 hG).1 rfl qU_X8 7 (by decide) qF_X8_43 rfl ?_
        refine wk_getR (C := RX3) (T := TX3) (N := 7) (pc := 68) dX8_odds_68 (nc_33 hG).2 (nc_33 hG).1 rfl qU_X3 5 (by decide) qF_X8_143 rfl ?_
        refine wk_iload_n (pc := 71) dX8_odds_71 rfl 1 rfl ?_
        obtain ⟨h72, hf⟩ := xif_some hf
        refine wk_iald (pc := 72) (jj := p1.toNatClampNeg) dX8_odds_72 (nc_37 hG).2 (nc_37 hG).1 h72 rfl ?_
        refine wk_if_ne (pc := 73) (tgt := 79) dX8_odds_73 rfl hf (fun hf => ?_) (fun hf => ?_)
        · exact wk_lv [0, 1, 2, 3, 4, 5] rfl (J79  a4_39  s61 hf)
        · obtain ⟨y76, hy76, hf⟩ := xlet_some hf
          refine wk_iinc (pc := 76) (v := y76) (lv' := [(4, .int y76), (0, .ref (gA G 0)), (1, .int p1), (2, .int p2), (3, .int p3), (5, .int a5_39)]) dX8_odds_76 4 rfl (by rw [hy76] <;> rfl) (by decide) rfl ?_
          exact wk_lv [1, 2, 3, 4, 0, 5] rfl (J79  y76  s61 hf)
  have J27 : ∀     (s27 : xS), sX8_odds_L27  s27 = some (r, s') → wk l G 8 RX8 cX8_odds 6 (some .int) (xI r s') 27 [(0, .ref (gA G 0))] [] s27 := by
    intro s27 hf
    unfold sX8_odds_L27 at hf
    refine wk_aload_n (pc := 27) dX8_odds_27 rfl 0 rfl ?_
    refine wk_iconst (pc := 28) (v := (1 : Int32)) dX8_odds_28 (by decide) ?_
    obtain ⟨r29, s29, hc29, hf⟩ := xbind_some hf
    refine wk_callVI (pc := 29) (As := [.int (1 : Int32)]) (rest := []) (kX8_refuse l hG  hc29) cw_X8_86 (by decide) dX8_odds_29 (nc_0 hG).2 (nc_0 hG).1 rfl rfl rfl (Nat.le_of_ble_eq_true rfl) ?_
    exact wk_iret (pc := 32) dX8_odds_32 rfl (xI_of hf)
  refine wk_aload_n (pc := 0) dX8_odds_0 rfl 0 rfl ?_
  refine wk_iload_n (pc := 1) dX8_odds_1 rfl 1 rfl ?_
  obtain ⟨r2, s2, hc2, hf⟩ := xbind_some hf
  refine wk_callVI (pc := 2) (As := [.int p1]) (rest := []) (kX8_isShip l hG  hc2) cw_X8_149 (by decide) dX8_odds_2 (nc_0 hG).2 (nc_0 hG).1 rfl rfl rfl (Nat.le_of_ble_eq_true rfl) ?_
  refine wk_if_eq (pc := 5) (tgt := 27) dX8_odds_5 rfl hf (fun hf => ?_) (fun hf => ?_)
  · exact wk_lv [0] rfl (J27    s2 hf)
  · refine wk_iload_n (pc := 8) dX8_odds_8 rfl 2 rfl ?_
    refine wk_iconst (pc := 9) (v := (0 : Int32)) dX8_odds_9 (by decide) ?_
    refine wk_bipush (pc := 10) (v := (60 : Int32)) dX8_odds_10 (by decide) ?_
    obtain ⟨r12, s12, hc12, hf⟩ := xbind_some hf
    refine wk_callSI (pc := 12) (As := [.int p2, .int (0 : Int32), .int (60 : Int32)]) (rest := []) (kX8_within l hG  hc12) cw_X8_82 (by decide) dX8_odds_12 rfl (Nat.le_of_ble_eq_true rfl) ?_
    refine wk_if_eq (pc := 15) (tgt := 27) dX8_odds_15 rfl hf (fun hf => ?_) (fun hf => ?_)
    · exact wk_lv [0] rfl (J27    s12 hf)
    · refine wk_iload_n (pc := 18) dX8_odds_18 rfl 3 rfl ?_
      refine wk_iconst (pc := 19) (v := (0 : Int32)) dX8_odds_19 (by decide) ?_
      refine wk_iconst (pc := 20) (v := (1 : Int32)) dX8_odds_20 (by decide) ?_
      obtain ⟨r21, s21, hc21, hf⟩ := xbind_some hf
      refine wk_callSI (pc := 21) (As := [.int p3, .int (0 : Int32), .int (1 : Int32)]) (rest := []) (kX8_within l hG  hc21) cw_X8_82 (by decide) dX8_odds_21 rfl (Nat.le_of_ble_eq_true rfl) ?_
      refine wk_if_ne (pc := 24) (tgt := 33) dX8_odds_24 rfl hf (fun hf => ?_) (fun hf => ?_)
      · refine wk_iconst (pc := 33) (v := (0 : Int32)) dX8_odds_33 (by decide) ?_
        refine wk_istore (pc := 34) (lv' := [(4, .int (0 : Int32)), (0, .ref (gA G 0)), (1, .int p1), (2, .int p2), (3, .int p3)]) dX8_odds_34 (by decide) rfl ?_
        refine wk_iconst (pc := 36) (v := (0 : Int32)) dX8_odds_36 (by decide) ?_
        refine wk_istore (pc := 37) (lv' := [(5, .int (0 : Int32)), (4, .int (0 : Int32)), (0, .ref (gA G 0)), (1, .int p1), (2, .int p2), (3, .int p3)]) dX8_odds_37 (by decide) rfl ?_
        exact wk_lv [2, 3, 4, 5, 1, 0] rfl (J39  xF (0 : Int32) (0 : Int32)  s21 hf)
      · exact wk_lv [0] rfl (J27    s21 hf)
noncomputable def sX8_seed (p1 : Int32) (s : xS) : Option (Int32 × xS) := xlet ((s 39 0)) (fun y7 => xlet (xup s 39 (upd (s 39) 0 p1)) (fun s13 => some (y7, s13)))
set_option maxHeartbeats 4000000 in
set_option maxRecDepth 100000 in
theorem kX8_seed (l : Launch) {G : xG} (hG : xC1 G)  {p1 : Int32}  {s : xS} {r : Int32} {s' : xS} (hf : sX8_seed p1 s = some (r, s')) : xMet l G 2 yX8_seed cX8_seed 3 (some .int) [.ref (gA G 0), .int p1] s (xI r s') := by
  refine xMet.of (by decide) (Nat.le_of_ble_eq_true rfl) ?_
  show wk l G 2 RX8 cX8_seed 3 (some .int) (xI r s') 0 [(0, .ref (gA G 0)), (1, .int p1)] [] s
  unfold sX8_seed at hf
  refine wk_aload_n (pc := 0) dX8_seed_0 rfl 0 rfl ?_
  refine wk_getR (C := RX8) (T := TX8) (N := 13) (pc := 1) dX8_seed_1 (nc_0 hG).2 (nc_0 hG).1 rfl qU_X8 2 (by decide) qF_X8_26 rfl ?_
  refine wk_getI (C := RX2) (T := TX2) (N := 5) (pc := 4) dX8_seed_4 (nc_39 hG).2 (nc_39 hG).1 rfl qU_X2 0 (by decide) qF_X8_268 rfl ?_
  obtain ⟨y7, hy7, hf⟩ := xlet_some hf
  refine wk_top hy7 ?_
  refine wk_istore_n (pc := 7) (lv' := [(2, .int y7), (0, .ref (gA G 0)), (1, .int p1)]) dX8_seed_7 rfl (by decide) rfl ?_
  refine wk_aload_n (pc := 8) dX8_seed_8 rfl 1 rfl ?_
  refine wk_getR (C := RX8) (T := TX8) (N := 13) (pc := 9) dX8_seed_9 (nc_0 hG).2 (nc_0 hG).1 rfl qU_X8 2 (by decide) qF_X8_26 rfl ?_
  refine wk_iload_n (pc := 12) dX8_seed_12 rfl 2 rfl ?_
  refine wk_putI (C := RX2) (T := TX2) (N := 5) (ty := .int) (pc := 13) dX8_seed_13 (nc_39 hG).2 (nc_39 hG).1 rfl qU_X2 tyX2 tyX2_ok nmX2 0 (by decide) qF_X8_268 rfl rfl rfl rfl rfl ?_
  obtain ⟨s13, hs13, hf⟩ := xlet_some hf
  refine wk_sig hs13 ?_
  refine wk_iload_n (pc := 16) dX8_seed_16 rfl 0 rfl ?_
  exact wk_iret (pc := 17) dX8_seed_17 rfl (xI_of hf)
noncomputable def sX8_voice_L17   (s17 : xS) : Option (Int32 × xS) := xbind (sX8_refuse (1 : Int32) s17) (fun r19 s19 => some (r19, s19))
noncomputable def sX8_voice (p1 : Int32) (p2 : Int32) (p3 : Int32) (s : xS) : Option (Int32 × xS) := xbind (sX8_isShip p1 s) (fun r2 s2 => (if r2 = 0 then sX8_voice_L17  s2 else xbind (sX8_within p2 (0 : Int32) (3 : Int32) s2) (fun r11 s11 => (if r11 = 0 then sX8_voice_L17  s11 else (if xin p1 7 then (if xin p1 7 then xbind (sX7_speak (s11 22 p1.toNatClampNeg) p1 (s11 23 p1.toNatClampNeg) p2 p3 s11) (fun r48 s48 => some (r48, s48)) else none) else none)))))
set_option maxHeartbeats 4000000 in
set_option maxRecDepth 100000 in
theorem kX8_voice (l : Launch) {G : xG} (hG : xC1 G)  {p1 : Int32} {p2 : Int32} {p3 : Int32}  {s : xS} {r : Int32} {s' : xS} (hf : sX8_voice p1 p2 p3 s = some (r, s')) : xMet l G 100 yX8_voice cX8_voice 4 (some .int) [.ref (gA G 0), .int p1, .int p2, .int p3] s (xI r s') := by
  refine xMet.of (by decide) (Nat.le_of_ble_eq_true rfl) ?_
  show wk l G 100 RX8 cX8_voice 4 (some .int) (xI r s') 0 [(0, .ref (gA G 0)), (1, .int p1), (2, .int p2), (3, .int p3)] [] s
  unfold sX8_voice at hf
  have J17 : ∀     (s17 : xS), sX8_voice_L17  s17 = some (r, s') → wk l G 100 RX8 cX8_voice 4 (some .int) (xI r s') 17 [(0, .ref (gA G 0))] [] s17 := by
    intro s17 hf
    unfold sX8_voice_L17 at hf
    refine wk_aload_n (pc := 17) dX8_voice_17 rfl 0 rfl ?_
    refine wk_iconst (pc := 18) (v := (1 : Int32)) dX8_voice_18 (by decide) ?_
    obtain ⟨r19, s19, hc19, hf⟩ := xbind_some hf
    refine wk_callVI (pc := 19) (As := [.int (1 : Int32)]) (rest := []) (kX8_refuse l hG  hc19) cw_X8_86 (by decide) dX8_voice_19 (nc_0 hG).2 (nc_0 hG).1 rfl rfl rfl (Nat.le_of_ble_eq_true rfl) ?_
    exact wk_iret (pc := 22) dX8_voice_22 rfl (xI_of hf)
  refine wk_aload_n (pc := 0) dX8_voice_0 rfl 0 rfl ?_
  refine wk_iload_n (pc := 1) dX8_voice_1 rfl 1 rfl ?_
  obtain ⟨r2, s2, hc2, hf⟩ := xbind_some hf
  refine wk_callVI (pc := 2) (As := [.int p1]) (rest := []) (kX8_isShip l hG  hc2) cw_X8_149 (by decide) dX8_voice_2 (nc_0 hG).2 (nc_0 hG).1 rfl rfl rfl (Nat.le_of_ble_eq_true rfl) ?_
  refine wk_if_eq (pc := 5) (tgt := 17) dX8_voice_5 rfl hf (fun hf => ?_) (fun hf => ?_)
  · exact wk_lv [0] rfl (J17    s2 hf)
  · refine wk_iload_n (pc := 8) dX8_voice_8 rfl 2 rfl ?_
    refine wk_iconst (pc := 9) (v := (0 : Int32)) dX8_voice_9 (by decide) ?_
    refine wk_iconst (pc := 10) (v := (3 : Int32)) dX8_voice_10 (by decide) ?_
    obtain ⟨r11, s11, hc11, hf⟩ := xbind_some hf
    refine wk_callSI (pc := 11) (As := [.int p2, .int (0 : Int32), .int (3 : Int32)]) (rest := []) (kX8_within l hG  hc11) cw_X8_82 (by decide) dX8_voice_11 rfl (Nat.le_of_ble_eq_true rfl) ?_
    refine wk_if_ne (pc := 14) (tgt := 23) dX8_voice_14 rfl hf (fun hf => ?_) (fun hf => ?_)
    · refine wk_aload_n (pc := 23) dX8_voice_23 rfl 0 rfl ?_
      refine wk_getR (C := RX8) (T := TX8) (N := 13) (pc := 24) dX8_voice_24 (nc_0 hG).2 (nc_0 hG).1 rfl qU_X8 10 (by decide) qF_X8_63 rfl ?_
      refine wk_aload_n (pc := 27) dX8_voice_27 rfl 0 rfl ?_
      refine wk_getR (C := RX8) (T := TX8) (N := 13) (pc := 28) dX8_voice_28 (nc_0 hG).2 (nc_0 hG).1 rfl qU_X8 1 (by decide) qF_X8_19 rfl ?_
      refine wk_getR (C := RX3) (T := TX3) (N := 7) (pc := 31) dX8_voice_31 (nc_21 hG).2 (nc_21 hG).1 rfl qU_X3 2 (by decide) qF_X8_134 rfl ?_
      refine wk_iload_n (pc := 34) dX8_voice_34 rfl 1 rfl ?_
      obtain ⟨h35, hf⟩ := xif_some hf
      refine wk_iald (pc := 35) (jj := p1.toNatClampNeg) dX8_voice_35 (nc_22 hG).2 (nc_22 hG).1 h35 rfl ?_
      refine wk_iload_n (pc := 36) dX8_voice_36 rfl 1 rfl ?_
      refine wk_aload_n (pc := 37) dX8_voice_37 rfl 0 rfl ?_
      refine wk_getR (C := RX8) (T := TX8) (N := 13) (pc := 38) dX8_voice_38 (nc_0 hG).2 (nc_0 hG).1 rfl qU_X8 1 (by decide) qF_X8_19 rfl ?_
      refine wk_getR (C := RX3) (T := TX3) (N := 7) (pc := 41) dX8_voice_41 (nc_21 hG).2 (nc_21 hG).1 rfl qU_X3 3 (by decide) qF_X8_137 rfl ?_
      refine wk_iload_n (pc := 44) dX8_voice_44 rfl 1 rfl ?_
      obtain ⟨h45, hf⟩ := xif_some hf
      refine wk_iald (pc := 45) (jj := p1.toNatClampNeg) dX8_voice_45 (nc_23 hG).2 (nc_23 hG).1 h45 rfl ?_
      refine wk_iload_n (pc := 46) dX8_voice_46 rfl 2 rfl ?_
      refine wk_iload_n (pc := 47) dX8_voice_47 rfl 3 rfl ?_
      obtain ⟨r48, s48, hc48, hf⟩ := xbind_some hf
      refine wk_callVI (pc := 48) (As := [.int (s11 22 p1.toNatClampNeg), .int p1, .int (s11 23 p1.toNatClampNeg), .int p2, .int p3]) (rest := []) (kX7_speak l hG  hc48) cw_X8_271 (by decide) dX8_voice_48 (nc_54 hG).2 (nc_54 hG).1 rfl rfl rfl (Nat.le_of_ble_eq_true rfl) ?_
      exact wk_iret (pc := 51) dX8_voice_51 rfl (xI_of hf)
    · exact wk_lv [0] rfl (J17    s11 hf)
noncomputable def sX8_trace (p1 : Int32) (s : xS) : Option (Int32 × xS) := xbind (sX8_within p1 (0 : Int32) ((s 54 0) - (1 : Int32)) s) (fun r11 s11 => (if r11 = 0 then xbind (sX8_refuse (2 : Int32) s11) (fun r31 s31 => some (r31, s31)) else (if xin p1 40 then some ((s11 55 p1.toNatClampNeg), s11) else none)))
set_option maxHeartbeats 4000000 in
set_option maxRecDepth 100000 in
theorem kX8_trace (l : Launch) {G : xG} (hG : xC1 G)  {p1 : Int32}  {s : xS} {r : Int32} {s' : xS} (hf : sX8_trace p1 s = some (r, s')) : xMet l G 3 yX8_trace cX8_trace 2 (some .int) [.ref (gA G 0), .int p1] s (xI r s') := by
  refine xMet.of (by decide) (Nat.le_of_ble_eq_true rfl) ?_
  show wk l G 3 RX8 cX8_trace 2 (some .int) (xI r s') 0 [(0, .ref (gA G 0)), (1, .int p1)] [] s
  unfold sX8_trace at hf
  refine wk_iload_n (pc := 0) dX8_trace_0 rfl 1 rfl ?_
  refine wk_iconst (pc := 1) (v := (0 : Int32)) dX8_trace_1 (by decide) ?_
  refine wk_aload_n (pc := 2) dX8_trace_2 rfl 0 rfl ?_
  refine wk_getR (C := RX8) (T := TX8) (N := 13) (pc := 3) dX8_trace_3 (nc_0 hG).2 (nc_0 hG).1 rfl qU_X8 10 (by decide) qF_X8_63 rfl ?_
  refine wk_getI (C := RX7) (T := TX7) (N := 5) (pc := 6) dX8_trace_6 (nc_54 hG).2 (nc_54 hG).1 rfl qU_X7 0 (by decide) qF_X8_275 rfl ?_
  refine wk_iconst (pc := 9) (v := (1 : Int32)) dX8_trace_9 (by decide) ?_
  refine wk_isub (pc := 10) dX8_trace_10 ?_
  obtain ⟨r11, s11, hc11, hf⟩ := xbind_some hf
  refine wk_callSI (pc := 11) (As := [.int p1, .int (0 : Int32), .int ((s 54 0) - (1 : Int32))]) (rest := []) (kX8_within l hG  hc11) cw_X8_82 (by decide) dX8_trace_11 rfl (Nat.le_of_ble_eq_true rfl) ?_
  refine wk_if_eq (pc := 14) (tgt := 29) dX8_trace_14 rfl hf (fun hf => ?_) (fun hf => ?_)
  · refine wk_aload_n (pc := 29) dX8_trace_29 rfl 0 rfl ?_
    refine wk_iconst (pc := 30) (v := (2 : Int32)) dX8_trace_30 (by decide) ?_
    obtain ⟨r31, s31, hc31, hf⟩ := xbind_some hf
    refine wk_callVI (pc := 31) (As := [.int (2 : Int32)]) (rest := []) (kX8_refuse l hG  hc31) cw_X8_86 (by decide) dX8_trace_31 (nc_0 hG).2 (nc_0 hG).1 rfl rfl rfl (Nat.le_of_ble_eq_true rfl) ?_
    exact wk_iret (pc := 34) dX8_trace_34 rfl (xI_of hf)
  · refine wk_aload_n (pc := 17) dX8_trace_17 rfl 0 rfl ?_
    refine wk_getR (C := RX8) (T := TX8) (N := 13) (pc := 18) dX8_trace_18 (nc_0 hG).2 (nc_0 hG).1 rfl qU_X8 10 (by decide) qF_X8_63 rfl ?_
    refine wk_getR (C := RX7) (T := TX7) (N := 5) (pc := 21) dX8_trace_21 (nc_54 hG).2 (nc_54 hG).1 rfl qU_X7 1 (by decide) qF_X8_278 rfl ?_
    refine wk_iload_n (pc := 24) dX8_trace_24 rfl 1 rfl ?_
    obtain ⟨h25, hf⟩ := xif_some hf
    refine wk_iald (pc := 25) (jj := p1.toNatClampNeg) dX8_trace_25 (nc_55 hG).2 (nc_55 hG).1 h25 rfl ?_
    refine wk_goto (pc := 26) (tgt := 34) dX8_trace_26 rfl ?_
    exact wk_iret (pc := 34) dX8_trace_34 rfl (xI_of hf)
noncomputable def sX8_sheet_L35 (p1 : Int32) (p2 : Int32) (p3 : Int32)  (s35 : xS) : Option (Int32 × xS) := (if p2 = 0 then (if xin p1 4 then xlet (57 + 2 * p1.toNatClampNeg) (fun o44 => xbind (sX6_renew o44 (0 : Int32) (0 : Int32) s35) (fun _ s47 => some ((1 : Int32), s47))) else none) else (if 0 ≤ p3 then (if p3 ≤ (40 : Int32) then (if xin p1 4 then xlet (57 + 2 * p1.toNatClampNeg) (fun o79 => xbind (sX6_renew o79 p2 p3 s35) (fun _ s82 => some ((1 : Int32), s82))) else none) else xbind (sX8_refuse (1 : Int32) s35) (fun r70 s70 => some (r70, s70))) else xbind (sX8_refuse (3 : Int32) s35) (fun r58 s58 => some (r58, s58))))
noncomputable def sX8_sheet_L29   (s29 : xS) : Option (Int32 × xS) := xbind (sX8_refuse (1 : Int32) s29) (fun r31 s31 => some (r31, s31))
noncomputable def sX8_sheet (p1 : Int32) (p2 : Int32) (p3 : Int32) (s : xS) : Option (Int32 × xS) := xbind (sX8_isSheet p1 s) (fun r1 s1 => (if r1 = 0 then sX8_sheet_L29  s1 else (if p2 = 0 then (sX8_sheet_L35 p1 p2 p3)  s1 else (if p2 = (8 : Int32) then (sX8_sheet_L35 p1 p2 p3)  s1 else (if p2 = (16 : Int32) then (sX8_sheet_L35 p1 p2 p3)  s1 else (if p2 = (32 : Int32) then (sX8_sheet_L35 p1 p2 p3)  s1 else sX8_sheet_L29  s1))))))
set_option maxHeartbeats 4000000 in
set_option maxRecDepth 100000 in
theorem kX8_sheet (l : Launch) {G : xG} (hG : xC1 G)  {p1 : Int32} {p2 : Int32} {p3 : Int32}  {s : xS} {r : Int32} {s' : xS} (hf : sX8_sheet p1 p2 p3 s = some (r, s')) : xMet l G 4 yX8_sheet cX8_sheet 4 (some .int) [.ref (gA G 0), .int p1, .int p2, .int p3] s (xI r s') := by
  refine xMet.of (by decide) (Nat.le_of_ble_eq_true rfl) ?_
  show wk l G 4 RX8 cX8_sheet 4 (some .int) (xI r s') 0 [(0, .ref (gA G 0)), (1, .int p1), (2, .int p2), (3, .int p3)] [] s
  unfold sX8_sheet at hf
  have J35 : ∀     (s35 : xS), (sX8_sheet_L35 p1 p2 p3)  s35 = some (r, s') → wk l G 4 RX8 cX8_sheet 4 (some .int) (xI r s') 35 [(0, .ref (gA G 0)), (1, .int p1), (2, .int p2), (3, .int p3)] [] s35 := by
    intro s35 hf
    unfold sX8_sheet_L35 at hf
    refine wk_iload_n (pc := 35) dX8_sheet_35 rfl 2 rfl ?_
    refine wk_if_ne (pc := 36) (tgt := 52) dX8_sheet_36 rfl hf (fun hf => ?_) (fun hf => ?_)
    · refine wk_iload_n (pc := 52) dX8_sheet_52 rfl 3 rfl ?_
      refine wk_if_ge (pc := 53) (tgt := 62) dX8_sheet_53 rfl hf (fun hf => ?_) (fun hf => ?_)
      · refine wk_iload_n (pc := 62) dX8_sheet_62 rfl 3 rfl ?_
        refine wk_bipush (pc := 63) (v := (40 : Int32)) dX8_sheet_63 (by decide) ?_
        refine wk_icmp_le (pc := 65) (tgt := 74) dX8_sheet_65 rfl hf (fun hf => ?_) (fun hf => ?_)
        · refine wk_aload_n (pc := 74) dX8_sheet_74 rfl 0 rfl ?_
          refine wk_getR (C := RX8) (T := TX8) (N := 13) (pc := 75) dX8_sheet_75 (nc_0 hG).2 (nc_0 hG).1 rfl qU_X8 11 (by decide) qF_X8_70 rfl ?_
          refine wk_iload_n (pc := 78) dX8_sheet_78 rfl 1 rfl ?_
          obtain ⟨h79, hf⟩ := xif_some hf
          refine wk_aald (pc := 79) dX8_sheet_79 (nc_56 hG).2 (nc_56 hG).1 h79 (sheet_at h79) ?_
          obtain ⟨o79, ho79, hf⟩ := xlet_some hf
          refine wk_topR ho79 ?_
          have fo79 : o79 ∈ lSheet := by rw [ho79]; exact sheet_in h79
          refine wk_iload_n (pc := 80) dX8_sheet_80 rfl 2 rfl ?_
          refine wk_iload_n (pc := 81) dX8_sheet_81 rfl 3 rfl ?_
          obtain ⟨⟨⟩, s82, hc82, hf⟩ := xbind_some hf
          refine wk_callVU (pc := 82) (As := [.int p2, .int p3]) (rest := []) (kX6_renew l hG fo79 hc82) cw_X8_281 (by decide) dX8_sheet_82 (sX6_0 hG fo79).2 (sX6_0 hG fo79).1 rfl rfl rfl (Nat.le_of_ble_eq_true rfl) ?_
          refine wk_iconst (pc := 85) (v := (1 : Int32)) dX8_sheet_85 (by decide) ?_
          exact wk_iret (pc := 86) dX8_sheet_86 rfl (xI_of hf)
        · refine wk_aload_n (pc := 68) dX8_sheet_68 rfl 0 rfl ?_
          refine wk_iconst (pc := 69) (v := (1 : Int32)) dX8_sheet_69 (by decide) ?_
          obtain ⟨r70, s70, hc70, hf⟩ := xbind_some hf
          refine wk_callVI (pc := 70) (As := [.int (1 : Int32)]) (rest := []) (kX8_refuse l hG  hc70) cw_X8_86 (by decide) dX8_sheet_70 (nc_0 hG).2 (nc_0 hG).1 rfl rfl rfl (Nat.le_of_ble_eq_true rfl) ?_
          exact wk_iret (pc := 73) dX8_sheet_73 rfl (xI_of hf)
      · refine wk_aload_n (pc := 56) dX8_sheet_56 rfl 0 rfl ?_
        refine wk_iconst (pc := 57) (v := (3 : Int32)) dX8_sheet_57 (by decide) ?_
        obtain ⟨r58, s58, hc58, hf⟩ := xbind_some hf
        refine wk_callVI (pc := 58) (As := [.int (3 : Int32)]) (rest := []) (kX8_refuse l hG  hc58) cw_X8_86 (by decide) dX8_sheet_58 (nc_0 hG).2 (nc_0 hG).1 rfl rfl rfl (Nat.le_of_ble_eq_true rfl) ?_
        exact wk_iret (pc := 61) dX8_sheet_61 rfl (xI_of hf)
    · refine wk_aload_n (pc := 39) dX8_sheet_39 rfl 0 rfl ?_
      refine wk_getR (C := RX8) (T := TX8) (N := 13) (pc := 40) dX8_sheet_40 (nc_0 hG).2 (nc_0 hG).1 rfl qU_X8 11 (by decide) qF_X8_70 rfl ?_
      refine wk_iload_n (pc := 43) dX8_sheet_43 rfl 1 rfl ?_
      obtain ⟨h44, hf⟩ := xif_some hf
      refine wk_aald (pc := 44) dX8_sheet_44 (nc_56 hG).2 (nc_56 hG).1 h44 (sheet_at h44) ?_
      obtain ⟨o44, ho44, hf⟩ := xlet_some hf
      refine wk_topR ho44 ?_
      have fo44 : o44 ∈ lSheet := by rw [ho44]; exact sheet_in h44
      refine wk_iconst (pc := 45) (v := (0 : Int32)) dX8_sheet_45 (by decide) ?_
      refine wk_iconst (pc := 46) (v := (0 : Int32)) dX8_sheet_46 (by decide) ?_
      obtain ⟨⟨⟩, s47, hc47, hf⟩ := xbind_some hf
      refine wk_callVU (pc := 47) (As := [.int (0 : Int32), .int (0 : Int32)]) (rest := []) (kX6_renew l hG fo44 hc47) cw_X8_281 (by decide) dX8_sheet_47 (sX6_0 hG fo44).2 (sX6_0 hG fo44).1 rfl rfl rfl (Nat.le_of_ble_eq_true rfl) ?_
      refine wk_iconst (pc := 50) (v := (1 : Int32)) dX8_sheet_50 (by decide) ?_
      exact wk_iret (pc := 51) dX8_sheet_51 rfl (xI_of hf)
  have J29 : ∀     (s29 : xS), sX8_sheet_L29  s29 = some (r, s') → wk l G 4 RX8 cX8_sheet 4 (some .int) (xI r s') 29 [(0, .ref (gA G 0))] [] s29 := by
    intro s29 hf
    unfold sX8_sheet_L29 at hf
    refine wk_aload_n (pc := 29) dX8_sheet_29 rfl 0 rfl ?_
    refine wk_iconst (pc := 30) (v := (1 : Int32)) dX8_sheet_30 (by decide) ?_
    obtain ⟨r31, s31, hc31, hf⟩ := xbind_some hf
    refine wk_callVI (pc := 31) (As := [.int (1 : Int32)]) (rest := []) (kX8_refuse l hG  hc31) cw_X8_86 (by decide) dX8_sheet_31 (nc_0 hG).2 (nc_0 hG).1 rfl rfl rfl (Nat.le_of_ble_eq_true rfl) ?_
    exact wk_iret (pc := 34) dX8_sheet_34 rfl (xI_of hf)
  refine wk_iload_n (pc := 0) dX8_sheet_0 rfl 1 rfl ?_
  obtain ⟨r1, s1, hc1, hf⟩ := xbind_some hf
  refine wk_callSI (pc := 1) (As := [.int p1]) (rest := []) (kX8_isSheet l hG  hc1) cw_X8_239 (by decide) dX8_sheet_1 rfl (Nat.le_of_ble_eq_true rfl) ?_
  refine wk_if_eq (pc := 4) (tgt := 29) dX8_sheet_4 rfl hf (fun hf => ?_) (fun hf => ?_)
  · exact wk_lv [0] rfl (J29    s1 hf)
  · refine wk_iload_n (pc := 7) dX8_sheet_7 rfl 2 rfl ?_
    refine wk_if_eq (pc := 8) (tgt := 35) dX8_sheet_8 rfl hf (fun hf => ?_) (fun hf => ?_)
    · exact wk_lv [0, 1, 2, 3] rfl (J35    s1 hf)
    · refine wk_iload_n (pc := 11) dX8_sheet_11 rfl 2 rfl ?_
      refine wk_bipush (pc := 12) (v := (8 : Int32)) dX8_sheet_12 (by decide) ?_
      refine wk_icmp_eq (pc := 14) (tgt := 35) dX8_sheet_14 rfl hf (fun hf => ?_) (fun hf => ?_)
      · exact wk_lv [0, 1, 2, 3] rfl (J35    s1 hf)
      · refine wk_iload_n (pc := 17) dX8_sheet_17 rfl 2 rfl ?_
        refine wk_bipush (pc := 18) (v := (16 : Int32)) dX8_sheet_18 (by decide) ?_
        refine wk_icmp_eq (pc := 20) (tgt := 35) dX8_sheet_20 rfl hf (fun hf => ?_) (fun hf => ?_)
        · exact wk_lv [0, 1, 2, 3] rfl (J35    s1 hf)
        · refine wk_iload_n (pc := 23) dX8_sheet_23 rfl 2 rfl ?_
          refine wk_bipush (pc := 24) (v := (32 : Int32)) dX8_sheet_24 (by decide) ?_
          refine wk_icmp_eq (pc := 26) (tgt := 35) dX8_sheet_26 rfl hf (fun hf => ?_) (fun hf => ?_)
          · exact wk_lv [0, 1, 2, 3] rfl (J35    s1 hf)
          · exact wk_lv [0] rfl (J29    s1 hf)
noncomputable def sX8_put (p1 : Int32) (p2 : Int32) (p3 : Int32) (s : xS) : Option (Int32 × xS) := xbind (sX8_isSheet p1 s) (fun r1 s1 => (if r1 = 0 then xbind (sX8_refuse (1 : Int32) s1) (fun r9 s9 => some (r9, s9)) else (if xin p1 4 then xlet (57 + 2 * p1.toNatClampNeg) (fun o18 => xbind (sX6_isMissing o18 s1) (fun r23 s23 => (if r23 = 0 then xbind (sX8_within p2 (0 : Int32) ((s23 o18 1) - (1 : Int32)) s23) (fun r44 s44 => (if r44 = 0 then xbind (sX8_refuse (1 : Int32) s44) (fun r52 s52 => some (r52, s52)) else xbind (sX6_lowest o18 p3 s44) (fun r65 s65 => (if xin p2 40 then xlet (xup s65 (o18 + 1) (upd (s65 (o18 + 1)) p2.toNatClampNeg r65)) (fun s68 => some ((1 : Int32), s68)) else none)))) else xbind (sX8_refuse (2 : Int32) s23) (fun r31 s31 => some (r31, s31))))) else none)))
set_option maxHeartbeats 4000000 in
set_option maxRecDepth 100000 in
theorem kX8_put (l : Launch) {G : xG} (hG : xC1 G)  {p1 : Int32} {p2 : Int32} {p3 : Int32}  {s : xS} {r : Int32} {s' : xS} (hf : sX8_put p1 p2 p3 s = some (r, s')) : xMet l G 4 yX8_put cX8_put 5 (some .int) [.ref (gA G 0), .int p1, .int p2, .int p3] s (xI r s') := by
  refine xMet.of (by decide) (Nat.le_of_ble_eq_true rfl) ?_
  show wk l G 4 RX8 cX8_put 5 (some .int) (xI r s') 0 [(0, .ref (gA G 0)), (1, .int p1), (2, .int p2), (3, .int p3)] [] s
  unfold sX8_put at hf
  refine wk_iload_n (pc := 0) dX8_put_0 rfl 1 rfl ?_
  obtain ⟨r1, s1, hc1, hf⟩ := xbind_some hf
  refine wk_callSI (pc := 1) (As := [.int p1]) (rest := []) (kX8_isSheet l hG  hc1) cw_X8_239 (by decide) dX8_put_1 rfl (Nat.le_of_ble_eq_true rfl) ?_
  refine wk_if_ne (pc := 4) (tgt := 13) dX8_put_4 rfl hf (fun hf => ?_) (fun hf => ?_)
  · refine wk_aload_n (pc := 13) dX8_put_13 rfl 0 rfl ?_
    refine wk_getR (C := RX8) (T := TX8) (N := 13) (pc := 14) dX8_put_14 (nc_0 hG).2 (nc_0 hG).1 rfl qU_X8 11 (by decide) qF_X8_70 rfl ?_
    refine wk_iload_n (pc := 17) dX8_put_17 rfl 1 rfl ?_
    obtain ⟨h18, hf⟩ := xif_some hf
    refine wk_aald (pc := 18) dX8_put_18 (nc_56 hG).2 (nc_56 hG).1 h18 (sheet_at h18) ?_
    obtain ⟨o18, ho18, hf⟩ := xlet_some hf
    refine wk_topR ho18 ?_
    have fo18 : o18 ∈ lSheet := by rw [ho18]; exact sheet_in h18
    refine wk_astore (pc := 19) (lv' := [(4, .ref (gA G o18)), (0, .ref (gA G 0)), (1, .int p1), (2, .int p2), (3, .int p3)]) dX8_put_19 (by decide) rfl ?_
    refine wk_aload (pc := 21) dX8_put_21 0 rfl ?_
    obtain ⟨r23, s23, hc23, hf⟩ := xbind_some hf
    refine wk_callVI (pc := 23) (As := []) (rest := []) (kX6_isMissing l hG fo18 hc23) cw_X8_242 (by decide) dX8_put_23 (sX6_0 hG fo18).2 (sX6_0 hG fo18).1 rfl rfl rfl (Nat.le_of_ble_eq_true rfl) ?_
    refine wk_if_eq (pc := 26) (tgt := 35) dX8_put_26 rfl hf (fun hf => ?_) (fun hf => ?_)
    · refine wk_iload_n (pc := 35) dX8_put_35 rfl 3 rfl ?_
      refine wk_iconst (pc := 36) (v := (0 : Int32)) dX8_put_36 (by decide) ?_
      refine wk_aload (pc := 37) dX8_put_37 0 rfl ?_
      refine wk_getI (C := RX6) (T := TX6) (N := 3) (pc := 39) dX8_put_39 (sX6_0 hG fo18).2 (sX6_0 hG fo18).1 rfl qU_X6 1 (by decide) qF_X8_246 rfl ?_
      refine wk_iconst (pc := 42) (v := (1 : Int32)) dX8_put_42 (by decide) ?_
      refine wk_isub (pc := 43) dX8_put_43 ?_
      obtain ⟨r44, s44, hc44, hf⟩ := xbind_some hf
      refine wk_callSI (pc := 44) (As := [.int p2, .int (0 : Int32), .int ((s23 o18 1) - (1 : Int32))]) (rest := []) (kX8_within l hG  hc44) cw_X8_82 (by decide) dX8_put_44 rfl (Nat.le_of_ble_eq_true rfl) ?_
      refine wk_if_ne (pc := 47) (tgt := 56) dX8_put_47 rfl hf (fun hf => ?_) (fun hf => ?_)
      · refine wk_aload (pc := 56) dX8_put_56 0 rfl ?_
        refine wk_getR (C := RX6) (T := TX6) (N := 3) (pc := 58) dX8_put_58 (sX6_0 hG fo18).2 (sX6_0 hG fo18).1 rfl qU_X6 2 (by decide) qF_X8_253 rfl ?_
        refine wk_iload_n (pc := 61) dX8_put_61 rfl 3 rfl ?_
        refine wk_aload (pc := 62) dX8_put_62 0 rfl ?_
        refine wk_iload_n (pc := 64) dX8_put_64 rfl 4 rfl ?_
        obtain ⟨r65, s65, hc65, hf⟩ := xbind_some hf
        refine wk_callVI (pc := 65) (As := [.int p3]) (rest := [.int p2, .ref (gA G (o18 + 1))]) (kX6_lowest l hG fo18 hc65) cw_X8_284 (by decide) dX8_put_65 (sX6_0 hG fo18).2 (sX6_0 hG fo18).1 rfl rfl rfl (Nat.le_of_ble_eq_true rfl) ?_
        obtain ⟨h68, hf⟩ := xif_some hf
        refine wk_iast (pc := 68) (jj := p2.toNatClampNeg) dX8_put_68 (sX6_1 hG fo18).2 (sX6_1 hG fo18).1 h68 rfl ?_
        obtain ⟨s68, hs68, hf⟩ := xlet_some hf
        refine wk_sig hs68 ?_
        refine wk_iconst (pc := 69) (v := (1 : Int32)) dX8_put_69 (by decide) ?_
        exact wk_iret (pc := 70) dX8_put_70 rfl (xI_of hf)
      · refine wk_aload_n (pc := 50) dX8_put_50 rfl 1 rfl ?_
        refine wk_iconst (pc := 51) (v := (1 : Int32)) dX8_put_51 (by decide) ?_
        obtain ⟨r52, s52, hc52, hf⟩ := xbind_some hf
        refine wk_callVI (pc := 52) (As := [.int (1 : Int32)]) (rest := []) (kX8_refuse l hG  hc52) cw_X8_86 (by decide) dX8_put_52 (nc_0 hG).2 (nc_0 hG).1 rfl rfl rfl (Nat.le_of_ble_eq_true rfl) ?_
        exact wk_iret (pc := 55) dX8_put_55 rfl (xI_of hf)
    · refine wk_aload_n (pc := 29) dX8_put_29 rfl 1 rfl ?_
      refine wk_iconst (pc := 30) (v := (2 : Int32)) dX8_put_30 (by decide) ?_
      obtain ⟨r31, s31, hc31, hf⟩ := xbind_some hf
      refine wk_callVI (pc := 31) (As := [.int (2 : Int32)]) (rest := []) (kX8_refuse l hG  hc31) cw_X8_86 (by decide) dX8_put_31 (nc_0 hG).2 (nc_0 hG).1 rfl rfl rfl (Nat.le_of_ble_eq_true rfl) ?_
      exact wk_iret (pc := 34) dX8_put_34 rfl (xI_of hf)
  · refine wk_aload_n (pc := 7) dX8_put_7 rfl 0 rfl ?_
    refine wk_iconst (pc := 8) (v := (1 : Int32)) dX8_put_8 (by decide) ?_
    obtain ⟨r9, s9, hc9, hf⟩ := xbind_some hf
    refine wk_callVI (pc := 9) (As := [.int (1 : Int32)]) (rest := []) (kX8_refuse l hG  hc9) cw_X8_86 (by decide) dX8_put_9 (nc_0 hG).2 (nc_0 hG).1 rfl rfl rfl (Nat.le_of_ble_eq_true rfl) ?_
    exact wk_iret (pc := 12) dX8_put_12 rfl (xI_of hf)
noncomputable def sX8_move_L100   (s100 : xS) : Option (Int32 × xS) := xbind (sX8_refuse (1 : Int32) s100) (fun r102 s102 => some (r102, s102))
noncomputable def sX8_move_L52   (s52 : xS) : Option (Int32 × xS) := xbind (sX8_refuse (2 : Int32) s52) (fun r54 s54 => some (r54, s54))
noncomputable def sX8_move_L14   (s14 : xS) : Option (Int32 × xS) := xbind (sX8_refuse (1 : Int32) s14) (fun r16 s16 => some (r16, s16))
noncomputable def sX8_move (p1 : Int32) (p2 : Int32) (p3 : Int32) (p4 : Int32) (p5 : Int32) (s : xS) : Option (Int32 × xS) := xbind (sX8_isSheet p1 s) (fun r1 s1 => (if r1 = 0 then sX8_move_L14  s1 else xbind (sX8_isSheet p3 s1) (fun r8 s8 => (if r8 = 0 then sX8_move_L14  s8 else (if xin p1 4 then xlet (57 + 2 * p1.toNatClampNeg) (fun o25 => (if xin p3 4 then xlet (57 + 2 * p3.toNatClampNeg) (fun o33 => xbind (sX6_isMissing o25 s8) (fun r38 s38 => (if r38 = 0 then xbind (sX6_isMissing o33 s38) (fun r46 s46 => (if r46 = 0 then (if (s46 o25 0) = (s46 o33 0) then xbind (sX6_holds o25 p2 p5 s46) (fun r82 s82 => (if r82 = 0 then sX8_move_L100  s82 else xbind (sX6_holds o33 p4 p5 s82) (fun r94 s94 => (if r94 = 0 then sX8_move_L100  s94 else (if 0 ≤ p2.toInt ∧ 0 ≤ p4.toInt ∧ 0 ≤ p5.toInt ∧ p2.toInt + p5.toInt ≤ (40 : Int) ∧ p4.toInt + p5.toInt ≤ (40 : Int) then xlet (xup s94 (o33 + 1) (va_cpy (s94 (o25 + 1)) (s94 (o33 + 1)) p2.toNatClampNeg p4.toNatClampNeg p5.toNatClampNeg)) (fun s121 => some (p5, s121)) else none))))) else xbind (sX8_refuse (5 : Int32) s46) (fun r73 s73 => some (r73, s73))) else sX8_move_L52  s46)) else sX8_move_L52  s38))) else none)) else none)))))
set_option maxHeartbeats 4000000 in
set_option maxRecDepth 100000 in
theorem kX8_move (l : Launch) {G : xG} (hG : xC1 G)  {p1 : Int32} {p2 : Int32} {p3 : Int32} {p4 : Int32} {p5 : Int32}  {s : xS} {r : Int32} {s' : xS} (hf : sX8_move p1 p2 p3 p4 p5 s = some (r, s')) : xMet l G 4 yX8_move cX8_move 8 (some .int) [.ref (gA G 0), .int p1, .int p2, .int p3, .int p4, .int p5] s (xI r s') := by
  refine xMet.of (by decide) (Nat.le_of_ble_eq_true rfl) ?_
  show wk l G 4 RX8 cX8_move 8 (some .int) (xI r s') 0 [(0, .ref (gA G 0)), (1, .int p1), (2, .int p2), (3, .int p3), (4, .int p4), (5, .int p5)] [] s
  unfold sX8_move at hf
  have J100 : ∀     (s100 : xS), sX8_move_L100  s100 = some (r, s') → wk l G 4 RX8 cX8_move 8 (some .int) (xI r s') 100 [(0, .ref (gA G 0))] [] s100 := by
    intro s100 hf
    unfold sX8_move_L100 at hf
    refine wk_aload_n (pc := 100) dX8_move_100 rfl 0 rfl ?_
    refine wk_iconst (pc := 101) (v := (1 : Int32)) dX8_move_101 (by decide) ?_
    obtain ⟨r102, s102, hc102, hf⟩ := xbind_some hf
    refine wk_callVI (pc := 102) (As := [.int (1 : Int32)]) (rest := []) (kX8_refuse l hG  hc102) cw_X8_86 (by decide) dX8_move_102 (nc_0 hG).2 (nc_0 hG).1 rfl rfl rfl (Nat.le_of_ble_eq_true rfl) ?_
    exact wk_iret (pc := 105) dX8_move_105 rfl (xI_of hf)
  have J52 : ∀     (s52 : xS), sX8_move_L52  s52 = some (r, s') → wk l G 4 RX8 cX8_move 8 (some .int) (xI r s') 52 [(0, .ref (gA G 0))] [] s52 := by
    intro s52 hf
    unfold sX8_move_L52 at hf
    refine wk_aload_n (pc := 52) dX8_move_52 rfl 0 rfl ?_
    refine wk_iconst (pc := 53) (v := (2 : Int32)) dX8_move_53 (by decide) ?_
    obtain ⟨r54, s54, hc54, hf⟩ := xbind_some hf
    refine wk_callVI (pc := 54) (As := [.int (2 : Int32)]) (rest := []) (kX8_refuse l hG  hc54) cw_X8_86 (by decide) dX8_move_54 (nc_0 hG).2 (nc_0 hG).1 rfl rfl rfl (Nat.le_of_ble_eq_true rfl) ?_
    exact wk_iret (pc := 57) dX8_move_57 rfl (xI_of hf)
  have J14 : ∀     (s14 : xS), sX8_move_L14  s14 = some (r, s') → wk l G 4 RX8 cX8_move 8 (some .int) (xI r s') 14 [(0, .ref (gA G 0))] [] s14 := by
    intro s14 hf
    unfold sX8_move_L14 at hf
    refine wk_aload_n (pc := 14) dX8_move_14 rfl 0 rfl ?_
    refine wk_iconst (pc := 15) (v := (1 : Int32)) dX8_move_15 (by decide) ?_
    obtain ⟨r16, s16, hc16, hf⟩ := xbind_some hf
    refine wk_callVI (pc := 16) (As := [.int (1 : Int32)]) (rest := []) (kX8_refuse l hG  hc16) cw_X8_86 (by decide) dX8_move_16 (nc_0 hG).2 (nc_0 hG).1 rfl rfl rfl (Nat.le_of_ble_eq_true rfl) ?_
    exact wk_iret (pc := 19) dX8_move_19 rfl (xI_of hf)
  refine wk_iload_n (pc := 0) dX8_move_0 rfl 1 rfl ?_
  obtain ⟨r1, s1, hc1, hf⟩ := xbind_some hf
  refine wk_callSI (pc := 1) (As := [.int p1]) (rest := []) (kX8_isSheet l hG  hc1) cw_X8_239 (by decide) dX8_move_1 rfl (Nat.le_of_ble_eq_true rfl) ?_
  refine wk_if_eq (pc := 4) (tgt := 14) dX8_move_4 rfl hf (fun hf => ?_) (fun hf => ?_)
  · exact wk_lv [0] rfl (J14    s1 hf)
  · refine wk_iload_n (pc := 7) dX8_move_7 rfl 3 rfl ?_
    obtain ⟨r8, s8, hc8, hf⟩ := xbind_some hf
    refine wk_callSI (pc := 8) (As := [.int p3]) (rest := []) (kX8_isSheet l hG  hc8) cw_X8_239 (by decide) dX8_move_8 rfl (Nat.le_of_ble_eq_true rfl) ?_
    refine wk_if_ne (pc := 11) (tgt := 20) dX8_move_11 rfl hf (fun hf => ?_) (fun hf => ?_)
    · refine wk_aload_n (pc := 20) dX8_move_20 rfl 0 rfl ?_
      refine wk_getR (C := RX8) (T := TX8) (N := 13) (pc := 21) dX8_move_21 (nc_0 hG).2 (nc_0 hG).1 rfl qU_X8 11 (by decide) qF_X8_70 rfl ?_
      refine wk_iload_n (pc := 24) dX8_move_24 rfl 1 rfl ?_
      obtain ⟨h25, hf⟩ := xif_some hf
      refine wk_aald (pc := 25) dX8_move_25 (nc_56 hG).2 (nc_56 hG).1 h25 (sheet_at h25) ?_
      obtain ⟨o25, ho25, hf⟩ := xlet_some hf
      refine wk_topR ho25 ?_
      have fo25 : o25 ∈ lSheet := by rw [ho25]; exact sheet_in h25
      refine wk_astore (pc := 26) (lv' := [(6, .ref (gA G o25)), (0, .ref (gA G 0)), (1, .int p1), (2, .int p2), (3, .int p3), (4, .int p4), (5, .int p5)]) dX8_move_26 (by decide) rfl ?_
      refine wk_aload_n (pc := 28) dX8_move_28 rfl 1 rfl ?_
      refine wk_getR (C := RX8) (T := TX8) (N := 13) (pc := 29) dX8_move_29 (nc_0 hG).2 (nc_0 hG).1 rfl qU_X8 11 (by decide) qF_X8_70 rfl ?_
      refine wk_iload_n (pc := 32) dX8_move_32 rfl 4 rfl ?_
      obtain ⟨h33, hf⟩ := xif_some hf
      refine wk_aald (pc := 33) dX8_move_33 (nc_56 hG).2 (nc_56 hG).1 h33 (sheet_at h33) ?_
      obtain ⟨o33, ho33, hf⟩ := xlet_some hf
      refine wk_topR ho33 ?_
      have fo33 : o33 ∈ lSheet := by rw [ho33]; exact sheet_in h33
      refine wk_astore (pc := 34) (lv' := [(7, .ref (gA G o33)), (6, .ref (gA G o25)), (0, .ref (gA G 0)), (1, .int p1), (2, .int p2), (3, .int p3), (4, .int p4), (5, .int p5)]) dX8_move_34 (by decide) rfl ?_
      refine wk_aload (pc := 36) dX8_move_36 1 rfl ?_
      obtain ⟨r38, s38, hc38, hf⟩ := xbind_some hf
      refine wk_callVI (pc := 38) (As := []) (rest := []) (kX6_isMissing l hG fo25 hc38) cw_X8_242 (by decide) dX8_move_38 (sX6_0 hG fo25).2 (sX6_0 hG fo25).1 rfl rfl rfl (Nat.le_of_ble_eq_true rfl) ?_
      refine wk_if_ne (pc := 41) (tgt := 52) dX8_move_41 rfl hf (fun hf => ?_) (fun hf => ?_)
      · exact wk_lv [2] rfl (J52    s38 hf)
      · refine wk_aload (pc := 44) dX8_move_44 0 rfl ?_
        obtain ⟨r46, s46, hc46, hf⟩ := xbind_some hf
        refine wk_callVI (pc := 46) (As := []) (rest := []) (kX6_isMissing l hG fo33 hc46) cw_X8_242 (by decide) dX8_move_46 (sX6_0 hG fo33).2 (sX6_0 hG fo33).1 rfl rfl rfl (Nat.le_of_ble_eq_true rfl) ?_
        refine wk_if_eq (pc := 49) (tgt := 58) dX8_move_49 rfl hf (fun hf => ?_) (fun hf => ?_)
        · refine wk_aload (pc := 58) dX8_move_58 1 rfl ?_
          refine wk_getI (C := RX6) (T := TX6) (N := 3) (pc := 60) dX8_move_60 (sX6_0 hG fo25).2 (sX6_0 hG fo25).1 rfl qU_X6 0 (by decide) qF_X8_287 rfl ?_
          refine wk_aload (pc := 63) dX8_move_63 0 rfl ?_
          refine wk_getI (C := RX6) (T := TX6) (N := 3) (pc := 65) dX8_move_65 (sX6_0 hG fo33).2 (sX6_0 hG fo33).1 rfl qU_X6 0 (by decide) qF_X8_287 rfl ?_
          refine wk_icmp_eq (pc := 68) (tgt := 77) dX8_move_68 rfl hf (fun hf => ?_) (fun hf => ?_)
          · refine wk_aload (pc := 77) dX8_move_77 1 rfl ?_
            refine wk_iload_n (pc := 79) dX8_move_79 rfl 4 rfl ?_
            refine wk_iload (pc := 80) dX8_move_80 7 rfl ?_
            obtain ⟨r82, s82, hc82, hf⟩ := xbind_some hf
            refine wk_callVI (pc := 82) (As := [.int p2, .int p5]) (rest := []) (kX6_holds l hG fo25 hc82) cw_X8_290 (by decide) dX8_move_82 (sX6_0 hG fo25).2 (sX6_0 hG fo25).1 rfl rfl rfl (Nat.le_of_ble_eq_true rfl) ?_
            refine wk_if_eq (pc := 85) (tgt := 100) dX8_move_85 rfl hf (fun hf => ?_) (fun hf => ?_)
            · exact wk_lv [2] rfl (J100    s82 hf)
            · refine wk_aload (pc := 88) dX8_move_88 0 rfl ?_
              refine wk_iload (pc := 90) dX8_move_90 6 rfl ?_
              refine wk_iload (pc := 92) dX8_move_92 7 rfl ?_
              obtain ⟨r94, s94, hc94, hf⟩ := xbind_some hf
              refine wk_callVI (pc := 94) (As := [.int p4, .int p5]) (rest := []) (kX6_holds l hG fo33 hc94) cw_X8_290 (by decide) dX8_move_94 (sX6_0 hG fo33).2 (sX6_0 hG fo33).1 rfl rfl rfl (Nat.le_of_ble_eq_true rfl) ?_
              refine wk_if_ne (pc := 97) (tgt := 106) dX8_move_97 rfl hf (fun hf => ?_) (fun hf => ?_)
              · refine wk_aload (pc := 106) dX8_move_106 1 rfl ?_
                refine wk_getR (C := RX6) (T := TX6) (N := 3) (pc := 108) dX8_move_108 (sX6_0 hG fo25).2 (sX6_0 hG fo25).1 rfl qU_X6 2 (by decide) qF_X8_253 rfl ?_
                refine wk_iload_n (pc := 111) dX8_move_111 rfl 4 rfl ?_
                refine wk_aload (pc := 112) dX8_move_112 0 rfl ?_
                refine wk_getR (C := RX6) (T := TX6) (N := 3) (pc := 114) dX8_move_114 (sX6_0 hG fo33).2 (sX6_0 hG fo33).1 rfl qU_X6 2 (by decide) qF_X8_253 rfl ?_
                refine wk_iload (pc := 117) dX8_move_117 6 rfl ?_
                refine wk_iload (pc := 119) dX8_move_119 7 rfl ?_
                obtain ⟨h121, hf⟩ := xif_some hf
                refine wk_copyi (pc := 121) (z0 := 40) (z1 := 40) dX8_move_121 qM_X8_293 qN_copy qS_copy qJ_J10 (sX6_1 hG fo25).2 (sX6_1 hG fo25).1 (sX6_1 hG fo33).2 (sX6_1 hG fo33).1 (by decide) (Nat.le_of_ble_eq_true rfl) h121 ?_
                obtain ⟨s121, hs121, hf⟩ := xlet_some hf
                refine wk_sig hs121 ?_
                refine wk_iload (pc := 124) dX8_move_124 7 rfl ?_
                exact wk_iret (pc := 126) dX8_move_126 rfl (xI_of hf)
              · exact wk_lv [2] rfl (J100    s94 hf)
          · refine wk_aload_n (pc := 71) dX8_move_71 rfl 2 rfl ?_
            refine wk_iconst (pc := 72) (v := (5 : Int32)) dX8_move_72 (by decide) ?_
            obtain ⟨r73, s73, hc73, hf⟩ := xbind_some hf
            refine wk_callVI (pc := 73) (As := [.int (5 : Int32)]) (rest := []) (kX8_refuse l hG  hc73) cw_X8_86 (by decide) dX8_move_73 (nc_0 hG).2 (nc_0 hG).1 rfl rfl rfl (Nat.le_of_ble_eq_true rfl) ?_
            exact wk_iret (pc := 76) dX8_move_76 rfl (xI_of hf)
        · exact wk_lv [2] rfl (J52    s46 hf)
    · exact wk_lv [0] rfl (J14    s8 hf)
noncomputable def sX8_beds_L51 (o18 : Nat) (y47 : Int32) (self51 : Int32 → xS → Option (Int32 × xS)) : Int32 → xS → Option (Int32 × xS) := fun a4_51 s51 => (if y47 ≤ a4_51 then some (y47, s51) else (if xin a4_51 40 then xbind (sX8_within (s51 (o18 + 1) a4_51.toNatClampNeg) (0 : Int32) (9 : Int32) s51) (fun r67 s67 => (if r67 = 0 then some (a4_51, s67) else (if xin a4_51 40 then (if xin a4_51 8 then xlet (xup s67 2 (upd (s67 2) a4_51.toNatClampNeg (s67 (o18 + 1) a4_51.toNatClampNeg))) (fun s92 => xlet (a4_51 + (1 : Int32)) (fun y93 => self51 y93 s92)) else none) else none))) else none))
noncomputable def sX8_beds (p1 : Int32) (s : xS) : Option (Int32 × xS) := xbind (sX8_isSheet p1 s) (fun r1 s1 => (if r1 = 0 then xbind (sX8_refuse (1 : Int32) s1) (fun r9 s9 => some (r9, s9)) else (if xin p1 4 then xlet (57 + 2 * p1.toNatClampNeg) (fun o18 => xbind (sX6_isMissing o18 s1) (fun r21 s21 => (if r21 = 0 then xlet ((if (s21 1 0) < (s21 o18 1) then (s21 1 0) else (s21 o18 1))) (fun y47 => xloop (sX8_beds_L51 o18 y47) xF (0 : Int32) s21) else xbind (sX8_refuse (2 : Int32) s21) (fun r29 s29 => some (r29, s29))))) else none)))
set_option maxHeartbeats 4000000 in
set_option maxRecDepth 100000 in
theorem kX8_beds (l : Launch) {G : xG} (hG : xC1 G)  {p1 : Int32}  {s : xS} {r : Int32} {s' : xS} (hf : sX8_beds p1 s = some (r, s')) : xMet l G 4 yX8_beds cX8_beds 5 (some .int) [.ref (gA G 0), .int p1] s (xI r s') := by
  refine xMet.of (by decide) (Nat.le_of_ble_eq_true rfl) ?_
  show wk l G 4 RX8 cX8_beds 5 (some .int) (xI r s') 0 [(0, .ref (gA G 0)), (1, .int p1)] [] s
  unfold sX8_beds at hf
  have J51 : ∀ (o18 : Nat) (y47 : Int32) (fo18 : o18 ∈ lSheet) (N : Nat) (a4_51 : Int32)  (s51 : xS), xloop (sX8_beds_L51 o18 y47) N a4_51 s51 = some (r, s') → wk l G 4 RX8 cX8_beds 5 (some .int) (xI r s') 51 [(0, .ref (gA G 0)), (2, .ref (gA G o18)), (3, .int y47), (4, .int a4_51)] [] s51 := by
    intro o18 y47 fo18
    intro N
    induction N with
    | zero => intro a4_51 s51 hf; exact (xloop_0 hf).elim
    | succ N ih51 =>
      intro a4_51 s51 hf
      rw [xloop_s] at hf
      generalize xloop (sX8_beds_L51 o18 y47) N = self51 at hf ih51
      unfold sX8_beds_L51 at hf
      refine wk_iload (pc := 51) dX8_beds_51 3 rfl ?_
      refine wk_iload_n (pc := 53) dX8_beds_53 rfl 2 rfl ?_
      refine wk_icmp_ge (pc := 54) (tgt := 99) dX8_beds_54 rfl hf (fun hf => ?_) (fun hf => ?_)
      · refine wk_iload_n (pc := 99) dX8_beds_99 rfl 2 rfl ?_
        exact wk_iret (pc := 100) dX8_beds_100 rfl (xI_of hf)
      · refine wk_aload_n (pc := 57) dX8_beds_57 rfl 1 rfl ?_
        refine wk_getR (C := RX6) (T := TX6) (N := 3) (pc := 58) dX8_beds_58 (sX6_0 hG fo18).2 (sX6_0 hG fo18).1 rfl qU_X6 2 (by decide) qF_X8_253 rfl ?_
        refine wk_iload (pc := 61) dX8_beds_61 3 rfl ?_
        obtain ⟨h63, hf⟩ := xif_some hf
        refine wk_iald (pc := 63) (jj := a4_51.toNatClampNeg) dX8_beds_63 (sX6_1 hG fo18).2 (sX6_1 hG fo18).1 h63 rfl ?_
        refine wk_iconst (pc := 64) (v := (0 : Int32)) dX8_beds_64 (by decide) ?_
        refine wk_bipush (pc := 65) (v := (9 : Int32)) dX8_beds_65 (by decide) ?_
        obtain ⟨r67, s67, hc67, hf⟩ := xbind_some hf
        refine wk_callSI (pc := 67) (As := [.int (s51 (o18 + 1) a4_51.toNatClampNeg), .int (0 : Int32), .int (9 : Int32)]) (rest := []) (kX8_within l hG  hc67) cw_X8_82 (by decide) dX8_beds_67 rfl (Nat.le_of_ble_eq_true rfl) ?_
        refine wk_if_ne (pc := 70) (tgt := 76) dX8_beds_70 rfl hf (fun hf => ?_) (fun hf => ?_)
        · refine wk_aload_n (pc := 76) dX8_beds_76 rfl 0 rfl ?_
          refine wk_getR (C := RX8) (T := TX8) (N := 13) (pc := 77) dX8_beds_77 (nc_0 hG).2 (nc_0 hG).1 rfl qU_X8 0 (by decide) qF_X8_10 rfl ?_
          refine wk_getR (C := RX0) (T := TX0) (N := 9) (pc := 80) dX8_beds_80 (nc_1 hG).2 (nc_1 hG).1 rfl qU_X0 4 (by decide) qF_X8_100 rfl ?_
          refine wk_iload (pc := 83) dX8_beds_83 3 rfl ?_
          refine wk_aload_n (pc := 85) dX8_beds_85 rfl 1 rfl ?_
          refine wk_getR (C := RX6) (T := TX6) (N := 3) (pc := 86) dX8_beds_86 (sX6_0 hG fo18).2 (sX6_0 hG fo18).1 rfl qU_X6 2 (by decide) qF_X8_253 rfl ?_
          refine wk_iload (pc := 89) dX8_beds_89 3 rfl ?_
          obtain ⟨h91, hf⟩ := xif_some hf
          refine wk_iald (pc := 91) (jj := a4_51.toNatClampNeg) dX8_beds_91 (sX6_1 hG fo18).2 (sX6_1 hG fo18).1 h91 rfl ?_
          obtain ⟨h92, hf⟩ := xif_some hf
          refine wk_iast (pc := 92) (jj := a4_51.toNatClampNeg) dX8_beds_92 (nc_2 hG).2 (nc_2 hG).1 h92 rfl ?_
          obtain ⟨s92, hs92, hf⟩ := xlet_some hf
          refine wk_sig hs92 ?_
          obtain ⟨y93, hy93, hf⟩ := xlet_some hf
          refine wk_iinc (pc := 93) (v := y93) (lv' := [(4, .int y93), (0, .ref (gA G 0)), (2, .ref (gA G o18)), (3, .int y47)]) dX8_beds_93 3 rfl (by rw [hy93] <;> rfl) (by decide) rfl ?_
          refine wk_goto (pc := 96) (tgt := 51) dX8_beds_96 rfl ?_
          exact wk_lv [1, 2, 3, 0] rfl (ih51 y93  s92 hf)
        · refine wk_iload (pc := 73) dX8_beds_73 3 rfl ?_
          exact wk_iret (pc := 75) dX8_beds_75 rfl (xI_of hf)
  refine wk_iload_n (pc := 0) dX8_beds_0 rfl 1 rfl ?_
  obtain ⟨r1, s1, hc1, hf⟩ := xbind_some hf
  refine wk_callSI (pc := 1) (As := [.int p1]) (rest := []) (kX8_isSheet l hG  hc1) cw_X8_239 (by decide) dX8_beds_1 rfl (Nat.le_of_ble_eq_true rfl) ?_
  refine wk_if_ne (pc := 4) (tgt := 13) dX8_beds_4 rfl hf (fun hf => ?_) (fun hf => ?_)
  · refine wk_aload_n (pc := 13) dX8_beds_13 rfl 0 rfl ?_
    refine wk_getR (C := RX8) (T := TX8) (N := 13) (pc := 14) dX8_beds_14 (nc_0 hG).2 (nc_0 hG).1 rfl qU_X8 11 (by decide) qF_X8_70 rfl ?_
    refine wk_iload_n (pc := 17) dX8_beds_17 rfl 1 rfl ?_
    obtain ⟨h18, hf⟩ := xif_some hf
    refine wk_aald (pc := 18) dX8_beds_18 (nc_56 hG).2 (nc_56 hG).1 h18 (sheet_at h18) ?_
    obtain ⟨o18, ho18, hf⟩ := xlet_some hf
    refine wk_topR ho18 ?_
    have fo18 : o18 ∈ lSheet := by rw [ho18]; exact sheet_in h18
    refine wk_astore_n (pc := 19) (lv' := [(2, .ref (gA G o18)), (0, .ref (gA G 0)), (1, .int p1)]) dX8_beds_19 rfl (by decide) rfl ?_
    refine wk_aload_n (pc := 20) dX8_beds_20 rfl 0 rfl ?_
    obtain ⟨r21, s21, hc21, hf⟩ := xbind_some hf
    refine wk_callVI (pc := 21) (As := []) (rest := []) (kX6_isMissing l hG fo18 hc21) cw_X8_242 (by decide) dX8_beds_21 (sX6_0 hG fo18).2 (sX6_0 hG fo18).1 rfl rfl rfl (Nat.le_of_ble_eq_true rfl) ?_
    refine wk_if_eq (pc := 24) (tgt := 33) dX8_beds_24 rfl hf (fun hf => ?_) (fun hf => ?_)
    · refine wk_aload_n (pc := 33) dX8_beds_33 rfl 0 rfl ?_
      refine wk_getI (C := RX6) (T := TX6) (N := 3) (pc := 34) dX8_beds_34 (sX6_0 hG fo18).2 (sX6_0 hG fo18).1 rfl qU_X6 1 (by decide) qF_X8_246 rfl ?_
      refine wk_aload_n (pc := 37) dX8_beds_37 rfl 1 rfl ?_
      refine wk_getR (C := RX8) (T := TX8) (N := 13) (pc := 38) dX8_beds_38 (nc_0 hG).2 (nc_0 hG).1 rfl qU_X8 0 (by decide) qF_X8_10 rfl ?_
      refine wk_getI (C := RX0) (T := TX0) (N := 9) (pc := 41) dX8_beds_41 (nc_1 hG).2 (nc_1 hG).1 rfl qU_X0 0 (by decide) qF_X8_93 rfl ?_
      refine wk_mmin (pc := 44) dX8_beds_44 qM_X8_299 qS_Mmin qJ_Math qC_Mmin (by decide) (Nat.le_of_ble_eq_true rfl) ?_
      obtain ⟨y47, hy47, hf⟩ := xlet_some hf
      refine wk_top hy47 ?_
      refine wk_istore_n (pc := 47) (lv' := [(3, .int y47), (2, .ref (gA G o18)), (0, .ref (gA G 0)), (1, .int p1)]) dX8_beds_47 rfl (by decide) rfl ?_
      refine wk_iconst (pc := 48) (v := (0 : Int32)) dX8_beds_48 (by decide) ?_
      refine wk_istore (pc := 49) (lv' := [(4, .int (0 : Int32)), (3, .int y47), (2, .ref (gA G o18)), (0, .ref (gA G 0)), (1, .int p1)]) dX8_beds_49 (by decide) rfl ?_
      exact wk_lv [3, 2, 1, 0] rfl (J51 o18 y47 fo18 xF (0 : Int32)  s21 hf)
    · refine wk_aload_n (pc := 27) dX8_beds_27 rfl 1 rfl ?_
      refine wk_iconst (pc := 28) (v := (2 : Int32)) dX8_beds_28 (by decide) ?_
      obtain ⟨r29, s29, hc29, hf⟩ := xbind_some hf
      refine wk_callVI (pc := 29) (As := [.int (2 : Int32)]) (rest := []) (kX8_refuse l hG  hc29) cw_X8_86 (by decide) dX8_beds_29 (nc_0 hG).2 (nc_0 hG).1 rfl rfl rfl (Nat.le_of_ble_eq_true rfl) ?_
      exact wk_iret (pc := 32) dX8_beds_32 rfl (xI_of hf)
  · refine wk_aload_n (pc := 7) dX8_beds_7 rfl 0 rfl ?_
    refine wk_iconst (pc := 8) (v := (1 : Int32)) dX8_beds_8 (by decide) ?_
    obtain ⟨r9, s9, hc9, hf⟩ := xbind_some hf
    refine wk_callVI (pc := 9) (As := [.int (1 : Int32)]) (rest := []) (kX8_refuse l hG  hc9) cw_X8_86 (by decide) dX8_beds_9 (nc_0 hG).2 (nc_0 hG).1 rfl rfl rfl (Nat.le_of_ble_eq_true rfl) ?_
    exact wk_iret (pc := 12) dX8_beds_12 rfl (xI_of hf)
noncomputable def sX8_judge_L51 (o18 : Nat) (y47 : Int32) (self51 : Int32 → xS → Option (Int32 × xS)) : Int32 → xS → Option (Int32 × xS) := fun a4_51 s51 => (if y47 ≤ a4_51 then xlet ((if (s51 o18 1) = (s51 21 0) then (-1 : Int32) else y47)) (fun y105d => some (y105d, s51)) else (if xin a4_51 40 then (if xin a4_51 7 then (if (s51 (o18 + 1) a4_51.toNatClampNeg) = (s51 25 a4_51.toNatClampNeg) then xlet (a4_51 + (1 : Int32)) (fun y80 => self51 y80 s51) else some (a4_51, s51)) else none) else none))
noncomputable def sX8_judge (p1 : Int32) (s : xS) : Option (Int32 × xS) := xbind (sX8_isSheet p1 s) (fun r1 s1 => (if r1 = 0 then xbind (sX8_refuse (1 : Int32) s1) (fun r9 s9 => some (r9, s9)) else (if xin p1 4 then xlet (57 + 2 * p1.toNatClampNeg) (fun o18 => xbind (sX6_isMissing o18 s1) (fun r21 s21 => (if r21 = 0 then xlet ((if (s21 21 0) < (s21 o18 1) then (s21 21 0) else (s21 o18 1))) (fun y47 => xloop (sX8_judge_L51 o18 y47) xF (0 : Int32) s21) else xbind (sX8_refuse (2 : Int32) s21) (fun r29 s29 => some (r29, s29))))) else none)))
set_option maxHeartbeats 4000000 in
set_option maxRecDepth 100000 in
theorem kX8_judge (l : Launch) {G : xG} (hG : xC1 G)  {p1 : Int32}  {s : xS} {r : Int32} {s' : xS} (hf : sX8_judge p1 s = some (r, s')) : xMet l G 4 yX8_judge cX8_judge 5 (some .int) [.ref (gA G 0), .int p1] s (xI r s') := by
  refine xMet.of (by decide) (Nat.le_of_ble_eq_true rfl) ?_
  show wk l G 4 RX8 cX8_judge 5 (some .int) (xI r s') 0 [(0, .ref (gA G 0)), (1, .int p1)] [] s
  unfold sX8_judge at hf
  have J51 : ∀ (o18 : Nat) (y47 : Int32) (fo18 : o18 ∈ lSheet) (N : Nat) (a4_51 : Int32)  (s51 : xS), xloop (sX8_judge_L51 o18 y47) N a4_51 s51 = some (r, s') → wk l G 4 RX8 cX8_judge 5 (some .int) (xI r s') 51 [(0, .ref (gA G 0)), (2, .ref (gA G o18)), (3, .int y47), (4, .int a4_51)] [] s51 := by
    intro o18 y47 fo18
    intro N
    induction N with
    | zero => intro a4_51 s51 hf; exact (xloop_0 hf).elim
    | succ N ih51 =>
      intro a4_51 s51 hf
      rw [xloop_s] at hf
      generalize xloop (sX8_judge_L51 o18 y47) N = self51 at hf ih51
      unfold sX8_judge_L51 at hf
      refine wk_iload (pc := 51) dX8_judge_51 3 rfl ?_
      refine wk_iload_n (pc := 53) dX8_judge_53 rfl 2 rfl ?_
      refine wk_icmp_ge (pc := 54) (tgt := 86) dX8_judge_54 rfl hf (fun hf => ?_) (fun hf => ?_)
      · refine wk_aload_n (pc := 86) dX8_judge_86 rfl 1 rfl ?_
        refine wk_getI (C := RX6) (T := TX6) (N := 3) (pc := 87) dX8_judge_87 (sX6_0 hG fo18).2 (sX6_0 hG fo18).1 rfl qU_X6 1 (by decide) qF_X8_246 rfl ?_
        refine wk_aload_n (pc := 90) dX8_judge_90 rfl 0 rfl ?_
        refine wk_getR (C := RX8) (T := TX8) (N := 13) (pc := 91) dX8_judge_91 (nc_0 hG).2 (nc_0 hG).1 rfl qU_X8 1 (by decide) qF_X8_19 rfl ?_
        refine wk_getI (C := RX3) (T := TX3) (N := 7) (pc := 94) dX8_judge_94 (nc_21 hG).2 (nc_21 hG).1 rfl qU_X3 0 (by decide) qF_X8_90 rfl ?_
        obtain ⟨y105d, hy105d, hf⟩ := xlet_some hf
        have K105 : wk l G 4 RX8 cX8_judge 5 (some .int) (xI r s') 105 [(0, .ref (gA G 0)), (2, .ref (gA G o18)), (3, .int y47), (4, .int a4_51)] [.int y105d] s51 := by
          exact wk_iret (pc := 105) dX8_judge_105 rfl (xI_of hf)
        by_cases c97 : (s51 o18 1) = (s51 21 0)
        · rw [if_pos c97] at hy105d
          refine wk_icmp_ne_p (pc := 97) (tgt := 104) dX8_judge_97 rfl c97 ?_
          refine wk_iconst (pc := 100) (v := (-1 : Int32)) dX8_judge_100 (by decide) ?_
          refine wk_goto (pc := 101) (tgt := 105) dX8_judge_101 rfl ?_
          exact wk_top hy105d K105
        · rw [if_neg c97] at hy105d
          refine wk_icmp_ne_m (pc := 97) (tgt := 104) dX8_judge_97 rfl c97 ?_
          refine wk_iload_n (pc := 104) dX8_judge_104 rfl 2 rfl ?_
          exact wk_top hy105d K105
      · refine wk_aload_n (pc := 57) dX8_judge_57 rfl 1 rfl ?_
        refine wk_getR (C := RX6) (T := TX6) (N := 3) (pc := 58) dX8_judge_58 (sX6_0 hG fo18).2 (sX6_0 hG fo18).1 rfl qU_X6 2 (by decide) qF_X8_253 rfl ?_
        refine wk_iload (pc := 61) dX8_judge_61 3 rfl ?_
        obtain ⟨h63, hf⟩ := xif_some hf
        refine wk_iald (pc := 63) (jj := a4_51.toNatClampNeg) dX8_judge_63 (sX6_1 hG fo18).2 (sX6_1 hG fo18).1 h63 rfl ?_
        refine wk_aload_n (pc := 64) dX8_judge_64 rfl 0 rfl ?_
        refine wk_getR (C := RX8) (T := TX8) (N := 13) (pc := 65) dX8_judge_65 (nc_0 hG).2 (nc_0 hG).1 rfl qU_X8 1 (by decide) qF_X8_19 rfl ?_
        refine wk_getR (C := RX3) (T := TX3) (N := 7) (pc := 68) dX8_judge_68 (nc_21 hG).2 (nc_21 hG).1 rfl qU_X3 5 (by decide) qF_X8_143 rfl ?_
        refine wk_iload (pc := 71) dX8_judge_71 3 rfl ?_
        obtain ⟨h73, hf⟩ := xif_some hf
        refine wk_iald (pc := 73) (jj := a4_51.toNatClampNeg) dX8_judge_73 (nc_25 hG).2 (nc_25 hG).1 h73 rfl ?_
        refine wk_icmp_eq (pc := 74) (tgt := 80) dX8_judge_74 rfl hf (fun hf => ?_) (fun hf => ?_)
        · obtain ⟨y80, hy80, hf⟩ := xlet_some hf
          refine wk_iinc (pc := 80) (v := y80) (lv' := [(4, .int y80), (0, .ref (gA G 0)), (2, .ref (gA G o18)), (3, .int y47)]) dX8_judge_80 3 rfl (by rw [hy80] <;> rfl) (by decide) rfl ?_
          refine wk_goto (pc := 83) (tgt := 51) dX8_judge_83 rfl ?_
          exact wk_lv [1, 2, 3, 0] rfl (ih51 y80  s51 hf)
        · refine wk_iload (pc := 77) dX8_judge_77 3 rfl ?_
          exact wk_iret (pc := 79) dX8_judge_79 rfl (xI_of hf)
  refine wk_iload_n (pc := 0) dX8_judge_0 rfl 1 rfl ?_
  obtain ⟨r1, s1, hc1, hf⟩ := xbind_some hf
  refine wk_callSI (pc := 1) (As := [.int p1]) (rest := []) (kX8_isSheet l hG  hc1) cw_X8_239 (by decide) dX8_judge_1 rfl (Nat.le_of_ble_eq_true rfl) ?_
  refine wk_if_ne (pc := 4) (tgt := 13) dX8_judge_4 rfl hf (fun hf => ?_) (fun hf => ?_)
  · refine wk_aload_n (pc := 13) dX8_judge_13 rfl 0 rfl ?_
    refine wk_getR (C := RX8) (T := TX8) (N := 13) (pc := 14) dX8_judge_14 (nc_0 hG).2 (nc_0 hG).1 rfl qU_X8 11 (by decide) qF_X8_70 rfl ?_
    refine wk_iload_n (pc := 17) dX8_judge_17 rfl 1 rfl ?_
    obtain ⟨h18, hf⟩ := xif_some hf
    refine wk_aald (pc := 18) dX8_judge_18 (nc_56 hG).2 (nc_56 hG).1 h18 (sheet_at h18) ?_
    obtain ⟨o18, ho18, hf⟩ := xlet_some hf
    refine wk_topR ho18 ?_
    have fo18 : o18 ∈ lSheet := by rw [ho18]; exact sheet_in h18
    refine wk_astore_n (pc := 19) (lv' := [(2, .ref (gA G o18)), (0, .ref (gA G 0)), (1, .int p1)]) dX8_judge_19 rfl (by decide) rfl ?_
    refine wk_aload_n (pc := 20) dX8_judge_20 rfl 0 rfl ?_
    obtain ⟨r21, s21, hc21, hf⟩ := xbind_some hf
    refine wk_callVI (pc := 21) (As := []) (rest := []) (kX6_isMissing l hG fo18 hc21) cw_X8_242 (by decide) dX8_judge_21 (sX6_0 hG fo18).2 (sX6_0 hG fo18).1 rfl rfl rfl (Nat.le_of_ble_eq_true rfl) ?_
    refine wk_if_eq (pc := 24) (tgt := 33) dX8_judge_24 rfl hf (fun hf => ?_) (fun hf => ?_)
    · refine wk_aload_n (pc := 33) dX8_judge_33 rfl 0 rfl ?_
      refine wk_getI (C := RX6) (T := TX6) (N := 3) (pc := 34) dX8_judge_34 (sX6_0 hG fo18).2 (sX6_0 hG fo18).1 rfl qU_X6 1 (by decide) qF_X8_246 rfl ?_
      refine wk_aload_n (pc := 37) dX8_judge_37 rfl 1 rfl ?_
      refine wk_getR (C := RX8) (T := TX8) (N := 13) (pc := 38) dX8_judge_38 (nc_0 hG).2 (nc_0 hG).1 rfl qU_X8 1 (by decide) qF_X8_19 rfl ?_
      refine wk_getI (C := RX3) (T := TX3) (N := 7) (pc := 41) dX8_judge_41 (nc_21 hG).2 (nc_21 hG).1 rfl qU_X3 0 (by decide) qF_X8_90 rfl ?_
      refine wk_mmin (pc := 44) dX8_judge_44 qM_X8_299 qS_Mmin qJ_Math qC_Mmin (by decide) (Nat.le_of_ble_eq_true rfl) ?_
      obtain ⟨y47, hy47, hf⟩ := xlet_some hf
      refine wk_top hy47 ?_
      refine wk_istore_n (pc := 47) (lv' := [(3, .int y47), (2, .ref (gA G o18)), (0, .ref (gA G 0)), (1, .int p1)]) dX8_judge_47 rfl (by decide) rfl ?_
      refine wk_iconst (pc := 48) (v := (0 : Int32)) dX8_judge_48 (by decide) ?_
      refine wk_istore (pc := 49) (lv' := [(4, .int (0 : Int32)), (3, .int y47), (2, .ref (gA G o18)), (0, .ref (gA G 0)), (1, .int p1)]) dX8_judge_49 (by decide) rfl ?_
      exact wk_lv [3, 2, 1, 0] rfl (J51 o18 y47 fo18 xF (0 : Int32)  s21 hf)
    · refine wk_aload_n (pc := 27) dX8_judge_27 rfl 1 rfl ?_
      refine wk_iconst (pc := 28) (v := (2 : Int32)) dX8_judge_28 (by decide) ?_
      obtain ⟨r29, s29, hc29, hf⟩ := xbind_some hf
      refine wk_callVI (pc := 29) (As := [.int (2 : Int32)]) (rest := []) (kX8_refuse l hG  hc29) cw_X8_86 (by decide) dX8_judge_29 (nc_0 hG).2 (nc_0 hG).1 rfl rfl rfl (Nat.le_of_ble_eq_true rfl) ?_
      exact wk_iret (pc := 32) dX8_judge_32 rfl (xI_of hf)
  · refine wk_aload_n (pc := 7) dX8_judge_7 rfl 0 rfl ?_
    refine wk_iconst (pc := 8) (v := (1 : Int32)) dX8_judge_8 (by decide) ?_
    obtain ⟨r9, s9, hc9, hf⟩ := xbind_some hf
    refine wk_callVI (pc := 9) (As := [.int (1 : Int32)]) (rest := []) (kX8_refuse l hG  hc9) cw_X8_86 (by decide) dX8_judge_9 (nc_0 hG).2 (nc_0 hG).1 rfl rfl rfl (Nat.le_of_ble_eq_true rfl) ?_
    exact wk_iret (pc := 12) dX8_judge_12 rfl (xI_of hf)
noncomputable def sX8_image  (s : xS) : Option (Int32 × xS) := xbind (sX0_copyFrom 11 1 s) (fun _ s8 => xbind (sX3_copyFrom 27 21 s8) (fun _ s19 => xbind (sX2_copyFrom 42 39 s19) (fun _ s30 => xlet (xup s30 0 (upd (s30 0) 6 ((s30 0 6) + (1 : Int32)))) (fun s40 => some ((s40 0 6), s40)))))
set_option maxHeartbeats 4000000 in
set_option maxRecDepth 100000 in
theorem kX8_image (l : Launch) {G : xG} (hG : xC1 G)    {s : xS} {r : Int32} {s' : xS} (hf : sX8_image  s = some (r, s')) : xMet l G 4 yX8_image cX8_image 1 (some .int) [.ref (gA G 0)] s (xI r s') := by
  refine xMet.of (by decide) (Nat.le_of_ble_eq_true rfl) ?_
  show wk l G 4 RX8 cX8_image 1 (some .int) (xI r s') 0 [(0, .ref (gA G 0))] [] s
  unfold sX8_image at hf
  refine wk_aload_n (pc := 0) dX8_image_0 rfl 0 rfl ?_
  refine wk_getR (C := RX8) (T := TX8) (N := 13) (pc := 1) dX8_image_1 (nc_0 hG).2 (nc_0 hG).1 rfl qU_X8 3 (by decide) qF_X8_30 rfl ?_
  refine wk_aload_n (pc := 4) dX8_image_4 rfl 0 rfl ?_
  refine wk_getR (C := RX8) (T := TX8) (N := 13) (pc := 5) dX8_image_5 (nc_0 hG).2 (nc_0 hG).1 rfl qU_X8 0 (by decide) qF_X8_10 rfl ?_
  obtain ⟨⟨⟩, s8, hc8, hf⟩ := xbind_some hf
  refine wk_callVU (pc := 8) (As := [.ref (gA G 1)]) (rest := []) (kX0_copyFrom l hG (by decide) (by decide) hc8) cw_X8_304 (by decide) dX8_image_8 (nc_11 hG).2 (nc_11 hG).1 rfl rfl rfl (Nat.le_of_ble_eq_true rfl) ?_
  refine wk_aload_n (pc := 11) dX8_image_11 rfl 0 rfl ?_
  refine wk_getR (C := RX8) (T := TX8) (N := 13) (pc := 12) dX8_image_12 (nc_0 hG).2 (nc_0 hG).1 rfl qU_X8 4 (by decide) qF_X8_33 rfl ?_
  refine wk_aload_n (pc := 15) dX8_image_15 rfl 0 rfl ?_
  refine wk_getR (C := RX8) (T := TX8) (N := 13) (pc := 16) dX8_image_16 (nc_0 hG).2 (nc_0 hG).1 rfl qU_X8 1 (by decide) qF_X8_19 rfl ?_
  obtain ⟨⟨⟩, s19, hc19, hf⟩ := xbind_some hf
  refine wk_callVU (pc := 19) (As := [.ref (gA G 21)]) (rest := []) (kX3_copyFrom l hG (by decide) (by decide) hc19) cw_X8_228 (by decide) dX8_image_19 (nc_27 hG).2 (nc_27 hG).1 rfl rfl rfl (Nat.le_of_ble_eq_true rfl) ?_
  refine wk_aload_n (pc := 22) dX8_image_22 rfl 0 rfl ?_
  refine wk_getR (C := RX8) (T := TX8) (N := 13) (pc := 23) dX8_image_23 (nc_0 hG).2 (nc_0 hG).1 rfl qU_X8 5 (by decide) qF_X8_36 rfl ?_
  refine wk_aload_n (pc := 26) dX8_image_26 rfl 0 rfl ?_
  refine wk_getR (C := RX8) (T := TX8) (N := 13) (pc := 27) dX8_image_27 (nc_0 hG).2 (nc_0 hG).1 rfl qU_X8 2 (by decide) qF_X8_26 rfl ?_
  obtain ⟨⟨⟩, s30, hc30, hf⟩ := xbind_some hf
  refine wk_callVU (pc := 30) (As := [.ref (gA G 39)]) (rest := []) (kX2_copyFrom l hG (by decide) (by decide) hc30) cw_X8_307 (by decide) dX8_image_30 (nc_42 hG).2 (nc_42 hG).1 rfl rfl rfl (Nat.le_of_ble_eq_true rfl) ?_
  refine wk_aload_n (pc := 33) dX8_image_33 rfl 0 rfl ?_
  refine wk_dup (pc := 34) dX8_image_34 rfl ?_
  refine wk_getI (C := RX8) (T := TX8) (N := 13) (pc := 35) dX8_image_35 (nc_0 hG).2 (nc_0 hG).1 rfl qU_X8 6 (by decide) qF_X8_39 rfl ?_
  refine wk_iconst (pc := 38) (v := (1 : Int32)) dX8_image_38 (by decide) ?_
  refine wk_iadd (pc := 39) dX8_image_39 ?_
  refine wk_putI (C := RX8) (T := TX8) (N := 13) (ty := .int) (pc := 40) dX8_image_40 (nc_0 hG).2 (nc_0 hG).1 rfl qU_X8 tyX8 tyX8_ok nmX8 6 (by decide) qF_X8_39 rfl rfl rfl rfl rfl ?_
  obtain ⟨s40, hs40, hf⟩ := xlet_some hf
  refine wk_sig hs40 ?_
  refine wk_aload_n (pc := 43) dX8_image_43 rfl 0 rfl ?_
  refine wk_getI (C := RX8) (T := TX8) (N := 13) (pc := 44) dX8_image_44 (nc_0 hG).2 (nc_0 hG).1 rfl qU_X8 6 (by decide) qF_X8_39 rfl ?_
  exact wk_iret (pc := 47) dX8_image_47 rfl (xI_of hf)
noncomputable def sX8_restore  (s : xS) : Option (Int32 × xS) := (if (s 0 6) = 0 then xbind (sX8_refuse (2 : Int32) s) (fun r9 s9 => some (r9, s9)) else xbind (sX0_copyFrom 1 11 s) (fun _ s21 => xbind (sX3_copyFrom 21 27 s21) (fun _ s32 => xbind (sX2_copyFrom 39 42 s32) (fun _ s43 => some ((s43 21 1), s43)))))
set_option maxHeartbeats 4000000 in
set_option maxRecDepth 100000 in
theorem kX8_restore (l : Launch) {G : xG} (hG : xC1 G)    {s : xS} {r : Int32} {s' : xS} (hf : sX8_restore  s = some (r, s')) : xMet l G 4 yX8_restore cX8_restore 1 (some .int) [.ref (gA G 0)] s (xI r s') := by
  refine xMet.of (by decide) (Nat.le_of_ble_eq_true rfl) ?_
  show wk l G 4 RX8 cX8_restore 1 (some .int) (xI r s') 0 [(0, .ref (gA G 0))] [] s
  unfold sX8_restore at hf
  refine wk_aload_n (pc := 0) dX8_restore_0 rfl 0 rfl ?_
  refine wk_getI (C := RX8) (T := TX8) (N := 13) (pc := 1) dX8_restore_1 (nc_0 hG).2 (nc_0 hG).1 rfl qU_X8 6 (by decide) qF_X8_39 rfl ?_
  refine wk_if_ne (pc := 4) (tgt := 13) dX8_restore_4 rfl hf (fun hf => ?_) (fun hf => ?_)
  · refine wk_aload_n (pc := 13) dX8_restore_13 rfl 0 rfl ?_
    refine wk_getR (C := RX8) (T := TX8) (N := 13) (pc := 14) dX8_restore_14 (nc_0 hG).2 (nc_0 hG).1 rfl qU_X8 0 (by decide) qF_X8_10 rfl ?_
    refine wk_aload_n (pc := 17) dX8_restore_17 rfl 0 rfl ?_
    refine wk_getR (C := RX8) (T := TX8) (N := 13) (pc := 18) dX8_restore_18 (nc_0 hG).2 (nc_0 hG).1 rfl qU_X8 3 (by decide) qF_X8_30 rfl ?_
    obtain ⟨⟨⟩, s21, hc21, hf⟩ := xbind_some hf
    refine wk_callVU (pc := 21) (As := [.ref (gA G 11)]) (rest := []) (kX0_copyFrom l hG (by decide) (by decide) hc21) cw_X8_304 (by decide) dX8_restore_21 (nc_1 hG).2 (nc_1 hG).1 rfl rfl rfl (Nat.le_of_ble_eq_true rfl) ?_
    refine wk_aload_n (pc := 24) dX8_restore_24 rfl 0 rfl ?_
    refine wk_getR (C := RX8) (T := TX8) (N := 13) (pc := 25) dX8_restore_25 (nc_0 hG).2 (nc_0 hG).1 rfl qU_X8 1 (by decide) qF_X8_19 rfl ?_
    refine wk_aload_n (pc := 28) dX8_restore_28 rfl 0 rfl ?_
    refine wk_getR (C := RX8) (T := TX8) (N := 13) (pc := 29) dX8_restore_29 (nc_0 hG).2 (nc_0 hG).1 rfl qU_X8 4 (by decide) qF_X8_33 rfl ?_
    obtain ⟨⟨⟩, s32, hc32, hf⟩ := xbind_some hf
    refine wk_callVU (pc := 32) (As := [.ref (gA G 27)]) (rest := []) (kX3_copyFrom l hG (by decide) (by decide) hc32) cw_X8_228 (by decide) dX8_restore_32 (nc_21 hG).2 (nc_21 hG).1 rfl rfl rfl (Nat.le_of_ble_eq_true rfl) ?_
    refine wk_aload_n (pc := 35) dX8_restore_35 rfl 0 rfl ?_
    refine wk_getR (C := RX8) (T := TX8) (N := 13) (pc := 36) dX8_restore_36 (nc_0 hG).2 (nc_0 hG).1 rfl qU_X8 2 (by decide) qF_X8_26 rfl ?_
    refine wk_aload_n (pc := 39) dX8_restore_39 rfl 0 rfl ?_
    refine wk_getR (C := RX8) (T := TX8) (N := 13) (pc := 40) dX8_restore_40 (nc_0 hG).2 (nc_0 hG).1 rfl qU_X8 5 (by decide) qF_X8_36 rfl ?_
    obtain ⟨⟨⟩, s43, hc43, hf⟩ := xbind_some hf
    refine wk_callVU (pc := 43) (As := [.ref (gA G 42)]) (rest := []) (kX2_copyFrom l hG (by decide) (by decide) hc43) cw_X8_307 (by decide) dX8_restore_43 (nc_39 hG).2 (nc_39 hG).1 rfl rfl rfl (Nat.le_of_ble_eq_true rfl) ?_
    refine wk_aload_n (pc := 46) dX8_restore_46 rfl 0 rfl ?_
    refine wk_getR (C := RX8) (T := TX8) (N := 13) (pc := 47) dX8_restore_47 (nc_0 hG).2 (nc_0 hG).1 rfl qU_X8 1 (by decide) qF_X8_19 rfl ?_
    refine wk_getI (C := RX3) (T := TX3) (N := 7) (pc := 50) dX8_restore_50 (nc_21 hG).2 (nc_21 hG).1 rfl qU_X3 1 (by decide) qF_X8_204 rfl ?_
    exact wk_iret (pc := 53) dX8_restore_53 rfl (xI_of hf)
  · refine wk_aload_n (pc := 7) dX8_restore_7 rfl 0 rfl ?_
    refine wk_iconst (pc := 8) (v := (2 : Int32)) dX8_restore_8 (by decide) ?_
    obtain ⟨r9, s9, hc9, hf⟩ := xbind_some hf
    refine wk_callVI (pc := 9) (As := [.int (2 : Int32)]) (rest := []) (kX8_refuse l hG  hc9) cw_X8_86 (by decide) dX8_restore_9 (nc_0 hG).2 (nc_0 hG).1 rfl rfl rfl (Nat.le_of_ble_eq_true rfl) ?_
    exact wk_iret (pc := 12) dX8_restore_12 rfl (xI_of hf)
noncomputable def sX8_tell (p1 : Int32) (s : xS) : Option (Int32 × xS) := (if (s 39 2) < (20 : Int32) then (if xin (s 39 2) 20 then xlet (xup s 41 (upd (s 41) (s 39 2).toNatClampNeg p1)) (fun s33 => xlet (xup s33 39 (upd (s33 39) 2 ((s33 39 2) + (1 : Int32)))) (fun s44 => some ((s44 39 2), s44))) else none) else xbind (sX8_refuse (4 : Int32) s) (fun r14 s14 => some (r14, s14)))
set_option maxHeartbeats 4000000 in
set_option maxRecDepth 100000 in
theorem kX8_tell (l : Launch) {G : xG} (hG : xC1 G)  {p1 : Int32}  {s : xS} {r : Int32} {s' : xS} (hf : sX8_tell p1 s = some (r, s')) : xMet l G 3 yX8_tell cX8_tell 2 (some .int) [.ref (gA G 0), .int p1] s (xI r s') := by
  refine xMet.of (by decide) (Nat.le_of_ble_eq_true rfl) ?_
  show wk l G 3 RX8 cX8_tell 2 (some .int) (xI r s') 0 [(0, .ref (gA G 0)), (1, .int p1)] [] s
  unfold sX8_tell at hf
  refine wk_aload_n (pc := 0) dX8_tell_0 rfl 0 rfl ?_
  refine wk_getR (C := RX8) (T := TX8) (N := 13) (pc := 1) dX8_tell_1 (nc_0 hG).2 (nc_0 hG).1 rfl qU_X8 2 (by decide) qF_X8_26 rfl ?_
  refine wk_getI (C := RX2) (T := TX2) (N := 5) (pc := 4) dX8_tell_4 (nc_39 hG).2 (nc_39 hG).1 rfl qU_X2 2 (by decide) qF_X8_310 rfl ?_
  refine wk_bipush (pc := 7) (v := (20 : Int32)) dX8_tell_7 (by decide) ?_
  refine wk_icmp_lt (pc := 9) (tgt := 18) dX8_tell_9 rfl hf (fun hf => ?_) (fun hf => ?_)
  · refine wk_aload_n (pc := 18) dX8_tell_18 rfl 0 rfl ?_
    refine wk_getR (C := RX8) (T := TX8) (N := 13) (pc := 19) dX8_tell_19 (nc_0 hG).2 (nc_0 hG).1 rfl qU_X8 2 (by decide) qF_X8_26 rfl ?_
    refine wk_getR (C := RX2) (T := TX2) (N := 5) (pc := 22) dX8_tell_22 (nc_39 hG).2 (nc_39 hG).1 rfl qU_X2 4 (by decide) qF_X8_313 rfl ?_
    refine wk_aload_n (pc := 25) dX8_tell_25 rfl 0 rfl ?_
    refine wk_getR (C := RX8) (T := TX8) (N := 13) (pc := 26) dX8_tell_26 (nc_0 hG).2 (nc_0 hG).1 rfl qU_X8 2 (by decide) qF_X8_26 rfl ?_
    refine wk_getI (C := RX2) (T := TX2) (N := 5) (pc := 29) dX8_tell_29 (nc_39 hG).2 (nc_39 hG).1 rfl qU_X2 2 (by decide) qF_X8_310 rfl ?_
    refine wk_iload_n (pc := 32) dX8_tell_32 rfl 1 rfl ?_
    obtain ⟨h33, hf⟩ := xif_some hf
    refine wk_iast (pc := 33) (jj := (s 39 2).toNatClampNeg) dX8_tell_33 (nc_41 hG).2 (nc_41 hG).1 h33 rfl ?_
    obtain ⟨s33, hs33, hf⟩ := xlet_some hf
    refine wk_sig hs33 ?_
    refine wk_aload_n (pc := 34) dX8_tell_34 rfl 0 rfl ?_
    refine wk_getR (C := RX8) (T := TX8) (N := 13) (pc := 35) dX8_tell_35 (nc_0 hG).2 (nc_0 hG).1 rfl qU_X8 2 (by decide) qF_X8_26 rfl ?_
    refine wk_dup (pc := 38) dX8_tell_38 rfl ?_
    refine wk_getI (C := RX2) (T := TX2) (N := 5) (pc := 39) dX8_tell_39 (nc_39 hG).2 (nc_39 hG).1 rfl qU_X2 2 (by decide) qF_X8_310 rfl ?_
    refine wk_iconst (pc := 42) (v := (1 : Int32)) dX8_tell_42 (by decide) ?_
    refine wk_iadd (pc := 43) dX8_tell_43 ?_
    refine wk_putI (C := RX2) (T := TX2) (N := 5) (ty := .int) (pc := 44) dX8_tell_44 (nc_39 hG).2 (nc_39 hG).1 rfl qU_X2 tyX2 tyX2_ok nmX2 2 (by decide) qF_X8_310 rfl rfl rfl rfl rfl ?_
    obtain ⟨s44, hs44, hf⟩ := xlet_some hf
    refine wk_sig hs44 ?_
    refine wk_aload_n (pc := 47) dX8_tell_47 rfl 0 rfl ?_
    refine wk_getR (C := RX8) (T := TX8) (N := 13) (pc := 48) dX8_tell_48 (nc_0 hG).2 (nc_0 hG).1 rfl qU_X8 2 (by decide) qF_X8_26 rfl ?_
    refine wk_getI (C := RX2) (T := TX2) (N := 5) (pc := 51) dX8_tell_51 (nc_39 hG).2 (nc_39 hG).1 rfl qU_X2 2 (by decide) qF_X8_310 rfl ?_
    exact wk_iret (pc := 54) dX8_tell_54 rfl (xI_of hf)
  · refine wk_aload_n (pc := 12) dX8_tell_12 rfl 0 rfl ?_
    refine wk_iconst (pc := 13) (v := (4 : Int32)) dX8_tell_13 (by decide) ?_
    obtain ⟨r14, s14, hc14, hf⟩ := xbind_some hf
    refine wk_callVI (pc := 14) (As := [.int (4 : Int32)]) (rest := []) (kX8_refuse l hG  hc14) cw_X8_86 (by decide) dX8_tell_14 (nc_0 hG).2 (nc_0 hG).1 rfl rfl rfl (Nat.le_of_ble_eq_true rfl) ?_
    exact wk_iret (pc := 17) dX8_tell_17 rfl (xI_of hf)
noncomputable def sX8_check_L41 (y7 : Int32) (self41 : Int32 → xS → Option (Int32 × xS)) : Int32 → xS → Option (Int32 × xS) := fun a2_41 s41 => (if y7 ≤ a2_41 then some ((0 : Int32), s41) else xbind (sX8_passHour 33 s41) (fun _ s51 => (if xin a2_41 20 then xbind (sX3_countAt 33 (0 : Int32) s51) (fun r68 s68 => (if (s51 41 a2_41.toNatClampNeg) = r68 then xlet (a2_41 + (1 : Int32)) (fun y78 => self41 y78 s68) else some (((1 : Int32) + a2_41), s68))) else none)))
noncomputable def sX8_check  (s : xS) : Option (Int32 × xS) := xlet ((s 39 2)) (fun y7 => xlet (xup s 39 (upd (s 39) 2 (0 : Int32))) (fun s13 => xbind (sX1_draw 1 (s13 1 2) s13) (fun _ s31 => xbind (sX8_think (0 : Int32) s31) (fun _ s36 => xloop (sX8_check_L41 y7) xF (0 : Int32) s36))))
set_option maxHeartbeats 4000000 in
set_option maxRecDepth 100000 in
theorem kX8_check (l : Launch) {G : xG} (hG : xC1 G)    {s : xS} {r : Int32} {s' : xS} (hf : sX8_check  s = some (r, s')) : xMet l G 8 yX8_check cX8_check 3 (some .int) [.ref (gA G 0)] s (xI r s') := by
  refine xMet.of (by decide) (Nat.le_of_ble_eq_true rfl) ?_
  show wk l G 8 RX8 cX8_check 3 (some .int) (xI r s') 0 [(0, .ref (gA G 0))] [] s
  unfold sX8_check at hf
  have J41 : ∀ (y7 : Int32)  (N : Nat) (a2_41 : Int32)  (s41 : xS), xloop (sX8_check_L41 y7) N a2_41 s41 = some (r, s') → wk l G 8 RX8 cX8_check 3 (some .int) (xI r s') 41 [(0, .ref (gA G 0)), (1, .int y7), (2, .int a2_41)] [] s41 := by
    intro y7
    intro N
    induction N with
    | zero => intro a2_41 s41 hf; exact (xloop_0 hf).elim
    | succ N ih41 =>
      intro a2_41 s41 hf
      rw [xloop_s] at hf
      generalize xloop (sX8_check_L41 y7) N = self41 at hf ih41
      unfold sX8_check_L41 at hf
      refine wk_iload_n (pc := 41) dX8_check_41 rfl 2 rfl ?_
      refine wk_iload_n (pc := 42) dX8_check_42 rfl 1 rfl ?_
      refine wk_icmp_ge (pc := 43) (tgt := 84) dX8_check_43 rfl hf (fun hf => ?_) (fun hf => ?_)
      · refine wk_iconst (pc := 84) (v := (0 : Int32)) dX8_check_84 (by decide) ?_
        exact wk_iret (pc := 85) dX8_check_85 rfl (xI_of hf)
      · refine wk_aload_n (pc := 46) dX8_check_46 rfl 0 rfl ?_
        refine wk_aload_n (pc := 47) dX8_check_47 rfl 0 rfl ?_
        refine wk_getR (C := RX8) (T := TX8) (N := 13) (pc := 48) dX8_check_48 (nc_0 hG).2 (nc_0 hG).1 rfl qU_X8 7 (by decide) qF_X8_43 rfl ?_
        obtain ⟨⟨⟩, s51, hc51, hf⟩ := xbind_some hf
        refine wk_callVU (pc := 51) (As := [.ref (gA G 33)]) (rest := []) (kX8_passHour l hG (by decide) hc51) cw_X8_207 (by decide) dX8_check_51 (nc_0 hG).2 (nc_0 hG).1 rfl rfl rfl (Nat.le_of_ble_eq_true rfl) ?_
        refine wk_aload_n (pc := 54) dX8_check_54 rfl 0 rfl ?_
        refine wk_getR (C := RX8) (T := TX8) (N := 13) (pc := 55) dX8_check_55 (nc_0 hG).2 (nc_0 hG).1 rfl qU_X8 2 (by decide) qF_X8_26 rfl ?_
        refine wk_getR (C := RX2) (T := TX2) (N := 5) (pc := 58) dX8_check_58 (nc_39 hG).2 (nc_39 hG).1 rfl qU_X2 4 (by decide) qF_X8_313 rfl ?_
        refine wk_iload_n (pc := 61) dX8_check_61 rfl 2 rfl ?_
        obtain ⟨h62, hf⟩ := xif_some hf
        refine wk_iald (pc := 62) (jj := a2_41.toNatClampNeg) dX8_check_62 (nc_41 hG).2 (nc_41 hG).1 h62 rfl ?_
        refine wk_aload_n (pc := 63) dX8_check_63 rfl 0 rfl ?_
        refine wk_getR (C := RX8) (T := TX8) (N := 13) (pc := 64) dX8_check_64 (nc_0 hG).2 (nc_0 hG).1 rfl qU_X8 7 (by decide) qF_X8_43 rfl ?_
        refine wk_iconst (pc := 67) (v := (0 : Int32)) dX8_check_67 (by decide) ?_
        obtain ⟨r68, s68, hc68, hf⟩ := xbind_some hf
        refine wk_callVI (pc := 68) (As := [.int (0 : Int32)]) (rest := [.int (s51 41 a2_41.toNatClampNeg)]) (kX3_countAt l hG (by decide) hc68) cw_X8_211 (by decide) dX8_check_68 (nc_33 hG).2 (nc_33 hG).1 rfl rfl rfl (Nat.le_of_ble_eq_true rfl) ?_
        refine wk_icmp_eq (pc := 71) (tgt := 78) dX8_check_71 rfl hf (fun hf => ?_) (fun hf => ?_)
        · obtain ⟨y78, hy78, hf⟩ := xlet_some hf
          refine wk_iinc (pc := 78) (v := y78) (lv' := [(2, .int y78), (0, .ref (gA G 0)), (1, .int y7)]) dX8_check_78 2 rfl (by rw [hy78] <;> rfl) (by decide) rfl ?_
          refine wk_goto (pc := 81) (tgt := 41) dX8_check_81 rfl ?_
          exact wk_lv [1, 2, 0] rfl (ih41 y78  s68 hf)
        · refine wk_iconst (pc := 74) (v := (1 : Int32)) dX8_check_74 (by decide) ?_
          refine wk_iload_n (pc := 75) dX8_check_75 rfl 2 rfl ?_
          refine wk_iadd (pc := 76) dX8_check_76 ?_
          exact wk_iret (pc := 77) dX8_check_77 rfl (xI_of hf)
  refine wk_aload_n (pc := 0) dX8_check_0 rfl 0 rfl ?_
  refine wk_getR (C := RX8) (T := TX8) (N := 13) (pc := 1) dX8_check_1 (nc_0 hG).2 (nc_0 hG).1 rfl qU_X8 2 (by decide) qF_X8_26 rfl ?_
  refine wk_getI (C := RX2) (T := TX2) (N := 5) (pc := 4) dX8_check_4 (nc_39 hG).2 (nc_39 hG).1 rfl qU_X2 2 (by decide) qF_X8_310 rfl ?_
  obtain ⟨y7, hy7, hf⟩ := xlet_some hf
  refine wk_top hy7 ?_
  refine wk_istore_n (pc := 7) (lv' := [(1, .int y7), (0, .ref (gA G 0))]) dX8_check_7 rfl (by decide) rfl ?_
  refine wk_aload_n (pc := 8) dX8_check_8 rfl 1 rfl ?_
  refine wk_getR (C := RX8) (T := TX8) (N := 13) (pc := 9) dX8_check_9 (nc_0 hG).2 (nc_0 hG).1 rfl qU_X8 2 (by decide) qF_X8_26 rfl ?_
  refine wk_iconst (pc := 12) (v := (0 : Int32)) dX8_check_12 (by decide) ?_
  refine wk_putI (C := RX2) (T := TX2) (N := 5) (ty := .int) (pc := 13) dX8_check_13 (nc_39 hG).2 (nc_39 hG).1 rfl qU_X2 tyX2 tyX2_ok nmX2 2 (by decide) qF_X8_310 rfl rfl rfl rfl rfl ?_
  obtain ⟨s13, hs13, hf⟩ := xlet_some hf
  refine wk_sig hs13 ?_
  refine wk_aload_n (pc := 16) dX8_check_16 rfl 1 rfl ?_
  refine wk_getR (C := RX8) (T := TX8) (N := 13) (pc := 17) dX8_check_17 (nc_0 hG).2 (nc_0 hG).1 rfl qU_X8 8 (by decide) qF_X8_49 rfl ?_
  refine wk_aload_n (pc := 20) dX8_check_20 rfl 1 rfl ?_
  refine wk_getR (C := RX8) (T := TX8) (N := 13) (pc := 21) dX8_check_21 (nc_0 hG).2 (nc_0 hG).1 rfl qU_X8 0 (by decide) qF_X8_10 rfl ?_
  refine wk_aload_n (pc := 24) dX8_check_24 rfl 1 rfl ?_
  refine wk_getR (C := RX8) (T := TX8) (N := 13) (pc := 25) dX8_check_25 (nc_0 hG).2 (nc_0 hG).1 rfl qU_X8 0 (by decide) qF_X8_10 rfl ?_
  refine wk_getI (C := RX0) (T := TX0) (N := 9) (pc := 28) dX8_check_28 (nc_1 hG).2 (nc_1 hG).1 rfl qU_X0 2 (by decide) qF_X8_116 rfl ?_
  obtain ⟨⟨⟩, s31, hc31, hf⟩ := xbind_some hf
  refine wk_callVU (pc := 31) (As := [.ref (gA G 1), .int (s13 1 2)]) (rest := []) (kX1_draw l hG (by decide) hc31) cw_X8_155 (by decide) dX8_check_31 (nc_45 hG).2 (nc_45 hG).1 rfl rfl rfl (Nat.le_of_ble_eq_true rfl) ?_
  refine wk_aload_n (pc := 34) dX8_check_34 rfl 1 rfl ?_
  refine wk_iconst (pc := 35) (v := (0 : Int32)) dX8_check_35 (by decide) ?_
  obtain ⟨⟨⟩, s36, hc36, hf⟩ := xbind_some hf
  refine wk_callVU (pc := 36) (As := [.int (0 : Int32)]) (rest := []) (kX8_think l hG  hc36) cw_X8_225 (by decide) dX8_check_36 (nc_0 hG).2 (nc_0 hG).1 rfl rfl rfl (Nat.le_of_ble_eq_true rfl) ?_
  refine wk_iconst (pc := 39) (v := (0 : Int32)) dX8_check_39 (by decide) ?_
  refine wk_istore_n (pc := 40) (lv' := [(2, .int (0 : Int32)), (1, .int y7), (0, .ref (gA G 0))]) dX8_check_40 rfl (by decide) rfl ?_
  exact wk_lv [2, 1, 0] rfl (J41 y7 xF (0 : Int32)  s36 hf)
noncomputable def sX8_count (p1 : Int32) (s : xS) : Option (Int32 × xS) := (if p1 = 0 then some ((s 1 0), s) else (if p1 = 1 then some ((s 21 0), s) else (if p1 = 2 then some ((s 21 1), s) else (if p1 = 3 then some ((s 1 1), s) else (if p1 = 4 then some ((s 1 2), s) else (if p1 = 5 then some ((s 1 3), s) else (if p1 = 6 then xbind (sX3_countAt 21 (0 : Int32) s) (fun r117 s117 => some (r117, s117)) else (if p1 = 7 then xbind (sX3_countLost 21 s) (fun r125 s125 => some (r125, s125)) else (if p1 = 8 then some ((s 39 1), s) else (if p1 = 9 then some ((s 39 2), s) else (if p1 = 10 then some ((s 54 0), s) else (if p1 = 11 then some ((s 39 0), s) else xbind (sX8_refuse (1 : Int32) s) (fun r163 s163 => some (r163, s163))))))))))))))
set_option maxHeartbeats 4000000 in
set_option maxRecDepth 100000 in
theorem kX8_count (l : Launch) {G : xG} (hG : xC1 G)  {p1 : Int32}  {s : xS} {r : Int32} {s' : xS} (hf : sX8_count p1 s = some (r, s')) : xMet l G 5 yX8_count cX8_count 2 (some .int) [.ref (gA G 0), .int p1] s (xI r s') := by
  refine xMet.of (by decide) (Nat.le_of_ble_eq_true rfl) ?_
  show wk l G 5 RX8 cX8_count 2 (some .int) (xI r s') 0 [(0, .ref (gA G 0)), (1, .int p1)] [] s
  unfold sX8_count at hf
  refine wk_iload_n (pc := 0) dX8_count_0 rfl 1 rfl ?_
  by_cases e0 : p1 = 0
  · rw [if_pos e0] at hf
    refine wk_tableIn (pc := 1) (off := 63) (tgt := 64) dX8_count_1 (0 : Int32) e0 (by decide) (by decide) (by decide) rfl ?_
    refine wk_aload_n (pc := 64) dX8_count_64 rfl 0 rfl ?_
    refine wk_getR (C := RX8) (T := TX8) (N := 13) (pc := 65) dX8_count_65 (nc_0 hG).2 (nc_0 hG).1 rfl qU_X8 0 (by decide) qF_X8_10 rfl ?_
    refine wk_getI (C := RX0) (T := TX0) (N := 9) (pc := 68) dX8_count_68 (nc_1 hG).2 (nc_1 hG).1 rfl qU_X0 0 (by decide) qF_X8_93 rfl ?_
    exact wk_iret (pc := 71) dX8_count_71 rfl (xI_of hf)
  · rw [if_neg e0] at hf
    by_cases e1 : p1 = 1
    · rw [if_pos e1] at hf
      refine wk_tableIn (pc := 1) (off := 71) (tgt := 72) dX8_count_1 (1 : Int32) e1 (by decide) (by decide) (by decide) rfl ?_
      refine wk_aload_n (pc := 72) dX8_count_72 rfl 0 rfl ?_
      refine wk_getR (C := RX8) (T := TX8) (N := 13) (pc := 73) dX8_count_73 (nc_0 hG).2 (nc_0 hG).1 rfl qU_X8 1 (by decide) qF_X8_19 rfl ?_
      refine wk_getI (C := RX3) (T := TX3) (N := 7) (pc := 76) dX8_count_76 (nc_21 hG).2 (nc_21 hG).1 rfl qU_X3 0 (by decide) qF_X8_90 rfl ?_
      exact wk_iret (pc := 79) dX8_count_79 rfl (xI_of hf)
    · rw [if_neg e1] at hf
      by_cases e2 : p1 = 2
      · rw [if_pos e2] at hf
        refine wk_tableIn (pc := 1) (off := 79) (tgt := 80) dX8_count_1 (2 : Int32) e2 (by decide) (by decide) (by decide) rfl ?_
        refine wk_aload_n (pc := 80) dX8_count_80 rfl 0 rfl ?_
        refine wk_getR (C := RX8) (T := TX8) (N := 13) (pc := 81) dX8_count_81 (nc_0 hG).2 (nc_0 hG).1 rfl qU_X8 1 (by decide) qF_X8_19 rfl ?_
        refine wk_getI (C := RX3) (T := TX3) (N := 7) (pc := 84) dX8_count_84 (nc_21 hG).2 (nc_21 hG).1 rfl qU_X3 1 (by decide) qF_X8_204 rfl ?_
        exact wk_iret (pc := 87) dX8_count_87 rfl (xI_of hf)
      · rw [if_neg e2] at hf
        by_cases e3 : p1 = 3
        · rw [if_pos e3] at hf
          refine wk_tableIn (pc := 1) (off := 87) (tgt := 88) dX8_count_1 (3 : Int32) e3 (by decide) (by decide) (by decide) rfl ?_
          refine wk_aload_n (pc := 88) dX8_count_88 rfl 0 rfl ?_
          refine wk_getR (C := RX8) (T := TX8) (N := 13) (pc := 89) dX8_count_89 (nc_0 hG).2 (nc_0 hG).1 rfl qU_X8 0 (by decide) qF_X8_10 rfl ?_
          refine wk_getI (C := RX0) (T := TX0) (N := 9) (pc := 92) dX8_count_92 (nc_1 hG).2 (nc_1 hG).1 rfl qU_X0 1 (by decide) qF_X8_109 rfl ?_
          exact wk_iret (pc := 95) dX8_count_95 rfl (xI_of hf)
        · rw [if_neg e3] at hf
          by_cases e4 : p1 = 4
          · rw [if_pos e4] at hf
            refine wk_tableIn (pc := 1) (off := 95) (tgt := 96) dX8_count_1 (4 : Int32) e4 (by decide) (by decide) (by decide) rfl ?_
            refine wk_aload_n (pc := 96) dX8_count_96 rfl 0 rfl ?_
            refine wk_getR (C := RX8) (T := TX8) (N := 13) (pc := 97) dX8_count_97 (nc_0 hG).2 (nc_0 hG).1 rfl qU_X8 0 (by decide) qF_X8_10 rfl ?_
            refine wk_getI (C := RX0) (T := TX0) (N := 9) (pc := 100) dX8_count_100 (nc_1 hG).2 (nc_1 hG).1 rfl qU_X0 2 (by decide) qF_X8_116 rfl ?_
            exact wk_iret (pc := 103) dX8_count_103 rfl (xI_of hf)
          · rw [if_neg e4] at hf
            by_cases e5 : p1 = 5
            · rw [if_pos e5] at hf
              refine wk_tableIn (pc := 1) (off := 103) (tgt := 104) dX8_count_1 (5 : Int32) e5 (by decide) (by decide) (by decide) rfl ?_
              refine wk_aload_n (pc := 104) dX8_count_104 rfl 0 rfl ?_
              refine wk_getR (C := RX8) (T := TX8) (N := 13) (pc := 105) dX8_count_105 (nc_0 hG).2 (nc_0 hG).1 rfl qU_X8 0 (by decide) qF_X8_10 rfl ?_
              refine wk_getI (C := RX0) (T := TX0) (N := 9) (pc := 108) dX8_count_108 (nc_1 hG).2 (nc_1 hG).1 rfl qU_X0 3 (by decide) qF_X8_128 rfl ?_
              exact wk_iret (pc := 111) dX8_count_111 rfl (xI_of hf)
            · rw [if_neg e5] at hf
              by_cases e6 : p1 = 6
              · rw [if_pos e6] at hf
                refine wk_tableIn (pc := 1) (off := 111) (tgt := 112) dX8_count_1 (6 : Int32) e6 (by decide) (by decide) (by decide) rfl ?_
                refine wk_aload_n (pc := 112) dX8_count_112 rfl 0 rfl ?_
                refine wk_getR (C := RX8) (T := TX8) (N := 13) (pc := 113) dX8_count_113 (nc_0 hG).2 (nc_0 hG).1 rfl qU_X8 1 (by decide) qF_X8_19 rfl ?_
                refine wk_iconst (pc := 116) (v := (0 : Int32)) dX8_count_116 (by decide) ?_
                obtain ⟨r117, s117, hc117, hf⟩ := xbind_some hf
                refine wk_callVI (pc := 117) (As := [.int (0 : Int32)]) (rest := []) (kX3_countAt l hG (by decide) hc117) cw_X8_211 (by decide) dX8_count_117 (nc_21 hG).2 (nc_21 hG).1 rfl rfl rfl (Nat.le_of_ble_eq_true rfl) ?_
                exact wk_iret (pc := 120) dX8_count_120 rfl (xI_of hf)
              · rw [if_neg e6] at hf
                by_cases e7 : p1 = 7
                · rw [if_pos e7] at hf
                  refine wk_tableIn (pc := 1) (off := 120) (tgt := 121) dX8_count_1 (7 : Int32) e7 (by decide) (by decide) (by decide) rfl ?_
                  refine wk_aload_n (pc := 121) dX8_count_121 rfl 0 rfl ?_
                  refine wk_getR (C := RX8) (T := TX8) (N := 13) (pc := 122) dX8_count_122 (nc_0 hG).2 (nc_0 hG).1 rfl qU_X8 1 (by decide) qF_X8_19 rfl ?_
                  obtain ⟨r125, s125, hc125, hf⟩ := xbind_some hf
                  refine wk_callVI (pc := 125) (As := []) (rest := []) (kX3_countLost l hG (by decide) hc125) cw_X8_230 (by decide) dX8_count_125 (nc_21 hG).2 (nc_21 hG).1 rfl rfl rfl (Nat.le_of_ble_eq_true rfl) ?_
                  exact wk_iret (pc := 128) dX8_count_128 rfl (xI_of hf)
                · rw [if_neg e7] at hf
                  by_cases e8 : p1 = 8
                  · rw [if_pos e8] at hf
                    refine wk_tableIn (pc := 1) (off := 128) (tgt := 129) dX8_count_1 (8 : Int32) e8 (by decide) (by decide) (by decide) rfl ?_
                    refine wk_aload_n (pc := 129) dX8_count_129 rfl 0 rfl ?_
                    refine wk_getR (C := RX8) (T := TX8) (N := 13) (pc := 130) dX8_count_130 (nc_0 hG).2 (nc_0 hG).1 rfl qU_X8 2 (by decide) qF_X8_26 rfl ?_
                    refine wk_getI (C := RX2) (T := TX2) (N := 5) (pc := 133) dX8_count_133 (nc_39 hG).2 (nc_39 hG).1 rfl qU_X2 1 (by decide) qF_X8_173 rfl ?_
                    exact wk_iret (pc := 136) dX8_count_136 rfl (xI_of hf)
                  · rw [if_neg e8] at hf
                    by_cases e9 : p1 = 9
                    · rw [if_pos e9] at hf
                      refine wk_tableIn (pc := 1) (off := 136) (tgt := 137) dX8_count_1 (9 : Int32) e9 (by decide) (by decide) (by decide) rfl ?_
                      refine wk_aload_n (pc := 137) dX8_count_137 rfl 0 rfl ?_
                      refine wk_getR (C := RX8) (T := TX8) (N := 13) (pc := 138) dX8_count_138 (nc_0 hG).2 (nc_0 hG).1 rfl qU_X8 2 (by decide) qF_X8_26 rfl ?_
                      refine wk_getI (C := RX2) (T := TX2) (N := 5) (pc := 141) dX8_count_141 (nc_39 hG).2 (nc_39 hG).1 rfl qU_X2 2 (by decide) qF_X8_310 rfl ?_
                      exact wk_iret (pc := 144) dX8_count_144 rfl (xI_of hf)
                    · rw [if_neg e9] at hf
                      by_cases e10 : p1 = 10
                      · rw [if_pos e10] at hf
                        refine wk_tableIn (pc := 1) (off := 144) (tgt := 145) dX8_count_1 (10 : Int32) e10 (by decide) (by decide) (by decide) rfl ?_
                        refine wk_aload_n (pc := 145) dX8_count_145 rfl 0 rfl ?_
                        refine wk_getR (C := RX8) (T := TX8) (N := 13) (pc := 146) dX8_count_146 (nc_0 hG).2 (nc_0 hG).1 rfl qU_X8 10 (by decide) qF_X8_63 rfl ?_
                        refine wk_getI (C := RX7) (T := TX7) (N := 5) (pc := 149) dX8_count_149 (nc_54 hG).2 (nc_54 hG).1 rfl qU_X7 0 (by decide) qF_X8_275 rfl ?_
                        exact wk_iret (pc := 152) dX8_count_152 rfl (xI_of hf)
                      · rw [if_neg e10] at hf
                        by_cases e11 : p1 = 11
                        · rw [if_pos e11] at hf
                          refine wk_tableIn (pc := 1) (off := 152) (tgt := 153) dX8_count_1 (11 : Int32) e11 (by decide) (by decide) (by decide) rfl ?_
                          refine wk_aload_n (pc := 153) dX8_count_153 rfl 0 rfl ?_
                          refine wk_getR (C := RX8) (T := TX8) (N := 13) (pc := 154) dX8_count_154 (nc_0 hG).2 (nc_0 hG).1 rfl qU_X8 2 (by decide) qF_X8_26 rfl ?_
                          refine wk_getI (C := RX2) (T := TX2) (N := 5) (pc := 157) dX8_count_157 (nc_39 hG).2 (nc_39 hG).1 rfl qU_X2 0 (by decide) qF_X8_268 rfl ?_
                          exact wk_iret (pc := 160) dX8_count_160 rfl (xI_of hf)
                        · rw [if_neg e11] at hf
                          have g0 : ¬ p1.toInt = 0 := fun q => e0 (Int32.toInt_inj.mp (q.trans (by decide)))
                          have g1 : ¬ p1.toInt = 1 := fun q => e1 (Int32.toInt_inj.mp (q.trans (by decide)))
                          have g2 : ¬ p1.toInt = 2 := fun q => e2 (Int32.toInt_inj.mp (q.trans (by decide)))
                          have g3 : ¬ p1.toInt = 3 := fun q => e3 (Int32.toInt_inj.mp (q.trans (by decide)))
                          have g4 : ¬ p1.toInt = 4 := fun q => e4 (Int32.toInt_inj.mp (q.trans (by decide)))
                          have g5 : ¬ p1.toInt = 5 := fun q => e5 (Int32.toInt_inj.mp (q.trans (by decide)))
                          have g6 : ¬ p1.toInt = 6 := fun q => e6 (Int32.toInt_inj.mp (q.trans (by decide)))
                          have g7 : ¬ p1.toInt = 7 := fun q => e7 (Int32.toInt_inj.mp (q.trans (by decide)))
                          have g8 : ¬ p1.toInt = 8 := fun q => e8 (Int32.toInt_inj.mp (q.trans (by decide)))
                          have g9 : ¬ p1.toInt = 9 := fun q => e9 (Int32.toInt_inj.mp (q.trans (by decide)))
                          have g10 : ¬ p1.toInt = 10 := fun q => e10 (Int32.toInt_inj.mp (q.trans (by decide)))
                          have g11 : ¬ p1.toInt = 11 := fun q => e11 (Int32.toInt_inj.mp (q.trans (by decide)))
                          refine wk_tableOut (pc := 1) (tgt := 161) dX8_count_1 (by omega) rfl ?_
                          refine wk_aload_n (pc := 161) dX8_count_161 rfl 0 rfl ?_
                          refine wk_iconst (pc := 162) (v := (1 : Int32)) dX8_count_162 (by decide) ?_
                          obtain ⟨r163, s163, hc163, hf⟩ := xbind_some hf
                          refine wk_callVI (pc := 163) (As := [.int (1 : Int32)]) (rest := []) (kX8_refuse l hG  hc163) cw_X8_86 (by decide) dX8_count_163 (nc_0 hG).2 (nc_0 hG).1 rfl rfl rfl (Nat.le_of_ble_eq_true rfl) ?_
                          exact wk_iret (pc := 166) dX8_count_166 rfl (xI_of hf)
noncomputable def sX8_told (p1 : Int32) (s : xS) : Option (Int32 × xS) := xbind (sX8_within p1 (1 : Int32) (5 : Int32) s) (fun r3 s3 => (if r3 = 0 then xbind (sX8_refuse (1 : Int32) s3) (fun r20 s20 => some (r20, s20)) else (if xin p1 6 then some ((s3 65 p1.toNatClampNeg), s3) else none)))
set_option maxHeartbeats 4000000 in
set_option maxRecDepth 100000 in
theorem kX8_told (l : Launch) {G : xG} (hG : xC1 G)  {p1 : Int32}  {s : xS} {r : Int32} {s' : xS} (hf : sX8_told p1 s = some (r, s')) : xMet l G 3 yX8_told cX8_told 2 (some .int) [.ref (gA G 0), .int p1] s (xI r s') := by
  refine xMet.of (by decide) (Nat.le_of_ble_eq_true rfl) ?_
  show wk l G 3 RX8 cX8_told 2 (some .int) (xI r s') 0 [(0, .ref (gA G 0)), (1, .int p1)] [] s
  unfold sX8_told at hf
  refine wk_iload_n (pc := 0) dX8_told_0 rfl 1 rfl ?_
  refine wk_iconst (pc := 1) (v := (1 : Int32)) dX8_told_1 (by decide) ?_
  refine wk_iconst (pc := 2) (v := (5 : Int32)) dX8_told_2 (by decide) ?_
  obtain ⟨r3, s3, hc3, hf⟩ := xbind_some hf
  refine wk_callSI (pc := 3) (As := [.int p1, .int (1 : Int32), .int (5 : Int32)]) (rest := []) (kX8_within l hG  hc3) cw_X8_82 (by decide) dX8_told_3 rfl (Nat.le_of_ble_eq_true rfl) ?_
  refine wk_if_eq (pc := 6) (tgt := 18) dX8_told_6 rfl hf (fun hf => ?_) (fun hf => ?_)
  · refine wk_aload_n (pc := 18) dX8_told_18 rfl 0 rfl ?_
    refine wk_iconst (pc := 19) (v := (1 : Int32)) dX8_told_19 (by decide) ?_
    obtain ⟨r20, s20, hc20, hf⟩ := xbind_some hf
    refine wk_callVI (pc := 20) (As := [.int (1 : Int32)]) (rest := []) (kX8_refuse l hG  hc20) cw_X8_86 (by decide) dX8_told_20 (nc_0 hG).2 (nc_0 hG).1 rfl rfl rfl (Nat.le_of_ble_eq_true rfl) ?_
    exact wk_iret (pc := 23) dX8_told_23 rfl (xI_of hf)
  · refine wk_aload_n (pc := 9) dX8_told_9 rfl 0 rfl ?_
    refine wk_getR (C := RX8) (T := TX8) (N := 13) (pc := 10) dX8_told_10 (nc_0 hG).2 (nc_0 hG).1 rfl qU_X8 12 (by decide) qF_X8_74 rfl ?_
    refine wk_iload_n (pc := 13) dX8_told_13 rfl 1 rfl ?_
    obtain ⟨h14, hf⟩ := xif_some hf
    refine wk_iald (pc := 14) (jj := p1.toNatClampNeg) dX8_told_14 (nc_65 hG).2 (nc_65 hG).1 h14 rfl ?_
    refine wk_goto (pc := 15) (tgt := 23) dX8_told_15 rfl ?_
    exact wk_iret (pc := 23) dX8_told_23 rfl (xI_of hf)
