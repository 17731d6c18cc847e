noncomputable def sX9_shipIs (p1 : Int32) (p2 : Int32) (s : xS) : Option (Int32 × xS) := xbind (sX9_shipAt p1 p2 s) (fun r6 s6 => (if xin r6 242 then some ((s6 1 r6.toNatClampNeg), s6) else none))
set_option maxHeartbeats 4000000 in
set_option maxRecDepth 100000 in
theorem kX9_shipIs (l : Launch) {G : xG} (hG : xM1 G)  {p1 : Int32} {p2 : Int32}  {s : xS} {r : Int32} {s' : xS} (hf : sX9_shipIs p1 p2 s = some (r, s')) : xMet l G 3 yX9_shipIs cX9_shipIs 3 (some .int) [.ref (gA G 0), .int p1, .int p2] s (xI r s') := by
  refine xMet.of (by decide) (Nat.le_of_ble_eq_true rfl) ?_
  show wk l G 3 RX9 cX9_shipIs 3 (some .int) (xI r s') 0 [(0, .ref (gA G 0)), (1, .int p1), (2, .int p2)] [] s
  unfold sX9_shipIs at hf
  refine wk_aload_n (pc := 0) dX9_shipIs_0 rfl 0 rfl ?_
  refine wk_getR (C := RX9) (T := TX9) (N := 24) (pc := 1) dX9_shipIs_1 (nm_0 hG).2 (nm_0 hG).1 rfl qU_X9 0 (by decide) qF_X9_9 rfl ?_
  refine wk_iload_n (pc := 4) dX9_shipIs_4 rfl 1 rfl ?_
  refine wk_iload_n (pc := 5) dX9_shipIs_5 rfl 2 rfl ?_
  obtain ⟨r6, s6, hc6, hf⟩ := xbind_some hf
  refine wk_callSI (pc := 6) (As := [.int p1, .int p2]) (rest := [.ref (gA G 1)]) (kX9_shipAt l hG  hc6) cw_X9_168 (by decide) dX9_shipIs_6 rfl (Nat.le_of_ble_eq_true rfl) ?_
  obtain ⟨h9, hf⟩ := xif_some hf
  refine wk_iald (pc := 9) (jj := r6.toNatClampNeg) dX9_shipIs_9 (nm_1 hG).2 (nm_1 hG).1 h9 rfl ?_
  exact wk_iret (pc := 10) dX9_shipIs_10 rfl (xI_of hf)
noncomputable def sX9_flat_L2 (p1 : Int32) (self2 : Int32 → xS → Option (Int32 × xS)) : Int32 → xS → Option (Int32 × xS) := fun a2_2 s2 => (if (8 : Int32) ≤ a2_2 then xlet (xup s2 1 (upd (s2 1) 5 (0 : Int32))) (fun s53 => xbind (sX9_forgetDepths  s53) (fun _ s55 => xbind (sX9_turn (1 : Int32) p1 s55) (fun r61 s61 => some (r61, s61)))) else xbind (sX9_cellAt a2_2 (0 : Int32) s2) (fun r14 s14 => (if xin r14 242 then xlet (xup s14 1 (upd (s14 1) r14.toNatClampNeg (5 : Int32))) (fun s18 => xbind (sX9_cellAt a2_2 (1 : Int32) s18) (fun r25 s25 => (if xin r25 242 then xlet (xup s25 1 (upd (s25 1) r25.toNatClampNeg (1 : Int32))) (fun s29 => xbind (sX9_cellAt a2_2 (2 : Int32) s29) (fun r36 s36 => (if xin r36 242 then xlet (xup s36 1 (upd (s36 1) r36.toNatClampNeg (0 : Int32))) (fun s40 => xlet (a2_2 + (1 : Int32)) (fun y41 => self2 y41 s40)) else none))) else none))) else none)))
noncomputable def sX9_flat (p1 : Int32) (s : xS) : Option (Int32 × xS) := xloop (sX9_flat_L2 p1) xF (0 : Int32) s
set_option maxHeartbeats 4000000 in
set_option maxRecDepth 100000 in
theorem kX9_flat (l : Launch) {G : xG} (hG : xM1 G)  {p1 : Int32}  {s : xS} {r : Int32} {s' : xS} (hf : sX9_flat p1 s = some (r, s')) : xMet l G 3 yX9_flat cX9_flat 3 (some .int) [.ref (gA G 0), .int p1] s (xI r s') := by
  refine xMet.of (by decide) (Nat.le_of_ble_eq_true rfl) ?_
  show wk l G 3 RX9 cX9_flat 3 (some .int) (xI r s') 0 [(0, .ref (gA G 0)), (1, .int p1)] [] s
  unfold sX9_flat at hf
  have J2 : ∀   (N : Nat) (a2_2 : Int32)  (s2 : xS), xloop (sX9_flat_L2 p1) N a2_2 s2 = some (r, s') → wk l G 3 RX9 cX9_flat 3 (some .int) (xI r s') 2 [(0, .ref (gA G 0)), (1, .int p1), (2, .int a2_2)] [] s2 := by
    intro N
    induction N with
    | zero => intro a2_2 s2 hf; exact (xloop_0 hf).elim
    | succ N ih2 =>
      intro a2_2 s2 hf
      rw [xloop_s] at hf
      generalize xloop (sX9_flat_L2 p1) N = self2 at hf ih2
      unfold sX9_flat_L2 at hf
      refine wk_iload_n (pc := 2) dX9_flat_2 rfl 2 rfl ?_
      refine wk_bipush (pc := 3) (v := (8 : Int32)) dX9_flat_3 (by decide) ?_
      refine wk_icmp_ge (pc := 5) (tgt := 47) dX9_flat_5 rfl hf (fun hf => ?_) (fun hf => ?_)
      · refine wk_aload_n (pc := 47) dX9_flat_47 rfl 0 rfl ?_
        refine wk_getR (C := RX9) (T := TX9) (N := 24) (pc := 48) dX9_flat_48 (nm_0 hG).2 (nm_0 hG).1 rfl qU_X9 0 (by decide) qF_X9_9 rfl ?_
        refine wk_iconst (pc := 51) (v := (5 : Int32)) dX9_flat_51 (by decide) ?_
        refine wk_iconst (pc := 52) (v := (0 : Int32)) dX9_flat_52 (by decide) ?_
        refine wk_iast (pc := 53) (jj := 5) dX9_flat_53 (nm_1 hG).2 (nm_1 hG).1 (by decide) (by decide) ?_
        obtain ⟨s53, hs53, hf⟩ := xlet_some hf
        refine wk_sig hs53 ?_
        refine wk_aload_n (pc := 54) dX9_flat_54 rfl 0 rfl ?_
        obtain ⟨⟨⟩, s55, hc55, hf⟩ := xbind_some hf
        refine wk_callVU (pc := 55) (As := []) (rest := []) (kX9_forgetDepths l hG  hc55) cw_X9_145 (by decide) dX9_flat_55 (nm_0 hG).2 (nm_0 hG).1 rfl rfl rfl (Nat.le_of_ble_eq_true rfl) ?_
        refine wk_aload_n (pc := 58) dX9_flat_58 rfl 0 rfl ?_
        refine wk_iconst (pc := 59) (v := (1 : Int32)) dX9_flat_59 (by decide) ?_
        refine wk_iload_n (pc := 60) dX9_flat_60 rfl 1 rfl ?_
        obtain ⟨r61, s61, hc61, hf⟩ := xbind_some hf
        refine wk_callVI (pc := 61) (As := [.int (1 : Int32), .int p1]) (rest := []) (kX9_turn l hG  hc61) cw_X9_171 (by decide) dX9_flat_61 (nm_0 hG).2 (nm_0 hG).1 rfl rfl rfl (Nat.le_of_ble_eq_true rfl) ?_
        exact wk_iret (pc := 64) dX9_flat_64 rfl (xI_of hf)
      · refine wk_aload_n (pc := 8) dX9_flat_8 rfl 0 rfl ?_
        refine wk_getR (C := RX9) (T := TX9) (N := 24) (pc := 9) dX9_flat_9 (nm_0 hG).2 (nm_0 hG).1 rfl qU_X9 0 (by decide) qF_X9_9 rfl ?_
        refine wk_iload_n (pc := 12) dX9_flat_12 rfl 2 rfl ?_
        refine wk_iconst (pc := 13) (v := (0 : Int32)) dX9_flat_13 (by decide) ?_
        obtain ⟨r14, s14, hc14, hf⟩ := xbind_some hf
        refine wk_callSI (pc := 14) (As := [.int a2_2, .int (0 : Int32)]) (rest := [.ref (gA G 1)]) (kX9_cellAt l hG  hc14) cw_X9_165 (by decide) dX9_flat_14 rfl (Nat.le_of_ble_eq_true rfl) ?_
        refine wk_iconst (pc := 17) (v := (5 : Int32)) dX9_flat_17 (by decide) ?_
        obtain ⟨h18, hf⟩ := xif_some hf
        refine wk_iast (pc := 18) (jj := r14.toNatClampNeg) dX9_flat_18 (nm_1 hG).2 (nm_1 hG).1 h18 rfl ?_
        obtain ⟨s18, hs18, hf⟩ := xlet_some hf
        refine wk_sig hs18 ?_
        refine wk_aload_n (pc := 19) dX9_flat_19 rfl 0 rfl ?_
        refine wk_getR (C := RX9) (T := TX9) (N := 24) (pc := 20) dX9_flat_20 (nm_0 hG).2 (nm_0 hG).1 rfl qU_X9 0 (by decide) qF_X9_9 rfl ?_
        refine wk_iload_n (pc := 23) dX9_flat_23 rfl 2 rfl ?_
        refine wk_iconst (pc := 24) (v := (1 : Int32)) dX9_flat_24 (by decide) ?_
        obtain ⟨r25, s25, hc25, hf⟩ := xbind_some hf
        refine wk_callSI (pc := 25) (As := [.int a2_2, .int (1 : Int32)]) (rest := [.ref (gA G 1)]) (kX9_cellAt l hG  hc25) cw_X9_165 (by decide) dX9_flat_25 rfl (Nat.le_of_ble_eq_true rfl) ?_
        refine wk_iconst (pc := 28) (v := (1 : Int32)) dX9_flat_28 (by decide) ?_
        obtain ⟨h29, hf⟩ := xif_some hf
        refine wk_iast (pc := 29) (jj := r25.toNatClampNeg) dX9_flat_29 (nm_1 hG).2 (nm_1 hG).1 h29 rfl ?_
        obtain ⟨s29, hs29, hf⟩ := xlet_some hf
        refine wk_sig hs29 ?_
        refine wk_aload_n (pc := 30) dX9_flat_30 rfl 0 rfl ?_
        refine wk_getR (C := RX9) (T := TX9) (N := 24) (pc := 31) dX9_flat_31 (nm_0 hG).2 (nm_0 hG).1 rfl qU_X9 0 (by decide) qF_X9_9 rfl ?_
        refine wk_iload_n (pc := 34) dX9_flat_34 rfl 2 rfl ?_
        refine wk_iconst (pc := 35) (v := (2 : Int32)) dX9_flat_35 (by decide) ?_
        obtain ⟨r36, s36, hc36, hf⟩ := xbind_some hf
        refine wk_callSI (pc := 36) (As := [.int a2_2, .int (2 : Int32)]) (rest := [.ref (gA G 1)]) (kX9_cellAt l hG  hc36) cw_X9_165 (by decide) dX9_flat_36 rfl (Nat.le_of_ble_eq_true rfl) ?_
        refine wk_iconst (pc := 39) (v := (0 : Int32)) dX9_flat_39 (by decide) ?_
        obtain ⟨h40, hf⟩ := xif_some hf
        refine wk_iast (pc := 40) (jj := r36.toNatClampNeg) dX9_flat_40 (nm_1 hG).2 (nm_1 hG).1 h40 rfl ?_
        obtain ⟨s40, hs40, hf⟩ := xlet_some hf
        refine wk_sig hs40 ?_
        obtain ⟨y41, hy41, hf⟩ := xlet_some hf
        refine wk_iinc (pc := 41) (v := y41) (lv' := [(2, .int y41), (0, .ref (gA G 0)), (1, .int p1)]) dX9_flat_41 2 rfl (by rw [hy41] <;> rfl) (by decide) rfl ?_
        refine wk_goto (pc := 44) (tgt := 2) dX9_flat_44 rfl ?_
        exact wk_lv [1, 2, 0] rfl (ih2 y41  s40 hf)
  refine wk_iconst (pc := 0) (v := (0 : Int32)) dX9_flat_0 (by decide) ?_
  refine wk_istore_n (pc := 1) (lv' := [(2, .int (0 : Int32)), (0, .ref (gA G 0)), (1, .int p1)]) dX9_flat_1 rfl (by decide) rfl ?_
  exact wk_lv [1, 2, 0] rfl (J2  xF (0 : Int32)  s hf)
noncomputable def sX9_bay (p1 : Int32) (s : xS) : Option (Int32 × xS) := xbind (sX9_within p1 (3 : Int32) (8 : Int32) s) (fun r4 s4 => (if r4 = 0 then xbind (sX9_finding (-1000000001 : Int32) s4) (fun r13 s13 => some (r13, s13)) else (if (s4 1 2) ≤ 0 then xbind (sX9_flat p1 s4) (fun r37 s37 => some (r37, s37)) else xbind (sX9_finding (-1000000003 : Int32) s4) (fun r29 s29 => some (r29, s29)))))
set_option maxHeartbeats 4000000 in
set_option maxRecDepth 100000 in
theorem kX9_bay (l : Launch) {G : xG} (hG : xM1 G)  {p1 : Int32}  {s : xS} {r : Int32} {s' : xS} (hf : sX9_bay p1 s = some (r, s')) : xMet l G 4 yX9_bay cX9_bay 2 (some .int) [.ref (gA G 0), .int p1] s (xI r s') := by
  refine xMet.of (by decide) (Nat.le_of_ble_eq_true rfl) ?_
  show wk l G 4 RX9 cX9_bay 2 (some .int) (xI r s') 0 [(0, .ref (gA G 0)), (1, .int p1)] [] s
  unfold sX9_bay at hf
  refine wk_iload_n (pc := 0) dX9_bay_0 rfl 1 rfl ?_
  refine wk_iconst (pc := 1) (v := (3 : Int32)) dX9_bay_1 (by decide) ?_
  refine wk_bipush (pc := 2) (v := (8 : Int32)) dX9_bay_2 (by decide) ?_
  obtain ⟨r4, s4, hc4, hf⟩ := xbind_some hf
  refine wk_callSI (pc := 4) (As := [.int p1, .int (3 : Int32), .int (8 : Int32)]) (rest := []) (kX9_within l hG  hc4) cw_X9_77 (by decide) dX9_bay_4 rfl (Nat.le_of_ble_eq_true rfl) ?_
  refine wk_if_ne (pc := 7) (tgt := 17) dX9_bay_7 rfl hf (fun hf => ?_) (fun hf => ?_)
  · refine wk_aload_n (pc := 17) dX9_bay_17 rfl 0 rfl ?_
    refine wk_getR (C := RX9) (T := TX9) (N := 24) (pc := 18) dX9_bay_18 (nm_0 hG).2 (nm_0 hG).1 rfl qU_X9 0 (by decide) qF_X9_9 rfl ?_
    refine wk_iconst (pc := 21) (v := (2 : Int32)) dX9_bay_21 (by decide) ?_
    refine wk_iald (pc := 22) (jj := 2) dX9_bay_22 (nm_1 hG).2 (nm_1 hG).1 (by decide) (by decide) ?_
    refine wk_if_le (pc := 23) (tgt := 35) dX9_bay_23 rfl hf (fun hf => ?_) (fun hf => ?_)
    · refine wk_aload_n (pc := 35) dX9_bay_35 rfl 0 rfl ?_
      refine wk_iload_n (pc := 36) dX9_bay_36 rfl 1 rfl ?_
      obtain ⟨r37, s37, hc37, hf⟩ := xbind_some hf
      refine wk_callVI (pc := 37) (As := [.int p1]) (rest := []) (kX9_flat l hG  hc37) cw_X9_59 (by decide) dX9_bay_37 (nm_0 hG).2 (nm_0 hG).1 rfl rfl rfl (Nat.le_of_ble_eq_true rfl) ?_
      exact wk_iret (pc := 40) dX9_bay_40 rfl (xI_of hf)
    · refine wk_aload_n (pc := 26) dX9_bay_26 rfl 0 rfl ?_
      refine wk_ldc (pc := 27) (v := (-1000000003 : Int32)) dX9_bay_27 qK_X9_174 ?_
      obtain ⟨r29, s29, hc29, hf⟩ := xbind_some hf
      refine wk_callVI (pc := 29) (As := [.int (-1000000003 : Int32)]) (rest := []) (kX9_finding l hG  hc29) cw_X9_82 (by decide) dX9_bay_29 (nm_0 hG).2 (nm_0 hG).1 rfl rfl rfl (Nat.le_of_ble_eq_true rfl) ?_
      refine wk_goto (pc := 32) (tgt := 40) dX9_bay_32 rfl ?_
      exact wk_iret (pc := 40) dX9_bay_40 rfl (xI_of hf)
  · refine wk_aload_n (pc := 10) dX9_bay_10 rfl 0 rfl ?_
    refine wk_ldc (pc := 11) (v := (-1000000001 : Int32)) dX9_bay_11 qK_X9_81 ?_
    obtain ⟨r13, s13, hc13, hf⟩ := xbind_some hf
    refine wk_callVI (pc := 13) (As := [.int (-1000000001 : Int32)]) (rest := []) (kX9_finding l hG  hc13) cw_X9_82 (by decide) dX9_bay_13 (nm_0 hG).2 (nm_0 hG).1 rfl rfl rfl (Nat.le_of_ble_eq_true rfl) ?_
    exact wk_iret (pc := 16) dX9_bay_16 rfl (xI_of hf)
noncomputable def sX9_lay_L37   (s37 : xS) : Option (Int32 × xS) := xbind (sX9_finding (-1000000001 : Int32) s37) (fun r40 s40 => some (r40, s40))
noncomputable def sX9_lay_L31 (p1 : Int32) (p2 : Int32) (p3 : Int32) (y31d : Int32)  (s31 : xS) : Option (Int32 × xS) := xbind (sX9_within p3 (0 : Int32) y31d s31) (fun r31 s31 => (if r31 = 0 then sX9_lay_L37  s31 else xbind (sX9_forgetDepths  s31) (fun _ s45 => xbind (sX9_cellAt p1 p2 s45) (fun r51 s51 => xbind (sX9_turn r51 p3 s51) (fun r55 s55 => some (r55, s55))))))
noncomputable def sX9_lay (p1 : Int32) (p2 : Int32) (p3 : Int32) (s : xS) : Option (Int32 × xS) := xbind (sX9_isCell p1 s) (fun r2 s2 => (if r2 = 0 then sX9_lay_L37  s2 else xbind (sX9_within p2 (0 : Int32) (2 : Int32) s2) (fun r11 s11 => (if r11 = 0 then sX9_lay_L37  s11 else xlet ((if p2 = 0 then (9 : Int32) else (999 : Int32))) (fun y31d => (sX9_lay_L31 p1 p2 p3 y31d)  s11)))))
set_option maxHeartbeats 4000000 in
set_option maxRecDepth 100000 in
theorem kX9_lay (l : Launch) {G : xG} (hG : xM1 G)  {p1 : Int32} {p2 : Int32} {p3 : Int32}  {s : xS} {r : Int32} {s' : xS} (hf : sX9_lay p1 p2 p3 s = some (r, s')) : xMet l G 4 yX9_lay cX9_lay 4 (some .int) [.ref (gA G 0), .int p1, .int p2, .int p3] s (xI r s') := by
  refine xMet.of (by decide) (Nat.le_of_ble_eq_true rfl) ?_
  show wk l G 4 RX9 cX9_lay 4 (some .int) (xI r s') 0 [(0, .ref (gA G 0)), (1, .int p1), (2, .int p2), (3, .int p3)] [] s
  unfold sX9_lay at hf
  have J37 : ∀     (s37 : xS), sX9_lay_L37  s37 = some (r, s') → wk l G 4 RX9 cX9_lay 4 (some .int) (xI r s') 37 [(0, .ref (gA G 0))] [] s37 := by
    intro s37 hf
    unfold sX9_lay_L37 at hf
    refine wk_aload_n (pc := 37) dX9_lay_37 rfl 0 rfl ?_
    refine wk_ldc (pc := 38) (v := (-1000000001 : Int32)) dX9_lay_38 qK_X9_81 ?_
    obtain ⟨r40, s40, hc40, hf⟩ := xbind_some hf
    refine wk_callVI (pc := 40) (As := [.int (-1000000001 : Int32)]) (rest := []) (kX9_finding l hG  hc40) cw_X9_82 (by decide) dX9_lay_40 (nm_0 hG).2 (nm_0 hG).1 rfl rfl rfl (Nat.le_of_ble_eq_true rfl) ?_
    exact wk_iret (pc := 43) dX9_lay_43 rfl (xI_of hf)
  have J31 : ∀ (y31d : Int32)    (s31 : xS), (sX9_lay_L31 p1 p2 p3 y31d)  s31 = some (r, s') → wk l G 4 RX9 cX9_lay 4 (some .int) (xI r s') 31 [(0, .ref (gA G 0)), (1, .int p1), (2, .int p2), (3, .int p3)] [.int y31d, .int (0 : Int32), .int p3] s31 := by
    intro y31d s31 hf
    unfold sX9_lay_L31 at hf
    obtain ⟨r31, s31, hc31, hf⟩ := xbind_some hf
    refine wk_callSI (pc := 31) (As := [.int p3, .int (0 : Int32), .int y31d]) (rest := []) (kX9_within l hG  hc31) cw_X9_77 (by decide) dX9_lay_31 rfl (Nat.le_of_ble_eq_true rfl) ?_
    refine wk_if_ne (pc := 34) (tgt := 44) dX9_lay_34 rfl hf (fun hf => ?_) (fun hf => ?_)
    · refine wk_aload_n (pc := 44) dX9_lay_44 rfl 0 rfl ?_
      obtain ⟨⟨⟩, s45, hc45, hf⟩ := xbind_some hf
      refine wk_callVU (pc := 45) (As := []) (rest := []) (kX9_forgetDepths l hG  hc45) cw_X9_145 (by decide) dX9_lay_45 (nm_0 hG).2 (nm_0 hG).1 rfl rfl rfl (Nat.le_of_ble_eq_true rfl) ?_
      refine wk_aload_n (pc := 48) dX9_lay_48 rfl 0 rfl ?_
      refine wk_iload_n (pc := 49) dX9_lay_49 rfl 1 rfl ?_
      refine wk_iload_n (pc := 50) dX9_lay_50 rfl 2 rfl ?_
      obtain ⟨r51, s51, hc51, hf⟩ := xbind_some hf
      refine wk_callSI (pc := 51) (As := [.int p1, .int p2]) (rest := [.ref (gA G 0)]) (kX9_cellAt l hG  hc51) cw_X9_165 (by decide) dX9_lay_51 rfl (Nat.le_of_ble_eq_true rfl) ?_
      refine wk_iload_n (pc := 54) dX9_lay_54 rfl 3 rfl ?_
      obtain ⟨r55, s55, hc55, hf⟩ := xbind_some hf
      refine wk_callVI (pc := 55) (As := [.int r51, .int p3]) (rest := []) (kX9_turn l hG  hc55) cw_X9_171 (by decide) dX9_lay_55 (nm_0 hG).2 (nm_0 hG).1 rfl rfl rfl (Nat.le_of_ble_eq_true rfl) ?_
      exact wk_iret (pc := 58) dX9_lay_58 rfl (xI_of hf)
    · exact wk_lv [0] rfl (J37    s31 hf)
  refine wk_aload_n (pc := 0) dX9_lay_0 rfl 0 rfl ?_
  refine wk_iload_n (pc := 1) dX9_lay_1 rfl 1 rfl ?_
  obtain ⟨r2, s2, hc2, hf⟩ := xbind_some hf
  refine wk_callVI (pc := 2) (As := [.int p1]) (rest := []) (kX9_isCell l hG  hc2) cw_X9_175 (by decide) dX9_lay_2 (nm_0 hG).2 (nm_0 hG).1 rfl rfl rfl (Nat.le_of_ble_eq_true rfl) ?_
  refine wk_if_eq (pc := 5) (tgt := 37) dX9_lay_5 rfl hf (fun hf => ?_) (fun hf => ?_)
  · exact wk_lv [0] rfl (J37    s2 hf)
  · refine wk_iload_n (pc := 8) dX9_lay_8 rfl 2 rfl ?_
    refine wk_iconst (pc := 9) (v := (0 : Int32)) dX9_lay_9 (by decide) ?_
    refine wk_iconst (pc := 10) (v := (2 : Int32)) dX9_lay_10 (by decide) ?_
    obtain ⟨r11, s11, hc11, hf⟩ := xbind_some hf
    refine wk_callSI (pc := 11) (As := [.int p2, .int (0 : Int32), .int (2 : Int32)]) (rest := []) (kX9_within l hG  hc11) cw_X9_77 (by decide) dX9_lay_11 rfl (Nat.le_of_ble_eq_true rfl) ?_
    refine wk_if_eq (pc := 14) (tgt := 37) dX9_lay_14 rfl hf (fun hf => ?_) (fun hf => ?_)
    · exact wk_lv [0] rfl (J37    s11 hf)
    · refine wk_iload_n (pc := 17) dX9_lay_17 rfl 3 rfl ?_
      refine wk_iconst (pc := 18) (v := (0 : Int32)) dX9_lay_18 (by decide) ?_
      refine wk_iload_n (pc := 19) dX9_lay_19 rfl 2 rfl ?_
      obtain ⟨y31d, hy31d, hf⟩ := xlet_some hf
      have K31 : wk l G 4 RX9 cX9_lay 4 (some .int) (xI r s') 31 [(0, .ref (gA G 0)), (1, .int p1), (2, .int p2), (3, .int p3)] [.int y31d, .int (0 : Int32), .int p3] s11 := by
        exact wk_lv [0, 1, 2, 3] rfl (J31 y31d   s11 hf)
      by_cases c20 : p2 = 0
      · rw [if_pos c20] at hy31d
        refine wk_if_ne_p (pc := 20) (tgt := 28) dX9_lay_20 rfl c20 ?_
        refine wk_bipush (pc := 23) (v := (9 : Int32)) dX9_lay_23 (by decide) ?_
        refine wk_goto (pc := 25) (tgt := 31) dX9_lay_25 rfl ?_
        exact wk_top hy31d K31
      · rw [if_neg c20] at hy31d
        refine wk_if_ne_m (pc := 20) (tgt := 28) dX9_lay_20 rfl c20 ?_
        refine wk_sipush (pc := 28) (v := (999 : Int32)) dX9_lay_28 (by decide) ?_
        exact wk_top hy31d K31
noncomputable def sX9_depthFor_L25 (p1 : Int32) (p2 : Int32) (t0_25 : Int32) (s25 : xS) : Option (Int32 × xS) := (if t0_25 = 0 then xbind (sX9_cellIs p1 (0 : Int32) s25) (fun r41 s41 => xbind (sX9_given (0 : Int32) p1 p2 r41 s41) (fun r44 s44 => some (r44, s44))) else some ((0 : Int32), s25))
noncomputable def sX9_depthFor (p1 : Int32) (p2 : Int32) (s : xS) : Option (Int32 × xS) := xbind (sX9_cellIs p1 (1 : Int32) s) (fun r3 s3 => (if p2 < r3 then (sX9_depthFor_L25 p1 p2) (0 : Int32) s3 else xbind (sX9_cellIs p1 (2 : Int32) s3) (fun r14 s14 => xlet ((if r14 < p2 then (0 : Int32) else (1 : Int32))) (fun y25d => (sX9_depthFor_L25 p1 p2) y25d s14))))
set_option maxHeartbeats 4000000 in
set_option maxRecDepth 100000 in
theorem kX9_depthFor (l : Launch) {G : xG} (hG : xM1 G)  {p1 : Int32} {p2 : Int32}  {s : xS} {r : Int32} {s' : xS} (hf : sX9_depthFor p1 p2 s = some (r, s')) : xMet l G 5 yX9_depthFor cX9_depthFor 4 (some .int) [.ref (gA G 0), .int p1, .int p2] s (xI r s') := by
  refine xMet.of (by decide) (Nat.le_of_ble_eq_true rfl) ?_
  show wk l G 5 RX9 cX9_depthFor 4 (some .int) (xI r s') 0 [(0, .ref (gA G 0)), (1, .int p1), (2, .int p2)] [] s
  unfold sX9_depthFor at hf
  have J25 : ∀   (t0_25 : Int32)  (s25 : xS), (sX9_depthFor_L25 p1 p2) t0_25 s25 = some (r, s') → wk l G 5 RX9 cX9_depthFor 4 (some .int) (xI r s') 25 [(0, .ref (gA G 0)), (1, .int p1), (2, .int p2)] [.int t0_25] s25 := by
    intro t0_25 s25 hf
    unfold sX9_depthFor_L25 at hf
    refine wk_istore_n (pc := 25) (lv' := [(3, .int t0_25), (0, .ref (gA G 0)), (1, .int p1), (2, .int p2)]) dX9_depthFor_25 rfl (by decide) rfl ?_
    refine wk_iload_n (pc := 26) dX9_depthFor_26 rfl 0 rfl ?_
    refine wk_if_eq (pc := 27) (tgt := 34) dX9_depthFor_27 rfl hf (fun hf => ?_) (fun hf => ?_)
    · refine wk_aload_n (pc := 34) dX9_depthFor_34 rfl 1 rfl ?_
      refine wk_iconst (pc := 35) (v := (0 : Int32)) dX9_depthFor_35 (by decide) ?_
      refine wk_iload_n (pc := 36) dX9_depthFor_36 rfl 2 rfl ?_
      refine wk_iload_n (pc := 37) dX9_depthFor_37 rfl 3 rfl ?_
      refine wk_aload_n (pc := 38) dX9_depthFor_38 rfl 1 rfl ?_
      refine wk_iload_n (pc := 39) dX9_depthFor_39 rfl 2 rfl ?_
      refine wk_iconst (pc := 40) (v := (0 : Int32)) dX9_depthFor_40 (by decide) ?_
      obtain ⟨r41, s41, hc41, hf⟩ := xbind_some hf
      refine wk_callVI (pc := 41) (As := [.int p1, .int (0 : Int32)]) (rest := [.int p2, .int p1, .int (0 : Int32), .ref (gA G 0)]) (kX9_cellIs l hG  hc41) cw_X9_178 (by decide) dX9_depthFor_41 (nm_0 hG).2 (nm_0 hG).1 rfl rfl rfl (Nat.le_of_ble_eq_true rfl) ?_
      obtain ⟨r44, s44, hc44, hf⟩ := xbind_some hf
      refine wk_callVI (pc := 44) (As := [.int (0 : Int32), .int p1, .int p2, .int r41]) (rest := []) (kX9_given l hG  hc44) cw_X9_161 (by decide) dX9_depthFor_44 (nm_0 hG).2 (nm_0 hG).1 rfl rfl rfl (Nat.le_of_ble_eq_true rfl) ?_
      exact wk_iret (pc := 47) dX9_depthFor_47 rfl (xI_of hf)
    · refine wk_iconst (pc := 30) (v := (0 : Int32)) dX9_depthFor_30 (by decide) ?_
      refine wk_goto (pc := 31) (tgt := 47) dX9_depthFor_31 rfl ?_
      exact wk_iret (pc := 47) dX9_depthFor_47 rfl (xI_of hf)
  refine wk_aload_n (pc := 0) dX9_depthFor_0 rfl 0 rfl ?_
  refine wk_iload_n (pc := 1) dX9_depthFor_1 rfl 1 rfl ?_
  refine wk_iconst (pc := 2) (v := (1 : Int32)) dX9_depthFor_2 (by decide) ?_
  obtain ⟨r3, s3, hc3, hf⟩ := xbind_some hf
  refine wk_callVI (pc := 3) (As := [.int p1, .int (1 : Int32)]) (rest := []) (kX9_cellIs l hG  hc3) cw_X9_178 (by decide) dX9_depthFor_3 (nm_0 hG).2 (nm_0 hG).1 rfl rfl rfl (Nat.le_of_ble_eq_true rfl) ?_
  refine wk_iload_n (pc := 6) dX9_depthFor_6 rfl 2 rfl ?_
  refine wk_icmp_gt (pc := 7) (tgt := 24) dX9_depthFor_7 rfl hf (fun hf => ?_) (fun hf => ?_)
  · refine wk_iconst (pc := 24) (v := (0 : Int32)) dX9_depthFor_24 (by decide) ?_
    exact wk_lv [0, 1, 2] rfl (J25  (0 : Int32)  s3 hf)
  · refine wk_iload_n (pc := 10) dX9_depthFor_10 rfl 2 rfl ?_
    refine wk_aload_n (pc := 11) dX9_depthFor_11 rfl 0 rfl ?_
    refine wk_iload_n (pc := 12) dX9_depthFor_12 rfl 1 rfl ?_
    refine wk_iconst (pc := 13) (v := (2 : Int32)) dX9_depthFor_13 (by decide) ?_
    obtain ⟨r14, s14, hc14, hf⟩ := xbind_some hf
    refine wk_callVI (pc := 14) (As := [.int p1, .int (2 : Int32)]) (rest := [.int p2]) (kX9_cellIs l hG  hc14) cw_X9_178 (by decide) dX9_depthFor_14 (nm_0 hG).2 (nm_0 hG).1 rfl rfl rfl (Nat.le_of_ble_eq_true rfl) ?_
    obtain ⟨y25d, hy25d, hf⟩ := xlet_some hf
    have K25 : wk l G 5 RX9 cX9_depthFor 4 (some .int) (xI r s') 25 [(0, .ref (gA G 0)), (1, .int p1), (2, .int p2)] [.int y25d] s14 := by
      exact wk_lv [0, 1, 2] rfl (J25  y25d  s14 hf)
    by_cases c17 : r14 < p2
    · rw [if_pos c17] at hy25d
      refine wk_icmp_gt_p (pc := 17) (tgt := 24) dX9_depthFor_17 rfl c17 ?_
      refine wk_iconst (pc := 24) (v := (0 : Int32)) dX9_depthFor_24 (by decide) ?_
      exact wk_top hy25d K25
    · rw [if_neg c17] at hy25d
      refine wk_icmp_gt_m (pc := 17) (tgt := 24) dX9_depthFor_17 rfl c17 ?_
      refine wk_iconst (pc := 20) (v := (1 : Int32)) dX9_depthFor_20 (by decide) ?_
      refine wk_goto (pc := 21) (tgt := 25) dX9_depthFor_21 rfl ?_
      exact wk_top hy25d K25
noncomputable def sX9_depthIn_L40 (y13 : Int32)  (s40 : xS) : Option (Int32 × xS) := (if xin y13 8000 then some (((s40 5 y13.toNatClampNeg) - (1 : Int32)), s40) else none)
noncomputable def sX9_depthIn (p1 : Int32) (p2 : Int32) (s : xS) : Option (Int32 × xS) := xlet ((if (0 : Int32) < p2 then p2 else (0 : Int32))) (fun y5 => xlet ((((1000 : Int32) * p1) + y5)) (fun y13 => (if xin y13 8000 then (if (s 5 y13.toNatClampNeg) = 0 then xbind (sX9_depthFor p1 y5 s) (fun r35 s35 => (if xin y13 8000 then xlet (xup s35 5 (upd (s35 5) y13.toNatClampNeg ((1 : Int32) + r35))) (fun s39 => (sX9_depthIn_L40 y13)  s39) else none)) else (sX9_depthIn_L40 y13)  s) else none)))
set_option maxHeartbeats 4000000 in
set_option maxRecDepth 100000 in
theorem kX9_depthIn (l : Launch) {G : xG} (hG : xM1 G)  {p1 : Int32} {p2 : Int32}  {s : xS} {r : Int32} {s' : xS} (hf : sX9_depthIn p1 p2 s = some (r, s')) : xMet l G 6 yX9_depthIn cX9_depthIn 5 (some .int) [.ref (gA G 0), .int p1, .int p2] s (xI r s') := by
  refine xMet.of (by decide) (Nat.le_of_ble_eq_true rfl) ?_
  show wk l G 6 RX9 cX9_depthIn 5 (some .int) (xI r s') 0 [(0, .ref (gA G 0)), (1, .int p1), (2, .int p2)] [] s
  unfold sX9_depthIn at hf
  have J40 : ∀ (y13 : Int32)    (s40 : xS), (sX9_depthIn_L40 y13)  s40 = some (r, s') → wk l G 6 RX9 cX9_depthIn 5 (some .int) (xI r s') 40 [(0, .ref (gA G 0)), (4, .int y13)] [] s40 := by
    intro y13 s40 hf
    unfold sX9_depthIn_L40 at hf
    refine wk_aload_n (pc := 40) dX9_depthIn_40 rfl 0 rfl ?_
    refine wk_getR (C := RX9) (T := TX9) (N := 24) (pc := 41) dX9_depthIn_41 (nm_0 hG).2 (nm_0 hG).1 rfl qU_X9 5 (by decide) qF_X9_22 rfl ?_
    refine wk_iload (pc := 44) dX9_depthIn_44 1 rfl ?_
    obtain ⟨h46, hf⟩ := xif_some hf
    refine wk_iald (pc := 46) (jj := y13.toNatClampNeg) dX9_depthIn_46 (nm_5 hG).2 (nm_5 hG).1 h46 rfl ?_
    refine wk_iconst (pc := 47) (v := (1 : Int32)) dX9_depthIn_47 (by decide) ?_
    refine wk_isub (pc := 48) dX9_depthIn_48 ?_
    exact wk_iret (pc := 49) dX9_depthIn_49 rfl (xI_of hf)
  refine wk_iconst (pc := 0) (v := (0 : Int32)) dX9_depthIn_0 (by decide) ?_
  refine wk_iload_n (pc := 1) dX9_depthIn_1 rfl 2 rfl ?_
  refine wk_mmax (pc := 2) dX9_depthIn_2 qM_X9_70 qS_Mmax qJ_Math qC_Mmax (by decide) (Nat.le_of_ble_eq_true rfl) ?_
  obtain ⟨y5, hy5, hf⟩ := xlet_some hf
  refine wk_top hy5 ?_
  refine wk_istore_n (pc := 5) (lv' := [(3, .int y5), (0, .ref (gA G 0)), (1, .int p1), (2, .int p2)]) dX9_depthIn_5 rfl (by decide) rfl ?_
  refine wk_sipush (pc := 6) (v := (1000 : Int32)) dX9_depthIn_6 (by decide) ?_
  refine wk_iload_n (pc := 9) dX9_depthIn_9 rfl 2 rfl ?_
  refine wk_imul (pc := 10) dX9_depthIn_10 ?_
  refine wk_iload_n (pc := 11) dX9_depthIn_11 rfl 0 rfl ?_
  refine wk_iadd (pc := 12) dX9_depthIn_12 ?_
  obtain ⟨y13, hy13, hf⟩ := xlet_some hf
  refine wk_top hy13 ?_
  refine wk_istore (pc := 13) (lv' := [(4, .int y13), (3, .int y5), (0, .ref (gA G 0)), (1, .int p1), (2, .int p2)]) dX9_depthIn_13 (by decide) rfl ?_
  refine wk_aload_n (pc := 15) dX9_depthIn_15 rfl 2 rfl ?_
  refine wk_getR (C := RX9) (T := TX9) (N := 24) (pc := 16) dX9_depthIn_16 (nm_0 hG).2 (nm_0 hG).1 rfl qU_X9 5 (by decide) qF_X9_22 rfl ?_
  refine wk_iload (pc := 19) dX9_depthIn_19 0 rfl ?_
  obtain ⟨h21, hf⟩ := xif_some hf
  refine wk_iald (pc := 21) (jj := y13.toNatClampNeg) dX9_depthIn_21 (nm_5 hG).2 (nm_5 hG).1 h21 rfl ?_
  refine wk_if_ne (pc := 22) (tgt := 40) dX9_depthIn_22 rfl hf (fun hf => ?_) (fun hf => ?_)
  · exact wk_lv [2, 0] rfl (J40 y13   s hf)
  · refine wk_aload_n (pc := 25) dX9_depthIn_25 rfl 2 rfl ?_
    refine wk_getR (C := RX9) (T := TX9) (N := 24) (pc := 26) dX9_depthIn_26 (nm_0 hG).2 (nm_0 hG).1 rfl qU_X9 5 (by decide) qF_X9_22 rfl ?_
    refine wk_iload (pc := 29) dX9_depthIn_29 0 rfl ?_
    refine wk_iconst (pc := 31) (v := (1 : Int32)) dX9_depthIn_31 (by decide) ?_
    refine wk_aload_n (pc := 32) dX9_depthIn_32 rfl 2 rfl ?_
    refine wk_iload_n (pc := 33) dX9_depthIn_33 rfl 3 rfl ?_
    refine wk_iload_n (pc := 34) dX9_depthIn_34 rfl 1 rfl ?_
    obtain ⟨r35, s35, hc35, hf⟩ := xbind_some hf
    refine wk_callVI (pc := 35) (As := [.int p1, .int y5]) (rest := [.int (1 : Int32), .int y13, .ref (gA G 5)]) (kX9_depthFor l hG  hc35) cw_X9_181 (by decide) dX9_depthIn_35 (nm_0 hG).2 (nm_0 hG).1 rfl rfl rfl (Nat.le_of_ble_eq_true rfl) ?_
    refine wk_iadd (pc := 38) dX9_depthIn_38 ?_
    obtain ⟨h39, hf⟩ := xif_some hf
    refine wk_iast (pc := 39) (jj := y13.toNatClampNeg) dX9_depthIn_39 (nm_5 hG).2 (nm_5 hG).1 h39 rfl ?_
    obtain ⟨s39, hs39, hf⟩ := xlet_some hf
    refine wk_sig hs39 ?_
    exact wk_lv [2, 0] rfl (J40 y13   s39 hf)
noncomputable def sX9_trueDepth (p1 : Int32) (s : xS) : Option (Int32 × xS) := xbind (sX9_depthIn p1 (s 1 3) s) (fun r8 s8 => some (r8, s8))
set_option maxHeartbeats 4000000 in
set_option maxRecDepth 100000 in
theorem kX9_trueDepth (l : Launch) {G : xG} (hG : xM1 G)  {p1 : Int32}  {s : xS} {r : Int32} {s' : xS} (hf : sX9_trueDepth p1 s = some (r, s')) : xMet l G 7 yX9_trueDepth cX9_trueDepth 2 (some .int) [.ref (gA G 0), .int p1] s (xI r s') := by
  refine xMet.of (by decide) (Nat.le_of_ble_eq_true rfl) ?_
  show wk l G 7 RX9 cX9_trueDepth 2 (some .int) (xI r s') 0 [(0, .ref (gA G 0)), (1, .int p1)] [] s
  unfold sX9_trueDepth at hf
  refine wk_aload_n (pc := 0) dX9_trueDepth_0 rfl 0 rfl ?_
  refine wk_iload_n (pc := 1) dX9_trueDepth_1 rfl 1 rfl ?_
  refine wk_aload_n (pc := 2) dX9_trueDepth_2 rfl 0 rfl ?_
  refine wk_getR (C := RX9) (T := TX9) (N := 24) (pc := 3) dX9_trueDepth_3 (nm_0 hG).2 (nm_0 hG).1 rfl qU_X9 0 (by decide) qF_X9_9 rfl ?_
  refine wk_iconst (pc := 6) (v := (3 : Int32)) dX9_trueDepth_6 (by decide) ?_
  refine wk_iald (pc := 7) (jj := 3) dX9_trueDepth_7 (nm_1 hG).2 (nm_1 hG).1 (by decide) (by decide) ?_
  obtain ⟨r8, s8, hc8, hf⟩ := xbind_some hf
  refine wk_callVI (pc := 8) (As := [.int p1, .int (s 1 3)]) (rest := []) (kX9_depthIn l hG  hc8) cw_X9_184 (by decide) dX9_trueDepth_8 (nm_0 hG).2 (nm_0 hG).1 rfl rfl rfl (Nat.le_of_ble_eq_true rfl) ?_
  exact wk_iret (pc := 11) dX9_trueDepth_11 rfl (xI_of hf)
noncomputable def sX9_shown_L32 (p1 : Int32) (t0_32 : Int32) (s32 : xS) : Option (Int32 × xS) := xbind (sX9_depthIn p1 t0_32 s32) (fun r32 s32 => some (r32, s32))
noncomputable def sX9_shown (p1 : Int32) (p2 : Int32) (s : xS) : Option (Int32 × xS) := xbind (sX9_hasBit (s 1 5) p1 s) (fun r9 s9 => (if r9 = 0 then (sX9_shown_L32 p1) (s9 1 3) s9 else (sX9_shown_L32 p1) ((s9 1 3) - p2) s9))
set_option maxHeartbeats 4000000 in
set_option maxRecDepth 100000 in
theorem kX9_shown (l : Launch) {G : xG} (hG : xM1 G)  {p1 : Int32} {p2 : Int32}  {s : xS} {r : Int32} {s' : xS} (hf : sX9_shown p1 p2 s = some (r, s')) : xMet l G 7 yX9_shown cX9_shown 3 (some .int) [.ref (gA G 0), .int p1, .int p2] s (xI r s') := by
  refine xMet.of (by decide) (Nat.le_of_ble_eq_true rfl) ?_
  show wk l G 7 RX9 cX9_shown 3 (some .int) (xI r s') 0 [(0, .ref (gA G 0)), (1, .int p1), (2, .int p2)] [] s
  unfold sX9_shown at hf
  have J32 : ∀   (t0_32 : Int32)  (s32 : xS), (sX9_shown_L32 p1) t0_32 s32 = some (r, s') → wk l G 7 RX9 cX9_shown 3 (some .int) (xI r s') 32 [] [.int t0_32, .int p1, .ref (gA G 0)] s32 := by
    intro t0_32 s32 hf
    unfold sX9_shown_L32 at hf
    obtain ⟨r32, s32, hc32, hf⟩ := xbind_some hf
    refine wk_callVI (pc := 32) (As := [.int p1, .int t0_32]) (rest := []) (kX9_depthIn l hG  hc32) cw_X9_184 (by decide) dX9_shown_32 (nm_0 hG).2 (nm_0 hG).1 rfl rfl rfl (Nat.le_of_ble_eq_true rfl) ?_
    exact wk_iret (pc := 35) dX9_shown_35 rfl (xI_of hf)
  refine wk_aload_n (pc := 0) dX9_shown_0 rfl 0 rfl ?_
  refine wk_iload_n (pc := 1) dX9_shown_1 rfl 1 rfl ?_
  refine wk_aload_n (pc := 2) dX9_shown_2 rfl 0 rfl ?_
  refine wk_getR (C := RX9) (T := TX9) (N := 24) (pc := 3) dX9_shown_3 (nm_0 hG).2 (nm_0 hG).1 rfl qU_X9 0 (by decide) qF_X9_9 rfl ?_
  refine wk_iconst (pc := 6) (v := (5 : Int32)) dX9_shown_6 (by decide) ?_
  refine wk_iald (pc := 7) (jj := 5) dX9_shown_7 (nm_1 hG).2 (nm_1 hG).1 (by decide) (by decide) ?_
  refine wk_iload_n (pc := 8) dX9_shown_8 rfl 1 rfl ?_
  obtain ⟨r9, s9, hc9, hf⟩ := xbind_some hf
  refine wk_callSI (pc := 9) (As := [.int (s 1 5), .int p1]) (rest := [.int p1, .ref (gA G 0)]) (kX9_hasBit l hG  hc9) cw_X9_187 (by decide) dX9_shown_9 rfl (Nat.le_of_ble_eq_true rfl) ?_
  refine wk_if_eq (pc := 12) (tgt := 26) dX9_shown_12 rfl hf (fun hf => ?_) (fun hf => ?_)
  · refine wk_aload_n (pc := 26) dX9_shown_26 rfl 0 rfl ?_
    refine wk_getR (C := RX9) (T := TX9) (N := 24) (pc := 27) dX9_shown_27 (nm_0 hG).2 (nm_0 hG).1 rfl qU_X9 0 (by decide) qF_X9_9 rfl ?_
    refine wk_iconst (pc := 30) (v := (3 : Int32)) dX9_shown_30 (by decide) ?_
    refine wk_iald (pc := 31) (jj := 3) dX9_shown_31 (nm_1 hG).2 (nm_1 hG).1 (by decide) (by decide) ?_
    exact wk_lv [] rfl (J32  (s9 1 3)  s9 hf)
  · refine wk_aload_n (pc := 15) dX9_shown_15 rfl 0 rfl ?_
    refine wk_getR (C := RX9) (T := TX9) (N := 24) (pc := 16) dX9_shown_16 (nm_0 hG).2 (nm_0 hG).1 rfl qU_X9 0 (by decide) qF_X9_9 rfl ?_
    refine wk_iconst (pc := 19) (v := (3 : Int32)) dX9_shown_19 (by decide) ?_
    refine wk_iald (pc := 20) (jj := 3) dX9_shown_20 (nm_1 hG).2 (nm_1 hG).1 (by decide) (by decide) ?_
    refine wk_iload_n (pc := 21) dX9_shown_21 rfl 2 rfl ?_
    refine wk_isub (pc := 22) dX9_shown_22 ?_
    refine wk_goto (pc := 23) (tgt := 32) dX9_shown_23 rfl ?_
    exact wk_lv [] rfl (J32  ((s9 1 3) - p2)  s9 hf)
noncomputable def sX9_shipsAt_L32 (a2_4 : Int32) (a3_4 : Int32) (self4 : Int32 × Int32 → xS → Option (Int32 × xS)) (t0_32 : Int32) (s32 : xS) : Option (Int32 × xS) := xlet ((a2_4 ||| t0_32)) (fun y33 => xlet (a3_4 + (1 : Int32)) (fun y34 => self4 (y33, y34) s32))
noncomputable def sX9_shipsAt_L4 (p1 : Int32) (self4 : Int32 × Int32 → xS → Option (Int32 × xS)) : Int32 × Int32 → xS → Option (Int32 × xS) := fun (a2_4, a3_4) s4 => (if (s4 1 2) ≤ a3_4 then some (a2_4, s4) else xbind (sX9_shipIs a3_4 (3 : Int32) s4) (fun r18 s18 => (if r18 = p1 then (sX9_shipsAt_L32 a2_4 a3_4 self4) ((1 : Int32) <<< (a3_4 &&& 31)) s18 else (sX9_shipsAt_L32 a2_4 a3_4 self4) (0 : Int32) s18)))
noncomputable def sX9_shipsAt (p1 : Int32) (s : xS) : Option (Int32 × xS) := xloop (sX9_shipsAt_L4 p1) xF ((0 : Int32), (0 : Int32)) s
set_option maxHeartbeats 4000000 in
set_option maxRecDepth 100000 in
theorem kX9_shipsAt (l : Launch) {G : xG} (hG : xM1 G)  {p1 : Int32}  {s : xS} {r : Int32} {s' : xS} (hf : sX9_shipsAt p1 s = some (r, s')) : xMet l G 4 yX9_shipsAt cX9_shipsAt 4 (some .int) [.ref (gA G 0), .int p1] s (xI r s') := by
  refine xMet.of (by decide) (Nat.le_of_ble_eq_true rfl) ?_
  show wk l G 4 RX9 cX9_shipsAt 4 (some .int) (xI r s') 0 [(0, .ref (gA G 0)), (1, .int p1)] [] s
  unfold sX9_shipsAt at hf
  have J4 : ∀   (N : Nat) (a2_4 : Int32) (a3_4 : Int32)  (s4 : xS), xloop (sX9_shipsAt_L4 p1) N (a2_4, a3_4) s4 = some (r, s') → wk l G 4 RX9 cX9_shipsAt 4 (some .int) (xI r s') 4 [(0, .ref (gA G 0)), (1, .int p1), (2, .int a2_4), (3, .int a3_4)] [] s4 := by
    intro N
    induction N with
    | zero => intro a2_4 a3_4 s4 hf; exact (xloop_0 hf).elim
    | succ N ih4 =>
      intro a2_4 a3_4 s4 hf
      rw [xloop_s] at hf
      generalize xloop (sX9_shipsAt_L4 p1) N = self4 at hf ih4
      unfold sX9_shipsAt_L4 at hf
      dsimp only at hf
      have J32 : ∀   (t0_32 : Int32)  (s32 : xS), (sX9_shipsAt_L32 a2_4 a3_4 self4) t0_32 s32 = some (r, s') → wk l G 4 RX9 cX9_shipsAt 4 (some .int) (xI r s') 32 [(0, .ref (gA G 0)), (1, .int p1), (3, .int a3_4)] [.int t0_32, .int a2_4] s32 := by
        intro t0_32 s32 hf
        unfold sX9_shipsAt_L32 at hf
        refine wk_ior (pc := 32) dX9_shipsAt_32 ?_
        obtain ⟨y33, hy33, hf⟩ := xlet_some hf
        refine wk_top hy33 ?_
        refine wk_istore_n (pc := 33) (lv' := [(2, .int y33), (0, .ref (gA G 0)), (1, .int p1), (3, .int a3_4)]) dX9_shipsAt_33 rfl (by decide) rfl ?_
        obtain ⟨y34, hy34, hf⟩ := xlet_some hf
        refine wk_iinc (pc := 34) (v := y34) (lv' := [(3, .int y34), (2, .int y33), (0, .ref (gA G 0)), (1, .int p1)]) dX9_shipsAt_34 3 rfl (by rw [hy34] <;> rfl) (by decide) rfl ?_
        refine wk_goto (pc := 37) (tgt := 4) dX9_shipsAt_37 rfl ?_
        exact wk_lv [2, 3, 1, 0] rfl (ih4 y33 y34  s32 hf)
      refine wk_iload_n (pc := 4) dX9_shipsAt_4 rfl 3 rfl ?_
      refine wk_aload_n (pc := 5) dX9_shipsAt_5 rfl 0 rfl ?_
      refine wk_getR (C := RX9) (T := TX9) (N := 24) (pc := 6) dX9_shipsAt_6 (nm_0 hG).2 (nm_0 hG).1 rfl qU_X9 0 (by decide) qF_X9_9 rfl ?_
      refine wk_iconst (pc := 9) (v := (2 : Int32)) dX9_shipsAt_9 (by decide) ?_
      refine wk_iald (pc := 10) (jj := 2) dX9_shipsAt_10 (nm_1 hG).2 (nm_1 hG).1 (by decide) (by decide) ?_
      refine wk_icmp_ge (pc := 11) (tgt := 40) dX9_shipsAt_11 rfl hf (fun hf => ?_) (fun hf => ?_)
      · refine wk_iload_n (pc := 40) dX9_shipsAt_40 rfl 2 rfl ?_
        exact wk_iret (pc := 41) dX9_shipsAt_41 rfl (xI_of hf)
      · refine wk_iload_n (pc := 14) dX9_shipsAt_14 rfl 2 rfl ?_
        refine wk_aload_n (pc := 15) dX9_shipsAt_15 rfl 0 rfl ?_
        refine wk_iload_n (pc := 16) dX9_shipsAt_16 rfl 3 rfl ?_
        refine wk_iconst (pc := 17) (v := (3 : Int32)) dX9_shipsAt_17 (by decide) ?_
        obtain ⟨r18, s18, hc18, hf⟩ := xbind_some hf
        refine wk_callVI (pc := 18) (As := [.int a3_4, .int (3 : Int32)]) (rest := [.int a2_4]) (kX9_shipIs l hG  hc18) cw_X9_191 (by decide) dX9_shipsAt_18 (nm_0 hG).2 (nm_0 hG).1 rfl rfl rfl (Nat.le_of_ble_eq_true rfl) ?_
        refine wk_iload_n (pc := 21) dX9_shipsAt_21 rfl 1 rfl ?_
        refine wk_icmp_ne (pc := 22) (tgt := 31) dX9_shipsAt_22 rfl hf (fun hf => ?_) (fun hf => ?_)
        · refine wk_iconst (pc := 31) (v := (0 : Int32)) dX9_shipsAt_31 (by decide) ?_
          exact wk_lv [0, 1, 3] rfl (J32  (0 : Int32)  s18 hf)
        · refine wk_iconst (pc := 25) (v := (1 : Int32)) dX9_shipsAt_25 (by decide) ?_
          refine wk_iload_n (pc := 26) dX9_shipsAt_26 rfl 3 rfl ?_
          refine wk_ishl (pc := 27) dX9_shipsAt_27 ?_
          refine wk_goto (pc := 28) (tgt := 32) dX9_shipsAt_28 rfl ?_
          exact wk_lv [0, 1, 3] rfl (J32  ((1 : Int32) <<< (a3_4 &&& 31))  s18 hf)
  refine wk_iconst (pc := 0) (v := (0 : Int32)) dX9_shipsAt_0 (by decide) ?_
  refine wk_istore_n (pc := 1) (lv' := [(2, .int (0 : Int32)), (0, .ref (gA G 0)), (1, .int p1)]) dX9_shipsAt_1 rfl (by decide) rfl ?_
  refine wk_iconst (pc := 2) (v := (0 : Int32)) dX9_shipsAt_2 (by decide) ?_
  refine wk_istore_n (pc := 3) (lv' := [(3, .int (0 : Int32)), (2, .int (0 : Int32)), (0, .ref (gA G 0)), (1, .int p1)]) dX9_shipsAt_3 rfl (by decide) rfl ?_
  exact wk_lv [2, 3, 1, 0] rfl (J4  xF (0 : Int32) (0 : Int32)  s hf)
noncomputable def sX9_ofCell_L17   (s17 : xS) : Option (Int32 × xS) := xbind (sX9_finding (-1000000001 : Int32) s17) (fun r20 s20 => some (r20, s20))
noncomputable def sX9_ofCell (p1 : Int32) (p2 : Int32) (s : xS) : Option (Int32 × xS) := xbind (sX9_isCell p1 s) (fun r2 s2 => (if r2 = 0 then sX9_ofCell_L17  s2 else xbind (sX9_within p2 (0 : Int32) (5 : Int32) s2) (fun r11 s11 => (if r11 = 0 then sX9_ofCell_L17  s11 else (if (3 : Int32) ≤ p2 then (if p2 = (3 : Int32) then xbind (sX9_trueDepth p1 s11) (fun r45 s45 => some (r45, s45)) else (if p2 = (4 : Int32) then xbind (sX9_shown p1 (s11 1 4) s11) (fun r64 s64 => some (r64, s64)) else xbind (sX9_shipsAt p1 s11) (fun r72 s72 => some (r72, s72)))) else xbind (sX9_cellIs p1 p2 s11) (fun r32 s32 => some (r32, s32)))))))
set_option maxHeartbeats 4000000 in
set_option maxRecDepth 100000 in
theorem kX9_ofCell (l : Launch) {G : xG} (hG : xM1 G)  {p1 : Int32} {p2 : Int32}  {s : xS} {r : Int32} {s' : xS} (hf : sX9_ofCell p1 p2 s = some (r, s')) : xMet l G 8 yX9_ofCell cX9_ofCell 3 (some .int) [.ref (gA G 0), .int p1, .int p2] s (xI r s') := by
  refine xMet.of (by decide) (Nat.le_of_ble_eq_true rfl) ?_
  show wk l G 8 RX9 cX9_ofCell 3 (some .int) (xI r s') 0 [(0, .ref (gA G 0)), (1, .int p1), (2, .int p2)] [] s
  unfold sX9_ofCell at hf
  have J17 : ∀     (s17 : xS), sX9_ofCell_L17  s17 = some (r, s') → wk l G 8 RX9 cX9_ofCell 3 (some .int) (xI r s') 17 [(0, .ref (gA G 0))] [] s17 := by
    intro s17 hf
    unfold sX9_ofCell_L17 at hf
    refine wk_aload_n (pc := 17) dX9_ofCell_17 rfl 0 rfl ?_
    refine wk_ldc (pc := 18) (v := (-1000000001 : Int32)) dX9_ofCell_18 qK_X9_81 ?_
    obtain ⟨r20, s20, hc20, hf⟩ := xbind_some hf
    refine wk_callVI (pc := 20) (As := [.int (-1000000001 : Int32)]) (rest := []) (kX9_finding l hG  hc20) cw_X9_82 (by decide) dX9_ofCell_20 (nm_0 hG).2 (nm_0 hG).1 rfl rfl rfl (Nat.le_of_ble_eq_true rfl) ?_
    exact wk_iret (pc := 23) dX9_ofCell_23 rfl (xI_of hf)
  refine wk_aload_n (pc := 0) dX9_ofCell_0 rfl 0 rfl ?_
  refine wk_iload_n (pc := 1) dX9_ofCell_1 rfl 1 rfl ?_
  obtain ⟨r2, s2, hc2, hf⟩ := xbind_some hf
  refine wk_callVI (pc := 2) (As := [.int p1]) (rest := []) (kX9_isCell l hG  hc2) cw_X9_175 (by decide) dX9_ofCell_2 (nm_0 hG).2 (nm_0 hG).1 rfl rfl rfl (Nat.le_of_ble_eq_true rfl) ?_
  refine wk_if_eq (pc := 5) (tgt := 17) dX9_ofCell_5 rfl hf (fun hf => ?_) (fun hf => ?_)
  · exact wk_lv [0] rfl (J17    s2 hf)
  · refine wk_iload_n (pc := 8) dX9_ofCell_8 rfl 2 rfl ?_
    refine wk_iconst (pc := 9) (v := (0 : Int32)) dX9_ofCell_9 (by decide) ?_
    refine wk_iconst (pc := 10) (v := (5 : Int32)) dX9_ofCell_10 (by decide) ?_
    obtain ⟨r11, s11, hc11, hf⟩ := xbind_some hf
    refine wk_callSI (pc := 11) (As := [.int p2, .int (0 : Int32), .int (5 : Int32)]) (rest := []) (kX9_within l hG  hc11) cw_X9_77 (by decide) dX9_ofCell_11 rfl (Nat.le_of_ble_eq_true rfl) ?_
    refine wk_if_ne (pc := 14) (tgt := 24) dX9_ofCell_14 rfl hf (fun hf => ?_) (fun hf => ?_)
    · refine wk_iload_n (pc := 24) dX9_ofCell_24 rfl 2 rfl ?_
      refine wk_iconst (pc := 25) (v := (3 : Int32)) dX9_ofCell_25 (by decide) ?_
      refine wk_icmp_ge (pc := 26) (tgt := 38) dX9_ofCell_26 rfl hf (fun hf => ?_) (fun hf => ?_)
      · refine wk_iload_n (pc := 38) dX9_ofCell_38 rfl 2 rfl ?_
        refine wk_iconst (pc := 39) (v := (3 : Int32)) dX9_ofCell_39 (by decide) ?_
        refine wk_icmp_ne (pc := 40) (tgt := 51) dX9_ofCell_40 rfl hf (fun hf => ?_) (fun hf => ?_)
        · refine wk_iload_n (pc := 51) dX9_ofCell_51 rfl 2 rfl ?_
          refine wk_iconst (pc := 52) (v := (4 : Int32)) dX9_ofCell_52 (by decide) ?_
          refine wk_icmp_ne (pc := 53) (tgt := 70) dX9_ofCell_53 rfl hf (fun hf => ?_) (fun hf => ?_)
          · refine wk_aload_n (pc := 70) dX9_ofCell_70 rfl 0 rfl ?_
            refine wk_iload_n (pc := 71) dX9_ofCell_71 rfl 1 rfl ?_
            obtain ⟨r72, s72, hc72, hf⟩ := xbind_some hf
            refine wk_callVI (pc := 72) (As := [.int p1]) (rest := []) (kX9_shipsAt l hG  hc72) cw_X9_200 (by decide) dX9_ofCell_72 (nm_0 hG).2 (nm_0 hG).1 rfl rfl rfl (Nat.le_of_ble_eq_true rfl) ?_
            exact wk_iret (pc := 75) dX9_ofCell_75 rfl (xI_of hf)
          · refine wk_aload_n (pc := 56) dX9_ofCell_56 rfl 0 rfl ?_
            refine wk_iload_n (pc := 57) dX9_ofCell_57 rfl 1 rfl ?_
            refine wk_aload_n (pc := 58) dX9_ofCell_58 rfl 0 rfl ?_
            refine wk_getR (C := RX9) (T := TX9) (N := 24) (pc := 59) dX9_ofCell_59 (nm_0 hG).2 (nm_0 hG).1 rfl qU_X9 0 (by decide) qF_X9_9 rfl ?_
            refine wk_iconst (pc := 62) (v := (4 : Int32)) dX9_ofCell_62 (by decide) ?_
            refine wk_iald (pc := 63) (jj := 4) dX9_ofCell_63 (nm_1 hG).2 (nm_1 hG).1 (by decide) (by decide) ?_
            obtain ⟨r64, s64, hc64, hf⟩ := xbind_some hf
            refine wk_callVI (pc := 64) (As := [.int p1, .int (s11 1 4)]) (rest := []) (kX9_shown l hG  hc64) cw_X9_197 (by decide) dX9_ofCell_64 (nm_0 hG).2 (nm_0 hG).1 rfl rfl rfl (Nat.le_of_ble_eq_true rfl) ?_
            refine wk_goto (pc := 67) (tgt := 75) dX9_ofCell_67 rfl ?_
            exact wk_iret (pc := 75) dX9_ofCell_75 rfl (xI_of hf)
        · refine wk_aload_n (pc := 43) dX9_ofCell_43 rfl 0 rfl ?_
          refine wk_iload_n (pc := 44) dX9_ofCell_44 rfl 1 rfl ?_
          obtain ⟨r45, s45, hc45, hf⟩ := xbind_some hf
          refine wk_callVI (pc := 45) (As := [.int p1]) (rest := []) (kX9_trueDepth l hG  hc45) cw_X9_194 (by decide) dX9_ofCell_45 (nm_0 hG).2 (nm_0 hG).1 rfl rfl rfl (Nat.le_of_ble_eq_true rfl) ?_
          refine wk_goto (pc := 48) (tgt := 75) dX9_ofCell_48 rfl ?_
          exact wk_iret (pc := 75) dX9_ofCell_75 rfl (xI_of hf)
      · refine wk_aload_n (pc := 29) dX9_ofCell_29 rfl 0 rfl ?_
        refine wk_iload_n (pc := 30) dX9_ofCell_30 rfl 1 rfl ?_
        refine wk_iload_n (pc := 31) dX9_ofCell_31 rfl 2 rfl ?_
        obtain ⟨r32, s32, hc32, hf⟩ := xbind_some hf
        refine wk_callVI (pc := 32) (As := [.int p1, .int p2]) (rest := []) (kX9_cellIs l hG  hc32) cw_X9_178 (by decide) dX9_ofCell_32 (nm_0 hG).2 (nm_0 hG).1 rfl rfl rfl (Nat.le_of_ble_eq_true rfl) ?_
        refine wk_goto (pc := 35) (tgt := 75) dX9_ofCell_35 rfl ?_
        exact wk_iret (pc := 75) dX9_ofCell_75 rfl (xI_of hf)
    · exact wk_lv [0] rfl (J17    s11 hf)
noncomputable def sX9_set_L54 (p1 : Int32) (p2 : Int32) (t0_54 : Int32) (s54 : xS) : Option (Int32 × xS) := (if t0_54 = 0 then xbind (sX9_finding (-1000000001 : Int32) s54) (fun r73 s73 => some (r73, s73)) else xbind (sX9_turn ((3 : Int32) + p1) p2 s54) (fun r64 s64 => some (r64, s64)))
noncomputable def sX9_set (p1 : Int32) (p2 : Int32) (s : xS) : Option (Int32 × xS) := (if p1 = 0 then xbind (sX9_isYear p2 s) (fun r5 s5 => (sX9_set_L54 p1 p2) r5 s5) else (if p1 = (1 : Int32) then xbind (sX9_within p2 (0 : Int32) (99 : Int32) s) (fun r20 s20 => (sX9_set_L54 p1 p2) r20 s20) else (if p1 = (2 : Int32) then xbind (sX9_within p2 (0 : Int32) (((1 : Int32) <<< ((s 1 1) &&& 31)) - (1 : Int32)) s) (fun r43 s43 => (if r43 = 0 then (sX9_set_L54 p1 p2) (0 : Int32) s43 else (sX9_set_L54 p1 p2) (1 : Int32) s43)) else (sX9_set_L54 p1 p2) (0 : Int32) s)))
set_option maxHeartbeats 4000000 in
set_option maxRecDepth 100000 in
theorem kX9_set (l : Launch) {G : xG} (hG : xM1 G)  {p1 : Int32} {p2 : Int32}  {s : xS} {r : Int32} {s' : xS} (hf : sX9_set p1 p2 s = some (r, s')) : xMet l G 4 yX9_set cX9_set 4 (some .int) [.ref (gA G 0), .int p1, .int p2] s (xI r s') := by
  refine xMet.of (by decide) (Nat.le_of_ble_eq_true rfl) ?_
  show wk l G 4 RX9 cX9_set 4 (some .int) (xI r s') 0 [(0, .ref (gA G 0)), (1, .int p1), (2, .int p2)] [] s
  unfold sX9_set at hf
  have J54 : ∀   (t0_54 : Int32)  (s54 : xS), (sX9_set_L54 p1 p2) t0_54 s54 = some (r, s') → wk l G 4 RX9 cX9_set 4 (some .int) (xI r s') 54 [(0, .ref (gA G 0)), (1, .int p1), (2, .int p2)] [.int t0_54] s54 := by
    intro t0_54 s54 hf
    unfold sX9_set_L54 at hf
    refine wk_istore_n (pc := 54) (lv' := [(3, .int t0_54), (0, .ref (gA G 0)), (1, .int p1), (2, .int p2)]) dX9_set_54 rfl (by decide) rfl ?_
    refine wk_iload_n (pc := 55) dX9_set_55 rfl 0 rfl ?_
    refine wk_if_eq (pc := 56) (tgt := 70) dX9_set_56 rfl hf (fun hf => ?_) (fun hf => ?_)
    · refine wk_aload_n (pc := 70) dX9_set_70 rfl 1 rfl ?_
      refine wk_ldc (pc := 71) (v := (-1000000001 : Int32)) dX9_set_71 qK_X9_81 ?_
      obtain ⟨r73, s73, hc73, hf⟩ := xbind_some hf
      refine wk_callVI (pc := 73) (As := [.int (-1000000001 : Int32)]) (rest := []) (kX9_finding l hG  hc73) cw_X9_82 (by decide) dX9_set_73 (nm_0 hG).2 (nm_0 hG).1 rfl rfl rfl (Nat.le_of_ble_eq_true rfl) ?_
      exact wk_iret (pc := 76) dX9_set_76 rfl (xI_of hf)
    · refine wk_aload_n (pc := 59) dX9_set_59 rfl 1 rfl ?_
      refine wk_iconst (pc := 60) (v := (3 : Int32)) dX9_set_60 (by decide) ?_
      refine wk_iload_n (pc := 61) dX9_set_61 rfl 2 rfl ?_
      refine wk_iadd (pc := 62) dX9_set_62 ?_
      refine wk_iload_n (pc := 63) dX9_set_63 rfl 3 rfl ?_
      obtain ⟨r64, s64, hc64, hf⟩ := xbind_some hf
      refine wk_callVI (pc := 64) (As := [.int ((3 : Int32) + p1), .int p2]) (rest := []) (kX9_turn l hG  hc64) cw_X9_171 (by decide) dX9_set_64 (nm_0 hG).2 (nm_0 hG).1 rfl rfl rfl (Nat.le_of_ble_eq_true rfl) ?_
      refine wk_goto (pc := 67) (tgt := 76) dX9_set_67 rfl ?_
      exact wk_iret (pc := 76) dX9_set_76 rfl (xI_of hf)
  refine wk_iload_n (pc := 0) dX9_set_0 rfl 1 rfl ?_
  refine wk_if_ne (pc := 1) (tgt := 11) dX9_set_1 rfl hf (fun hf => ?_) (fun hf => ?_)
  · refine wk_iload_n (pc := 11) dX9_set_11 rfl 1 rfl ?_
    refine wk_iconst (pc := 12) (v := (1 : Int32)) dX9_set_12 (by decide) ?_
    refine wk_icmp_ne (pc := 13) (tgt := 26) dX9_set_13 rfl hf (fun hf => ?_) (fun hf => ?_)
    · refine wk_iload_n (pc := 26) dX9_set_26 rfl 1 rfl ?_
      refine wk_iconst (pc := 27) (v := (2 : Int32)) dX9_set_27 (by decide) ?_
      refine wk_icmp_ne (pc := 28) (tgt := 53) dX9_set_28 rfl hf (fun hf => ?_) (fun hf => ?_)
      · refine wk_iconst (pc := 53) (v := (0 : Int32)) dX9_set_53 (by decide) ?_
        exact wk_lv [0, 1, 2] rfl (J54  (0 : Int32)  s hf)
      · refine wk_iload_n (pc := 31) dX9_set_31 rfl 2 rfl ?_
        refine wk_iconst (pc := 32) (v := (0 : Int32)) dX9_set_32 (by decide) ?_
        refine wk_iconst (pc := 33) (v := (1 : Int32)) dX9_set_33 (by decide) ?_
        refine wk_aload_n (pc := 34) dX9_set_34 rfl 0 rfl ?_
        refine wk_getR (C := RX9) (T := TX9) (N := 24) (pc := 35) dX9_set_35 (nm_0 hG).2 (nm_0 hG).1 rfl qU_X9 0 (by decide) qF_X9_9 rfl ?_
        refine wk_iconst (pc := 38) (v := (1 : Int32)) dX9_set_38 (by decide) ?_
        refine wk_iald (pc := 39) (jj := 1) dX9_set_39 (nm_1 hG).2 (nm_1 hG).1 (by decide) (by decide) ?_
        refine wk_ishl (pc := 40) dX9_set_40 ?_
        refine wk_iconst (pc := 41) (v := (1 : Int32)) dX9_set_41 (by decide) ?_
        refine wk_isub (pc := 42) dX9_set_42 ?_
        obtain ⟨r43, s43, hc43, hf⟩ := xbind_some hf
        refine wk_callSI (pc := 43) (As := [.int p2, .int (0 : Int32), .int (((1 : Int32) <<< ((s 1 1) &&& 31)) - (1 : Int32))]) (rest := []) (kX9_within l hG  hc43) cw_X9_77 (by decide) dX9_set_43 rfl (Nat.le_of_ble_eq_true rfl) ?_
        refine wk_if_eq (pc := 46) (tgt := 53) dX9_set_46 rfl hf (fun hf => ?_) (fun hf => ?_)
        · refine wk_iconst (pc := 53) (v := (0 : Int32)) dX9_set_53 (by decide) ?_
          exact wk_lv [0, 1, 2] rfl (J54  (0 : Int32)  s43 hf)
        · refine wk_iconst (pc := 49) (v := (1 : Int32)) dX9_set_49 (by decide) ?_
          refine wk_goto (pc := 50) (tgt := 54) dX9_set_50 rfl ?_
          exact wk_lv [0, 1, 2] rfl (J54  (1 : Int32)  s43 hf)
    · refine wk_iload_n (pc := 16) dX9_set_16 rfl 2 rfl ?_
      refine wk_iconst (pc := 17) (v := (0 : Int32)) dX9_set_17 (by decide) ?_
      refine wk_bipush (pc := 18) (v := (99 : Int32)) dX9_set_18 (by decide) ?_
      obtain ⟨r20, s20, hc20, hf⟩ := xbind_some hf
      refine wk_callSI (pc := 20) (As := [.int p2, .int (0 : Int32), .int (99 : Int32)]) (rest := []) (kX9_within l hG  hc20) cw_X9_77 (by decide) dX9_set_20 rfl (Nat.le_of_ble_eq_true rfl) ?_
      refine wk_goto (pc := 23) (tgt := 54) dX9_set_23 rfl ?_
      exact wk_lv [0, 1, 2] rfl (J54  r20  s20 hf)
  · refine wk_iload_n (pc := 4) dX9_set_4 rfl 2 rfl ?_
    obtain ⟨r5, s5, hc5, hf⟩ := xbind_some hf
    refine wk_callSI (pc := 5) (As := [.int p2]) (rest := []) (kX9_isYear l hG  hc5) cw_X9_203 (by decide) dX9_set_5 rfl (Nat.le_of_ble_eq_true rfl) ?_
    refine wk_goto (pc := 8) (tgt := 54) dX9_set_8 rfl ?_
    exact wk_lv [0, 1, 2] rfl (J54  r5  s5 hf)
noncomputable def sX9_depth_L29   (s29 : xS) : Option (Int32 × xS) := xbind (sX9_finding (-1000000001 : Int32) s29) (fun r32 s32 => some (r32, s32))
noncomputable def sX9_depth (p1 : Int32) (p2 : Int32) (s : xS) : Option (Int32 × xS) := xbind (sX9_isCell p1 s) (fun r2 s2 => (if r2 = 0 then sX9_depth_L29  s2 else xbind (sX9_within p2 (-99 : Int32) (999 : Int32) s2) (fun r14 s14 => (if r14 = 0 then sX9_depth_L29  s14 else xbind (sX9_depthIn p1 p2 s14) (fun r23 s23 => some (r23, s23))))))
set_option maxHeartbeats 4000000 in
set_option maxRecDepth 100000 in
theorem kX9_depth (l : Launch) {G : xG} (hG : xM1 G)  {p1 : Int32} {p2 : Int32}  {s : xS} {r : Int32} {s' : xS} (hf : sX9_depth p1 p2 s = some (r, s')) : xMet l G 7 yX9_depth cX9_depth 3 (some .int) [.ref (gA G 0), .int p1, .int p2] s (xI r s') := by
  refine xMet.of (by decide) (Nat.le_of_ble_eq_true rfl) ?_
  show wk l G 7 RX9 cX9_depth 3 (some .int) (xI r s') 0 [(0, .ref (gA G 0)), (1, .int p1), (2, .int p2)] [] s
  unfold sX9_depth at hf
  have J29 : ∀     (s29 : xS), sX9_depth_L29  s29 = some (r, s') → wk l G 7 RX9 cX9_depth 3 (some .int) (xI r s') 29 [(0, .ref (gA G 0))] [] s29 := by
    intro s29 hf
    unfold sX9_depth_L29 at hf
    refine wk_aload_n (pc := 29) dX9_depth_29 rfl 0 rfl ?_
    refine wk_ldc (pc := 30) (v := (-1000000001 : Int32)) dX9_depth_30 qK_X9_81 ?_
    obtain ⟨r32, s32, hc32, hf⟩ := xbind_some hf
    refine wk_callVI (pc := 32) (As := [.int (-1000000001 : Int32)]) (rest := []) (kX9_finding l hG  hc32) cw_X9_82 (by decide) dX9_depth_32 (nm_0 hG).2 (nm_0 hG).1 rfl rfl rfl (Nat.le_of_ble_eq_true rfl) ?_
    exact wk_iret (pc := 35) dX9_depth_35 rfl (xI_of hf)
  refine wk_aload_n (pc := 0) dX9_depth_0 rfl 0 rfl ?_
  refine wk_iload_n (pc := 1) dX9_depth_1 rfl 1 rfl ?_
  obtain ⟨r2, s2, hc2, hf⟩ := xbind_some hf
  refine wk_callVI (pc := 2) (As := [.int p1]) (rest := []) (kX9_isCell l hG  hc2) cw_X9_175 (by decide) dX9_depth_2 (nm_0 hG).2 (nm_0 hG).1 rfl rfl rfl (Nat.le_of_ble_eq_true rfl) ?_
  refine wk_if_eq (pc := 5) (tgt := 29) dX9_depth_5 rfl hf (fun hf => ?_) (fun hf => ?_)
  · exact wk_lv [0] rfl (J29    s2 hf)
  · refine wk_iload_n (pc := 8) dX9_depth_8 rfl 2 rfl ?_
    refine wk_bipush (pc := 9) (v := (-99 : Int32)) dX9_depth_9 (by decide) ?_
    refine wk_sipush (pc := 11) (v := (999 : Int32)) dX9_depth_11 (by decide) ?_
    obtain ⟨r14, s14, hc14, hf⟩ := xbind_some hf
    refine wk_callSI (pc := 14) (As := [.int p2, .int (-99 : Int32), .int (999 : Int32)]) (rest := []) (kX9_within l hG  hc14) cw_X9_77 (by decide) dX9_depth_14 rfl (Nat.le_of_ble_eq_true rfl) ?_
    refine wk_if_eq (pc := 17) (tgt := 29) dX9_depth_17 rfl hf (fun hf => ?_) (fun hf => ?_)
    · exact wk_lv [0] rfl (J29    s14 hf)
    · refine wk_aload_n (pc := 20) dX9_depth_20 rfl 0 rfl ?_
      refine wk_iload_n (pc := 21) dX9_depth_21 rfl 1 rfl ?_
      refine wk_iload_n (pc := 22) dX9_depth_22 rfl 2 rfl ?_
      obtain ⟨r23, s23, hc23, hf⟩ := xbind_some hf
      refine wk_callVI (pc := 23) (As := [.int p1, .int p2]) (rest := []) (kX9_depthIn l hG  hc23) cw_X9_184 (by decide) dX9_depth_23 (nm_0 hG).2 (nm_0 hG).1 rfl rfl rfl (Nat.le_of_ble_eq_true rfl) ?_
      refine wk_goto (pc := 26) (tgt := 35) dX9_depth_26 rfl ?_
      exact wk_iret (pc := 35) dX9_depth_35 rfl (xI_of hf)
noncomputable def sX9_isKindM (p0 : Int32) (s : xS) : Option (Int32 × xS) := xbind (sX9_within p0 (0 : Int32) (69 : Int32) s) (fun r4 s4 => (if r4 = 0 ∨ r4 = 1 then some (r4, s4) else none))
set_option maxHeartbeats 4000000 in
set_option maxRecDepth 100000 in
theorem kX9_isKindM (l : Launch) {G : xG} (hG : xM1 G)  {p0 : Int32}  {s : xS} {r : Int32} {s' : xS} (hf : sX9_isKindM p0 s = some (r, s')) : xMet l G 3 yX9_isKindM cX9_isKindM 1 (some .boolean) [.int p0] s (xI r s') := by
  refine xMet.of (by decide) (Nat.le_of_ble_eq_true rfl) ?_
  show wk l G 3 RX9 cX9_isKindM 1 (some .boolean) (xI r s') 0 [(0, .int p0)] [] s
  unfold sX9_isKindM at hf
  refine wk_iload_n (pc := 0) dX9_isKindM_0 rfl 0 rfl ?_
  refine wk_iconst (pc := 1) (v := (0 : Int32)) dX9_isKindM_1 (by decide) ?_
  refine wk_bipush (pc := 2) (v := (69 : Int32)) dX9_isKindM_2 (by decide) ?_
  obtain ⟨r4, s4, hc4, hf⟩ := xbind_some hf
  refine wk_callSI (pc := 4) (As := [.int p0, .int (0 : Int32), .int (69 : Int32)]) (rest := []) (kX9_within l hG  hc4) cw_X9_77 (by decide) dX9_isKindM_4 rfl (Nat.le_of_ble_eq_true rfl) ?_
  obtain ⟨h7, hf⟩ := xif_some hf
  exact wk_zret (pc := 7) dX9_isKindM_7 rfl (x01n h7) (xI_of hf)
noncomputable def sX9_shipComes (p1 : Int32) (p2 : Int32) (p3 : Int32) (s : xS) : Option (Int32 × xS) := xlet ((s 1 2)) (fun y6 => xbind (sX9_shipAt y6 (0 : Int32) s) (fun r15 s15 => (if xin r15 242 then xlet (xup s15 1 (upd (s15 1) r15.toNatClampNeg (p1 / (10 : Int32)))) (fun s22 => xbind (sX9_shipAt y6 (1 : Int32) s22) (fun r30 s30 => (if xin r30 242 then xlet (xup s30 1 (upd (s30 1) r30.toNatClampNeg (p1 - p1 / (10 : Int32) * (10 : Int32)))) (fun s37 => xbind (sX9_shipAt y6 (2 : Int32) s37) (fun r45 s45 => (if xin r45 242 then xlet (xup s45 1 (upd (s45 1) r45.toNatClampNeg p2)) (fun s49 => xbind (sX9_shipAt y6 (3 : Int32) s49) (fun r57 s57 => (if xin r57 242 then xlet (xup s57 1 (upd (s57 1) r57.toNatClampNeg p3)) (fun s61 => xbind (sX9_shipAt y6 (4 : Int32) s61) (fun r69 s69 => (if xin r69 242 then xlet (xup s69 1 (upd (s69 1) r69.toNatClampNeg (0 : Int32))) (fun s73 => xlet (xup s73 1 (upd (s73 1) 2 ((s73 1 2) + (1 : Int32)))) (fun s83 => some (y6, s83))) else none))) else none))) else none))) else none))) else none)))
set_option maxHeartbeats 4000000 in
set_option maxRecDepth 100000 in
theorem kX9_shipComes (l : Launch) {G : xG} (hG : xM1 G)  {p1 : Int32} {p2 : Int32} {p3 : Int32}  {s : xS} {r : Int32} {s' : xS} (hf : sX9_shipComes p1 p2 p3 s = some (r, s')) : xMet l G 3 yX9_shipComes cX9_shipComes 5 (some .int) [.ref (gA G 0), .int p1, .int p2, .int p3] s (xI r s') := by
  refine xMet.of (by decide) (Nat.le_of_ble_eq_true rfl) ?_
  show wk l G 3 RX9 cX9_shipComes 5 (some .int) (xI r s') 0 [(0, .ref (gA G 0)), (1, .int p1), (2, .int p2), (3, .int p3)] [] s
  unfold sX9_shipComes at hf
  refine wk_aload_n (pc := 0) dX9_shipComes_0 rfl 0 rfl ?_
  refine wk_getR (C := RX9) (T := TX9) (N := 24) (pc := 1) dX9_shipComes_1 (nm_0 hG).2 (nm_0 hG).1 rfl qU_X9 0 (by decide) qF_X9_9 rfl ?_
  refine wk_iconst (pc := 4) (v := (2 : Int32)) dX9_shipComes_4 (by decide) ?_
  refine wk_iald (pc := 5) (jj := 2) dX9_shipComes_5 (nm_1 hG).2 (nm_1 hG).1 (by decide) (by decide) ?_
  obtain ⟨y6, hy6, hf⟩ := xlet_some hf
  refine wk_top hy6 ?_
  refine wk_istore (pc := 6) (lv' := [(4, .int y6), (0, .ref (gA G 0)), (1, .int p1), (2, .int p2), (3, .int p3)]) dX9_shipComes_6 (by decide) rfl ?_
  refine wk_aload_n (pc := 8) dX9_shipComes_8 rfl 1 rfl ?_
  refine wk_getR (C := RX9) (T := TX9) (N := 24) (pc := 9) dX9_shipComes_9 (nm_0 hG).2 (nm_0 hG).1 rfl qU_X9 0 (by decide) qF_X9_9 rfl ?_
  refine wk_iload (pc := 12) dX9_shipComes_12 0 rfl ?_
  refine wk_iconst (pc := 14) (v := (0 : Int32)) dX9_shipComes_14 (by decide) ?_
  obtain ⟨r15, s15, hc15, hf⟩ := xbind_some hf
  refine wk_callSI (pc := 15) (As := [.int y6, .int (0 : Int32)]) (rest := [.ref (gA G 1)]) (kX9_shipAt l hG  hc15) cw_X9_168 (by decide) dX9_shipComes_15 rfl (Nat.le_of_ble_eq_true rfl) ?_
  refine wk_iload_n (pc := 18) dX9_shipComes_18 rfl 2 rfl ?_
  refine wk_bipush (pc := 19) (v := (10 : Int32)) dX9_shipComes_19 (by decide) ?_
  refine wk_idiv (pc := 21) dX9_shipComes_21 (by decide) ?_
  obtain ⟨h22, hf⟩ := xif_some hf
  refine wk_iast (pc := 22) (jj := r15.toNatClampNeg) dX9_shipComes_22 (nm_1 hG).2 (nm_1 hG).1 h22 rfl ?_
  obtain ⟨s22, hs22, hf⟩ := xlet_some hf
  refine wk_sig hs22 ?_
  refine wk_aload_n (pc := 23) dX9_shipComes_23 rfl 1 rfl ?_
  refine wk_getR (C := RX9) (T := TX9) (N := 24) (pc := 24) dX9_shipComes_24 (nm_0 hG).2 (nm_0 hG).1 rfl qU_X9 0 (by decide) qF_X9_9 rfl ?_
  refine wk_iload (pc := 27) dX9_shipComes_27 0 rfl ?_
  refine wk_iconst (pc := 29) (v := (1 : Int32)) dX9_shipComes_29 (by decide) ?_
  obtain ⟨r30, s30, hc30, hf⟩ := xbind_some hf
  refine wk_callSI (pc := 30) (As := [.int y6, .int (1 : Int32)]) (rest := [.ref (gA G 1)]) (kX9_shipAt l hG  hc30) cw_X9_168 (by decide) dX9_shipComes_30 rfl (Nat.le_of_ble_eq_true rfl) ?_
  refine wk_iload_n (pc := 33) dX9_shipComes_33 rfl 2 rfl ?_
  refine wk_bipush (pc := 34) (v := (10 : Int32)) dX9_shipComes_34 (by decide) ?_
  refine wk_irem (pc := 36) dX9_shipComes_36 (by decide) ?_
  obtain ⟨h37, hf⟩ := xif_some hf
  refine wk_iast (pc := 37) (jj := r30.toNatClampNeg) dX9_shipComes_37 (nm_1 hG).2 (nm_1 hG).1 h37 rfl ?_
  obtain ⟨s37, hs37, hf⟩ := xlet_some hf
  refine wk_sig hs37 ?_
  refine wk_aload_n (pc := 38) dX9_shipComes_38 rfl 1 rfl ?_
  refine wk_getR (C := RX9) (T := TX9) (N := 24) (pc := 39) dX9_shipComes_39 (nm_0 hG).2 (nm_0 hG).1 rfl qU_X9 0 (by decide) qF_X9_9 rfl ?_
  refine wk_iload (pc := 42) dX9_shipComes_42 0 rfl ?_
  refine wk_iconst (pc := 44) (v := (2 : Int32)) dX9_shipComes_44 (by decide) ?_
  obtain ⟨r45, s45, hc45, hf⟩ := xbind_some hf
  refine wk_callSI (pc := 45) (As := [.int y6, .int (2 : Int32)]) (rest := [.ref (gA G 1)]) (kX9_shipAt l hG  hc45) cw_X9_168 (by decide) dX9_shipComes_45 rfl (Nat.le_of_ble_eq_true rfl) ?_
  refine wk_iload_n (pc := 48) dX9_shipComes_48 rfl 3 rfl ?_
  obtain ⟨h49, hf⟩ := xif_some hf
  refine wk_iast (pc := 49) (jj := r45.toNatClampNeg) dX9_shipComes_49 (nm_1 hG).2 (nm_1 hG).1 h49 rfl ?_
  obtain ⟨s49, hs49, hf⟩ := xlet_some hf
  refine wk_sig hs49 ?_
  refine wk_aload_n (pc := 50) dX9_shipComes_50 rfl 1 rfl ?_
  refine wk_getR (C := RX9) (T := TX9) (N := 24) (pc := 51) dX9_shipComes_51 (nm_0 hG).2 (nm_0 hG).1 rfl qU_X9 0 (by decide) qF_X9_9 rfl ?_
  refine wk_iload (pc := 54) dX9_shipComes_54 0 rfl ?_
  refine wk_iconst (pc := 56) (v := (3 : Int32)) dX9_shipComes_56 (by decide) ?_
  obtain ⟨r57, s57, hc57, hf⟩ := xbind_some hf
  refine wk_callSI (pc := 57) (As := [.int y6, .int (3 : Int32)]) (rest := [.ref (gA G 1)]) (kX9_shipAt l hG  hc57) cw_X9_168 (by decide) dX9_shipComes_57 rfl (Nat.le_of_ble_eq_true rfl) ?_
  refine wk_iload_n (pc := 60) dX9_shipComes_60 rfl 4 rfl ?_
  obtain ⟨h61, hf⟩ := xif_some hf
  refine wk_iast (pc := 61) (jj := r57.toNatClampNeg) dX9_shipComes_61 (nm_1 hG).2 (nm_1 hG).1 h61 rfl ?_
  obtain ⟨s61, hs61, hf⟩ := xlet_some hf
  refine wk_sig hs61 ?_
  refine wk_aload_n (pc := 62) dX9_shipComes_62 rfl 1 rfl ?_
  refine wk_getR (C := RX9) (T := TX9) (N := 24) (pc := 63) dX9_shipComes_63 (nm_0 hG).2 (nm_0 hG).1 rfl qU_X9 0 (by decide) qF_X9_9 rfl ?_
  refine wk_iload (pc := 66) dX9_shipComes_66 0 rfl ?_
  refine wk_iconst (pc := 68) (v := (4 : Int32)) dX9_shipComes_68 (by decide) ?_
  obtain ⟨r69, s69, hc69, hf⟩ := xbind_some hf
  refine wk_callSI (pc := 69) (As := [.int y6, .int (4 : Int32)]) (rest := [.ref (gA G 1)]) (kX9_shipAt l hG  hc69) cw_X9_168 (by decide) dX9_shipComes_69 rfl (Nat.le_of_ble_eq_true rfl) ?_
  refine wk_iconst (pc := 72) (v := (0 : Int32)) dX9_shipComes_72 (by decide) ?_
  obtain ⟨h73, hf⟩ := xif_some hf
  refine wk_iast (pc := 73) (jj := r69.toNatClampNeg) dX9_shipComes_73 (nm_1 hG).2 (nm_1 hG).1 h73 rfl ?_
  obtain ⟨s73, hs73, hf⟩ := xlet_some hf
  refine wk_sig hs73 ?_
  refine wk_aload_n (pc := 74) dX9_shipComes_74 rfl 1 rfl ?_
  refine wk_getR (C := RX9) (T := TX9) (N := 24) (pc := 75) dX9_shipComes_75 (nm_0 hG).2 (nm_0 hG).1 rfl qU_X9 0 (by decide) qF_X9_9 rfl ?_
  refine wk_iconst (pc := 78) (v := (2 : Int32)) dX9_shipComes_78 (by decide) ?_
  refine wk_dup2 (pc := 79) dX9_shipComes_79 rfl rfl ?_
  refine wk_iald (pc := 80) (jj := 2) dX9_shipComes_80 (nm_1 hG).2 (nm_1 hG).1 (by decide) (by decide) ?_
  refine wk_iconst (pc := 81) (v := (1 : Int32)) dX9_shipComes_81 (by decide) ?_
  refine wk_iadd (pc := 82) dX9_shipComes_82 ?_
  refine wk_iast (pc := 83) (jj := 2) dX9_shipComes_83 (nm_1 hG).2 (nm_1 hG).1 (by decide) (by decide) ?_
  obtain ⟨s83, hs83, hf⟩ := xlet_some hf
  refine wk_sig hs83 ?_
  refine wk_iload (pc := 84) dX9_shipComes_84 0 rfl ?_
  exact wk_iret (pc := 86) dX9_shipComes_86 rfl (xI_of hf)
noncomputable def sX9_ship_L22   (s22 : xS) : Option (Int32 × xS) := xbind (sX9_finding (-1000000001 : Int32) s22) (fun r25 s25 => some (r25, s25))
noncomputable def sX9_ship (p1 : Int32) (p2 : Int32) (p3 : Int32) (s : xS) : Option (Int32 × xS) := xbind (sX9_isKindM p1 s) (fun r1 s1 => (if r1 = 0 then sX9_ship_L22  s1 else xbind (sX9_isDigit p2 s1) (fun r8 s8 => (if r8 = 0 then sX9_ship_L22  s8 else xbind (sX9_isCell p3 s8) (fun r16 s16 => (if r16 = 0 then sX9_ship_L22  s16 else (if (s16 1 2) = (7 : Int32) then xbind (sX9_finding (-1000000004 : Int32) s16) (fun r43 s43 => some (r43, s43)) else xbind (sX9_shipComes p1 p2 p3 s16) (fun r53 s53 => some (r53, s53)))))))))
set_option maxHeartbeats 4000000 in
set_option maxRecDepth 100000 in
theorem kX9_ship (l : Launch) {G : xG} (hG : xM1 G)  {p1 : Int32} {p2 : Int32} {p3 : Int32}  {s : xS} {r : Int32} {s' : xS} (hf : sX9_ship p1 p2 p3 s = some (r, s')) : xMet l G 4 yX9_ship cX9_ship 4 (some .int) [.ref (gA G 0), .int p1, .int p2, .int p3] s (xI r s') := by
  refine xMet.of (by decide) (Nat.le_of_ble_eq_true rfl) ?_
  show wk l G 4 RX9 cX9_ship 4 (some .int) (xI r s') 0 [(0, .ref (gA G 0)), (1, .int p1), (2, .int p2), (3, .int p3)] [] s
  unfold sX9_ship at hf
  have J22 : ∀     (s22 : xS), sX9_ship_L22  s22 = some (r, s') → wk l G 4 RX9 cX9_ship 4 (some .int) (xI r s') 22 [(0, .ref (gA G 0))] [] s22 := by
    intro s22 hf
    unfold sX9_ship_L22 at hf
    refine wk_aload_n (pc := 22) dX9_ship_22 rfl 0 rfl ?_
    refine wk_ldc (pc := 23) (v := (-1000000001 : Int32)) dX9_ship_23 qK_X9_81 ?_
    obtain ⟨r25, s25, hc25, hf⟩ := xbind_some hf
    refine wk_callVI (pc := 25) (As := [.int (-1000000001 : Int32)]) (rest := []) (kX9_finding l hG  hc25) cw_X9_82 (by decide) dX9_ship_25 (nm_0 hG).2 (nm_0 hG).1 rfl rfl rfl (Nat.le_of_ble_eq_true rfl) ?_
    exact wk_iret (pc := 28) dX9_ship_28 rfl (xI_of hf)
  refine wk_iload_n (pc := 0) dX9_ship_0 rfl 1 rfl ?_
  obtain ⟨r1, s1, hc1, hf⟩ := xbind_some hf
  refine wk_callSI (pc := 1) (As := [.int p1]) (rest := []) (kX9_isKindM l hG  hc1) cw_X9_206 (by decide) dX9_ship_1 rfl (Nat.le_of_ble_eq_true rfl) ?_
  refine wk_if_eq (pc := 4) (tgt := 22) dX9_ship_4 rfl hf (fun hf => ?_) (fun hf => ?_)
  · exact wk_lv [0] rfl (J22    s1 hf)
  · refine wk_iload_n (pc := 7) dX9_ship_7 rfl 2 rfl ?_
    obtain ⟨r8, s8, hc8, hf⟩ := xbind_some hf
    refine wk_callSI (pc := 8) (As := [.int p2]) (rest := []) (kX9_isDigit l hG  hc8) cw_X9_209 (by decide) dX9_ship_8 rfl (Nat.le_of_ble_eq_true rfl) ?_
    refine wk_if_eq (pc := 11) (tgt := 22) dX9_ship_11 rfl hf (fun hf => ?_) (fun hf => ?_)
    · exact wk_lv [0] rfl (J22    s8 hf)
    · refine wk_aload_n (pc := 14) dX9_ship_14 rfl 0 rfl ?_
      refine wk_iload_n (pc := 15) dX9_ship_15 rfl 3 rfl ?_
      obtain ⟨r16, s16, hc16, hf⟩ := xbind_some hf
      refine wk_callVI (pc := 16) (As := [.int p3]) (rest := []) (kX9_isCell l hG  hc16) cw_X9_175 (by decide) dX9_ship_16 (nm_0 hG).2 (nm_0 hG).1 rfl rfl rfl (Nat.le_of_ble_eq_true rfl) ?_
      refine wk_if_ne (pc := 19) (tgt := 29) dX9_ship_19 rfl hf (fun hf => ?_) (fun hf => ?_)
      · refine wk_aload_n (pc := 29) dX9_ship_29 rfl 0 rfl ?_
        refine wk_getR (C := RX9) (T := TX9) (N := 24) (pc := 30) dX9_ship_30 (nm_0 hG).2 (nm_0 hG).1 rfl qU_X9 0 (by decide) qF_X9_9 rfl ?_
        refine wk_iconst (pc := 33) (v := (2 : Int32)) dX9_ship_33 (by decide) ?_
        refine wk_iald (pc := 34) (jj := 2) dX9_ship_34 (nm_1 hG).2 (nm_1 hG).1 (by decide) (by decide) ?_
        refine wk_bipush (pc := 35) (v := (7 : Int32)) dX9_ship_35 (by decide) ?_
        refine wk_icmp_ne (pc := 37) (tgt := 49) dX9_ship_37 rfl hf (fun hf => ?_) (fun hf => ?_)
        · refine wk_aload_n (pc := 49) dX9_ship_49 rfl 0 rfl ?_
          refine wk_iload_n (pc := 50) dX9_ship_50 rfl 1 rfl ?_
          refine wk_iload_n (pc := 51) dX9_ship_51 rfl 2 rfl ?_
          refine wk_iload_n (pc := 52) dX9_ship_52 rfl 3 rfl ?_
          obtain ⟨r53, s53, hc53, hf⟩ := xbind_some hf
          refine wk_callVI (pc := 53) (As := [.int p1, .int p2, .int p3]) (rest := []) (kX9_shipComes l hG  hc53) cw_X9_212 (by decide) dX9_ship_53 (nm_0 hG).2 (nm_0 hG).1 rfl rfl rfl (Nat.le_of_ble_eq_true rfl) ?_
          exact wk_iret (pc := 56) dX9_ship_56 rfl (xI_of hf)
        · refine wk_aload_n (pc := 40) dX9_ship_40 rfl 0 rfl ?_
          refine wk_ldc (pc := 41) (v := (-1000000004 : Int32)) dX9_ship_41 qK_X9_85 ?_
          obtain ⟨r43, s43, hc43, hf⟩ := xbind_some hf
          refine wk_callVI (pc := 43) (As := [.int (-1000000004 : Int32)]) (rest := []) (kX9_finding l hG  hc43) cw_X9_82 (by decide) dX9_ship_43 (nm_0 hG).2 (nm_0 hG).1 rfl rfl rfl (Nat.le_of_ble_eq_true rfl) ?_
          refine wk_goto (pc := 46) (tgt := 56) dX9_ship_46 rfl ?_
          exact wk_iret (pc := 56) dX9_ship_56 rfl (xI_of hf)
      · exact wk_lv [0] rfl (J22    s16 hf)
noncomputable def sX9_above (p0 : Int32) (s : xS) : Option (Int32 × xS) := xlet ((if p0 = 0 then (-1 : Int32) else (if p0 = (4 : Int32) then (1 : Int32) else (if p0 = (5 : Int32) then (2 : Int32) else (if p0 = (6 : Int32) then (3 : Int32) else (0 : Int32)))))) (fun y37d => some (y37d, s))
set_option maxHeartbeats 4000000 in
set_option maxRecDepth 100000 in
theorem kX9_above (l : Launch) {G : xG} (hG : xM1 G)  {p0 : Int32}  {s : xS} {r : Int32} {s' : xS} (hf : sX9_above p0 s = some (r, s')) : xMet l G 2 yX9_above cX9_above 1 (some .int) [.int p0] s (xI r s') := by
  refine xMet.of (by decide) (Nat.le_of_ble_eq_true rfl) ?_
  show wk l G 2 RX9 cX9_above 1 (some .int) (xI r s') 0 [(0, .int p0)] [] s
  unfold sX9_above at hf
  refine wk_iload_n (pc := 0) dX9_above_0 rfl 0 rfl ?_
  obtain ⟨y37d, hy37d, hf⟩ := xlet_some hf
  have K37 : wk l G 2 RX9 cX9_above 1 (some .int) (xI r s') 37 [(0, .int p0)] [.int y37d] s := by
    exact wk_iret (pc := 37) dX9_above_37 rfl (xI_of hf)
  by_cases c1 : p0 = 0
  · rw [if_pos c1] at hy37d
    refine wk_if_ne_p (pc := 1) (tgt := 8) dX9_above_1 rfl c1 ?_
    refine wk_iconst (pc := 4) (v := (-1 : Int32)) dX9_above_4 (by decide) ?_
    refine wk_goto (pc := 5) (tgt := 37) dX9_above_5 rfl ?_
    exact wk_top hy37d K37
  · rw [if_neg c1] at hy37d
    refine wk_if_ne_m (pc := 1) (tgt := 8) dX9_above_1 rfl c1 ?_
    refine wk_iload_n (pc := 8) dX9_above_8 rfl 0 rfl ?_
    refine wk_iconst (pc := 9) (v := (4 : Int32)) dX9_above_9 (by decide) ?_
    by_cases c10 : p0 = (4 : Int32)
    · rw [if_pos c10] at hy37d
      refine wk_icmp_ne_p (pc := 10) (tgt := 17) dX9_above_10 rfl c10 ?_
      refine wk_iconst (pc := 13) (v := (1 : Int32)) dX9_above_13 (by decide) ?_
      refine wk_goto (pc := 14) (tgt := 37) dX9_above_14 rfl ?_
      exact wk_top hy37d K37
    · rw [if_neg c10] at hy37d
      refine wk_icmp_ne_m (pc := 10) (tgt := 17) dX9_above_10 rfl c10 ?_
      refine wk_iload_n (pc := 17) dX9_above_17 rfl 0 rfl ?_
      refine wk_iconst (pc := 18) (v := (5 : Int32)) dX9_above_18 (by decide) ?_
      by_cases c19 : p0 = (5 : Int32)
      · rw [if_pos c19] at hy37d
        refine wk_icmp_ne_p (pc := 19) (tgt := 26) dX9_above_19 rfl c19 ?_
        refine wk_iconst (pc := 22) (v := (2 : Int32)) dX9_above_22 (by decide) ?_
        refine wk_goto (pc := 23) (tgt := 37) dX9_above_23 rfl ?_
        exact wk_top hy37d K37
      · rw [if_neg c19] at hy37d
        refine wk_icmp_ne_m (pc := 19) (tgt := 26) dX9_above_19 rfl c19 ?_
        refine wk_iload_n (pc := 26) dX9_above_26 rfl 0 rfl ?_
        refine wk_bipush (pc := 27) (v := (6 : Int32)) dX9_above_27 (by decide) ?_
        by_cases c29 : p0 = (6 : Int32)
        · rw [if_pos c29] at hy37d
          refine wk_icmp_ne_p (pc := 29) (tgt := 36) dX9_above_29 rfl c29 ?_
          refine wk_iconst (pc := 32) (v := (3 : Int32)) dX9_above_32 (by decide) ?_
          refine wk_goto (pc := 33) (tgt := 37) dX9_above_33 rfl ?_
          exact wk_top hy37d K37
        · rw [if_neg c29] at hy37d
          refine wk_icmp_ne_m (pc := 29) (tgt := 36) dX9_above_29 rfl c29 ?_
          refine wk_iconst (pc := 36) (v := (0 : Int32)) dX9_above_36 (by decide) ?_
          exact wk_top hy37d K37
noncomputable def sX9_isUnder_L19 (a2_2 : Int32)  (s19 : xS) : Option (Int32 × xS) := xlet ((if a2_2 < 0 then (0 : Int32) else (1 : Int32))) (fun y28d => (if y28d = 0 ∨ y28d = 1 then some (y28d, s19) else none))
noncomputable def sX9_isUnder_L2 (p1 : Int32) (self2 : Int32 → xS → Option (Int32 × xS)) : Int32 → xS → Option (Int32 × xS) := fun a2_2 s2 => (if a2_2 < 0 then (sX9_isUnder_L19 a2_2)  s2 else (if a2_2 = p1 then (sX9_isUnder_L19 a2_2)  s2 else xbind (sX9_above a2_2 s2) (fun r12 s12 => self2 r12 s12)))
noncomputable def sX9_isUnder (p0 : Int32) (p1 : Int32) (s : xS) : Option (Int32 × xS) := xloop (sX9_isUnder_L2 p1) xF p0 s
set_option maxHeartbeats 4000000 in
set_option maxRecDepth 100000 in
theorem kX9_isUnder (l : Launch) {G : xG} (hG : xM1 G)  {p0 : Int32} {p1 : Int32}  {s : xS} {r : Int32} {s' : xS} (hf : sX9_isUnder p0 p1 s = some (r, s')) : xMet l G 3 yX9_isUnder cX9_isUnder 3 (some .boolean) [.int p0, .int p1] s (xI r s') := by
  refine xMet.of (by decide) (Nat.le_of_ble_eq_true rfl) ?_
  show wk l G 3 RX9 cX9_isUnder 3 (some .boolean) (xI r s') 0 [(0, .int p0), (1, .int p1)] [] s
  unfold sX9_isUnder at hf
  have J19 : ∀ (a2_2 : Int32)    (s19 : xS), (sX9_isUnder_L19 a2_2)  s19 = some (r, s') → wk l G 3 RX9 cX9_isUnder 3 (some .boolean) (xI r s') 19 [(2, .int a2_2)] [] s19 := by
    intro a2_2 s19 hf
    unfold sX9_isUnder_L19 at hf
    refine wk_iload_n (pc := 19) dX9_isUnder_19 rfl 0 rfl ?_
    obtain ⟨y28d, hy28d, hf⟩ := xlet_some hf
    have K28 : wk l G 3 RX9 cX9_isUnder 3 (some .boolean) (xI r s') 28 [(2, .int a2_2)] [.int y28d] s19 := by
      obtain ⟨h28, hf⟩ := xif_some hf
      exact wk_zret (pc := 28) dX9_isUnder_28 rfl (x01n h28) (xI_of hf)
    by_cases c20 : a2_2 < 0
    · rw [if_pos c20] at hy28d
      refine wk_if_lt_p (pc := 20) (tgt := 27) dX9_isUnder_20 rfl c20 ?_
      refine wk_iconst (pc := 27) (v := (0 : Int32)) dX9_isUnder_27 (by decide) ?_
      exact wk_top hy28d K28
    · rw [if_neg c20] at hy28d
      refine wk_if_lt_m (pc := 20) (tgt := 27) dX9_isUnder_20 rfl c20 ?_
      refine wk_iconst (pc := 23) (v := (1 : Int32)) dX9_isUnder_23 (by decide) ?_
      refine wk_goto (pc := 24) (tgt := 28) dX9_isUnder_24 rfl ?_
      exact wk_top hy28d K28
  have J2 : ∀   (N : Nat) (a2_2 : Int32)  (s2 : xS), xloop (sX9_isUnder_L2 p1) N a2_2 s2 = some (r, s') → wk l G 3 RX9 cX9_isUnder 3 (some .boolean) (xI r s') 2 [(1, .int p1), (2, .int a2_2)] [] s2 := by
    intro N
    induction N with
    | zero => intro a2_2 s2 hf; exact (xloop_0 hf).elim
    | succ N ih2 =>
      intro a2_2 s2 hf
      rw [xloop_s] at hf
      generalize xloop (sX9_isUnder_L2 p1) N = self2 at hf ih2
      unfold sX9_isUnder_L2 at hf
      refine wk_iload_n (pc := 2) dX9_isUnder_2 rfl 1 rfl ?_
      refine wk_if_lt (pc := 3) (tgt := 19) dX9_isUnder_3 rfl hf (fun hf => ?_) (fun hf => ?_)
      · exact wk_lv [1] rfl (J19 a2_2   s2 hf)
      · refine wk_iload_n (pc := 6) dX9_isUnder_6 rfl 1 rfl ?_
        refine wk_iload_n (pc := 7) dX9_isUnder_7 rfl 0 rfl ?_
        refine wk_icmp_eq (pc := 8) (tgt := 19) dX9_isUnder_8 rfl hf (fun hf => ?_) (fun hf => ?_)
        · exact wk_lv [1] rfl (J19 a2_2   s2 hf)
        · refine wk_iload_n (pc := 11) dX9_isUnder_11 rfl 1 rfl ?_
          obtain ⟨r12, s12, hc12, hf⟩ := xbind_some hf
          refine wk_callSI (pc := 12) (As := [.int a2_2]) (rest := []) (kX9_above l hG  hc12) cw_X9_215 (by decide) dX9_isUnder_12 rfl (Nat.le_of_ble_eq_true rfl) ?_
          refine wk_istore_n (pc := 15) (lv' := [(2, .int r12), (1, .int p1)]) dX9_isUnder_15 rfl (by decide) rfl ?_
          refine wk_goto (pc := 16) (tgt := 2) dX9_isUnder_16 rfl ?_
          exact wk_lv [1, 0] rfl (ih2 r12  s12 hf)
  refine wk_iload_n (pc := 0) dX9_isUnder_0 rfl 0 rfl ?_
  refine wk_istore_n (pc := 1) (lv' := [(2, .int p0), (0, .int p0), (1, .int p1)]) dX9_isUnder_1 rfl (by decide) rfl ?_
  exact wk_lv [2, 0] rfl (J2  xF p0  s hf)
noncomputable def sX9_believes (p1 : Int32) (p2 : Int32) (s : xS) : Option (Int32 × xS) := xbind (sX9_shown p2 (s 1 4) s) (fun r8 s8 => xbind (sX9_shipIs p1 (1 : Int32) s8) (fun r15 s15 => xbind (sX9_shipIs p1 (0 : Int32) s15) (fun r23 s23 => (if r23 = 1 then some ((r8 + (r15 - r15 / (3 : Int32) * (3 : Int32))), s23) else (if r23 = 2 then xbind (sX9_trueDepth p2 s23) (fun r82 s82 => some (r82, s82)) else (if r23 = 3 then xbind (sX9_trueDepth p2 s23) (fun r99 s99 => some ((if r99 < r8 then r99 else r8), s99)) else (if r23 = 4 then some (((r8 + (r15 - r15 / (3 : Int32) * (3 : Int32))) - (1 : Int32)), s23) else (if r23 = 5 then xbind (sX9_trueDepth p2 s23) (fun r88 s88 => some ((if r88 < r8 then r8 else r88), s88)) else (if r23 = 6 then xbind (sX9_shown p2 ((2 : Int32) * (s23 1 4)) s23) (fun r116 s116 => xbind (sX9_trueDepth p2 s116) (fun r121 s121 => some ((if r121 < r116 then r121 else r116), s121))) else some (r8, s23))))))))))
set_option maxHeartbeats 4000000 in
set_option maxRecDepth 100000 in
theorem kX9_believes (l : Launch) {G : xG} (hG : xM1 G)  {p1 : Int32} {p2 : Int32}  {s : xS} {r : Int32} {s' : xS} (hf : sX9_believes p1 p2 s = some (r, s')) : xMet l G 8 yX9_believes cX9_believes 5 (some .int) [.ref (gA G 0), .int p1, .int p2] s (xI r s') := by
  refine xMet.of (by decide) (Nat.le_of_ble_eq_true rfl) ?_
  show wk l G 8 RX9 cX9_believes 5 (some .int) (xI r s') 0 [(0, .ref (gA G 0)), (1, .int p1), (2, .int p2)] [] s
  unfold sX9_believes at hf
  refine wk_aload_n (pc := 0) dX9_believes_0 rfl 0 rfl ?_
  refine wk_iload_n (pc := 1) dX9_believes_1 rfl 2 rfl ?_
  refine wk_aload_n (pc := 2) dX9_believes_2 rfl 0 rfl ?_
  refine wk_getR (C := RX9) (T := TX9) (N := 24) (pc := 3) dX9_believes_3 (nm_0 hG).2 (nm_0 hG).1 rfl qU_X9 0 (by decide) qF_X9_9 rfl ?_
  refine wk_iconst (pc := 6) (v := (4 : Int32)) dX9_believes_6 (by decide) ?_
  refine wk_iald (pc := 7) (jj := 4) dX9_believes_7 (nm_1 hG).2 (nm_1 hG).1 (by decide) (by decide) ?_
  obtain ⟨r8, s8, hc8, hf⟩ := xbind_some hf
  refine wk_callVI (pc := 8) (As := [.int p2, .int (s 1 4)]) (rest := []) (kX9_shown l hG  hc8) cw_X9_197 (by decide) dX9_believes_8 (nm_0 hG).2 (nm_0 hG).1 rfl rfl rfl (Nat.le_of_ble_eq_true rfl) ?_
  refine wk_istore_n (pc := 11) (lv' := [(3, .int r8), (0, .ref (gA G 0)), (1, .int p1), (2, .int p2)]) dX9_believes_11 rfl (by decide) rfl ?_
  refine wk_aload_n (pc := 12) dX9_believes_12 rfl 1 rfl ?_
  refine wk_iload_n (pc := 13) dX9_believes_13 rfl 2 rfl ?_
  refine wk_iconst (pc := 14) (v := (1 : Int32)) dX9_believes_14 (by decide) ?_
  obtain ⟨r15, s15, hc15, hf⟩ := xbind_some hf
  refine wk_callVI (pc := 15) (As := [.int p1, .int (1 : Int32)]) (rest := []) (kX9_shipIs l hG  hc15) cw_X9_191 (by decide) dX9_believes_15 (nm_0 hG).2 (nm_0 hG).1 rfl rfl rfl (Nat.le_of_ble_eq_true rfl) ?_
  refine wk_istore (pc := 18) (lv' := [(4, .int r15), (3, .int r8), (0, .ref (gA G 0)), (1, .int p1), (2, .int p2)]) dX9_believes_18 (by decide) rfl ?_
  refine wk_aload_n (pc := 20) dX9_believes_20 rfl 2 rfl ?_
  refine wk_iload_n (pc := 21) dX9_believes_21 rfl 3 rfl ?_
  refine wk_iconst (pc := 22) (v := (0 : Int32)) dX9_believes_22 (by decide) ?_
  obtain ⟨r23, s23, hc23, hf⟩ := xbind_some hf
  refine wk_callVI (pc := 23) (As := [.int p1, .int (0 : Int32)]) (rest := []) (kX9_shipIs l hG  hc23) cw_X9_191 (by decide) dX9_believes_23 (nm_0 hG).2 (nm_0 hG).1 rfl rfl rfl (Nat.le_of_ble_eq_true rfl) ?_
  by_cases e0 : r23 = 1
  · rw [if_pos e0] at hf
    refine wk_tableIn (pc := 26) (off := 38) (tgt := 64) dX9_believes_26 (1 : Int32) e0 (by decide) (by decide) (by decide) rfl ?_
    refine wk_iload_n (pc := 64) dX9_believes_64 rfl 1 rfl ?_
    refine wk_iload (pc := 65) dX9_believes_65 0 rfl ?_
    refine wk_iconst (pc := 67) (v := (3 : Int32)) dX9_believes_67 (by decide) ?_
    refine wk_irem (pc := 68) dX9_believes_68 (by decide) ?_
    refine wk_iadd (pc := 69) dX9_believes_69 ?_
    exact wk_iret (pc := 70) dX9_believes_70 rfl (xI_of hf)
  · rw [if_neg e0] at hf
    by_cases e1 : r23 = 2
    · rw [if_pos e1] at hf
      refine wk_tableIn (pc := 26) (off := 54) (tgt := 80) dX9_believes_26 (2 : Int32) e1 (by decide) (by decide) (by decide) rfl ?_
      refine wk_aload_n (pc := 80) dX9_believes_80 rfl 2 rfl ?_
      refine wk_iload_n (pc := 81) dX9_believes_81 rfl 4 rfl ?_
      obtain ⟨r82, s82, hc82, hf⟩ := xbind_some hf
      refine wk_callVI (pc := 82) (As := [.int p2]) (rest := []) (kX9_trueDepth l hG  hc82) cw_X9_194 (by decide) dX9_believes_82 (nm_0 hG).2 (nm_0 hG).1 rfl rfl rfl (Nat.le_of_ble_eq_true rfl) ?_
      exact wk_iret (pc := 85) dX9_believes_85 rfl (xI_of hf)
    · rw [if_neg e1] at hf
      by_cases e2 : r23 = 3
      · rw [if_pos e2] at hf
        refine wk_tableIn (pc := 26) (off := 70) (tgt := 96) dX9_believes_26 (3 : Int32) e2 (by decide) (by decide) (by decide) rfl ?_
        refine wk_iload_n (pc := 96) dX9_believes_96 rfl 1 rfl ?_
        refine wk_aload_n (pc := 97) dX9_believes_97 rfl 2 rfl ?_
        refine wk_iload_n (pc := 98) dX9_believes_98 rfl 4 rfl ?_
        obtain ⟨r99, s99, hc99, hf⟩ := xbind_some hf
        refine wk_callVI (pc := 99) (As := [.int p2]) (rest := [.int r8]) (kX9_trueDepth l hG  hc99) cw_X9_194 (by decide) dX9_believes_99 (nm_0 hG).2 (nm_0 hG).1 rfl rfl rfl (Nat.le_of_ble_eq_true rfl) ?_
        refine wk_mmin (pc := 102) dX9_believes_102 qM_X9_64 qS_Mmin qJ_Math qC_Mmin (by decide) (Nat.le_of_ble_eq_true rfl) ?_
        exact wk_iret (pc := 105) dX9_believes_105 rfl (xI_of hf)
      · rw [if_neg e2] at hf
        by_cases e3 : r23 = 4
        · rw [if_pos e3] at hf
          refine wk_tableIn (pc := 26) (off := 45) (tgt := 71) dX9_believes_26 (4 : Int32) e3 (by decide) (by decide) (by decide) rfl ?_
          refine wk_iload_n (pc := 71) dX9_believes_71 rfl 1 rfl ?_
          refine wk_iload (pc := 72) dX9_believes_72 0 rfl ?_
          refine wk_iconst (pc := 74) (v := (3 : Int32)) dX9_believes_74 (by decide) ?_
          refine wk_irem (pc := 75) dX9_believes_75 (by decide) ?_
          refine wk_iadd (pc := 76) dX9_believes_76 ?_
          refine wk_iconst (pc := 77) (v := (1 : Int32)) dX9_believes_77 (by decide) ?_
          refine wk_isub (pc := 78) dX9_believes_78 ?_
          exact wk_iret (pc := 79) dX9_believes_79 rfl (xI_of hf)
        · rw [if_neg e3] at hf
          by_cases e4 : r23 = 5
          · rw [if_pos e4] at hf
            refine wk_tableIn (pc := 26) (off := 60) (tgt := 86) dX9_believes_26 (5 : Int32) e4 (by decide) (by decide) (by decide) rfl ?_
            refine wk_aload_n (pc := 86) dX9_believes_86 rfl 2 rfl ?_
            refine wk_iload_n (pc := 87) dX9_believes_87 rfl 4 rfl ?_
            obtain ⟨r88, s88, hc88, hf⟩ := xbind_some hf
            refine wk_callVI (pc := 88) (As := [.int p2]) (rest := []) (kX9_trueDepth l hG  hc88) cw_X9_194 (by decide) dX9_believes_88 (nm_0 hG).2 (nm_0 hG).1 rfl rfl rfl (Nat.le_of_ble_eq_true rfl) ?_
            refine wk_iload_n (pc := 91) dX9_believes_91 rfl 1 rfl ?_
            refine wk_mmax (pc := 92) dX9_believes_92 qM_X9_70 qS_Mmax qJ_Math qC_Mmax (by decide) (Nat.le_of_ble_eq_true rfl) ?_
            exact wk_iret (pc := 95) dX9_believes_95 rfl (xI_of hf)
          · rw [if_neg e4] at hf
            by_cases e5 : r23 = 6
            · rw [if_pos e5] at hf
              refine wk_tableIn (pc := 26) (off := 80) (tgt := 106) dX9_believes_26 (6 : Int32) e5 (by decide) (by decide) (by decide) rfl ?_
              refine wk_aload_n (pc := 106) dX9_believes_106 rfl 2 rfl ?_
              refine wk_iload_n (pc := 107) dX9_believes_107 rfl 4 rfl ?_
              refine wk_iconst (pc := 108) (v := (2 : Int32)) dX9_believes_108 (by decide) ?_
              refine wk_aload_n (pc := 109) dX9_believes_109 rfl 2 rfl ?_
              refine wk_getR (C := RX9) (T := TX9) (N := 24) (pc := 110) dX9_believes_110 (nm_0 hG).2 (nm_0 hG).1 rfl qU_X9 0 (by decide) qF_X9_9 rfl ?_
              refine wk_iconst (pc := 113) (v := (4 : Int32)) dX9_believes_113 (by decide) ?_
              refine wk_iald (pc := 114) (jj := 4) dX9_believes_114 (nm_1 hG).2 (nm_1 hG).1 (by decide) (by decide) ?_
              refine wk_imul (pc := 115) dX9_believes_115 ?_
              obtain ⟨r116, s116, hc116, hf⟩ := xbind_some hf
              refine wk_callVI (pc := 116) (As := [.int p2, .int ((2 : Int32) * (s23 1 4))]) (rest := []) (kX9_shown l hG  hc116) cw_X9_197 (by decide) dX9_believes_116 (nm_0 hG).2 (nm_0 hG).1 rfl rfl rfl (Nat.le_of_ble_eq_true rfl) ?_
              refine wk_aload_n (pc := 119) dX9_believes_119 rfl 2 rfl ?_
              refine wk_iload_n (pc := 120) dX9_believes_120 rfl 4 rfl ?_
              obtain ⟨r121, s121, hc121, hf⟩ := xbind_some hf
              refine wk_callVI (pc := 121) (As := [.int p2]) (rest := [.int r116]) (kX9_trueDepth l hG  hc121) cw_X9_194 (by decide) dX9_believes_121 (nm_0 hG).2 (nm_0 hG).1 rfl rfl rfl (Nat.le_of_ble_eq_true rfl) ?_
              refine wk_mmin (pc := 124) dX9_believes_124 qM_X9_64 qS_Mmin qJ_Math qC_Mmin (by decide) (Nat.le_of_ble_eq_true rfl) ?_
              exact wk_iret (pc := 127) dX9_believes_127 rfl (xI_of hf)
            · rw [if_neg e5] at hf
              have g0 : ¬ r23.toInt = 1 := fun q => e0 (Int32.toInt_inj.mp (q.trans (by decide)))
              have g1 : ¬ r23.toInt = 2 := fun q => e1 (Int32.toInt_inj.mp (q.trans (by decide)))
              have g2 : ¬ r23.toInt = 3 := fun q => e2 (Int32.toInt_inj.mp (q.trans (by decide)))
              have g3 : ¬ r23.toInt = 4 := fun q => e3 (Int32.toInt_inj.mp (q.trans (by decide)))
              have g4 : ¬ r23.toInt = 5 := fun q => e4 (Int32.toInt_inj.mp (q.trans (by decide)))
              have g5 : ¬ r23.toInt = 6 := fun q => e5 (Int32.toInt_inj.mp (q.trans (by decide)))
              refine wk_tableOut (pc := 26) (tgt := 128) dX9_believes_26 (by omega) rfl ?_
              refine wk_iload_n (pc := 128) dX9_believes_128 rfl 1 rfl ?_
              exact wk_iret (pc := 129) dX9_believes_129 rfl (xI_of hf)
noncomputable def sX9_ofShip_L17   (s17 : xS) : Option (Int32 × xS) := xbind (sX9_finding (-1000000001 : Int32) s17) (fun r20 s20 => some (r20, s20))
noncomputable def sX9_ofShip (p1 : Int32) (p2 : Int32) (s : xS) : Option (Int32 × xS) := xbind (sX9_isShip p1 s) (fun r2 s2 => (if r2 = 0 then sX9_ofShip_L17  s2 else xbind (sX9_within p2 (0 : Int32) (5 : Int32) s2) (fun r11 s11 => (if r11 = 0 then sX9_ofShip_L17  s11 else xbind (sX9_shipIs p1 (3 : Int32) s11) (fun r27 s27 => (if (5 : Int32) ≤ p2 then (if r27 = 0 then some ((-1 : Int32), s27) else xbind (sX9_believes p1 (r27 - (1 : Int32)) s27) (fun r58 s58 => some (r58, s58))) else xbind (sX9_shipIs p1 p2 s27) (fun r39 s39 => some (r39, s39))))))))
set_option maxHeartbeats 4000000 in
set_option maxRecDepth 100000 in
theorem kX9_ofShip (l : Launch) {G : xG} (hG : xM1 G)  {p1 : Int32} {p2 : Int32}  {s : xS} {r : Int32} {s' : xS} (hf : sX9_ofShip p1 p2 s = some (r, s')) : xMet l G 9 yX9_ofShip cX9_ofShip 4 (some .int) [.ref (gA G 0), .int p1, .int p2] s (xI r s') := by
  refine xMet.of (by decide) (Nat.le_of_ble_eq_true rfl) ?_
  show wk l G 9 RX9 cX9_ofShip 4 (some .int) (xI r s') 0 [(0, .ref (gA G 0)), (1, .int p1), (2, .int p2)] [] s
  unfold sX9_ofShip at hf
  have J17 : ∀     (s17 : xS), sX9_ofShip_L17  s17 = some (r, s') → wk l G 9 RX9 cX9_ofShip 4 (some .int) (xI r s') 17 [(0, .ref (gA G 0))] [] s17 := by
    intro s17 hf
    unfold sX9_ofShip_L17 at hf
    refine wk_aload_n (pc := 17) dX9_ofShip_17 rfl 0 rfl ?_
    refine wk_ldc (pc := 18) (v := (-1000000001 : Int32)) dX9_ofShip_18 qK_X9_81 ?_
    obtain ⟨r20, s20, hc20, hf⟩ := xbind_some hf
    refine wk_callVI (pc := 20) (As := [.int (-1000000001 : Int32)]) (rest := []) (kX9_finding l hG  hc20) cw_X9_82 (by decide) dX9_ofShip_20 (nm_0 hG).2 (nm_0 hG).1 rfl rfl rfl (Nat.le_of_ble_eq_true rfl) ?_
    exact wk_iret (pc := 23) dX9_ofShip_23 rfl (xI_of hf)
  refine wk_aload_n (pc := 0) dX9_ofShip_0 rfl 0 rfl ?_
  refine wk_iload_n (pc := 1) dX9_ofShip_1 rfl 1 rfl ?_
  obtain ⟨r2, s2, hc2, hf⟩ := xbind_some hf
  refine wk_callVI (pc := 2) (As := [.int p1]) (rest := []) (kX9_isShip l hG  hc2) cw_X9_218 (by decide) dX9_ofShip_2 (nm_0 hG).2 (nm_0 hG).1 rfl rfl rfl (Nat.le_of_ble_eq_true rfl) ?_
  refine wk_if_eq (pc := 5) (tgt := 17) dX9_ofShip_5 rfl hf (fun hf => ?_) (fun hf => ?_)
  · exact wk_lv [0] rfl (J17    s2 hf)
  · refine wk_iload_n (pc := 8) dX9_ofShip_8 rfl 2 rfl ?_
    refine wk_iconst (pc := 9) (v := (0 : Int32)) dX9_ofShip_9 (by decide) ?_
    refine wk_iconst (pc := 10) (v := (5 : Int32)) dX9_ofShip_10 (by decide) ?_
    obtain ⟨r11, s11, hc11, hf⟩ := xbind_some hf
    refine wk_callSI (pc := 11) (As := [.int p2, .int (0 : Int32), .int (5 : Int32)]) (rest := []) (kX9_within l hG  hc11) cw_X9_77 (by decide) dX9_ofShip_11 rfl (Nat.le_of_ble_eq_true rfl) ?_
    refine wk_if_ne (pc := 14) (tgt := 24) dX9_ofShip_14 rfl hf (fun hf => ?_) (fun hf => ?_)
    · refine wk_aload_n (pc := 24) dX9_ofShip_24 rfl 0 rfl ?_
      refine wk_iload_n (pc := 25) dX9_ofShip_25 rfl 1 rfl ?_
      refine wk_iconst (pc := 26) (v := (3 : Int32)) dX9_ofShip_26 (by decide) ?_
      obtain ⟨r27, s27, hc27, hf⟩ := xbind_some hf
      refine wk_callVI (pc := 27) (As := [.int p1, .int (3 : Int32)]) (rest := []) (kX9_shipIs l hG  hc27) cw_X9_191 (by decide) dX9_ofShip_27 (nm_0 hG).2 (nm_0 hG).1 rfl rfl rfl (Nat.le_of_ble_eq_true rfl) ?_
      refine wk_istore_n (pc := 30) (lv' := [(3, .int r27), (0, .ref (gA G 0)), (1, .int p1), (2, .int p2)]) dX9_ofShip_30 rfl (by decide) rfl ?_
      refine wk_iload_n (pc := 31) dX9_ofShip_31 rfl 3 rfl ?_
      refine wk_iconst (pc := 32) (v := (5 : Int32)) dX9_ofShip_32 (by decide) ?_
      refine wk_icmp_ge (pc := 33) (tgt := 45) dX9_ofShip_33 rfl hf (fun hf => ?_) (fun hf => ?_)
      · refine wk_iload_n (pc := 45) dX9_ofShip_45 rfl 0 rfl ?_
        refine wk_if_ne (pc := 46) (tgt := 53) dX9_ofShip_46 rfl hf (fun hf => ?_) (fun hf => ?_)
        · refine wk_aload_n (pc := 53) dX9_ofShip_53 rfl 1 rfl ?_
          refine wk_iload_n (pc := 54) dX9_ofShip_54 rfl 2 rfl ?_
          refine wk_iload_n (pc := 55) dX9_ofShip_55 rfl 0 rfl ?_
          refine wk_iconst (pc := 56) (v := (1 : Int32)) dX9_ofShip_56 (by decide) ?_
          refine wk_isub (pc := 57) dX9_ofShip_57 ?_
          obtain ⟨r58, s58, hc58, hf⟩ := xbind_some hf
          refine wk_callVI (pc := 58) (As := [.int p1, .int (r27 - (1 : Int32))]) (rest := []) (kX9_believes l hG  hc58) cw_X9_221 (by decide) dX9_ofShip_58 (nm_0 hG).2 (nm_0 hG).1 rfl rfl rfl (Nat.le_of_ble_eq_true rfl) ?_
          exact wk_iret (pc := 61) dX9_ofShip_61 rfl (xI_of hf)
        · refine wk_iconst (pc := 49) (v := (-1 : Int32)) dX9_ofShip_49 (by decide) ?_
          refine wk_goto (pc := 50) (tgt := 61) dX9_ofShip_50 rfl ?_
          exact wk_iret (pc := 61) dX9_ofShip_61 rfl (xI_of hf)
      · refine wk_aload_n (pc := 36) dX9_ofShip_36 rfl 1 rfl ?_
        refine wk_iload_n (pc := 37) dX9_ofShip_37 rfl 2 rfl ?_
        refine wk_iload_n (pc := 38) dX9_ofShip_38 rfl 3 rfl ?_
        obtain ⟨r39, s39, hc39, hf⟩ := xbind_some hf
        refine wk_callVI (pc := 39) (As := [.int p1, .int p2]) (rest := []) (kX9_shipIs l hG  hc39) cw_X9_191 (by decide) dX9_ofShip_39 (nm_0 hG).2 (nm_0 hG).1 rfl rfl rfl (Nat.le_of_ble_eq_true rfl) ?_
        refine wk_goto (pc := 42) (tgt := 61) dX9_ofShip_42 rfl ?_
        exact wk_iret (pc := 61) dX9_ofShip_61 rfl (xI_of hf)
    · exact wk_lv [0] rfl (J17    s11 hf)
noncomputable def sX9_change_L73   (s73 : xS) : Option (Int32 × xS) := xbind (sX9_finding (-1000000001 : Int32) s73) (fun r76 s76 => some (r76, s76))
noncomputable def sX9_change_L43 (p1 : Int32) (p2 : Int32) (p3 : Int32) (t0_43 : Int32) (s43 : xS) : Option (Int32 × xS) := xbind (sX9_isShip p1 s43) (fun r47 s47 => (if r47 = 0 then sX9_change_L73  s47 else (if t0_43 = 0 then sX9_change_L73  s47 else xbind (sX9_shipAt p1 ((2 : Int32) + p2) s47) (fun r63 s63 => xbind (sX9_turn r63 p3 s63) (fun r67 s67 => some (r67, s67))))))
noncomputable def sX9_change (p1 : Int32) (p2 : Int32) (p3 : Int32) (s : xS) : Option (Int32 × xS) := (if p2 = 0 then xbind (sX9_isDigit p3 s) (fun r5 s5 => (sX9_change_L43 p1 p2 p3) r5 s5) else (if p2 = (1 : Int32) then xbind (sX9_isCell p3 s) (fun r18 s18 => (sX9_change_L43 p1 p2 p3) r18 s18) else (if p2 = (2 : Int32) then xbind (sX9_within p3 (0 : Int32) (1 : Int32) s) (fun r32 s32 => (if r32 = 0 then (sX9_change_L43 p1 p2 p3) (0 : Int32) s32 else (sX9_change_L43 p1 p2 p3) (1 : Int32) s32)) else (sX9_change_L43 p1 p2 p3) (0 : Int32) s)))
set_option maxHeartbeats 4000000 in
set_option maxRecDepth 100000 in
theorem kX9_change (l : Launch) {G : xG} (hG : xM1 G)  {p1 : Int32} {p2 : Int32} {p3 : Int32}  {s : xS} {r : Int32} {s' : xS} (hf : sX9_change p1 p2 p3 s = some (r, s')) : xMet l G 4 yX9_change cX9_change 5 (some .int) [.ref (gA G 0), .int p1, .int p2, .int p3] s (xI r s') := by
  refine xMet.of (by decide) (Nat.le_of_ble_eq_true rfl) ?_
  show wk l G 4 RX9 cX9_change 5 (some .int) (xI r s') 0 [(0, .ref (gA G 0)), (1, .int p1), (2, .int p2), (3, .int p3)] [] s
  unfold sX9_change at hf
  have J73 : ∀     (s73 : xS), sX9_change_L73  s73 = some (r, s') → wk l G 4 RX9 cX9_change 5 (some .int) (xI r s') 73 [(0, .ref (gA G 0))] [] s73 := by
    intro s73 hf
    unfold sX9_change_L73 at hf
    refine wk_aload_n (pc := 73) dX9_change_73 rfl 0 rfl ?_
    refine wk_ldc (pc := 74) (v := (-1000000001 : Int32)) dX9_change_74 qK_X9_81 ?_
    obtain ⟨r76, s76, hc76, hf⟩ := xbind_some hf
    refine wk_callVI (pc := 76) (As := [.int (-1000000001 : Int32)]) (rest := []) (kX9_finding l hG  hc76) cw_X9_82 (by decide) dX9_change_76 (nm_0 hG).2 (nm_0 hG).1 rfl rfl rfl (Nat.le_of_ble_eq_true rfl) ?_
    exact wk_iret (pc := 79) dX9_change_79 rfl (xI_of hf)
  have J43 : ∀   (t0_43 : Int32)  (s43 : xS), (sX9_change_L43 p1 p2 p3) t0_43 s43 = some (r, s') → wk l G 4 RX9 cX9_change 5 (some .int) (xI r s') 43 [(0, .ref (gA G 0)), (1, .int p1), (2, .int p2), (3, .int p3)] [.int t0_43] s43 := by
    intro t0_43 s43 hf
    unfold sX9_change_L43 at hf
    refine wk_istore (pc := 43) (lv' := [(4, .int t0_43), (0, .ref (gA G 0)), (1, .int p1), (2, .int p2), (3, .int p3)]) dX9_change_43 (by decide) rfl ?_
    refine wk_aload_n (pc := 45) dX9_change_45 rfl 1 rfl ?_
    refine wk_iload_n (pc := 46) dX9_change_46 rfl 2 rfl ?_
    obtain ⟨r47, s47, hc47, hf⟩ := xbind_some hf
    refine wk_callVI (pc := 47) (As := [.int p1]) (rest := []) (kX9_isShip l hG  hc47) cw_X9_218 (by decide) dX9_change_47 (nm_0 hG).2 (nm_0 hG).1 rfl rfl rfl (Nat.le_of_ble_eq_true rfl) ?_
    refine wk_if_eq (pc := 50) (tgt := 73) dX9_change_50 rfl hf (fun hf => ?_) (fun hf => ?_)
    · exact wk_lv [1] rfl (J73    s47 hf)
    · refine wk_iload (pc := 53) dX9_change_53 0 rfl ?_
      refine wk_if_eq (pc := 55) (tgt := 73) dX9_change_55 rfl hf (fun hf => ?_) (fun hf => ?_)
      · exact wk_lv [1] rfl (J73    s47 hf)
      · refine wk_aload_n (pc := 58) dX9_change_58 rfl 1 rfl ?_
        refine wk_iload_n (pc := 59) dX9_change_59 rfl 2 rfl ?_
        refine wk_iconst (pc := 60) (v := (2 : Int32)) dX9_change_60 (by decide) ?_
        refine wk_iload_n (pc := 61) dX9_change_61 rfl 3 rfl ?_
        refine wk_iadd (pc := 62) dX9_change_62 ?_
        obtain ⟨r63, s63, hc63, hf⟩ := xbind_some hf
        refine wk_callSI (pc := 63) (As := [.int p1, .int ((2 : Int32) + p2)]) (rest := [.ref (gA G 0)]) (kX9_shipAt l hG  hc63) cw_X9_168 (by decide) dX9_change_63 rfl (Nat.le_of_ble_eq_true rfl) ?_
        refine wk_iload_n (pc := 66) dX9_change_66 rfl 4 rfl ?_
        obtain ⟨r67, s67, hc67, hf⟩ := xbind_some hf
        refine wk_callVI (pc := 67) (As := [.int r63, .int p3]) (rest := []) (kX9_turn l hG  hc67) cw_X9_171 (by decide) dX9_change_67 (nm_0 hG).2 (nm_0 hG).1 rfl rfl rfl (Nat.le_of_ble_eq_true rfl) ?_
        refine wk_goto (pc := 70) (tgt := 79) dX9_change_70 rfl ?_
        exact wk_iret (pc := 79) dX9_change_79 rfl (xI_of hf)
  refine wk_iload_n (pc := 0) dX9_change_0 rfl 2 rfl ?_
  refine wk_if_ne (pc := 1) (tgt := 11) dX9_change_1 rfl hf (fun hf => ?_) (fun hf => ?_)
  · refine wk_iload_n (pc := 11) dX9_change_11 rfl 2 rfl ?_
    refine wk_iconst (pc := 12) (v := (1 : Int32)) dX9_change_12 (by decide) ?_
    refine wk_icmp_ne (pc := 13) (tgt := 24) dX9_change_13 rfl hf (fun hf => ?_) (fun hf => ?_)
    · refine wk_iload_n (pc := 24) dX9_change_24 rfl 2 rfl ?_
      refine wk_iconst (pc := 25) (v := (2 : Int32)) dX9_change_25 (by decide) ?_
      refine wk_icmp_ne (pc := 26) (tgt := 42) dX9_change_26 rfl hf (fun hf => ?_) (fun hf => ?_)
      · refine wk_iconst (pc := 42) (v := (0 : Int32)) dX9_change_42 (by decide) ?_
        exact wk_lv [0, 1, 2, 3] rfl (J43  (0 : Int32)  s hf)
      · refine wk_iload_n (pc := 29) dX9_change_29 rfl 3 rfl ?_
        refine wk_iconst (pc := 30) (v := (0 : Int32)) dX9_change_30 (by decide) ?_
        refine wk_iconst (pc := 31) (v := (1 : Int32)) dX9_change_31 (by decide) ?_
        obtain ⟨r32, s32, hc32, hf⟩ := xbind_some hf
        refine wk_callSI (pc := 32) (As := [.int p3, .int (0 : Int32), .int (1 : Int32)]) (rest := []) (kX9_within l hG  hc32) cw_X9_77 (by decide) dX9_change_32 rfl (Nat.le_of_ble_eq_true rfl) ?_
        refine wk_if_eq (pc := 35) (tgt := 42) dX9_change_35 rfl hf (fun hf => ?_) (fun hf => ?_)
        · refine wk_iconst (pc := 42) (v := (0 : Int32)) dX9_change_42 (by decide) ?_
          exact wk_lv [0, 1, 2, 3] rfl (J43  (0 : Int32)  s32 hf)
        · refine wk_iconst (pc := 38) (v := (1 : Int32)) dX9_change_38 (by decide) ?_
          refine wk_goto (pc := 39) (tgt := 43) dX9_change_39 rfl ?_
          exact wk_lv [0, 1, 2, 3] rfl (J43  (1 : Int32)  s32 hf)
    · refine wk_aload_n (pc := 16) dX9_change_16 rfl 0 rfl ?_
      refine wk_iload_n (pc := 17) dX9_change_17 rfl 3 rfl ?_
      obtain ⟨r18, s18, hc18, hf⟩ := xbind_some hf
      refine wk_callVI (pc := 18) (As := [.int p3]) (rest := []) (kX9_isCell l hG  hc18) cw_X9_175 (by decide) dX9_change_18 (nm_0 hG).2 (nm_0 hG).1 rfl rfl rfl (Nat.le_of_ble_eq_true rfl) ?_
      refine wk_goto (pc := 21) (tgt := 43) dX9_change_21 rfl ?_
      exact wk_lv [0, 1, 2, 3] rfl (J43  r18  s18 hf)
  · refine wk_iload_n (pc := 4) dX9_change_4 rfl 3 rfl ?_
    obtain ⟨r5, s5, hc5, hf⟩ := xbind_some hf
    refine wk_callSI (pc := 5) (As := [.int p3]) (rest := []) (kX9_isDigit l hG  hc5) cw_X9_209 (by decide) dX9_change_5 rfl (Nat.le_of_ble_eq_true rfl) ?_
    refine wk_goto (pc := 8) (tgt := 43) dX9_change_8 rfl ?_
    exact wk_lv [0, 1, 2, 3] rfl (J43  r5  s5 hf)
noncomputable def sX9_become_L15   (s15 : xS) : Option (Int32 × xS) := xbind (sX9_finding (-1000000001 : Int32) s15) (fun r18 s18 => some (r18, s18))
noncomputable def sX9_become (p1 : Int32) (p2 : Int32) (s : xS) : Option (Int32 × xS) := xbind (sX9_isShip p1 s) (fun r2 s2 => (if r2 = 0 then sX9_become_L15  s2 else xbind (sX9_isKindM p2 s2) (fun r9 s9 => (if r9 = 0 then sX9_become_L15  s9 else xbind (sX9_shipAt p1 (1 : Int32) s9) (fun r28 s28 => (if xin r28 242 then xlet (xup s28 1 (upd (s28 1) r28.toNatClampNeg (p2 - p2 / (10 : Int32) * (10 : Int32)))) (fun s35 => xbind (sX9_shipAt p1 (0 : Int32) s35) (fun r39 s39 => xbind (sX9_turn r39 (p2 / (10 : Int32)) s39) (fun r46 s46 => some (r46, s46)))) else none))))))
set_option maxHeartbeats 4000000 in
set_option maxRecDepth 100000 in
theorem kX9_become (l : Launch) {G : xG} (hG : xM1 G)  {p1 : Int32} {p2 : Int32}  {s : xS} {r : Int32} {s' : xS} (hf : sX9_become p1 p2 s = some (r, s')) : xMet l G 4 yX9_become cX9_become 3 (some .int) [.ref (gA G 0), .int p1, .int p2] s (xI r s') := by
  refine xMet.of (by decide) (Nat.le_of_ble_eq_true rfl) ?_
  show wk l G 4 RX9 cX9_become 3 (some .int) (xI r s') 0 [(0, .ref (gA G 0)), (1, .int p1), (2, .int p2)] [] s
  unfold sX9_become at hf
  have J15 : ∀     (s15 : xS), sX9_become_L15  s15 = some (r, s') → wk l G 4 RX9 cX9_become 3 (some .int) (xI r s') 15 [(0, .ref (gA G 0))] [] s15 := by
    intro s15 hf
    unfold sX9_become_L15 at hf
    refine wk_aload_n (pc := 15) dX9_become_15 rfl 0 rfl ?_
    refine wk_ldc (pc := 16) (v := (-1000000001 : Int32)) dX9_become_16 qK_X9_81 ?_
    obtain ⟨r18, s18, hc18, hf⟩ := xbind_some hf
    refine wk_callVI (pc := 18) (As := [.int (-1000000001 : Int32)]) (rest := []) (kX9_finding l hG  hc18) cw_X9_82 (by decide) dX9_become_18 (nm_0 hG).2 (nm_0 hG).1 rfl rfl rfl (Nat.le_of_ble_eq_true rfl) ?_
    exact wk_iret (pc := 21) dX9_become_21 rfl (xI_of hf)
  refine wk_aload_n (pc := 0) dX9_become_0 rfl 0 rfl ?_
  refine wk_iload_n (pc := 1) dX9_become_1 rfl 1 rfl ?_
  obtain ⟨r2, s2, hc2, hf⟩ := xbind_some hf
  refine wk_callVI (pc := 2) (As := [.int p1]) (rest := []) (kX9_isShip l hG  hc2) cw_X9_218 (by decide) dX9_become_2 (nm_0 hG).2 (nm_0 hG).1 rfl rfl rfl (Nat.le_of_ble_eq_true rfl) ?_
  refine wk_if_eq (pc := 5) (tgt := 15) dX9_become_5 rfl hf (fun hf => ?_) (fun hf => ?_)
  · exact wk_lv [0] rfl (J15    s2 hf)
  · refine wk_iload_n (pc := 8) dX9_become_8 rfl 2 rfl ?_
    obtain ⟨r9, s9, hc9, hf⟩ := xbind_some hf
    refine wk_callSI (pc := 9) (As := [.int p2]) (rest := []) (kX9_isKindM l hG  hc9) cw_X9_206 (by decide) dX9_become_9 rfl (Nat.le_of_ble_eq_true rfl) ?_
    refine wk_if_ne (pc := 12) (tgt := 22) dX9_become_12 rfl hf (fun hf => ?_) (fun hf => ?_)
    · refine wk_aload_n (pc := 22) dX9_become_22 rfl 0 rfl ?_
      refine wk_getR (C := RX9) (T := TX9) (N := 24) (pc := 23) dX9_become_23 (nm_0 hG).2 (nm_0 hG).1 rfl qU_X9 0 (by decide) qF_X9_9 rfl ?_
      refine wk_iload_n (pc := 26) dX9_become_26 rfl 1 rfl ?_
      refine wk_iconst (pc := 27) (v := (1 : Int32)) dX9_become_27 (by decide) ?_
      obtain ⟨r28, s28, hc28, hf⟩ := xbind_some hf
      refine wk_callSI (pc := 28) (As := [.int p1, .int (1 : Int32)]) (rest := [.ref (gA G 1)]) (kX9_shipAt l hG  hc28) cw_X9_168 (by decide) dX9_become_28 rfl (Nat.le_of_ble_eq_true rfl) ?_
      refine wk_iload_n (pc := 31) dX9_become_31 rfl 2 rfl ?_
      refine wk_bipush (pc := 32) (v := (10 : Int32)) dX9_become_32 (by decide) ?_
      refine wk_irem (pc := 34) dX9_become_34 (by decide) ?_
      obtain ⟨h35, hf⟩ := xif_some hf
      refine wk_iast (pc := 35) (jj := r28.toNatClampNeg) dX9_become_35 (nm_1 hG).2 (nm_1 hG).1 h35 rfl ?_
      obtain ⟨s35, hs35, hf⟩ := xlet_some hf
      refine wk_sig hs35 ?_
      refine wk_aload_n (pc := 36) dX9_become_36 rfl 0 rfl ?_
      refine wk_iload_n (pc := 37) dX9_become_37 rfl 1 rfl ?_
      refine wk_iconst (pc := 38) (v := (0 : Int32)) dX9_become_38 (by decide) ?_
      obtain ⟨r39, s39, hc39, hf⟩ := xbind_some hf
      refine wk_callSI (pc := 39) (As := [.int p1, .int (0 : Int32)]) (rest := [.ref (gA G 0)]) (kX9_shipAt l hG  hc39) cw_X9_168 (by decide) dX9_become_39 rfl (Nat.le_of_ble_eq_true rfl) ?_
      refine wk_iload_n (pc := 42) dX9_become_42 rfl 2 rfl ?_
      refine wk_bipush (pc := 43) (v := (10 : Int32)) dX9_become_43 (by decide) ?_
      refine wk_idiv (pc := 45) dX9_become_45 (by decide) ?_
      obtain ⟨r46, s46, hc46, hf⟩ := xbind_some hf
      refine wk_callVI (pc := 46) (As := [.int r39, .int (p2 / (10 : Int32))]) (rest := []) (kX9_turn l hG  hc46) cw_X9_171 (by decide) dX9_become_46 (nm_0 hG).2 (nm_0 hG).1 rfl rfl rfl (Nat.le_of_ble_eq_true rfl) ?_
      exact wk_iret (pc := 49) dX9_become_49 rfl (xI_of hf)
    · exact wk_lv [0] rfl (J15    s9 hf)
noncomputable def sX9_as_L18   (s18 : xS) : Option (Int32 × xS) := xbind (sX9_finding (-1000000001 : Int32) s18) (fun r21 s21 => some (r21, s21))
noncomputable def sX9_as (p1 : Int32) (p2 : Int32) (s : xS) : Option (Int32 × xS) := xbind (sX9_isShip p1 s) (fun r2 s2 => (if r2 = 0 then sX9_as_L18  s2 else xbind (sX9_within p2 (0 : Int32) (6 : Int32) s2) (fun r12 s12 => (if r12 = 0 then sX9_as_L18  s12 else xbind (sX9_shipIs p1 (0 : Int32) s12) (fun r28 s28 => xbind (sX9_isUnder r28 p2 s28) (fun r32 s32 => (if r32 = 0 then xbind (sX9_finding (-1000000005 : Int32) s32) (fun r50 s50 => some (r50, s50)) else xbind (sX9_shipIs p1 (1 : Int32) s32) (fun r41 s41 => some (r41, s41)))))))))
set_option maxHeartbeats 4000000 in
set_option maxRecDepth 100000 in
theorem kX9_as (l : Launch) {G : xG} (hG : xM1 G)  {p1 : Int32} {p2 : Int32}  {s : xS} {r : Int32} {s' : xS} (hf : sX9_as p1 p2 s = some (r, s')) : xMet l G 4 yX9_as cX9_as 3 (some .int) [.ref (gA G 0), .int p1, .int p2] s (xI r s') := by
  refine xMet.of (by decide) (Nat.le_of_ble_eq_true rfl) ?_
  show wk l G 4 RX9 cX9_as 3 (some .int) (xI r s') 0 [(0, .ref (gA G 0)), (1, .int p1), (2, .int p2)] [] s
  unfold sX9_as at hf
  have J18 : ∀     (s18 : xS), sX9_as_L18  s18 = some (r, s') → wk l G 4 RX9 cX9_as 3 (some .int) (xI r s') 18 [(0, .ref (gA G 0))] [] s18 := by
    intro s18 hf
    unfold sX9_as_L18 at hf
    refine wk_aload_n (pc := 18) dX9_as_18 rfl 0 rfl ?_
    refine wk_ldc (pc := 19) (v := (-1000000001 : Int32)) dX9_as_19 qK_X9_81 ?_
    obtain ⟨r21, s21, hc21, hf⟩ := xbind_some hf
    refine wk_callVI (pc := 21) (As := [.int (-1000000001 : Int32)]) (rest := []) (kX9_finding l hG  hc21) cw_X9_82 (by decide) dX9_as_21 (nm_0 hG).2 (nm_0 hG).1 rfl rfl rfl (Nat.le_of_ble_eq_true rfl) ?_
    exact wk_iret (pc := 24) dX9_as_24 rfl (xI_of hf)
  refine wk_aload_n (pc := 0) dX9_as_0 rfl 0 rfl ?_
  refine wk_iload_n (pc := 1) dX9_as_1 rfl 1 rfl ?_
  obtain ⟨r2, s2, hc2, hf⟩ := xbind_some hf
  refine wk_callVI (pc := 2) (As := [.int p1]) (rest := []) (kX9_isShip l hG  hc2) cw_X9_218 (by decide) dX9_as_2 (nm_0 hG).2 (nm_0 hG).1 rfl rfl rfl (Nat.le_of_ble_eq_true rfl) ?_
  refine wk_if_eq (pc := 5) (tgt := 18) dX9_as_5 rfl hf (fun hf => ?_) (fun hf => ?_)
  · exact wk_lv [0] rfl (J18    s2 hf)
  · refine wk_iload_n (pc := 8) dX9_as_8 rfl 2 rfl ?_
    refine wk_iconst (pc := 9) (v := (0 : Int32)) dX9_as_9 (by decide) ?_
    refine wk_bipush (pc := 10) (v := (6 : Int32)) dX9_as_10 (by decide) ?_
    obtain ⟨r12, s12, hc12, hf⟩ := xbind_some hf
    refine wk_callSI (pc := 12) (As := [.int p2, .int (0 : Int32), .int (6 : Int32)]) (rest := []) (kX9_within l hG  hc12) cw_X9_77 (by decide) dX9_as_12 rfl (Nat.le_of_ble_eq_true rfl) ?_
    refine wk_if_ne (pc := 15) (tgt := 25) dX9_as_15 rfl hf (fun hf => ?_) (fun hf => ?_)
    · refine wk_aload_n (pc := 25) dX9_as_25 rfl 0 rfl ?_
      refine wk_iload_n (pc := 26) dX9_as_26 rfl 1 rfl ?_
      refine wk_iconst (pc := 27) (v := (0 : Int32)) dX9_as_27 (by decide) ?_
      obtain ⟨r28, s28, hc28, hf⟩ := xbind_some hf
      refine wk_callVI (pc := 28) (As := [.int p1, .int (0 : Int32)]) (rest := []) (kX9_shipIs l hG  hc28) cw_X9_191 (by decide) dX9_as_28 (nm_0 hG).2 (nm_0 hG).1 rfl rfl rfl (Nat.le_of_ble_eq_true rfl) ?_
      refine wk_iload_n (pc := 31) dX9_as_31 rfl 2 rfl ?_
      obtain ⟨r32, s32, hc32, hf⟩ := xbind_some hf
      refine wk_callSI (pc := 32) (As := [.int r28, .int p2]) (rest := []) (kX9_isUnder l hG  hc32) cw_X9_224 (by decide) dX9_as_32 rfl (Nat.le_of_ble_eq_true rfl) ?_
      refine wk_if_eq (pc := 35) (tgt := 47) dX9_as_35 rfl hf (fun hf => ?_) (fun hf => ?_)
      · refine wk_aload_n (pc := 47) dX9_as_47 rfl 0 rfl ?_
        refine wk_ldc (pc := 48) (v := (-1000000005 : Int32)) dX9_as_48 qK_X9_227 ?_
        obtain ⟨r50, s50, hc50, hf⟩ := xbind_some hf
        refine wk_callVI (pc := 50) (As := [.int (-1000000005 : Int32)]) (rest := []) (kX9_finding l hG  hc50) cw_X9_82 (by decide) dX9_as_50 (nm_0 hG).2 (nm_0 hG).1 rfl rfl rfl (Nat.le_of_ble_eq_true rfl) ?_
        exact wk_iret (pc := 53) dX9_as_53 rfl (xI_of hf)
      · refine wk_aload_n (pc := 38) dX9_as_38 rfl 0 rfl ?_
        refine wk_iload_n (pc := 39) dX9_as_39 rfl 1 rfl ?_
        refine wk_iconst (pc := 40) (v := (1 : Int32)) dX9_as_40 (by decide) ?_
        obtain ⟨r41, s41, hc41, hf⟩ := xbind_some hf
        refine wk_callVI (pc := 41) (As := [.int p1, .int (1 : Int32)]) (rest := []) (kX9_shipIs l hG  hc41) cw_X9_191 (by decide) dX9_as_41 (nm_0 hG).2 (nm_0 hG).1 rfl rfl rfl (Nat.le_of_ble_eq_true rfl) ?_
        refine wk_goto (pc := 44) (tgt := 53) dX9_as_44 rfl ?_
        exact wk_iret (pc := 53) dX9_as_53 rfl (xI_of hf)
    · exact wk_lv [0] rfl (J18    s12 hf)
noncomputable def sX9_sails_L67 (r43 : Int32) (y67d : Int32)  (s67 : xS) : Option (Unit × xS) := (if xin r43 242 then xlet (xup s67 1 (upd (s67 1) r43.toNatClampNeg y67d)) (fun s67b => some ((), s67b)) else none)
noncomputable def sX9_sails (p1 : Int32) (s : xS) : Option (Unit × xS) := xbind (sX9_shipIs p1 (3 : Int32) s) (fun r3 s3 => xbind (sX9_believes p1 (r3 - (1 : Int32)) s3) (fun r12 s12 => xbind (sX9_shipIs p1 (2 : Int32) s12) (fun r18 s18 => (if r12 < r18 then xbind (sX9_shipIs p1 (2 : Int32) s18) (fun r76 s76 => xbind (sX9_shipIs p1 (1 : Int32) s76) (fun r82 s82 => xbind (sX9_given (1 : Int32) r76 r82 (s82 1 0) s82) (fun r91 s91 => (if r91 = (1 : Int32) then xbind (sX9_isCell (r3 + (1 : Int32)) s91) (fun r102 s102 => (if r102 = 0 then some ((), s102) else xbind (sX9_shipAt p1 (3 : Int32) s102) (fun r114 s114 => (if xin r114 242 then xlet (xup s114 1 (upd (s114 1) r114.toNatClampNeg (r3 + (1 : Int32)))) (fun s120 => some ((), s120)) else none)))) else some ((), s91))))) else xbind (sX9_shipAt p1 (3 : Int32) s18) (fun r30 s30 => (if xin r30 242 then xlet (xup s30 1 (upd (s30 1) r30.toNatClampNeg (r3 - (1 : Int32)))) (fun s36 => xbind (sX9_shipAt p1 (4 : Int32) s36) (fun r43 s43 => xbind (sX9_trueDepth (r3 - (1 : Int32)) s43) (fun r50 s50 => xbind (sX9_shipIs p1 (2 : Int32) s50) (fun r56 s56 => xlet ((if r56 ≤ r50 then (0 : Int32) else (1 : Int32))) (fun y67d => (sX9_sails_L67 r43 y67d)  s56))))) else none))))))
set_option maxHeartbeats 4000000 in
set_option maxRecDepth 100000 in
theorem kX9_sails (l : Launch) {G : xG} (hG : xM1 G)  {p1 : Int32}  {s : xS} {s' : xS} (hf : sX9_sails p1 s = some ((), s')) : xMet l G 9 yX9_sails cX9_sails 3 none [.ref (gA G 0), .int p1] s (xU s') := by
  refine xMet.of (by decide) (Nat.le_of_ble_eq_true rfl) ?_
  show wk l G 9 RX9 cX9_sails 3 none (xU s') 0 [(0, .ref (gA G 0)), (1, .int p1)] [] s
  unfold sX9_sails at hf
  have J67 : ∀ (r43 : Int32) (y67d : Int32)    (s67 : xS), (sX9_sails_L67 r43 y67d)  s67 = some ((), s') → wk l G 9 RX9 cX9_sails 3 none (xU s') 67 [] [.int y67d, .int r43, .ref (gA G 1)] s67 := by
    intro r43 y67d s67 hf
    unfold sX9_sails_L67 at hf
    obtain ⟨h67, hf⟩ := xif_some hf
    refine wk_iast (pc := 67) (jj := r43.toNatClampNeg) dX9_sails_67 (nm_1 hG).2 (nm_1 hG).1 h67 rfl ?_
    obtain ⟨s67b, hs67b, hf⟩ := xlet_some hf
    refine wk_sig hs67b ?_
    refine wk_goto (pc := 68) (tgt := 121) dX9_sails_68 rfl ?_
    exact wk_vret (pc := 121) dX9_sails_121 rfl (xU_of hf)
  refine wk_aload_n (pc := 0) dX9_sails_0 rfl 0 rfl ?_
  refine wk_iload_n (pc := 1) dX9_sails_1 rfl 1 rfl ?_
  refine wk_iconst (pc := 2) (v := (3 : Int32)) dX9_sails_2 (by decide) ?_
  obtain ⟨r3, s3, hc3, hf⟩ := xbind_some hf
  refine wk_callVI (pc := 3) (As := [.int p1, .int (3 : Int32)]) (rest := []) (kX9_shipIs l hG  hc3) cw_X9_191 (by decide) dX9_sails_3 (nm_0 hG).2 (nm_0 hG).1 rfl rfl rfl (Nat.le_of_ble_eq_true rfl) ?_
  refine wk_istore_n (pc := 6) (lv' := [(2, .int r3), (0, .ref (gA G 0)), (1, .int p1)]) dX9_sails_6 rfl (by decide) rfl ?_
  refine wk_aload_n (pc := 7) dX9_sails_7 rfl 1 rfl ?_
  refine wk_iload_n (pc := 8) dX9_sails_8 rfl 2 rfl ?_
  refine wk_iload_n (pc := 9) dX9_sails_9 rfl 0 rfl ?_
  refine wk_iconst (pc := 10) (v := (1 : Int32)) dX9_sails_10 (by decide) ?_
  refine wk_isub (pc := 11) dX9_sails_11 ?_
  obtain ⟨r12, s12, hc12, hf⟩ := xbind_some hf
  refine wk_callVI (pc := 12) (As := [.int p1, .int (r3 - (1 : Int32))]) (rest := []) (kX9_believes l hG  hc12) cw_X9_221 (by decide) dX9_sails_12 (nm_0 hG).2 (nm_0 hG).1 rfl rfl rfl (Nat.le_of_ble_eq_true rfl) ?_
  refine wk_aload_n (pc := 15) dX9_sails_15 rfl 1 rfl ?_
  refine wk_iload_n (pc := 16) dX9_sails_16 rfl 2 rfl ?_
  refine wk_iconst (pc := 17) (v := (2 : Int32)) dX9_sails_17 (by decide) ?_
  obtain ⟨r18, s18, hc18, hf⟩ := xbind_some hf
  refine wk_callVI (pc := 18) (As := [.int p1, .int (2 : Int32)]) (rest := [.int r12]) (kX9_shipIs l hG  hc18) cw_X9_191 (by decide) dX9_sails_18 (nm_0 hG).2 (nm_0 hG).1 rfl rfl rfl (Nat.le_of_ble_eq_true rfl) ?_
  refine wk_icmp_lt (pc := 21) (tgt := 71) dX9_sails_21 rfl hf (fun hf => ?_) (fun hf => ?_)
  · refine wk_aload_n (pc := 71) dX9_sails_71 rfl 1 rfl ?_
    refine wk_iconst (pc := 72) (v := (1 : Int32)) dX9_sails_72 (by decide) ?_
    refine wk_aload_n (pc := 73) dX9_sails_73 rfl 1 rfl ?_
    refine wk_iload_n (pc := 74) dX9_sails_74 rfl 2 rfl ?_
    refine wk_iconst (pc := 75) (v := (2 : Int32)) dX9_sails_75 (by decide) ?_
    obtain ⟨r76, s76, hc76, hf⟩ := xbind_some hf
    refine wk_callVI (pc := 76) (As := [.int p1, .int (2 : Int32)]) (rest := [.int (1 : Int32), .ref (gA G 0)]) (kX9_shipIs l hG  hc76) cw_X9_191 (by decide) dX9_sails_76 (nm_0 hG).2 (nm_0 hG).1 rfl rfl rfl (Nat.le_of_ble_eq_true rfl) ?_
    refine wk_aload_n (pc := 79) dX9_sails_79 rfl 1 rfl ?_
    refine wk_iload_n (pc := 80) dX9_sails_80 rfl 2 rfl ?_
    refine wk_iconst (pc := 81) (v := (1 : Int32)) dX9_sails_81 (by decide) ?_
    obtain ⟨r82, s82, hc82, hf⟩ := xbind_some hf
    refine wk_callVI (pc := 82) (As := [.int p1, .int (1 : Int32)]) (rest := [.int r76, .int (1 : Int32), .ref (gA G 0)]) (kX9_shipIs l hG  hc82) cw_X9_191 (by decide) dX9_sails_82 (nm_0 hG).2 (nm_0 hG).1 rfl rfl rfl (Nat.le_of_ble_eq_true rfl) ?_
    refine wk_aload_n (pc := 85) dX9_sails_85 rfl 1 rfl ?_
    refine wk_getR (C := RX9) (T := TX9) (N := 24) (pc := 86) dX9_sails_86 (nm_0 hG).2 (nm_0 hG).1 rfl qU_X9 0 (by decide) qF_X9_9 rfl ?_
    refine wk_iconst (pc := 89) (v := (0 : Int32)) dX9_sails_89 (by decide) ?_
    refine wk_iald (pc := 90) (jj := 0) dX9_sails_90 (nm_1 hG).2 (nm_1 hG).1 (by decide) (by decide) ?_
    obtain ⟨r91, s91, hc91, hf⟩ := xbind_some hf
    refine wk_callVI (pc := 91) (As := [.int (1 : Int32), .int r76, .int r82, .int (s82 1 0)]) (rest := []) (kX9_given l hG  hc91) cw_X9_161 (by decide) dX9_sails_91 (nm_0 hG).2 (nm_0 hG).1 rfl rfl rfl (Nat.le_of_ble_eq_true rfl) ?_
    refine wk_iconst (pc := 94) (v := (1 : Int32)) dX9_sails_94 (by decide) ?_
    refine wk_icmp_ne (pc := 95) (tgt := 121) dX9_sails_95 rfl hf (fun hf => ?_) (fun hf => ?_)
    · exact wk_vret (pc := 121) dX9_sails_121 rfl (xU_of hf)
    · refine wk_aload_n (pc := 98) dX9_sails_98 rfl 1 rfl ?_
      refine wk_iload_n (pc := 99) dX9_sails_99 rfl 0 rfl ?_
      refine wk_iconst (pc := 100) (v := (1 : Int32)) dX9_sails_100 (by decide) ?_
      refine wk_iadd (pc := 101) dX9_sails_101 ?_
      obtain ⟨r102, s102, hc102, hf⟩ := xbind_some hf
      refine wk_callVI (pc := 102) (As := [.int (r3 + (1 : Int32))]) (rest := []) (kX9_isCell l hG  hc102) cw_X9_175 (by decide) dX9_sails_102 (nm_0 hG).2 (nm_0 hG).1 rfl rfl rfl (Nat.le_of_ble_eq_true rfl) ?_
      refine wk_if_eq (pc := 105) (tgt := 121) dX9_sails_105 rfl hf (fun hf => ?_) (fun hf => ?_)
      · exact wk_vret (pc := 121) dX9_sails_121 rfl (xU_of hf)
      · refine wk_aload_n (pc := 108) dX9_sails_108 rfl 1 rfl ?_
        refine wk_getR (C := RX9) (T := TX9) (N := 24) (pc := 109) dX9_sails_109 (nm_0 hG).2 (nm_0 hG).1 rfl qU_X9 0 (by decide) qF_X9_9 rfl ?_
        refine wk_iload_n (pc := 112) dX9_sails_112 rfl 2 rfl ?_
        refine wk_iconst (pc := 113) (v := (3 : Int32)) dX9_sails_113 (by decide) ?_
        obtain ⟨r114, s114, hc114, hf⟩ := xbind_some hf
        refine wk_callSI (pc := 114) (As := [.int p1, .int (3 : Int32)]) (rest := [.ref (gA G 1)]) (kX9_shipAt l hG  hc114) cw_X9_168 (by decide) dX9_sails_114 rfl (Nat.le_of_ble_eq_true rfl) ?_
        refine wk_iload_n (pc := 117) dX9_sails_117 rfl 0 rfl ?_
        refine wk_iconst (pc := 118) (v := (1 : Int32)) dX9_sails_118 (by decide) ?_
        refine wk_iadd (pc := 119) dX9_sails_119 ?_
        obtain ⟨h120, hf⟩ := xif_some hf
        refine wk_iast (pc := 120) (jj := r114.toNatClampNeg) dX9_sails_120 (nm_1 hG).2 (nm_1 hG).1 h120 rfl ?_
        obtain ⟨s120, hs120, hf⟩ := xlet_some hf
        refine wk_sig hs120 ?_
        exact wk_vret (pc := 121) dX9_sails_121 rfl (xU_of hf)
  · refine wk_aload_n (pc := 24) dX9_sails_24 rfl 1 rfl ?_
    refine wk_getR (C := RX9) (T := TX9) (N := 24) (pc := 25) dX9_sails_25 (nm_0 hG).2 (nm_0 hG).1 rfl qU_X9 0 (by decide) qF_X9_9 rfl ?_
    refine wk_iload_n (pc := 28) dX9_sails_28 rfl 2 rfl ?_
    refine wk_iconst (pc := 29) (v := (3 : Int32)) dX9_sails_29 (by decide) ?_
    obtain ⟨r30, s30, hc30, hf⟩ := xbind_some hf
    refine wk_callSI (pc := 30) (As := [.int p1, .int (3 : Int32)]) (rest := [.ref (gA G 1)]) (kX9_shipAt l hG  hc30) cw_X9_168 (by decide) dX9_sails_30 rfl (Nat.le_of_ble_eq_true rfl) ?_
    refine wk_iload_n (pc := 33) dX9_sails_33 rfl 0 rfl ?_
    refine wk_iconst (pc := 34) (v := (1 : Int32)) dX9_sails_34 (by decide) ?_
    refine wk_isub (pc := 35) dX9_sails_35 ?_
    obtain ⟨h36, hf⟩ := xif_some hf
    refine wk_iast (pc := 36) (jj := r30.toNatClampNeg) dX9_sails_36 (nm_1 hG).2 (nm_1 hG).1 h36 rfl ?_
    obtain ⟨s36, hs36, hf⟩ := xlet_some hf
    refine wk_sig hs36 ?_
    refine wk_aload_n (pc := 37) dX9_sails_37 rfl 1 rfl ?_
    refine wk_getR (C := RX9) (T := TX9) (N := 24) (pc := 38) dX9_sails_38 (nm_0 hG).2 (nm_0 hG).1 rfl qU_X9 0 (by decide) qF_X9_9 rfl ?_
    refine wk_iload_n (pc := 41) dX9_sails_41 rfl 2 rfl ?_
    refine wk_iconst (pc := 42) (v := (4 : Int32)) dX9_sails_42 (by decide) ?_
    obtain ⟨r43, s43, hc43, hf⟩ := xbind_some hf
    refine wk_callSI (pc := 43) (As := [.int p1, .int (4 : Int32)]) (rest := [.ref (gA G 1)]) (kX9_shipAt l hG  hc43) cw_X9_168 (by decide) dX9_sails_43 rfl (Nat.le_of_ble_eq_true rfl) ?_
    refine wk_aload_n (pc := 46) dX9_sails_46 rfl 1 rfl ?_
    refine wk_iload_n (pc := 47) dX9_sails_47 rfl 0 rfl ?_
    refine wk_iconst (pc := 48) (v := (1 : Int32)) dX9_sails_48 (by decide) ?_
    refine wk_isub (pc := 49) dX9_sails_49 ?_
    obtain ⟨r50, s50, hc50, hf⟩ := xbind_some hf
    refine wk_callVI (pc := 50) (As := [.int (r3 - (1 : Int32))]) (rest := [.int r43, .ref (gA G 1)]) (kX9_trueDepth l hG  hc50) cw_X9_194 (by decide) dX9_sails_50 (nm_0 hG).2 (nm_0 hG).1 rfl rfl rfl (Nat.le_of_ble_eq_true rfl) ?_
    refine wk_aload_n (pc := 53) dX9_sails_53 rfl 1 rfl ?_
    refine wk_iload_n (pc := 54) dX9_sails_54 rfl 2 rfl ?_
    refine wk_iconst (pc := 55) (v := (2 : Int32)) dX9_sails_55 (by decide) ?_
    obtain ⟨r56, s56, hc56, hf⟩ := xbind_some hf
    refine wk_callVI (pc := 56) (As := [.int p1, .int (2 : Int32)]) (rest := [.int r50, .int r43, .ref (gA G 1)]) (kX9_shipIs l hG  hc56) cw_X9_191 (by decide) dX9_sails_56 (nm_0 hG).2 (nm_0 hG).1 rfl rfl rfl (Nat.le_of_ble_eq_true rfl) ?_
    obtain ⟨y67d, hy67d, hf⟩ := xlet_some hf
    have K67 : wk l G 9 RX9 cX9_sails 3 none (xU s') 67 [(2, .int r3), (0, .ref (gA G 0)), (1, .int p1)] [.int y67d, .int r43, .ref (gA G 1)] s56 := by
      exact wk_lv [] rfl (J67 r43 y67d   s56 hf)
    by_cases c59 : r56 ≤ r50
    · rw [if_pos c59] at hy67d
      refine wk_icmp_ge_p (pc := 59) (tgt := 66) dX9_sails_59 rfl c59 ?_
      refine wk_iconst (pc := 66) (v := (0 : Int32)) dX9_sails_66 (by decide) ?_
      exact wk_top hy67d K67
    · rw [if_neg c59] at hy67d
      refine wk_icmp_ge_m (pc := 59) (tgt := 66) dX9_sails_59 rfl c59 ?_
      refine wk_iconst (pc := 62) (v := (1 : Int32)) dX9_sails_62 (by decide) ?_
      refine wk_goto (pc := 63) (tgt := 67) dX9_sails_63 rfl ?_
      exact wk_top hy67d K67
noncomputable def sX9_hour_L35 (a1_2 : Int32) (self2 : Int32 → xS → Option (Unit × xS))  (s35 : xS) : Option (Unit × xS) := xlet (a1_2 + (1 : Int32)) (fun y35 => self2 y35 s35)
noncomputable def sX9_hour_L2  (self2 : Int32 → xS → Option (Unit × xS)) : Int32 → xS → Option (Unit × xS) := fun a1_2 s2 => (if (s2 1 2) ≤ a1_2 then xlet (xup s2 1 (upd (s2 1) 0 ((s2 1 0) + (1 : Int32)))) (fun s50 => some ((), s50)) else xbind (sX9_shipIs a1_2 (4 : Int32) s2) (fun r15 s15 => (if r15 = 0 then xbind (sX9_shipIs a1_2 (3 : Int32) s15) (fun r24 s24 => (if r24 ≤ 0 then (sX9_hour_L35 a1_2 self2)  s24 else xbind (sX9_sails a1_2 s24) (fun _ s32 => (sX9_hour_L35 a1_2 self2)  s32))) else (sX9_hour_L35 a1_2 self2)  s15)))
noncomputable def sX9_hour  (s : xS) : Option (Unit × xS) := xloop sX9_hour_L2 xF (0 : Int32) s
set_option maxHeartbeats 4000000 in
set_option maxRecDepth 100000 in
theorem kX9_hour (l : Launch) {G : xG} (hG : xM1 G)    {s : xS} {s' : xS} (hf : sX9_hour  s = some ((), s')) : xMet l G 10 yX9_hour cX9_hour 2 none [.ref (gA G 0)] s (xU s') := by
  refine xMet.of (by decide) (Nat.le_of_ble_eq_true rfl) ?_
  show wk l G 10 RX9 cX9_hour 2 none (xU s') 0 [(0, .ref (gA G 0))] [] s
  unfold sX9_hour at hf
  have J2 : ∀   (N : Nat) (a1_2 : Int32)  (s2 : xS), xloop sX9_hour_L2 N a1_2 s2 = some ((), s') → wk l G 10 RX9 cX9_hour 2 none (xU s') 2 [(0, .ref (gA G 0)), (1, .int a1_2)] [] s2 := by
    intro N
    induction N with
    | zero => intro a1_2 s2 hf; exact (xloop_0 hf).elim
    | succ N ih2 =>
      intro a1_2 s2 hf
      rw [xloop_s] at hf
      generalize xloop sX9_hour_L2 N = self2 at hf ih2
      unfold sX9_hour_L2 at hf
      have J35 : ∀     (s35 : xS), (sX9_hour_L35 a1_2 self2)  s35 = some ((), s') → wk l G 10 RX9 cX9_hour 2 none (xU s') 35 [(0, .ref (gA G 0)), (1, .int a1_2)] [] s35 := by
        intro s35 hf
        unfold sX9_hour_L35 at hf
        obtain ⟨y35, hy35, hf⟩ := xlet_some hf
        refine wk_iinc (pc := 35) (v := y35) (lv' := [(1, .int y35), (0, .ref (gA G 0))]) dX9_hour_35 1 rfl (by rw [hy35] <;> rfl) (by decide) rfl ?_
        refine wk_goto (pc := 38) (tgt := 2) dX9_hour_38 rfl ?_
        exact wk_lv [1, 0] rfl (ih2 y35  s35 hf)
      refine wk_iload_n (pc := 2) dX9_hour_2 rfl 1 rfl ?_
      refine wk_aload_n (pc := 3) dX9_hour_3 rfl 0 rfl ?_
      refine wk_getR (C := RX9) (T := TX9) (N := 24) (pc := 4) dX9_hour_4 (nm_0 hG).2 (nm_0 hG).1 rfl qU_X9 0 (by decide) qF_X9_9 rfl ?_
      refine wk_iconst (pc := 7) (v := (2 : Int32)) dX9_hour_7 (by decide) ?_
      refine wk_iald (pc := 8) (jj := 2) dX9_hour_8 (nm_1 hG).2 (nm_1 hG).1 (by decide) (by decide) ?_
      refine wk_icmp_ge (pc := 9) (tgt := 41) dX9_hour_9 rfl hf (fun hf => ?_) (fun hf => ?_)
      · refine wk_aload_n (pc := 41) dX9_hour_41 rfl 0 rfl ?_
        refine wk_getR (C := RX9) (T := TX9) (N := 24) (pc := 42) dX9_hour_42 (nm_0 hG).2 (nm_0 hG).1 rfl qU_X9 0 (by decide) qF_X9_9 rfl ?_
        refine wk_iconst (pc := 45) (v := (0 : Int32)) dX9_hour_45 (by decide) ?_
        refine wk_dup2 (pc := 46) dX9_hour_46 rfl rfl ?_
        refine wk_iald (pc := 47) (jj := 0) dX9_hour_47 (nm_1 hG).2 (nm_1 hG).1 (by decide) (by decide) ?_
        refine wk_iconst (pc := 48) (v := (1 : Int32)) dX9_hour_48 (by decide) ?_
        refine wk_iadd (pc := 49) dX9_hour_49 ?_
        refine wk_iast (pc := 50) (jj := 0) dX9_hour_50 (nm_1 hG).2 (nm_1 hG).1 (by decide) (by decide) ?_
        obtain ⟨s50, hs50, hf⟩ := xlet_some hf
        refine wk_sig hs50 ?_
        exact wk_vret (pc := 51) dX9_hour_51 rfl (xU_of hf)
      · refine wk_aload_n (pc := 12) dX9_hour_12 rfl 0 rfl ?_
        refine wk_iload_n (pc := 13) dX9_hour_13 rfl 1 rfl ?_
        refine wk_iconst (pc := 14) (v := (4 : Int32)) dX9_hour_14 (by decide) ?_
        obtain ⟨r15, s15, hc15, hf⟩ := xbind_some hf
        refine wk_callVI (pc := 15) (As := [.int a1_2, .int (4 : Int32)]) (rest := []) (kX9_shipIs l hG  hc15) cw_X9_191 (by decide) dX9_hour_15 (nm_0 hG).2 (nm_0 hG).1 rfl rfl rfl (Nat.le_of_ble_eq_true rfl) ?_
        refine wk_if_ne (pc := 18) (tgt := 35) dX9_hour_18 rfl hf (fun hf => ?_) (fun hf => ?_)
        · exact wk_lv [0, 1] rfl (J35    s15 hf)
        · refine wk_aload_n (pc := 21) dX9_hour_21 rfl 0 rfl ?_
          refine wk_iload_n (pc := 22) dX9_hour_22 rfl 1 rfl ?_
          refine wk_iconst (pc := 23) (v := (3 : Int32)) dX9_hour_23 (by decide) ?_
          obtain ⟨r24, s24, hc24, hf⟩ := xbind_some hf
          refine wk_callVI (pc := 24) (As := [.int a1_2, .int (3 : Int32)]) (rest := []) (kX9_shipIs l hG  hc24) cw_X9_191 (by decide) dX9_hour_24 (nm_0 hG).2 (nm_0 hG).1 rfl rfl rfl (Nat.le_of_ble_eq_true rfl) ?_
          refine wk_if_le (pc := 27) (tgt := 35) dX9_hour_27 rfl hf (fun hf => ?_) (fun hf => ?_)
          · exact wk_lv [0, 1] rfl (J35    s24 hf)
          · refine wk_aload_n (pc := 30) dX9_hour_30 rfl 0 rfl ?_
            refine wk_iload_n (pc := 31) dX9_hour_31 rfl 1 rfl ?_
            obtain ⟨⟨⟩, s32, hc32, hf⟩ := xbind_some hf
            refine wk_callVU (pc := 32) (As := [.int a1_2]) (rest := []) (kX9_sails l hG  hc32) cw_X9_228 (by decide) dX9_hour_32 (nm_0 hG).2 (nm_0 hG).1 rfl rfl rfl (Nat.le_of_ble_eq_true rfl) ?_
            exact wk_lv [0, 1] rfl (J35    s32 hf)
  refine wk_iconst (pc := 0) (v := (0 : Int32)) dX9_hour_0 (by decide) ?_
  refine wk_istore_n (pc := 1) (lv' := [(1, .int (0 : Int32)), (0, .ref (gA G 0))]) dX9_hour_1 rfl (by decide) rfl ?_
  exact wk_lv [1, 0] rfl (J2  xF (0 : Int32)  s hf)
noncomputable def sX9_hoursGo_L2 (p1 : Int32) (self2 : Int32 → xS → Option (Unit × xS)) : Int32 → xS → Option (Unit × xS) := fun a2_2 s2 => (if p1 ≤ a2_2 then some ((), s2) else xbind (sX9_hour  s2) (fun _ s8 => xlet (a2_2 + (1 : Int32)) (fun y11 => self2 y11 s8)))
noncomputable def sX9_hoursGo (p1 : Int32) (s : xS) : Option (Unit × xS) := xloop (sX9_hoursGo_L2 p1) xF (0 : Int32) s
set_option maxHeartbeats 4000000 in
set_option maxRecDepth 100000 in
theorem kX9_hoursGo (l : Launch) {G : xG} (hG : xM1 G)  {p1 : Int32}  {s : xS} {s' : xS} (hf : sX9_hoursGo p1 s = some ((), s')) : xMet l G 11 yX9_hoursGo cX9_hoursGo 3 none [.ref (gA G 0), .int p1] s (xU s') := by
  refine xMet.of (by decide) (Nat.le_of_ble_eq_true rfl) ?_
  show wk l G 11 RX9 cX9_hoursGo 3 none (xU s') 0 [(0, .ref (gA G 0)), (1, .int p1)] [] s
  unfold sX9_hoursGo at hf
  have J2 : ∀   (N : Nat) (a2_2 : Int32)  (s2 : xS), xloop (sX9_hoursGo_L2 p1) N a2_2 s2 = some ((), s') → wk l G 11 RX9 cX9_hoursGo 3 none (xU s') 2 [(0, .ref (gA G 0)), (1, .int p1), (2, .int a2_2)] [] s2 := by
    intro N
    induction N with
    | zero => intro a2_2 s2 hf; exact (xloop_0 hf).elim
    | succ N ih2 =>
      intro a2_2 s2 hf
      rw [xloop_s] at hf
      generalize xloop (sX9_hoursGo_L2 p1) N = self2 at hf ih2
      unfold sX9_hoursGo_L2 at hf
      refine wk_iload_n (pc := 2) dX9_hoursGo_2 rfl 2 rfl ?_
      refine wk_iload_n (pc := 3) dX9_hoursGo_3 rfl 1 rfl ?_
      refine wk_icmp_ge (pc := 4) (tgt := 17) dX9_hoursGo_4 rfl hf (fun hf => ?_) (fun hf => ?_)
      · exact wk_vret (pc := 17) dX9_hoursGo_17 rfl (xU_of hf)
      · refine wk_aload_n (pc := 7) dX9_hoursGo_7 rfl 0 rfl ?_
        obtain ⟨⟨⟩, s8, hc8, hf⟩ := xbind_some hf
        refine wk_callVU (pc := 8) (As := []) (rest := []) (kX9_hour l hG  hc8) cw_X9_231 (by decide) dX9_hoursGo_8 (nm_0 hG).2 (nm_0 hG).1 rfl rfl rfl (Nat.le_of_ble_eq_true rfl) ?_
        obtain ⟨y11, hy11, hf⟩ := xlet_some hf
        refine wk_iinc (pc := 11) (v := y11) (lv' := [(2, .int y11), (0, .ref (gA G 0)), (1, .int p1)]) dX9_hoursGo_11 2 rfl (by rw [hy11] <;> rfl) (by decide) rfl ?_
        refine wk_goto (pc := 14) (tgt := 2) dX9_hoursGo_14 rfl ?_
        exact wk_lv [1, 2, 0] rfl (ih2 y11  s8 hf)
  refine wk_iconst (pc := 0) (v := (0 : Int32)) dX9_hoursGo_0 (by decide) ?_
  refine wk_istore_n (pc := 1) (lv' := [(2, .int (0 : Int32)), (0, .ref (gA G 0)), (1, .int p1)]) dX9_hoursGo_1 rfl (by decide) rfl ?_
  exact wk_lv [1, 2, 0] rfl (J2  xF (0 : Int32)  s hf)
noncomputable def sX9_manyIn  (s : xS) : Option (Int32 × xS) := xbind (sX9_shipsAt (0 : Int32) s) (fun r2 s2 => xbind (sX9_bits r2 s2) (fun r5 s5 => some (r5, s5)))
set_option maxHeartbeats 4000000 in
set_option maxRecDepth 100000 in
theorem kX9_manyIn (l : Launch) {G : xG} (hG : xM1 G)    {s : xS} {r : Int32} {s' : xS} (hf : sX9_manyIn  s = some (r, s')) : xMet l G 5 yX9_manyIn cX9_manyIn 1 (some .int) [.ref (gA G 0)] s (xI r s') := by
  refine xMet.of (by decide) (Nat.le_of_ble_eq_true rfl) ?_
  show wk l G 5 RX9 cX9_manyIn 1 (some .int) (xI r s') 0 [(0, .ref (gA G 0))] [] s
  unfold sX9_manyIn at hf
  refine wk_aload_n (pc := 0) dX9_manyIn_0 rfl 0 rfl ?_
  refine wk_iconst (pc := 1) (v := (0 : Int32)) dX9_manyIn_1 (by decide) ?_
  obtain ⟨r2, s2, hc2, hf⟩ := xbind_some hf
  refine wk_callVI (pc := 2) (As := [.int (0 : Int32)]) (rest := []) (kX9_shipsAt l hG  hc2) cw_X9_200 (by decide) dX9_manyIn_2 (nm_0 hG).2 (nm_0 hG).1 rfl rfl rfl (Nat.le_of_ble_eq_true rfl) ?_
  obtain ⟨r5, s5, hc5, hf⟩ := xbind_some hf
  refine wk_callSI (pc := 5) (As := [.int r2]) (rest := []) (kX9_bits l hG  hc5) cw_X9_234 (by decide) dX9_manyIn_5 rfl (Nat.le_of_ble_eq_true rfl) ?_
  exact wk_iret (pc := 8) dX9_manyIn_8 rfl (xI_of hf)
noncomputable def sX9_hours (p1 : Int32) (s : xS) : Option (Int32 × xS) := xbind (sX9_within p1 (1 : Int32) (60 : Int32) s) (fun r4 s4 => (if r4 = 0 then xbind (sX9_finding (-1000000001 : Int32) s4) (fun r13 s13 => some (r13, s13)) else (if ((s4 1 0) + p1) ≤ (9999 : Int32) then xbind (sX9_hoursGo p1 s4) (fun _ s40 => xbind (sX9_manyIn  s40) (fun r44 s44 => some (r44, s44))) else xbind (sX9_finding (-1000000003 : Int32) s4) (fun r34 s34 => some (r34, s34)))))
set_option maxHeartbeats 4000000 in
set_option maxRecDepth 100000 in
theorem kX9_hours (l : Launch) {G : xG} (hG : xM1 G)  {p1 : Int32}  {s : xS} {r : Int32} {s' : xS} (hf : sX9_hours p1 s = some (r, s')) : xMet l G 12 yX9_hours cX9_hours 2 (some .int) [.ref (gA G 0), .int p1] s (xI r s') := by
  refine xMet.of (by decide) (Nat.le_of_ble_eq_true rfl) ?_
  show wk l G 12 RX9 cX9_hours 2 (some .int) (xI r s') 0 [(0, .ref (gA G 0)), (1, .int p1)] [] s
  unfold sX9_hours at hf
  refine wk_iload_n (pc := 0) dX9_hours_0 rfl 1 rfl ?_
  refine wk_iconst (pc := 1) (v := (1 : Int32)) dX9_hours_1 (by decide) ?_
  refine wk_bipush (pc := 2) (v := (60 : Int32)) dX9_hours_2 (by decide) ?_
  obtain ⟨r4, s4, hc4, hf⟩ := xbind_some hf
  refine wk_callSI (pc := 4) (As := [.int p1, .int (1 : Int32), .int (60 : Int32)]) (rest := []) (kX9_within l hG  hc4) cw_X9_77 (by decide) dX9_hours_4 rfl (Nat.le_of_ble_eq_true rfl) ?_
  refine wk_if_ne (pc := 7) (tgt := 17) dX9_hours_7 rfl hf (fun hf => ?_) (fun hf => ?_)
  · refine wk_aload_n (pc := 17) dX9_hours_17 rfl 0 rfl ?_
    refine wk_getR (C := RX9) (T := TX9) (N := 24) (pc := 18) dX9_hours_18 (nm_0 hG).2 (nm_0 hG).1 rfl qU_X9 0 (by decide) qF_X9_9 rfl ?_
    refine wk_iconst (pc := 21) (v := (0 : Int32)) dX9_hours_21 (by decide) ?_
    refine wk_iald (pc := 22) (jj := 0) dX9_hours_22 (nm_1 hG).2 (nm_1 hG).1 (by decide) (by decide) ?_
    refine wk_iload_n (pc := 23) dX9_hours_23 rfl 1 rfl ?_
    refine wk_iadd (pc := 24) dX9_hours_24 ?_
    refine wk_sipush (pc := 25) (v := (9999 : Int32)) dX9_hours_25 (by decide) ?_
    refine wk_icmp_le (pc := 28) (tgt := 38) dX9_hours_28 rfl hf (fun hf => ?_) (fun hf => ?_)
    · refine wk_aload_n (pc := 38) dX9_hours_38 rfl 0 rfl ?_
      refine wk_iload_n (pc := 39) dX9_hours_39 rfl 1 rfl ?_
      obtain ⟨⟨⟩, s40, hc40, hf⟩ := xbind_some hf
      refine wk_callVU (pc := 40) (As := [.int p1]) (rest := []) (kX9_hoursGo l hG  hc40) cw_X9_237 (by decide) dX9_hours_40 (nm_0 hG).2 (nm_0 hG).1 rfl rfl rfl (Nat.le_of_ble_eq_true rfl) ?_
      refine wk_aload_n (pc := 43) dX9_hours_43 rfl 0 rfl ?_
      obtain ⟨r44, s44, hc44, hf⟩ := xbind_some hf
      refine wk_callVI (pc := 44) (As := []) (rest := []) (kX9_manyIn l hG  hc44) cw_X9_240 (by decide) dX9_hours_44 (nm_0 hG).2 (nm_0 hG).1 rfl rfl rfl (Nat.le_of_ble_eq_true rfl) ?_
      exact wk_iret (pc := 47) dX9_hours_47 rfl (xI_of hf)
    · refine wk_aload_n (pc := 31) dX9_hours_31 rfl 0 rfl ?_
      refine wk_ldc (pc := 32) (v := (-1000000003 : Int32)) dX9_hours_32 qK_X9_174 ?_
      obtain ⟨r34, s34, hc34, hf⟩ := xbind_some hf
      refine wk_callVI (pc := 34) (As := [.int (-1000000003 : Int32)]) (rest := []) (kX9_finding l hG  hc34) cw_X9_82 (by decide) dX9_hours_34 (nm_0 hG).2 (nm_0 hG).1 rfl rfl rfl (Nat.le_of_ble_eq_true rfl) ?_
      exact wk_iret (pc := 37) dX9_hours_37 rfl (xI_of hf)
  · refine wk_aload_n (pc := 10) dX9_hours_10 rfl 0 rfl ?_
    refine wk_ldc (pc := 11) (v := (-1000000001 : Int32)) dX9_hours_11 qK_X9_81 ?_
    obtain ⟨r13, s13, hc13, hf⟩ := xbind_some hf
    refine wk_callVI (pc := 13) (As := [.int (-1000000001 : Int32)]) (rest := []) (kX9_finding l hG  hc13) cw_X9_82 (by decide) dX9_hours_13 (nm_0 hG).2 (nm_0 hG).1 rfl rfl rfl (Nat.le_of_ble_eq_true rfl) ?_
    exact wk_iret (pc := 16) dX9_hours_16 rfl (xI_of hf)
noncomputable def sX9_drawn  (s : xS) : Option (Int32 × xS) := xlet (xup s 1 (upd (s 1) 6 (((s 1 6) * (1103515245 : Int32)) + (12345 : Int32)))) (fun s20 => some ((((s20 1 6).toUInt32 >>> ((8 : Int32).toUInt32 &&& Int32.toUInt32 31)).toInt32), s20))
set_option maxHeartbeats 4000000 in
set_option maxRecDepth 100000 in
theorem kX9_drawn (l : Launch) {G : xG} (hG : xM1 G)    {s : xS} {r : Int32} {s' : xS} (hf : sX9_drawn  s = some (r, s')) : xMet l G 2 yX9_drawn cX9_drawn 1 (some .int) [.ref (gA G 0)] s (xI r s') := by
  refine xMet.of (by decide) (Nat.le_of_ble_eq_true rfl) ?_
  show wk l G 2 RX9 cX9_drawn 1 (some .int) (xI r s') 0 [(0, .ref (gA G 0))] [] s
  unfold sX9_drawn at hf
  refine wk_aload_n (pc := 0) dX9_drawn_0 rfl 0 rfl ?_
  refine wk_getR (C := RX9) (T := TX9) (N := 24) (pc := 1) dX9_drawn_1 (nm_0 hG).2 (nm_0 hG).1 rfl qU_X9 0 (by decide) qF_X9_9 rfl ?_
  refine wk_bipush (pc := 4) (v := (6 : Int32)) dX9_drawn_4 (by decide) ?_
  refine wk_aload_n (pc := 6) dX9_drawn_6 rfl 0 rfl ?_
  refine wk_getR (C := RX9) (T := TX9) (N := 24) (pc := 7) dX9_drawn_7 (nm_0 hG).2 (nm_0 hG).1 rfl qU_X9 0 (by decide) qF_X9_9 rfl ?_
  refine wk_bipush (pc := 10) (v := (6 : Int32)) dX9_drawn_10 (by decide) ?_
  refine wk_iald (pc := 12) (jj := 6) dX9_drawn_12 (nm_1 hG).2 (nm_1 hG).1 (by decide) (by decide) ?_
  refine wk_ldc (pc := 13) (v := (1103515245 : Int32)) dX9_drawn_13 qK_X9_243 ?_
  refine wk_imul (pc := 15) dX9_drawn_15 ?_
  refine wk_sipush (pc := 16) (v := (12345 : Int32)) dX9_drawn_16 (by decide) ?_
  refine wk_iadd (pc := 19) dX9_drawn_19 ?_
  refine wk_iast (pc := 20) (jj := 6) dX9_drawn_20 (nm_1 hG).2 (nm_1 hG).1 (by decide) (by decide) ?_
  obtain ⟨s20, hs20, hf⟩ := xlet_some hf
  refine wk_sig hs20 ?_
  refine wk_aload_n (pc := 21) dX9_drawn_21 rfl 0 rfl ?_
  refine wk_getR (C := RX9) (T := TX9) (N := 24) (pc := 22) dX9_drawn_22 (nm_0 hG).2 (nm_0 hG).1 rfl qU_X9 0 (by decide) qF_X9_9 rfl ?_
  refine wk_bipush (pc := 25) (v := (6 : Int32)) dX9_drawn_25 (by decide) ?_
  refine wk_iald (pc := 27) (jj := 6) dX9_drawn_27 (nm_1 hG).2 (nm_1 hG).1 (by decide) (by decide) ?_
  refine wk_bipush (pc := 28) (v := (8 : Int32)) dX9_drawn_28 (by decide) ?_
  refine wk_iushr (pc := 30) dX9_drawn_30 ?_
  exact wk_iret (pc := 31) dX9_drawn_31 rfl (xI_of hf)
noncomputable def sX9_loose_L40 (p1 : Int32) (self40 : Int32 → xS → Option (Int32 × xS)) : Int32 → xS → Option (Int32 × xS) := fun a2_40 s40 => (if p1 ≤ a2_40 then xbind (sX9_manyIn  s40) (fun r69 s69 => some (r69, s69)) else xbind (sX9_drawn  s40) (fun r51 s51 => xlet (xup s51 1 (upd (s51 1) 4 (r51 - r51 / (100 : Int32) * (100 : Int32)))) (fun s57 => xbind (sX9_hour  s57) (fun _ s59 => xlet (a2_40 + (1 : Int32)) (fun y62 => self40 y62 s59)))))
noncomputable def sX9_loose (p1 : Int32) (s : xS) : Option (Int32 × xS) := xbind (sX9_within p1 (1 : Int32) (40 : Int32) s) (fun r4 s4 => (if r4 = 0 then xbind (sX9_finding (-1000000001 : Int32) s4) (fun r13 s13 => some (r13, s13)) else (if ((s4 1 0) + p1) ≤ (9999 : Int32) then xloop (sX9_loose_L40 p1) xF (0 : Int32) s4 else xbind (sX9_finding (-1000000003 : Int32) s4) (fun r34 s34 => some (r34, s34)))))
set_option maxHeartbeats 4000000 in
set_option maxRecDepth 100000 in
theorem kX9_loose (l : Launch) {G : xG} (hG : xM1 G)  {p1 : Int32}  {s : xS} {r : Int32} {s' : xS} (hf : sX9_loose p1 s = some (r, s')) : xMet l G 11 yX9_loose cX9_loose 3 (some .int) [.ref (gA G 0), .int p1] s (xI r s') := by
  refine xMet.of (by decide) (Nat.le_of_ble_eq_true rfl) ?_
  show wk l G 11 RX9 cX9_loose 3 (some .int) (xI r s') 0 [(0, .ref (gA G 0)), (1, .int p1)] [] s
  unfold sX9_loose at hf
  have J40 : ∀   (N : Nat) (a2_40 : Int32)  (s40 : xS), xloop (sX9_loose_L40 p1) N a2_40 s40 = some (r, s') → wk l G 11 RX9 cX9_loose 3 (some .int) (xI r s') 40 [(0, .ref (gA G 0)), (1, .int p1), (2, .int a2_40)] [] s40 := by
    intro N
    induction N with
    | zero => intro a2_40 s40 hf; exact (xloop_0 hf).elim
    | succ N ih40 =>
      intro a2_40 s40 hf
      rw [xloop_s] at hf
      generalize xloop (sX9_loose_L40 p1) N = self40 at hf ih40
      unfold sX9_loose_L40 at hf
      refine wk_iload_n (pc := 40) dX9_loose_40 rfl 2 rfl ?_
      refine wk_iload_n (pc := 41) dX9_loose_41 rfl 1 rfl ?_
      refine wk_icmp_ge (pc := 42) (tgt := 68) dX9_loose_42 rfl hf (fun hf => ?_) (fun hf => ?_)
      · refine wk_aload_n (pc := 68) dX9_loose_68 rfl 0 rfl ?_
        obtain ⟨r69, s69, hc69, hf⟩ := xbind_some hf
        refine wk_callVI (pc := 69) (As := []) (rest := []) (kX9_manyIn l hG  hc69) cw_X9_240 (by decide) dX9_loose_69 (nm_0 hG).2 (nm_0 hG).1 rfl rfl rfl (Nat.le_of_ble_eq_true rfl) ?_
        exact wk_iret (pc := 72) dX9_loose_72 rfl (xI_of hf)
      · refine wk_aload_n (pc := 45) dX9_loose_45 rfl 0 rfl ?_
        refine wk_getR (C := RX9) (T := TX9) (N := 24) (pc := 46) dX9_loose_46 (nm_0 hG).2 (nm_0 hG).1 rfl qU_X9 0 (by decide) qF_X9_9 rfl ?_
        refine wk_iconst (pc := 49) (v := (4 : Int32)) dX9_loose_49 (by decide) ?_
        refine wk_aload_n (pc := 50) dX9_loose_50 rfl 0 rfl ?_
        obtain ⟨r51, s51, hc51, hf⟩ := xbind_some hf
        refine wk_callVI (pc := 51) (As := []) (rest := [.int (4 : Int32), .ref (gA G 1)]) (kX9_drawn l hG  hc51) cw_X9_244 (by decide) dX9_loose_51 (nm_0 hG).2 (nm_0 hG).1 rfl rfl rfl (Nat.le_of_ble_eq_true rfl) ?_
        refine wk_bipush (pc := 54) (v := (100 : Int32)) dX9_loose_54 (by decide) ?_
        refine wk_irem (pc := 56) dX9_loose_56 (by decide) ?_
        refine wk_iast (pc := 57) (jj := 4) dX9_loose_57 (nm_1 hG).2 (nm_1 hG).1 (by decide) (by decide) ?_
        obtain ⟨s57, hs57, hf⟩ := xlet_some hf
        refine wk_sig hs57 ?_
        refine wk_aload_n (pc := 58) dX9_loose_58 rfl 0 rfl ?_
        obtain ⟨⟨⟩, s59, hc59, hf⟩ := xbind_some hf
        refine wk_callVU (pc := 59) (As := []) (rest := []) (kX9_hour l hG  hc59) cw_X9_231 (by decide) dX9_loose_59 (nm_0 hG).2 (nm_0 hG).1 rfl rfl rfl (Nat.le_of_ble_eq_true rfl) ?_
        obtain ⟨y62, hy62, hf⟩ := xlet_some hf
        refine wk_iinc (pc := 62) (v := y62) (lv' := [(2, .int y62), (0, .ref (gA G 0)), (1, .int p1)]) dX9_loose_62 2 rfl (by rw [hy62] <;> rfl) (by decide) rfl ?_
        refine wk_goto (pc := 65) (tgt := 40) dX9_loose_65 rfl ?_
        exact wk_lv [1, 2, 0] rfl (ih40 y62  s59 hf)
  refine wk_iload_n (pc := 0) dX9_loose_0 rfl 1 rfl ?_
  refine wk_iconst (pc := 1) (v := (1 : Int32)) dX9_loose_1 (by decide) ?_
  refine wk_bipush (pc := 2) (v := (40 : Int32)) dX9_loose_2 (by decide) ?_
  obtain ⟨r4, s4, hc4, hf⟩ := xbind_some hf
  refine wk_callSI (pc := 4) (As := [.int p1, .int (1 : Int32), .int (40 : Int32)]) (rest := []) (kX9_within l hG  hc4) cw_X9_77 (by decide) dX9_loose_4 rfl (Nat.le_of_ble_eq_true rfl) ?_
  refine wk_if_ne (pc := 7) (tgt := 17) dX9_loose_7 rfl hf (fun hf => ?_) (fun hf => ?_)
  · refine wk_aload_n (pc := 17) dX9_loose_17 rfl 0 rfl ?_
    refine wk_getR (C := RX9) (T := TX9) (N := 24) (pc := 18) dX9_loose_18 (nm_0 hG).2 (nm_0 hG).1 rfl qU_X9 0 (by decide) qF_X9_9 rfl ?_
    refine wk_iconst (pc := 21) (v := (0 : Int32)) dX9_loose_21 (by decide) ?_
    refine wk_iald (pc := 22) (jj := 0) dX9_loose_22 (nm_1 hG).2 (nm_1 hG).1 (by decide) (by decide) ?_
    refine wk_iload_n (pc := 23) dX9_loose_23 rfl 1 rfl ?_
    refine wk_iadd (pc := 24) dX9_loose_24 ?_
    refine wk_sipush (pc := 25) (v := (9999 : Int32)) dX9_loose_25 (by decide) ?_
    refine wk_icmp_le (pc := 28) (tgt := 38) dX9_loose_28 rfl hf (fun hf => ?_) (fun hf => ?_)
    · refine wk_iconst (pc := 38) (v := (0 : Int32)) dX9_loose_38 (by decide) ?_
      refine wk_istore_n (pc := 39) (lv' := [(2, .int (0 : Int32)), (0, .ref (gA G 0)), (1, .int p1)]) dX9_loose_39 rfl (by decide) rfl ?_
      exact wk_lv [1, 2, 0] rfl (J40  xF (0 : Int32)  s4 hf)
    · refine wk_aload_n (pc := 31) dX9_loose_31 rfl 0 rfl ?_
      refine wk_ldc (pc := 32) (v := (-1000000003 : Int32)) dX9_loose_32 qK_X9_174 ?_
      obtain ⟨r34, s34, hc34, hf⟩ := xbind_some hf
      refine wk_callVI (pc := 34) (As := [.int (-1000000003 : Int32)]) (rest := []) (kX9_finding l hG  hc34) cw_X9_82 (by decide) dX9_loose_34 (nm_0 hG).2 (nm_0 hG).1 rfl rfl rfl (Nat.le_of_ble_eq_true rfl) ?_
      exact wk_iret (pc := 37) dX9_loose_37 rfl (xI_of hf)
  · refine wk_aload_n (pc := 10) dX9_loose_10 rfl 0 rfl ?_
    refine wk_ldc (pc := 11) (v := (-1000000001 : Int32)) dX9_loose_11 qK_X9_81 ?_
    obtain ⟨r13, s13, hc13, hf⟩ := xbind_some hf
    refine wk_callVI (pc := 13) (As := [.int (-1000000001 : Int32)]) (rest := []) (kX9_finding l hG  hc13) cw_X9_82 (by decide) dX9_loose_13 (nm_0 hG).2 (nm_0 hG).1 rfl rfl rfl (Nat.le_of_ble_eq_true rfl) ?_
    exact wk_iret (pc := 16) dX9_loose_16 rfl (xI_of hf)
noncomputable def sX9_isBehind (p0 : Int32) (s : xS) : Option (Int32 × xS) := xbind (sX9_within p0 (0 : Int32) (60 : Int32) s) (fun r4 s4 => (if r4 = 0 ∨ r4 = 1 then some (r4, s4) else none))
set_option maxHeartbeats 4000000 in
set_option maxRecDepth 100000 in
theorem kX9_isBehind (l : Launch) {G : xG} (hG : xM1 G)  {p0 : Int32}  {s : xS} {r : Int32} {s' : xS} (hf : sX9_isBehind p0 s = some (r, s')) : xMet l G 3 yX9_isBehind cX9_isBehind 1 (some .boolean) [.int p0] s (xI r s') := by
  refine xMet.of (by decide) (Nat.le_of_ble_eq_true rfl) ?_
  show wk l G 3 RX9 cX9_isBehind 1 (some .boolean) (xI r s') 0 [(0, .int p0)] [] s
  unfold sX9_isBehind at hf
  refine wk_iload_n (pc := 0) dX9_isBehind_0 rfl 0 rfl ?_
  refine wk_iconst (pc := 1) (v := (0 : Int32)) dX9_isBehind_1 (by decide) ?_
  refine wk_bipush (pc := 2) (v := (60 : Int32)) dX9_isBehind_2 (by decide) ?_
  obtain ⟨r4, s4, hc4, hf⟩ := xbind_some hf
  refine wk_callSI (pc := 4) (As := [.int p0, .int (0 : Int32), .int (60 : Int32)]) (rest := []) (kX9_within l hG  hc4) cw_X9_77 (by decide) dX9_isBehind_4 rfl (Nat.le_of_ble_eq_true rfl) ?_
  obtain ⟨h7, hf⟩ := xif_some hf
  exact wk_zret (pc := 7) dX9_isBehind_7 rfl (x01n h7) (xI_of hf)
noncomputable def sX9_then_L59 (p2 : Int32) (y59d : Int32)  (s59 : xS) : Option (Int32 × xS) := xbind (sX9_shipIs p2 y59d s59) (fun r59 s59 => xbind (sX9_putBack r59 s59) (fun r62 s62 => some (r62, s62)))
noncomputable def sX9_then_L24   (s24 : xS) : Option (Int32 × xS) := xbind (sX9_finding (-1000000001 : Int32) s24) (fun r27 s27 => some (r27, s27))
noncomputable def sX9_then (p1 : Int32) (p2 : Int32) (p3 : Int32) (s : xS) : Option (Int32 × xS) := xbind (sX9_isBehind p1 s) (fun r1 s1 => (if r1 = 0 then sX9_then_L24  s1 else xbind (sX9_isShip p2 s1) (fun r9 s9 => (if r9 = 0 then sX9_then_L24  s9 else xbind (sX9_within p3 (0 : Int32) (1 : Int32) s9) (fun r18 s18 => (if r18 = 0 then sX9_then_L24  s18 else xbind (sX9_copy 1 3 s18) (fun _ s39 => xbind (sX9_hoursGo p1 s39) (fun _ s44 => xlet ((if p3 = 0 then (3 : Int32) else (4 : Int32))) (fun y59d => (sX9_then_L59 p2 y59d)  s44)))))))))
set_option maxHeartbeats 4000000 in
set_option maxRecDepth 100000 in
theorem kX9_then (l : Launch) {G : xG} (hG : xM1 G)  {p1 : Int32} {p2 : Int32} {p3 : Int32}  {s : xS} {r : Int32} {s' : xS} (hf : sX9_then p1 p2 p3 s = some (r, s')) : xMet l G 12 yX9_then cX9_then 4 (some .int) [.ref (gA G 0), .int p1, .int p2, .int p3] s (xI r s') := by
  refine xMet.of (by decide) (Nat.le_of_ble_eq_true rfl) ?_
  show wk l G 12 RX9 cX9_then 4 (some .int) (xI r s') 0 [(0, .ref (gA G 0)), (1, .int p1), (2, .int p2), (3, .int p3)] [] s
  unfold sX9_then at hf
  have J59 : ∀ (y59d : Int32)    (s59 : xS), (sX9_then_L59 p2 y59d)  s59 = some (r, s') → wk l G 12 RX9 cX9_then 4 (some .int) (xI r s') 59 [] [.int y59d, .int p2, .ref (gA G 0), .ref (gA G 0)] s59 := by
    intro y59d s59 hf
    unfold sX9_then_L59 at hf
    obtain ⟨r59, s59, hc59, hf⟩ := xbind_some hf
    refine wk_callVI (pc := 59) (As := [.int p2, .int y59d]) (rest := [.ref (gA G 0)]) (kX9_shipIs l hG  hc59) cw_X9_191 (by decide) dX9_then_59 (nm_0 hG).2 (nm_0 hG).1 rfl rfl rfl (Nat.le_of_ble_eq_true rfl) ?_
    obtain ⟨r62, s62, hc62, hf⟩ := xbind_some hf
    refine wk_callVI (pc := 62) (As := [.int r59]) (rest := []) (kX9_putBack l hG  hc62) cw_X9_250 (by decide) dX9_then_62 (nm_0 hG).2 (nm_0 hG).1 rfl rfl rfl (Nat.le_of_ble_eq_true rfl) ?_
    exact wk_iret (pc := 65) dX9_then_65 rfl (xI_of hf)
  have J24 : ∀     (s24 : xS), sX9_then_L24  s24 = some (r, s') → wk l G 12 RX9 cX9_then 4 (some .int) (xI r s') 24 [(0, .ref (gA G 0))] [] s24 := by
    intro s24 hf
    unfold sX9_then_L24 at hf
    refine wk_aload_n (pc := 24) dX9_then_24 rfl 0 rfl ?_
    refine wk_ldc (pc := 25) (v := (-1000000001 : Int32)) dX9_then_25 qK_X9_81 ?_
    obtain ⟨r27, s27, hc27, hf⟩ := xbind_some hf
    refine wk_callVI (pc := 27) (As := [.int (-1000000001 : Int32)]) (rest := []) (kX9_finding l hG  hc27) cw_X9_82 (by decide) dX9_then_27 (nm_0 hG).2 (nm_0 hG).1 rfl rfl rfl (Nat.le_of_ble_eq_true rfl) ?_
    exact wk_iret (pc := 30) dX9_then_30 rfl (xI_of hf)
  refine wk_iload_n (pc := 0) dX9_then_0 rfl 1 rfl ?_
  obtain ⟨r1, s1, hc1, hf⟩ := xbind_some hf
  refine wk_callSI (pc := 1) (As := [.int p1]) (rest := []) (kX9_isBehind l hG  hc1) cw_X9_247 (by decide) dX9_then_1 rfl (Nat.le_of_ble_eq_true rfl) ?_
  refine wk_if_eq (pc := 4) (tgt := 24) dX9_then_4 rfl hf (fun hf => ?_) (fun hf => ?_)
  · exact wk_lv [0] rfl (J24    s1 hf)
  · refine wk_aload_n (pc := 7) dX9_then_7 rfl 0 rfl ?_
    refine wk_iload_n (pc := 8) dX9_then_8 rfl 2 rfl ?_
    obtain ⟨r9, s9, hc9, hf⟩ := xbind_some hf
    refine wk_callVI (pc := 9) (As := [.int p2]) (rest := []) (kX9_isShip l hG  hc9) cw_X9_218 (by decide) dX9_then_9 (nm_0 hG).2 (nm_0 hG).1 rfl rfl rfl (Nat.le_of_ble_eq_true rfl) ?_
    refine wk_if_eq (pc := 12) (tgt := 24) dX9_then_12 rfl hf (fun hf => ?_) (fun hf => ?_)
    · exact wk_lv [0] rfl (J24    s9 hf)
    · refine wk_iload_n (pc := 15) dX9_then_15 rfl 3 rfl ?_
      refine wk_iconst (pc := 16) (v := (0 : Int32)) dX9_then_16 (by decide) ?_
      refine wk_iconst (pc := 17) (v := (1 : Int32)) dX9_then_17 (by decide) ?_
      obtain ⟨r18, s18, hc18, hf⟩ := xbind_some hf
      refine wk_callSI (pc := 18) (As := [.int p3, .int (0 : Int32), .int (1 : Int32)]) (rest := []) (kX9_within l hG  hc18) cw_X9_77 (by decide) dX9_then_18 rfl (Nat.le_of_ble_eq_true rfl) ?_
      refine wk_if_ne (pc := 21) (tgt := 31) dX9_then_21 rfl hf (fun hf => ?_) (fun hf => ?_)
      · refine wk_aload_n (pc := 31) dX9_then_31 rfl 0 rfl ?_
        refine wk_getR (C := RX9) (T := TX9) (N := 24) (pc := 32) dX9_then_32 (nm_0 hG).2 (nm_0 hG).1 rfl qU_X9 0 (by decide) qF_X9_9 rfl ?_
        refine wk_aload_n (pc := 35) dX9_then_35 rfl 0 rfl ?_
        refine wk_getR (C := RX9) (T := TX9) (N := 24) (pc := 36) dX9_then_36 (nm_0 hG).2 (nm_0 hG).1 rfl qU_X9 2 (by decide) qF_X9_16 rfl ?_
        obtain ⟨⟨⟩, s39, hc39, hf⟩ := xbind_some hf
        refine wk_callSU (pc := 39) (As := [.ref (gA G 1), .ref (gA G 3)]) (rest := []) (kX9_copy l hG (nm_1 hG) (nm_3 hG) hc39) cw_X9_73 (by decide) dX9_then_39 rfl (Nat.le_of_ble_eq_true rfl) ?_
        refine wk_aload_n (pc := 42) dX9_then_42 rfl 0 rfl ?_
        refine wk_iload_n (pc := 43) dX9_then_43 rfl 1 rfl ?_
        obtain ⟨⟨⟩, s44, hc44, hf⟩ := xbind_some hf
        refine wk_callVU (pc := 44) (As := [.int p1]) (rest := []) (kX9_hoursGo l hG  hc44) cw_X9_237 (by decide) dX9_then_44 (nm_0 hG).2 (nm_0 hG).1 rfl rfl rfl (Nat.le_of_ble_eq_true rfl) ?_
        refine wk_aload_n (pc := 47) dX9_then_47 rfl 0 rfl ?_
        refine wk_aload_n (pc := 48) dX9_then_48 rfl 0 rfl ?_
        refine wk_iload_n (pc := 49) dX9_then_49 rfl 2 rfl ?_
        refine wk_iload_n (pc := 50) dX9_then_50 rfl 3 rfl ?_
        obtain ⟨y59d, hy59d, hf⟩ := xlet_some hf
        have K59 : wk l G 12 RX9 cX9_then 4 (some .int) (xI r s') 59 [(0, .ref (gA G 0)), (1, .int p1), (2, .int p2), (3, .int p3)] [.int y59d, .int p2, .ref (gA G 0), .ref (gA G 0)] s44 := by
          exact wk_lv [] rfl (J59 y59d   s44 hf)
        by_cases c51 : p3 = 0
        · rw [if_pos c51] at hy59d
          refine wk_if_ne_p (pc := 51) (tgt := 58) dX9_then_51 rfl c51 ?_
          refine wk_iconst (pc := 54) (v := (3 : Int32)) dX9_then_54 (by decide) ?_
          refine wk_goto (pc := 55) (tgt := 59) dX9_then_55 rfl ?_
          exact wk_top hy59d K59
        · rw [if_neg c51] at hy59d
          refine wk_if_ne_m (pc := 51) (tgt := 58) dX9_then_51 rfl c51 ?_
          refine wk_iconst (pc := 58) (v := (4 : Int32)) dX9_then_58 (by decide) ?_
          exact wk_top hy59d K59
      · exact wk_lv [0] rfl (J24    s18 hf)
noncomputable def sX9_lostNow_L4  (self4 : Int32 × Int32 → xS → Option (Int32 × xS)) : Int32 × Int32 → xS → Option (Int32 × xS) := fun (a1_4, a2_4) s4 => (if (s4 1 2) ≤ a2_4 then some (a1_4, s4) else xbind (sX9_shipIs a2_4 (4 : Int32) s4) (fun r18 s18 => xlet ((a1_4 ||| (r18 <<< (a2_4 &&& 31)))) (fun y24 => xlet (a2_4 + (1 : Int32)) (fun y25 => self4 (y24, y25) s18))))
noncomputable def sX9_lostNow  (s : xS) : Option (Int32 × xS) := xloop sX9_lostNow_L4 xF ((0 : Int32), (0 : Int32)) s
set_option maxHeartbeats 4000000 in
set_option maxRecDepth 100000 in
theorem kX9_lostNow (l : Launch) {G : xG} (hG : xM1 G)    {s : xS} {r : Int32} {s' : xS} (hf : sX9_lostNow  s = some (r, s')) : xMet l G 4 yX9_lostNow cX9_lostNow 3 (some .int) [.ref (gA G 0)] s (xI r s') := by
  refine xMet.of (by decide) (Nat.le_of_ble_eq_true rfl) ?_
  show wk l G 4 RX9 cX9_lostNow 3 (some .int) (xI r s') 0 [(0, .ref (gA G 0))] [] s
  unfold sX9_lostNow at hf
  have J4 : ∀   (N : Nat) (a1_4 : Int32) (a2_4 : Int32)  (s4 : xS), xloop sX9_lostNow_L4 N (a1_4, a2_4) s4 = some (r, s') → wk l G 4 RX9 cX9_lostNow 3 (some .int) (xI r s') 4 [(0, .ref (gA G 0)), (1, .int a1_4), (2, .int a2_4)] [] s4 := by
    intro N
    induction N with
    | zero => intro a1_4 a2_4 s4 hf; exact (xloop_0 hf).elim
    | succ N ih4 =>
      intro a1_4 a2_4 s4 hf
      rw [xloop_s] at hf
      generalize xloop sX9_lostNow_L4 N = self4 at hf ih4
      unfold sX9_lostNow_L4 at hf
      dsimp only at hf
      refine wk_iload_n (pc := 4) dX9_lostNow_4 rfl 2 rfl ?_
      refine wk_aload_n (pc := 5) dX9_lostNow_5 rfl 0 rfl ?_
      refine wk_getR (C := RX9) (T := TX9) (N := 24) (pc := 6) dX9_lostNow_6 (nm_0 hG).2 (nm_0 hG).1 rfl qU_X9 0 (by decide) qF_X9_9 rfl ?_
      refine wk_iconst (pc := 9) (v := (2 : Int32)) dX9_lostNow_9 (by decide) ?_
      refine wk_iald (pc := 10) (jj := 2) dX9_lostNow_10 (nm_1 hG).2 (nm_1 hG).1 (by decide) (by decide) ?_
      refine wk_icmp_ge (pc := 11) (tgt := 31) dX9_lostNow_11 rfl hf (fun hf => ?_) (fun hf => ?_)
      · refine wk_iload_n (pc := 31) dX9_lostNow_31 rfl 1 rfl ?_
        exact wk_iret (pc := 32) dX9_lostNow_32 rfl (xI_of hf)
      · refine wk_iload_n (pc := 14) dX9_lostNow_14 rfl 1 rfl ?_
        refine wk_aload_n (pc := 15) dX9_lostNow_15 rfl 0 rfl ?_
        refine wk_iload_n (pc := 16) dX9_lostNow_16 rfl 2 rfl ?_
        refine wk_iconst (pc := 17) (v := (4 : Int32)) dX9_lostNow_17 (by decide) ?_
        obtain ⟨r18, s18, hc18, hf⟩ := xbind_some hf
        refine wk_callVI (pc := 18) (As := [.int a2_4, .int (4 : Int32)]) (rest := [.int a1_4]) (kX9_shipIs l hG  hc18) cw_X9_191 (by decide) dX9_lostNow_18 (nm_0 hG).2 (nm_0 hG).1 rfl rfl rfl (Nat.le_of_ble_eq_true rfl) ?_
        refine wk_iload_n (pc := 21) dX9_lostNow_21 rfl 2 rfl ?_
        refine wk_ishl (pc := 22) dX9_lostNow_22 ?_
        refine wk_ior (pc := 23) dX9_lostNow_23 ?_
        obtain ⟨y24, hy24, hf⟩ := xlet_some hf
        refine wk_top hy24 ?_
        refine wk_istore_n (pc := 24) (lv' := [(1, .int y24), (0, .ref (gA G 0)), (2, .int a2_4)]) dX9_lostNow_24 rfl (by decide) rfl ?_
        obtain ⟨y25, hy25, hf⟩ := xlet_some hf
        refine wk_iinc (pc := 25) (v := y25) (lv' := [(2, .int y25), (1, .int y24), (0, .ref (gA G 0))]) dX9_lostNow_25 2 rfl (by rw [hy25] <;> rfl) (by decide) rfl ?_
        refine wk_goto (pc := 28) (tgt := 4) dX9_lostNow_28 rfl ?_
        exact wk_lv [2, 1, 0] rfl (ih4 y24 y25  s18 hf)
  refine wk_iconst (pc := 0) (v := (0 : Int32)) dX9_lostNow_0 (by decide) ?_
  refine wk_istore_n (pc := 1) (lv' := [(1, .int (0 : Int32)), (0, .ref (gA G 0))]) dX9_lostNow_1 rfl (by decide) rfl ?_
  refine wk_iconst (pc := 2) (v := (0 : Int32)) dX9_lostNow_2 (by decide) ?_
  refine wk_istore_n (pc := 3) (lv' := [(2, .int (0 : Int32)), (1, .int (0 : Int32)), (0, .ref (gA G 0))]) dX9_lostNow_3 rfl (by decide) rfl ?_
  exact wk_lv [2, 1, 0] rfl (J4  xF (0 : Int32) (0 : Int32)  s hf)
noncomputable def sX9_lost_L58 (p1 : Int32) (a3_34 : Int32) (r28 : Int32)  (s58 : xS) : Option (Int32 × xS) := xbind (sX9_lostNow  s58) (fun r59 s59 => xlet ((r59 &&& (r28 ^^^ (-1 : Int32)))) (fun y66 => xbind (sX9_copy 3 1 s59) (fun _ s76 => (if y66 = 0 then xbind (sX9_finding (-1000000002 : Int32) s76) (fun r88 s88 => some (r88, s88)) else (if p1 = 0 then some (a3_34, s76) else xbind (sX9_bits ((y66 &&& (-y66)) - (1 : Int32)) s76) (fun r110 s110 => some (r110, s110)))))))
noncomputable def sX9_lost_L34 (p1 : Int32) (r28 : Int32) (self34 : Int32 → xS → Option (Int32 × xS)) : Int32 → xS → Option (Int32 × xS) := fun a3_34 s34 => (if (60 : Int32) ≤ a3_34 then (sX9_lost_L58 p1 a3_34 r28)  s34 else xbind (sX9_lostNow  s34) (fun r41 s41 => (if r41 = r28 then xbind (sX9_hour  s41) (fun _ s49 => xlet (a3_34 + (1 : Int32)) (fun y52 => self34 y52 s49)) else (sX9_lost_L58 p1 a3_34 r28)  s41)))
noncomputable def sX9_lost (p1 : Int32) (s : xS) : Option (Int32 × xS) := xbind (sX9_within p1 (0 : Int32) (1 : Int32) s) (fun r3 s3 => (if r3 = 0 then xbind (sX9_finding (-1000000001 : Int32) s3) (fun r12 s12 => some (r12, s12)) else xbind (sX9_copy 1 3 s3) (fun _ s24 => xbind (sX9_lostNow  s24) (fun r28 s28 => xloop (sX9_lost_L34 p1 r28) xF (0 : Int32) s28))))
set_option maxHeartbeats 4000000 in
set_option maxRecDepth 100000 in
theorem kX9_lost (l : Launch) {G : xG} (hG : xM1 G)  {p1 : Int32}  {s : xS} {r : Int32} {s' : xS} (hf : sX9_lost p1 s = some (r, s')) : xMet l G 11 yX9_lost cX9_lost 5 (some .int) [.ref (gA G 0), .int p1] s (xI r s') := by
  refine xMet.of (by decide) (Nat.le_of_ble_eq_true rfl) ?_
  show wk l G 11 RX9 cX9_lost 5 (some .int) (xI r s') 0 [(0, .ref (gA G 0)), (1, .int p1)] [] s
  unfold sX9_lost at hf
  have J58 : ∀ (a3_34 : Int32) (r28 : Int32)    (s58 : xS), (sX9_lost_L58 p1 a3_34 r28)  s58 = some (r, s') → wk l G 11 RX9 cX9_lost 5 (some .int) (xI r s') 58 [(0, .ref (gA G 0)), (1, .int p1), (2, .int r28), (3, .int a3_34)] [] s58 := by
    intro a3_34 r28 s58 hf
    unfold sX9_lost_L58 at hf
    refine wk_aload_n (pc := 58) dX9_lost_58 rfl 0 rfl ?_
    obtain ⟨r59, s59, hc59, hf⟩ := xbind_some hf
    refine wk_callVI (pc := 59) (As := []) (rest := []) (kX9_lostNow l hG  hc59) cw_X9_253 (by decide) dX9_lost_59 (nm_0 hG).2 (nm_0 hG).1 rfl rfl rfl (Nat.le_of_ble_eq_true rfl) ?_
    refine wk_iload_n (pc := 62) dX9_lost_62 rfl 2 rfl ?_
    refine wk_iconst (pc := 63) (v := (-1 : Int32)) dX9_lost_63 (by decide) ?_
    refine wk_ixor (pc := 64) dX9_lost_64 ?_
    refine wk_iand (pc := 65) dX9_lost_65 ?_
    obtain ⟨y66, hy66, hf⟩ := xlet_some hf
    refine wk_top hy66 ?_
    refine wk_istore (pc := 66) (lv' := [(4, .int y66), (0, .ref (gA G 0)), (1, .int p1), (2, .int r28), (3, .int a3_34)]) dX9_lost_66 (by decide) rfl ?_
    refine wk_aload_n (pc := 68) dX9_lost_68 rfl 1 rfl ?_
    refine wk_getR (C := RX9) (T := TX9) (N := 24) (pc := 69) dX9_lost_69 (nm_0 hG).2 (nm_0 hG).1 rfl qU_X9 2 (by decide) qF_X9_16 rfl ?_
    refine wk_aload_n (pc := 72) dX9_lost_72 rfl 1 rfl ?_
    refine wk_getR (C := RX9) (T := TX9) (N := 24) (pc := 73) dX9_lost_73 (nm_0 hG).2 (nm_0 hG).1 rfl qU_X9 0 (by decide) qF_X9_9 rfl ?_
    obtain ⟨⟨⟩, s76, hc76, hf⟩ := xbind_some hf
    refine wk_callSU (pc := 76) (As := [.ref (gA G 3), .ref (gA G 1)]) (rest := []) (kX9_copy l hG (nm_3 hG) (nm_1 hG) hc76) cw_X9_73 (by decide) dX9_lost_76 rfl (Nat.le_of_ble_eq_true rfl) ?_
    refine wk_iload (pc := 79) dX9_lost_79 0 rfl ?_
    refine wk_if_ne (pc := 81) (tgt := 94) dX9_lost_81 rfl hf (fun hf => ?_) (fun hf => ?_)
    · refine wk_iload_n (pc := 94) dX9_lost_94 rfl 2 rfl ?_
      refine wk_if_ne (pc := 95) (tgt := 102) dX9_lost_95 rfl hf (fun hf => ?_) (fun hf => ?_)
      · refine wk_iload (pc := 102) dX9_lost_102 0 rfl ?_
        refine wk_iload (pc := 104) dX9_lost_104 0 rfl ?_
        refine wk_ineg (pc := 106) dX9_lost_106 ?_
        refine wk_iand (pc := 107) dX9_lost_107 ?_
        refine wk_iconst (pc := 108) (v := (1 : Int32)) dX9_lost_108 (by decide) ?_
        refine wk_isub (pc := 109) dX9_lost_109 ?_
        obtain ⟨r110, s110, hc110, hf⟩ := xbind_some hf
        refine wk_callSI (pc := 110) (As := [.int ((y66 &&& (-y66)) - (1 : Int32))]) (rest := []) (kX9_bits l hG  hc110) cw_X9_234 (by decide) dX9_lost_110 rfl (Nat.le_of_ble_eq_true rfl) ?_
        exact wk_iret (pc := 113) dX9_lost_113 rfl (xI_of hf)
      · refine wk_iload_n (pc := 98) dX9_lost_98 rfl 4 rfl ?_
        refine wk_goto (pc := 99) (tgt := 113) dX9_lost_99 rfl ?_
        exact wk_iret (pc := 113) dX9_lost_113 rfl (xI_of hf)
    · refine wk_aload_n (pc := 84) dX9_lost_84 rfl 1 rfl ?_
      refine wk_ldcw (pc := 85) (v := (-1000000002 : Int32)) dX9_lost_85 qK_X9_256 ?_
      obtain ⟨r88, s88, hc88, hf⟩ := xbind_some hf
      refine wk_callVI (pc := 88) (As := [.int (-1000000002 : Int32)]) (rest := []) (kX9_finding l hG  hc88) cw_X9_82 (by decide) dX9_lost_88 (nm_0 hG).2 (nm_0 hG).1 rfl rfl rfl (Nat.le_of_ble_eq_true rfl) ?_
      refine wk_goto (pc := 91) (tgt := 113) dX9_lost_91 rfl ?_
      exact wk_iret (pc := 113) dX9_lost_113 rfl (xI_of hf)
  have J34 : ∀ (r28 : Int32)  (N : Nat) (a3_34 : Int32)  (s34 : xS), xloop (sX9_lost_L34 p1 r28) N a3_34 s34 = some (r, s') → wk l G 11 RX9 cX9_lost 5 (some .int) (xI r s') 34 [(0, .ref (gA G 0)), (1, .int p1), (2, .int r28), (3, .int a3_34)] [] s34 := by
    intro r28
    intro N
    induction N with
    | zero => intro a3_34 s34 hf; exact (xloop_0 hf).elim
    | succ N ih34 =>
      intro a3_34 s34 hf
      rw [xloop_s] at hf
      generalize xloop (sX9_lost_L34 p1 r28) N = self34 at hf ih34
      unfold sX9_lost_L34 at hf
      refine wk_iload_n (pc := 34) dX9_lost_34 rfl 3 rfl ?_
      refine wk_bipush (pc := 35) (v := (60 : Int32)) dX9_lost_35 (by decide) ?_
      refine wk_icmp_ge (pc := 37) (tgt := 58) dX9_lost_37 rfl hf (fun hf => ?_) (fun hf => ?_)
      · exact wk_lv [0, 1, 2, 3] rfl (J58 a3_34 r28   s34 hf)
      · refine wk_aload_n (pc := 40) dX9_lost_40 rfl 0 rfl ?_
        obtain ⟨r41, s41, hc41, hf⟩ := xbind_some hf
        refine wk_callVI (pc := 41) (As := []) (rest := []) (kX9_lostNow l hG  hc41) cw_X9_253 (by decide) dX9_lost_41 (nm_0 hG).2 (nm_0 hG).1 rfl rfl rfl (Nat.le_of_ble_eq_true rfl) ?_
        refine wk_iload_n (pc := 44) dX9_lost_44 rfl 2 rfl ?_
        refine wk_icmp_ne (pc := 45) (tgt := 58) dX9_lost_45 rfl hf (fun hf => ?_) (fun hf => ?_)
        · exact wk_lv [0, 1, 2, 3] rfl (J58 a3_34 r28   s41 hf)
        · refine wk_aload_n (pc := 48) dX9_lost_48 rfl 0 rfl ?_
          obtain ⟨⟨⟩, s49, hc49, hf⟩ := xbind_some hf
          refine wk_callVU (pc := 49) (As := []) (rest := []) (kX9_hour l hG  hc49) cw_X9_231 (by decide) dX9_lost_49 (nm_0 hG).2 (nm_0 hG).1 rfl rfl rfl (Nat.le_of_ble_eq_true rfl) ?_
          obtain ⟨y52, hy52, hf⟩ := xlet_some hf
          refine wk_iinc (pc := 52) (v := y52) (lv' := [(3, .int y52), (0, .ref (gA G 0)), (1, .int p1), (2, .int r28)]) dX9_lost_52 3 rfl (by rw [hy52] <;> rfl) (by decide) rfl ?_
          refine wk_goto (pc := 55) (tgt := 34) dX9_lost_55 rfl ?_
          exact wk_lv [1, 2, 3, 0] rfl (ih34 y52  s49 hf)
  refine wk_iload_n (pc := 0) dX9_lost_0 rfl 1 rfl ?_
  refine wk_iconst (pc := 1) (v := (0 : Int32)) dX9_lost_1 (by decide) ?_
  refine wk_iconst (pc := 2) (v := (1 : Int32)) dX9_lost_2 (by decide) ?_
  obtain ⟨r3, s3, hc3, hf⟩ := xbind_some hf
  refine wk_callSI (pc := 3) (As := [.int p1, .int (0 : Int32), .int (1 : Int32)]) (rest := []) (kX9_within l hG  hc3) cw_X9_77 (by decide) dX9_lost_3 rfl (Nat.le_of_ble_eq_true rfl) ?_
  refine wk_if_ne (pc := 6) (tgt := 16) dX9_lost_6 rfl hf (fun hf => ?_) (fun hf => ?_)
  · refine wk_aload_n (pc := 16) dX9_lost_16 rfl 0 rfl ?_
    refine wk_getR (C := RX9) (T := TX9) (N := 24) (pc := 17) dX9_lost_17 (nm_0 hG).2 (nm_0 hG).1 rfl qU_X9 0 (by decide) qF_X9_9 rfl ?_
    refine wk_aload_n (pc := 20) dX9_lost_20 rfl 0 rfl ?_
    refine wk_getR (C := RX9) (T := TX9) (N := 24) (pc := 21) dX9_lost_21 (nm_0 hG).2 (nm_0 hG).1 rfl qU_X9 2 (by decide) qF_X9_16 rfl ?_
    obtain ⟨⟨⟩, s24, hc24, hf⟩ := xbind_some hf
    refine wk_callSU (pc := 24) (As := [.ref (gA G 1), .ref (gA G 3)]) (rest := []) (kX9_copy l hG (nm_1 hG) (nm_3 hG) hc24) cw_X9_73 (by decide) dX9_lost_24 rfl (Nat.le_of_ble_eq_true rfl) ?_
    refine wk_aload_n (pc := 27) dX9_lost_27 rfl 0 rfl ?_
    obtain ⟨r28, s28, hc28, hf⟩ := xbind_some hf
    refine wk_callVI (pc := 28) (As := []) (rest := []) (kX9_lostNow l hG  hc28) cw_X9_253 (by decide) dX9_lost_28 (nm_0 hG).2 (nm_0 hG).1 rfl rfl rfl (Nat.le_of_ble_eq_true rfl) ?_
    refine wk_istore_n (pc := 31) (lv' := [(2, .int r28), (0, .ref (gA G 0)), (1, .int p1)]) dX9_lost_31 rfl (by decide) rfl ?_
    refine wk_iconst (pc := 32) (v := (0 : Int32)) dX9_lost_32 (by decide) ?_
    refine wk_istore_n (pc := 33) (lv' := [(3, .int (0 : Int32)), (2, .int r28), (0, .ref (gA G 0)), (1, .int p1)]) dX9_lost_33 rfl (by decide) rfl ?_
    exact wk_lv [2, 3, 1, 0] rfl (J34 r28 xF (0 : Int32)  s28 hf)
  · refine wk_aload_n (pc := 9) dX9_lost_9 rfl 0 rfl ?_
    refine wk_ldc (pc := 10) (v := (-1000000001 : Int32)) dX9_lost_10 qK_X9_81 ?_
    obtain ⟨r12, s12, hc12, hf⟩ := xbind_some hf
    refine wk_callVI (pc := 12) (As := [.int (-1000000001 : Int32)]) (rest := []) (kX9_finding l hG  hc12) cw_X9_82 (by decide) dX9_lost_12 (nm_0 hG).2 (nm_0 hG).1 rfl rfl rfl (Nat.le_of_ble_eq_true rfl) ?_
    exact wk_iret (pc := 15) dX9_lost_15 rfl (xI_of hf)
