noncomputable def sX0_renew_L12 (k : Nat) (self12 : Int32 → xS → Option (Unit × xS)) : Int32 → xS → Option (Unit × xS) := fun a2_12 s12 => (if (8 : Int32) ≤ a2_12 then some ((), s12) else (if xin a2_12 8 then xlet (xup s12 (k + 1) (upd (s12 (k + 1)) a2_12.toNatClampNeg (5 : Int32))) (fun s24 => (if xin a2_12 8 then xlet (xup s24 (k + 2) (upd (s24 (k + 2)) a2_12.toNatClampNeg (1 : Int32))) (fun s31 => (if xin a2_12 8 then xlet (xup s31 (k + 3) (upd (s31 (k + 3)) a2_12.toNatClampNeg (0 : Int32))) (fun s38 => xlet (a2_12 + (1 : Int32)) (fun y39 => self12 y39 s38)) else none)) else none)) else none))
noncomputable def sX0_renew (k : Nat) (p1 : Int32) (s : xS) : Option (Unit × xS) := xlet (xup s k (upd (s k) 0 p1)) (fun s2 => xlet (xup s2 k (upd (s2 k) 3 (0 : Int32))) (fun s7 => xloop (sX0_renew_L12 k) xF (0 : Int32) s7))
set_option maxHeartbeats 4000000 in
set_option maxRecDepth 100000 in
theorem kX0_renew (l : Launch) {G : xG} (hG : xC1 G)  {k : Nat} {p1 : Int32} (hk : k ∈ lBay) {s : xS} {s' : xS} (hf : sX0_renew k p1 s = some ((), s')) : xMet l G 2 yX0_renew cX0_renew 3 none [.ref (gA G k), .int p1] s (xU s') := by
  refine xMet.of (by decide) (Nat.le_of_ble_eq_true rfl) ?_
  show wk l G 2 RX0 cX0_renew 3 none (xU s') 0 [(0, .ref (gA G k)), (1, .int p1)] [] s
  unfold sX0_renew at hf
  have J12 : ∀   (N : Nat) (a2_12 : Int32)  (s12 : xS), xloop (sX0_renew_L12 k) N a2_12 s12 = some ((), s') → wk l G 2 RX0 cX0_renew 3 none (xU s') 12 [(0, .ref (gA G k)), (2, .int a2_12)] [] s12 := by
    intro N
    induction N with
    | zero => intro a2_12 s12 hf; exact (xloop_0 hf).elim
    | succ N ih12 =>
      intro a2_12 s12 hf
      rw [xloop_s] at hf
      generalize xloop (sX0_renew_L12 k) N = self12 at hf ih12
      unfold sX0_renew_L12 at hf
      refine wk_iload_n (pc := 12) dX0_renew_12 rfl 1 rfl ?_
      refine wk_bipush (pc := 13) (v := (8 : Int32)) dX0_renew_13 (by decide) ?_
      refine wk_icmp_ge (pc := 15) (tgt := 45) dX0_renew_15 rfl hf (fun hf => ?_) (fun hf => ?_)
      · exact wk_vret (pc := 45) dX0_renew_45 rfl (xU_of hf)
      · refine wk_aload_n (pc := 18) dX0_renew_18 rfl 0 rfl ?_
        refine wk_getR (C := RX0) (T := TX0) (N := 9) (pc := 19) dX0_renew_19 (sX0_0 hG hk).2 (sX0_0 hG hk).1 rfl qU_X0 4 (by decide) qF_X0_24 rfl ?_
        refine wk_iload_n (pc := 22) dX0_renew_22 rfl 1 rfl ?_
        refine wk_iconst (pc := 23) (v := (5 : Int32)) dX0_renew_23 (by decide) ?_
        obtain ⟨h24, hf⟩ := xif_some hf
        refine wk_iast (pc := 24) (jj := a2_12.toNatClampNeg) dX0_renew_24 (sX0_1 hG hk).2 (sX0_1 hG hk).1 h24 rfl ?_
        obtain ⟨s24, hs24, hf⟩ := xlet_some hf
        refine wk_sig hs24 ?_
        refine wk_aload_n (pc := 25) dX0_renew_25 rfl 0 rfl ?_
        refine wk_getR (C := RX0) (T := TX0) (N := 9) (pc := 26) dX0_renew_26 (sX0_0 hG hk).2 (sX0_0 hG hk).1 rfl qU_X0 5 (by decide) qF_X0_28 rfl ?_
        refine wk_iload_n (pc := 29) dX0_renew_29 rfl 1 rfl ?_
        refine wk_iconst (pc := 30) (v := (1 : Int32)) dX0_renew_30 (by decide) ?_
        obtain ⟨h31, hf⟩ := xif_some hf
        refine wk_iast (pc := 31) (jj := a2_12.toNatClampNeg) dX0_renew_31 (sX0_2 hG hk).2 (sX0_2 hG hk).1 h31 rfl ?_
        obtain ⟨s31, hs31, hf⟩ := xlet_some hf
        refine wk_sig hs31 ?_
        refine wk_aload_n (pc := 32) dX0_renew_32 rfl 0 rfl ?_
        refine wk_getR (C := RX0) (T := TX0) (N := 9) (pc := 33) dX0_renew_33 (sX0_0 hG hk).2 (sX0_0 hG hk).1 rfl qU_X0 6 (by decide) qF_X0_31 rfl ?_
        refine wk_iload_n (pc := 36) dX0_renew_36 rfl 1 rfl ?_
        refine wk_iconst (pc := 37) (v := (0 : Int32)) dX0_renew_37 (by decide) ?_
        obtain ⟨h38, hf⟩ := xif_some hf
        refine wk_iast (pc := 38) (jj := a2_12.toNatClampNeg) dX0_renew_38 (sX0_3 hG hk).2 (sX0_3 hG hk).1 h38 rfl ?_
        obtain ⟨s38, hs38, hf⟩ := xlet_some hf
        refine wk_sig hs38 ?_
        obtain ⟨y39, hy39, hf⟩ := xlet_some hf
        refine wk_iinc (pc := 39) (v := y39) (lv' := [(2, .int y39), (0, .ref (gA G k))]) dX0_renew_39 1 rfl (by rw [hy39] <;> rfl) (by decide) rfl ?_
        refine wk_goto (pc := 42) (tgt := 12) dX0_renew_42 rfl ?_
        exact wk_lv [1, 0] rfl (ih12 y39  s38 hf)
  refine wk_aload_n (pc := 0) dX0_renew_0 rfl 0 rfl ?_
  refine wk_iload_n (pc := 1) dX0_renew_1 rfl 1 rfl ?_
  refine wk_putI (C := RX0) (T := TX0) (N := 9) (ty := .int) (pc := 2) dX0_renew_2 (sX0_0 hG hk).2 (sX0_0 hG hk).1 rfl qU_X0 tyX0 tyX0_ok nmX0 0 (by decide) qF_X0_9 rfl rfl rfl rfl rfl ?_
  obtain ⟨s2, hs2, hf⟩ := xlet_some hf
  refine wk_sig hs2 ?_
  refine wk_aload_n (pc := 5) dX0_renew_5 rfl 0 rfl ?_
  refine wk_iconst (pc := 6) (v := (0 : Int32)) dX0_renew_6 (by decide) ?_
  refine wk_putI (C := RX0) (T := TX0) (N := 9) (ty := .int) (pc := 7) dX0_renew_7 (sX0_0 hG hk).2 (sX0_0 hG hk).1 rfl qU_X0 tyX0 tyX0_ok nmX0 3 (by decide) qF_X0_21 rfl rfl rfl rfl rfl ?_
  obtain ⟨s7, hs7, hf⟩ := xlet_some hf
  refine wk_sig hs7 ?_
  refine wk_iconst (pc := 10) (v := (0 : Int32)) dX0_renew_10 (by decide) ?_
  refine wk_istore_n (pc := 11) (lv' := [(2, .int (0 : Int32)), (0, .ref (gA G k)), (1, .int p1)]) dX0_renew_11 rfl (by decide) rfl ?_
  exact wk_lv [1, 0] rfl (J12  xF (0 : Int32)  s7 hf)
noncomputable def sX0_lawOf (k : Nat) (p1 : Int32) (s : xS) : Option (Nat × xS) := xlet ((if p1 = 0 then (k + 4) else (k + 7))) (fun y15d => some (y15d, s))
set_option maxHeartbeats 4000000 in
set_option maxRecDepth 100000 in
theorem kX0_lawOf (l : Launch) {G : xG} (hG : xC1 G)  {k : Nat} {p1 : Int32} (hk : k ∈ lBay) {s : xS} {r : Nat} {s' : xS} (hf : sX0_lawOf k p1 s = some (r, s')) : xMet l G 2 yX0_lawOf cX0_lawOf 2 (some (.object "OldLight$Law")) [.ref (gA G k), .int p1] s (xR G r s') := by
  refine xMet.of (by decide) (Nat.le_of_ble_eq_true rfl) ?_
  show wk l G 2 RX0 cX0_lawOf 2 (some (.object "OldLight$Law")) (xR G r s') 0 [(0, .ref (gA G k)), (1, .int p1)] [] s
  unfold sX0_lawOf at hf
  refine wk_iload_n (pc := 0) dX0_lawOf_0 rfl 1 rfl ?_
  obtain ⟨y15d, hy15d, hf⟩ := xlet_some hf
  have fy15d : y15d ∈ lLaw := by
    rw [hy15d]
    by_cases c1 : p1 = 0
    · rw [if_pos c1]
      exact (law4 hk)
    · rw [if_neg c1]
      exact (law7 hk)
  have K15 : wk l G 2 RX0 cX0_lawOf 2 (some (.object "OldLight$Law")) (xR G r s') 15 [(0, .ref (gA G k)), (1, .int p1)] [.ref (gA G y15d)] s := by
    exact wk_aret (pc := 15) dX0_lawOf_15 rfl (xR_of hf)
  by_cases c1 : p1 = 0
  · rw [if_pos c1] at hy15d
    refine wk_if_ne_p (pc := 1) (tgt := 11) dX0_lawOf_1 rfl c1 ?_
    refine wk_aload_n (pc := 4) dX0_lawOf_4 rfl 0 rfl ?_
    refine wk_getR (C := RX0) (T := TX0) (N := 9) (pc := 5) dX0_lawOf_5 (sX0_0 hG hk).2 (sX0_0 hG hk).1 rfl qU_X0 7 (by decide) qF_X0_37 rfl ?_
    refine wk_goto (pc := 8) (tgt := 15) dX0_lawOf_8 rfl ?_
    exact wk_topR hy15d K15
  · rw [if_neg c1] at hy15d
    refine wk_if_ne_m (pc := 1) (tgt := 11) dX0_lawOf_1 rfl c1 ?_
    refine wk_aload_n (pc := 11) dX0_lawOf_11 rfl 0 rfl ?_
    refine wk_getR (C := RX0) (T := TX0) (N := 9) (pc := 12) dX0_lawOf_12 (sX0_0 hG hk).2 (sX0_0 hG hk).1 rfl qU_X0 8 (by decide) qF_X0_41 rfl ?_
    exact wk_topR hy15d K15
noncomputable def sX0_give_L56 (t0_41 : Int32) (y56d : Int32)  (s56 : xS) : Option (Int32 × xS) := some ((if (0 : Int32) < (if y56d < t0_41 then y56d else t0_41) then (if y56d < t0_41 then y56d else t0_41) else (0 : Int32)), s56)
noncomputable def sX0_give_L41 (p1 : Int32) (t0_41 : Int32) (s41 : xS) : Option (Int32 × xS) := xlet ((if p1 = 0 then (19 : Int32) else (1 : Int32))) (fun y56d => (sX0_give_L56 t0_41 y56d)  s41)
noncomputable def sX0_give_L17 (p1 : Int32) (p2 : Int32) (p3 : Int32) (p4 : Int32) (r2 : Nat) (y17d : Int32)  (s17 : xS) : Option (Int32 × xS) := xbind (sX4_isEmpty r2 s17) (fun r21 s21 => (if r21 = 0 then xbind (sX4_value r2 p2 p3 p4 s21) (fun r38 s38 => (sX0_give_L41 p1) r38 s38) else (sX0_give_L41 p1) y17d s21))
noncomputable def sX0_give (k : Nat) (p1 : Int32) (p2 : Int32) (p3 : Int32) (p4 : Int32) (s : xS) : Option (Int32 × xS) := xbind (sX0_lawOf k p1 s) (fun r2 s2 => (if r2 ∈ lLaw then xlet ((if p1 = 0 then p4 else (0 : Int32))) (fun y17d => (sX0_give_L17 p1 p2 p3 p4 r2 y17d)  s2) else none))
set_option maxHeartbeats 4000000 in
set_option maxRecDepth 100000 in
theorem kX0_give (l : Launch) {G : xG} (hG : xC1 G)  {k : Nat} {p1 : Int32} {p2 : Int32} {p3 : Int32} {p4 : Int32} (hk : k ∈ lBay) {s : xS} {r : Int32} {s' : xS} (hf : sX0_give k p1 p2 p3 p4 s = some (r, s')) : xMet l G 4 yX0_give cX0_give 8 (some .int) [.ref (gA G k), .int p1, .int p2, .int p3, .int p4] s (xI r s') := by
  refine xMet.of (by decide) (Nat.le_of_ble_eq_true rfl) ?_
  show wk l G 4 RX0 cX0_give 8 (some .int) (xI r s') 0 [(0, .ref (gA G k)), (1, .int p1), (2, .int p2), (3, .int p3), (4, .int p4)] [] s
  unfold sX0_give at hf
  have J56 : ∀ (t0_41 : Int32) (y56d : Int32)    (s56 : xS), (sX0_give_L56 t0_41 y56d)  s56 = some (r, s') → wk l G 4 RX0 cX0_give 8 (some .int) (xI r s') 56 [] [.int y56d, .int t0_41, .int (0 : Int32)] s56 := by
    intro t0_41 y56d s56 hf
    unfold sX0_give_L56 at hf
    refine wk_mmin (pc := 56) dX0_give_56 qM_X0_66 qS_Mmin qJ_Math qC_Mmin (by decide) (Nat.le_of_ble_eq_true rfl) ?_
    refine wk_mmax (pc := 59) dX0_give_59 qM_X0_72 qS_Mmax qJ_Math qC_Mmax (by decide) (Nat.le_of_ble_eq_true rfl) ?_
    exact wk_iret (pc := 62) dX0_give_62 rfl (xI_of hf)
  have J41 : ∀   (t0_41 : Int32)  (s41 : xS), (sX0_give_L41 p1) t0_41 s41 = some (r, s') → wk l G 4 RX0 cX0_give 8 (some .int) (xI r s') 41 [(1, .int p1)] [.int t0_41] s41 := by
    intro t0_41 s41 hf
    unfold sX0_give_L41 at hf
    refine wk_istore (pc := 41) (lv' := [(7, .int t0_41), (1, .int p1)]) dX0_give_41 (by decide) rfl ?_
    refine wk_iconst (pc := 43) (v := (0 : Int32)) dX0_give_43 (by decide) ?_
    refine wk_iload (pc := 44) dX0_give_44 0 rfl ?_
    refine wk_iload_n (pc := 46) dX0_give_46 rfl 1 rfl ?_
    obtain ⟨y56d, hy56d, hf⟩ := xlet_some hf
    have K56 : wk l G 4 RX0 cX0_give 8 (some .int) (xI r s') 56 [(7, .int t0_41), (1, .int p1)] [.int y56d, .int t0_41, .int (0 : Int32)] s41 := by
      exact wk_lv [] rfl (J56 t0_41 y56d   s41 hf)
    by_cases c47 : p1 = 0
    · rw [if_pos c47] at hy56d
      refine wk_if_ne_p (pc := 47) (tgt := 55) dX0_give_47 rfl c47 ?_
      refine wk_bipush (pc := 50) (v := (19 : Int32)) dX0_give_50 (by decide) ?_
      refine wk_goto (pc := 52) (tgt := 56) dX0_give_52 rfl ?_
      exact wk_top hy56d K56
    · rw [if_neg c47] at hy56d
      refine wk_if_ne_m (pc := 47) (tgt := 55) dX0_give_47 rfl c47 ?_
      refine wk_iconst (pc := 55) (v := (1 : Int32)) dX0_give_55 (by decide) ?_
      exact wk_top hy56d K56
  have J17 : ∀ (r2 : Nat) (y17d : Int32) (fr2 : r2 ∈ lLaw)   (s17 : xS), (sX0_give_L17 p1 p2 p3 p4 r2 y17d)  s17 = some (r, s') → wk l G 4 RX0 cX0_give 8 (some .int) (xI r s') 17 [(1, .int p1), (2, .int p2), (3, .int p3), (4, .int p4), (5, .ref (gA G r2))] [.int y17d] s17 := by
    intro r2 y17d fr2 s17 hf
    unfold sX0_give_L17 at hf
    refine wk_istore (pc := 17) (lv' := [(6, .int y17d), (1, .int p1), (2, .int p2), (3, .int p3), (4, .int p4), (5, .ref (gA G r2))]) dX0_give_17 (by decide) rfl ?_
    refine wk_aload (pc := 19) dX0_give_19 5 rfl ?_
    obtain ⟨r21, s21, hc21, hf⟩ := xbind_some hf
    refine wk_callVI (pc := 21) (As := []) (rest := []) (kX4_isEmpty l hG fr2 hc21) cw_X0_58 (by decide) dX0_give_21 (sX4_0 hG fr2).2 (sX4_0 hG fr2).1 rfl rfl rfl (Nat.le_of_ble_eq_true rfl) ?_
    refine wk_if_eq (pc := 24) (tgt := 32) dX0_give_24 rfl hf (fun hf => ?_) (fun hf => ?_)
    · refine wk_aload (pc := 32) dX0_give_32 5 rfl ?_
      refine wk_iload_n (pc := 34) dX0_give_34 rfl 2 rfl ?_
      refine wk_iload_n (pc := 35) dX0_give_35 rfl 3 rfl ?_
      refine wk_iload (pc := 36) dX0_give_36 4 rfl ?_
      obtain ⟨r38, s38, hc38, hf⟩ := xbind_some hf
      refine wk_callVI (pc := 38) (As := [.int p2, .int p3, .int p4]) (rest := []) (kX4_value l hG fr2 hc38) cw_X0_62 (by decide) dX0_give_38 (sX4_0 hG fr2).2 (sX4_0 hG fr2).1 rfl rfl rfl (Nat.le_of_ble_eq_true rfl) ?_
      exact wk_lv [1] rfl (J41  r38  s38 hf)
    · refine wk_iload (pc := 27) dX0_give_27 0 rfl ?_
      refine wk_goto (pc := 29) (tgt := 41) dX0_give_29 rfl ?_
      exact wk_lv [1] rfl (J41  y17d  s21 hf)
  refine wk_aload_n (pc := 0) dX0_give_0 rfl 0 rfl ?_
  refine wk_iload_n (pc := 1) dX0_give_1 rfl 1 rfl ?_
  obtain ⟨r2, s2, hc2, hf⟩ := xbind_some hf
  refine wk_callVR (pc := 2) (As := [.int p1]) (rest := []) (kX0_lawOf l hG hk hc2) cw_X0_54 (by decide) dX0_give_2 (sX0_0 hG hk).2 (sX0_0 hG hk).1 rfl rfl rfl (Nat.le_of_ble_eq_true rfl) ?_
  obtain ⟨fr2, hf⟩ := xif_some hf
  refine wk_astore (pc := 5) (lv' := [(5, .ref (gA G r2)), (0, .ref (gA G k)), (1, .int p1), (2, .int p2), (3, .int p3), (4, .int p4)]) dX0_give_5 (by decide) rfl ?_
  refine wk_iload_n (pc := 7) dX0_give_7 rfl 2 rfl ?_
  obtain ⟨y17d, hy17d, hf⟩ := xlet_some hf
  have K17 : wk l G 4 RX0 cX0_give 8 (some .int) (xI r s') 17 [(5, .ref (gA G r2)), (0, .ref (gA G k)), (1, .int p1), (2, .int p2), (3, .int p3), (4, .int p4)] [.int y17d] s2 := by
    exact wk_lv [2, 3, 4, 5, 0] rfl (J17 r2 y17d fr2   s2 hf)
  by_cases c8 : p1 = 0
  · rw [if_pos c8] at hy17d
    refine wk_if_ne_p (pc := 8) (tgt := 16) dX0_give_8 rfl c8 ?_
    refine wk_iload (pc := 11) dX0_give_11 5 rfl ?_
    refine wk_goto (pc := 13) (tgt := 17) dX0_give_13 rfl ?_
    exact wk_top hy17d K17
  · rw [if_neg c8] at hy17d
    refine wk_if_ne_m (pc := 8) (tgt := 16) dX0_give_8 rfl c8 ?_
    refine wk_iconst (pc := 16) (v := (0 : Int32)) dX0_give_16 (by decide) ?_
    exact wk_top hy17d K17
noncomputable def sX0_depthIn_L31 (k : Nat) (p1 : Int32) (y5 : Int32) (t0_31 : Int32) (s31 : xS) : Option (Int32 × xS) := (if t0_31 = 0 then (if xin p1 8 then xbind (sX0_give k (0 : Int32) p1 y5 (s31 (k + 1) p1.toNatClampNeg) s31) (fun r52 s52 => some (r52, s52)) else none) else some ((0 : Int32), s31))
noncomputable def sX0_depthIn (k : Nat) (p1 : Int32) (p2 : Int32) (s : xS) : Option (Int32 × xS) := xlet ((if (0 : Int32) < p2 then p2 else (0 : Int32))) (fun y5 => (if xin p1 8 then (if y5 < (s (k + 2) p1.toNatClampNeg) then (sX0_depthIn_L31 k p1 y5) (0 : Int32) s else (if xin p1 8 then xlet ((if (s (k + 3) p1.toNatClampNeg) < y5 then (0 : Int32) else (1 : Int32))) (fun y31d => (sX0_depthIn_L31 k p1 y5) y31d s) else none)) else none))
set_option maxHeartbeats 4000000 in
set_option maxRecDepth 100000 in
theorem kX0_depthIn (l : Launch) {G : xG} (hG : xC1 G)  {k : Nat} {p1 : Int32} {p2 : Int32} (hk : k ∈ lBay) {s : xS} {r : Int32} {s' : xS} (hf : sX0_depthIn k p1 p2 s = some (r, s')) : xMet l G 5 yX0_depthIn cX0_depthIn 5 (some .int) [.ref (gA G k), .int p1, .int p2] s (xI r s') := by
  refine xMet.of (by decide) (Nat.le_of_ble_eq_true rfl) ?_
  show wk l G 5 RX0 cX0_depthIn 5 (some .int) (xI r s') 0 [(0, .ref (gA G k)), (1, .int p1), (2, .int p2)] [] s
  unfold sX0_depthIn at hf
  have J31 : ∀ (y5 : Int32)  (t0_31 : Int32)  (s31 : xS), (sX0_depthIn_L31 k p1 y5) t0_31 s31 = some (r, s') → wk l G 5 RX0 cX0_depthIn 5 (some .int) (xI r s') 31 [(0, .ref (gA G k)), (1, .int p1), (3, .int y5)] [.int t0_31] s31 := by
    intro y5 t0_31 s31 hf
    unfold sX0_depthIn_L31 at hf
    refine wk_istore (pc := 31) (lv' := [(4, .int t0_31), (0, .ref (gA G k)), (1, .int p1), (3, .int y5)]) dX0_depthIn_31 (by decide) rfl ?_
    refine wk_iload (pc := 33) dX0_depthIn_33 0 rfl ?_
    refine wk_if_eq (pc := 35) (tgt := 42) dX0_depthIn_35 rfl hf (fun hf => ?_) (fun hf => ?_)
    · refine wk_aload_n (pc := 42) dX0_depthIn_42 rfl 1 rfl ?_
      refine wk_iconst (pc := 43) (v := (0 : Int32)) dX0_depthIn_43 (by decide) ?_
      refine wk_iload_n (pc := 44) dX0_depthIn_44 rfl 2 rfl ?_
      refine wk_iload_n (pc := 45) dX0_depthIn_45 rfl 3 rfl ?_
      refine wk_aload_n (pc := 46) dX0_depthIn_46 rfl 1 rfl ?_
      refine wk_getR (C := RX0) (T := TX0) (N := 9) (pc := 47) dX0_depthIn_47 (sX0_0 hG hk).2 (sX0_0 hG hk).1 rfl qU_X0 4 (by decide) qF_X0_24 rfl ?_
      refine wk_iload_n (pc := 50) dX0_depthIn_50 rfl 2 rfl ?_
      obtain ⟨h51, hf⟩ := xif_some hf
      refine wk_iald (pc := 51) (jj := p1.toNatClampNeg) dX0_depthIn_51 (sX0_1 hG hk).2 (sX0_1 hG hk).1 h51 rfl ?_
      obtain ⟨r52, s52, hc52, hf⟩ := xbind_some hf
      refine wk_callVI (pc := 52) (As := [.int (0 : Int32), .int p1, .int y5, .int (s31 (k + 1) p1.toNatClampNeg)]) (rest := []) (kX0_give l hG hk hc52) cw_X0_75 (by decide) dX0_depthIn_52 (sX0_0 hG hk).2 (sX0_0 hG hk).1 rfl rfl rfl (Nat.le_of_ble_eq_true rfl) ?_
      exact wk_iret (pc := 55) dX0_depthIn_55 rfl (xI_of hf)
    · refine wk_iconst (pc := 38) (v := (0 : Int32)) dX0_depthIn_38 (by decide) ?_
      refine wk_goto (pc := 39) (tgt := 55) dX0_depthIn_39 rfl ?_
      exact wk_iret (pc := 55) dX0_depthIn_55 rfl (xI_of hf)
  refine wk_iconst (pc := 0) (v := (0 : Int32)) dX0_depthIn_0 (by decide) ?_
  refine wk_iload_n (pc := 1) dX0_depthIn_1 rfl 2 rfl ?_
  refine wk_mmax (pc := 2) dX0_depthIn_2 qM_X0_72 qS_Mmax qJ_Math qC_Mmax (by decide) (Nat.le_of_ble_eq_true rfl) ?_
  obtain ⟨y5, hy5, hf⟩ := xlet_some hf
  refine wk_top hy5 ?_
  refine wk_istore_n (pc := 5) (lv' := [(3, .int y5), (0, .ref (gA G k)), (1, .int p1), (2, .int p2)]) dX0_depthIn_5 rfl (by decide) rfl ?_
  refine wk_aload_n (pc := 6) dX0_depthIn_6 rfl 1 rfl ?_
  refine wk_getR (C := RX0) (T := TX0) (N := 9) (pc := 7) dX0_depthIn_7 (sX0_0 hG hk).2 (sX0_0 hG hk).1 rfl qU_X0 5 (by decide) qF_X0_28 rfl ?_
  refine wk_iload_n (pc := 10) dX0_depthIn_10 rfl 2 rfl ?_
  obtain ⟨h11, hf⟩ := xif_some hf
  refine wk_iald (pc := 11) (jj := p1.toNatClampNeg) dX0_depthIn_11 (sX0_2 hG hk).2 (sX0_2 hG hk).1 h11 rfl ?_
  refine wk_iload_n (pc := 12) dX0_depthIn_12 rfl 0 rfl ?_
  refine wk_icmp_gt (pc := 13) (tgt := 30) dX0_depthIn_13 rfl hf (fun hf => ?_) (fun hf => ?_)
  · refine wk_iconst (pc := 30) (v := (0 : Int32)) dX0_depthIn_30 (by decide) ?_
    exact wk_lv [1, 2, 0] rfl (J31 y5 (0 : Int32)  s hf)
  · refine wk_iload_n (pc := 16) dX0_depthIn_16 rfl 0 rfl ?_
    refine wk_aload_n (pc := 17) dX0_depthIn_17 rfl 1 rfl ?_
    refine wk_getR (C := RX0) (T := TX0) (N := 9) (pc := 18) dX0_depthIn_18 (sX0_0 hG hk).2 (sX0_0 hG hk).1 rfl qU_X0 6 (by decide) qF_X0_31 rfl ?_
    refine wk_iload_n (pc := 21) dX0_depthIn_21 rfl 2 rfl ?_
    obtain ⟨h22, hf⟩ := xif_some hf
    refine wk_iald (pc := 22) (jj := p1.toNatClampNeg) dX0_depthIn_22 (sX0_3 hG hk).2 (sX0_3 hG hk).1 h22 rfl ?_
    obtain ⟨y31d, hy31d, hf⟩ := xlet_some hf
    have K31 : wk l G 5 RX0 cX0_depthIn 5 (some .int) (xI r s') 31 [(3, .int y5), (0, .ref (gA G k)), (1, .int p1), (2, .int p2)] [.int y31d] s := by
      exact wk_lv [1, 2, 0] rfl (J31 y5 y31d  s hf)
    by_cases c23 : (s (k + 3) p1.toNatClampNeg) < y5
    · rw [if_pos c23] at hy31d
      refine wk_icmp_gt_p (pc := 23) (tgt := 30) dX0_depthIn_23 rfl c23 ?_
      refine wk_iconst (pc := 30) (v := (0 : Int32)) dX0_depthIn_30 (by decide) ?_
      exact wk_top hy31d K31
    · rw [if_neg c23] at hy31d
      refine wk_icmp_gt_m (pc := 23) (tgt := 30) dX0_depthIn_23 rfl c23 ?_
      refine wk_iconst (pc := 26) (v := (1 : Int32)) dX0_depthIn_26 (by decide) ?_
      refine wk_goto (pc := 27) (tgt := 31) dX0_depthIn_27 rfl ?_
      exact wk_top hy31d K31
noncomputable def sX0_shownBy_L26 (k : Nat) (p2 : Int32) (y26d : Int32)  (s26 : xS) : Option (Int32 × xS) := xbind (sX0_depthIn k p2 y26d s26) (fun r26 s26 => some (r26, s26))
noncomputable def sX0_shownBy (k : Nat) (p1 : Int32) (p2 : Int32) (s : xS) : Option (Int32 × xS) := xbind (sX8_has (s k 3) p2 s) (fun r7 s7 => xlet ((if r7 = 0 then (s7 k 1) else ((s7 k 1) - p1))) (fun y26d => (sX0_shownBy_L26 k p2 y26d)  s7))
set_option maxHeartbeats 4000000 in
set_option maxRecDepth 100000 in
theorem kX0_shownBy (l : Launch) {G : xG} (hG : xC1 G)  {k : Nat} {p1 : Int32} {p2 : Int32} (hk : k ∈ lBay) {s : xS} {r : Int32} {s' : xS} (hf : sX0_shownBy k p1 p2 s = some (r, s')) : xMet l G 6 yX0_shownBy cX0_shownBy 3 (some .int) [.ref (gA G k), .int p1, .int p2] s (xI r s') := by
  refine xMet.of (by decide) (Nat.le_of_ble_eq_true rfl) ?_
  show wk l G 6 RX0 cX0_shownBy 3 (some .int) (xI r s') 0 [(0, .ref (gA G k)), (1, .int p1), (2, .int p2)] [] s
  unfold sX0_shownBy at hf
  have J26 : ∀ (y26d : Int32)    (s26 : xS), (sX0_shownBy_L26 k p2 y26d)  s26 = some (r, s') → wk l G 6 RX0 cX0_shownBy 3 (some .int) (xI r s') 26 [] [.int y26d, .int p2, .ref (gA G k)] s26 := by
    intro y26d s26 hf
    unfold sX0_shownBy_L26 at hf
    obtain ⟨r26, s26, hc26, hf⟩ := xbind_some hf
    refine wk_callVI (pc := 26) (As := [.int p2, .int y26d]) (rest := []) (kX0_depthIn l hG hk hc26) cw_X0_83 (by decide) dX0_shownBy_26 (sX0_0 hG hk).2 (sX0_0 hG hk).1 rfl rfl rfl (Nat.le_of_ble_eq_true rfl) ?_
    exact wk_iret (pc := 29) dX0_shownBy_29 rfl (xI_of hf)
  refine wk_aload_n (pc := 0) dX0_shownBy_0 rfl 0 rfl ?_
  refine wk_iload_n (pc := 1) dX0_shownBy_1 rfl 2 rfl ?_
  refine wk_aload_n (pc := 2) dX0_shownBy_2 rfl 0 rfl ?_
  refine wk_getI (C := RX0) (T := TX0) (N := 9) (pc := 3) dX0_shownBy_3 (sX0_0 hG hk).2 (sX0_0 hG hk).1 rfl qU_X0 3 (by decide) qF_X0_21 rfl ?_
  refine wk_iload_n (pc := 6) dX0_shownBy_6 rfl 2 rfl ?_
  obtain ⟨r7, s7, hc7, hf⟩ := xbind_some hf
  refine wk_callSNI (pc := 7) (As := [.int (s k 3), .int p2]) (rest := [.int p2, .ref (gA G k)]) (kX8_has l hG  hc7) cw_X0_79 (by decide) dX0_shownBy_7 rfl (Nat.le_of_ble_eq_true rfl) ?_
  obtain ⟨y26d, hy26d, hf⟩ := xlet_some hf
  have K26 : wk l G 6 RX0 cX0_shownBy 3 (some .int) (xI r s') 26 [(0, .ref (gA G k)), (1, .int p1), (2, .int p2)] [.int y26d, .int p2, .ref (gA G k)] s7 := by
    exact wk_lv [] rfl (J26 y26d   s7 hf)
  by_cases c10 : r7 = 0
  · rw [if_pos c10] at hy26d
    refine wk_if_eq_p (pc := 10) (tgt := 22) dX0_shownBy_10 rfl c10 ?_
    refine wk_aload_n (pc := 22) dX0_shownBy_22 rfl 0 rfl ?_
    refine wk_getI (C := RX0) (T := TX0) (N := 9) (pc := 23) dX0_shownBy_23 (sX0_0 hG hk).2 (sX0_0 hG hk).1 rfl qU_X0 1 (by decide) qF_X0_15 rfl ?_
    exact wk_top hy26d K26
  · rw [if_neg c10] at hy26d
    refine wk_if_eq_m (pc := 10) (tgt := 22) dX0_shownBy_10 rfl c10 ?_
    refine wk_aload_n (pc := 13) dX0_shownBy_13 rfl 0 rfl ?_
    refine wk_getI (C := RX0) (T := TX0) (N := 9) (pc := 14) dX0_shownBy_14 (sX0_0 hG hk).2 (sX0_0 hG hk).1 rfl qU_X0 1 (by decide) qF_X0_15 rfl ?_
    refine wk_iload_n (pc := 17) dX0_shownBy_17 rfl 1 rfl ?_
    refine wk_isub (pc := 18) dX0_shownBy_18 ?_
    refine wk_goto (pc := 19) (tgt := 26) dX0_shownBy_19 rfl ?_
    exact wk_top hy26d K26
noncomputable def sX1_draw_L18 (p1 : Nat) (p2 : Int32) (self18 : Int32 → xS → Option (Unit × xS)) : Int32 → xS → Option (Unit × xS) := fun a3_18 s18 => (if (s18 45 1) ≤ a3_18 then some ((), s18) else xbind (sX0_depthIn p1 a3_18 (s18 p1 1) s18) (fun r37 s37 => (if xin a3_18 8 then xlet (xup s37 46 (upd (s37 46) a3_18.toNatClampNeg r37)) (fun s40 => xbind (sX0_depthIn p1 a3_18 ((s40 p1 1) - p2) s40) (fun r54 s54 => (if xin a3_18 8 then xlet (xup s54 47 (upd (s54 47) a3_18.toNatClampNeg r54)) (fun s57 => xbind (sX0_depthIn p1 a3_18 ((s57 p1 1) - ((2 : Int32) * p2)) s57) (fun r73 s73 => (if xin a3_18 8 then xlet (xup s73 48 (upd (s73 48) a3_18.toNatClampNeg r73)) (fun s76 => xlet (a3_18 + (1 : Int32)) (fun y77 => self18 y77 s76)) else none))) else none))) else none)))
noncomputable def sX1_draw (p1 : Nat) (p2 : Int32) (s : xS) : Option (Unit × xS) := xlet (xup s 45 (upd (s 45) 0 (s p1 3))) (fun s5 => xlet (xup s5 45 (upd (s5 45) 1 (s5 p1 0))) (fun s13 => xloop (sX1_draw_L18 p1 p2) xF (0 : Int32) s13))
set_option maxHeartbeats 4000000 in
set_option maxRecDepth 100000 in
theorem kX1_draw (l : Launch) {G : xG} (hG : xC1 G)  {p1 : Nat} {p2 : Int32} (hp1 : p1 ∈ lBay) {s : xS} {s' : xS} (hf : sX1_draw p1 p2 s = some ((), s')) : xMet l G 6 yX1_draw cX1_draw 4 none [.ref (gA G 45), .ref (gA G p1), .int p2] s (xU s') := by
  refine xMet.of (by decide) (Nat.le_of_ble_eq_true rfl) ?_
  show wk l G 6 RX1 cX1_draw 4 none (xU s') 0 [(0, .ref (gA G 45)), (1, .ref (gA G p1)), (2, .int p2)] [] s
  unfold sX1_draw at hf
  have J18 : ∀   (N : Nat) (a3_18 : Int32)  (s18 : xS), xloop (sX1_draw_L18 p1 p2) N a3_18 s18 = some ((), s') → wk l G 6 RX1 cX1_draw 4 none (xU s') 18 [(0, .ref (gA G 45)), (1, .ref (gA G p1)), (2, .int p2), (3, .int a3_18)] [] s18 := by
    intro N
    induction N with
    | zero => intro a3_18 s18 hf; exact (xloop_0 hf).elim
    | succ N ih18 =>
      intro a3_18 s18 hf
      rw [xloop_s] at hf
      generalize xloop (sX1_draw_L18 p1 p2) N = self18 at hf ih18
      unfold sX1_draw_L18 at hf
      refine wk_iload_n (pc := 18) dX1_draw_18 rfl 3 rfl ?_
      refine wk_aload_n (pc := 19) dX1_draw_19 rfl 0 rfl ?_
      refine wk_getI (C := RX1) (T := TX1) (N := 5) (pc := 20) dX1_draw_20 (nc_45 hG).2 (nc_45 hG).1 rfl qU_X1 1 (by decide) qF_X1_15 rfl ?_
      refine wk_icmp_ge (pc := 23) (tgt := 83) dX1_draw_23 rfl hf (fun hf => ?_) (fun hf => ?_)
      · exact wk_vret (pc := 83) dX1_draw_83 rfl (xU_of hf)
      · refine wk_aload_n (pc := 26) dX1_draw_26 rfl 0 rfl ?_
        refine wk_getR (C := RX1) (T := TX1) (N := 5) (pc := 27) dX1_draw_27 (nc_45 hG).2 (nc_45 hG).1 rfl qU_X1 2 (by decide) qF_X1_18 rfl ?_
        refine wk_iload_n (pc := 30) dX1_draw_30 rfl 3 rfl ?_
        refine wk_aload_n (pc := 31) dX1_draw_31 rfl 1 rfl ?_
        refine wk_iload_n (pc := 32) dX1_draw_32 rfl 3 rfl ?_
        refine wk_aload_n (pc := 33) dX1_draw_33 rfl 1 rfl ?_
        refine wk_getI (C := RX0) (T := TX0) (N := 9) (pc := 34) dX1_draw_34 (sX0_0 hG hp1).2 (sX0_0 hG hp1).1 rfl qU_X0 1 (by decide) qF_X1_32 rfl ?_
        obtain ⟨r37, s37, hc37, hf⟩ := xbind_some hf
        refine wk_callVI (pc := 37) (As := [.int a3_18, .int (s18 p1 1)]) (rest := [.int a3_18, .ref (gA G 46)]) (kX0_depthIn l hG hp1 hc37) cw_X1_35 (by decide) dX1_draw_37 (sX0_0 hG hp1).2 (sX0_0 hG hp1).1 rfl rfl rfl (Nat.le_of_ble_eq_true rfl) ?_
        obtain ⟨h40, hf⟩ := xif_some hf
        refine wk_iast (pc := 40) (jj := a3_18.toNatClampNeg) dX1_draw_40 (nc_46 hG).2 (nc_46 hG).1 h40 rfl ?_
        obtain ⟨s40, hs40, hf⟩ := xlet_some hf
        refine wk_sig hs40 ?_
        refine wk_aload_n (pc := 41) dX1_draw_41 rfl 0 rfl ?_
        refine wk_getR (C := RX1) (T := TX1) (N := 5) (pc := 42) dX1_draw_42 (nc_45 hG).2 (nc_45 hG).1 rfl qU_X1 3 (by decide) qF_X1_22 rfl ?_
        refine wk_iload_n (pc := 45) dX1_draw_45 rfl 3 rfl ?_
        refine wk_aload_n (pc := 46) dX1_draw_46 rfl 1 rfl ?_
        refine wk_iload_n (pc := 47) dX1_draw_47 rfl 3 rfl ?_
        refine wk_aload_n (pc := 48) dX1_draw_48 rfl 1 rfl ?_
        refine wk_getI (C := RX0) (T := TX0) (N := 9) (pc := 49) dX1_draw_49 (sX0_0 hG hp1).2 (sX0_0 hG hp1).1 rfl qU_X0 1 (by decide) qF_X1_32 rfl ?_
        refine wk_iload_n (pc := 52) dX1_draw_52 rfl 2 rfl ?_
        refine wk_isub (pc := 53) dX1_draw_53 ?_
        obtain ⟨r54, s54, hc54, hf⟩ := xbind_some hf
        refine wk_callVI (pc := 54) (As := [.int a3_18, .int ((s40 p1 1) - p2)]) (rest := [.int a3_18, .ref (gA G 47)]) (kX0_depthIn l hG hp1 hc54) cw_X1_35 (by decide) dX1_draw_54 (sX0_0 hG hp1).2 (sX0_0 hG hp1).1 rfl rfl rfl (Nat.le_of_ble_eq_true rfl) ?_
        obtain ⟨h57, hf⟩ := xif_some hf
        refine wk_iast (pc := 57) (jj := a3_18.toNatClampNeg) dX1_draw_57 (nc_47 hG).2 (nc_47 hG).1 h57 rfl ?_
        obtain ⟨s57, hs57, hf⟩ := xlet_some hf
        refine wk_sig hs57 ?_
        refine wk_aload_n (pc := 58) dX1_draw_58 rfl 0 rfl ?_
        refine wk_getR (C := RX1) (T := TX1) (N := 5) (pc := 59) dX1_draw_59 (nc_45 hG).2 (nc_45 hG).1 rfl qU_X1 4 (by decide) qF_X1_25 rfl ?_
        refine wk_iload_n (pc := 62) dX1_draw_62 rfl 3 rfl ?_
        refine wk_aload_n (pc := 63) dX1_draw_63 rfl 1 rfl ?_
        refine wk_iload_n (pc := 64) dX1_draw_64 rfl 3 rfl ?_
        refine wk_aload_n (pc := 65) dX1_draw_65 rfl 1 rfl ?_
        refine wk_getI (C := RX0) (T := TX0) (N := 9) (pc := 66) dX1_draw_66 (sX0_0 hG hp1).2 (sX0_0 hG hp1).1 rfl qU_X0 1 (by decide) qF_X1_32 rfl ?_
        refine wk_iconst (pc := 69) (v := (2 : Int32)) dX1_draw_69 (by decide) ?_
        refine wk_iload_n (pc := 70) dX1_draw_70 rfl 2 rfl ?_
        refine wk_imul (pc := 71) dX1_draw_71 ?_
        refine wk_isub (pc := 72) dX1_draw_72 ?_
        obtain ⟨r73, s73, hc73, hf⟩ := xbind_some hf
        refine wk_callVI (pc := 73) (As := [.int a3_18, .int ((s57 p1 1) - ((2 : Int32) * p2))]) (rest := [.int a3_18, .ref (gA G 48)]) (kX0_depthIn l hG hp1 hc73) cw_X1_35 (by decide) dX1_draw_73 (sX0_0 hG hp1).2 (sX0_0 hG hp1).1 rfl rfl rfl (Nat.le_of_ble_eq_true rfl) ?_
        obtain ⟨h76, hf⟩ := xif_some hf
        refine wk_iast (pc := 76) (jj := a3_18.toNatClampNeg) dX1_draw_76 (nc_48 hG).2 (nc_48 hG).1 h76 rfl ?_
        obtain ⟨s76, hs76, hf⟩ := xlet_some hf
        refine wk_sig hs76 ?_
        obtain ⟨y77, hy77, hf⟩ := xlet_some hf
        refine wk_iinc (pc := 77) (v := y77) (lv' := [(3, .int y77), (0, .ref (gA G 45)), (1, .ref (gA G p1)), (2, .int p2)]) dX1_draw_77 3 rfl (by rw [hy77] <;> rfl) (by decide) rfl ?_
        refine wk_goto (pc := 80) (tgt := 18) dX1_draw_80 rfl ?_
        exact wk_lv [1, 2, 3, 0] rfl (ih18 y77  s76 hf)
  refine wk_aload_n (pc := 0) dX1_draw_0 rfl 0 rfl ?_
  refine wk_aload_n (pc := 1) dX1_draw_1 rfl 1 rfl ?_
  refine wk_getI (C := RX0) (T := TX0) (N := 9) (pc := 2) dX1_draw_2 (sX0_0 hG hp1).2 (sX0_0 hG hp1).1 rfl qU_X0 3 (by decide) qF_X1_28 rfl ?_
  refine wk_putI (C := RX1) (T := TX1) (N := 5) (ty := .int) (pc := 5) dX1_draw_5 (nc_45 hG).2 (nc_45 hG).1 rfl qU_X1 tyX1 tyX1_ok nmX1 0 (by decide) qF_X1_9 rfl rfl rfl rfl rfl ?_
  obtain ⟨s5, hs5, hf⟩ := xlet_some hf
  refine wk_sig hs5 ?_
  refine wk_aload_n (pc := 8) dX1_draw_8 rfl 0 rfl ?_
  refine wk_aload_n (pc := 9) dX1_draw_9 rfl 1 rfl ?_
  refine wk_getI (C := RX0) (T := TX0) (N := 9) (pc := 10) dX1_draw_10 (sX0_0 hG hp1).2 (sX0_0 hG hp1).1 rfl qU_X0 0 (by decide) qF_X1_31 rfl ?_
  refine wk_putI (C := RX1) (T := TX1) (N := 5) (ty := .int) (pc := 13) dX1_draw_13 (nc_45 hG).2 (nc_45 hG).1 rfl qU_X1 tyX1 tyX1_ok nmX1 1 (by decide) qF_X1_15 rfl rfl rfl rfl rfl ?_
  obtain ⟨s13, hs13, hf⟩ := xlet_some hf
  refine wk_sig hs13 ?_
  refine wk_iconst (pc := 16) (v := (0 : Int32)) dX1_draw_16 (by decide) ?_
  refine wk_istore_n (pc := 17) (lv' := [(3, .int (0 : Int32)), (0, .ref (gA G 45)), (1, .ref (gA G p1)), (2, .int p2)]) dX1_draw_17 rfl (by decide) rfl ?_
  exact wk_lv [1, 2, 3, 0] rfl (J18  xF (0 : Int32)  s13 hf)
noncomputable def sX1_believed_L130 (y16 : Int32) (t0_130 : Int32) (s130 : xS) : Option (Int32 × xS) := some ((if y16 < t0_130 then y16 else t0_130), s130)
noncomputable def sX1_believed_L34 (p1 : Int32) (p2 : Int32) (p3 : Int32) (r5 : Int32) (y16 : Int32) (t0_34 : Int32) (s34 : xS) : Option (Int32 × xS) := (if p1 = 0 then some (t0_34, s34) else (if p1 = 1 then some ((t0_34 + (p2 - p2 / (3 : Int32) * (3 : Int32))), s34) else (if p1 = 2 then some (y16, s34) else (if p1 = 3 then some ((if y16 < t0_34 then y16 else t0_34), s34) else (if p1 = 4 then some (((t0_34 + (p2 - p2 / (3 : Int32) * (3 : Int32))) - (1 : Int32)), s34) else (if p1 = 5 then some ((if y16 < t0_34 then t0_34 else y16), s34) else (if r5 = 0 then (sX1_believed_L130 y16) y16 s34 else (if xin p3 8 then (sX1_believed_L130 y16) (s34 48 p3.toNatClampNeg) s34 else none))))))))
noncomputable def sX1_believed (p1 : Int32) (p2 : Int32) (p3 : Int32) (s : xS) : Option (Int32 × xS) := xbind (sX8_has (s 45 0) p3 s) (fun r5 s5 => (if xin p3 8 then xlet ((s5 46 p3.toNatClampNeg)) (fun y16 => (if r5 = 0 then (sX1_believed_L34 p1 p2 p3 r5 y16) y16 s5 else (if xin p3 8 then (sX1_believed_L34 p1 p2 p3 r5 y16) (s5 47 p3.toNatClampNeg) s5 else none))) else none))
set_option maxHeartbeats 4000000 in
set_option maxRecDepth 100000 in
theorem kX1_believed (l : Launch) {G : xG} (hG : xC1 G)  {p1 : Int32} {p2 : Int32} {p3 : Int32}  {s : xS} {r : Int32} {s' : xS} (hf : sX1_believed p1 p2 p3 s = some (r, s')) : xMet l G 3 yX1_believed cX1_believed 7 (some .int) [.ref (gA G 45), .int p1, .int p2, .int p3] s (xI r s') := by
  refine xMet.of (by decide) (Nat.le_of_ble_eq_true rfl) ?_
  show wk l G 3 RX1 cX1_believed 7 (some .int) (xI r s') 0 [(0, .ref (gA G 45)), (1, .int p1), (2, .int p2), (3, .int p3)] [] s
  unfold sX1_believed at hf
  have J130 : ∀ (y16 : Int32)  (t0_130 : Int32)  (s130 : xS), (sX1_believed_L130 y16) t0_130 s130 = some (r, s') → wk l G 3 RX1 cX1_believed 7 (some .int) (xI r s') 130 [(5, .int y16)] [.int t0_130] s130 := by
    intro y16 t0_130 s130 hf
    unfold sX1_believed_L130 at hf
    refine wk_iload (pc := 130) dX1_believed_130 0 rfl ?_
    refine wk_mmin (pc := 132) dX1_believed_132 qM_X1_43 qS_Mmin qJ_Math qC_Mmin (by decide) (Nat.le_of_ble_eq_true rfl) ?_
    exact wk_iret (pc := 135) dX1_believed_135 rfl (xI_of hf)
  have J34 : ∀ (r5 : Int32) (y16 : Int32)  (t0_34 : Int32)  (s34 : xS), (sX1_believed_L34 p1 p2 p3 r5 y16) t0_34 s34 = some (r, s') → wk l G 3 RX1 cX1_believed 7 (some .int) (xI r s') 34 [(0, .ref (gA G 45)), (1, .int p1), (2, .int p2), (3, .int p3), (4, .int r5), (5, .int y16)] [.int t0_34] s34 := by
    intro r5 y16 t0_34 s34 hf
    unfold sX1_believed_L34 at hf
    refine wk_istore (pc := 34) (lv' := [(6, .int t0_34), (0, .ref (gA G 45)), (1, .int p1), (2, .int p2), (3, .int p3), (4, .int r5), (5, .int y16)]) dX1_believed_34 (by decide) rfl ?_
    refine wk_iload_n (pc := 36) dX1_believed_36 rfl 2 rfl ?_
    by_cases e0 : p1 = 0
    · rw [if_pos e0] at hf
      refine wk_tableIn (pc := 37) (off := 39) (tgt := 76) dX1_believed_37 (0 : Int32) e0 (by decide) (by decide) (by decide) rfl ?_
      refine wk_iload (pc := 76) dX1_believed_76 0 rfl ?_
      exact wk_iret (pc := 78) dX1_believed_78 rfl (xI_of hf)
    · rw [if_neg e0] at hf
      by_cases e1 : p1 = 1
      · rw [if_pos e1] at hf
        refine wk_tableIn (pc := 37) (off := 42) (tgt := 79) dX1_believed_37 (1 : Int32) e1 (by decide) (by decide) (by decide) rfl ?_
        refine wk_iload (pc := 79) dX1_believed_79 0 rfl ?_
        refine wk_iload_n (pc := 81) dX1_believed_81 rfl 3 rfl ?_
        refine wk_iconst (pc := 82) (v := (3 : Int32)) dX1_believed_82 (by decide) ?_
        refine wk_irem (pc := 83) dX1_believed_83 (by decide) ?_
        refine wk_iadd (pc := 84) dX1_believed_84 ?_
        exact wk_iret (pc := 85) dX1_believed_85 rfl (xI_of hf)
      · rw [if_neg e1] at hf
        by_cases e2 : p1 = 2
        · rw [if_pos e2] at hf
          refine wk_tableIn (pc := 37) (off := 49) (tgt := 86) dX1_believed_37 (2 : Int32) e2 (by decide) (by decide) (by decide) rfl ?_
          refine wk_iload (pc := 86) dX1_believed_86 6 rfl ?_
          exact wk_iret (pc := 88) dX1_believed_88 rfl (xI_of hf)
        · rw [if_neg e2] at hf
          by_cases e3 : p1 = 3
          · rw [if_pos e3] at hf
            refine wk_tableIn (pc := 37) (off := 52) (tgt := 89) dX1_believed_37 (3 : Int32) e3 (by decide) (by decide) (by decide) rfl ?_
            refine wk_iload (pc := 89) dX1_believed_89 0 rfl ?_
            refine wk_iload (pc := 91) dX1_believed_91 6 rfl ?_
            refine wk_mmin (pc := 93) dX1_believed_93 qM_X1_43 qS_Mmin qJ_Math qC_Mmin (by decide) (Nat.le_of_ble_eq_true rfl) ?_
            exact wk_iret (pc := 96) dX1_believed_96 rfl (xI_of hf)
          · rw [if_neg e3] at hf
            by_cases e4 : p1 = 4
            · rw [if_pos e4] at hf
              refine wk_tableIn (pc := 37) (off := 60) (tgt := 97) dX1_believed_37 (4 : Int32) e4 (by decide) (by decide) (by decide) rfl ?_
              refine wk_iload (pc := 97) dX1_believed_97 0 rfl ?_
              refine wk_iload_n (pc := 99) dX1_believed_99 rfl 3 rfl ?_
              refine wk_iconst (pc := 100) (v := (3 : Int32)) dX1_believed_100 (by decide) ?_
              refine wk_irem (pc := 101) dX1_believed_101 (by decide) ?_
              refine wk_iadd (pc := 102) dX1_believed_102 ?_
              refine wk_iconst (pc := 103) (v := (1 : Int32)) dX1_believed_103 (by decide) ?_
              refine wk_isub (pc := 104) dX1_believed_104 ?_
              exact wk_iret (pc := 105) dX1_believed_105 rfl (xI_of hf)
            · rw [if_neg e4] at hf
              by_cases e5 : p1 = 5
              · rw [if_pos e5] at hf
                refine wk_tableIn (pc := 37) (off := 69) (tgt := 106) dX1_believed_37 (5 : Int32) e5 (by decide) (by decide) (by decide) rfl ?_
                refine wk_iload (pc := 106) dX1_believed_106 6 rfl ?_
                refine wk_iload (pc := 108) dX1_believed_108 0 rfl ?_
                refine wk_mmax (pc := 110) dX1_believed_110 qM_X1_48 qS_Mmax qJ_Math qC_Mmax (by decide) (Nat.le_of_ble_eq_true rfl) ?_
                exact wk_iret (pc := 113) dX1_believed_113 rfl (xI_of hf)
              · rw [if_neg e5] at hf
                have g0 : ¬ p1.toInt = 0 := fun q => e0 (Int32.toInt_inj.mp (q.trans (by decide)))
                have g1 : ¬ p1.toInt = 1 := fun q => e1 (Int32.toInt_inj.mp (q.trans (by decide)))
                have g2 : ¬ p1.toInt = 2 := fun q => e2 (Int32.toInt_inj.mp (q.trans (by decide)))
                have g3 : ¬ p1.toInt = 3 := fun q => e3 (Int32.toInt_inj.mp (q.trans (by decide)))
                have g4 : ¬ p1.toInt = 4 := fun q => e4 (Int32.toInt_inj.mp (q.trans (by decide)))
                have g5 : ¬ p1.toInt = 5 := fun q => e5 (Int32.toInt_inj.mp (q.trans (by decide)))
                refine wk_tableOut (pc := 37) (tgt := 114) dX1_believed_37 (by omega) rfl ?_
                refine wk_iload (pc := 114) dX1_believed_114 5 rfl ?_
                refine wk_if_eq (pc := 116) (tgt := 128) dX1_believed_116 rfl hf (fun hf => ?_) (fun hf => ?_)
                · refine wk_iload (pc := 128) dX1_believed_128 6 rfl ?_
                  exact wk_lv [6] rfl (J130 y16 y16  s34 hf)
                · refine wk_aload_n (pc := 119) dX1_believed_119 rfl 1 rfl ?_
                  refine wk_getR (C := RX1) (T := TX1) (N := 5) (pc := 120) dX1_believed_120 (nc_45 hG).2 (nc_45 hG).1 rfl qU_X1 4 (by decide) qF_X1_25 rfl ?_
                  refine wk_iload_n (pc := 123) dX1_believed_123 rfl 4 rfl ?_
                  obtain ⟨h124, hf⟩ := xif_some hf
                  refine wk_iald (pc := 124) (jj := p3.toNatClampNeg) dX1_believed_124 (nc_48 hG).2 (nc_48 hG).1 h124 rfl ?_
                  refine wk_goto (pc := 125) (tgt := 130) dX1_believed_125 rfl ?_
                  exact wk_lv [6] rfl (J130 y16 (s34 48 p3.toNatClampNeg)  s34 hf)
  refine wk_aload_n (pc := 0) dX1_believed_0 rfl 0 rfl ?_
  refine wk_getI (C := RX1) (T := TX1) (N := 5) (pc := 1) dX1_believed_1 (nc_45 hG).2 (nc_45 hG).1 rfl qU_X1 0 (by decide) qF_X1_9 rfl ?_
  refine wk_iload_n (pc := 4) dX1_believed_4 rfl 3 rfl ?_
  obtain ⟨r5, s5, hc5, hf⟩ := xbind_some hf
  refine wk_callSNI (pc := 5) (As := [.int (s 45 0), .int p3]) (rest := []) (kX8_has l hG  hc5) cw_X1_39 (by decide) dX1_believed_5 rfl (Nat.le_of_ble_eq_true rfl) ?_
  refine wk_istore (pc := 8) (lv' := [(4, .int r5), (0, .ref (gA G 45)), (1, .int p1), (2, .int p2), (3, .int p3)]) dX1_believed_8 (by decide) rfl ?_
  refine wk_aload_n (pc := 10) dX1_believed_10 rfl 1 rfl ?_
  refine wk_getR (C := RX1) (T := TX1) (N := 5) (pc := 11) dX1_believed_11 (nc_45 hG).2 (nc_45 hG).1 rfl qU_X1 2 (by decide) qF_X1_18 rfl ?_
  refine wk_iload_n (pc := 14) dX1_believed_14 rfl 4 rfl ?_
  obtain ⟨h15, hf⟩ := xif_some hf
  refine wk_iald (pc := 15) (jj := p3.toNatClampNeg) dX1_believed_15 (nc_46 hG).2 (nc_46 hG).1 h15 rfl ?_
  obtain ⟨y16, hy16, hf⟩ := xlet_some hf
  refine wk_top hy16 ?_
  refine wk_istore (pc := 16) (lv' := [(5, .int y16), (4, .int r5), (0, .ref (gA G 45)), (1, .int p1), (2, .int p2), (3, .int p3)]) dX1_believed_16 (by decide) rfl ?_
  refine wk_iload (pc := 18) dX1_believed_18 1 rfl ?_
  refine wk_if_eq (pc := 20) (tgt := 32) dX1_believed_20 rfl hf (fun hf => ?_) (fun hf => ?_)
  · refine wk_iload (pc := 32) dX1_believed_32 0 rfl ?_
    exact wk_lv [2, 3, 4, 5, 1, 0] rfl (J34 r5 y16 y16  s5 hf)
  · refine wk_aload_n (pc := 23) dX1_believed_23 rfl 2 rfl ?_
    refine wk_getR (C := RX1) (T := TX1) (N := 5) (pc := 24) dX1_believed_24 (nc_45 hG).2 (nc_45 hG).1 rfl qU_X1 3 (by decide) qF_X1_22 rfl ?_
    refine wk_iload_n (pc := 27) dX1_believed_27 rfl 5 rfl ?_
    obtain ⟨h28, hf⟩ := xif_some hf
    refine wk_iald (pc := 28) (jj := p3.toNatClampNeg) dX1_believed_28 (nc_47 hG).2 (nc_47 hG).1 h28 rfl ?_
    refine wk_goto (pc := 29) (tgt := 34) dX1_believed_29 rfl ?_
    exact wk_lv [2, 3, 4, 5, 1, 0] rfl (J34 r5 y16 (s5 47 p3.toNatClampNeg)  s5 hf)
noncomputable def sX5_upcoming  (s : xS) : Option (Int32 × xS) := (if (s 49 1) ≤ (s 49 3) then some ((-1 : Int32), s) else (if xin (s 49 3) 50 then some ((s 50 (s 49 3).toNatClampNeg), s) else none))
set_option maxHeartbeats 4000000 in
set_option maxRecDepth 100000 in
theorem kX5_upcoming (l : Launch) {G : xG} (hG : xC1 G)    {s : xS} {r : Int32} {s' : xS} (hf : sX5_upcoming  s = some (r, s')) : xMet l G 2 yX5_upcoming cX5_upcoming 1 (some .int) [.ref (gA G 49)] s (xI r s') := by
  refine xMet.of (by decide) (Nat.le_of_ble_eq_true rfl) ?_
  show wk l G 2 RX5 cX5_upcoming 1 (some .int) (xI r s') 0 [(0, .ref (gA G 49))] [] s
  unfold sX5_upcoming at hf
  refine wk_aload_n (pc := 0) dX5_upcoming_0 rfl 0 rfl ?_
  refine wk_getI (C := RX5) (T := TX5) (N := 5) (pc := 1) dX5_upcoming_1 (nc_49 hG).2 (nc_49 hG).1 rfl qU_X5 3 (by decide) qF_X5_22 rfl ?_
  refine wk_aload_n (pc := 4) dX5_upcoming_4 rfl 0 rfl ?_
  refine wk_getI (C := RX5) (T := TX5) (N := 5) (pc := 5) dX5_upcoming_5 (nc_49 hG).2 (nc_49 hG).1 rfl qU_X5 1 (by decide) qF_X5_15 rfl ?_
  refine wk_icmp_ge (pc := 8) (tgt := 23) dX5_upcoming_8 rfl hf (fun hf => ?_) (fun hf => ?_)
  · refine wk_iconst (pc := 23) (v := (-1 : Int32)) dX5_upcoming_23 (by decide) ?_
    exact wk_iret (pc := 24) dX5_upcoming_24 rfl (xI_of hf)
  · refine wk_aload_n (pc := 11) dX5_upcoming_11 rfl 0 rfl ?_
    refine wk_getR (C := RX5) (T := TX5) (N := 5) (pc := 12) dX5_upcoming_12 (nc_49 hG).2 (nc_49 hG).1 rfl qU_X5 0 (by decide) qF_X5_9 rfl ?_
    refine wk_aload_n (pc := 15) dX5_upcoming_15 rfl 0 rfl ?_
    refine wk_getI (C := RX5) (T := TX5) (N := 5) (pc := 16) dX5_upcoming_16 (nc_49 hG).2 (nc_49 hG).1 rfl qU_X5 3 (by decide) qF_X5_22 rfl ?_
    obtain ⟨h19, hf⟩ := xif_some hf
    refine wk_iald (pc := 19) (jj := (s 49 3).toNatClampNeg) dX5_upcoming_19 (nc_50 hG).2 (nc_50 hG).1 h19 rfl ?_
    refine wk_goto (pc := 20) (tgt := 24) dX5_upcoming_20 rfl ?_
    exact wk_iret (pc := 24) dX5_upcoming_24 rfl (xI_of hf)
noncomputable def sX5_isDigit (p0 : Int32) (s : xS) : Option (Int32 × xS) := xlet ((if p0 < (48 : Int32) then (0 : Int32) else (if (57 : Int32) < p0 then (0 : Int32) else (1 : Int32)))) (fun y17d => (if y17d = 0 ∨ y17d = 1 then some (y17d, s) else none))
set_option maxHeartbeats 4000000 in
set_option maxRecDepth 100000 in
theorem kX5_isDigit (l : Launch) {G : xG} (hG : xC1 G)  {p0 : Int32}  {s : xS} {r : Int32} {s' : xS} (hf : sX5_isDigit p0 s = some (r, s')) : xMet l G 2 yX5_isDigit cX5_isDigit 1 (some .boolean) [.int p0] s (xI r s') := by
  refine xMet.of (by decide) (Nat.le_of_ble_eq_true rfl) ?_
  show wk l G 2 RX5 cX5_isDigit 1 (some .boolean) (xI r s') 0 [(0, .int p0)] [] s
  unfold sX5_isDigit at hf
  refine wk_iload_n (pc := 0) dX5_isDigit_0 rfl 0 rfl ?_
  refine wk_bipush (pc := 1) (v := (48 : Int32)) dX5_isDigit_1 (by decide) ?_
  obtain ⟨y17d, hy17d, hf⟩ := xlet_some hf
  have K17 : wk l G 2 RX5 cX5_isDigit 1 (some .boolean) (xI r s') 17 [(0, .int p0)] [.int y17d] s := by
    obtain ⟨h17, hf⟩ := xif_some hf
    exact wk_zret (pc := 17) dX5_isDigit_17 rfl (x01n h17) (xI_of hf)
  by_cases c3 : p0 < (48 : Int32)
  · rw [if_pos c3] at hy17d
    refine wk_icmp_lt_p (pc := 3) (tgt := 16) dX5_isDigit_3 rfl c3 ?_
    refine wk_iconst (pc := 16) (v := (0 : Int32)) dX5_isDigit_16 (by decide) ?_
    exact wk_top hy17d K17
  · rw [if_neg c3] at hy17d
    refine wk_icmp_lt_m (pc := 3) (tgt := 16) dX5_isDigit_3 rfl c3 ?_
    refine wk_iload_n (pc := 6) dX5_isDigit_6 rfl 0 rfl ?_
    refine wk_bipush (pc := 7) (v := (57 : Int32)) dX5_isDigit_7 (by decide) ?_
    by_cases c9 : (57 : Int32) < p0
    · rw [if_pos c9] at hy17d
      refine wk_icmp_gt_p (pc := 9) (tgt := 16) dX5_isDigit_9 rfl c9 ?_
      refine wk_iconst (pc := 16) (v := (0 : Int32)) dX5_isDigit_16 (by decide) ?_
      exact wk_top hy17d K17
    · rw [if_neg c9] at hy17d
      refine wk_icmp_gt_m (pc := 9) (tgt := 16) dX5_isDigit_9 rfl c9 ?_
      refine wk_iconst (pc := 12) (v := (1 : Int32)) dX5_isDigit_12 (by decide) ?_
      refine wk_goto (pc := 13) (tgt := 17) dX5_isDigit_13 rfl ?_
      exact wk_top hy17d K17
noncomputable def sX5_readNumber_L48 (a1_4 : Int32)  (s48 : xS) : Option (Unit × xS) := xbind (sX4_add 51 a1_4 s48) (fun _ s53 => some ((), s53))
noncomputable def sX5_readNumber_L4  (self4 : Int32 × Int32 → xS → Option (Unit × xS)) : Int32 × Int32 → xS → Option (Unit × xS) := fun (a1_4, a2_4) s4 => (if (4 : Int32) ≤ a2_4 then (sX5_readNumber_L48 a1_4)  s4 else xbind (sX5_upcoming  s4) (fun r10 s10 => xbind (sX5_isDigit r10 s10) (fun r13 s13 => (if r13 = 0 then (sX5_readNumber_L48 a1_4)  s13 else xbind (sX5_upcoming  s13) (fun r24 s24 => xlet (((((10 : Int32) * a1_4) + r24) - (48 : Int32))) (fun y31 => xlet (xup s24 49 (upd (s24 49) 3 ((s24 49 3) + (1 : Int32)))) (fun s39 => xlet (a2_4 + (1 : Int32)) (fun y42 => self4 (y31, y42) s39))))))))
noncomputable def sX5_readNumber  (s : xS) : Option (Unit × xS) := xloop sX5_readNumber_L4 xF ((0 : Int32), (0 : Int32)) s
set_option maxHeartbeats 4000000 in
set_option maxRecDepth 100000 in
theorem kX5_readNumber (l : Launch) {G : xG} (hG : xC1 G)    {s : xS} {s' : xS} (hf : sX5_readNumber  s = some ((), s')) : xMet l G 3 yX5_readNumber cX5_readNumber 3 none [.ref (gA G 49)] s (xU s') := by
  refine xMet.of (by decide) (Nat.le_of_ble_eq_true rfl) ?_
  show wk l G 3 RX5 cX5_readNumber 3 none (xU s') 0 [(0, .ref (gA G 49))] [] s
  unfold sX5_readNumber at hf
  have J48 : ∀ (a1_4 : Int32)    (s48 : xS), (sX5_readNumber_L48 a1_4)  s48 = some ((), s') → wk l G 3 RX5 cX5_readNumber 3 none (xU s') 48 [(0, .ref (gA G 49)), (1, .int a1_4)] [] s48 := by
    intro a1_4 s48 hf
    unfold sX5_readNumber_L48 at hf
    refine wk_aload_n (pc := 48) dX5_readNumber_48 rfl 0 rfl ?_
    refine wk_getR (C := RX5) (T := TX5) (N := 5) (pc := 49) dX5_readNumber_49 (nc_49 hG).2 (nc_49 hG).1 rfl qU_X5 4 (by decide) qF_X5_28 rfl ?_
    refine wk_iload_n (pc := 52) dX5_readNumber_52 rfl 1 rfl ?_
    obtain ⟨⟨⟩, s53, hc53, hf⟩ := xbind_some hf
    refine wk_callVU (pc := 53) (As := [.int a1_4]) (rest := []) (kX4_add l hG (by decide) hc53) cw_X5_46 (by decide) dX5_readNumber_53 (nc_51 hG).2 (nc_51 hG).1 rfl rfl rfl (Nat.le_of_ble_eq_true rfl) ?_
    exact wk_vret (pc := 56) dX5_readNumber_56 rfl (xU_of hf)
  have J4 : ∀   (N : Nat) (a1_4 : Int32) (a2_4 : Int32)  (s4 : xS), xloop sX5_readNumber_L4 N (a1_4, a2_4) s4 = some ((), s') → wk l G 3 RX5 cX5_readNumber 3 none (xU s') 4 [(0, .ref (gA G 49)), (1, .int a1_4), (2, .int a2_4)] [] s4 := by
    intro N
    induction N with
    | zero => intro a1_4 a2_4 s4 hf; exact (xloop_0 hf).elim
    | succ N ih4 =>
      intro a1_4 a2_4 s4 hf
      rw [xloop_s] at hf
      generalize xloop sX5_readNumber_L4 N = self4 at hf ih4
      unfold sX5_readNumber_L4 at hf
      dsimp only at hf
      refine wk_iload_n (pc := 4) dX5_readNumber_4 rfl 2 rfl ?_
      refine wk_iconst (pc := 5) (v := (4 : Int32)) dX5_readNumber_5 (by decide) ?_
      refine wk_icmp_ge (pc := 6) (tgt := 48) dX5_readNumber_6 rfl hf (fun hf => ?_) (fun hf => ?_)
      · exact wk_lv [0, 1] rfl (J48 a1_4   s4 hf)
      · refine wk_aload_n (pc := 9) dX5_readNumber_9 rfl 0 rfl ?_
        obtain ⟨r10, s10, hc10, hf⟩ := xbind_some hf
        refine wk_callVI (pc := 10) (As := []) (rest := []) (kX5_upcoming l hG  hc10) cw_X5_56 (by decide) dX5_readNumber_10 (nc_49 hG).2 (nc_49 hG).1 rfl rfl rfl (Nat.le_of_ble_eq_true rfl) ?_
        obtain ⟨r13, s13, hc13, hf⟩ := xbind_some hf
        refine wk_callSI (pc := 13) (As := [.int r10]) (rest := []) (kX5_isDigit l hG  hc13) cw_X5_66 (by decide) dX5_readNumber_13 rfl (Nat.le_of_ble_eq_true rfl) ?_
        refine wk_if_eq (pc := 16) (tgt := 48) dX5_readNumber_16 rfl hf (fun hf => ?_) (fun hf => ?_)
        · exact wk_lv [0, 1] rfl (J48 a1_4   s13 hf)
        · refine wk_bipush (pc := 19) (v := (10 : Int32)) dX5_readNumber_19 (by decide) ?_
          refine wk_iload_n (pc := 21) dX5_readNumber_21 rfl 1 rfl ?_
          refine wk_imul (pc := 22) dX5_readNumber_22 ?_
          refine wk_aload_n (pc := 23) dX5_readNumber_23 rfl 0 rfl ?_
          obtain ⟨r24, s24, hc24, hf⟩ := xbind_some hf
          refine wk_callVI (pc := 24) (As := []) (rest := [.int ((10 : Int32) * a1_4)]) (kX5_upcoming l hG  hc24) cw_X5_56 (by decide) dX5_readNumber_24 (nc_49 hG).2 (nc_49 hG).1 rfl rfl rfl (Nat.le_of_ble_eq_true rfl) ?_
          refine wk_iadd (pc := 27) dX5_readNumber_27 ?_
          refine wk_bipush (pc := 28) (v := (48 : Int32)) dX5_readNumber_28 (by decide) ?_
          refine wk_isub (pc := 30) dX5_readNumber_30 ?_
          obtain ⟨y31, hy31, hf⟩ := xlet_some hf
          refine wk_top hy31 ?_
          refine wk_istore_n (pc := 31) (lv' := [(1, .int y31), (0, .ref (gA G 49)), (2, .int a2_4)]) dX5_readNumber_31 rfl (by decide) rfl ?_
          refine wk_aload_n (pc := 32) dX5_readNumber_32 rfl 1 rfl ?_
          refine wk_dup (pc := 33) dX5_readNumber_33 rfl ?_
          refine wk_getI (C := RX5) (T := TX5) (N := 5) (pc := 34) dX5_readNumber_34 (nc_49 hG).2 (nc_49 hG).1 rfl qU_X5 3 (by decide) qF_X5_22 rfl ?_
          refine wk_iconst (pc := 37) (v := (1 : Int32)) dX5_readNumber_37 (by decide) ?_
          refine wk_iadd (pc := 38) dX5_readNumber_38 ?_
          refine wk_putI (C := RX5) (T := TX5) (N := 5) (ty := .int) (pc := 39) dX5_readNumber_39 (nc_49 hG).2 (nc_49 hG).1 rfl qU_X5 tyX5 tyX5_ok nmX5 3 (by decide) qF_X5_22 rfl rfl rfl rfl rfl ?_
          obtain ⟨s39, hs39, hf⟩ := xlet_some hf
          refine wk_sig hs39 ?_
          obtain ⟨y42, hy42, hf⟩ := xlet_some hf
          refine wk_iinc (pc := 42) (v := y42) (lv' := [(2, .int y42), (1, .int y31), (0, .ref (gA G 49))]) dX5_readNumber_42 2 rfl (by rw [hy42] <;> rfl) (by decide) rfl ?_
          refine wk_goto (pc := 45) (tgt := 4) dX5_readNumber_45 rfl ?_
          exact wk_lv [2, 1, 0] rfl (ih4 y31 y42  s39 hf)
  refine wk_iconst (pc := 0) (v := (0 : Int32)) dX5_readNumber_0 (by decide) ?_
  refine wk_istore_n (pc := 1) (lv' := [(1, .int (0 : Int32)), (0, .ref (gA G 49))]) dX5_readNumber_1 rfl (by decide) rfl ?_
  refine wk_iconst (pc := 2) (v := (0 : Int32)) dX5_readNumber_2 (by decide) ?_
  refine wk_istore_n (pc := 3) (lv' := [(2, .int (0 : Int32)), (1, .int (0 : Int32)), (0, .ref (gA G 49))]) dX5_readNumber_3 rfl (by decide) rfl ?_
  exact wk_lv [2, 1, 0] rfl (J4  xF (0 : Int32) (0 : Int32)  s hf)
noncomputable def sX5_readName_L2 (p1 : Int32) (self2 : Int32 → xS → Option (Int32 × xS)) : Int32 → xS → Option (Int32 × xS) := fun a2_2 s2 => (if (3 : Int32) ≤ a2_2 then some ((0 : Int32), s2) else (if xin (((3 : Int32) * (s2 49 2)) + a2_2) 6 then (if p1 = (xNames.getD (((3 : Int32) * (s2 49 2)) + a2_2).toNatClampNeg 0) then xlet (xup s2 49 (upd (s2 49) 3 ((s2 49 3) + (1 : Int32)))) (fun s30 => xbind (sX4_add 51 ((-1 : Int32) - a2_2) s30) (fun _ s40 => some ((1 : Int32), s40))) else xlet (a2_2 + (1 : Int32)) (fun y45 => self2 y45 s2)) else none))
noncomputable def sX5_readName (p1 : Int32) (s : xS) : Option (Int32 × xS) := xloop (sX5_readName_L2 p1) xF (0 : Int32) s
set_option maxHeartbeats 4000000 in
set_option maxRecDepth 100000 in
theorem kX5_readName (l : Launch) {G : xG} (hG : xC1 G)  {p1 : Int32}  {s : xS} {r : Int32} {s' : xS} (hf : sX5_readName p1 s = some (r, s')) : xMet l G 3 yX5_readName cX5_readName 3 (some .boolean) [.ref (gA G 49), .int p1] s (xI r s') := by
  refine xMet.of (by decide) (Nat.le_of_ble_eq_true rfl) ?_
  show wk l G 3 RX5 cX5_readName 3 (some .boolean) (xI r s') 0 [(0, .ref (gA G 49)), (1, .int p1)] [] s
  unfold sX5_readName at hf
  have J2 : ∀   (N : Nat) (a2_2 : Int32)  (s2 : xS), xloop (sX5_readName_L2 p1) N a2_2 s2 = some (r, s') → wk l G 3 RX5 cX5_readName 3 (some .boolean) (xI r s') 2 [(0, .ref (gA G 49)), (1, .int p1), (2, .int a2_2)] [] s2 := by
    intro N
    induction N with
    | zero => intro a2_2 s2 hf; exact (xloop_0 hf).elim
    | succ N ih2 =>
      intro a2_2 s2 hf
      rw [xloop_s] at hf
      generalize xloop (sX5_readName_L2 p1) N = self2 at hf ih2
      unfold sX5_readName_L2 at hf
      refine wk_iload_n (pc := 2) dX5_readName_2 rfl 2 rfl ?_
      refine wk_iconst (pc := 3) (v := (3 : Int32)) dX5_readName_3 (by decide) ?_
      refine wk_icmp_ge (pc := 4) (tgt := 51) dX5_readName_4 rfl hf (fun hf => ?_) (fun hf => ?_)
      · refine wk_iconst (pc := 51) (v := (0 : Int32)) dX5_readName_51 (by decide) ?_
        exact wk_zret (pc := 52) dX5_readName_52 rfl rfl (xI_of hf)
      · refine wk_iload_n (pc := 7) dX5_readName_7 rfl 1 rfl ?_
        refine wk_getsNames (pc := 8) dX5_readName_8 qF_X5_79 ?_
        refine wk_iconst (pc := 11) (v := (3 : Int32)) dX5_readName_11 (by decide) ?_
        refine wk_aload_n (pc := 12) dX5_readName_12 rfl 0 rfl ?_
        refine wk_getI (C := RX5) (T := TX5) (N := 5) (pc := 13) dX5_readName_13 (nc_49 hG).2 (nc_49 hG).1 rfl qU_X5 2 (by decide) qF_X5_19 rfl ?_
        refine wk_imul (pc := 16) dX5_readName_16 ?_
        refine wk_iload_n (pc := 17) dX5_readName_17 rfl 2 rfl ?_
        refine wk_iadd (pc := 18) dX5_readName_18 ?_
        obtain ⟨h19, hf⟩ := xif_some hf
        refine wk_tldNames (pc := 19) dX5_readName_19 h19 ?_
        refine wk_icmp_ne (pc := 20) (tgt := 45) dX5_readName_20 rfl hf (fun hf => ?_) (fun hf => ?_)
        · obtain ⟨y45, hy45, hf⟩ := xlet_some hf
          refine wk_iinc (pc := 45) (v := y45) (lv' := [(2, .int y45), (0, .ref (gA G 49)), (1, .int p1)]) dX5_readName_45 2 rfl (by rw [hy45] <;> rfl) (by decide) rfl ?_
          refine wk_goto (pc := 48) (tgt := 2) dX5_readName_48 rfl ?_
          exact wk_lv [1, 2, 0] rfl (ih2 y45  s2 hf)
        · refine wk_aload_n (pc := 23) dX5_readName_23 rfl 0 rfl ?_
          refine wk_dup (pc := 24) dX5_readName_24 rfl ?_
          refine wk_getI (C := RX5) (T := TX5) (N := 5) (pc := 25) dX5_readName_25 (nc_49 hG).2 (nc_49 hG).1 rfl qU_X5 3 (by decide) qF_X5_22 rfl ?_
          refine wk_iconst (pc := 28) (v := (1 : Int32)) dX5_readName_28 (by decide) ?_
          refine wk_iadd (pc := 29) dX5_readName_29 ?_
          refine wk_putI (C := RX5) (T := TX5) (N := 5) (ty := .int) (pc := 30) dX5_readName_30 (nc_49 hG).2 (nc_49 hG).1 rfl qU_X5 tyX5 tyX5_ok nmX5 3 (by decide) qF_X5_22 rfl rfl rfl rfl rfl ?_
          obtain ⟨s30, hs30, hf⟩ := xlet_some hf
          refine wk_sig hs30 ?_
          refine wk_aload_n (pc := 33) dX5_readName_33 rfl 0 rfl ?_
          refine wk_getR (C := RX5) (T := TX5) (N := 5) (pc := 34) dX5_readName_34 (nc_49 hG).2 (nc_49 hG).1 rfl qU_X5 4 (by decide) qF_X5_28 rfl ?_
          refine wk_iconst (pc := 37) (v := (-1 : Int32)) dX5_readName_37 (by decide) ?_
          refine wk_iload_n (pc := 38) dX5_readName_38 rfl 2 rfl ?_
          refine wk_isub (pc := 39) dX5_readName_39 ?_
          obtain ⟨⟨⟩, s40, hc40, hf⟩ := xbind_some hf
          refine wk_callVU (pc := 40) (As := [.int ((-1 : Int32) - a2_2)]) (rest := []) (kX4_add l hG (by decide) hc40) cw_X5_46 (by decide) dX5_readName_40 (nc_51 hG).2 (nc_51 hG).1 rfl rfl rfl (Nat.le_of_ble_eq_true rfl) ?_
          refine wk_iconst (pc := 43) (v := (1 : Int32)) dX5_readName_43 (by decide) ?_
          exact wk_zret (pc := 44) dX5_readName_44 rfl rfl (xI_of hf)
  refine wk_iconst (pc := 0) (v := (0 : Int32)) dX5_readName_0 (by decide) ?_
  refine wk_istore_n (pc := 1) (lv' := [(2, .int (0 : Int32)), (0, .ref (gA G 49)), (1, .int p1)]) dX5_readName_1 rfl (by decide) rfl ?_
  exact wk_lv [1, 2, 0] rfl (J2  xF (0 : Int32)  s hf)
noncomputable def sX5_readSingle_L30 (p1 : Int32) (rc : Int32 → Int32 → xS → Option (Int32 × xS)) (r1 : Int32)  (s30 : xS) : Option (Int32 × xS) := (if (5 : Int32) ≤ p1 then some ((0 : Int32), s30) else xbind (rc r1 (p1 + (1 : Int32)) s30) (fun r40 s40 => xlet ((if r40 = 0 then (0 : Int32) else (1 : Int32))) (fun y51d => (if y51d = 0 ∨ y51d = 1 then some (y51d, s40) else none))))
noncomputable def sX5_readSingle (rc : Int32 → Int32 → xS → Option (Int32 × xS)) (p1 : Int32) (s : xS) : Option (Int32 × xS) := xbind (sX5_upcoming  s) (fun r1 s1 => xbind (sX5_isDigit r1 s1) (fun r6 s6 => (if r6 = 0 then (if r1 = (33 : Int32) then (sX5_readSingle_L30 p1 rc r1)  s6 else (if r1 = (40 : Int32) then (sX5_readSingle_L30 p1 rc r1)  s6 else xbind (sX5_readName r1 s6) (fun r54 s54 => (if r54 = 0 ∨ r54 = 1 then some (r54, s54) else none)))) else xbind (sX5_readNumber  s6) (fun _ s13 => some ((1 : Int32), s13)))))
set_option maxHeartbeats 4000000 in
set_option maxRecDepth 100000 in
theorem kX5_readSingle (l : Launch) {G : xG} (hG : xC1 G) {m0 : Nat} {rc : Int32 → Int32 → xS → Option (Int32 × xS)} (Hrc : ∀ (q0 : Int32) (q1 : Int32) (s : xS) (r : Int32) (s' : xS), rc q0 q1 s = some (r, s') → xMet l G m0 yX5_readOpened cX5_readOpened 3 (some .boolean) [.ref (gA G 49), .int q0, .int q1] s (xI r s')) {p1 : Int32}  {s : xS} {r : Int32} {s' : xS} (hf : sX5_readSingle rc p1 s = some (r, s')) : xMet l G (m0 + 4) yX5_readSingle cX5_readSingle 3 (some .boolean) [.ref (gA G 49), .int p1] s (xI r s') := by
  refine xMet.of (by decide) (Nat.le_of_ble_eq_true rfl) ?_
  show wk l G (m0 + 4) RX5 cX5_readSingle 3 (some .boolean) (xI r s') 0 [(0, .ref (gA G 49)), (1, .int p1)] [] s
  unfold sX5_readSingle at hf
  have J30 : ∀ (r1 : Int32)    (s30 : xS), (sX5_readSingle_L30 p1 rc r1)  s30 = some (r, s') → wk l G (m0 + 4) RX5 cX5_readSingle 3 (some .boolean) (xI r s') 30 [(0, .ref (gA G 49)), (1, .int p1), (2, .int r1)] [] s30 := by
    intro r1 s30 hf
    unfold sX5_readSingle_L30 at hf
    refine wk_iload_n (pc := 30) dX5_readSingle_30 rfl 1 rfl ?_
    refine wk_iconst (pc := 31) (v := (5 : Int32)) dX5_readSingle_31 (by decide) ?_
    refine wk_icmp_ge (pc := 32) (tgt := 50) dX5_readSingle_32 rfl hf (fun hf => ?_) (fun hf => ?_)
    · refine wk_iconst (pc := 50) (v := (0 : Int32)) dX5_readSingle_50 (by decide) ?_
      exact wk_zret (pc := 51) dX5_readSingle_51 rfl rfl (xI_of hf)
    · refine wk_aload_n (pc := 35) dX5_readSingle_35 rfl 0 rfl ?_
      refine wk_iload_n (pc := 36) dX5_readSingle_36 rfl 2 rfl ?_
      refine wk_iload_n (pc := 37) dX5_readSingle_37 rfl 1 rfl ?_
      refine wk_iconst (pc := 38) (v := (1 : Int32)) dX5_readSingle_38 (by decide) ?_
      refine wk_iadd (pc := 39) dX5_readSingle_39 ?_
      obtain ⟨r40, s40, hc40, hf⟩ := xbind_some hf
      refine wk_callVI (pc := 40) (As := [.int r1, .int (p1 + (1 : Int32))]) (rest := []) (Hrc r1 (p1 + (1 : Int32)) s30 _ _ hc40) cw_X5_72 (by omega) dX5_readSingle_40 (nc_49 hG).2 (nc_49 hG).1 rfl rfl rfl (Nat.le_of_ble_eq_true rfl) ?_
      obtain ⟨y51d, hy51d, hf⟩ := xlet_some hf
      have K51 : wk l G (m0 + 4) RX5 cX5_readSingle 3 (some .boolean) (xI r s') 51 [(0, .ref (gA G 49)), (1, .int p1), (2, .int r1)] [.int y51d] s40 := by
        obtain ⟨h51, hf⟩ := xif_some hf
        exact wk_zret (pc := 51) dX5_readSingle_51 rfl (x01n h51) (xI_of hf)
      by_cases c43 : r40 = 0
      · rw [if_pos c43] at hy51d
        refine wk_if_eq_p (pc := 43) (tgt := 50) dX5_readSingle_43 rfl c43 ?_
        refine wk_iconst (pc := 50) (v := (0 : Int32)) dX5_readSingle_50 (by decide) ?_
        exact wk_top hy51d K51
      · rw [if_neg c43] at hy51d
        refine wk_if_eq_m (pc := 43) (tgt := 50) dX5_readSingle_43 rfl c43 ?_
        refine wk_iconst (pc := 46) (v := (1 : Int32)) dX5_readSingle_46 (by decide) ?_
        refine wk_goto (pc := 47) (tgt := 51) dX5_readSingle_47 rfl ?_
        exact wk_top hy51d K51
  refine wk_aload_n (pc := 0) dX5_readSingle_0 rfl 0 rfl ?_
  obtain ⟨r1, s1, hc1, hf⟩ := xbind_some hf
  refine wk_callVI (pc := 1) (As := []) (rest := []) (kX5_upcoming l hG  hc1) cw_X5_56 (by omega) dX5_readSingle_1 (nc_49 hG).2 (nc_49 hG).1 rfl rfl rfl (Nat.le_of_ble_eq_true rfl) ?_
  refine wk_istore_n (pc := 4) (lv' := [(2, .int r1), (0, .ref (gA G 49)), (1, .int p1)]) dX5_readSingle_4 rfl (by decide) rfl ?_
  refine wk_iload_n (pc := 5) dX5_readSingle_5 rfl 0 rfl ?_
  obtain ⟨r6, s6, hc6, hf⟩ := xbind_some hf
  refine wk_callSI (pc := 6) (As := [.int r1]) (rest := []) (kX5_isDigit l hG  hc6) cw_X5_66 (by omega) dX5_readSingle_6 rfl (Nat.le_of_ble_eq_true rfl) ?_
  refine wk_if_eq (pc := 9) (tgt := 18) dX5_readSingle_9 rfl hf (fun hf => ?_) (fun hf => ?_)
  · refine wk_iload_n (pc := 18) dX5_readSingle_18 rfl 0 rfl ?_
    refine wk_bipush (pc := 19) (v := (33 : Int32)) dX5_readSingle_19 (by decide) ?_
    refine wk_icmp_eq (pc := 21) (tgt := 30) dX5_readSingle_21 rfl hf (fun hf => ?_) (fun hf => ?_)
    · exact wk_lv [1, 2, 0] rfl (J30 r1   s6 hf)
    · refine wk_iload_n (pc := 24) dX5_readSingle_24 rfl 0 rfl ?_
      refine wk_bipush (pc := 25) (v := (40 : Int32)) dX5_readSingle_25 (by decide) ?_
      refine wk_icmp_ne (pc := 27) (tgt := 52) dX5_readSingle_27 rfl hf (fun hf => ?_) (fun hf => ?_)
      · refine wk_aload_n (pc := 52) dX5_readSingle_52 rfl 1 rfl ?_
        refine wk_iload_n (pc := 53) dX5_readSingle_53 rfl 0 rfl ?_
        obtain ⟨r54, s54, hc54, hf⟩ := xbind_some hf
        refine wk_callVI (pc := 54) (As := [.int r1]) (rest := []) (kX5_readName l hG  hc54) cw_X5_76 (by omega) dX5_readSingle_54 (nc_49 hG).2 (nc_49 hG).1 rfl rfl rfl (Nat.le_of_ble_eq_true rfl) ?_
        obtain ⟨h57, hf⟩ := xif_some hf
        exact wk_zret (pc := 57) dX5_readSingle_57 rfl (x01n h57) (xI_of hf)
      · exact wk_lv [1, 2, 0] rfl (J30 r1   s6 hf)
  · refine wk_aload_n (pc := 12) dX5_readSingle_12 rfl 1 rfl ?_
    obtain ⟨⟨⟩, s13, hc13, hf⟩ := xbind_some hf
    refine wk_callVU (pc := 13) (As := []) (rest := []) (kX5_readNumber l hG  hc13) cw_X5_69 (by omega) dX5_readSingle_13 (nc_49 hG).2 (nc_49 hG).1 rfl rfl rfl (Nat.le_of_ble_eq_true rfl) ?_
    refine wk_iconst (pc := 16) (v := (1 : Int32)) dX5_readSingle_16 (by decide) ?_
    exact wk_zret (pc := 17) dX5_readSingle_17 rfl rfl (xI_of hf)
noncomputable def sX5_readProduct_L63 (p1 : Int32) (rc : Int32 → Int32 → xS → Option (Int32 × xS)) (self10 : Unit → xS → Option (Int32 × xS))  (s63 : xS) : Option (Int32 × xS) := (if xin (s63 49 3) 50 then xlet ((s63 50 (s63 49 3).toNatClampNeg)) (fun y72 => xlet (xup s63 49 (upd (s63 49) 3 ((s63 49 3) + (1 : Int32)))) (fun s80 => xbind (sX5_readSingle rc p1 s80) (fun r85 s85 => (if r85 = 0 then some ((0 : Int32), s85) else xbind (sX4_add 51 (-y72) s85) (fun _ s99 => self10 () s99))))) else none)
noncomputable def sX5_readProduct_L10 (p1 : Int32) (rc : Int32 → Int32 → xS → Option (Int32 × xS)) (self10 : Unit → xS → Option (Int32 × xS)) : Unit → xS → Option (Int32 × xS) := fun _ s10 => (if (s10 49 1) ≤ (s10 49 3) then some ((1 : Int32), s10) else (if xin (s10 49 3) 50 then (if (s10 50 (s10 49 3).toNatClampNeg) = (42 : Int32) then (sX5_readProduct_L63 p1 rc self10)  s10 else (if xin (s10 49 3) 50 then (if (s10 50 (s10 49 3).toNatClampNeg) = (47 : Int32) then (sX5_readProduct_L63 p1 rc self10)  s10 else (if xin (s10 49 3) 50 then (if (s10 50 (s10 49 3).toNatClampNeg) = (37 : Int32) then (sX5_readProduct_L63 p1 rc self10)  s10 else some ((1 : Int32), s10)) else none)) else none)) else none))
noncomputable def sX5_readProduct (rc : Int32 → Int32 → xS → Option (Int32 × xS)) (p1 : Int32) (s : xS) : Option (Int32 × xS) := xbind (sX5_readSingle rc p1 s) (fun r2 s2 => (if r2 = 0 then some ((0 : Int32), s2) else xloop (sX5_readProduct_L10 p1 rc) xF () s2))
set_option maxHeartbeats 4000000 in
set_option maxRecDepth 100000 in
theorem kX5_readProduct (l : Launch) {G : xG} (hG : xC1 G) {m0 : Nat} {rc : Int32 → Int32 → xS → Option (Int32 × xS)} (Hrc : ∀ (q0 : Int32) (q1 : Int32) (s : xS) (r : Int32) (s' : xS), rc q0 q1 s = some (r, s') → xMet l G m0 yX5_readOpened cX5_readOpened 3 (some .boolean) [.ref (gA G 49), .int q0, .int q1] s (xI r s')) {p1 : Int32}  {s : xS} {r : Int32} {s' : xS} (hf : sX5_readProduct rc p1 s = some (r, s')) : xMet l G (m0 + 5) yX5_readProduct cX5_readProduct 3 (some .boolean) [.ref (gA G 49), .int p1] s (xI r s') := by
  refine xMet.of (by decide) (Nat.le_of_ble_eq_true rfl) ?_
  show wk l G (m0 + 5) RX5 cX5_readProduct 3 (some .boolean) (xI r s') 0 [(0, .ref (gA G 49)), (1, .int p1)] [] s
  unfold sX5_readProduct at hf
  have J10 : ∀   (N : Nat)   (s10 : xS), xloop (sX5_readProduct_L10 p1 rc) N () s10 = some (r, s') → wk l G (m0 + 5) RX5 cX5_readProduct 3 (some .boolean) (xI r s') 10 [(0, .ref (gA G 49)), (1, .int p1)] [] s10 := by
    intro N
    induction N with
    | zero => intro  s10 hf; exact (xloop_0 hf).elim
    | succ N ih10 =>
      intro  s10 hf
      rw [xloop_s] at hf
      generalize xloop (sX5_readProduct_L10 p1 rc) N = self10 at hf ih10
      unfold sX5_readProduct_L10 at hf
      have J63 : ∀     (s63 : xS), (sX5_readProduct_L63 p1 rc self10)  s63 = some (r, s') → wk l G (m0 + 5) RX5 cX5_readProduct 3 (some .boolean) (xI r s') 63 [(0, .ref (gA G 49)), (1, .int p1)] [] s63 := by
        intro s63 hf
        unfold sX5_readProduct_L63 at hf
        refine wk_aload_n (pc := 63) dX5_readProduct_63 rfl 0 rfl ?_
        refine wk_getR (C := RX5) (T := TX5) (N := 5) (pc := 64) dX5_readProduct_64 (nc_49 hG).2 (nc_49 hG).1 rfl qU_X5 0 (by decide) qF_X5_9 rfl ?_
        refine wk_aload_n (pc := 67) dX5_readProduct_67 rfl 0 rfl ?_
        refine wk_getI (C := RX5) (T := TX5) (N := 5) (pc := 68) dX5_readProduct_68 (nc_49 hG).2 (nc_49 hG).1 rfl qU_X5 3 (by decide) qF_X5_22 rfl ?_
        obtain ⟨h71, hf⟩ := xif_some hf
        refine wk_iald (pc := 71) (jj := (s63 49 3).toNatClampNeg) dX5_readProduct_71 (nc_50 hG).2 (nc_50 hG).1 h71 rfl ?_
        obtain ⟨y72, hy72, hf⟩ := xlet_some hf
        refine wk_top hy72 ?_
        refine wk_istore_n (pc := 72) (lv' := [(2, .int y72), (0, .ref (gA G 49)), (1, .int p1)]) dX5_readProduct_72 rfl (by decide) rfl ?_
        refine wk_aload_n (pc := 73) dX5_readProduct_73 rfl 1 rfl ?_
        refine wk_dup (pc := 74) dX5_readProduct_74 rfl ?_
        refine wk_getI (C := RX5) (T := TX5) (N := 5) (pc := 75) dX5_readProduct_75 (nc_49 hG).2 (nc_49 hG).1 rfl qU_X5 3 (by decide) qF_X5_22 rfl ?_
        refine wk_iconst (pc := 78) (v := (1 : Int32)) dX5_readProduct_78 (by decide) ?_
        refine wk_iadd (pc := 79) dX5_readProduct_79 ?_
        refine wk_putI (C := RX5) (T := TX5) (N := 5) (ty := .int) (pc := 80) dX5_readProduct_80 (nc_49 hG).2 (nc_49 hG).1 rfl qU_X5 tyX5 tyX5_ok nmX5 3 (by decide) qF_X5_22 rfl rfl rfl rfl rfl ?_
        obtain ⟨s80, hs80, hf⟩ := xlet_some hf
        refine wk_sig hs80 ?_
        refine wk_aload_n (pc := 83) dX5_readProduct_83 rfl 1 rfl ?_
        refine wk_iload_n (pc := 84) dX5_readProduct_84 rfl 2 rfl ?_
        obtain ⟨r85, s85, hc85, hf⟩ := xbind_some hf
        refine wk_callVI (pc := 85) (As := [.int p1]) (rest := []) (kX5_readSingle l hG Hrc  hc85) cw_X5_63 (by omega) dX5_readProduct_85 (nc_49 hG).2 (nc_49 hG).1 rfl rfl rfl (Nat.le_of_ble_eq_true rfl) ?_
        refine wk_if_ne (pc := 88) (tgt := 93) dX5_readProduct_88 rfl hf (fun hf => ?_) (fun hf => ?_)
        · refine wk_aload_n (pc := 93) dX5_readProduct_93 rfl 1 rfl ?_
          refine wk_getR (C := RX5) (T := TX5) (N := 5) (pc := 94) dX5_readProduct_94 (nc_49 hG).2 (nc_49 hG).1 rfl qU_X5 4 (by decide) qF_X5_28 rfl ?_
          refine wk_iload_n (pc := 97) dX5_readProduct_97 rfl 0 rfl ?_
          refine wk_ineg (pc := 98) dX5_readProduct_98 ?_
          obtain ⟨⟨⟩, s99, hc99, hf⟩ := xbind_some hf
          refine wk_callVU (pc := 99) (As := [.int (-y72)]) (rest := []) (kX4_add l hG (by decide) hc99) cw_X5_46 (by omega) dX5_readProduct_99 (nc_51 hG).2 (nc_51 hG).1 rfl rfl rfl (Nat.le_of_ble_eq_true rfl) ?_
          refine wk_goto (pc := 102) (tgt := 10) dX5_readProduct_102 rfl ?_
          exact wk_lv [1, 2] rfl (ih10   s99 hf)
        · refine wk_iconst (pc := 91) (v := (0 : Int32)) dX5_readProduct_91 (by decide) ?_
          exact wk_zret (pc := 92) dX5_readProduct_92 rfl rfl (xI_of hf)
      refine wk_aload_n (pc := 10) dX5_readProduct_10 rfl 0 rfl ?_
      refine wk_getI (C := RX5) (T := TX5) (N := 5) (pc := 11) dX5_readProduct_11 (nc_49 hG).2 (nc_49 hG).1 rfl qU_X5 3 (by decide) qF_X5_22 rfl ?_
      refine wk_aload_n (pc := 14) dX5_readProduct_14 rfl 0 rfl ?_
      refine wk_getI (C := RX5) (T := TX5) (N := 5) (pc := 15) dX5_readProduct_15 (nc_49 hG).2 (nc_49 hG).1 rfl qU_X5 1 (by decide) qF_X5_15 rfl ?_
      refine wk_icmp_ge (pc := 18) (tgt := 105) dX5_readProduct_18 rfl hf (fun hf => ?_) (fun hf => ?_)
      · refine wk_iconst (pc := 105) (v := (1 : Int32)) dX5_readProduct_105 (by decide) ?_
        exact wk_zret (pc := 106) dX5_readProduct_106 rfl rfl (xI_of hf)
      · refine wk_aload_n (pc := 21) dX5_readProduct_21 rfl 0 rfl ?_
        refine wk_getR (C := RX5) (T := TX5) (N := 5) (pc := 22) dX5_readProduct_22 (nc_49 hG).2 (nc_49 hG).1 rfl qU_X5 0 (by decide) qF_X5_9 rfl ?_
        refine wk_aload_n (pc := 25) dX5_readProduct_25 rfl 0 rfl ?_
        refine wk_getI (C := RX5) (T := TX5) (N := 5) (pc := 26) dX5_readProduct_26 (nc_49 hG).2 (nc_49 hG).1 rfl qU_X5 3 (by decide) qF_X5_22 rfl ?_
        obtain ⟨h29, hf⟩ := xif_some hf
        refine wk_iald (pc := 29) (jj := (s10 49 3).toNatClampNeg) dX5_readProduct_29 (nc_50 hG).2 (nc_50 hG).1 h29 rfl ?_
        refine wk_bipush (pc := 30) (v := (42 : Int32)) dX5_readProduct_30 (by decide) ?_
        refine wk_icmp_eq (pc := 32) (tgt := 63) dX5_readProduct_32 rfl hf (fun hf => ?_) (fun hf => ?_)
        · exact wk_lv [0, 1] rfl (J63    s10 hf)
        · refine wk_aload_n (pc := 35) dX5_readProduct_35 rfl 0 rfl ?_
          refine wk_getR (C := RX5) (T := TX5) (N := 5) (pc := 36) dX5_readProduct_36 (nc_49 hG).2 (nc_49 hG).1 rfl qU_X5 0 (by decide) qF_X5_9 rfl ?_
          refine wk_aload_n (pc := 39) dX5_readProduct_39 rfl 0 rfl ?_
          refine wk_getI (C := RX5) (T := TX5) (N := 5) (pc := 40) dX5_readProduct_40 (nc_49 hG).2 (nc_49 hG).1 rfl qU_X5 3 (by decide) qF_X5_22 rfl ?_
          obtain ⟨h43, hf⟩ := xif_some hf
          refine wk_iald (pc := 43) (jj := (s10 49 3).toNatClampNeg) dX5_readProduct_43 (nc_50 hG).2 (nc_50 hG).1 h43 rfl ?_
          refine wk_bipush (pc := 44) (v := (47 : Int32)) dX5_readProduct_44 (by decide) ?_
          refine wk_icmp_eq (pc := 46) (tgt := 63) dX5_readProduct_46 rfl hf (fun hf => ?_) (fun hf => ?_)
          · exact wk_lv [0, 1] rfl (J63    s10 hf)
          · refine wk_aload_n (pc := 49) dX5_readProduct_49 rfl 0 rfl ?_
            refine wk_getR (C := RX5) (T := TX5) (N := 5) (pc := 50) dX5_readProduct_50 (nc_49 hG).2 (nc_49 hG).1 rfl qU_X5 0 (by decide) qF_X5_9 rfl ?_
            refine wk_aload_n (pc := 53) dX5_readProduct_53 rfl 0 rfl ?_
            refine wk_getI (C := RX5) (T := TX5) (N := 5) (pc := 54) dX5_readProduct_54 (nc_49 hG).2 (nc_49 hG).1 rfl qU_X5 3 (by decide) qF_X5_22 rfl ?_
            obtain ⟨h57, hf⟩ := xif_some hf
            refine wk_iald (pc := 57) (jj := (s10 49 3).toNatClampNeg) dX5_readProduct_57 (nc_50 hG).2 (nc_50 hG).1 h57 rfl ?_
            refine wk_bipush (pc := 58) (v := (37 : Int32)) dX5_readProduct_58 (by decide) ?_
            refine wk_icmp_ne (pc := 60) (tgt := 105) dX5_readProduct_60 rfl hf (fun hf => ?_) (fun hf => ?_)
            · refine wk_iconst (pc := 105) (v := (1 : Int32)) dX5_readProduct_105 (by decide) ?_
              exact wk_zret (pc := 106) dX5_readProduct_106 rfl rfl (xI_of hf)
            · exact wk_lv [0, 1] rfl (J63    s10 hf)
  refine wk_aload_n (pc := 0) dX5_readProduct_0 rfl 0 rfl ?_
  refine wk_iload_n (pc := 1) dX5_readProduct_1 rfl 1 rfl ?_
  obtain ⟨r2, s2, hc2, hf⟩ := xbind_some hf
  refine wk_callVI (pc := 2) (As := [.int p1]) (rest := []) (kX5_readSingle l hG Hrc  hc2) cw_X5_63 (by omega) dX5_readProduct_2 (nc_49 hG).2 (nc_49 hG).1 rfl rfl rfl (Nat.le_of_ble_eq_true rfl) ?_
  refine wk_if_ne (pc := 5) (tgt := 10) dX5_readProduct_5 rfl hf (fun hf => ?_) (fun hf => ?_)
  · exact wk_lv [0, 1] rfl (J10  xF   s2 hf)
  · refine wk_iconst (pc := 8) (v := (0 : Int32)) dX5_readProduct_8 (by decide) ?_
    exact wk_zret (pc := 9) dX5_readProduct_9 rfl rfl (xI_of hf)
noncomputable def sX5_readSum_L49 (p1 : Int32) (rc : Int32 → Int32 → xS → Option (Int32 × xS)) (self10 : Unit → xS → Option (Int32 × xS))  (s49 : xS) : Option (Int32 × xS) := (if xin (s49 49 3) 50 then xlet ((s49 50 (s49 49 3).toNatClampNeg)) (fun y58 => xlet (xup s49 49 (upd (s49 49) 3 ((s49 49 3) + (1 : Int32)))) (fun s66 => xbind (sX5_readProduct rc p1 s66) (fun r71 s71 => (if r71 = 0 then some ((0 : Int32), s71) else xbind (sX4_add 51 (-y58) s71) (fun _ s85 => self10 () s85))))) else none)
noncomputable def sX5_readSum_L10 (p1 : Int32) (rc : Int32 → Int32 → xS → Option (Int32 × xS)) (self10 : Unit → xS → Option (Int32 × xS)) : Unit → xS → Option (Int32 × xS) := fun _ s10 => (if (s10 49 1) ≤ (s10 49 3) then some ((1 : Int32), s10) else (if xin (s10 49 3) 50 then (if (s10 50 (s10 49 3).toNatClampNeg) = (43 : Int32) then (sX5_readSum_L49 p1 rc self10)  s10 else (if xin (s10 49 3) 50 then (if (s10 50 (s10 49 3).toNatClampNeg) = (45 : Int32) then (sX5_readSum_L49 p1 rc self10)  s10 else some ((1 : Int32), s10)) else none)) else none))
noncomputable def sX5_readSum (rc : Int32 → Int32 → xS → Option (Int32 × xS)) (p1 : Int32) (s : xS) : Option (Int32 × xS) := xbind (sX5_readProduct rc p1 s) (fun r2 s2 => (if r2 = 0 then some ((0 : Int32), s2) else xloop (sX5_readSum_L10 p1 rc) xF () s2))
set_option maxHeartbeats 4000000 in
set_option maxRecDepth 100000 in
theorem kX5_readSum (l : Launch) {G : xG} (hG : xC1 G) {m0 : Nat} {rc : Int32 → Int32 → xS → Option (Int32 × xS)} (Hrc : ∀ (q0 : Int32) (q1 : Int32) (s : xS) (r : Int32) (s' : xS), rc q0 q1 s = some (r, s') → xMet l G m0 yX5_readOpened cX5_readOpened 3 (some .boolean) [.ref (gA G 49), .int q0, .int q1] s (xI r s')) {p1 : Int32}  {s : xS} {r : Int32} {s' : xS} (hf : sX5_readSum rc p1 s = some (r, s')) : xMet l G (m0 + 6) yX5_readSum cX5_readSum 3 (some .boolean) [.ref (gA G 49), .int p1] s (xI r s') := by
  refine xMet.of (by decide) (Nat.le_of_ble_eq_true rfl) ?_
  show wk l G (m0 + 6) RX5 cX5_readSum 3 (some .boolean) (xI r s') 0 [(0, .ref (gA G 49)), (1, .int p1)] [] s
  unfold sX5_readSum at hf
  have J10 : ∀   (N : Nat)   (s10 : xS), xloop (sX5_readSum_L10 p1 rc) N () s10 = some (r, s') → wk l G (m0 + 6) RX5 cX5_readSum 3 (some .boolean) (xI r s') 10 [(0, .ref (gA G 49)), (1, .int p1)] [] s10 := by
    intro N
    induction N with
    | zero => intro  s10 hf; exact (xloop_0 hf).elim
    | succ N ih10 =>
      intro  s10 hf
      rw [xloop_s] at hf
      generalize xloop (sX5_readSum_L10 p1 rc) N = self10 at hf ih10
      unfold sX5_readSum_L10 at hf
      have J49 : ∀     (s49 : xS), (sX5_readSum_L49 p1 rc self10)  s49 = some (r, s') → wk l G (m0 + 6) RX5 cX5_readSum 3 (some .boolean) (xI r s') 49 [(0, .ref (gA G 49)), (1, .int p1)] [] s49 := by
        intro s49 hf
        unfold sX5_readSum_L49 at hf
        refine wk_aload_n (pc := 49) dX5_readSum_49 rfl 0 rfl ?_
        refine wk_getR (C := RX5) (T := TX5) (N := 5) (pc := 50) dX5_readSum_50 (nc_49 hG).2 (nc_49 hG).1 rfl qU_X5 0 (by decide) qF_X5_9 rfl ?_
        refine wk_aload_n (pc := 53) dX5_readSum_53 rfl 0 rfl ?_
        refine wk_getI (C := RX5) (T := TX5) (N := 5) (pc := 54) dX5_readSum_54 (nc_49 hG).2 (nc_49 hG).1 rfl qU_X5 3 (by decide) qF_X5_22 rfl ?_
        obtain ⟨h57, hf⟩ := xif_some hf
        refine wk_iald (pc := 57) (jj := (s49 49 3).toNatClampNeg) dX5_readSum_57 (nc_50 hG).2 (nc_50 hG).1 h57 rfl ?_
        obtain ⟨y58, hy58, hf⟩ := xlet_some hf
        refine wk_top hy58 ?_
        refine wk_istore_n (pc := 58) (lv' := [(2, .int y58), (0, .ref (gA G 49)), (1, .int p1)]) dX5_readSum_58 rfl (by decide) rfl ?_
        refine wk_aload_n (pc := 59) dX5_readSum_59 rfl 1 rfl ?_
        refine wk_dup (pc := 60) dX5_readSum_60 rfl ?_
        refine wk_getI (C := RX5) (T := TX5) (N := 5) (pc := 61) dX5_readSum_61 (nc_49 hG).2 (nc_49 hG).1 rfl qU_X5 3 (by decide) qF_X5_22 rfl ?_
        refine wk_iconst (pc := 64) (v := (1 : Int32)) dX5_readSum_64 (by decide) ?_
        refine wk_iadd (pc := 65) dX5_readSum_65 ?_
        refine wk_putI (C := RX5) (T := TX5) (N := 5) (ty := .int) (pc := 66) dX5_readSum_66 (nc_49 hG).2 (nc_49 hG).1 rfl qU_X5 tyX5 tyX5_ok nmX5 3 (by decide) qF_X5_22 rfl rfl rfl rfl rfl ?_
        obtain ⟨s66, hs66, hf⟩ := xlet_some hf
        refine wk_sig hs66 ?_
        refine wk_aload_n (pc := 69) dX5_readSum_69 rfl 1 rfl ?_
        refine wk_iload_n (pc := 70) dX5_readSum_70 rfl 2 rfl ?_
        obtain ⟨r71, s71, hc71, hf⟩ := xbind_some hf
        refine wk_callVI (pc := 71) (As := [.int p1]) (rest := []) (kX5_readProduct l hG Hrc  hc71) cw_X5_60 (by omega) dX5_readSum_71 (nc_49 hG).2 (nc_49 hG).1 rfl rfl rfl (Nat.le_of_ble_eq_true rfl) ?_
        refine wk_if_ne (pc := 74) (tgt := 79) dX5_readSum_74 rfl hf (fun hf => ?_) (fun hf => ?_)
        · refine wk_aload_n (pc := 79) dX5_readSum_79 rfl 1 rfl ?_
          refine wk_getR (C := RX5) (T := TX5) (N := 5) (pc := 80) dX5_readSum_80 (nc_49 hG).2 (nc_49 hG).1 rfl qU_X5 4 (by decide) qF_X5_28 rfl ?_
          refine wk_iload_n (pc := 83) dX5_readSum_83 rfl 0 rfl ?_
          refine wk_ineg (pc := 84) dX5_readSum_84 ?_
          obtain ⟨⟨⟩, s85, hc85, hf⟩ := xbind_some hf
          refine wk_callVU (pc := 85) (As := [.int (-y58)]) (rest := []) (kX4_add l hG (by decide) hc85) cw_X5_46 (by omega) dX5_readSum_85 (nc_51 hG).2 (nc_51 hG).1 rfl rfl rfl (Nat.le_of_ble_eq_true rfl) ?_
          refine wk_goto (pc := 88) (tgt := 10) dX5_readSum_88 rfl ?_
          exact wk_lv [1, 2] rfl (ih10   s85 hf)
        · refine wk_iconst (pc := 77) (v := (0 : Int32)) dX5_readSum_77 (by decide) ?_
          exact wk_zret (pc := 78) dX5_readSum_78 rfl rfl (xI_of hf)
      refine wk_aload_n (pc := 10) dX5_readSum_10 rfl 0 rfl ?_
      refine wk_getI (C := RX5) (T := TX5) (N := 5) (pc := 11) dX5_readSum_11 (nc_49 hG).2 (nc_49 hG).1 rfl qU_X5 3 (by decide) qF_X5_22 rfl ?_
      refine wk_aload_n (pc := 14) dX5_readSum_14 rfl 0 rfl ?_
      refine wk_getI (C := RX5) (T := TX5) (N := 5) (pc := 15) dX5_readSum_15 (nc_49 hG).2 (nc_49 hG).1 rfl qU_X5 1 (by decide) qF_X5_15 rfl ?_
      refine wk_icmp_ge (pc := 18) (tgt := 91) dX5_readSum_18 rfl hf (fun hf => ?_) (fun hf => ?_)
      · refine wk_iconst (pc := 91) (v := (1 : Int32)) dX5_readSum_91 (by decide) ?_
        exact wk_zret (pc := 92) dX5_readSum_92 rfl rfl (xI_of hf)
      · refine wk_aload_n (pc := 21) dX5_readSum_21 rfl 0 rfl ?_
        refine wk_getR (C := RX5) (T := TX5) (N := 5) (pc := 22) dX5_readSum_22 (nc_49 hG).2 (nc_49 hG).1 rfl qU_X5 0 (by decide) qF_X5_9 rfl ?_
        refine wk_aload_n (pc := 25) dX5_readSum_25 rfl 0 rfl ?_
        refine wk_getI (C := RX5) (T := TX5) (N := 5) (pc := 26) dX5_readSum_26 (nc_49 hG).2 (nc_49 hG).1 rfl qU_X5 3 (by decide) qF_X5_22 rfl ?_
        obtain ⟨h29, hf⟩ := xif_some hf
        refine wk_iald (pc := 29) (jj := (s10 49 3).toNatClampNeg) dX5_readSum_29 (nc_50 hG).2 (nc_50 hG).1 h29 rfl ?_
        refine wk_bipush (pc := 30) (v := (43 : Int32)) dX5_readSum_30 (by decide) ?_
        refine wk_icmp_eq (pc := 32) (tgt := 49) dX5_readSum_32 rfl hf (fun hf => ?_) (fun hf => ?_)
        · exact wk_lv [0, 1] rfl (J49    s10 hf)
        · refine wk_aload_n (pc := 35) dX5_readSum_35 rfl 0 rfl ?_
          refine wk_getR (C := RX5) (T := TX5) (N := 5) (pc := 36) dX5_readSum_36 (nc_49 hG).2 (nc_49 hG).1 rfl qU_X5 0 (by decide) qF_X5_9 rfl ?_
          refine wk_aload_n (pc := 39) dX5_readSum_39 rfl 0 rfl ?_
          refine wk_getI (C := RX5) (T := TX5) (N := 5) (pc := 40) dX5_readSum_40 (nc_49 hG).2 (nc_49 hG).1 rfl qU_X5 3 (by decide) qF_X5_22 rfl ?_
          obtain ⟨h43, hf⟩ := xif_some hf
          refine wk_iald (pc := 43) (jj := (s10 49 3).toNatClampNeg) dX5_readSum_43 (nc_50 hG).2 (nc_50 hG).1 h43 rfl ?_
          refine wk_bipush (pc := 44) (v := (45 : Int32)) dX5_readSum_44 (by decide) ?_
          refine wk_icmp_ne (pc := 46) (tgt := 91) dX5_readSum_46 rfl hf (fun hf => ?_) (fun hf => ?_)
          · refine wk_iconst (pc := 91) (v := (1 : Int32)) dX5_readSum_91 (by decide) ?_
            exact wk_zret (pc := 92) dX5_readSum_92 rfl rfl (xI_of hf)
          · exact wk_lv [0, 1] rfl (J49    s10 hf)
  refine wk_aload_n (pc := 0) dX5_readSum_0 rfl 0 rfl ?_
  refine wk_iload_n (pc := 1) dX5_readSum_1 rfl 1 rfl ?_
  obtain ⟨r2, s2, hc2, hf⟩ := xbind_some hf
  refine wk_callVI (pc := 2) (As := [.int p1]) (rest := []) (kX5_readProduct l hG Hrc  hc2) cw_X5_60 (by omega) dX5_readSum_2 (nc_49 hG).2 (nc_49 hG).1 rfl rfl rfl (Nat.le_of_ble_eq_true rfl) ?_
  refine wk_if_ne (pc := 5) (tgt := 10) dX5_readSum_5 rfl hf (fun hf => ?_) (fun hf => ?_)
  · exact wk_lv [0, 1] rfl (J10  xF   s2 hf)
  · refine wk_iconst (pc := 8) (v := (0 : Int32)) dX5_readSum_8 (by decide) ?_
    exact wk_zret (pc := 9) dX5_readSum_9 rfl rfl (xI_of hf)
noncomputable def sX5_readCompared_L35 (p1 : Int32) (rc : Int32 → Int32 → xS → Option (Int32 × xS)) (r11 : Int32)  (s35 : xS) : Option (Int32 × xS) := xlet (xup s35 49 (upd (s35 49) 3 ((s35 49 3) + (1 : Int32)))) (fun s42 => xbind (sX5_readSum rc p1 s42) (fun r47 s47 => (if r47 = 0 then some ((0 : Int32), s47) else xbind (sX4_add 51 (-r11) s47) (fun _ s61 => some ((1 : Int32), s61)))))
noncomputable def sX5_readCompared (rc : Int32 → Int32 → xS → Option (Int32 × xS)) (p1 : Int32) (s : xS) : Option (Int32 × xS) := xbind (sX5_readSum rc p1 s) (fun r2 s2 => (if r2 = 0 then some ((0 : Int32), s2) else xbind (sX5_upcoming  s2) (fun r11 s11 => (if r11 = (60 : Int32) then (sX5_readCompared_L35 p1 rc r11)  s11 else (if r11 = (61 : Int32) then (sX5_readCompared_L35 p1 rc r11)  s11 else (if r11 = (62 : Int32) then (sX5_readCompared_L35 p1 rc r11)  s11 else some ((1 : Int32), s11)))))))
set_option maxHeartbeats 4000000 in
set_option maxRecDepth 100000 in
theorem kX5_readCompared (l : Launch) {G : xG} (hG : xC1 G) {m0 : Nat} {rc : Int32 → Int32 → xS → Option (Int32 × xS)} (Hrc : ∀ (q0 : Int32) (q1 : Int32) (s : xS) (r : Int32) (s' : xS), rc q0 q1 s = some (r, s') → xMet l G m0 yX5_readOpened cX5_readOpened 3 (some .boolean) [.ref (gA G 49), .int q0, .int q1] s (xI r s')) {p1 : Int32}  {s : xS} {r : Int32} {s' : xS} (hf : sX5_readCompared rc p1 s = some (r, s')) : xMet l G (m0 + 7) yX5_readCompared cX5_readCompared 3 (some .boolean) [.ref (gA G 49), .int p1] s (xI r s') := by
  refine xMet.of (by decide) (Nat.le_of_ble_eq_true rfl) ?_
  show wk l G (m0 + 7) RX5 cX5_readCompared 3 (some .boolean) (xI r s') 0 [(0, .ref (gA G 49)), (1, .int p1)] [] s
  unfold sX5_readCompared at hf
  have J35 : ∀ (r11 : Int32)    (s35 : xS), (sX5_readCompared_L35 p1 rc r11)  s35 = some (r, s') → wk l G (m0 + 7) RX5 cX5_readCompared 3 (some .boolean) (xI r s') 35 [(0, .ref (gA G 49)), (1, .int p1), (2, .int r11)] [] s35 := by
    intro r11 s35 hf
    unfold sX5_readCompared_L35 at hf
    refine wk_aload_n (pc := 35) dX5_readCompared_35 rfl 0 rfl ?_
    refine wk_dup (pc := 36) dX5_readCompared_36 rfl ?_
    refine wk_getI (C := RX5) (T := TX5) (N := 5) (pc := 37) dX5_readCompared_37 (nc_49 hG).2 (nc_49 hG).1 rfl qU_X5 3 (by decide) qF_X5_22 rfl ?_
    refine wk_iconst (pc := 40) (v := (1 : Int32)) dX5_readCompared_40 (by decide) ?_
    refine wk_iadd (pc := 41) dX5_readCompared_41 ?_
    refine wk_putI (C := RX5) (T := TX5) (N := 5) (ty := .int) (pc := 42) dX5_readCompared_42 (nc_49 hG).2 (nc_49 hG).1 rfl qU_X5 tyX5 tyX5_ok nmX5 3 (by decide) qF_X5_22 rfl rfl rfl rfl rfl ?_
    obtain ⟨s42, hs42, hf⟩ := xlet_some hf
    refine wk_sig hs42 ?_
    refine wk_aload_n (pc := 45) dX5_readCompared_45 rfl 0 rfl ?_
    refine wk_iload_n (pc := 46) dX5_readCompared_46 rfl 1 rfl ?_
    obtain ⟨r47, s47, hc47, hf⟩ := xbind_some hf
    refine wk_callVI (pc := 47) (As := [.int p1]) (rest := []) (kX5_readSum l hG Hrc  hc47) cw_X5_53 (by omega) dX5_readCompared_47 (nc_49 hG).2 (nc_49 hG).1 rfl rfl rfl (Nat.le_of_ble_eq_true rfl) ?_
    refine wk_if_ne (pc := 50) (tgt := 55) dX5_readCompared_50 rfl hf (fun hf => ?_) (fun hf => ?_)
    · refine wk_aload_n (pc := 55) dX5_readCompared_55 rfl 0 rfl ?_
      refine wk_getR (C := RX5) (T := TX5) (N := 5) (pc := 56) dX5_readCompared_56 (nc_49 hG).2 (nc_49 hG).1 rfl qU_X5 4 (by decide) qF_X5_28 rfl ?_
      refine wk_iload_n (pc := 59) dX5_readCompared_59 rfl 2 rfl ?_
      refine wk_ineg (pc := 60) dX5_readCompared_60 ?_
      obtain ⟨⟨⟩, s61, hc61, hf⟩ := xbind_some hf
      refine wk_callVU (pc := 61) (As := [.int (-r11)]) (rest := []) (kX4_add l hG (by decide) hc61) cw_X5_46 (by omega) dX5_readCompared_61 (nc_51 hG).2 (nc_51 hG).1 rfl rfl rfl (Nat.le_of_ble_eq_true rfl) ?_
      refine wk_iconst (pc := 64) (v := (1 : Int32)) dX5_readCompared_64 (by decide) ?_
      exact wk_zret (pc := 65) dX5_readCompared_65 rfl rfl (xI_of hf)
    · refine wk_iconst (pc := 53) (v := (0 : Int32)) dX5_readCompared_53 (by decide) ?_
      exact wk_zret (pc := 54) dX5_readCompared_54 rfl rfl (xI_of hf)
  refine wk_aload_n (pc := 0) dX5_readCompared_0 rfl 0 rfl ?_
  refine wk_iload_n (pc := 1) dX5_readCompared_1 rfl 1 rfl ?_
  obtain ⟨r2, s2, hc2, hf⟩ := xbind_some hf
  refine wk_callVI (pc := 2) (As := [.int p1]) (rest := []) (kX5_readSum l hG Hrc  hc2) cw_X5_53 (by omega) dX5_readCompared_2 (nc_49 hG).2 (nc_49 hG).1 rfl rfl rfl (Nat.le_of_ble_eq_true rfl) ?_
  refine wk_if_ne (pc := 5) (tgt := 10) dX5_readCompared_5 rfl hf (fun hf => ?_) (fun hf => ?_)
  · refine wk_aload_n (pc := 10) dX5_readCompared_10 rfl 0 rfl ?_
    obtain ⟨r11, s11, hc11, hf⟩ := xbind_some hf
    refine wk_callVI (pc := 11) (As := []) (rest := []) (kX5_upcoming l hG  hc11) cw_X5_56 (by omega) dX5_readCompared_11 (nc_49 hG).2 (nc_49 hG).1 rfl rfl rfl (Nat.le_of_ble_eq_true rfl) ?_
    refine wk_istore_n (pc := 14) (lv' := [(2, .int r11), (0, .ref (gA G 49)), (1, .int p1)]) dX5_readCompared_14 rfl (by decide) rfl ?_
    refine wk_iload_n (pc := 15) dX5_readCompared_15 rfl 0 rfl ?_
    refine wk_bipush (pc := 16) (v := (60 : Int32)) dX5_readCompared_16 (by decide) ?_
    refine wk_icmp_eq (pc := 18) (tgt := 35) dX5_readCompared_18 rfl hf (fun hf => ?_) (fun hf => ?_)
    · exact wk_lv [1, 2, 0] rfl (J35 r11   s11 hf)
    · refine wk_iload_n (pc := 21) dX5_readCompared_21 rfl 0 rfl ?_
      refine wk_bipush (pc := 22) (v := (61 : Int32)) dX5_readCompared_22 (by decide) ?_
      refine wk_icmp_eq (pc := 24) (tgt := 35) dX5_readCompared_24 rfl hf (fun hf => ?_) (fun hf => ?_)
      · exact wk_lv [1, 2, 0] rfl (J35 r11   s11 hf)
      · refine wk_iload_n (pc := 27) dX5_readCompared_27 rfl 0 rfl ?_
        refine wk_bipush (pc := 28) (v := (62 : Int32)) dX5_readCompared_28 (by decide) ?_
        refine wk_icmp_eq (pc := 30) (tgt := 35) dX5_readCompared_30 rfl hf (fun hf => ?_) (fun hf => ?_)
        · exact wk_lv [1, 2, 0] rfl (J35 r11   s11 hf)
        · refine wk_iconst (pc := 33) (v := (1 : Int32)) dX5_readCompared_33 (by decide) ?_
          exact wk_zret (pc := 34) dX5_readCompared_34 rfl rfl (xI_of hf)
  · refine wk_iconst (pc := 8) (v := (0 : Int32)) dX5_readCompared_8 (by decide) ?_
    exact wk_zret (pc := 9) dX5_readCompared_9 rfl rfl (xI_of hf)
noncomputable def sX5_readBoth_L10 (p1 : Int32) (rc : Int32 → Int32 → xS → Option (Int32 × xS)) (self10 : Unit → xS → Option (Int32 × xS)) : Unit → xS → Option (Int32 × xS) := fun _ s10 => (if (s10 49 1) ≤ (s10 49 3) then some ((1 : Int32), s10) else (if xin (s10 49 3) 50 then (if (s10 50 (s10 49 3).toNatClampNeg) = (38 : Int32) then xlet (xup s10 49 (upd (s10 49) 3 ((s10 49 3) + (1 : Int32)))) (fun s42 => xbind (sX5_readCompared rc p1 s42) (fun r47 s47 => (if r47 = 0 then some ((0 : Int32), s47) else xbind (sX4_add 51 (-38 : Int32) s47) (fun _ s61 => self10 () s61)))) else some ((1 : Int32), s10)) else none))
noncomputable def sX5_readBoth (rc : Int32 → Int32 → xS → Option (Int32 × xS)) (p1 : Int32) (s : xS) : Option (Int32 × xS) := xbind (sX5_readCompared rc p1 s) (fun r2 s2 => (if r2 = 0 then some ((0 : Int32), s2) else xloop (sX5_readBoth_L10 p1 rc) xF () s2))
set_option maxHeartbeats 4000000 in
set_option maxRecDepth 100000 in
theorem kX5_readBoth (l : Launch) {G : xG} (hG : xC1 G) {m0 : Nat} {rc : Int32 → Int32 → xS → Option (Int32 × xS)} (Hrc : ∀ (q0 : Int32) (q1 : Int32) (s : xS) (r : Int32) (s' : xS), rc q0 q1 s = some (r, s') → xMet l G m0 yX5_readOpened cX5_readOpened 3 (some .boolean) [.ref (gA G 49), .int q0, .int q1] s (xI r s')) {p1 : Int32}  {s : xS} {r : Int32} {s' : xS} (hf : sX5_readBoth rc p1 s = some (r, s')) : xMet l G (m0 + 8) yX5_readBoth cX5_readBoth 2 (some .boolean) [.ref (gA G 49), .int p1] s (xI r s') := by
  refine xMet.of (by decide) (Nat.le_of_ble_eq_true rfl) ?_
  show wk l G (m0 + 8) RX5 cX5_readBoth 2 (some .boolean) (xI r s') 0 [(0, .ref (gA G 49)), (1, .int p1)] [] s
  unfold sX5_readBoth at hf
  have J10 : ∀   (N : Nat)   (s10 : xS), xloop (sX5_readBoth_L10 p1 rc) N () s10 = some (r, s') → wk l G (m0 + 8) RX5 cX5_readBoth 2 (some .boolean) (xI r s') 10 [(0, .ref (gA G 49)), (1, .int p1)] [] s10 := by
    intro N
    induction N with
    | zero => intro  s10 hf; exact (xloop_0 hf).elim
    | succ N ih10 =>
      intro  s10 hf
      rw [xloop_s] at hf
      generalize xloop (sX5_readBoth_L10 p1 rc) N = self10 at hf ih10
      unfold sX5_readBoth_L10 at hf
      refine wk_aload_n (pc := 10) dX5_readBoth_10 rfl 0 rfl ?_
      refine wk_getI (C := RX5) (T := TX5) (N := 5) (pc := 11) dX5_readBoth_11 (nc_49 hG).2 (nc_49 hG).1 rfl qU_X5 3 (by decide) qF_X5_22 rfl ?_
      refine wk_aload_n (pc := 14) dX5_readBoth_14 rfl 0 rfl ?_
      refine wk_getI (C := RX5) (T := TX5) (N := 5) (pc := 15) dX5_readBoth_15 (nc_49 hG).2 (nc_49 hG).1 rfl qU_X5 1 (by decide) qF_X5_15 rfl ?_
      refine wk_icmp_ge (pc := 18) (tgt := 67) dX5_readBoth_18 rfl hf (fun hf => ?_) (fun hf => ?_)
      · refine wk_iconst (pc := 67) (v := (1 : Int32)) dX5_readBoth_67 (by decide) ?_
        exact wk_zret (pc := 68) dX5_readBoth_68 rfl rfl (xI_of hf)
      · refine wk_aload_n (pc := 21) dX5_readBoth_21 rfl 0 rfl ?_
        refine wk_getR (C := RX5) (T := TX5) (N := 5) (pc := 22) dX5_readBoth_22 (nc_49 hG).2 (nc_49 hG).1 rfl qU_X5 0 (by decide) qF_X5_9 rfl ?_
        refine wk_aload_n (pc := 25) dX5_readBoth_25 rfl 0 rfl ?_
        refine wk_getI (C := RX5) (T := TX5) (N := 5) (pc := 26) dX5_readBoth_26 (nc_49 hG).2 (nc_49 hG).1 rfl qU_X5 3 (by decide) qF_X5_22 rfl ?_
        obtain ⟨h29, hf⟩ := xif_some hf
        refine wk_iald (pc := 29) (jj := (s10 49 3).toNatClampNeg) dX5_readBoth_29 (nc_50 hG).2 (nc_50 hG).1 h29 rfl ?_
        refine wk_bipush (pc := 30) (v := (38 : Int32)) dX5_readBoth_30 (by decide) ?_
        refine wk_icmp_ne (pc := 32) (tgt := 67) dX5_readBoth_32 rfl hf (fun hf => ?_) (fun hf => ?_)
        · refine wk_iconst (pc := 67) (v := (1 : Int32)) dX5_readBoth_67 (by decide) ?_
          exact wk_zret (pc := 68) dX5_readBoth_68 rfl rfl (xI_of hf)
        · refine wk_aload_n (pc := 35) dX5_readBoth_35 rfl 0 rfl ?_
          refine wk_dup (pc := 36) dX5_readBoth_36 rfl ?_
          refine wk_getI (C := RX5) (T := TX5) (N := 5) (pc := 37) dX5_readBoth_37 (nc_49 hG).2 (nc_49 hG).1 rfl qU_X5 3 (by decide) qF_X5_22 rfl ?_
          refine wk_iconst (pc := 40) (v := (1 : Int32)) dX5_readBoth_40 (by decide) ?_
          refine wk_iadd (pc := 41) dX5_readBoth_41 ?_
          refine wk_putI (C := RX5) (T := TX5) (N := 5) (ty := .int) (pc := 42) dX5_readBoth_42 (nc_49 hG).2 (nc_49 hG).1 rfl qU_X5 tyX5 tyX5_ok nmX5 3 (by decide) qF_X5_22 rfl rfl rfl rfl rfl ?_
          obtain ⟨s42, hs42, hf⟩ := xlet_some hf
          refine wk_sig hs42 ?_
          refine wk_aload_n (pc := 45) dX5_readBoth_45 rfl 0 rfl ?_
          refine wk_iload_n (pc := 46) dX5_readBoth_46 rfl 1 rfl ?_
          obtain ⟨r47, s47, hc47, hf⟩ := xbind_some hf
          refine wk_callVI (pc := 47) (As := [.int p1]) (rest := []) (kX5_readCompared l hG Hrc  hc47) cw_X5_50 (by omega) dX5_readBoth_47 (nc_49 hG).2 (nc_49 hG).1 rfl rfl rfl (Nat.le_of_ble_eq_true rfl) ?_
          refine wk_if_ne (pc := 50) (tgt := 55) dX5_readBoth_50 rfl hf (fun hf => ?_) (fun hf => ?_)
          · refine wk_aload_n (pc := 55) dX5_readBoth_55 rfl 0 rfl ?_
            refine wk_getR (C := RX5) (T := TX5) (N := 5) (pc := 56) dX5_readBoth_56 (nc_49 hG).2 (nc_49 hG).1 rfl qU_X5 4 (by decide) qF_X5_28 rfl ?_
            refine wk_bipush (pc := 59) (v := (-38 : Int32)) dX5_readBoth_59 (by decide) ?_
            obtain ⟨⟨⟩, s61, hc61, hf⟩ := xbind_some hf
            refine wk_callVU (pc := 61) (As := [.int (-38 : Int32)]) (rest := []) (kX4_add l hG (by decide) hc61) cw_X5_46 (by omega) dX5_readBoth_61 (nc_51 hG).2 (nc_51 hG).1 rfl rfl rfl (Nat.le_of_ble_eq_true rfl) ?_
            refine wk_goto (pc := 64) (tgt := 10) dX5_readBoth_64 rfl ?_
            exact wk_lv [0, 1] rfl (ih10   s61 hf)
          · refine wk_iconst (pc := 53) (v := (0 : Int32)) dX5_readBoth_53 (by decide) ?_
            exact wk_zret (pc := 54) dX5_readBoth_54 rfl rfl (xI_of hf)
  refine wk_aload_n (pc := 0) dX5_readBoth_0 rfl 0 rfl ?_
  refine wk_iload_n (pc := 1) dX5_readBoth_1 rfl 1 rfl ?_
  obtain ⟨r2, s2, hc2, hf⟩ := xbind_some hf
  refine wk_callVI (pc := 2) (As := [.int p1]) (rest := []) (kX5_readCompared l hG Hrc  hc2) cw_X5_50 (by omega) dX5_readBoth_2 (nc_49 hG).2 (nc_49 hG).1 rfl rfl rfl (Nat.le_of_ble_eq_true rfl) ?_
  refine wk_if_ne (pc := 5) (tgt := 10) dX5_readBoth_5 rfl hf (fun hf => ?_) (fun hf => ?_)
  · exact wk_lv [0, 1] rfl (J10  xF   s2 hf)
  · refine wk_iconst (pc := 8) (v := (0 : Int32)) dX5_readBoth_8 (by decide) ?_
    exact wk_zret (pc := 9) dX5_readBoth_9 rfl rfl (xI_of hf)
noncomputable def sX5_readEither_L10 (p1 : Int32) (rc : Int32 → Int32 → xS → Option (Int32 × xS)) (self10 : Unit → xS → Option (Int32 × xS)) : Unit → xS → Option (Int32 × xS) := fun _ s10 => (if (s10 49 1) ≤ (s10 49 3) then some ((1 : Int32), s10) else (if xin (s10 49 3) 50 then (if (s10 50 (s10 49 3).toNatClampNeg) = (124 : Int32) then xlet (xup s10 49 (upd (s10 49) 3 ((s10 49 3) + (1 : Int32)))) (fun s42 => xbind (sX5_readBoth rc p1 s42) (fun r47 s47 => (if r47 = 0 then some ((0 : Int32), s47) else xbind (sX4_add 51 (-124 : Int32) s47) (fun _ s61 => self10 () s61)))) else some ((1 : Int32), s10)) else none))
noncomputable def sX5_readEither (rc : Int32 → Int32 → xS → Option (Int32 × xS)) (p1 : Int32) (s : xS) : Option (Int32 × xS) := xbind (sX5_readBoth rc p1 s) (fun r2 s2 => (if r2 = 0 then some ((0 : Int32), s2) else xloop (sX5_readEither_L10 p1 rc) xF () s2))
set_option maxHeartbeats 4000000 in
set_option maxRecDepth 100000 in
theorem kX5_readEither (l : Launch) {G : xG} (hG : xC1 G) {m0 : Nat} {rc : Int32 → Int32 → xS → Option (Int32 × xS)} (Hrc : ∀ (q0 : Int32) (q1 : Int32) (s : xS) (r : Int32) (s' : xS), rc q0 q1 s = some (r, s') → xMet l G m0 yX5_readOpened cX5_readOpened 3 (some .boolean) [.ref (gA G 49), .int q0, .int q1] s (xI r s')) {p1 : Int32}  {s : xS} {r : Int32} {s' : xS} (hf : sX5_readEither rc p1 s = some (r, s')) : xMet l G (m0 + 9) yX5_readEither cX5_readEither 2 (some .boolean) [.ref (gA G 49), .int p1] s (xI r s') := by
  refine xMet.of (by decide) (Nat.le_of_ble_eq_true rfl) ?_
  show wk l G (m0 + 9) RX5 cX5_readEither 2 (some .boolean) (xI r s') 0 [(0, .ref (gA G 49)), (1, .int p1)] [] s
  unfold sX5_readEither at hf
  have J10 : ∀   (N : Nat)   (s10 : xS), xloop (sX5_readEither_L10 p1 rc) N () s10 = some (r, s') → wk l G (m0 + 9) RX5 cX5_readEither 2 (some .boolean) (xI r s') 10 [(0, .ref (gA G 49)), (1, .int p1)] [] s10 := by
    intro N
    induction N with
    | zero => intro  s10 hf; exact (xloop_0 hf).elim
    | succ N ih10 =>
      intro  s10 hf
      rw [xloop_s] at hf
      generalize xloop (sX5_readEither_L10 p1 rc) N = self10 at hf ih10
      unfold sX5_readEither_L10 at hf
      refine wk_aload_n (pc := 10) dX5_readEither_10 rfl 0 rfl ?_
      refine wk_getI (C := RX5) (T := TX5) (N := 5) (pc := 11) dX5_readEither_11 (nc_49 hG).2 (nc_49 hG).1 rfl qU_X5 3 (by decide) qF_X5_22 rfl ?_
      refine wk_aload_n (pc := 14) dX5_readEither_14 rfl 0 rfl ?_
      refine wk_getI (C := RX5) (T := TX5) (N := 5) (pc := 15) dX5_readEither_15 (nc_49 hG).2 (nc_49 hG).1 rfl qU_X5 1 (by decide) qF_X5_15 rfl ?_
      refine wk_icmp_ge (pc := 18) (tgt := 67) dX5_readEither_18 rfl hf (fun hf => ?_) (fun hf => ?_)
      · refine wk_iconst (pc := 67) (v := (1 : Int32)) dX5_readEither_67 (by decide) ?_
        exact wk_zret (pc := 68) dX5_readEither_68 rfl rfl (xI_of hf)
      · refine wk_aload_n (pc := 21) dX5_readEither_21 rfl 0 rfl ?_
        refine wk_getR (C := RX5) (T := TX5) (N := 5) (pc := 22) dX5_readEither_22 (nc_49 hG).2 (nc_49 hG).1 rfl qU_X5 0 (by decide) qF_X5_9 rfl ?_
        refine wk_aload_n (pc := 25) dX5_readEither_25 rfl 0 rfl ?_
        refine wk_getI (C := RX5) (T := TX5) (N := 5) (pc := 26) dX5_readEither_26 (nc_49 hG).2 (nc_49 hG).1 rfl qU_X5 3 (by decide) qF_X5_22 rfl ?_
        obtain ⟨h29, hf⟩ := xif_some hf
        refine wk_iald (pc := 29) (jj := (s10 49 3).toNatClampNeg) dX5_readEither_29 (nc_50 hG).2 (nc_50 hG).1 h29 rfl ?_
        refine wk_bipush (pc := 30) (v := (124 : Int32)) dX5_readEither_30 (by decide) ?_
        refine wk_icmp_ne (pc := 32) (tgt := 67) dX5_readEither_32 rfl hf (fun hf => ?_) (fun hf => ?_)
        · refine wk_iconst (pc := 67) (v := (1 : Int32)) dX5_readEither_67 (by decide) ?_
          exact wk_zret (pc := 68) dX5_readEither_68 rfl rfl (xI_of hf)
        · refine wk_aload_n (pc := 35) dX5_readEither_35 rfl 0 rfl ?_
          refine wk_dup (pc := 36) dX5_readEither_36 rfl ?_
          refine wk_getI (C := RX5) (T := TX5) (N := 5) (pc := 37) dX5_readEither_37 (nc_49 hG).2 (nc_49 hG).1 rfl qU_X5 3 (by decide) qF_X5_22 rfl ?_
          refine wk_iconst (pc := 40) (v := (1 : Int32)) dX5_readEither_40 (by decide) ?_
          refine wk_iadd (pc := 41) dX5_readEither_41 ?_
          refine wk_putI (C := RX5) (T := TX5) (N := 5) (ty := .int) (pc := 42) dX5_readEither_42 (nc_49 hG).2 (nc_49 hG).1 rfl qU_X5 tyX5 tyX5_ok nmX5 3 (by decide) qF_X5_22 rfl rfl rfl rfl rfl ?_
          obtain ⟨s42, hs42, hf⟩ := xlet_some hf
          refine wk_sig hs42 ?_
          refine wk_aload_n (pc := 45) dX5_readEither_45 rfl 0 rfl ?_
          refine wk_iload_n (pc := 46) dX5_readEither_46 rfl 1 rfl ?_
          obtain ⟨r47, s47, hc47, hf⟩ := xbind_some hf
          refine wk_callVI (pc := 47) (As := [.int p1]) (rest := []) (kX5_readBoth l hG Hrc  hc47) cw_X5_43 (by omega) dX5_readEither_47 (nc_49 hG).2 (nc_49 hG).1 rfl rfl rfl (Nat.le_of_ble_eq_true rfl) ?_
          refine wk_if_ne (pc := 50) (tgt := 55) dX5_readEither_50 rfl hf (fun hf => ?_) (fun hf => ?_)
          · refine wk_aload_n (pc := 55) dX5_readEither_55 rfl 0 rfl ?_
            refine wk_getR (C := RX5) (T := TX5) (N := 5) (pc := 56) dX5_readEither_56 (nc_49 hG).2 (nc_49 hG).1 rfl qU_X5 4 (by decide) qF_X5_28 rfl ?_
            refine wk_bipush (pc := 59) (v := (-124 : Int32)) dX5_readEither_59 (by decide) ?_
            obtain ⟨⟨⟩, s61, hc61, hf⟩ := xbind_some hf
            refine wk_callVU (pc := 61) (As := [.int (-124 : Int32)]) (rest := []) (kX4_add l hG (by decide) hc61) cw_X5_46 (by omega) dX5_readEither_61 (nc_51 hG).2 (nc_51 hG).1 rfl rfl rfl (Nat.le_of_ble_eq_true rfl) ?_
            refine wk_goto (pc := 64) (tgt := 10) dX5_readEither_64 rfl ?_
            exact wk_lv [0, 1] rfl (ih10   s61 hf)
          · refine wk_iconst (pc := 53) (v := (0 : Int32)) dX5_readEither_53 (by decide) ?_
            exact wk_zret (pc := 54) dX5_readEither_54 rfl rfl (xI_of hf)
  refine wk_aload_n (pc := 0) dX5_readEither_0 rfl 0 rfl ?_
  refine wk_iload_n (pc := 1) dX5_readEither_1 rfl 1 rfl ?_
  obtain ⟨r2, s2, hc2, hf⟩ := xbind_some hf
  refine wk_callVI (pc := 2) (As := [.int p1]) (rest := []) (kX5_readBoth l hG Hrc  hc2) cw_X5_43 (by omega) dX5_readEither_2 (nc_49 hG).2 (nc_49 hG).1 rfl rfl rfl (Nat.le_of_ble_eq_true rfl) ?_
  refine wk_if_ne (pc := 5) (tgt := 10) dX5_readEither_5 rfl hf (fun hf => ?_) (fun hf => ?_)
  · exact wk_lv [0, 1] rfl (J10  xF   s2 hf)
  · refine wk_iconst (pc := 8) (v := (0 : Int32)) dX5_readEither_8 (by decide) ?_
    exact wk_zret (pc := 9) dX5_readEither_9 rfl rfl (xI_of hf)
noncomputable def sX5_readOpened_body (rc : Int32 → Int32 → xS → Option (Int32 × xS)) (p1 : Int32) (p2 : Int32) (s : xS) : Option (Int32 × xS) := xlet (xup s 49 (upd (s 49) 3 ((s 49 3) + (1 : Int32)))) (fun s7 => (if p1 = (33 : Int32) then xbind (sX5_readSingle rc p2 s7) (fun r18 s18 => (if r18 = 0 then some ((0 : Int32), s18) else xbind (sX4_add 51 (-33 : Int32) s18) (fun _ s32 => some ((1 : Int32), s32)))) else xbind (sX5_readEither rc p2 s7) (fun r39 s39 => (if r39 = 0 then some ((0 : Int32), s39) else xbind (sX5_upcoming  s39) (fun r46 s46 => (if r46 = (41 : Int32) then xlet (xup s46 49 (upd (s46 49) 3 ((s46 49 3) + (1 : Int32)))) (fun s63 => some ((1 : Int32), s63)) else some ((0 : Int32), s46)))))))
noncomputable def sX5_readOpened : Nat → Int32 → Int32 → xS → Option (Int32 × xS)
  | 0 => fun _ _ _ => none
  | d + 1 => fun p1 p2 s => sX5_readOpened_body (sX5_readOpened d) p1 p2 s
set_option maxHeartbeats 4000000 in
set_option maxRecDepth 100000 in
theorem kX5_readOpened_body (l : Launch) {G : xG} (hG : xC1 G) {m0 : Nat} {rc : Int32 → Int32 → xS → Option (Int32 × xS)} (Hrc : ∀ (q0 : Int32) (q1 : Int32) (s : xS) (r : Int32) (s' : xS), rc q0 q1 s = some (r, s') → xMet l G m0 yX5_readOpened cX5_readOpened 3 (some .boolean) [.ref (gA G 49), .int q0, .int q1] s (xI r s')) {p1 : Int32} {p2 : Int32}  {s : xS} {r : Int32} {s' : xS} (hf : sX5_readOpened_body rc p1 p2 s = some (r, s')) : xMet l G (m0 + 10) yX5_readOpened cX5_readOpened 3 (some .boolean) [.ref (gA G 49), .int p1, .int p2] s (xI r s') := by
  refine xMet.of (by decide) (Nat.le_of_ble_eq_true rfl) ?_
  show wk l G (m0 + 10) RX5 cX5_readOpened 3 (some .boolean) (xI r s') 0 [(0, .ref (gA G 49)), (1, .int p1), (2, .int p2)] [] s
  unfold sX5_readOpened_body at hf
  refine wk_aload_n (pc := 0) dX5_readOpened_0 rfl 0 rfl ?_
  refine wk_dup (pc := 1) dX5_readOpened_1 rfl ?_
  refine wk_getI (C := RX5) (T := TX5) (N := 5) (pc := 2) dX5_readOpened_2 (nc_49 hG).2 (nc_49 hG).1 rfl qU_X5 3 (by decide) qF_X5_22 rfl ?_
  refine wk_iconst (pc := 5) (v := (1 : Int32)) dX5_readOpened_5 (by decide) ?_
  refine wk_iadd (pc := 6) dX5_readOpened_6 ?_
  refine wk_putI (C := RX5) (T := TX5) (N := 5) (ty := .int) (pc := 7) dX5_readOpened_7 (nc_49 hG).2 (nc_49 hG).1 rfl qU_X5 tyX5 tyX5_ok nmX5 3 (by decide) qF_X5_22 rfl rfl rfl rfl rfl ?_
  obtain ⟨s7, hs7, hf⟩ := xlet_some hf
  refine wk_sig hs7 ?_
  refine wk_iload_n (pc := 10) dX5_readOpened_10 rfl 1 rfl ?_
  refine wk_bipush (pc := 11) (v := (33 : Int32)) dX5_readOpened_11 (by decide) ?_
  refine wk_icmp_ne (pc := 13) (tgt := 37) dX5_readOpened_13 rfl hf (fun hf => ?_) (fun hf => ?_)
  · refine wk_aload_n (pc := 37) dX5_readOpened_37 rfl 0 rfl ?_
    refine wk_iload_n (pc := 38) dX5_readOpened_38 rfl 2 rfl ?_
    obtain ⟨r39, s39, hc39, hf⟩ := xbind_some hf
    refine wk_callVI (pc := 39) (As := [.int p2]) (rest := []) (kX5_readEither l hG Hrc  hc39) cw_X5_39 (by omega) dX5_readOpened_39 (nc_49 hG).2 (nc_49 hG).1 rfl rfl rfl (Nat.le_of_ble_eq_true rfl) ?_
    refine wk_if_eq (pc := 42) (tgt := 54) dX5_readOpened_42 rfl hf (fun hf => ?_) (fun hf => ?_)
    · refine wk_iconst (pc := 54) (v := (0 : Int32)) dX5_readOpened_54 (by decide) ?_
      exact wk_zret (pc := 55) dX5_readOpened_55 rfl rfl (xI_of hf)
    · refine wk_aload_n (pc := 45) dX5_readOpened_45 rfl 0 rfl ?_
      obtain ⟨r46, s46, hc46, hf⟩ := xbind_some hf
      refine wk_callVI (pc := 46) (As := []) (rest := []) (kX5_upcoming l hG  hc46) cw_X5_56 (by omega) dX5_readOpened_46 (nc_49 hG).2 (nc_49 hG).1 rfl rfl rfl (Nat.le_of_ble_eq_true rfl) ?_
      refine wk_bipush (pc := 49) (v := (41 : Int32)) dX5_readOpened_49 (by decide) ?_
      refine wk_icmp_eq (pc := 51) (tgt := 56) dX5_readOpened_51 rfl hf (fun hf => ?_) (fun hf => ?_)
      · refine wk_aload_n (pc := 56) dX5_readOpened_56 rfl 0 rfl ?_
        refine wk_dup (pc := 57) dX5_readOpened_57 rfl ?_
        refine wk_getI (C := RX5) (T := TX5) (N := 5) (pc := 58) dX5_readOpened_58 (nc_49 hG).2 (nc_49 hG).1 rfl qU_X5 3 (by decide) qF_X5_22 rfl ?_
        refine wk_iconst (pc := 61) (v := (1 : Int32)) dX5_readOpened_61 (by decide) ?_
        refine wk_iadd (pc := 62) dX5_readOpened_62 ?_
        refine wk_putI (C := RX5) (T := TX5) (N := 5) (ty := .int) (pc := 63) dX5_readOpened_63 (nc_49 hG).2 (nc_49 hG).1 rfl qU_X5 tyX5 tyX5_ok nmX5 3 (by decide) qF_X5_22 rfl rfl rfl rfl rfl ?_
        obtain ⟨s63, hs63, hf⟩ := xlet_some hf
        refine wk_sig hs63 ?_
        refine wk_iconst (pc := 66) (v := (1 : Int32)) dX5_readOpened_66 (by decide) ?_
        exact wk_zret (pc := 67) dX5_readOpened_67 rfl rfl (xI_of hf)
      · refine wk_iconst (pc := 54) (v := (0 : Int32)) dX5_readOpened_54 (by decide) ?_
        exact wk_zret (pc := 55) dX5_readOpened_55 rfl rfl (xI_of hf)
  · refine wk_aload_n (pc := 16) dX5_readOpened_16 rfl 0 rfl ?_
    refine wk_iload_n (pc := 17) dX5_readOpened_17 rfl 2 rfl ?_
    obtain ⟨r18, s18, hc18, hf⟩ := xbind_some hf
    refine wk_callVI (pc := 18) (As := [.int p2]) (rest := []) (kX5_readSingle l hG Hrc  hc18) cw_X5_63 (by omega) dX5_readOpened_18 (nc_49 hG).2 (nc_49 hG).1 rfl rfl rfl (Nat.le_of_ble_eq_true rfl) ?_
    refine wk_if_ne (pc := 21) (tgt := 26) dX5_readOpened_21 rfl hf (fun hf => ?_) (fun hf => ?_)
    · refine wk_aload_n (pc := 26) dX5_readOpened_26 rfl 0 rfl ?_
      refine wk_getR (C := RX5) (T := TX5) (N := 5) (pc := 27) dX5_readOpened_27 (nc_49 hG).2 (nc_49 hG).1 rfl qU_X5 4 (by decide) qF_X5_28 rfl ?_
      refine wk_bipush (pc := 30) (v := (-33 : Int32)) dX5_readOpened_30 (by decide) ?_
      obtain ⟨⟨⟩, s32, hc32, hf⟩ := xbind_some hf
      refine wk_callVU (pc := 32) (As := [.int (-33 : Int32)]) (rest := []) (kX4_add l hG (by decide) hc32) cw_X5_46 (by omega) dX5_readOpened_32 (nc_51 hG).2 (nc_51 hG).1 rfl rfl rfl (Nat.le_of_ble_eq_true rfl) ?_
      refine wk_iconst (pc := 35) (v := (1 : Int32)) dX5_readOpened_35 (by decide) ?_
      exact wk_zret (pc := 36) dX5_readOpened_36 rfl rfl (xI_of hf)
    · refine wk_iconst (pc := 24) (v := (0 : Int32)) dX5_readOpened_24 (by decide) ?_
      exact wk_zret (pc := 25) dX5_readOpened_25 rfl rfl (xI_of hf)
theorem kX5_readOpened_all (l : Launch) {G : xG} (hG : xC1 G) : ∀ (d : Nat) (p1 : Int32) (p2 : Int32) (s : xS) (r : Int32) (s' : xS), sX5_readOpened d p1 p2 s = some (r, s') → xMet l G (10 * d) yX5_readOpened cX5_readOpened 3 (some .boolean) [.ref (gA G 49), .int p1, .int p2] s (xI r s') := by
  intro d
  induction d with
  | zero => intro p1 p2 s r s' hf; cases hf
  | succ d ih => intro p1 p2 s r s' hf; exact kX5_readOpened_body l hG (m0 := 10 * d) ih hf
noncomputable def sX5_faultOf_L59 (y59d : Int32)  (s59 : xS) : Option (Int32 × xS) := xlet ((if y59d = 0 then (s59 49 3) else (-1 : Int32))) (fun y74d => some (y74d, s59))
noncomputable def sX5_faultOf (p1 : Nat) (p2 : Int32) (p3 : Int32) (s : xS) : Option (Int32 × xS) := xlet (xup s 50 (va_cpy (s p1) (s 50) (0 : Int32).toNatClampNeg (0 : Int32).toNatClampNeg (50 : Int32).toNatClampNeg)) (fun s9 => xlet (xup s9 49 (upd (s9 49) 1 p2)) (fun s14 => xlet (xup s14 49 (upd (s14 49) 2 p3)) (fun s19 => xlet (xup s19 49 (upd (s19 49) 3 (0 : Int32))) (fun s24 => xlet (xup s24 51 (upd (s24 51) 0 (0 : Int32))) (fun s32 => xbind (sX5_readEither (sX5_readOpened 8) (0 : Int32) s32) (fun r37 s37 => xlet ((if r37 = 0 then (0 : Int32) else (if (s37 49 3) = (s37 49 1) then (1 : Int32) else (0 : Int32)))) (fun y59d => (sX5_faultOf_L59 y59d)  s37)))))))
set_option maxHeartbeats 4000000 in
set_option maxRecDepth 100000 in
theorem kX5_faultOf (l : Launch) {G : xG} (hG : xC1 G)  {p1 : Nat} {p2 : Int32} {p3 : Int32} (hp1 : gS G p1 = .inl 50 ∧ p1 < gN G) {s : xS} {r : Int32} {s' : xS} (hf : sX5_faultOf p1 p2 p3 s = some (r, s')) : xMet l G 90 yX5_faultOf cX5_faultOf 5 (some .int) [.ref (gA G 49), .ref (gA G p1), .int p2, .int p3] s (xI r s') := by
  refine xMet.of (by decide) (Nat.le_of_ble_eq_true rfl) ?_
  show wk l G 90 RX5 cX5_faultOf 5 (some .int) (xI r s') 0 [(0, .ref (gA G 49)), (1, .ref (gA G p1)), (2, .int p2), (3, .int p3)] [] s
  unfold sX5_faultOf at hf
  have J59 : ∀ (y59d : Int32)    (s59 : xS), (sX5_faultOf_L59 y59d)  s59 = some (r, s') → wk l G 90 RX5 cX5_faultOf 5 (some .int) (xI r s') 59 [(0, .ref (gA G 49))] [.int y59d] s59 := by
    intro y59d s59 hf
    unfold sX5_faultOf_L59 at hf
    refine wk_istore (pc := 59) (lv' := [(4, .int y59d), (0, .ref (gA G 49))]) dX5_faultOf_59 (by decide) rfl ?_
    refine wk_iload (pc := 61) dX5_faultOf_61 0 rfl ?_
    obtain ⟨y74d, hy74d, hf⟩ := xlet_some hf
    have K74 : wk l G 90 RX5 cX5_faultOf 5 (some .int) (xI r s') 74 [(4, .int y59d), (0, .ref (gA G 49))] [.int y74d] s59 := by
      exact wk_iret (pc := 74) dX5_faultOf_74 rfl (xI_of hf)
    by_cases c63 : y59d = 0
    · rw [if_pos c63] at hy74d
      refine wk_if_eq_p (pc := 63) (tgt := 70) dX5_faultOf_63 rfl c63 ?_
      refine wk_aload_n (pc := 70) dX5_faultOf_70 rfl 1 rfl ?_
      refine wk_getI (C := RX5) (T := TX5) (N := 5) (pc := 71) dX5_faultOf_71 (nc_49 hG).2 (nc_49 hG).1 rfl qU_X5 3 (by decide) qF_X5_22 rfl ?_
      exact wk_top hy74d K74
    · rw [if_neg c63] at hy74d
      refine wk_if_eq_m (pc := 63) (tgt := 70) dX5_faultOf_63 rfl c63 ?_
      refine wk_iconst (pc := 66) (v := (-1 : Int32)) dX5_faultOf_66 (by decide) ?_
      refine wk_goto (pc := 67) (tgt := 74) dX5_faultOf_67 rfl ?_
      exact wk_top hy74d K74
  refine wk_aload_n (pc := 0) dX5_faultOf_0 rfl 1 rfl ?_
  refine wk_iconst (pc := 1) (v := (0 : Int32)) dX5_faultOf_1 (by decide) ?_
  refine wk_aload_n (pc := 2) dX5_faultOf_2 rfl 0 rfl ?_
  refine wk_getR (C := RX5) (T := TX5) (N := 5) (pc := 3) dX5_faultOf_3 (nc_49 hG).2 (nc_49 hG).1 rfl qU_X5 0 (by decide) qF_X5_9 rfl ?_
  refine wk_iconst (pc := 6) (v := (0 : Int32)) dX5_faultOf_6 (by decide) ?_
  refine wk_bipush (pc := 7) (v := (50 : Int32)) dX5_faultOf_7 (by decide) ?_
  refine wk_copyi (pc := 9) (z0 := 50) (z1 := 50) dX5_faultOf_9 qM_X5_32 qN_copy qS_copy qJ_J10 hp1.2 hp1.1 (nc_50 hG).2 (nc_50 hG).1 (by decide) (Nat.le_of_ble_eq_true rfl) (by decide) ?_
  obtain ⟨s9, hs9, hf⟩ := xlet_some hf
  refine wk_sig hs9 ?_
  refine wk_aload_n (pc := 12) dX5_faultOf_12 rfl 0 rfl ?_
  refine wk_iload_n (pc := 13) dX5_faultOf_13 rfl 2 rfl ?_
  refine wk_putI (C := RX5) (T := TX5) (N := 5) (ty := .int) (pc := 14) dX5_faultOf_14 (nc_49 hG).2 (nc_49 hG).1 rfl qU_X5 tyX5 tyX5_ok nmX5 1 (by decide) qF_X5_15 rfl rfl rfl rfl rfl ?_
  obtain ⟨s14, hs14, hf⟩ := xlet_some hf
  refine wk_sig hs14 ?_
  refine wk_aload_n (pc := 17) dX5_faultOf_17 rfl 0 rfl ?_
  refine wk_iload_n (pc := 18) dX5_faultOf_18 rfl 3 rfl ?_
  refine wk_putI (C := RX5) (T := TX5) (N := 5) (ty := .int) (pc := 19) dX5_faultOf_19 (nc_49 hG).2 (nc_49 hG).1 rfl qU_X5 tyX5 tyX5_ok nmX5 2 (by decide) qF_X5_19 rfl rfl rfl rfl rfl ?_
  obtain ⟨s19, hs19, hf⟩ := xlet_some hf
  refine wk_sig hs19 ?_
  refine wk_aload_n (pc := 22) dX5_faultOf_22 rfl 0 rfl ?_
  refine wk_iconst (pc := 23) (v := (0 : Int32)) dX5_faultOf_23 (by decide) ?_
  refine wk_putI (C := RX5) (T := TX5) (N := 5) (ty := .int) (pc := 24) dX5_faultOf_24 (nc_49 hG).2 (nc_49 hG).1 rfl qU_X5 tyX5 tyX5_ok nmX5 3 (by decide) qF_X5_22 rfl rfl rfl rfl rfl ?_
  obtain ⟨s24, hs24, hf⟩ := xlet_some hf
  refine wk_sig hs24 ?_
  refine wk_aload_n (pc := 27) dX5_faultOf_27 rfl 0 rfl ?_
  refine wk_getR (C := RX5) (T := TX5) (N := 5) (pc := 28) dX5_faultOf_28 (nc_49 hG).2 (nc_49 hG).1 rfl qU_X5 4 (by decide) qF_X5_28 rfl ?_
  refine wk_iconst (pc := 31) (v := (0 : Int32)) dX5_faultOf_31 (by decide) ?_
  refine wk_putI (C := RX4) (T := TX4) (N := 3) (ty := .int) (pc := 32) dX5_faultOf_32 (nc_51 hG).2 (nc_51 hG).1 rfl qU_X4 tyX4 tyX4_ok nmX4 0 (by decide) qF_X5_38 rfl rfl rfl rfl rfl ?_
  obtain ⟨s32, hs32, hf⟩ := xlet_some hf
  refine wk_sig hs32 ?_
  refine wk_aload_n (pc := 35) dX5_faultOf_35 rfl 0 rfl ?_
  refine wk_iconst (pc := 36) (v := (0 : Int32)) dX5_faultOf_36 (by decide) ?_
  obtain ⟨r37, s37, hc37, hf⟩ := xbind_some hf
  refine wk_callVI (pc := 37) (As := [.int (0 : Int32)]) (rest := []) (kX5_readEither l hG (kX5_readOpened_all l hG 8)  hc37) cw_X5_39 (by decide) dX5_faultOf_37 (nc_49 hG).2 (nc_49 hG).1 rfl rfl rfl (Nat.le_of_ble_eq_true rfl) ?_
  obtain ⟨y59d, hy59d, hf⟩ := xlet_some hf
  have K59 : wk l G 90 RX5 cX5_faultOf 5 (some .int) (xI r s') 59 [(0, .ref (gA G 49)), (1, .ref (gA G p1)), (2, .int p2), (3, .int p3)] [.int y59d] s37 := by
    exact wk_lv [0] rfl (J59 y59d   s37 hf)
  by_cases c40 : r37 = 0
  · rw [if_pos c40] at hy59d
    refine wk_if_eq_p (pc := 40) (tgt := 58) dX5_faultOf_40 rfl c40 ?_
    refine wk_iconst (pc := 58) (v := (0 : Int32)) dX5_faultOf_58 (by decide) ?_
    exact wk_top hy59d K59
  · rw [if_neg c40] at hy59d
    refine wk_if_eq_m (pc := 40) (tgt := 58) dX5_faultOf_40 rfl c40 ?_
    refine wk_aload_n (pc := 43) dX5_faultOf_43 rfl 0 rfl ?_
    refine wk_getI (C := RX5) (T := TX5) (N := 5) (pc := 44) dX5_faultOf_44 (nc_49 hG).2 (nc_49 hG).1 rfl qU_X5 3 (by decide) qF_X5_22 rfl ?_
    refine wk_aload_n (pc := 47) dX5_faultOf_47 rfl 0 rfl ?_
    refine wk_getI (C := RX5) (T := TX5) (N := 5) (pc := 48) dX5_faultOf_48 (nc_49 hG).2 (nc_49 hG).1 rfl qU_X5 1 (by decide) qF_X5_15 rfl ?_
    by_cases c51 : (s37 49 3) = (s37 49 1)
    · rw [if_pos c51] at hy59d
      refine wk_icmp_ne_p (pc := 51) (tgt := 58) dX5_faultOf_51 rfl c51 ?_
      refine wk_iconst (pc := 54) (v := (1 : Int32)) dX5_faultOf_54 (by decide) ?_
      refine wk_goto (pc := 55) (tgt := 59) dX5_faultOf_55 rfl ?_
      exact wk_top hy59d K59
    · rw [if_neg c51] at hy59d
      refine wk_icmp_ne_m (pc := 51) (tgt := 58) dX5_faultOf_51 rfl c51 ?_
      refine wk_iconst (pc := 58) (v := (0 : Int32)) dX5_faultOf_58 (by decide) ?_
      exact wk_top hy59d K59
noncomputable def sX1_countFalse_L30 (a2_4 : Int32) (self4 : Int32 × Int32 → xS → Option (Int32 × xS)) (a1_30 : Int32) (s30 : xS) : Option (Int32 × xS) := xlet (a2_4 + (1 : Int32)) (fun y30 => self4 (a1_30, y30) s30)
noncomputable def sX1_countFalse_L4  (self4 : Int32 × Int32 → xS → Option (Int32 × xS)) : Int32 × Int32 → xS → Option (Int32 × xS) := fun (a1_4, a2_4) s4 => (if (s4 45 1) ≤ a2_4 then some (a1_4, s4) else (if xin a2_4 8 then (if xin a2_4 8 then (if (s4 47 a2_4.toNatClampNeg) = (s4 46 a2_4.toNatClampNeg) then (sX1_countFalse_L30 a2_4 self4) a1_4 s4 else xlet (a1_4 + (1 : Int32)) (fun y27 => (sX1_countFalse_L30 a2_4 self4) y27 s4)) else none) else none))
noncomputable def sX1_countFalse  (s : xS) : Option (Int32 × xS) := xloop sX1_countFalse_L4 xF ((0 : Int32), (0 : Int32)) s
set_option maxHeartbeats 4000000 in
set_option maxRecDepth 100000 in
theorem kX1_countFalse (l : Launch) {G : xG} (hG : xC1 G)    {s : xS} {r : Int32} {s' : xS} (hf : sX1_countFalse  s = some (r, s')) : xMet l G 2 yX1_countFalse cX1_countFalse 3 (some .int) [.ref (gA G 45)] s (xI r s') := by
  refine xMet.of (by decide) (Nat.le_of_ble_eq_true rfl) ?_
  show wk l G 2 RX1 cX1_countFalse 3 (some .int) (xI r s') 0 [(0, .ref (gA G 45))] [] s
  unfold sX1_countFalse at hf
  have J4 : ∀   (N : Nat) (a1_4 : Int32) (a2_4 : Int32)  (s4 : xS), xloop sX1_countFalse_L4 N (a1_4, a2_4) s4 = some (r, s') → wk l G 2 RX1 cX1_countFalse 3 (some .int) (xI r s') 4 [(0, .ref (gA G 45)), (1, .int a1_4), (2, .int a2_4)] [] s4 := by
    intro N
    induction N with
    | zero => intro a1_4 a2_4 s4 hf; exact (xloop_0 hf).elim
    | succ N ih4 =>
      intro a1_4 a2_4 s4 hf
      rw [xloop_s] at hf
      generalize xloop sX1_countFalse_L4 N = self4 at hf ih4
      unfold sX1_countFalse_L4 at hf
      dsimp only at hf
      have J30 : ∀   (a1_30 : Int32)  (s30 : xS), (sX1_countFalse_L30 a2_4 self4) a1_30 s30 = some (r, s') → wk l G 2 RX1 cX1_countFalse 3 (some .int) (xI r s') 30 [(0, .ref (gA G 45)), (1, .int a1_30), (2, .int a2_4)] [] s30 := by
        intro a1_30 s30 hf
        unfold sX1_countFalse_L30 at hf
        obtain ⟨y30, hy30, hf⟩ := xlet_some hf
        refine wk_iinc (pc := 30) (v := y30) (lv' := [(2, .int y30), (0, .ref (gA G 45)), (1, .int a1_30)]) dX1_countFalse_30 2 rfl (by rw [hy30] <;> rfl) (by decide) rfl ?_
        refine wk_goto (pc := 33) (tgt := 4) dX1_countFalse_33 rfl ?_
        exact wk_lv [1, 2, 0] rfl (ih4 a1_30 y30  s30 hf)
      refine wk_iload_n (pc := 4) dX1_countFalse_4 rfl 2 rfl ?_
      refine wk_aload_n (pc := 5) dX1_countFalse_5 rfl 0 rfl ?_
      refine wk_getI (C := RX1) (T := TX1) (N := 5) (pc := 6) dX1_countFalse_6 (nc_45 hG).2 (nc_45 hG).1 rfl qU_X1 1 (by decide) qF_X1_15 rfl ?_
      refine wk_icmp_ge (pc := 9) (tgt := 36) dX1_countFalse_9 rfl hf (fun hf => ?_) (fun hf => ?_)
      · refine wk_iload_n (pc := 36) dX1_countFalse_36 rfl 1 rfl ?_
        exact wk_iret (pc := 37) dX1_countFalse_37 rfl (xI_of hf)
      · refine wk_aload_n (pc := 12) dX1_countFalse_12 rfl 0 rfl ?_
        refine wk_getR (C := RX1) (T := TX1) (N := 5) (pc := 13) dX1_countFalse_13 (nc_45 hG).2 (nc_45 hG).1 rfl qU_X1 3 (by decide) qF_X1_22 rfl ?_
        refine wk_iload_n (pc := 16) dX1_countFalse_16 rfl 2 rfl ?_
        obtain ⟨h17, hf⟩ := xif_some hf
        refine wk_iald (pc := 17) (jj := a2_4.toNatClampNeg) dX1_countFalse_17 (nc_47 hG).2 (nc_47 hG).1 h17 rfl ?_
        refine wk_aload_n (pc := 18) dX1_countFalse_18 rfl 0 rfl ?_
        refine wk_getR (C := RX1) (T := TX1) (N := 5) (pc := 19) dX1_countFalse_19 (nc_45 hG).2 (nc_45 hG).1 rfl qU_X1 2 (by decide) qF_X1_18 rfl ?_
        refine wk_iload_n (pc := 22) dX1_countFalse_22 rfl 2 rfl ?_
        obtain ⟨h23, hf⟩ := xif_some hf
        refine wk_iald (pc := 23) (jj := a2_4.toNatClampNeg) dX1_countFalse_23 (nc_46 hG).2 (nc_46 hG).1 h23 rfl ?_
        refine wk_icmp_eq (pc := 24) (tgt := 30) dX1_countFalse_24 rfl hf (fun hf => ?_) (fun hf => ?_)
        · exact wk_lv [0, 1, 2] rfl (J30  a1_4  s4 hf)
        · obtain ⟨y27, hy27, hf⟩ := xlet_some hf
          refine wk_iinc (pc := 27) (v := y27) (lv' := [(1, .int y27), (0, .ref (gA G 45)), (2, .int a2_4)]) dX1_countFalse_27 1 rfl (by rw [hy27] <;> rfl) (by decide) rfl ?_
          exact wk_lv [1, 0, 2] rfl (J30  y27  s4 hf)
  refine wk_iconst (pc := 0) (v := (0 : Int32)) dX1_countFalse_0 (by decide) ?_
  refine wk_istore_n (pc := 1) (lv' := [(1, .int (0 : Int32)), (0, .ref (gA G 45))]) dX1_countFalse_1 rfl (by decide) rfl ?_
  refine wk_iconst (pc := 2) (v := (0 : Int32)) dX1_countFalse_2 (by decide) ?_
  refine wk_istore_n (pc := 3) (lv' := [(2, .int (0 : Int32)), (1, .int (0 : Int32)), (0, .ref (gA G 45))]) dX1_countFalse_3 rfl (by decide) rfl ?_
  exact wk_lv [2, 1, 0] rfl (J4  xF (0 : Int32) (0 : Int32)  s hf)
noncomputable def sX0_copyFrom (k : Nat) (p1 : Nat) (s : xS) : Option (Unit × xS) := xlet (xup s k (upd (s k) 0 (s p1 0))) (fun s5 => xlet (xup s5 k (upd (s5 k) 1 (s5 p1 1))) (fun s13 => xlet (xup s13 k (upd (s13 k) 2 (s13 p1 2))) (fun s21 => xlet (xup s21 k (upd (s21 k) 3 (s21 p1 3))) (fun s29 => xlet (xup s29 (k + 1) (va_cpy (s29 (p1 + 1)) (s29 (k + 1)) (0 : Int32).toNatClampNeg (0 : Int32).toNatClampNeg (8 : Int32).toNatClampNeg)) (fun s44 => xlet (xup s44 (k + 2) (va_cpy (s44 (p1 + 2)) (s44 (k + 2)) (0 : Int32).toNatClampNeg (0 : Int32).toNatClampNeg (8 : Int32).toNatClampNeg)) (fun s59 => xlet (xup s59 (k + 3) (va_cpy (s59 (p1 + 3)) (s59 (k + 3)) (0 : Int32).toNatClampNeg (0 : Int32).toNatClampNeg (8 : Int32).toNatClampNeg)) (fun s74 => xbind (sX4_copyFrom (k + 4) (p1 + 4) s74) (fun _ s85 => xbind (sX4_copyFrom (k + 7) (p1 + 7) s85) (fun _ s96 => some ((), s96))))))))))
set_option maxHeartbeats 4000000 in
set_option maxRecDepth 100000 in
theorem kX0_copyFrom (l : Launch) {G : xG} (hG : xC1 G)  {k : Nat} {p1 : Nat} (hk : k ∈ lBay) (hp1 : p1 ∈ lBay) {s : xS} {s' : xS} (hf : sX0_copyFrom k p1 s = some ((), s')) : xMet l G 3 yX0_copyFrom cX0_copyFrom 2 none [.ref (gA G k), .ref (gA G p1)] s (xU s') := by
  refine xMet.of (by decide) (Nat.le_of_ble_eq_true rfl) ?_
  show wk l G 3 RX0 cX0_copyFrom 2 none (xU s') 0 [(0, .ref (gA G k)), (1, .ref (gA G p1))] [] s
  unfold sX0_copyFrom at hf
  refine wk_aload_n (pc := 0) dX0_copyFrom_0 rfl 0 rfl ?_
  refine wk_aload_n (pc := 1) dX0_copyFrom_1 rfl 1 rfl ?_
  refine wk_getI (C := RX0) (T := TX0) (N := 9) (pc := 2) dX0_copyFrom_2 (sX0_0 hG hp1).2 (sX0_0 hG hp1).1 rfl qU_X0 0 (by decide) qF_X0_9 rfl ?_
  refine wk_putI (C := RX0) (T := TX0) (N := 9) (ty := .int) (pc := 5) dX0_copyFrom_5 (sX0_0 hG hk).2 (sX0_0 hG hk).1 rfl qU_X0 tyX0 tyX0_ok nmX0 0 (by decide) qF_X0_9 rfl rfl rfl rfl rfl ?_
  obtain ⟨s5, hs5, hf⟩ := xlet_some hf
  refine wk_sig hs5 ?_
  refine wk_aload_n (pc := 8) dX0_copyFrom_8 rfl 0 rfl ?_
  refine wk_aload_n (pc := 9) dX0_copyFrom_9 rfl 1 rfl ?_
  refine wk_getI (C := RX0) (T := TX0) (N := 9) (pc := 10) dX0_copyFrom_10 (sX0_0 hG hp1).2 (sX0_0 hG hp1).1 rfl qU_X0 1 (by decide) qF_X0_15 rfl ?_
  refine wk_putI (C := RX0) (T := TX0) (N := 9) (ty := .int) (pc := 13) dX0_copyFrom_13 (sX0_0 hG hk).2 (sX0_0 hG hk).1 rfl qU_X0 tyX0 tyX0_ok nmX0 1 (by decide) qF_X0_15 rfl rfl rfl rfl rfl ?_
  obtain ⟨s13, hs13, hf⟩ := xlet_some hf
  refine wk_sig hs13 ?_
  refine wk_aload_n (pc := 16) dX0_copyFrom_16 rfl 0 rfl ?_
  refine wk_aload_n (pc := 17) dX0_copyFrom_17 rfl 1 rfl ?_
  refine wk_getI (C := RX0) (T := TX0) (N := 9) (pc := 18) dX0_copyFrom_18 (sX0_0 hG hp1).2 (sX0_0 hG hp1).1 rfl qU_X0 2 (by decide) qF_X0_18 rfl ?_
  refine wk_putI (C := RX0) (T := TX0) (N := 9) (ty := .int) (pc := 21) dX0_copyFrom_21 (sX0_0 hG hk).2 (sX0_0 hG hk).1 rfl qU_X0 tyX0 tyX0_ok nmX0 2 (by decide) qF_X0_18 rfl rfl rfl rfl rfl ?_
  obtain ⟨s21, hs21, hf⟩ := xlet_some hf
  refine wk_sig hs21 ?_
  refine wk_aload_n (pc := 24) dX0_copyFrom_24 rfl 0 rfl ?_
  refine wk_aload_n (pc := 25) dX0_copyFrom_25 rfl 1 rfl ?_
  refine wk_getI (C := RX0) (T := TX0) (N := 9) (pc := 26) dX0_copyFrom_26 (sX0_0 hG hp1).2 (sX0_0 hG hp1).1 rfl qU_X0 3 (by decide) qF_X0_21 rfl ?_
  refine wk_putI (C := RX0) (T := TX0) (N := 9) (ty := .int) (pc := 29) dX0_copyFrom_29 (sX0_0 hG hk).2 (sX0_0 hG hk).1 rfl qU_X0 tyX0 tyX0_ok nmX0 3 (by decide) qF_X0_21 rfl rfl rfl rfl rfl ?_
  obtain ⟨s29, hs29, hf⟩ := xlet_some hf
  refine wk_sig hs29 ?_
  refine wk_aload_n (pc := 32) dX0_copyFrom_32 rfl 1 rfl ?_
  refine wk_getR (C := RX0) (T := TX0) (N := 9) (pc := 33) dX0_copyFrom_33 (sX0_0 hG hp1).2 (sX0_0 hG hp1).1 rfl qU_X0 4 (by decide) qF_X0_24 rfl ?_
  refine wk_iconst (pc := 36) (v := (0 : Int32)) dX0_copyFrom_36 (by decide) ?_
  refine wk_aload_n (pc := 37) dX0_copyFrom_37 rfl 0 rfl ?_
  refine wk_getR (C := RX0) (T := TX0) (N := 9) (pc := 38) dX0_copyFrom_38 (sX0_0 hG hk).2 (sX0_0 hG hk).1 rfl qU_X0 4 (by decide) qF_X0_24 rfl ?_
  refine wk_iconst (pc := 41) (v := (0 : Int32)) dX0_copyFrom_41 (by decide) ?_
  refine wk_bipush (pc := 42) (v := (8 : Int32)) dX0_copyFrom_42 (by decide) ?_
  refine wk_copyi (pc := 44) (z0 := 8) (z1 := 8) dX0_copyFrom_44 qM_X0_44 qN_copy qS_copy qJ_J10 (sX0_1 hG hp1).2 (sX0_1 hG hp1).1 (sX0_1 hG hk).2 (sX0_1 hG hk).1 (by decide) (Nat.le_of_ble_eq_true rfl) (by decide) ?_
  obtain ⟨s44, hs44, hf⟩ := xlet_some hf
  refine wk_sig hs44 ?_
  refine wk_aload_n (pc := 47) dX0_copyFrom_47 rfl 1 rfl ?_
  refine wk_getR (C := RX0) (T := TX0) (N := 9) (pc := 48) dX0_copyFrom_48 (sX0_0 hG hp1).2 (sX0_0 hG hp1).1 rfl qU_X0 5 (by decide) qF_X0_28 rfl ?_
  refine wk_iconst (pc := 51) (v := (0 : Int32)) dX0_copyFrom_51 (by decide) ?_
  refine wk_aload_n (pc := 52) dX0_copyFrom_52 rfl 0 rfl ?_
  refine wk_getR (C := RX0) (T := TX0) (N := 9) (pc := 53) dX0_copyFrom_53 (sX0_0 hG hk).2 (sX0_0 hG hk).1 rfl qU_X0 5 (by decide) qF_X0_28 rfl ?_
  refine wk_iconst (pc := 56) (v := (0 : Int32)) dX0_copyFrom_56 (by decide) ?_
  refine wk_bipush (pc := 57) (v := (8 : Int32)) dX0_copyFrom_57 (by decide) ?_
  refine wk_copyi (pc := 59) (z0 := 8) (z1 := 8) dX0_copyFrom_59 qM_X0_44 qN_copy qS_copy qJ_J10 (sX0_2 hG hp1).2 (sX0_2 hG hp1).1 (sX0_2 hG hk).2 (sX0_2 hG hk).1 (by decide) (Nat.le_of_ble_eq_true rfl) (by decide) ?_
  obtain ⟨s59, hs59, hf⟩ := xlet_some hf
  refine wk_sig hs59 ?_
  refine wk_aload_n (pc := 62) dX0_copyFrom_62 rfl 1 rfl ?_
  refine wk_getR (C := RX0) (T := TX0) (N := 9) (pc := 63) dX0_copyFrom_63 (sX0_0 hG hp1).2 (sX0_0 hG hp1).1 rfl qU_X0 6 (by decide) qF_X0_31 rfl ?_
  refine wk_iconst (pc := 66) (v := (0 : Int32)) dX0_copyFrom_66 (by decide) ?_
  refine wk_aload_n (pc := 67) dX0_copyFrom_67 rfl 0 rfl ?_
  refine wk_getR (C := RX0) (T := TX0) (N := 9) (pc := 68) dX0_copyFrom_68 (sX0_0 hG hk).2 (sX0_0 hG hk).1 rfl qU_X0 6 (by decide) qF_X0_31 rfl ?_
  refine wk_iconst (pc := 71) (v := (0 : Int32)) dX0_copyFrom_71 (by decide) ?_
  refine wk_bipush (pc := 72) (v := (8 : Int32)) dX0_copyFrom_72 (by decide) ?_
  refine wk_copyi (pc := 74) (z0 := 8) (z1 := 8) dX0_copyFrom_74 qM_X0_44 qN_copy qS_copy qJ_J10 (sX0_3 hG hp1).2 (sX0_3 hG hp1).1 (sX0_3 hG hk).2 (sX0_3 hG hk).1 (by decide) (Nat.le_of_ble_eq_true rfl) (by decide) ?_
  obtain ⟨s74, hs74, hf⟩ := xlet_some hf
  refine wk_sig hs74 ?_
  refine wk_aload_n (pc := 77) dX0_copyFrom_77 rfl 0 rfl ?_
  refine wk_getR (C := RX0) (T := TX0) (N := 9) (pc := 78) dX0_copyFrom_78 (sX0_0 hG hk).2 (sX0_0 hG hk).1 rfl qU_X0 7 (by decide) qF_X0_37 rfl ?_
  refine wk_aload_n (pc := 81) dX0_copyFrom_81 rfl 1 rfl ?_
  refine wk_getR (C := RX0) (T := TX0) (N := 9) (pc := 82) dX0_copyFrom_82 (sX0_0 hG hp1).2 (sX0_0 hG hp1).1 rfl qU_X0 7 (by decide) qF_X0_37 rfl ?_
  obtain ⟨⟨⟩, s85, hc85, hf⟩ := xbind_some hf
  refine wk_callVU (pc := 85) (As := [.ref (gA G (p1 + 4))]) (rest := []) (kX4_copyFrom l hG (law4 hk) (law4 hp1) hc85) cw_X0_50 (by decide) dX0_copyFrom_85 (sX4_0 hG (law4 hk)).2 (sX4_0 hG (law4 hk)).1 rfl rfl rfl (Nat.le_of_ble_eq_true rfl) ?_
  refine wk_aload_n (pc := 88) dX0_copyFrom_88 rfl 0 rfl ?_
  refine wk_getR (C := RX0) (T := TX0) (N := 9) (pc := 89) dX0_copyFrom_89 (sX0_0 hG hk).2 (sX0_0 hG hk).1 rfl qU_X0 8 (by decide) qF_X0_41 rfl ?_
  refine wk_aload_n (pc := 92) dX0_copyFrom_92 rfl 1 rfl ?_
  refine wk_getR (C := RX0) (T := TX0) (N := 9) (pc := 93) dX0_copyFrom_93 (sX0_0 hG hp1).2 (sX0_0 hG hp1).1 rfl qU_X0 8 (by decide) qF_X0_41 rfl ?_
  obtain ⟨⟨⟩, s96, hc96, hf⟩ := xbind_some hf
  refine wk_callVU (pc := 96) (As := [.ref (gA G (p1 + 7))]) (rest := []) (kX4_copyFrom l hG (law7 hk) (law7 hp1) hc96) cw_X0_50 (by decide) dX0_copyFrom_96 (sX4_0 hG (law7 hk)).2 (sX4_0 hG (law7 hk)).1 rfl rfl rfl (Nat.le_of_ble_eq_true rfl) ?_
  exact wk_vret (pc := 99) dX0_copyFrom_99 rfl (xU_of hf)
