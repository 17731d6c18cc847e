set_option maxRecDepth 20000 in
set_option maxHeartbeats 1000000 in
theorem kX8_init (l : Launch) (D : va_G) (kI : ClassId) (a : Nat → Nat) (B : Nat → Prop) (h0 sz : Nat) {c' : xS} (hf : sX0_renew 1 8 cI = some ((), c')) (hB : ∀ z, cA h0 (.inr (8, [.null, .null, .null, .null, .null, .null, .int 0, .null, .null, .null, .null, .null, .null])) sz z → B z) : cMet l D kI a B 3 65 1168 yX8_init cX8_init h0 (.inr (8, [.null, .null, .null, .null, .null, .null, .int 0, .null, .null, .null, .null, .null, .null])) sz (wPost D kI a h0 (.inr (8, [.null, .null, .null, .null, .null, .null, .int 0, .null, .null, .null, .null, .null, .null])) sz "OldLight$Sheet" 66 cSh c') := by
  refine cMet.of (by decide) rfl ?_
  refine ck_al0 (pc := 0) dX8_init_0 ?_
  refine ck_oinit (pc := 1) qn_M_X8 qn_oi qn_oc (by decide) (Nat.le_of_ble_eq_true rfl) dX8_init_1 ?_
  refine ck_al0 (pc := 4) dX8_init_4 ?_
  refine ck_new (pc := 5) (host := "OldLight") (N := 9) (cj := 0) (fs0 := [.int 0, .int 0, .int 0, .int 0, .null, .null, .null, .null, .null]) (seg := sgX0 kI) (ty0 := tyX0) (fun q z hz => kX0_init l D kI a B q z hz) qn_L_X8_7 qn_N_X0 qn_J_X0 (List.mem_of_getElem? (i := 0) rfl) qn_I_X0 qn_C_X0 rfl ⟨rfl, by decide, by decide, by decide +kernel⟩ qU_X0 tyX0_ok rfl dfX0 hB (by decide) (by decide) (by decide) (Nat.le_of_ble_eq_true rfl) dX8_init_5 dX8_init_8 dX8_init_9 (fun d1 => ?_)
  simp only [sgX0, List.nil_append, List.cons_append, List.set_cons_succ, List.set_cons_zero, List.append_nil]
  refine ck_putF (pc := 12) (C := RX8) (T := TX8) (N := 13) (fs1 := [.ref (d1 0), .null, .null, .null, .null, .null, .int 0, .null, .null, .null, .null, .null, .null]) tyX8 rfl qU_X8 tyX8_ok nmX8 0 (by decide) qn_F_X8_10 rfl (ty := tyX8 0) (tyX8_ok 0 (by decide)) rfl rfl (Nat.le_of_ble_eq_true rfl) rfl rfl rfl dX8_init_12 ?_
  refine ck_al0 (pc := 15) dX8_init_15 ?_
  refine ck_new (pc := 16) (host := "OldLight") (N := 7) (cj := 3) (fs0 := [.int 0, .int 0, .null, .null, .null, .null, .null]) (seg := sgX3 kI) (ty0 := tyX3) (fun q z hz => kX3_init l D kI a B q z hz) qn_L_X8_16 qn_N_X3 qn_J_X3 (List.mem_of_getElem? (i := 2) rfl) qn_I_X3 qn_C_X3 rfl ⟨rfl, by decide, by decide, by decide +kernel⟩ qU_X3 tyX3_ok rfl dfX3 hB (by decide) (by decide) (by decide) (Nat.le_of_ble_eq_true rfl) dX8_init_16 dX8_init_19 dX8_init_20 (fun d2 => ?_)
  simp only [sgX3, List.nil_append, List.cons_append, List.set_cons_succ, List.set_cons_zero, List.append_nil]
  refine ck_putF (pc := 23) (C := RX8) (T := TX8) (N := 13) (fs1 := [.ref (d1 0), .ref (d2 0), .null, .null, .null, .null, .int 0, .null, .null, .null, .null, .null, .null]) tyX8 rfl qU_X8 tyX8_ok nmX8 1 (by decide) qn_F_X8_19 rfl (ty := tyX8 1) (tyX8_ok 1 (by decide)) rfl rfl (Nat.le_of_ble_eq_true rfl) rfl rfl rfl dX8_init_23 ?_
  refine ck_al0 (pc := 26) dX8_init_26 ?_
  refine ck_new (pc := 27) (host := "OldLight") (N := 5) (cj := 2) (fs0 := [.int 0, .int 0, .int 0, .null, .null]) (seg := sgX2 kI) (ty0 := tyX2) (fun q z hz => kX2_init l D kI a B q z hz) qn_L_X8_23 qn_N_X2 qn_J_X2 (List.mem_of_getElem? (i := 3) rfl) qn_I_X2 qn_C_X2 rfl ⟨rfl, by decide, by decide, by decide +kernel⟩ qU_X2 tyX2_ok rfl dfX2 hB (by decide) (by decide) (by decide) (Nat.le_of_ble_eq_true rfl) dX8_init_27 dX8_init_30 dX8_init_31 (fun d3 => ?_)
  simp only [sgX2, List.nil_append, List.cons_append, List.set_cons_succ, List.set_cons_zero, List.append_nil]
  refine ck_putF (pc := 34) (C := RX8) (T := TX8) (N := 13) (fs1 := [.ref (d1 0), .ref (d2 0), .ref (d3 0), .null, .null, .null, .int 0, .null, .null, .null, .null, .null, .null]) tyX8 rfl qU_X8 tyX8_ok nmX8 2 (by decide) qn_F_X8_26 rfl (ty := tyX8 2) (tyX8_ok 2 (by decide)) rfl rfl (Nat.le_of_ble_eq_true rfl) rfl rfl rfl dX8_init_34 ?_
  refine ck_al0 (pc := 37) dX8_init_37 ?_
  refine ck_new (pc := 38) (host := "OldLight") (N := 9) (cj := 0) (fs0 := [.int 0, .int 0, .int 0, .int 0, .null, .null, .null, .null, .null]) (seg := sgX0 kI) (ty0 := tyX0) (fun q z hz => kX0_init l D kI a B q z hz) qn_L_X8_7 qn_N_X0 qn_J_X0 (List.mem_of_getElem? (i := 0) rfl) qn_I_X0 qn_C_X0 rfl ⟨rfl, by decide, by decide, by decide +kernel⟩ qU_X0 tyX0_ok rfl dfX0 hB (by decide) (by decide) (by decide) (Nat.le_of_ble_eq_true rfl) dX8_init_38 dX8_init_41 dX8_init_42 (fun d4 => ?_)
  simp only [sgX0, List.nil_append, List.cons_append, List.set_cons_succ, List.set_cons_zero, List.append_nil]
  refine ck_putF (pc := 45) (C := RX8) (T := TX8) (N := 13) (fs1 := [.ref (d1 0), .ref (d2 0), .ref (d3 0), .ref (d4 0), .null, .null, .int 0, .null, .null, .null, .null, .null, .null]) tyX8 rfl qU_X8 tyX8_ok nmX8 3 (by decide) qn_F_X8_30 rfl (ty := tyX8 3) (tyX8_ok 3 (by decide)) rfl rfl (Nat.le_of_ble_eq_true rfl) rfl rfl rfl dX8_init_45 ?_
  refine ck_al0 (pc := 48) dX8_init_48 ?_
  refine ck_new (pc := 49) (host := "OldLight") (N := 7) (cj := 3) (fs0 := [.int 0, .int 0, .null, .null, .null, .null, .null]) (seg := sgX3 kI) (ty0 := tyX3) (fun q z hz => kX3_init l D kI a B q z hz) qn_L_X8_16 qn_N_X3 qn_J_X3 (List.mem_of_getElem? (i := 2) rfl) qn_I_X3 qn_C_X3 rfl ⟨rfl, by decide, by decide, by decide +kernel⟩ qU_X3 tyX3_ok rfl dfX3 hB (by decide) (by decide) (by decide) (Nat.le_of_ble_eq_true rfl) dX8_init_49 dX8_init_52 dX8_init_53 (fun d5 => ?_)
  simp only [sgX3, List.nil_append, List.cons_append, List.set_cons_succ, List.set_cons_zero, List.append_nil]
  refine ck_putF (pc := 56) (C := RX8) (T := TX8) (N := 13) (fs1 := [.ref (d1 0), .ref (d2 0), .ref (d3 0), .ref (d4 0), .ref (d5 0), .null, .int 0, .null, .null, .null, .null, .null, .null]) tyX8 rfl qU_X8 tyX8_ok nmX8 4 (by decide) qn_F_X8_33 rfl (ty := tyX8 4) (tyX8_ok 4 (by decide)) rfl rfl (Nat.le_of_ble_eq_true rfl) rfl rfl rfl dX8_init_56 ?_
  refine ck_al0 (pc := 59) dX8_init_59 ?_
  refine ck_new (pc := 60) (host := "OldLight") (N := 5) (cj := 2) (fs0 := [.int 0, .int 0, .int 0, .null, .null]) (seg := sgX2 kI) (ty0 := tyX2) (fun q z hz => kX2_init l D kI a B q z hz) qn_L_X8_23 qn_N_X2 qn_J_X2 (List.mem_of_getElem? (i := 3) rfl) qn_I_X2 qn_C_X2 rfl ⟨rfl, by decide, by decide, by decide +kernel⟩ qU_X2 tyX2_ok rfl dfX2 hB (by decide) (by decide) (by decide) (Nat.le_of_ble_eq_true rfl) dX8_init_60 dX8_init_63 dX8_init_64 (fun d6 => ?_)
  simp only [sgX2, List.nil_append, List.cons_append, List.set_cons_succ, List.set_cons_zero, List.append_nil]
  refine ck_putF (pc := 67) (C := RX8) (T := TX8) (N := 13) (fs1 := [.ref (d1 0), .ref (d2 0), .ref (d3 0), .ref (d4 0), .ref (d5 0), .ref (d6 0), .int 0, .null, .null, .null, .null, .null, .null]) tyX8 rfl qU_X8 tyX8_ok nmX8 5 (by decide) qn_F_X8_36 rfl (ty := tyX8 5) (tyX8_ok 5 (by decide)) rfl rfl (Nat.le_of_ble_eq_true rfl) rfl rfl rfl dX8_init_67 ?_
  refine ck_al0 (pc := 70) dX8_init_70 ?_
  refine ck_iconst (pc := 71) (v := 0) dX8_init_71 (by decide) ?_
  refine ck_put (pc := 72) (C := RX8) (T := TX8) (N := 13) (fs1 := [.ref (d1 0), .ref (d2 0), .ref (d3 0), .ref (d4 0), .ref (d5 0), .ref (d6 0), .int 0, .null, .null, .null, .null, .null, .null]) tyX8 rfl qU_X8 tyX8_ok nmX8 6 (by decide) qn_F_X8_39 rfl (ty := tyX8 6) (tyX8_ok 6 (by decide)) rfl rfl (Nat.le_of_ble_eq_true rfl) rfl rfl dX8_init_72 ?_
  refine ck_al0 (pc := 75) dX8_init_75 ?_
  refine ck_new (pc := 76) (host := "OldLight") (N := 7) (cj := 3) (fs0 := [.int 0, .int 0, .null, .null, .null, .null, .null]) (seg := sgX3 kI) (ty0 := tyX3) (fun q z hz => kX3_init l D kI a B q z hz) qn_L_X8_16 qn_N_X3 qn_J_X3 (List.mem_of_getElem? (i := 2) rfl) qn_I_X3 qn_C_X3 rfl ⟨rfl, by decide, by decide, by decide +kernel⟩ qU_X3 tyX3_ok rfl dfX3 hB (by decide) (by decide) (by decide) (Nat.le_of_ble_eq_true rfl) dX8_init_76 dX8_init_79 dX8_init_80 (fun d7 => ?_)
  simp only [sgX3, List.nil_append, List.cons_append, List.set_cons_succ, List.set_cons_zero, List.append_nil]
  refine ck_putF (pc := 83) (C := RX8) (T := TX8) (N := 13) (fs1 := [.ref (d1 0), .ref (d2 0), .ref (d3 0), .ref (d4 0), .ref (d5 0), .ref (d6 0), .int 0, .ref (d7 0), .null, .null, .null, .null, .null]) tyX8 rfl qU_X8 tyX8_ok nmX8 7 (by decide) qn_F_X8_43 rfl (ty := tyX8 7) (tyX8_ok 7 (by decide)) rfl rfl (Nat.le_of_ble_eq_true rfl) rfl rfl rfl dX8_init_83 ?_
  refine ck_al0 (pc := 86) dX8_init_86 ?_
  refine ck_new (pc := 87) (host := "OldLight") (N := 5) (cj := 1) (fs0 := [.int 0, .int 0, .null, .null, .null]) (seg := sgX1 kI) (ty0 := tyX1) (fun q z hz => kX1_init l D kI a B q z hz) qn_L_X8_46 qn_N_X1 qn_J_X1 (List.mem_of_getElem? (i := 4) rfl) qn_I_X1 qn_C_X1 rfl ⟨rfl, by decide, by decide, by decide +kernel⟩ qU_X1 tyX1_ok rfl dfX1 hB (by decide) (by decide) (by decide) (Nat.le_of_ble_eq_true rfl) dX8_init_87 dX8_init_90 dX8_init_91 (fun d8 => ?_)
  simp only [sgX1, List.nil_append, List.cons_append, List.set_cons_succ, List.set_cons_zero, List.append_nil]
  refine ck_putF (pc := 94) (C := RX8) (T := TX8) (N := 13) (fs1 := [.ref (d1 0), .ref (d2 0), .ref (d3 0), .ref (d4 0), .ref (d5 0), .ref (d6 0), .int 0, .ref (d7 0), .ref (d8 0), .null, .null, .null, .null]) tyX8 rfl qU_X8 tyX8_ok nmX8 8 (by decide) qn_F_X8_49 rfl (ty := tyX8 8) (tyX8_ok 8 (by decide)) rfl rfl (Nat.le_of_ble_eq_true rfl) rfl rfl rfl dX8_init_94 ?_
  refine ck_al0 (pc := 97) dX8_init_97 ?_
  refine ck_new (pc := 98) (host := "OldLight") (N := 5) (cj := 5) (fs0 := [.null, .int 0, .int 0, .int 0, .null]) (seg := sgX5 kI) (ty0 := tyX5) (fun q z hz => kX5_init l D kI a B q z hz) qn_L_X8_53 qn_N_X5 qn_J_X5 (List.mem_of_getElem? (i := 5) rfl) qn_I_X5 qn_C_X5 rfl ⟨rfl, by decide, by decide, by decide +kernel⟩ qU_X5 tyX5_ok rfl dfX5 hB (by decide) (by decide) (by decide) (Nat.le_of_ble_eq_true rfl) dX8_init_98 dX8_init_101 dX8_init_102 (fun d9 => ?_)
  simp only [sgX5, List.nil_append, List.cons_append, List.set_cons_succ, List.set_cons_zero, List.append_nil]
  refine ck_putF (pc := 105) (C := RX8) (T := TX8) (N := 13) (fs1 := [.ref (d1 0), .ref (d2 0), .ref (d3 0), .ref (d4 0), .ref (d5 0), .ref (d6 0), .int 0, .ref (d7 0), .ref (d8 0), .ref (d9 0), .null, .null, .null]) tyX8 rfl qU_X8 tyX8_ok nmX8 9 (by decide) qn_F_X8_56 rfl (ty := tyX8 9) (tyX8_ok 9 (by decide)) rfl rfl (Nat.le_of_ble_eq_true rfl) rfl rfl rfl dX8_init_105 ?_
  refine ck_al0 (pc := 108) dX8_init_108 ?_
  refine ck_new (pc := 109) (host := "OldLight") (N := 5) (cj := 7) (fs0 := [.int 0, .null, .int 0, .int 0, .int 0]) (seg := sgX7 kI) (ty0 := tyX7) (fun q z hz => kX7_init l D kI a B q z hz) qn_L_X8_60 qn_N_X7 qn_J_X7 (List.mem_of_getElem? (i := 7) rfl) qn_I_X7 qn_C_X7 rfl ⟨rfl, by decide, by decide, by decide +kernel⟩ qU_X7 tyX7_ok rfl dfX7 hB (by decide) (by decide) (by decide) (Nat.le_of_ble_eq_true rfl) dX8_init_109 dX8_init_112 dX8_init_113 (fun d10 => ?_)
  simp only [sgX7, List.nil_append, List.cons_append, List.set_cons_succ, List.set_cons_zero, List.append_nil]
  refine ck_putF (pc := 116) (C := RX8) (T := TX8) (N := 13) (fs1 := [.ref (d1 0), .ref (d2 0), .ref (d3 0), .ref (d4 0), .ref (d5 0), .ref (d6 0), .int 0, .ref (d7 0), .ref (d8 0), .ref (d9 0), .ref (d10 0), .null, .null]) tyX8 rfl qU_X8 tyX8_ok nmX8 10 (by decide) qn_F_X8_63 rfl (ty := tyX8 10) (tyX8_ok 10 (by decide)) rfl rfl (Nat.le_of_ble_eq_true rfl) rfl rfl rfl dX8_init_116 ?_
  refine ck_al0 (pc := 119) dX8_init_119 ?_
  refine ck_iconst (pc := 120) (v := 4) dX8_init_120 (by decide) ?_
  refine ck_newq (pc := 121) (N := 4) (X := "OldLight$Sheet") qn_L_X8_67 (fun U h => h.2.1.1) (by decide) (by decide) (by decide) (by decide) (by decide) dX8_init_121 (fun q11 cR => ?_)
  simp only [List.nil_append, List.cons_append, List.set_cons_succ, List.set_cons_zero, List.append_nil]
  refine ck_dup (pc := 124) dX8_init_124 ?_
  refine ck_iconst (pc := 125) (v := 0) dX8_init_125 (by decide) ?_
  refine ck_new (pc := 126) (host := "OldLight") (N := 3) (cj := 6) (fs0 := [.int 0, .int 0, .null]) (seg := sgX6 kI) (ty0 := tyX6) (fun q z hz => kX6_init l D kI a B q z hz) qn_L_X8_67 qn_N_X6 qn_J_X6 (List.mem_of_getElem? (i := 8) rfl) qn_I_X6 qn_C_X6 rfl ⟨rfl, by decide, by decide, by decide +kernel⟩ qU_X6 tyX6_ok rfl dfX6 hB (by decide) (by decide) (by decide) (Nat.le_of_ble_eq_true rfl) dX8_init_126 dX8_init_129 dX8_init_130 (fun d12 => ?_)
  simp only [sgX6, List.nil_append, List.cons_append, List.set_cons_succ, List.set_cons_zero, List.append_nil]
  refine ck_astq (pc := 133) (r := (RX6, TX6, 3)) (N := 4) 55 0 56 6 rfl rfl rfl rfl (xin_vp (by decide)) rfl dX8_init_133 ?_
  simp only [List.nil_append, List.cons_append, List.set_cons_succ, List.set_cons_zero, List.append_nil]
  refine ck_dup (pc := 134) dX8_init_134 ?_
  refine ck_iconst (pc := 135) (v := 1) dX8_init_135 (by decide) ?_
  refine ck_new (pc := 136) (host := "OldLight") (N := 3) (cj := 6) (fs0 := [.int 0, .int 0, .null]) (seg := sgX6 kI) (ty0 := tyX6) (fun q z hz => kX6_init l D kI a B q z hz) qn_L_X8_67 qn_N_X6 qn_J_X6 (List.mem_of_getElem? (i := 8) rfl) qn_I_X6 qn_C_X6 rfl ⟨rfl, by decide, by decide, by decide +kernel⟩ qU_X6 tyX6_ok rfl dfX6 hB (by decide) (by decide) (by decide) (Nat.le_of_ble_eq_true rfl) dX8_init_136 dX8_init_139 dX8_init_140 (fun d13 => ?_)
  simp only [sgX6, List.nil_append, List.cons_append, List.set_cons_succ, List.set_cons_zero, List.append_nil]
  refine ck_astq (pc := 143) (r := (RX6, TX6, 3)) (N := 4) 55 0 58 6 rfl rfl rfl rfl (xin_vp (by decide)) rfl dX8_init_143 ?_
  simp only [List.nil_append, List.cons_append, List.set_cons_succ, List.set_cons_zero, List.append_nil]
  refine ck_dup (pc := 144) dX8_init_144 ?_
  refine ck_iconst (pc := 145) (v := 2) dX8_init_145 (by decide) ?_
  refine ck_new (pc := 146) (host := "OldLight") (N := 3) (cj := 6) (fs0 := [.int 0, .int 0, .null]) (seg := sgX6 kI) (ty0 := tyX6) (fun q z hz => kX6_init l D kI a B q z hz) qn_L_X8_67 qn_N_X6 qn_J_X6 (List.mem_of_getElem? (i := 8) rfl) qn_I_X6 qn_C_X6 rfl ⟨rfl, by decide, by decide, by decide +kernel⟩ qU_X6 tyX6_ok rfl dfX6 hB (by decide) (by decide) (by decide) (Nat.le_of_ble_eq_true rfl) dX8_init_146 dX8_init_149 dX8_init_150 (fun d14 => ?_)
  simp only [sgX6, List.nil_append, List.cons_append, List.set_cons_succ, List.set_cons_zero, List.append_nil]
  refine ck_astq (pc := 153) (r := (RX6, TX6, 3)) (N := 4) 55 0 60 6 rfl rfl rfl rfl (xin_vp (by decide)) rfl dX8_init_153 ?_
  simp only [List.nil_append, List.cons_append, List.set_cons_succ, List.set_cons_zero, List.append_nil]
  refine ck_dup (pc := 154) dX8_init_154 ?_
  refine ck_iconst (pc := 155) (v := 3) dX8_init_155 (by decide) ?_
  refine ck_new (pc := 156) (host := "OldLight") (N := 3) (cj := 6) (fs0 := [.int 0, .int 0, .null]) (seg := sgX6 kI) (ty0 := tyX6) (fun q z hz => kX6_init l D kI a B q z hz) qn_L_X8_67 qn_N_X6 qn_J_X6 (List.mem_of_getElem? (i := 8) rfl) qn_I_X6 qn_C_X6 rfl ⟨rfl, by decide, by decide, by decide +kernel⟩ qU_X6 tyX6_ok rfl dfX6 hB (by decide) (by decide) (by decide) (Nat.le_of_ble_eq_true rfl) dX8_init_156 dX8_init_159 dX8_init_160 (fun d15 => ?_)
  simp only [sgX6, List.nil_append, List.cons_append, List.set_cons_succ, List.set_cons_zero, List.append_nil]
  refine ck_astq (pc := 163) (r := (RX6, TX6, 3)) (N := 4) 55 0 62 6 rfl rfl rfl rfl (xin_vp (by decide)) rfl dX8_init_163 ?_
  simp only [List.nil_append, List.cons_append, List.set_cons_succ, List.set_cons_zero, List.append_nil]
  refine ck_putF (pc := 164) (C := RX8) (T := TX8) (N := 13) (fs1 := [.ref (d1 0), .ref (d2 0), .ref (d3 0), .ref (d4 0), .ref (d5 0), .ref (d6 0), .int 0, .ref (d7 0), .ref (d8 0), .ref (d9 0), .ref (d10 0), .ref q11, .null]) tyX8 rfl qU_X8 tyX8_ok nmX8 11 (by decide) qn_F_X8_70 rfl (ty := tyX8 11) (tyX8_ok 11 (by decide)) rfl rfl (Nat.le_of_ble_eq_true rfl) rfl rfl rfl dX8_init_164 ?_
  refine ck_al0 (pc := 167) dX8_init_167 ?_
  refine ck_bipush (pc := 168) (v := 6) dX8_init_168 (by decide) ?_
  refine ck_newa (pc := 170) (N := 6) qn_ai (by decide) (by decide) (by decide) (by decide) (by decide) dX8_init_170 (fun q16 => ?_)
  simp only [List.nil_append, List.cons_append, List.set_cons_succ, List.set_cons_zero, List.append_nil]
  refine ck_putF (pc := 172) (C := RX8) (T := TX8) (N := 13) (fs1 := [.ref (d1 0), .ref (d2 0), .ref (d3 0), .ref (d4 0), .ref (d5 0), .ref (d6 0), .int 0, .ref (d7 0), .ref (d8 0), .ref (d9 0), .ref (d10 0), .ref q11, .ref q16]) tyX8 rfl qU_X8 tyX8_ok nmX8 12 (by decide) qn_F_X8_74 rfl (ty := tyX8 12) (tyX8_ok 12 (by decide)) rfl rfl (Nat.le_of_ble_eq_true rfl) rfl rfl rfl dX8_init_172 ?_
  refine ck_row 55 (g := fun j => ([57, 59, 61, 63][j]?).map (fun k => if k < 66 then [h0, d1 0, d1 1, d1 2, d1 3, d1 4, d1 5, d1 6, d1 7, d1 8, d1 9, d4 0, d4 1, d4 2, d4 3, d4 4, d4 5, d4 6, d4 7, d4 8, d4 9, d2 0, d2 1, d2 2, d2 3, d2 4, d2 5, d5 0, d5 1, d5 2, d5 3, d5 4, d5 5, d7 0, d7 1, d7 2, d7 3, d7 4, d7 5, d3 0, d3 1, d3 2, d6 0, d6 1, d6 2, d8 0, d8 1, d8 2, d8 3, d9 0, d9 1, d9 2, d9 3, d9 4, d10 0, d10 1, q11, d12 0, d12 1, d13 0, d13 1, d14 0, d14 1, d15 0, d15 1, q16].getD k 0 else a k)) rfl (funext fun j => ?_) ?_
  · match j with
    | 0 => rfl
    | 1 => rfl
    | 2 => rfl
    | 3 => rfl
    | j + 4 => rfl
  refine ck_al0 (pc := 175) dX8_init_175 ?_
  refine ck_get (pc := 176) (C := RX8) (T := TX8) (N := 13) rfl qU_X8 0 (by decide) qn_F_X8_10 rfl rfl dX8_init_176 ?_
  refine ck_bipush (pc := 179) (v := 8) dX8_init_179 (by decide) ?_
  exact ck_lastV (pc := 181) (C := "OldLight$Sheet") (ad := (fun k => if k < 66 then [h0, d1 0, d1 1, d1 2, d1 3, d1 4, d1 5, d1 6, d1 7, d1 8, d1 9, d4 0, d4 1, d4 2, d4 3, d4 4, d4 5, d4 6, d4 7, d4 8, d4 9, d2 0, d2 1, d2 2, d2 3, d2 4, d2 5, d5 0, d5 1, d5 2, d5 3, d5 4, d5 5, d7 0, d7 1, d7 2, d7 3, d7 4, d7 5, d3 0, d3 1, d3 2, d6 0, d6 1, d6 2, d8 0, d8 1, d8 2, d8 3, d9 0, d9 1, d9 2, d9 3, d9 4, d10 0, d10 1, q11, d12 0, d12 1, d13 0, d13 1, d14 0, d14 1, d15 0, d15 1, q16].getD k 0 else a k)) (N := 66) (sh := cSh) (σ := cI) (As := [.int 8]) (o := 1) (fun ad cR => kX0_renew l ⟨rfl, rfl⟩ (k := 1) (by decide) hf) cw_X8_78 (by decide) [0, 1, 2, 3, 4, 5, 6, 7, 8, 9, 10, 20, 21, 22, 23, 24, 25, 26, 27, 28, 29, 11, 12, 13, 14, 15, 16, 30, 31, 32, 33, 34, 35, 39, 40, 41, 42, 43, 44, 17, 18, 19, 36, 37, 38, 45, 46, 47, 48, 49, 50, 51, 52, 53, 54, 55, 56, 57, 58, 59, 60, 61, 62, 63, 64, 65] (by decide) (by rw [rootC]; simp only [List.map_cons, List.map_nil, sgC]; rfl) (fun k hk => (if_neg (by omega)).symm) rfl hB (by decide) rfl rfl rfl rfl (by decide) (by decide) dX8_init_181 dX8_init_184
