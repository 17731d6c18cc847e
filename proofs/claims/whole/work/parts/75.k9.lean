set_option maxRecDepth 20000 in
set_option maxHeartbeats 1000000 in
theorem kX9_init (l : Launch) (D : va_G) (kI : ClassId) (a : Nat → Nat) (B : Nat → Prop) (h0 sz : Nat) {m' : xS} {r : Int32} (hf : sX9_flat 8 mI = some (r, m')) (hB : ∀ z, cA h0 (.inr (9, [.null, .null, .null, .int 0, .null, .null, .null, .int 0, .int 0, .int 0, .int 0, .null, .int 0, .null, .null, .null, .int 0, .int 0, .int 0, .int 0, .null, .null, .null, .null])) sz z → B z) : cMet l D kI a B 4 14 9106 yX9_init cX9_init h0 (.inr (9, [.null, .null, .null, .int 0, .null, .null, .null, .int 0, .int 0, .int 0, .int 0, .null, .int 0, .null, .null, .null, .int 0, .int 0, .int 0, .int 0, .null, .null, .null, .null])) sz (wPost D kI a h0 (.inr (9, [.null, .null, .null, .int 0, .null, .null, .null, .int 0, .int 0, .int 0, .int 0, .null, .int 0, .null, .null, .null, .int 0, .int 0, .int 0, .int 0, .null, .null, .null, .null])) sz "java/lang/String" 15 mSh m') := by
  refine cMet.of (by decide) rfl ?_
  refine ck_al0 (pc := 0) dX9_init_0 ?_
  refine ck_oinit (pc := 1) qn_M_X9 qn_oi qn_oc (by decide) (Nat.le_of_ble_eq_true rfl) dX9_init_1 ?_
  refine ck_al0 (pc := 4) dX9_init_4 ?_
  refine ck_sipush (pc := 5) (v := 242) dX9_init_5 (by decide) ?_
  refine ck_newa (pc := 8) (N := 242) qn_ai (by decide) (by decide) (by decide) (by decide) (by decide) dX9_init_8 (fun q1 => ?_)
  simp only [List.nil_append, List.cons_append, List.set_cons_succ, List.set_cons_zero, List.append_nil]
  refine ck_putF (pc := 10) (C := RX9) (T := TX9) (N := 24) (fs1 := [.ref q1, .null, .null, .int 0, .null, .null, .null, .int 0, .int 0, .int 0, .int 0, .null, .int 0, .null, .null, .null, .int 0, .int 0, .int 0, .int 0, .null, .null, .null, .null]) tyX9 rfl qU_X9 tyX9_ok nmX9 0 (by decide) qn_F_X9_9 rfl (ty := tyX9 0) (tyX9_ok 0 (by decide)) rfl rfl (Nat.le_of_ble_eq_true rfl) rfl rfl rfl dX9_init_10 ?_
  refine ck_al0 (pc := 13) dX9_init_13 ?_
  refine ck_sipush (pc := 14) (v := 242) dX9_init_14 (by decide) ?_
  refine ck_newa (pc := 17) (N := 242) qn_ai (by decide) (by decide) (by decide) (by decide) (by decide) dX9_init_17 (fun q2 => ?_)
  simp only [List.nil_append, List.cons_append, List.set_cons_succ, List.set_cons_zero, List.append_nil]
  refine ck_putF (pc := 19) (C := RX9) (T := TX9) (N := 24) (fs1 := [.ref q1, .ref q2, .null, .int 0, .null, .null, .null, .int 0, .int 0, .int 0, .int 0, .null, .int 0, .null, .null, .null, .int 0, .int 0, .int 0, .int 0, .null, .null, .null, .null]) tyX9 rfl qU_X9 tyX9_ok nmX9 1 (by decide) qn_F_X9_13 rfl (ty := tyX9 1) (tyX9_ok 1 (by decide)) rfl rfl (Nat.le_of_ble_eq_true rfl) rfl rfl rfl dX9_init_19 ?_
  refine ck_al0 (pc := 22) dX9_init_22 ?_
  refine ck_sipush (pc := 23) (v := 242) dX9_init_23 (by decide) ?_
  refine ck_newa (pc := 26) (N := 242) qn_ai (by decide) (by decide) (by decide) (by decide) (by decide) dX9_init_26 (fun q3 => ?_)
  simp only [List.nil_append, List.cons_append, List.set_cons_succ, List.set_cons_zero, List.append_nil]
  refine ck_putF (pc := 28) (C := RX9) (T := TX9) (N := 24) (fs1 := [.ref q1, .ref q2, .ref q3, .int 0, .null, .null, .null, .int 0, .int 0, .int 0, .int 0, .null, .int 0, .null, .null, .null, .int 0, .int 0, .int 0, .int 0, .null, .null, .null, .null]) tyX9 rfl qU_X9 tyX9_ok nmX9 2 (by decide) qn_F_X9_16 rfl (ty := tyX9 2) (tyX9_ok 2 (by decide)) rfl rfl (Nat.le_of_ble_eq_true rfl) rfl rfl rfl dX9_init_28 ?_
  refine ck_al0 (pc := 31) dX9_init_31 ?_
  refine ck_bipush (pc := 32) (v := 6) dX9_init_32 (by decide) ?_
  refine ck_newa (pc := 34) (N := 6) qn_ai (by decide) (by decide) (by decide) (by decide) (by decide) dX9_init_34 (fun q4 => ?_)
  simp only [List.nil_append, List.cons_append, List.set_cons_succ, List.set_cons_zero, List.append_nil]
  refine ck_putF (pc := 36) (C := RX9) (T := TX9) (N := 24) (fs1 := [.ref q1, .ref q2, .ref q3, .int 0, .ref q4, .null, .null, .int 0, .int 0, .int 0, .int 0, .null, .int 0, .null, .null, .null, .int 0, .int 0, .int 0, .int 0, .null, .null, .null, .null]) tyX9 rfl qU_X9 tyX9_ok nmX9 4 (by decide) qn_F_X9_19 rfl (ty := tyX9 4) (tyX9_ok 4 (by decide)) rfl rfl (Nat.le_of_ble_eq_true rfl) rfl rfl rfl dX9_init_36 ?_
  refine ck_al0 (pc := 39) dX9_init_39 ?_
  refine ck_sipush (pc := 40) (v := 8000) dX9_init_40 (by decide) ?_
  refine ck_newa (pc := 43) (N := 8000) qn_ai (by decide) (by decide) (by decide) (by decide) (by decide) dX9_init_43 (fun q5 => ?_)
  simp only [List.nil_append, List.cons_append, List.set_cons_succ, List.set_cons_zero, List.append_nil]
  refine ck_putF (pc := 45) (C := RX9) (T := TX9) (N := 24) (fs1 := [.ref q1, .ref q2, .ref q3, .int 0, .ref q4, .ref q5, .null, .int 0, .int 0, .int 0, .int 0, .null, .int 0, .null, .null, .null, .int 0, .int 0, .int 0, .int 0, .null, .null, .null, .null]) tyX9 rfl qU_X9 tyX9_ok nmX9 5 (by decide) qn_F_X9_22 rfl (ty := tyX9 5) (tyX9_ok 5 (by decide)) rfl rfl (Nat.le_of_ble_eq_true rfl) rfl rfl rfl dX9_init_45 ?_
  refine ck_al0 (pc := 48) dX9_init_48 ?_
  refine ck_iconst (pc := 49) (v := 2) dX9_init_49 (by decide) ?_
  refine ck_newq (pc := 50) (N := 2) (X := "java/lang/String") qn_L_X9_25 (fun U h => h.2.1.2) (by decide) (by decide) (by decide) (by decide) (by decide) dX9_init_50 (fun q6 cR => ?_)
  simp only [List.nil_append, List.cons_append, List.set_cons_succ, List.set_cons_zero, List.append_nil]
  refine ck_dup (pc := 53) dX9_init_53 ?_
  refine ck_iconst (pc := 54) (v := 0) dX9_init_54 (by decide) ?_
  refine ck_lds (pc := 55) (v := a (1010 + 0)) (fun U h => h.2.2.1) dX9_init_55 ?_
  refine ck_asts (pc := 57) (N := 2) (k := 0) 5 0 hB rfl rfl (by decide) (xin_vp (by decide)) rfl dX9_init_57 ?_
  simp only [List.nil_append, List.cons_append, List.set_cons_succ, List.set_cons_zero, List.append_nil]
  refine ck_dup (pc := 58) dX9_init_58 ?_
  refine ck_iconst (pc := 59) (v := 1) dX9_init_59 (by decide) ?_
  refine ck_lds (pc := 60) (v := a (1010 + 1)) (fun U h => h.2.2.2) dX9_init_60 ?_
  refine ck_asts (pc := 62) (N := 2) (k := 1) 5 0 hB rfl rfl (by decide) (xin_vp (by decide)) rfl dX9_init_62 ?_
  simp only [List.nil_append, List.cons_append, List.set_cons_succ, List.set_cons_zero, List.append_nil]
  refine ck_putF (pc := 63) (C := RX9) (T := TX9) (N := 24) (fs1 := [.ref q1, .ref q2, .ref q3, .int 0, .ref q4, .ref q5, .ref q6, .int 0, .int 0, .int 0, .int 0, .null, .int 0, .null, .null, .null, .int 0, .int 0, .int 0, .int 0, .null, .null, .null, .null]) tyX9 rfl qU_X9 tyX9_ok nmX9 6 (by decide) qn_F_X9_31 rfl (ty := tyX9 6) (tyX9_ok 6 (by decide)) rfl rfl (Nat.le_of_ble_eq_true rfl) rfl rfl rfl dX9_init_63 ?_
  refine ck_al0 (pc := 66) dX9_init_66 ?_
  refine ck_bipush (pc := 67) (v := 60) dX9_init_67 (by decide) ?_
  refine ck_newa (pc := 69) (N := 60) qn_ai (by decide) (by decide) (by decide) (by decide) (by decide) dX9_init_69 (fun q7 => ?_)
  simp only [List.nil_append, List.cons_append, List.set_cons_succ, List.set_cons_zero, List.append_nil]
  refine ck_putF (pc := 71) (C := RX9) (T := TX9) (N := 24) (fs1 := [.ref q1, .ref q2, .ref q3, .int 0, .ref q4, .ref q5, .ref q6, .int 0, .int 0, .int 0, .int 0, .ref q7, .int 0, .null, .null, .null, .int 0, .int 0, .int 0, .int 0, .null, .null, .null, .null]) tyX9 rfl qU_X9 tyX9_ok nmX9 11 (by decide) qn_F_X9_35 rfl (ty := tyX9 11) (tyX9_ok 11 (by decide)) rfl rfl (Nat.le_of_ble_eq_true rfl) rfl rfl rfl dX9_init_71 ?_
  refine ck_al0 (pc := 74) dX9_init_74 ?_
  refine ck_iconst (pc := 75) (v := 4) dX9_init_75 (by decide) ?_
  refine ck_newa (pc := 76) (N := 4) qn_ai (by decide) (by decide) (by decide) (by decide) (by decide) dX9_init_76 (fun q8 => ?_)
  simp only [List.nil_append, List.cons_append, List.set_cons_succ, List.set_cons_zero, List.append_nil]
  refine ck_putF (pc := 78) (C := RX9) (T := TX9) (N := 24) (fs1 := [.ref q1, .ref q2, .ref q3, .int 0, .ref q4, .ref q5, .ref q6, .int 0, .int 0, .int 0, .int 0, .ref q7, .int 0, .ref q8, .null, .null, .int 0, .int 0, .int 0, .int 0, .null, .null, .null, .null]) tyX9 rfl qU_X9 tyX9_ok nmX9 13 (by decide) qn_F_X9_38 rfl (ty := tyX9 13) (tyX9_ok 13 (by decide)) rfl rfl (Nat.le_of_ble_eq_true rfl) rfl rfl rfl dX9_init_78 ?_
  refine ck_al0 (pc := 81) dX9_init_81 ?_
  refine ck_bipush (pc := 82) (v := 60) dX9_init_82 (by decide) ?_
  refine ck_newa (pc := 84) (N := 60) qn_ai (by decide) (by decide) (by decide) (by decide) (by decide) dX9_init_84 (fun q9 => ?_)
  simp only [List.nil_append, List.cons_append, List.set_cons_succ, List.set_cons_zero, List.append_nil]
  refine ck_putF (pc := 86) (C := RX9) (T := TX9) (N := 24) (fs1 := [.ref q1, .ref q2, .ref q3, .int 0, .ref q4, .ref q5, .ref q6, .int 0, .int 0, .int 0, .int 0, .ref q7, .int 0, .ref q8, .ref q9, .null, .int 0, .int 0, .int 0, .int 0, .null, .null, .null, .null]) tyX9 rfl qU_X9 tyX9_ok nmX9 14 (by decide) qn_F_X9_41 rfl (ty := tyX9 14) (tyX9_ok 14 (by decide)) rfl rfl (Nat.le_of_ble_eq_true rfl) rfl rfl rfl dX9_init_86 ?_
  refine ck_al0 (pc := 89) dX9_init_89 ?_
  refine ck_bipush (pc := 90) (v := 40) dX9_init_90 (by decide) ?_
  refine ck_newa (pc := 92) (N := 40) qn_ai (by decide) (by decide) (by decide) (by decide) (by decide) dX9_init_92 (fun q10 => ?_)
  simp only [List.nil_append, List.cons_append, List.set_cons_succ, List.set_cons_zero, List.append_nil]
  refine ck_putF (pc := 94) (C := RX9) (T := TX9) (N := 24) (fs1 := [.ref q1, .ref q2, .ref q3, .int 0, .ref q4, .ref q5, .ref q6, .int 0, .int 0, .int 0, .int 0, .ref q7, .int 0, .ref q8, .ref q9, .ref q10, .int 0, .int 0, .int 0, .int 0, .null, .null, .null, .null]) tyX9 rfl qU_X9 tyX9_ok nmX9 15 (by decide) qn_F_X9_44 rfl (ty := tyX9 15) (tyX9_ok 15 (by decide)) rfl rfl (Nat.le_of_ble_eq_true rfl) rfl rfl rfl dX9_init_94 ?_
  refine ck_al0 (pc := 97) dX9_init_97 ?_
  refine ck_iconst (pc := 98) (v := 4) dX9_init_98 (by decide) ?_
  refine ck_newa (pc := 99) (N := 4) qn_ai (by decide) (by decide) (by decide) (by decide) (by decide) dX9_init_99 (fun q11 => ?_)
  simp only [List.nil_append, List.cons_append, List.set_cons_succ, List.set_cons_zero, List.append_nil]
  refine ck_putF (pc := 101) (C := RX9) (T := TX9) (N := 24) (fs1 := [.ref q1, .ref q2, .ref q3, .int 0, .ref q4, .ref q5, .ref q6, .int 0, .int 0, .int 0, .int 0, .ref q7, .int 0, .ref q8, .ref q9, .ref q10, .int 0, .int 0, .int 0, .int 0, .ref q11, .null, .null, .null]) tyX9 rfl qU_X9 tyX9_ok nmX9 20 (by decide) qn_F_X9_47 rfl (ty := tyX9 20) (tyX9_ok 20 (by decide)) rfl rfl (Nat.le_of_ble_eq_true rfl) rfl rfl rfl dX9_init_101 ?_
  refine ck_al0 (pc := 104) dX9_init_104 ?_
  refine ck_iconst (pc := 105) (v := 4) dX9_init_105 (by decide) ?_
  refine ck_newa (pc := 106) (N := 4) qn_ai (by decide) (by decide) (by decide) (by decide) (by decide) dX9_init_106 (fun q12 => ?_)
  simp only [List.nil_append, List.cons_append, List.set_cons_succ, List.set_cons_zero, List.append_nil]
  refine ck_putF (pc := 108) (C := RX9) (T := TX9) (N := 24) (fs1 := [.ref q1, .ref q2, .ref q3, .int 0, .ref q4, .ref q5, .ref q6, .int 0, .int 0, .int 0, .int 0, .ref q7, .int 0, .ref q8, .ref q9, .ref q10, .int 0, .int 0, .int 0, .int 0, .ref q11, .ref q12, .null, .null]) tyX9 rfl qU_X9 tyX9_ok nmX9 21 (by decide) qn_F_X9_50 rfl (ty := tyX9 21) (tyX9_ok 21 (by decide)) rfl rfl (Nat.le_of_ble_eq_true rfl) rfl rfl rfl dX9_init_108 ?_
  refine ck_al0 (pc := 111) dX9_init_111 ?_
  refine ck_sipush (pc := 112) (v := 160) dX9_init_112 (by decide) ?_
  refine ck_newa (pc := 115) (N := 160) qn_ai (by decide) (by decide) (by decide) (by decide) (by decide) dX9_init_115 (fun q13 => ?_)
  simp only [List.nil_append, List.cons_append, List.set_cons_succ, List.set_cons_zero, List.append_nil]
  refine ck_putF (pc := 117) (C := RX9) (T := TX9) (N := 24) (fs1 := [.ref q1, .ref q2, .ref q3, .int 0, .ref q4, .ref q5, .ref q6, .int 0, .int 0, .int 0, .int 0, .ref q7, .int 0, .ref q8, .ref q9, .ref q10, .int 0, .int 0, .int 0, .int 0, .ref q11, .ref q12, .ref q13, .null]) tyX9 rfl qU_X9 tyX9_ok nmX9 22 (by decide) qn_F_X9_53 rfl (ty := tyX9 22) (tyX9_ok 22 (by decide)) rfl rfl (Nat.le_of_ble_eq_true rfl) rfl rfl rfl dX9_init_117 ?_
  refine ck_al0 (pc := 120) dX9_init_120 ?_
  refine ck_bipush (pc := 121) (v := 40) dX9_init_121 (by decide) ?_
  refine ck_newa (pc := 123) (N := 40) qn_ai (by decide) (by decide) (by decide) (by decide) (by decide) dX9_init_123 (fun q14 => ?_)
  simp only [List.nil_append, List.cons_append, List.set_cons_succ, List.set_cons_zero, List.append_nil]
  refine ck_putF (pc := 125) (C := RX9) (T := TX9) (N := 24) (fs1 := [.ref q1, .ref q2, .ref q3, .int 0, .ref q4, .ref q5, .ref q6, .int 0, .int 0, .int 0, .int 0, .ref q7, .int 0, .ref q8, .ref q9, .ref q10, .int 0, .int 0, .int 0, .int 0, .ref q11, .ref q12, .ref q13, .ref q14]) tyX9 rfl qU_X9 tyX9_ok nmX9 23 (by decide) qn_F_X9_56 rfl (ty := tyX9 23) (tyX9_ok 23 (by decide)) rfl rfl (Nat.le_of_ble_eq_true rfl) rfl rfl rfl dX9_init_125 ?_
  refine ck_row 5 (g := fun j => ([1010, 1011][j]?).map (fun k => if k < 15 then [h0, q1, q2, q3, q4, q5, q6, q7, q8, q9, q10, q11, q12, q13, q14].getD k 0 else a k)) rfl (funext fun j => ?_) ?_
  · match j with
    | 0 => rfl
    | 1 => rfl
    | j + 2 => rfl
  refine ck_al0 (pc := 128) dX9_init_128 ?_
  refine ck_get (pc := 129) (C := RX9) (T := TX9) (N := 24) rfl qU_X9 0 (by decide) qn_F_X9_9 rfl rfl dX9_init_129 ?_
  refine ck_bipush (pc := 132) (v := 6) dX9_init_132 (by decide) ?_
  refine ck_iconst (pc := 134) (v := 1) dX9_init_134 (by decide) ?_
  refine ck_iast (pc := 135) (N := 242) (jj := 6) 0 rfl (xin_vp (by decide)) (by decide) rfl dX9_init_135 ?_
  simp only [List.nil_append, List.cons_append, List.set_cons_succ, List.set_cons_zero, List.append_nil]
  refine ck_al0 (pc := 136) dX9_init_136 ?_
  refine ck_get (pc := 137) (C := RX9) (T := TX9) (N := 24) rfl qU_X9 0 (by decide) qn_F_X9_9 rfl rfl dX9_init_137 ?_
  refine ck_iconst (pc := 140) (v := 3) dX9_init_140 (by decide) ?_
  refine ck_sipush (pc := 141) (v := 200) dX9_init_141 (by decide) ?_
  refine ck_iast (pc := 144) (N := 242) (jj := 3) 0 rfl (xin_vp (by decide)) (by decide) rfl dX9_init_144 ?_
  simp only [List.nil_append, List.cons_append, List.set_cons_succ, List.set_cons_zero, List.append_nil]
  refine ck_al0 (pc := 145) dX9_init_145 ?_
  refine ck_bipush (pc := 146) (v := 8) dX9_init_146 (by decide) ?_
  exact ck_lastP (pc := 148) (C := "java/lang/String") (ad := (fun k => if k < 15 then [h0, q1, q2, q3, q4, q5, q6, q7, q8, q9, q10, q11, q12, q13, q14].getD k 0 else a k)) (N := 15) (sh := mSh) (σ := mI) (As := [.int 8]) (o := 0) (fun ad cR => kX9_flat l ⟨rfl, rfl⟩ hf) cw_X9_59 (by decide) [0, 1, 2, 3, 4, 5, 6, 7, 8, 9, 10, 11, 12, 13, 14] (by decide) (by rw [rootM]; simp only [List.map_cons, List.map_nil, sgM]; rfl) (fun k hk => (if_neg (by omega)).symm) rfl hB (by decide) rfl rfl rfl rfl (by decide) (by decide) dX9_init_148 dX9_init_151 dX9_init_152
