/-! ===== the constructors of the small classes ===== -/
theorem qn_oi : Cond.instanceMethod objectInit ∈ xT := xT_tb (xt_1 (List.mem_of_getElem? (i := 24) (by decide +kernel))) (by decide +kernel)
theorem qn_oc : Cond.code objectInit ⟨#[0xb1]⟩ 1 none ∈ xT := xT_tb (xt_1 (List.mem_of_getElem? (i := 25) rfl)) (by decide +kernel)
theorem qn_ai : Cond.arrayClass .int ∈ xT := xT_tb (xt_1 (List.mem_of_getElem? (i := 49) (by decide +kernel))) (by decide +kernel)
theorem qn_M_X4 : Cond.methodLink RX4 3 objectInit ∈ xT := xT_tb (xt_1 (List.mem_of_getElem? (i := 37) (by decide +kernel))) (by decide +kernel)
theorem qn_F_X4_9 : Cond.fieldLink RX4 9 "OldLight$Law" "length" "I" ∈ xT := xT_tb (xt_1 (List.mem_of_getElem? (i := 38) (by decide +kernel))) (by decide +kernel)
theorem qn_F_X4_15 : Cond.fieldLink RX4 15 "OldLight$Law" "code" "[I" ∈ xT := xT_tb (xt_1 (List.mem_of_getElem? (i := 40) (by decide +kernel))) (by decide +kernel)
theorem qn_F_X4_19 : Cond.fieldLink RX4 19 "OldLight$Law" "stack" "[I" ∈ xT := xT_tb (xt_1 (List.mem_of_getElem? (i := 41) (by decide +kernel))) (by decide +kernel)
theorem qn_M_X0 : Cond.methodLink RX0 3 objectInit ∈ xT := xT_tb (xt_1 (List.mem_of_getElem? (i := 31) (by decide +kernel))) (by decide +kernel)
theorem qn_F_X0_9 : Cond.fieldLink RX0 9 "OldLight$Bay" "cells" "I" ∈ xT := xT_tb (xt_1 (List.mem_of_getElem? (i := 50) (by decide +kernel))) (by decide +kernel)
theorem qn_F_X0_15 : Cond.fieldLink RX0 15 "OldLight$Bay" "year" "I" ∈ xT := xT_tb (xt_1 (List.mem_of_getElem? (i := 53) (by decide +kernel))) (by decide +kernel)
theorem qn_F_X0_18 : Cond.fieldLink RX0 18 "OldLight$Bay" "back" "I" ∈ xT := xT_tb (xt_1 (List.mem_of_getElem? (i := 56) (by decide +kernel))) (by decide +kernel)
theorem qn_F_X0_21 : Cond.fieldLink RX0 21 "OldLight$Bay" "beam" "I" ∈ xT := xT_tb (xt_1 (List.mem_of_getElem? (i := 58) (by decide +kernel))) (by decide +kernel)
theorem qn_F_X0_24 : Cond.fieldLink RX0 24 "OldLight$Bay" "bed" "[I" ∈ xT := xT_tb (xt_1 (List.mem_of_getElem? (i := 61) (by decide +kernel))) (by decide +kernel)
theorem qn_F_X0_28 : Cond.fieldLink RX0 28 "OldLight$Bay" "from" "[I" ∈ xT := xT_tb (xt_1 (List.mem_of_getElem? (i := 63) (by decide +kernel))) (by decide +kernel)
theorem qn_F_X0_31 : Cond.fieldLink RX0 31 "OldLight$Bay" "till" "[I" ∈ xT := xT_tb (xt_1 (List.mem_of_getElem? (i := 65) (by decide +kernel))) (by decide +kernel)
theorem qn_L_X0_34 : Cond.classLink RX0 34 RX4 ∈ xT := xT_tb (xt_1 (List.mem_of_getElem? (i := 32) (by decide +kernel))) (by decide +kernel)
theorem qn_N_X4 : Cond.instantiable RX4 3 ∈ xT := xT_tb (xt_1 (List.mem_of_getElem? (i := 33) (by decide +kernel))) (by decide +kernel)
theorem qn_J_X4 : Cond.initialized RX4 ∈ xT := xT_tb (xt_1 (List.mem_of_getElem? (i := 3) (by decide +kernel))) (by decide +kernel)
theorem qn_I_X4 : Cond.instanceMethod yX4_init ∈ xT := xT_tb (xt_1 (List.mem_of_getElem? (i := 35) (by decide +kernel))) (by decide +kernel)
theorem qn_C_X4 : Cond.code yX4_init cX4_init 1 none ∈ xT := xT_tb (xt_1 (List.mem_of_getElem? (i := 36) rfl)) (by decide +kernel)
theorem qn_F_X0_37 : Cond.fieldLink RX0 37 "OldLight$Bay" "deepness" "LOldLight$Law;" ∈ xT := xT_tb (xt_1 (List.mem_of_getElem? (i := 67) (by decide +kernel))) (by decide +kernel)
theorem qn_F_X0_41 : Cond.fieldLink RX0 41 "OldLight$Bay" "manner" "LOldLight$Law;" ∈ xT := xT_tb (xt_1 (List.mem_of_getElem? (i := 68) (by decide +kernel))) (by decide +kernel)
theorem qn_M_X1 : Cond.methodLink RX1 3 objectInit ∈ xT := xT_tb (xt_1 (List.mem_of_getElem? (i := 155) (by decide +kernel))) (by decide +kernel)
theorem qn_F_X1_9 : Cond.fieldLink RX1 9 "OldLight$Chart" "beam" "I" ∈ xT := xT_tb (xt_1 (List.mem_of_getElem? (i := 156) (by decide +kernel))) (by decide +kernel)
theorem qn_F_X1_15 : Cond.fieldLink RX1 15 "OldLight$Chart" "cells" "I" ∈ xT := xT_tb (xt_1 (List.mem_of_getElem? (i := 158) (by decide +kernel))) (by decide +kernel)
theorem qn_F_X1_18 : Cond.fieldLink RX1 18 "OldLight$Chart" "truth" "[I" ∈ xT := xT_tb (xt_1 (List.mem_of_getElem? (i := 159) (by decide +kernel))) (by decide +kernel)
theorem qn_F_X1_22 : Cond.fieldLink RX1 22 "OldLight$Chart" "past" "[I" ∈ xT := xT_tb (xt_1 (List.mem_of_getElem? (i := 161) (by decide +kernel))) (by decide +kernel)
theorem qn_F_X1_25 : Cond.fieldLink RX1 25 "OldLight$Chart" "older" "[I" ∈ xT := xT_tb (xt_1 (List.mem_of_getElem? (i := 162) (by decide +kernel))) (by decide +kernel)
theorem qn_M_X2 : Cond.methodLink RX2 3 objectInit ∈ xT := xT_tb (xt_1 (List.mem_of_getElem? (i := 128) (by decide +kernel))) (by decide +kernel)
theorem qn_F_X2_9 : Cond.fieldLink RX2 9 "OldLight$Desk" "z" "I" ∈ xT := xT_tb (xt_1 (List.mem_of_getElem? (i := 129) (by decide +kernel))) (by decide +kernel)
theorem qn_F_X2_15 : Cond.fieldLink RX2 15 "OldLight$Desk" "fed" "I" ∈ xT := xT_tb (xt_1 (List.mem_of_getElem? (i := 131) (by decide +kernel))) (by decide +kernel)
theorem qn_F_X2_18 : Cond.fieldLink RX2 18 "OldLight$Desk" "waiting" "I" ∈ xT := xT_tb (xt_1 (List.mem_of_getElem? (i := 133) (by decide +kernel))) (by decide +kernel)
theorem qn_F_X2_21 : Cond.fieldLink RX2 21 "OldLight$Desk" "tape" "[I" ∈ xT := xT_tb (xt_1 (List.mem_of_getElem? (i := 135) (by decide +kernel))) (by decide +kernel)
theorem qn_F_X2_25 : Cond.fieldLink RX2 25 "OldLight$Desk" "waits" "[I" ∈ xT := xT_tb (xt_1 (List.mem_of_getElem? (i := 137) (by decide +kernel))) (by decide +kernel)
theorem qn_M_X3 : Cond.methodLink RX3 3 objectInit ∈ xT := xT_tb (xt_1 (List.mem_of_getElem? (i := 93) (by decide +kernel))) (by decide +kernel)
theorem qn_F_X3_9 : Cond.fieldLink RX3 9 "OldLight$Fleet" "ships" "I" ∈ xT := xT_tb (xt_1 (List.mem_of_getElem? (i := 94) (by decide +kernel))) (by decide +kernel)
theorem qn_F_X3_15 : Cond.fieldLink RX3 15 "OldLight$Fleet" "hour" "I" ∈ xT := xT_tb (xt_1 (List.mem_of_getElem? (i := 96) (by decide +kernel))) (by decide +kernel)
theorem qn_F_X3_18 : Cond.fieldLink RX3 18 "OldLight$Fleet" "kind" "[I" ∈ xT := xT_tb (xt_1 (List.mem_of_getElem? (i := 98) (by decide +kernel))) (by decide +kernel)
theorem qn_F_X3_22 : Cond.fieldLink RX3 22 "OldLight$Fleet" "m" "[I" ∈ xT := xT_tb (xt_1 (List.mem_of_getElem? (i := 100) (by decide +kernel))) (by decide +kernel)
theorem qn_F_X3_25 : Cond.fieldLink RX3 25 "OldLight$Fleet" "draft" "[I" ∈ xT := xT_tb (xt_1 (List.mem_of_getElem? (i := 102) (by decide +kernel))) (by decide +kernel)
theorem qn_F_X3_28 : Cond.fieldLink RX3 28 "OldLight$Fleet" "at" "[I" ∈ xT := xT_tb (xt_1 (List.mem_of_getElem? (i := 104) (by decide +kernel))) (by decide +kernel)
theorem qn_F_X3_31 : Cond.fieldLink RX3 31 "OldLight$Fleet" "lost" "[I" ∈ xT := xT_tb (xt_1 (List.mem_of_getElem? (i := 106) (by decide +kernel))) (by decide +kernel)
theorem qn_M_X5 : Cond.methodLink RX5 3 objectInit ∈ xT := xT_tb (xt_1 (List.mem_of_getElem? (i := 179) (by decide +kernel))) (by decide +kernel)
theorem qn_F_X5_9 : Cond.fieldLink RX5 9 "OldLight$Reader" "bytes" "[I" ∈ xT := xT_tb (xt_1 (List.mem_of_getElem? (i := 182) (by decide +kernel))) (by decide +kernel)
theorem qn_F_X5_15 : Cond.fieldLink RX5 15 "OldLight$Reader" "length" "I" ∈ xT := xT_tb (xt_1 (List.mem_of_getElem? (i := 183) (by decide +kernel))) (by decide +kernel)
theorem qn_F_X5_19 : Cond.fieldLink RX5 19 "OldLight$Reader" "use" "I" ∈ xT := xT_tb (xt_1 (List.mem_of_getElem? (i := 184) (by decide +kernel))) (by decide +kernel)
theorem qn_F_X5_22 : Cond.fieldLink RX5 22 "OldLight$Reader" "place" "I" ∈ xT := xT_tb (xt_1 (List.mem_of_getElem? (i := 185) (by decide +kernel))) (by decide +kernel)
theorem qn_L_X5_25 : Cond.classLink RX5 25 RX4 ∈ xT := xT_tb (xt_1 (List.mem_of_getElem? (i := 180) (by decide +kernel))) (by decide +kernel)
theorem qn_F_X5_28 : Cond.fieldLink RX5 28 "OldLight$Reader" "law" "LOldLight$Law;" ∈ xT := xT_tb (xt_1 (List.mem_of_getElem? (i := 186) (by decide +kernel))) (by decide +kernel)
theorem qn_M_X6 : Cond.methodLink RX6 3 objectInit ∈ xT := xT_tb (xt_1 (List.mem_of_getElem? (i := 229) (by decide +kernel))) (by decide +kernel)
theorem qn_F_X6_9 : Cond.fieldLink RX6 9 "OldLight$Sheet" "bits" "I" ∈ xT := xT_tb (xt_1 (List.mem_of_getElem? (i := 230) (by decide +kernel))) (by decide +kernel)
theorem qn_F_X6_15 : Cond.fieldLink RX6 15 "OldLight$Sheet" "length" "I" ∈ xT := xT_tb (xt_1 (List.mem_of_getElem? (i := 232) (by decide +kernel))) (by decide +kernel)
theorem qn_F_X6_18 : Cond.fieldLink RX6 18 "OldLight$Sheet" "numbers" "[I" ∈ xT := xT_tb (xt_1 (List.mem_of_getElem? (i := 234) (by decide +kernel))) (by decide +kernel)
theorem qn_M_X7 : Cond.methodLink RX7 3 objectInit ∈ xT := xT_tb (xt_1 (List.mem_of_getElem? (i := 204) (by decide +kernel))) (by decide +kernel)
theorem qn_F_X7_9 : Cond.fieldLink RX7 9 "OldLight$Speaker" "traced" "I" ∈ xT := xT_tb (xt_1 (List.mem_of_getElem? (i := 205) (by decide +kernel))) (by decide +kernel)
theorem qn_F_X7_15 : Cond.fieldLink RX7 15 "OldLight$Speaker" "bodies" "[I" ∈ xT := xT_tb (xt_1 (List.mem_of_getElem? (i := 207) (by decide +kernel))) (by decide +kernel)
theorem qn_F_X7_19 : Cond.fieldLink RX7 19 "OldLight$Speaker" "kind" "I" ∈ xT := xT_tb (xt_1 (List.mem_of_getElem? (i := 209) (by decide +kernel))) (by decide +kernel)
theorem qn_F_X7_22 : Cond.fieldLink RX7 22 "OldLight$Speaker" "number" "I" ∈ xT := xT_tb (xt_1 (List.mem_of_getElem? (i := 210) (by decide +kernel))) (by decide +kernel)
theorem qn_F_X7_25 : Cond.fieldLink RX7 25 "OldLight$Speaker" "m" "I" ∈ xT := xT_tb (xt_1 (List.mem_of_getElem? (i := 211) (by decide +kernel))) (by decide +kernel)
def sgX4 (kI : ClassId) (ad : Nat → Nat) : va_W := [(ad 0, .inr (4, [.int 0, .ref (ad 1), .ref (ad 2)])), (ad 1, .inl (kI, 50, .inl fun _ => 0)), (ad 2, .inl (kI, 50, .inl fun _ => 0))]
theorem dfX4 : ∀ j, j < 3 → defaultValue (tyX4 j) = vp_V [.int 0, .null, .null] j
  | 0, _ => rfl
  | 1, _ => rfl
  | 2, _ => rfl
  | j + 3, h => absurd h (by omega)
set_option maxRecDepth 10000 in
set_option maxHeartbeats 4000000 in
theorem kX4_init (l : Launch) (D : va_G) (kI : ClassId) (a : Nat → Nat) (B : Nat → Prop) (h0 sz : Nat) (hB : ∀ z, cA h0 (.inr (4, [.int 0, .null, .null])) sz z → B z) : cMet l D kI a B 1 2 100 yX4_init cX4_init h0 (.inr (4, [.int 0, .null, .null])) sz (cPost D h0 (.inr (4, [.int 0, .null, .null])) sz (sgX4 kI)) := by
  refine cMet.of (by decide) rfl ?_
  refine ck_al0 (pc := 0) dX4_init_0 ?_
  refine ck_oinit (pc := 1) qn_M_X4 qn_oi qn_oc (by decide) (Nat.le_of_ble_eq_true rfl) dX4_init_1 ?_
  refine ck_al0 (pc := 4) dX4_init_4 ?_
  refine ck_iconst (pc := 5) (v := 0) dX4_init_5 (by decide) ?_
  refine ck_put (pc := 6) (C := RX4) (T := TX4) (N := 3) (fs1 := [.int 0, .null, .null]) tyX4 rfl qU_X4 tyX4_ok nmX4 0 (by decide) qn_F_X4_9 rfl (ty := tyX4 0) (tyX4_ok 0 (by decide)) rfl rfl (Nat.le_of_ble_eq_true rfl) rfl rfl dX4_init_6 ?_
  refine ck_al0 (pc := 9) dX4_init_9 ?_
  refine ck_bipush (pc := 10) (v := 50) dX4_init_10 (by decide) ?_
  refine ck_newa (pc := 12) (N := 50) qn_ai (by decide) (by decide) (by decide) (by decide) (by decide) dX4_init_12 (fun q1 => ?_)
  refine ck_putF (pc := 14) (C := RX4) (T := TX4) (N := 3) (fs1 := [.int 0, .ref q1, .null]) tyX4 rfl qU_X4 tyX4_ok nmX4 1 (by decide) qn_F_X4_15 rfl (ty := tyX4 1) (tyX4_ok 1 (by decide)) rfl rfl (Nat.le_of_ble_eq_true rfl) rfl rfl rfl dX4_init_14 ?_
  refine ck_al0 (pc := 17) dX4_init_17 ?_
  refine ck_bipush (pc := 18) (v := 50) dX4_init_18 (by decide) ?_
  refine ck_newa (pc := 20) (N := 50) qn_ai (by decide) (by decide) (by decide) (by decide) (by decide) dX4_init_20 (fun q2 => ?_)
  refine ck_putF (pc := 22) (C := RX4) (T := TX4) (N := 3) (fs1 := [.int 0, .ref q1, .ref q2]) tyX4 rfl qU_X4 tyX4_ok nmX4 2 (by decide) qn_F_X4_19 rfl (ty := tyX4 2) (tyX4_ok 2 (by decide)) rfl rfl (Nat.le_of_ble_eq_true rfl) rfl rfl rfl dX4_init_22 ?_
  exact ck_ret (pc := 25) (seg := sgX4 kI) (fun k => [h0, q1, q2].getD k 0) rfl rfl (by decide) (by decide) dX4_init_25
def sgX0 (kI : ClassId) (ad : Nat → Nat) : va_W := [(ad 0, .inr (0, [.int 0, .int 200, .int 0, .int 0, .ref (ad 1), .ref (ad 2), .ref (ad 3), .ref (ad 4), .ref (ad 7)])), (ad 1, .inl (kI, 8, .inl fun _ => 0)), (ad 2, .inl (kI, 8, .inl fun _ => 0)), (ad 3, .inl (kI, 8, .inl fun _ => 0)), (ad 4, .inr (4, [.int 0, .ref (ad 5), .ref (ad 6)])), (ad 5, .inl (kI, 50, .inl fun _ => 0)), (ad 6, .inl (kI, 50, .inl fun _ => 0)), (ad 7, .inr (4, [.int 0, .ref (ad 8), .ref (ad 9)])), (ad 8, .inl (kI, 50, .inl fun _ => 0)), (ad 9, .inl (kI, 50, .inl fun _ => 0))]
theorem dfX0 : ∀ j, j < 9 → defaultValue (tyX0 j) = vp_V [.int 0, .int 0, .int 0, .int 0, .null, .null, .null, .null, .null] j
  | 0, _ => rfl
  | 1, _ => rfl
  | 2, _ => rfl
  | 3, _ => rfl
  | 4, _ => rfl
  | 5, _ => rfl
  | 6, _ => rfl
  | 7, _ => rfl
  | 8, _ => rfl
  | j + 9, h => absurd h (by omega)
set_option maxRecDepth 10000 in
set_option maxHeartbeats 4000000 in
theorem kX0_init (l : Launch) (D : va_G) (kI : ClassId) (a : Nat → Nat) (B : Nat → Prop) (h0 sz : Nat) (hB : ∀ z, cA h0 (.inr (0, [.int 0, .int 0, .int 0, .int 0, .null, .null, .null, .null, .null])) sz z → B z) : cMet l D kI a B 2 9 230 yX0_init cX0_init h0 (.inr (0, [.int 0, .int 0, .int 0, .int 0, .null, .null, .null, .null, .null])) sz (cPost D h0 (.inr (0, [.int 0, .int 0, .int 0, .int 0, .null, .null, .null, .null, .null])) sz (sgX0 kI)) := by
  refine cMet.of (by decide) rfl ?_
  refine ck_al0 (pc := 0) dX0_init_0 ?_
  refine ck_oinit (pc := 1) qn_M_X0 qn_oi qn_oc (by decide) (Nat.le_of_ble_eq_true rfl) dX0_init_1 ?_
  refine ck_al0 (pc := 4) dX0_init_4 ?_
  refine ck_iconst (pc := 5) (v := 0) dX0_init_5 (by decide) ?_
  refine ck_put (pc := 6) (C := RX0) (T := TX0) (N := 9) (fs1 := [.int 0, .int 0, .int 0, .int 0, .null, .null, .null, .null, .null]) tyX0 rfl qU_X0 tyX0_ok nmX0 0 (by decide) qn_F_X0_9 rfl (ty := tyX0 0) (tyX0_ok 0 (by decide)) rfl rfl (Nat.le_of_ble_eq_true rfl) rfl rfl dX0_init_6 ?_
  refine ck_al0 (pc := 9) dX0_init_9 ?_
  refine ck_sipush (pc := 10) (v := 200) dX0_init_10 (by decide) ?_
  refine ck_put (pc := 13) (C := RX0) (T := TX0) (N := 9) (fs1 := [.int 0, .int 200, .int 0, .int 0, .null, .null, .null, .null, .null]) tyX0 rfl qU_X0 tyX0_ok nmX0 1 (by decide) qn_F_X0_15 rfl (ty := tyX0 1) (tyX0_ok 1 (by decide)) rfl rfl (Nat.le_of_ble_eq_true rfl) rfl rfl dX0_init_13 ?_
  refine ck_al0 (pc := 16) dX0_init_16 ?_
  refine ck_iconst (pc := 17) (v := 0) dX0_init_17 (by decide) ?_
  refine ck_put (pc := 18) (C := RX0) (T := TX0) (N := 9) (fs1 := [.int 0, .int 200, .int 0, .int 0, .null, .null, .null, .null, .null]) tyX0 rfl qU_X0 tyX0_ok nmX0 2 (by decide) qn_F_X0_18 rfl (ty := tyX0 2) (tyX0_ok 2 (by decide)) rfl rfl (Nat.le_of_ble_eq_true rfl) rfl rfl dX0_init_18 ?_
  refine ck_al0 (pc := 21) dX0_init_21 ?_
  refine ck_iconst (pc := 22) (v := 0) dX0_init_22 (by decide) ?_
  refine ck_put (pc := 23) (C := RX0) (T := TX0) (N := 9) (fs1 := [.int 0, .int 200, .int 0, .int 0, .null, .null, .null, .null, .null]) tyX0 rfl qU_X0 tyX0_ok nmX0 3 (by decide) qn_F_X0_21 rfl (ty := tyX0 3) (tyX0_ok 3 (by decide)) rfl rfl (Nat.le_of_ble_eq_true rfl) rfl rfl dX0_init_23 ?_
  refine ck_al0 (pc := 26) dX0_init_26 ?_
  refine ck_bipush (pc := 27) (v := 8) dX0_init_27 (by decide) ?_
  refine ck_newa (pc := 29) (N := 8) qn_ai (by decide) (by decide) (by decide) (by decide) (by decide) dX0_init_29 (fun q1 => ?_)
  refine ck_putF (pc := 31) (C := RX0) (T := TX0) (N := 9) (fs1 := [.int 0, .int 200, .int 0, .int 0, .ref q1, .null, .null, .null, .null]) tyX0 rfl qU_X0 tyX0_ok nmX0 4 (by decide) qn_F_X0_24 rfl (ty := tyX0 4) (tyX0_ok 4 (by decide)) rfl rfl (Nat.le_of_ble_eq_true rfl) rfl rfl rfl dX0_init_31 ?_
  refine ck_al0 (pc := 34) dX0_init_34 ?_
  refine ck_bipush (pc := 35) (v := 8) dX0_init_35 (by decide) ?_
  refine ck_newa (pc := 37) (N := 8) qn_ai (by decide) (by decide) (by decide) (by decide) (by decide) dX0_init_37 (fun q2 => ?_)
  refine ck_putF (pc := 39) (C := RX0) (T := TX0) (N := 9) (fs1 := [.int 0, .int 200, .int 0, .int 0, .ref q1, .ref q2, .null, .null, .null]) tyX0 rfl qU_X0 tyX0_ok nmX0 5 (by decide) qn_F_X0_28 rfl (ty := tyX0 5) (tyX0_ok 5 (by decide)) rfl rfl (Nat.le_of_ble_eq_true rfl) rfl rfl rfl dX0_init_39 ?_
  refine ck_al0 (pc := 42) dX0_init_42 ?_
  refine ck_bipush (pc := 43) (v := 8) dX0_init_43 (by decide) ?_
  refine ck_newa (pc := 45) (N := 8) qn_ai (by decide) (by decide) (by decide) (by decide) (by decide) dX0_init_45 (fun q3 => ?_)
  refine ck_putF (pc := 47) (C := RX0) (T := TX0) (N := 9) (fs1 := [.int 0, .int 200, .int 0, .int 0, .ref q1, .ref q2, .ref q3, .null, .null]) tyX0 rfl qU_X0 tyX0_ok nmX0 6 (by decide) qn_F_X0_31 rfl (ty := tyX0 6) (tyX0_ok 6 (by decide)) rfl rfl (Nat.le_of_ble_eq_true rfl) rfl rfl rfl dX0_init_47 ?_
  refine ck_al0 (pc := 50) dX0_init_50 ?_
  refine ck_new (pc := 51) (host := "OldLight") (N := 3) (cj := 4) (fs0 := [.int 0, .null, .null]) (seg := sgX4 kI) (ty0 := tyX4) (fun q z hz => kX4_init l D kI a B q z hz) qn_L_X0_34 qn_N_X4 qn_J_X4 (List.mem_of_getElem? (i := 1) rfl) qn_I_X4 qn_C_X4 rfl ⟨rfl, by decide, by decide, by decide +kernel⟩ qU_X4 tyX4_ok rfl dfX4 hB (by decide) (by decide) (by decide) (Nat.le_of_ble_eq_true rfl) dX0_init_51 dX0_init_54 dX0_init_55 (fun d4 => ?_)
  refine ck_putF (pc := 58) (C := RX0) (T := TX0) (N := 9) (fs1 := [.int 0, .int 200, .int 0, .int 0, .ref q1, .ref q2, .ref q3, .ref (d4 0), .null]) tyX0 rfl qU_X0 tyX0_ok nmX0 7 (by decide) qn_F_X0_37 rfl (ty := tyX0 7) (tyX0_ok 7 (by decide)) rfl rfl (Nat.le_of_ble_eq_true rfl) rfl rfl rfl dX0_init_58 ?_
  refine ck_al0 (pc := 61) dX0_init_61 ?_
  refine ck_new (pc := 62) (host := "OldLight") (N := 3) (cj := 4) (fs0 := [.int 0, .null, .null]) (seg := sgX4 kI) (ty0 := tyX4) (fun q z hz => kX4_init l D kI a B q z hz) qn_L_X0_34 qn_N_X4 qn_J_X4 (List.mem_of_getElem? (i := 1) rfl) qn_I_X4 qn_C_X4 rfl ⟨rfl, by decide, by decide, by decide +kernel⟩ qU_X4 tyX4_ok rfl dfX4 hB (by decide) (by decide) (by decide) (Nat.le_of_ble_eq_true rfl) dX0_init_62 dX0_init_65 dX0_init_66 (fun d5 => ?_)
  refine ck_putF (pc := 69) (C := RX0) (T := TX0) (N := 9) (fs1 := [.int 0, .int 200, .int 0, .int 0, .ref q1, .ref q2, .ref q3, .ref (d4 0), .ref (d5 0)]) tyX0 rfl qU_X0 tyX0_ok nmX0 8 (by decide) qn_F_X0_41 rfl (ty := tyX0 8) (tyX0_ok 8 (by decide)) rfl rfl (Nat.le_of_ble_eq_true rfl) rfl rfl rfl dX0_init_69 ?_
  exact ck_ret (pc := 72) (seg := sgX0 kI) (fun k => [h0, q1, q2, q3, d4 0, d4 1, d4 2, d5 0, d5 1, d5 2].getD k 0) rfl rfl (by decide) (by decide) dX0_init_72
def sgX1 (kI : ClassId) (ad : Nat → Nat) : va_W := [(ad 0, .inr (1, [.int 0, .int 0, .ref (ad 1), .ref (ad 2), .ref (ad 3)])), (ad 1, .inl (kI, 8, .inl fun _ => 0)), (ad 2, .inl (kI, 8, .inl fun _ => 0)), (ad 3, .inl (kI, 8, .inl fun _ => 0))]
theorem dfX1 : ∀ j, j < 5 → defaultValue (tyX1 j) = vp_V [.int 0, .int 0, .null, .null, .null] j
  | 0, _ => rfl
  | 1, _ => rfl
  | 2, _ => rfl
  | 3, _ => rfl
  | 4, _ => rfl
  | j + 5, h => absurd h (by omega)
set_option maxRecDepth 10000 in
set_option maxHeartbeats 4000000 in
theorem kX1_init (l : Launch) (D : va_G) (kI : ClassId) (a : Nat → Nat) (B : Nat → Prop) (h0 sz : Nat) (hB : ∀ z, cA h0 (.inr (1, [.int 0, .int 0, .null, .null, .null])) sz z → B z) : cMet l D kI a B 1 3 24 yX1_init cX1_init h0 (.inr (1, [.int 0, .int 0, .null, .null, .null])) sz (cPost D h0 (.inr (1, [.int 0, .int 0, .null, .null, .null])) sz (sgX1 kI)) := by
  refine cMet.of (by decide) rfl ?_
  refine ck_al0 (pc := 0) dX1_init_0 ?_
  refine ck_oinit (pc := 1) qn_M_X1 qn_oi qn_oc (by decide) (Nat.le_of_ble_eq_true rfl) dX1_init_1 ?_
  refine ck_al0 (pc := 4) dX1_init_4 ?_
  refine ck_iconst (pc := 5) (v := 0) dX1_init_5 (by decide) ?_
  refine ck_put (pc := 6) (C := RX1) (T := TX1) (N := 5) (fs1 := [.int 0, .int 0, .null, .null, .null]) tyX1 rfl qU_X1 tyX1_ok nmX1 0 (by decide) qn_F_X1_9 rfl (ty := tyX1 0) (tyX1_ok 0 (by decide)) rfl rfl (Nat.le_of_ble_eq_true rfl) rfl rfl dX1_init_6 ?_
  refine ck_al0 (pc := 9) dX1_init_9 ?_
  refine ck_iconst (pc := 10) (v := 0) dX1_init_10 (by decide) ?_
  refine ck_put (pc := 11) (C := RX1) (T := TX1) (N := 5) (fs1 := [.int 0, .int 0, .null, .null, .null]) tyX1 rfl qU_X1 tyX1_ok nmX1 1 (by decide) qn_F_X1_15 rfl (ty := tyX1 1) (tyX1_ok 1 (by decide)) rfl rfl (Nat.le_of_ble_eq_true rfl) rfl rfl dX1_init_11 ?_
  refine ck_al0 (pc := 14) dX1_init_14 ?_
  refine ck_bipush (pc := 15) (v := 8) dX1_init_15 (by decide) ?_
  refine ck_newa (pc := 17) (N := 8) qn_ai (by decide) (by decide) (by decide) (by decide) (by decide) dX1_init_17 (fun q1 => ?_)
  refine ck_putF (pc := 19) (C := RX1) (T := TX1) (N := 5) (fs1 := [.int 0, .int 0, .ref q1, .null, .null]) tyX1 rfl qU_X1 tyX1_ok nmX1 2 (by decide) qn_F_X1_18 rfl (ty := tyX1 2) (tyX1_ok 2 (by decide)) rfl rfl (Nat.le_of_ble_eq_true rfl) rfl rfl rfl dX1_init_19 ?_
  refine ck_al0 (pc := 22) dX1_init_22 ?_
  refine ck_bipush (pc := 23) (v := 8) dX1_init_23 (by decide) ?_
  refine ck_newa (pc := 25) (N := 8) qn_ai (by decide) (by decide) (by decide) (by decide) (by decide) dX1_init_25 (fun q2 => ?_)
  refine ck_putF (pc := 27) (C := RX1) (T := TX1) (N := 5) (fs1 := [.int 0, .int 0, .ref q1, .ref q2, .null]) tyX1 rfl qU_X1 tyX1_ok nmX1 3 (by decide) qn_F_X1_22 rfl (ty := tyX1 3) (tyX1_ok 3 (by decide)) rfl rfl (Nat.le_of_ble_eq_true rfl) rfl rfl rfl dX1_init_27 ?_
  refine ck_al0 (pc := 30) dX1_init_30 ?_
  refine ck_bipush (pc := 31) (v := 8) dX1_init_31 (by decide) ?_
  refine ck_newa (pc := 33) (N := 8) qn_ai (by decide) (by decide) (by decide) (by decide) (by decide) dX1_init_33 (fun q3 => ?_)
  refine ck_putF (pc := 35) (C := RX1) (T := TX1) (N := 5) (fs1 := [.int 0, .int 0, .ref q1, .ref q2, .ref q3]) tyX1 rfl qU_X1 tyX1_ok nmX1 4 (by decide) qn_F_X1_25 rfl (ty := tyX1 4) (tyX1_ok 4 (by decide)) rfl rfl (Nat.le_of_ble_eq_true rfl) rfl rfl rfl dX1_init_35 ?_
  exact ck_ret (pc := 38) (seg := sgX1 kI) (fun k => [h0, q1, q2, q3].getD k 0) rfl rfl (by decide) (by decide) dX1_init_38
def sgX2 (kI : ClassId) (ad : Nat → Nat) : va_W := [(ad 0, .inr (2, [.int 1, .int 0, .int 0, .ref (ad 1), .ref (ad 2)])), (ad 1, .inl (kI, 50, .inl fun _ => 0)), (ad 2, .inl (kI, 20, .inl fun _ => 0))]
theorem dfX2 : ∀ j, j < 5 → defaultValue (tyX2 j) = vp_V [.int 0, .int 0, .int 0, .null, .null] j
  | 0, _ => rfl
  | 1, _ => rfl
  | 2, _ => rfl
  | 3, _ => rfl
  | 4, _ => rfl
  | j + 5, h => absurd h (by omega)
set_option maxRecDepth 10000 in
set_option maxHeartbeats 4000000 in
theorem kX2_init (l : Launch) (D : va_G) (kI : ClassId) (a : Nat → Nat) (B : Nat → Prop) (h0 sz : Nat) (hB : ∀ z, cA h0 (.inr (2, [.int 0, .int 0, .int 0, .null, .null])) sz z → B z) : cMet l D kI a B 1 2 70 yX2_init cX2_init h0 (.inr (2, [.int 0, .int 0, .int 0, .null, .null])) sz (cPost D h0 (.inr (2, [.int 0, .int 0, .int 0, .null, .null])) sz (sgX2 kI)) := by
  refine cMet.of (by decide) rfl ?_
  refine ck_al0 (pc := 0) dX2_init_0 ?_
  refine ck_oinit (pc := 1) qn_M_X2 qn_oi qn_oc (by decide) (Nat.le_of_ble_eq_true rfl) dX2_init_1 ?_
  refine ck_al0 (pc := 4) dX2_init_4 ?_
  refine ck_iconst (pc := 5) (v := 1) dX2_init_5 (by decide) ?_
  refine ck_put (pc := 6) (C := RX2) (T := TX2) (N := 5) (fs1 := [.int 1, .int 0, .int 0, .null, .null]) tyX2 rfl qU_X2 tyX2_ok nmX2 0 (by decide) qn_F_X2_9 rfl (ty := tyX2 0) (tyX2_ok 0 (by decide)) rfl rfl (Nat.le_of_ble_eq_true rfl) rfl rfl dX2_init_6 ?_
  refine ck_al0 (pc := 9) dX2_init_9 ?_
  refine ck_iconst (pc := 10) (v := 0) dX2_init_10 (by decide) ?_
  refine ck_put (pc := 11) (C := RX2) (T := TX2) (N := 5) (fs1 := [.int 1, .int 0, .int 0, .null, .null]) tyX2 rfl qU_X2 tyX2_ok nmX2 1 (by decide) qn_F_X2_15 rfl (ty := tyX2 1) (tyX2_ok 1 (by decide)) rfl rfl (Nat.le_of_ble_eq_true rfl) rfl rfl dX2_init_11 ?_
  refine ck_al0 (pc := 14) dX2_init_14 ?_
  refine ck_iconst (pc := 15) (v := 0) dX2_init_15 (by decide) ?_
  refine ck_put (pc := 16) (C := RX2) (T := TX2) (N := 5) (fs1 := [.int 1, .int 0, .int 0, .null, .null]) tyX2 rfl qU_X2 tyX2_ok nmX2 2 (by decide) qn_F_X2_18 rfl (ty := tyX2 2) (tyX2_ok 2 (by decide)) rfl rfl (Nat.le_of_ble_eq_true rfl) rfl rfl dX2_init_16 ?_
  refine ck_al0 (pc := 19) dX2_init_19 ?_
  refine ck_bipush (pc := 20) (v := 50) dX2_init_20 (by decide) ?_
  refine ck_newa (pc := 22) (N := 50) qn_ai (by decide) (by decide) (by decide) (by decide) (by decide) dX2_init_22 (fun q1 => ?_)
  refine ck_putF (pc := 24) (C := RX2) (T := TX2) (N := 5) (fs1 := [.int 1, .int 0, .int 0, .ref q1, .null]) tyX2 rfl qU_X2 tyX2_ok nmX2 3 (by decide) qn_F_X2_21 rfl (ty := tyX2 3) (tyX2_ok 3 (by decide)) rfl rfl (Nat.le_of_ble_eq_true rfl) rfl rfl rfl dX2_init_24 ?_
  refine ck_al0 (pc := 27) dX2_init_27 ?_
  refine ck_bipush (pc := 28) (v := 20) dX2_init_28 (by decide) ?_
  refine ck_newa (pc := 30) (N := 20) qn_ai (by decide) (by decide) (by decide) (by decide) (by decide) dX2_init_30 (fun q2 => ?_)
  refine ck_putF (pc := 32) (C := RX2) (T := TX2) (N := 5) (fs1 := [.int 1, .int 0, .int 0, .ref q1, .ref q2]) tyX2 rfl qU_X2 tyX2_ok nmX2 4 (by decide) qn_F_X2_25 rfl (ty := tyX2 4) (tyX2_ok 4 (by decide)) rfl rfl (Nat.le_of_ble_eq_true rfl) rfl rfl rfl dX2_init_32 ?_
  exact ck_ret (pc := 35) (seg := sgX2 kI) (fun k => [h0, q1, q2].getD k 0) rfl rfl (by decide) (by decide) dX2_init_35
def sgX3 (kI : ClassId) (ad : Nat → Nat) : va_W := [(ad 0, .inr (3, [.int 0, .int 0, .ref (ad 1), .ref (ad 2), .ref (ad 3), .ref (ad 4), .ref (ad 5)])), (ad 1, .inl (kI, 7, .inl fun _ => 0)), (ad 2, .inl (kI, 7, .inl fun _ => 0)), (ad 3, .inl (kI, 7, .inl fun _ => 0)), (ad 4, .inl (kI, 7, .inl fun _ => 0)), (ad 5, .inl (kI, 7, .inl fun _ => 0))]
theorem dfX3 : ∀ j, j < 7 → defaultValue (tyX3 j) = vp_V [.int 0, .int 0, .null, .null, .null, .null, .null] j
  | 0, _ => rfl
  | 1, _ => rfl
  | 2, _ => rfl
  | 3, _ => rfl
  | 4, _ => rfl
  | 5, _ => rfl
  | 6, _ => rfl
  | j + 7, h => absurd h (by omega)
set_option maxRecDepth 10000 in
set_option maxHeartbeats 4000000 in
theorem kX3_init (l : Launch) (D : va_G) (kI : ClassId) (a : Nat → Nat) (B : Nat → Prop) (h0 sz : Nat) (hB : ∀ z, cA h0 (.inr (3, [.int 0, .int 0, .null, .null, .null, .null, .null])) sz z → B z) : cMet l D kI a B 1 5 35 yX3_init cX3_init h0 (.inr (3, [.int 0, .int 0, .null, .null, .null, .null, .null])) sz (cPost D h0 (.inr (3, [.int 0, .int 0, .null, .null, .null, .null, .null])) sz (sgX3 kI)) := by
  refine cMet.of (by decide) rfl ?_
  refine ck_al0 (pc := 0) dX3_init_0 ?_
  refine ck_oinit (pc := 1) qn_M_X3 qn_oi qn_oc (by decide) (Nat.le_of_ble_eq_true rfl) dX3_init_1 ?_
  refine ck_al0 (pc := 4) dX3_init_4 ?_
  refine ck_iconst (pc := 5) (v := 0) dX3_init_5 (by decide) ?_
  refine ck_put (pc := 6) (C := RX3) (T := TX3) (N := 7) (fs1 := [.int 0, .int 0, .null, .null, .null, .null, .null]) tyX3 rfl qU_X3 tyX3_ok nmX3 0 (by decide) qn_F_X3_9 rfl (ty := tyX3 0) (tyX3_ok 0 (by decide)) rfl rfl (Nat.le_of_ble_eq_true rfl) rfl rfl dX3_init_6 ?_
  refine ck_al0 (pc := 9) dX3_init_9 ?_
  refine ck_iconst (pc := 10) (v := 0) dX3_init_10 (by decide) ?_
  refine ck_put (pc := 11) (C := RX3) (T := TX3) (N := 7) (fs1 := [.int 0, .int 0, .null, .null, .null, .null, .null]) tyX3 rfl qU_X3 tyX3_ok nmX3 1 (by decide) qn_F_X3_15 rfl (ty := tyX3 1) (tyX3_ok 1 (by decide)) rfl rfl (Nat.le_of_ble_eq_true rfl) rfl rfl dX3_init_11 ?_
  refine ck_al0 (pc := 14) dX3_init_14 ?_
  refine ck_bipush (pc := 15) (v := 7) dX3_init_15 (by decide) ?_
  refine ck_newa (pc := 17) (N := 7) qn_ai (by decide) (by decide) (by decide) (by decide) (by decide) dX3_init_17 (fun q1 => ?_)
  refine ck_putF (pc := 19) (C := RX3) (T := TX3) (N := 7) (fs1 := [.int 0, .int 0, .ref q1, .null, .null, .null, .null]) tyX3 rfl qU_X3 tyX3_ok nmX3 2 (by decide) qn_F_X3_18 rfl (ty := tyX3 2) (tyX3_ok 2 (by decide)) rfl rfl (Nat.le_of_ble_eq_true rfl) rfl rfl rfl dX3_init_19 ?_
  refine ck_al0 (pc := 22) dX3_init_22 ?_
  refine ck_bipush (pc := 23) (v := 7) dX3_init_23 (by decide) ?_
  refine ck_newa (pc := 25) (N := 7) qn_ai (by decide) (by decide) (by decide) (by decide) (by decide) dX3_init_25 (fun q2 => ?_)
  refine ck_putF (pc := 27) (C := RX3) (T := TX3) (N := 7) (fs1 := [.int 0, .int 0, .ref q1, .ref q2, .null, .null, .null]) tyX3 rfl qU_X3 tyX3_ok nmX3 3 (by decide) qn_F_X3_22 rfl (ty := tyX3 3) (tyX3_ok 3 (by decide)) rfl rfl (Nat.le_of_ble_eq_true rfl) rfl rfl rfl dX3_init_27 ?_
  refine ck_al0 (pc := 30) dX3_init_30 ?_
  refine ck_bipush (pc := 31) (v := 7) dX3_init_31 (by decide) ?_
  refine ck_newa (pc := 33) (N := 7) qn_ai (by decide) (by decide) (by decide) (by decide) (by decide) dX3_init_33 (fun q3 => ?_)
  refine ck_putF (pc := 35) (C := RX3) (T := TX3) (N := 7) (fs1 := [.int 0, .int 0, .ref q1, .ref q2, .ref q3, .null, .null]) tyX3 rfl qU_X3 tyX3_ok nmX3 4 (by decide) qn_F_X3_25 rfl (ty := tyX3 4) (tyX3_ok 4 (by decide)) rfl rfl (Nat.le_of_ble_eq_true rfl) rfl rfl rfl dX3_init_35 ?_
  refine ck_al0 (pc := 38) dX3_init_38 ?_
  refine ck_bipush (pc := 39) (v := 7) dX3_init_39 (by decide) ?_
  refine ck_newa (pc := 41) (N := 7) qn_ai (by decide) (by decide) (by decide) (by decide) (by decide) dX3_init_41 (fun q4 => ?_)
  refine ck_putF (pc := 43) (C := RX3) (T := TX3) (N := 7) (fs1 := [.int 0, .int 0, .ref q1, .ref q2, .ref q3, .ref q4, .null]) tyX3 rfl qU_X3 tyX3_ok nmX3 5 (by decide) qn_F_X3_28 rfl (ty := tyX3 5) (tyX3_ok 5 (by decide)) rfl rfl (Nat.le_of_ble_eq_true rfl) rfl rfl rfl dX3_init_43 ?_
  refine ck_al0 (pc := 46) dX3_init_46 ?_
  refine ck_bipush (pc := 47) (v := 7) dX3_init_47 (by decide) ?_
  refine ck_newa (pc := 49) (N := 7) qn_ai (by decide) (by decide) (by decide) (by decide) (by decide) dX3_init_49 (fun q5 => ?_)
  refine ck_putF (pc := 51) (C := RX3) (T := TX3) (N := 7) (fs1 := [.int 0, .int 0, .ref q1, .ref q2, .ref q3, .ref q4, .ref q5]) tyX3 rfl qU_X3 tyX3_ok nmX3 6 (by decide) qn_F_X3_31 rfl (ty := tyX3 6) (tyX3_ok 6 (by decide)) rfl rfl (Nat.le_of_ble_eq_true rfl) rfl rfl rfl dX3_init_51 ?_
  exact ck_ret (pc := 54) (seg := sgX3 kI) (fun k => [h0, q1, q2, q3, q4, q5].getD k 0) rfl rfl (by decide) (by decide) dX3_init_54
def sgX5 (kI : ClassId) (ad : Nat → Nat) : va_W := [(ad 0, .inr (5, [.ref (ad 1), .int 0, .int 0, .int 0, .ref (ad 2)])), (ad 1, .inl (kI, 50, .inl fun _ => 0)), (ad 2, .inr (4, [.int 0, .ref (ad 3), .ref (ad 4)])), (ad 3, .inl (kI, 50, .inl fun _ => 0)), (ad 4, .inl (kI, 50, .inl fun _ => 0))]
theorem dfX5 : ∀ j, j < 5 → defaultValue (tyX5 j) = vp_V [.null, .int 0, .int 0, .int 0, .null] j
  | 0, _ => rfl
  | 1, _ => rfl
  | 2, _ => rfl
  | 3, _ => rfl
  | 4, _ => rfl
  | j + 5, h => absurd h (by omega)
set_option maxRecDepth 10000 in
set_option maxHeartbeats 4000000 in
theorem kX5_init (l : Launch) (D : va_G) (kI : ClassId) (a : Nat → Nat) (B : Nat → Prop) (h0 sz : Nat) (hB : ∀ z, cA h0 (.inr (5, [.null, .int 0, .int 0, .int 0, .null])) sz z → B z) : cMet l D kI a B 2 4 153 yX5_init cX5_init h0 (.inr (5, [.null, .int 0, .int 0, .int 0, .null])) sz (cPost D h0 (.inr (5, [.null, .int 0, .int 0, .int 0, .null])) sz (sgX5 kI)) := by
  refine cMet.of (by decide) rfl ?_
  refine ck_al0 (pc := 0) dX5_init_0 ?_
  refine ck_oinit (pc := 1) qn_M_X5 qn_oi qn_oc (by decide) (Nat.le_of_ble_eq_true rfl) dX5_init_1 ?_
  refine ck_al0 (pc := 4) dX5_init_4 ?_
  refine ck_bipush (pc := 5) (v := 50) dX5_init_5 (by decide) ?_
  refine ck_newa (pc := 7) (N := 50) qn_ai (by decide) (by decide) (by decide) (by decide) (by decide) dX5_init_7 (fun q1 => ?_)
  refine ck_putF (pc := 9) (C := RX5) (T := TX5) (N := 5) (fs1 := [.ref q1, .int 0, .int 0, .int 0, .null]) tyX5 rfl qU_X5 tyX5_ok nmX5 0 (by decide) qn_F_X5_9 rfl (ty := tyX5 0) (tyX5_ok 0 (by decide)) rfl rfl (Nat.le_of_ble_eq_true rfl) rfl rfl rfl dX5_init_9 ?_
  refine ck_al0 (pc := 12) dX5_init_12 ?_
  refine ck_iconst (pc := 13) (v := 0) dX5_init_13 (by decide) ?_
  refine ck_put (pc := 14) (C := RX5) (T := TX5) (N := 5) (fs1 := [.ref q1, .int 0, .int 0, .int 0, .null]) tyX5 rfl qU_X5 tyX5_ok nmX5 1 (by decide) qn_F_X5_15 rfl (ty := tyX5 1) (tyX5_ok 1 (by decide)) rfl rfl (Nat.le_of_ble_eq_true rfl) rfl rfl dX5_init_14 ?_
  refine ck_al0 (pc := 17) dX5_init_17 ?_
  refine ck_iconst (pc := 18) (v := 0) dX5_init_18 (by decide) ?_
  refine ck_put (pc := 19) (C := RX5) (T := TX5) (N := 5) (fs1 := [.ref q1, .int 0, .int 0, .int 0, .null]) tyX5 rfl qU_X5 tyX5_ok nmX5 2 (by decide) qn_F_X5_19 rfl (ty := tyX5 2) (tyX5_ok 2 (by decide)) rfl rfl (Nat.le_of_ble_eq_true rfl) rfl rfl dX5_init_19 ?_
  refine ck_al0 (pc := 22) dX5_init_22 ?_
  refine ck_iconst (pc := 23) (v := 0) dX5_init_23 (by decide) ?_
  refine ck_put (pc := 24) (C := RX5) (T := TX5) (N := 5) (fs1 := [.ref q1, .int 0, .int 0, .int 0, .null]) tyX5 rfl qU_X5 tyX5_ok nmX5 3 (by decide) qn_F_X5_22 rfl (ty := tyX5 3) (tyX5_ok 3 (by decide)) rfl rfl (Nat.le_of_ble_eq_true rfl) rfl rfl dX5_init_24 ?_
  refine ck_al0 (pc := 27) dX5_init_27 ?_
  refine ck_new (pc := 28) (host := "OldLight") (N := 3) (cj := 4) (fs0 := [.int 0, .null, .null]) (seg := sgX4 kI) (ty0 := tyX4) (fun q z hz => kX4_init l D kI a B q z hz) qn_L_X5_25 qn_N_X4 qn_J_X4 (List.mem_of_getElem? (i := 6) rfl) qn_I_X4 qn_C_X4 rfl ⟨rfl, by decide, by decide, by decide +kernel⟩ qU_X4 tyX4_ok rfl dfX4 hB (by decide) (by decide) (by decide) (Nat.le_of_ble_eq_true rfl) dX5_init_28 dX5_init_31 dX5_init_32 (fun d2 => ?_)
  refine ck_putF (pc := 35) (C := RX5) (T := TX5) (N := 5) (fs1 := [.ref q1, .int 0, .int 0, .int 0, .ref (d2 0)]) tyX5 rfl qU_X5 tyX5_ok nmX5 4 (by decide) qn_F_X5_28 rfl (ty := tyX5 4) (tyX5_ok 4 (by decide)) rfl rfl (Nat.le_of_ble_eq_true rfl) rfl rfl rfl dX5_init_35 ?_
  exact ck_ret (pc := 38) (seg := sgX5 kI) (fun k => [h0, q1, d2 0, d2 1, d2 2].getD k 0) rfl rfl (by decide) (by decide) dX5_init_38
def sgX6 (kI : ClassId) (ad : Nat → Nat) : va_W := [(ad 0, .inr (6, [.int 0, .int 0, .ref (ad 1)])), (ad 1, .inl (kI, 40, .inl fun _ => 0))]
theorem dfX6 : ∀ j, j < 3 → defaultValue (tyX6 j) = vp_V [.int 0, .int 0, .null] j
  | 0, _ => rfl
  | 1, _ => rfl
  | 2, _ => rfl
  | j + 3, h => absurd h (by omega)
set_option maxRecDepth 10000 in
set_option maxHeartbeats 4000000 in
theorem kX6_init (l : Launch) (D : va_G) (kI : ClassId) (a : Nat → Nat) (B : Nat → Prop) (h0 sz : Nat) (hB : ∀ z, cA h0 (.inr (6, [.int 0, .int 0, .null])) sz z → B z) : cMet l D kI a B 1 1 40 yX6_init cX6_init h0 (.inr (6, [.int 0, .int 0, .null])) sz (cPost D h0 (.inr (6, [.int 0, .int 0, .null])) sz (sgX6 kI)) := by
  refine cMet.of (by decide) rfl ?_
  refine ck_al0 (pc := 0) dX6_init_0 ?_
  refine ck_oinit (pc := 1) qn_M_X6 qn_oi qn_oc (by decide) (Nat.le_of_ble_eq_true rfl) dX6_init_1 ?_
  refine ck_al0 (pc := 4) dX6_init_4 ?_
  refine ck_iconst (pc := 5) (v := 0) dX6_init_5 (by decide) ?_
  refine ck_put (pc := 6) (C := RX6) (T := TX6) (N := 3) (fs1 := [.int 0, .int 0, .null]) tyX6 rfl qU_X6 tyX6_ok nmX6 0 (by decide) qn_F_X6_9 rfl (ty := tyX6 0) (tyX6_ok 0 (by decide)) rfl rfl (Nat.le_of_ble_eq_true rfl) rfl rfl dX6_init_6 ?_
  refine ck_al0 (pc := 9) dX6_init_9 ?_
  refine ck_iconst (pc := 10) (v := 0) dX6_init_10 (by decide) ?_
  refine ck_put (pc := 11) (C := RX6) (T := TX6) (N := 3) (fs1 := [.int 0, .int 0, .null]) tyX6 rfl qU_X6 tyX6_ok nmX6 1 (by decide) qn_F_X6_15 rfl (ty := tyX6 1) (tyX6_ok 1 (by decide)) rfl rfl (Nat.le_of_ble_eq_true rfl) rfl rfl dX6_init_11 ?_
  refine ck_al0 (pc := 14) dX6_init_14 ?_
  refine ck_bipush (pc := 15) (v := 40) dX6_init_15 (by decide) ?_
  refine ck_newa (pc := 17) (N := 40) qn_ai (by decide) (by decide) (by decide) (by decide) (by decide) dX6_init_17 (fun q1 => ?_)
  refine ck_putF (pc := 19) (C := RX6) (T := TX6) (N := 3) (fs1 := [.int 0, .int 0, .ref q1]) tyX6 rfl qU_X6 tyX6_ok nmX6 2 (by decide) qn_F_X6_18 rfl (ty := tyX6 2) (tyX6_ok 2 (by decide)) rfl rfl (Nat.le_of_ble_eq_true rfl) rfl rfl rfl dX6_init_19 ?_
  exact ck_ret (pc := 22) (seg := sgX6 kI) (fun k => [h0, q1].getD k 0) rfl rfl (by decide) (by decide) dX6_init_22
def sgX7 (kI : ClassId) (ad : Nat → Nat) : va_W := [(ad 0, .inr (7, [.int 0, .ref (ad 1), .int 0, .int 0, .int 0])), (ad 1, .inl (kI, 40, .inl fun _ => 0))]
theorem dfX7 : ∀ j, j < 5 → defaultValue (tyX7 j) = vp_V [.int 0, .null, .int 0, .int 0, .int 0] j
  | 0, _ => rfl
  | 1, _ => rfl
  | 2, _ => rfl
  | 3, _ => rfl
  | 4, _ => rfl
  | j + 5, h => absurd h (by omega)
set_option maxRecDepth 10000 in
set_option maxHeartbeats 4000000 in
theorem kX7_init (l : Launch) (D : va_G) (kI : ClassId) (a : Nat → Nat) (B : Nat → Prop) (h0 sz : Nat) (hB : ∀ z, cA h0 (.inr (7, [.int 0, .null, .int 0, .int 0, .int 0])) sz z → B z) : cMet l D kI a B 1 1 40 yX7_init cX7_init h0 (.inr (7, [.int 0, .null, .int 0, .int 0, .int 0])) sz (cPost D h0 (.inr (7, [.int 0, .null, .int 0, .int 0, .int 0])) sz (sgX7 kI)) := by
  refine cMet.of (by decide) rfl ?_
  refine ck_al0 (pc := 0) dX7_init_0 ?_
  refine ck_oinit (pc := 1) qn_M_X7 qn_oi qn_oc (by decide) (Nat.le_of_ble_eq_true rfl) dX7_init_1 ?_
  refine ck_al0 (pc := 4) dX7_init_4 ?_
  refine ck_iconst (pc := 5) (v := 0) dX7_init_5 (by decide) ?_
  refine ck_put (pc := 6) (C := RX7) (T := TX7) (N := 5) (fs1 := [.int 0, .null, .int 0, .int 0, .int 0]) tyX7 rfl qU_X7 tyX7_ok nmX7 0 (by decide) qn_F_X7_9 rfl (ty := tyX7 0) (tyX7_ok 0 (by decide)) rfl rfl (Nat.le_of_ble_eq_true rfl) rfl rfl dX7_init_6 ?_
  refine ck_al0 (pc := 9) dX7_init_9 ?_
  refine ck_bipush (pc := 10) (v := 40) dX7_init_10 (by decide) ?_
  refine ck_newa (pc := 12) (N := 40) qn_ai (by decide) (by decide) (by decide) (by decide) (by decide) dX7_init_12 (fun q1 => ?_)
  refine ck_putF (pc := 14) (C := RX7) (T := TX7) (N := 5) (fs1 := [.int 0, .ref q1, .int 0, .int 0, .int 0]) tyX7 rfl qU_X7 tyX7_ok nmX7 1 (by decide) qn_F_X7_15 rfl (ty := tyX7 1) (tyX7_ok 1 (by decide)) rfl rfl (Nat.le_of_ble_eq_true rfl) rfl rfl rfl dX7_init_14 ?_
  refine ck_al0 (pc := 17) dX7_init_17 ?_
  refine ck_iconst (pc := 18) (v := 0) dX7_init_18 (by decide) ?_
  refine ck_put (pc := 19) (C := RX7) (T := TX7) (N := 5) (fs1 := [.int 0, .ref q1, .int 0, .int 0, .int 0]) tyX7 rfl qU_X7 tyX7_ok nmX7 2 (by decide) qn_F_X7_19 rfl (ty := tyX7 2) (tyX7_ok 2 (by decide)) rfl rfl (Nat.le_of_ble_eq_true rfl) rfl rfl dX7_init_19 ?_
  refine ck_al0 (pc := 22) dX7_init_22 ?_
  refine ck_iconst (pc := 23) (v := 0) dX7_init_23 (by decide) ?_
  refine ck_put (pc := 24) (C := RX7) (T := TX7) (N := 5) (fs1 := [.int 0, .ref q1, .int 0, .int 0, .int 0]) tyX7 rfl qU_X7 tyX7_ok nmX7 3 (by decide) qn_F_X7_22 rfl (ty := tyX7 3) (tyX7_ok 3 (by decide)) rfl rfl (Nat.le_of_ble_eq_true rfl) rfl rfl dX7_init_24 ?_
  refine ck_al0 (pc := 27) dX7_init_27 ?_
  refine ck_iconst (pc := 28) (v := 0) dX7_init_28 (by decide) ?_
  refine ck_put (pc := 29) (C := RX7) (T := TX7) (N := 5) (fs1 := [.int 0, .ref q1, .int 0, .int 0, .int 0]) tyX7 rfl qU_X7 tyX7_ok nmX7 4 (by decide) qn_F_X7_25 rfl (ty := tyX7 4) (tyX7_ok 4 (by decide)) rfl rfl (Nat.le_of_ble_eq_true rfl) rfl rfl dX7_init_29 ?_
  exact ck_ret (pc := 32) (seg := sgX7 kI) (fun k => [h0, q1].getD k 0) rfl rfl (by decide) (by decide) dX7_init_32
