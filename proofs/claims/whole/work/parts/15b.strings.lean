/-! ===== the two String constants: the JDK's members ===== -/
theorem wk_sval {l : Launch} {G : xG} {n : Nat} {own : String} {cc : ByteArray} {nL : Nat} {ret : Option FieldType} {Φ : Option Value → xS → Prop} {pc : Nat} {lv : List (Nat × Value)} {st : List Value} {σ : xS} {i index : Nat} (hd : decode cc pc = .ok (.getfield index, 3)) (hi : i < 2) (hw : Cond.fieldLink own index "java/lang/String" "value" "[B" ∈ xT) (kk : wk l G n own cc nL ret Φ (pc + 3) lv (.ref (gA G (1020 + i)) :: st) σ) : wk l G n own cc nL ret Φ pc lv (.ref (gA G (1010 + i)) :: st) σ := by
  intro p e s m args below meth c hx hb hr hml ho ht hk hO H locs ls hl hP hS
  exact vk_getf hx hb ((hO.2.2.1.2.2.2.2).1 i hi).2.2.1 hS ho (ht _ hw) (fun _ h => h) hd (kk p e s m args below meth c hx hb hr hml ho ht hk hO H locs ls hl hP hS)
theorem wk_scod {l : Launch} {G : xG} {n : Nat} {own : String} {cc : ByteArray} {nL : Nat} {ret : Option FieldType} {Φ : Option Value → xS → Prop} {pc : Nat} {lv : List (Nat × Value)} {st : List Value} {σ : xS} {i index : Nat} (hd : decode cc pc = .ok (.getfield index, 3)) (hi : i < 2) (hw : Cond.fieldLink own index "java/lang/String" "coder" "B" ∈ xT) (kk : wk l G n own cc nL ret Φ (pc + 3) lv (.int 0 :: st) σ) : wk l G n own cc nL ret Φ pc lv (.ref (gA G (1010 + i)) :: st) σ := by
  intro p e s m args below meth c hx hb hr hml ho ht hk hO H locs ls hl hP hS
  exact vk_getf hx hb ((hO.2.2.1.2.2.2.2).1 i hi).2.1 hS ho (ht _ hw) (fun _ h => h) hd (kk p e s m args below meth c hx hb hr hml ho ht hk hO H locs ls hl hP hS)
theorem wk_slen {l : Launch} {G : xG} {n : Nat} {own : String} {cc : ByteArray} {nL : Nat} {ret : Option FieldType} {Φ : Option Value → xS → Prop} {pc : Nat} {lv : List (Nat × Value)} {st : List Value} {σ : xS} {i : Nat} (hd : decode cc pc = .ok (.arraylength, 1)) (hi : i < 2) (kk : wk l G n own cc nL ret Φ (pc + 1) lv (.int 3 :: st) σ) : wk l G n own cc nL ret Φ pc lv (.ref (gA G (1020 + i)) :: st) σ := by
  intro p e s m args below meth c hx hb hr hml ho ht hk hO H locs ls hl hP hS
  exact va_tlen hx hb ((hO.2.2.1.2.2.2.2).1 i hi).2.2.2 hS (by rcases (show i = 0 ∨ i = 1 by omega) with rfl | rfl <;> rfl) hd (kk p e s m args below meth c hx hb hr hml ho ht hk hO H locs ls hl hP hS)
theorem wk_sbyte {l : Launch} {G : xG} {n : Nat} {own : String} {cc : ByteArray} {nL : Nat} {ret : Option FieldType} {Φ : Option Value → xS → Prop} {pc : Nat} {lv : List (Nat × Value)} {st : List Value} {σ : xS} {i j : Nat} (hd : decode cc pc = .ok (.baload, 1)) (hi : i < 2) (hj : j < 3) (kk : wk l G n own cc nL ret Φ (pc + 1) lv (.int ((xTx.getD i []).getD j 0) :: st) σ) : wk l G n own cc nL ret Φ pc lv (.int (nI j) :: .ref (gA G (1020 + i)) :: st) σ := by
  intro p e s m args below meth c hx hb hr hml ho ht hk hO H locs ls hl hP hS
  have hj3 : xin (nI j) (([3, 3] : List Nat).getD i 0) := by
    rcases (show i = 0 ∨ i = 1 by omega) with rfl | rfl <;> rcases (show j = 0 ∨ j = 1 ∨ j = 2 by omega) with rfl | rfl | rfl <;> decide
  exact va_tb hx hb ((hO.2.2.1.2.2.2.2).1 i hi).2.2.2 hS (xin_vp hj3) (by rw [show (nI j).toNatClampNeg = j from nI_clamp (by omega)]) hd (kk p e s m args below meth c hx hb hr hml ho ht hk hO H locs ls hl hP hS)
theorem wk_getsCS {l : Launch} {G : xG} {n : Nat} {own : String} {cc : ByteArray} {nL : Nat} {ret : Option FieldType} {Φ : Option Value → xS → Prop} {pc : Nat} {lv : List (Nat × Value)} {st : List Value} {σ : xS} {index : Nat} (hd : decode cc pc = .ok (.getstatic index, 3)) (hw : Cond.fieldLink own index "java/lang/String" "COMPACT_STRINGS" "Z" ∈ xT) (kk : wk l G n own cc nL ret Φ (pc + 3) lv (.int 1 :: st) σ) : wk l G n own cc nL ret Φ pc lv st σ := by
  intro p e s m args below meth c hx hb hr hml ho ht hk hO H locs ls hl hP hS
  exact va_gets hx hb hO.2.2.1.2.2.2.1.1 hS ho (ht _ hw) (fun _ h => h) hd (kk p e s m args below meth c hx hb hr hml ho ht hk hO H locs ls hl hP hS)
theorem wk_getsFm {l : Launch} {G : xG} {n : Nat} {own : String} {cc : ByteArray} {nL : Nat} {ret : Option FieldType} {Φ : Option Value → xS → Prop} {pc : Nat} {lv : List (Nat × Value)} {st : List Value} {σ : xS} {index : Nat} (hd : decode cc pc = .ok (.getstatic index, 3)) (hw : Cond.fieldLink own index "jdk/internal/util/Preconditions" "SIOOBE_FORMATTER" "Ljava/util/function/BiFunction;" ∈ xT) (kk : wk l G n own cc nL ret Φ (pc + 3) lv (xNv (gA G 1003) :: st) σ) : wk l G n own cc nL ret Φ pc lv st σ := by
  intro p e s m args below meth c hx hb hr hml ho ht hk hO H locs ls hl hP hS
  exact va_gets hx hb hO.2.2.1.2.2.2.1.2 hS ho (ht _ hw) (fun _ h => h) hd (kk p e s m args below meth c hx hb hr hml ho ht hk hO H locs ls hl hP hS)
theorem wk_scall {l : Launch} {G : xG} {n : Nat} {own : String} {cc : ByteArray} {nL : Nat} {ret : Option FieldType} {Φ Φ' : Option Value → xS → Prop} {pc : Nat} {lv : List (Nat × Value)} {rest : List Value} {σ : xS} {y : MethodName} {cc' : ByteArray} {nL' n' k index : Nat} {ret' : Option FieldType} {i : Nat} {As : List Value} (hM : xMet l G n' y cc' nL' ret' (.ref (gA G (1010 + i)) :: As) σ Φ') (cw : xCV own index y cc' nL' ret' k) (hn : n' + 1 ≤ n) (hd : decode cc pc = .ok (.invokevirtual index, 3)) (hi : i < 2) (hC : "java/lang/String" = y.cls) (hA : As.length = k) (hst : (rest.map fun v => v.category).sum ≤ 8)
    (kk : ∀ (v : Option Value) (σ' : xS), Φ' v σ' → wk l G n own cc nL ret Φ (pc + 3) lv (v.toList ++ rest) σ') : wk l G n own cc nL ret Φ pc lv (As.reverse ++ .ref (gA G (1010 + i)) :: rest) σ := by
  intro p e s m args below meth c hx hb hr hml ho ht hk hO H locs ls hl hP hS
  obtain ⟨⟨hy, hcode, hini, hm⟩, hw1, hw2, hw3⟩ := cw
  obtain ⟨hpb, hpp⟩ := x_pre (av := .ref (gA G (1010 + i)) :: As) hP hO hS
  refine x_run (va_runV (C := y.cls) (mc := 0) (ms := 0) (n := k) (own := own) (Ts := xT) (nL := nL) (rest := rest) ⟨hx, hb, hml, ho, ht⟩ hM ⟨callB_of k ht (xT_GoodIn hcode) rfl rfl rfl (ht _ hini) (ht _ hw1) hy (x_room hn hm), ht _ hw2, ht _ hw3⟩ ⟨hpb, by rw [← hC]; exact vk_recv (i := i) (adK := fun i => gA G (1010 + i)) (adV := fun i => gA G (1020 + i)) hO.2.2.1.2.2.2.2 hi hS, hpp⟩ rfl hA hl.1 rfl (lv_room hst) hd ⟨Nat.le_refl 0, Nat.le_refl 0⟩) hS (fun v σ' H1 locs1 hΦ hP1 hS1 => ?_)
  exact kk v σ' hΦ p e s m args below meth c hx hb hr hml ho ht hk hO H1 locs1 ls hl hP1 hS1
theorem kJ0_coder (l : Launch) {G : xG} {i : Nat} (hi : i < 2) (s : xS) : xMet l G 1 yJ0_coder_7d493 cJ0_coder_7d493 1 (some .byte) [.ref (gA G (1010 + i))] s (xI 0 s) := by
  refine xMet.of (by decide) (Nat.le_of_ble_eq_true rfl) ?_
  show wk l G 1 RJ0 cJ0_coder_7d493 1 (some .byte) (xI 0 s) 0 [(0, .ref (gA G (1010 + i)))] [] s
  refine wk_getsCS (pc := 0) dJ0_coder_7d493_0 qF_J0_38 ?_
  refine wk_if_eq_m (pc := 3) (tgt := 13) dJ0_coder_7d493_3 rfl (by decide) ?_
  refine wk_aload_n (pc := 6) dJ0_coder_7d493_6 rfl 0 rfl ?_
  refine wk_scod (pc := 7) dJ0_coder_7d493_7 hi qF_J0_15 ?_
  refine wk_goto (pc := 10) (tgt := 14) dJ0_coder_7d493_10 rfl ?_
  exact wk_zret (pc := 14) dJ0_coder_7d493_14 rfl rfl ⟨rfl, rfl⟩
theorem kJ0_isLatin1 (l : Launch) {G : xG} {i : Nat} (hi : i < 2) (s : xS) : xMet l G 1 yJ0_isLatin1_aae02 cJ0_isLatin1_aae02 1 (some .boolean) [.ref (gA G (1010 + i))] s (xI 1 s) := by
  refine xMet.of (by decide) (Nat.le_of_ble_eq_true rfl) ?_
  show wk l G 1 RJ0 cJ0_isLatin1_aae02 1 (some .boolean) (xI 1 s) 0 [(0, .ref (gA G (1010 + i)))] [] s
  refine wk_getsCS (pc := 0) dJ0_isLatin1_aae02_0 qF_J0_38 ?_
  refine wk_if_eq_m (pc := 3) (tgt := 17) dJ0_isLatin1_aae02_3 rfl (by decide) ?_
  refine wk_aload_n (pc := 6) dJ0_isLatin1_aae02_6 rfl 0 rfl ?_
  refine wk_scod (pc := 7) dJ0_isLatin1_aae02_7 hi qF_J0_15 ?_
  refine wk_if_ne_p (pc := 10) (tgt := 17) dJ0_isLatin1_aae02_10 rfl rfl ?_
  refine wk_iconst (pc := 13) (v := (1 : Int32)) dJ0_isLatin1_aae02_13 (by decide) ?_
  refine wk_goto (pc := 14) (tgt := 18) dJ0_isLatin1_aae02_14 rfl ?_
  exact wk_zret (pc := 18) dJ0_isLatin1_aae02_18 rfl rfl ⟨rfl, rfl⟩
theorem kJ0_length (l : Launch) {G : xG} {i : Nat} (hi : i < 2) (s : xS) : xMet l G 2 yJ0_length_8abf5 cJ0_length_8abf5 1 (some .int) [.ref (gA G (1010 + i))] s (xI 3 s) := by
  refine xMet.of (by decide) (Nat.le_of_ble_eq_true rfl) ?_
  show wk l G 2 RJ0 cJ0_length_8abf5 1 (some .int) (xI 3 s) 0 [(0, .ref (gA G (1010 + i)))] [] s
  refine wk_aload_n (pc := 0) dJ0_length_8abf5_0 rfl 0 rfl ?_
  refine wk_sval (pc := 1) dJ0_length_8abf5_1 hi qF_J0_9 ?_
  refine wk_slen (pc := 4) dJ0_length_8abf5_4 hi ?_
  refine wk_aload_n (pc := 5) dJ0_length_8abf5_5 rfl 0 rfl ?_
  refine wk_scall (pc := 6) (As := []) (rest := [.int 3]) (kJ0_coder l hi s) cw_J0_335 (by omega) dJ0_length_8abf5_6 hi rfl rfl (by decide) (fun v σ' h => ?_)
  obtain ⟨rfl, rfl⟩ := h
  refine wk_ishr (pc := 9) dJ0_length_8abf5_9 ?_
  exact wk_iret (pc := 10) dJ0_length_8abf5_10 rfl ⟨rfl, rfl⟩
theorem kJ3_checkIndex (l : Launch) {G : xG} {j : Nat} (hj : j < 3) {v : Value} (hv : v = .null ∨ ∃ r, v = .ref r) (s : xS) : xMet l G 1 yJ3_checkIndex_8e157 cJ3_checkIndex_8e157 3 (some .int) [.int (nI j), .int 3, v] s (xI (nI j) s) := by
  have h1 : ¬ nI j < 0 ∧ nI j < 3 := by rcases (show j = 0 ∨ j = 1 ∨ j = 2 by omega) with rfl | rfl | rfl <;> decide
  rcases hv with rfl | ⟨r, rfl⟩
  · refine xMet.of (by decide) (Nat.le_of_ble_eq_true rfl) ?_
    show wk l G 1 RJ3 cJ3_checkIndex_8e157 3 (some .int) (xI (nI j) s) 0 [(0, .int (nI j)), (1, .int 3), (2, .null)] [] s
    refine wk_iload_n (pc := 0) dJ3_checkIndex_8e157_0 rfl 0 rfl ?_
    refine wk_if_lt_m (pc := 1) (tgt := 9) dJ3_checkIndex_8e157_1 rfl h1.1 ?_
    refine wk_iload_n (pc := 4) dJ3_checkIndex_8e157_4 rfl 0 rfl ?_
    refine wk_iload_n (pc := 5) dJ3_checkIndex_8e157_5 rfl 1 rfl ?_
    refine wk_icmp_lt_p (pc := 6) (tgt := 16) dJ3_checkIndex_8e157_6 rfl h1.2 ?_
    refine wk_iload_n (pc := 16) dJ3_checkIndex_8e157_16 rfl 0 rfl ?_
    exact wk_iret (pc := 17) dJ3_checkIndex_8e157_17 rfl ⟨rfl, rfl⟩
  · refine xMet.of (by decide) (Nat.le_of_ble_eq_true rfl) ?_
    show wk l G 1 RJ3 cJ3_checkIndex_8e157 3 (some .int) (xI (nI j) s) 0 [(0, .int (nI j)), (1, .int 3), (2, .ref r)] [] s
    refine wk_iload_n (pc := 0) dJ3_checkIndex_8e157_0 rfl 0 rfl ?_
    refine wk_if_lt_m (pc := 1) (tgt := 9) dJ3_checkIndex_8e157_1 rfl h1.1 ?_
    refine wk_iload_n (pc := 4) dJ3_checkIndex_8e157_4 rfl 0 rfl ?_
    refine wk_iload_n (pc := 5) dJ3_checkIndex_8e157_5 rfl 1 rfl ?_
    refine wk_icmp_lt_p (pc := 6) (tgt := 16) dJ3_checkIndex_8e157_6 rfl h1.2 ?_
    refine wk_iload_n (pc := 16) dJ3_checkIndex_8e157_16 rfl 0 rfl ?_
    exact wk_iret (pc := 17) dJ3_checkIndex_8e157_17 rfl ⟨rfl, rfl⟩
theorem kJ0_checkIndex (l : Launch) {G : xG} {j : Nat} (hj : j < 3) (s : xS) : xMet l G 2 yJ0_checkIndex_df160 cJ0_checkIndex_df160 2 none [.int (nI j), .int 3] s (xU s) := by
  refine xMet.of (by decide) (Nat.le_of_ble_eq_true rfl) ?_
  show wk l G 2 RJ0 cJ0_checkIndex_df160 2 none (xU s) 0 [(0, .int (nI j)), (1, .int 3)] [] s
  refine wk_iload_n (pc := 0) dJ0_checkIndex_df160_0 rfl 0 rfl ?_
  refine wk_iload_n (pc := 1) dJ0_checkIndex_df160_1 rfl 1 rfl ?_
  refine wk_getsFm (pc := 2) dJ0_checkIndex_df160_2 qF_J0_1053 ?_
  obtain hv := xNv_or (gA G 1003)
  generalize xNv (gA G 1003) = v at hv ⊢
  rcases id hv with e | ⟨r, e⟩ <;> subst e
  · refine wk_callSI (pc := 5) (As := [.int (nI j), .int 3, .null]) (rest := []) (kJ3_checkIndex l hj hv s) cw_J0_1059 (by omega) dJ0_checkIndex_df160_5 rfl (by decide) ?_
    refine wk_pop (pc := 8) dJ0_checkIndex_df160_8 rfl ?_
    exact wk_vret (pc := 9) dJ0_checkIndex_df160_9 rfl ⟨rfl, rfl⟩
  · refine wk_callSI (pc := 5) (As := [.int (nI j), .int 3, .ref r]) (rest := []) (kJ3_checkIndex l hj hv s) cw_J0_1059 (by omega) dJ0_checkIndex_df160_5 rfl (by decide) ?_
    refine wk_pop (pc := 8) dJ0_checkIndex_df160_8 rfl ?_
    exact wk_vret (pc := 9) dJ0_checkIndex_df160_9 rfl ⟨rfl, rfl⟩
theorem tx_char : ∀ i, i < 2 → ∀ j, j < 3 → (((xTx.getD i []).getD j 0 &&& 255).toUInt32 % 65536).toInt32 = (xTx.getD i []).getD j 0 ∧ narrow .char (.int ((xTx.getD i []).getD j 0)) = .int ((xTx.getD i []).getD j 0) := by
  intro i hi j hj
  rcases (show i = 0 ∨ i = 1 by omega) with rfl | rfl <;> rcases (show j = 0 ∨ j = 1 ∨ j = 2 by omega) with rfl | rfl | rfl <;> exact ⟨by decide, rfl⟩
theorem kJ1_charAt (l : Launch) {G : xG} {i j : Nat} (hi : i < 2) (hj : j < 3) (s : xS) : xMet l G 3 yJ1_charAt_3b067 cJ1_charAt_3b067 2 (some .char) [.ref (gA G (1020 + i)), .int (nI j)] s (xI ((xTx.getD i []).getD j 0) s) := by
  obtain ⟨h1, h2⟩ := tx_char i hi j hj
  refine xMet.of (by decide) (Nat.le_of_ble_eq_true rfl) ?_
  show wk l G 3 RJ1 cJ1_charAt_3b067 2 (some .char) (xI ((xTx.getD i []).getD j 0) s) 0 [(0, .ref (gA G (1020 + i))), (1, .int (nI j))] [] s
  refine wk_iload_n (pc := 0) dJ1_charAt_3b067_0 rfl 1 rfl ?_
  refine wk_aload_n (pc := 1) dJ1_charAt_3b067_1 rfl 0 rfl ?_
  refine wk_slen (pc := 2) dJ1_charAt_3b067_2 hi ?_
  refine wk_callSU (pc := 3) (As := [.int (nI j), .int 3]) (rest := []) (kJ0_checkIndex l hj s) cw_J1_9 (by omega) dJ1_charAt_3b067_3 rfl (by decide) ?_
  refine wk_aload_n (pc := 6) dJ1_charAt_3b067_6 rfl 0 rfl ?_
  refine wk_iload_n (pc := 7) dJ1_charAt_3b067_7 rfl 1 rfl ?_
  refine wk_sbyte (pc := 8) dJ1_charAt_3b067_8 hi hj ?_
  refine wk_sipush (pc := 9) (v := (255 : Int32)) dJ1_charAt_3b067_9 (by decide) ?_
  refine wk_iand (pc := 12) dJ1_charAt_3b067_12 ?_
  refine wk_i2c (pc := 13) dJ1_charAt_3b067_13 ?_
  rw [h1]
  exact wk_zret (pc := 14) dJ1_charAt_3b067_14 rfl h2 ⟨rfl, rfl⟩
theorem kJ0_charAt (l : Launch) {G : xG} {i j : Nat} (hi : i < 2) (hj : j < 3) (s : xS) : xMet l G 4 yJ0_charAt_5068e cJ0_charAt_5068e 2 (some .char) [.ref (gA G (1010 + i)), .int (nI j)] s (xI ((xTx.getD i []).getD j 0) s) := by
  refine xMet.of (by decide) (Nat.le_of_ble_eq_true rfl) ?_
  show wk l G 4 RJ0 cJ0_charAt_5068e 2 (some .char) (xI ((xTx.getD i []).getD j 0) s) 0 [(0, .ref (gA G (1010 + i))), (1, .int (nI j))] [] s
  refine wk_aload_n (pc := 0) dJ0_charAt_5068e_0 rfl 0 rfl ?_
  refine wk_scall (pc := 1) (As := []) (rest := []) (kJ0_isLatin1 l hi s) cw_J0_492 (by omega) dJ0_charAt_5068e_1 hi rfl rfl (by decide) (fun v σ' h => ?_)
  obtain ⟨rfl, rfl⟩ := h
  refine wk_if_eq_m (pc := 4) (tgt := 16) dJ0_charAt_5068e_4 rfl (by decide) ?_
  refine wk_aload_n (pc := 7) dJ0_charAt_5068e_7 rfl 0 rfl ?_
  refine wk_sval (pc := 8) dJ0_charAt_5068e_8 hi qF_J0_9 ?_
  refine wk_iload_n (pc := 11) dJ0_charAt_5068e_11 rfl 1 rfl ?_
  refine wk_callSI (pc := 12) (As := [.ref (gA G (1020 + i)), .int (nI j)]) (rest := []) (kJ1_charAt l hi hj _) cw_J0_495 (by omega) dJ0_charAt_5068e_12 rfl (by decide) ?_
  exact wk_zret (pc := 15) dJ0_charAt_5068e_15 rfl (tx_char i hi j hj).2 ⟨rfl, rfl⟩
theorem xin_ex {x : Int32} {n : Nat} (hn : n < 2147483648) (h : xin x n) : ∃ j, j < n ∧ x = nI j ∧ x.toNatClampNeg = j := by
  obtain ⟨h1, h2⟩ := h
  have e : ((x.toInt.toNat : Nat) : Int) = x.toInt := Int.toNat_of_nonneg h1
  refine ⟨x.toInt.toNat, by omega, ?_, rfl⟩
  apply Int32.toInt_inj.mp
  rw [nI_toInt (by omega), e]
theorem wk_strlen {l : Launch} {G : xG} {n : Nat} {own : String} {cc : ByteArray} {nL : Nat} {ret : Option FieldType} {Φ : Option Value → xS → Prop} {pc : Nat} {lv : List (Nat × Value)} {st : List Value} {σ : xS} {i : Int32} {index : Nat} (hd : decode cc pc = .ok (.invokevirtual index, 3)) (hi : xin i 2) (cw : xCV own index yJ0_length_8abf5 cJ0_length_8abf5 1 (some .int) 0) (hn : 6 ≤ n) (hst : (st.map fun v => v.category).sum ≤ 8) (kk : wk l G n own cc nL ret Φ (pc + 3) lv (.int 3 :: st) σ) : wk l G n own cc nL ret Φ pc lv (.ref (gA G (1010 + i.toNatClampNeg)) :: st) σ := by
  obtain ⟨k, hk, rfl, e⟩ := xin_ex (by omega) hi
  rw [e]
  refine wk_scall (As := []) (rest := st) (kJ0_length l hk σ) cw (by omega) hd hk rfl rfl hst (fun v σ' h => ?_)
  obtain ⟨rfl, rfl⟩ := h
  exact kk
theorem wk_charAt {l : Launch} {G : xG} {n : Nat} {own : String} {cc : ByteArray} {nL : Nat} {ret : Option FieldType} {Φ : Option Value → xS → Prop} {pc : Nat} {lv : List (Nat × Value)} {st : List Value} {σ : xS} {i j : Int32} {index : Nat} (hd : decode cc pc = .ok (.invokevirtual index, 3)) (hi : xin i 2) (hj : xin j 3) (cw : xCV own index yJ0_charAt_5068e cJ0_charAt_5068e 2 (some .char) 1) (hn : 6 ≤ n) (hst : (st.map fun v => v.category).sum ≤ 8) (kk : wk l G n own cc nL ret Φ (pc + 3) lv (.int ((xTx.getD i.toNatClampNeg []).getD j.toNatClampNeg 0) :: st) σ) : wk l G n own cc nL ret Φ pc lv (.int j :: .ref (gA G (1010 + i.toNatClampNeg)) :: st) σ := by
  obtain ⟨k, hk, rfl, e⟩ := xin_ex (by omega) hi
  obtain ⟨q, hq, rfl, f⟩ := xin_ex (by omega) hj
  rw [e]
  rw [e, f] at kk
  refine wk_scall (As := [.int (nI q)]) (rest := st) (kJ0_charAt l hk hq σ) cw (by omega) hd hk rfl rfl hst (fun v σ' h => ?_)
  obtain ⟨rfl, rfl⟩ := h
  exact kk
