/-! ===== what the start holds ===== -/
theorem qz_L_X8 : Cond.classLink R_law 7 RX8 ∈ xT := xT_tb (xt_1 (List.mem_of_getElem? (i := 18) (by decide +kernel))) (by decide +kernel)
theorem qz_N_X8 : Cond.instantiable RX8 13 ∈ xT := xT_tb (xt_1 (List.mem_of_getElem? (i := 19) (by decide +kernel))) (by decide +kernel)
theorem qz_M_X8 : Cond.methodLink R_law 9 yX8_init ∈ xT := xT_tb (xt_1 (List.mem_of_getElem? (i := 20) (by decide +kernel))) (by decide +kernel)
theorem qz_I_X8 : Cond.instanceMethod yX8_init ∈ xT := xT_tb (xt_1 (List.mem_of_getElem? (i := 21) (by decide +kernel))) (by decide +kernel)
theorem qz_C_X8 : Cond.code yX8_init cX8_init 1 none ∈ xT := xT_tb (xt_1 (List.mem_of_getElem? (i := 22) rfl)) (by decide +kernel)
theorem qz_J_X8 : Cond.initialized RX8 ∈ xT := xT_tb (xt_1 (List.mem_of_getElem? (i := 1) (by decide +kernel))) (by decide +kernel)
theorem qz_L_X9 : Cond.classLink R_law 10 RX9 ∈ xT := xT_tb (xt_3 (List.mem_of_getElem? (i := 239) (by decide +kernel))) (by decide +kernel)
theorem qz_N_X9 : Cond.instantiable RX9 24 ∈ xT := xT_tb (xt_4 (List.mem_of_getElem? (i := 0) (by decide +kernel))) (by decide +kernel)
theorem qz_M_X9 : Cond.methodLink R_law 12 yX9_init ∈ xT := xT_tb (xt_4 (List.mem_of_getElem? (i := 1) (by decide +kernel))) (by decide +kernel)
theorem qz_I_X9 : Cond.instanceMethod yX9_init ∈ xT := xT_tb (xt_4 (List.mem_of_getElem? (i := 2) (by decide +kernel))) (by decide +kernel)
theorem qz_C_X9 : Cond.code yX9_init cX9_init 1 none ∈ xT := xT_tb (xt_4 (List.mem_of_getElem? (i := 3) rfl)) (by decide +kernel)
theorem qz_J_X9 : Cond.initialized RX9 ∈ xT := xT_tb (xt_1 (List.mem_of_getElem? (i := 10) (by decide +kernel))) (by decide +kernel)
set_option maxRecDepth 20000 in
set_option maxHeartbeats 2000000 in
theorem st_xSt {args : Array Value} {s : State} {A : Nat → Prop} (hgv : (Jvm.Cond.and given_1 narrow_1).before args s = true) (hts : ∀ w ∈ lw_tbl, w.before args s = true) (hA : ∀ a : Nat, a < s.heap.size → ¬ A a) : ∃ a : Nat → Nat, xSt a A s s.heap ∧ vk_R RX9 27 "cyb" (a 1010) s ∧ vk_R RX9 29 "dmh" (a 1011) s := by
  have hs := flat_of_before _ hgv
  have mA : ∀ j, j < 7 → Cond.eq (.elem (Term.static "OldLight" "ABOVE" "[I") (.int (Int32.ofNat j))) (.int (xAbove.getD j 0)) ∈ flatC (Jvm.Cond.and given_1 narrow_1) := by decide +kernel
  obtain ⟨tA, eA, hA'⟩ := va_Tof (tm := (Term.static "OldLight" "ABOVE" "[I")) (ty := .int) (N := 7) (f := fun j => .int (xAbove.getD j 0)) (A := A) (by decide) (hs _ (by decide +kernel)) (va_eqt (hs _ (by decide +kernel))) (fun j hj => va_eqt (hs _ (mA j hj))) hA
  have zA := va_Zof (hts _ (List.mem_append_right _ (xt_2 (List.mem_of_getElem? (i := 175) (by decide +kernel))))) (hts _ (List.mem_append_right _ (xt_1 (List.mem_of_getElem? (i := 1) (by decide +kernel))))) eA hA
  have mB : ∀ j, j < 28 → Cond.eq (.elem (Term.static "OldLight$Speaker" "BODIES" "[I") (.int (Int32.ofNat j))) (.int (xBodies.getD j 0)) ∈ flatC (Jvm.Cond.and given_1 narrow_1) := by decide +kernel
  obtain ⟨tB, eB, hB⟩ := va_Tof (tm := (Term.static "OldLight$Speaker" "BODIES" "[I")) (ty := .int) (N := 28) (f := fun j => .int (xBodies.getD j 0)) (A := A) (by decide) (hs _ (by decide +kernel)) (va_eqt (hs _ (by decide +kernel))) (fun j hj => va_eqt (hs _ (mB j hj))) hA
  have zB := va_Zof (hts _ (List.mem_append_right _ (xt_3 (List.mem_of_getElem? (i := 156) (by decide +kernel))))) (hts _ (List.mem_append_right _ (xt_1 (List.mem_of_getElem? (i := 8) (by decide +kernel))))) eB hA
  have mN : ∀ j, j < 6 → Cond.eq (.elem (Term.static "OldLight$Reader" "NAMES" "[C") (.int (Int32.ofNat j))) (.int (xNames.getD j 0)) ∈ flatC (Jvm.Cond.and given_1 narrow_1) := by decide +kernel
  obtain ⟨tN, eN, hN⟩ := va_Tof (tm := (Term.static "OldLight$Reader" "NAMES" "[C")) (ty := .char) (N := 6) (f := fun j => .int (xNames.getD j 0)) (A := A) (by decide) (hs _ (by decide +kernel)) (va_eqt (hs _ (by decide +kernel))) (fun j hj => va_eqt (hs _ (mN j hj))) hA
  have zN := va_Zof (hts _ (List.mem_append_right _ (xt_3 (List.mem_of_getElem? (i := 2) (by decide +kernel))))) (hts _ (List.mem_append_right _ (xt_1 (List.mem_of_getElem? (i := 7) (by decide +kernel))))) eN hA
  have eC : (Term.static "java/lang/String" "COMPACT_STRINGS" "Z").eval args s none [] s = some (.int 1) := va_eqt (hs _ (by decide +kernel))
  have zC := va_Zof (hts _ (List.mem_append_right _ (xt_4 (List.mem_of_getElem? (i := 166) (by decide +kernel))))) (hts _ (List.mem_append_right _ (xt_1 (List.mem_of_getElem? (i := 13) (by decide +kernel))))) eC hA
  have wS : (Cond.isRef (.static "jdk/internal/util/Preconditions" "SIOOBE_FORMATTER" "Ljava/util/function/BiFunction;")).before args s = true := hs _ (by decide +kernel)
  obtain ⟨n, eS⟩ : ∃ n, (Term.static "jdk/internal/util/Preconditions" "SIOOBE_FORMATTER" "Ljava/util/function/BiFunction;").eval args s none [] s = some (xNv n) := by
    obtain ⟨v, hv, hr⟩ := Cond.isRef_spec (args := args) (first := s) (o := none) (s := s) (idx := []) wS
    cases v with
    | ref q => exact ⟨q + 1, hv⟩
    | null => exact ⟨0, hv⟩
    | _ => cases hr
  have zS := va_Zof (hts _ (List.mem_append_right _ (xt_4 (List.mem_of_getElem? (i := 182) (by decide +kernel))))) (hts _ (List.mem_append_right _ (xt_1 (List.mem_of_getElem? (i := 15) (by decide +kernel))))) eS hA
  have mV : ∀ i, i < 2 → ∀ j, j < ([3, 3] : List Nat).getD i 0 → Cond.eq (.elem (.field (((fun i => Term.string "OldLightModel" (if i = 0 then 27 else 29)) : Nat → Term) i) "java/lang/String" "value" "[B") (.int (Int32.ofNat j))) (.int ((xTx.getD i []).getD j 0)) ∈ flatC (Jvm.Cond.and given_1 narrow_1) := by decide +kernel
  have two : ∀ i : Nat, i < 2 → i = 0 ∨ i = 1 := fun i hi => by omega
  obtain ⟨adK, adV, hV, hE⟩ := vk_Sof (args := args) (s := s) (N := 2) (tm := fun i => Term.string "OldLightModel" (if i = 0 then 27 else 29)) (len := [3, 3]) (byt := xTx) (A := A) (fun i hi => by rcases two i hi with rfl | rfl <;> decide) (fun i hi => by rcases two i hi with rfl | rfl <;> exact hs _ (by decide +kernel)) (fun i hi => by rcases two i hi with rfl | rfl <;> exact hs _ (by decide +kernel)) (fun i hi => by rcases two i hi with rfl | rfl <;> exact hs _ (by decide +kernel)) (fun i hi => by rcases two i hi with rfl | rfl <;> exact hs _ (by decide +kernel)) (fun i hi j hj => hs _ (mV i hi j hj)) (fun i j hi hj hne => by
      rcases two i hi with rfl | rfl <;> rcases two j hj with rfl | rfl
      · exact absurd rfl hne
      · exact Or.inl (hs _ (by decide +kernel))
      · exact Or.inr (hs _ (by decide +kernel))
      · exact absurd rfl hne) hA
  refine ⟨fun k => if k = 1000 then tA else if k = 1001 then tB else if k = 1002 then tN else if k = 1003 then n else if k < 1020 then adK (k - 1010) else adV (k - 1020), ⟨⟨zA, hA'⟩, ⟨zB, hB⟩, ⟨zN, hN⟩, ⟨zC, zS⟩, fun i hi => ?_, fun i j hi hj h => ?_⟩, ?_, ?_⟩
  · rcases two i hi with rfl | rfl
    · exact hV.1 0 (by omega)
    · exact hV.1 1 (by omega)
  · rcases two i hi with rfl | rfl <;> rcases two j hj with rfl | rfl
    · rfl
    · exact hV.2 0 1 (by omega) (by omega) h
    · exact hV.2 1 0 (by omega) (by omega) h
    · rfl
  · exact vk_R.of (hts _ (List.mem_append_right _ (xt_4 (List.mem_of_getElem? (i := 7) (by decide +kernel))))) (hE 0 (by omega))
  · exact vk_R.of (hts _ (List.mem_append_right _ (xt_4 (List.mem_of_getElem? (i := 8) (by decide +kernel))))) (hE 1 (by omega))
theorem st_nest {args : Array Value} {s : State} (hts : ∀ w ∈ lw_tbl, w.before args s = true) : xNw s ∧ ∀ q ∈ cNestM, va_Nw (.methodLinkNest q.1 q.2.1 q.2.2.1 q.2.2.2) s := by
  have h1 : ∀ q ∈ xNestM, Cond.methodLinkNest q.1 q.2.1 q.2.2.1 q.2.2.2 ∈ tables_1 := by decide +kernel
  have h2 : ∀ q ∈ xNestF, Cond.fieldLinkNest q.1 q.2.1 q.2.2.1 q.2.2.2.1 q.2.2.2.2.1 q.2.2.2.2.2 ∈ tables_1 := by decide +kernel
  have h3 : ∀ q ∈ cNestM, Cond.methodLinkNest q.1 q.2.1 q.2.2.1 q.2.2.2 ∈ tables_1 := by decide +kernel
  exact ⟨⟨fun q hq => va_Nw.of rfl (hts _ (List.mem_append_right _ (h1 q hq))), fun q hq => va_Nw.of rfl (hts _ (List.mem_append_right _ (h2 q hq)))⟩, fun q hq => va_Nw.of rfl (hts _ (List.mem_append_right _ (h3 q hq)))⟩
theorem st_K {args : Array Value} {s : State} (hT : ∀ w ∈ xT, w.before args s = true) : ∃ (D : va_G) (kI : ClassId), va_K D vwCl [(kI, .int)] s := by
  have h : ∀ q ∈ vwCl, ∃ r : ClassId × (Nat → Nat), u_Kn s q.1 q.2.1 q.2.2 r.1 r.2 := by
    have f : ∀ {C : String} {T : u_T} {N : Nat}, (∀ w ∈ u_ws C T N, w ∈ xT) → Cond.instantiable C N ∈ xT → ∃ r : ClassId × (Nat → Nat), u_Kn s C T N r.1 r.2 := fun hin hi => by
      obtain ⟨c, i, h⟩ := u_known hT hin (hT _ hi)
      exact ⟨(c, i), h⟩
    exact List.forall_mem_cons.mpr ⟨f qU_X0 qn_N_X0, List.forall_mem_cons.mpr ⟨f qU_X1 qn_N_X1, List.forall_mem_cons.mpr ⟨f qU_X2 qn_N_X2, List.forall_mem_cons.mpr ⟨f qU_X3 qn_N_X3, List.forall_mem_cons.mpr ⟨f qU_X4 qn_N_X4, List.forall_mem_cons.mpr ⟨f qU_X5 qn_N_X5, List.forall_mem_cons.mpr ⟨f qU_X6 qn_N_X6, List.forall_mem_cons.mpr ⟨f qU_X7 qn_N_X7, List.forall_mem_cons.mpr ⟨f qU_X8 qz_N_X8, List.forall_mem_cons.mpr ⟨f qU_X9 qz_N_X9, fun _ h => absurd h List.not_mem_nil⟩⟩⟩⟩⟩⟩⟩⟩⟩⟩
  have g : ∀ k : Nat, ∃ r : ClassId × (Nat → Nat), ∀ q : vw_C, vwCl[k]? = some q → u_Kn s q.1 q.2.1 q.2.2 r.1 r.2 := fun k => by
    cases e : vwCl[k]? with
    | none => exact ⟨(0, fun _ => 0), fun q hq => by cases hq⟩
    | some q =>
      obtain ⟨r, hr⟩ := h q (List.mem_of_getElem? e)
      exact ⟨r, fun q' hq => by cases hq; exact hr⟩
  obtain ⟨c, kA, comp, h1, h2, h3⟩ := Cond.arrayClass_spec (args := args) (first := s) (o := none) (s := s) (idx := []) (type := .int) (hT _ qn_ai)
  refine ⟨(fun k => (Classical.choose (g k)).1, fun k => (Classical.choose (g k)).2), c, fun k q hq => Classical.choose_spec (g k) q hq, fun k q hk => ?_⟩
  match k with
  | 0 => cases hk; exact ⟨fun n z => ⟨fun k h => (by cases h), kA, h2, comp, h3⟩, h1⟩
  | k + 1 => cases hk
/-! ===== the loop ===== -/
theorem lOffs_at : ∀ j, j < 40 → (lOffs.toArray)[j]? = some (lOffs.getD j 0) := by decide
section LW
variable {p : Program} {l : Launch} {e : Env} {s : State} {m : MethodId} {below : List Frame} {meth : Method} {c : Code} {b L : Nat} {xs : Nat → Int32} {G1 G2 : xG} {σ1 σ2 : xS} {k : Nat}
theorem l_len {L k : Nat} (hL : L ≤ 3072) (hk : k ≤ 3078) : Int32.ofNat L - 6 < nI k ↔ L < k + 6 := by
  have e1 : (Int32.ofNat L - 6).toInt = (L : Int) - 6 := by
    have h1 : (Int32.ofNat L).toInt = (L : Int) := nI_toInt (by omega)
    have h2 : (6 : Int32).toInt = 6 := rfl
    rw [i_sub (by rw [h1, h2]; omega) (by rw [h1, h2]; omega), h1, h2]
  rw [Int32.lt_iff_toInt_lt, e1, nI_toInt (by omega)]
  omega
theorem l_switch (hC : lC p s m meth c b L xs G1 G2) (hk : k + 6 ≤ L) (hR : Rel σ1 σ2) (kk : ∀ a b1, Rel a b1 → lw p l e s m below meth c b G1 G2 (nI k) 1468 [] a b1) : lw p l e s m below meth c b G1 G2 (nI k) 27 [] σ1 σ2 := by
  intro H locs ls hl hP1 hP2 hS
  have hL := hC.2.1
  have hbA : ¬ (lFr s) b := Nat.not_le.mpr hC.1.2.2.2.2.2.2.2.1
  refine lv_aload_n (pc := 27) hC.1.1 hC.1.2.1 dL_law_27 rfl (lv_at hl 0 rfl) ?_
  refine lv_iload_n (pc := 28) hC.1.1 hC.1.2.1 dL_law_28 rfl (lv_at hl 3 rfl) ?_
  refine va_sld (pc := 29) (A := lFr s) hC.1.1 hC.1.2.1 hC.1.2.2.2.2.2.2.1 hC.1.2.2.2.2.2.2.2.1 hbA hS (vp_in_nI (by omega) (by omega)) dL_law_29 ?_
  refine lv_bipush (pc := 30) (v := 63) hC.1.1 hC.1.2.1 dL_law_30 (by decide) ?_
  refine lv_iand (pc := 32) hC.1.1 hC.1.2.1 dL_law_32 ?_
  generalize hx : xs (nI k).toNatClampNeg &&& 63 = x
  by_cases h : x.toInt < 0 ∨ 39 < x.toInt
  · exact lv_tableOut (pc := 33) (tgt := 1468) hC.1.1 hC.1.2.1 dL_law_33 h rfl (kk σ1 σ2 hR H locs ls hl hP1 hP2 hS)
  · have hj : x.toInt.toNat < 40 := by omega
    have e1 : (x.toInt - 0).toNat = x.toInt.toNat := by rw [Int.sub_zero]
    refine lv_tableIn (pc := 33) (off := lOffs.getD x.toInt.toNat 0) (tgt := lTg x.toInt.toNat) hC.1.1 hC.1.2.1 dL_law_33 (fun q => h (Or.inl q)) (fun q => h (Or.inr q)) (by rw [e1]; exact lOffs_at _ hj) (lTg_ok _ hj) ?_
    exact lc_all hC hk rfl hR kk _ hj H locs ls hl hP1 hP2 hS
theorem l_top (hC : lC p s m meth c b L xs G1 G2) (hk : k ≤ 3078) (kk : k + 6 ≤ L → lw p l e s m below meth c b G1 G2 (nI k) 27 [] σ1 σ2) : lw p l e s m below meth c b G1 G2 (nI k) 18 [] σ1 σ2 := by
  intro H locs ls hl hP1 hP2 hS
  have hL := hC.2.1
  have hbA : ¬ (lFr s) b := Nat.not_le.mpr hC.1.2.2.2.2.2.2.2.1
  refine lv_iload_n (pc := 18) hC.1.1 hC.1.2.1 dL_law_18 rfl (lv_at hl 3 rfl) ?_
  refine lv_aload_n (pc := 19) hC.1.1 hC.1.2.1 dL_law_19 rfl (lv_at hl 0 rfl) ?_
  refine va_slen (pc := 20) (A := lFr s) hC.1.1 hC.1.2.1 hC.1.2.2.2.2.2.2.1 hC.1.2.2.2.2.2.2.2.1 hbA hS dL_law_20 ?_
  refine lv_bipush (pc := 21) (v := 6) hC.1.1 hC.1.2.1 dL_law_21 (by decide) ?_
  refine lv_isub (pc := 23) hC.1.1 hC.1.2.1 dL_law_23 ?_
  refine lv_icmp_gt (pc := 24) (tgt := 1474) hC.1.1 hC.1.2.1 dL_law_24 (by decide) (fun _ => ?_) (fun h => ?_)
  · refine lv_iconst (pc := 1474) (v := 1) hC.1.1 hC.1.2.1 dL_law_1474 (by decide) ?_
    refine va_forget (fun q hq => hS.2.2 q hq) ?_
    exact lw_ret (pc := 1475) hC.1.1 hC.1.2.1 hC.1.2.2.1 hC.1.2.2.2.2.2.2.2.2.1 dL_law_1475
  · rw [l_len hL hk] at h
    exact kk (by omega) H locs ls hl hP1 hP2 hS
theorem l_loop (hC : lC p s m meth c b L xs G1 G2) : ∀ n k σ1 σ2, L + 1 ≤ k + n → k ≤ 3078 → Rel σ1 σ2 → lw p l e s m below meth c b G1 G2 (nI k) 18 [] σ1 σ2 := by
  intro n
  induction n with
  | zero => intro k σ1 σ2 h1 h2 hR; exact l_top hC h2 (fun h => by omega)
  | succ n ih =>
    intro k σ1 σ2 h1 h2 hR
    refine l_top hC h2 (fun h => l_switch hC h hR (fun a b1 hR1 => ?_))
    intro H locs ls hl hP1 hP2 hS
    have hL := hC.2.1
    refine lv_iinc (pc := 1468) (v := nI (k + 6)) (lv' := [(3, .int (nI (k + 6))), (0, .ref b), (1, .ref (gA G1 0)), (2, .ref (gA G2 0))]) hC.1.1 hC.1.2.1 dL_law_1468 hl (k := 3) rfl (nI_add k 6) (by decide) rfl (fun ls hl => ?_)
    refine lv_goto (pc := 1471) (tgt := 18) hC.1.1 hC.1.2.1 dL_law_1471 (by decide) ?_
    exact ih (k + 6) a b1 (by omega) (by omega) hR1 H locs ls (lv_sub hl [1, 2, 3, 0] rfl) hP1 hP2 hS
end LW
