/-! THE CLAIM OUT OF ONE WALK OF THE LAW'S BODY. Your part is whole_start (and what it stands on); all else here is the same for every law, but numbers. -/
def R_law : String := "OldLightLaw"
def lw_P (b : Addr) (xs : List Int32) (args : Array Value) (s : State) : Prop := args = #[.ref b] ∧ s.IntsAt b xs ∧ xs.length ≤ 3072 ∧ (Jvm.Cond.and given_1 narrow_1).before args s = true
def lw_Q (_ : Array Value) (s : State) (o : Outcome) (t : State) : Prop := o = .returned (some (.int 1)) ∧ Framed s o t [] 600000 7302250
def lw_Z (below : List Frame) (a : Array Value) (s : State) : State → Prop := fun t => ∃ o, t.status = .running ∧ Ended t below o ∧ lw_Q a s o t
/-- the law's own end, with 1 on the stack, nothing written that was there before, its room as the claim has it -/
theorem lw_ret {p : Program} {l : Launch} {e : Env} {s : State} {m : MethodId} {below : List Frame} {meth : Method} {c : Code} {b : Nat} (hx : p.tables.exec = Jvm.exec) (hb : c.code = code) (hr : meth.sig.returnType = ret) (hlocks : meth.locks = false) {pc : Nat} {H : Heap} {ls : Array Slot} (hdg : decode code pc = .ok (.ireturn, 1)) : W p l e room_1 s m #[Value.ref b] below meth c H [] 600000 7302250 (lw_Z below #[Value.ref b] s) (F0 m pc ls [.int 1]) := by
  intro T hT X
  obtain ⟨fs, hret, hrun, hended, hW, hframe⟩ := X.leave (v := some (.int 1)) (hlocks := hlocks) (fun h => by rw [hr] at h; cases h)
  have hmeth' : T.vm.method? m = some meth := X.method'
  refine ⟨T.setFrames fs, ?_, .returned (some (.int 1)), hrun, hended, rfl, ⟨_, rfl⟩, hW, hframe⟩
  jvm_step X.here [X.here.top, hx, hb, hdg, hmeth', hr, ret, narrow_b1]
  (try refine ⟨rfl, ?_⟩); (try refine ⟨rfl, ?_⟩)
  first | (intro acts; rw [hret _ acts rfl rfl rfl]) | rw [hret _ _ rfl rfl rfl]
  exact Steps.refl _
/-- what holds at the law's entry: the machine, the code, the tables' words (any of lw_tbl by 'hts w (by decide +kernel)'), the script of L ints xs at the cell b, what the Statement gives of the start (any of its parts by flat_of_before) -/
def lw_At (p : Program) (s : State) (m : MethodId) (meth : Method) (c : Code) (b L : Nat) (xs : Nat → Int32) : Prop :=
  p.tables.exec = Jvm.exec ∧ c.code = code ∧ meth.sig.returnType = ret ∧ c.maxLocals = 4 ∧ s.vm.findClass R_law = some m.cls ∧ (∀ w ∈ lw_tbl, w.before #[Value.ref b] s = true) ∧ va_X b L xs s s.heap ∧ b < s.heap.size ∧ meth.locks = false ∧ (Jvm.Cond.and given_1 narrow_1).before #[Value.ref b] s = true
/-! ===== the law's walk: two worlds in one heap, the script beside them ===== -/
def lFr (s : State) : Nat → Prop := fun q => s.heap.size ≤ q
def lB (G : xG) (s : State) : Prop := va_K (gD G) vwCl (gT G) s ∧ xInj G ∧ xSt (gA G) (lFr s) s s.heap ∧ xNw s ∧ ∀ q, gF G q → lFr s q
theorem lB.ok {G : xG} {s : State} {H : Heap} {locs : List Loc} (h : lB G s) (hS : va_S (lFr s) s.heap H locs) : xOk G s H := ⟨h.1, h.2.1, (h.2.2.1.kept hS.2.1).narrow h.2.2.2.2, h.2.2.2.1⟩
def lw (p : Program) (l : Launch) (e : Env) (s : State) (m : MethodId) (below : List Frame) (meth : Method) (c : Code) (b : Nat) (G1 G2 : xG) (i : Int32) (pc : Nat) (st : List Value) (σ1 σ2 : xS) : Prop :=
  ∀ (H : Heap) (locs : List Loc) (ls : Array Slot), lv_has ls 4 [(0, .ref b), (1, .ref (gA G1 0)), (2, .ref (gA G2 0)), (3, .int i)] → xPic G1 σ1 H → xPic G2 σ2 H → va_S (lFr s) s.heap H locs →
    W p l e room_1 s m #[Value.ref b] below meth c H locs 600000 7302250 (lw_Z below #[Value.ref b] s) (F0 m pc ls st)
def lC (p : Program) (s : State) (m : MethodId) (meth : Method) (c : Code) (b L : Nat) (xs : Nat → Int32) (G1 G2 : xG) : Prop :=
  lw_At p s m meth c b L xs ∧ L ≤ 3072 ∧ (∀ w ∈ xT, w.before #[Value.ref b] s = true) ∧ lB G1 s ∧ lB G2 s ∧ xC1 G1 ∧ xM1 G2 ∧ ∀ q, gF G1 q → ¬ gF G2 q
theorem xPic_off {G : xG} {σ : xS} {H H1 : Heap} {B : Nat → Prop} (h : xPic G σ H) (hq : ∀ q : Nat, q < H.size → ¬ B q → H1[q]? = H[q]?) (hd : ∀ q, gF G q → ¬ B q) : xPic G σ H1 := by
  refine va_P.kept h (fun k q hk => hq q.1 (h k q hk).lt (hd _ ?_))
  have hk' : k < gN G := by have := (List.getElem?_eq_some_iff.mp hk).1; simpa [xW] using this
  rw [xW_at hk'] at hk
  cases hk
  exact ⟨k, hk', rfl⟩
section LW
variable {p : Program} {l : Launch} {e : Env} {s : State} {m : MethodId} {below : List Frame} {meth : Method} {c : Code} {b L : Nat} {xs : Nat → Int32} {G1 G2 : xG} {i : Int32} {pc : Nat} {st : List Value} {σ1 σ2 : xS}
theorem l_al1 (hC : lC p s m meth c b L xs G1 G2) (hd : decode cL_law pc = .ok (.aload_n 1, 1)) (kk : lw p l e s m below meth c b G1 G2 i (pc + 1) (.ref (gA G1 0) :: st) σ1 σ2) : lw p l e s m below meth c b G1 G2 i pc st σ1 σ2 := by
  intro H locs ls hl hP1 hP2 hS
  exact lv_aload_n hC.1.1 hC.1.2.1 hd rfl (lv_at hl 1 rfl) (kk H locs ls hl hP1 hP2 hS)
theorem l_al2 (hC : lC p s m meth c b L xs G1 G2) (hd : decode cL_law pc = .ok (.aload_n 2, 1)) (kk : lw p l e s m below meth c b G1 G2 i (pc + 1) (.ref (gA G2 0) :: st) σ1 σ2) : lw p l e s m below meth c b G1 G2 i pc st σ1 σ2 := by
  intro H locs ls hl hP1 hP2 hS
  exact lv_aload_n hC.1.1 hC.1.2.1 hd rfl (lv_at hl 2 rfl) (kk H locs ls hl hP1 hP2 hS)
theorem l_arg {k j n : Nat} {z : Int} (hC : lC p s m meth c b L xs G1 G2) (hk : k + 6 ≤ L) (hi : i = nI k) (hj : j < 6) (hz : Int32.ofInt z = nI j) (hn : pc + 5 = n) (hd0 : decode cL_law pc = .ok (.aload_n 0, 1)) (hd1 : decode cL_law (pc + 1) = .ok (.iload_n 3, 1)) (hd2 : decode cL_law (pc + 2) = .ok (.iconst z, 1)) (hd3 : decode cL_law (pc + 3) = .ok (.iadd, 1)) (hd4 : decode cL_law (pc + 4) = .ok (.iaload, 1)) (kk : lw p l e s m below meth c b G1 G2 i n (.int (xs (k + j)) :: st) σ1 σ2) : lw p l e s m below meth c b G1 G2 i pc st σ1 σ2 := by
  intro H locs ls hl hP1 hP2 hS
  subst hn
  have hL := hC.2.1
  have hbA : ¬ (lFr s) b := Nat.not_le.mpr hC.1.2.2.2.2.2.2.2.1
  have he : i + nI j = nI (k + j) := by rw [hi]; exact nI_add k j
  have hc : (i + nI j).toNatClampNeg = k + j := by rw [he]; exact nI_clamp (by omega)
  refine lv_aload_n hC.1.1 hC.1.2.1 hd0 rfl (lv_at hl 0 rfl) ?_
  refine lv_iload_n hC.1.1 hC.1.2.1 hd1 rfl (lv_at hl 3 rfl) ?_
  refine lv_iconst hC.1.1 hC.1.2.1 hd2 hz ?_
  refine lv_iadd hC.1.1 hC.1.2.1 hd3 ?_
  refine va_sld (A := lFr s) hC.1.1 hC.1.2.1 hC.1.2.2.2.2.2.2.1 hC.1.2.2.2.2.2.2.2.1 hbA hS (by rw [he]; exact vp_in_nI (by omega) (by omega)) hd4 ?_
  rw [hc]
  exact kk H locs ls hl hP1 hP2 hS
theorem l_i2l {x : Int32} (hC : lC p s m meth c b L xs G1 G2) (hd : decode cL_law pc = .ok (.i2l, 1)) (kk : lw p l e s m below meth c b G1 G2 i (pc + 1) (.long x.toInt64 :: st) σ1 σ2) : lw p l e s m below meth c b G1 G2 i pc (.int x :: st) σ1 σ2 := by
  intro H locs ls hl hP1 hP2 hS
  exact lv_i2l hC.1.1 hC.1.2.1 hd rfl (kk H locs ls hl hP1 hP2 hS)
theorem l_bipush {z : Int} {v : Int32} (hC : lC p s m meth c b L xs G1 G2) (hd : decode cL_law pc = .ok (.bipush z, 2)) (hv : (Int8.ofInt z).toInt32 = v) (kk : lw p l e s m below meth c b G1 G2 i (pc + 2) (.int v :: st) σ1 σ2) : lw p l e s m below meth c b G1 G2 i pc st σ1 σ2 := by
  intro H locs ls hl hP1 hP2 hS
  exact lv_bipush hC.1.1 hC.1.2.1 hd hv (kk H locs ls hl hP1 hP2 hS)
theorem l_lshl {x : Int64} {y : Int32} (hC : lC p s m meth c b L xs G1 G2) (hd : decode cL_law pc = .ok (.lshl, 1)) (kk : lw p l e s m below meth c b G1 G2 i (pc + 1) (.long (x <<< (y.toInt64 &&& 63)) :: st) σ1 σ2) : lw p l e s m below meth c b G1 G2 i pc (.int y :: .long x :: st) σ1 σ2 := by
  intro H locs ls hl hP1 hP2 hS
  exact lv_lshl hC.1.1 hC.1.2.1 hd rfl (kk H locs ls hl hP1 hP2 hS)
theorem l_ldc2 {idx : Nat} {v : Int64} (hC : lC p s m meth c b L xs G1 G2) (hw : Cond.constantLong R_law idx v ∈ xT) (hd : decode cL_law pc = .ok (.ldc2_w idx, 3)) (kk : lw p l e s m below meth c b G1 G2 i (pc + 3) (.long v :: st) σ1 σ2) : lw p l e s m below meth c b G1 G2 i pc st σ1 σ2 := by
  intro H locs ls hl hP1 hP2 hS
  exact lv_ldc2 hC.1.1 hC.1.2.1 hC.1.2.2.2.2.1 (hC.2.2.1 _ hw) hd (kk H locs ls hl hP1 hP2 hS)
theorem l_land {x y : Int64} (hC : lC p s m meth c b L xs G1 G2) (hd : decode cL_law pc = .ok (.land, 1)) (kk : lw p l e s m below meth c b G1 G2 i (pc + 1) (.long (x &&& y) :: st) σ1 σ2) : lw p l e s m below meth c b G1 G2 i pc (.long y :: .long x :: st) σ1 σ2 := by
  intro H locs ls hl hP1 hP2 hS
  exact lv_land hC.1.1 hC.1.2.1 hd (kk H locs ls hl hP1 hP2 hS)
theorem l_lor {x y : Int64} (hC : lC p s m meth c b L xs G1 G2) (hd : decode cL_law pc = .ok (.lor, 1)) (kk : lw p l e s m below meth c b G1 G2 i (pc + 1) (.long (x ||| y) :: st) σ1 σ2) : lw p l e s m below meth c b G1 G2 i pc (.long y :: .long x :: st) σ1 σ2 := by
  intro H locs ls hl hP1 hP2 hS
  exact lv_lor hC.1.1 hC.1.2.1 hd (kk H locs ls hl hP1 hP2 hS)
theorem l_cmp {r : Int32} {off : Int} (hC : lC p s m meth c b L xs G1 G2) (hd : decode cL_law pc = .ok (.if_icmp .eq off, 3)) (ht : (pc : Int) + off = ((1468 : Nat) : Int)) (kk : lw p l e s m below meth c b G1 G2 i 1468 st σ1 σ2) : lw p l e s m below meth c b G1 G2 i pc (.int r :: .int r :: st) σ1 σ2 := by
  intro H locs ls hl hP1 hP2 hS
  exact lv_icmp_eq (tgt := 1468) hC.1.1 hC.1.2.1 hd ht (fun _ => kk H locs ls hl hP1 hP2 hS) (fun h => absurd rfl h)
theorem l_call1 {rest As : List Value} {y : MethodName} {cc' : ByteArray} {nL' n' k idx : Nat} {r : Int32} {σ' : xS} (hC : lC p s m meth c b L xs G1 G2) (hM : xMet l G1 n' y cc' nL' (some .int) (.ref (gA G1 0) :: As) σ1 (xI r σ')) (cw : xCV R_law idx y cc' nL' (some .int) k) (hn : n' ≤ 200) (hy1 : y.cls = RX8) (hd : decode cL_law pc = .ok (.invokevirtual idx, 3)) (hA : As.length = k) (hst : (rest.map fun v => v.category).sum ≤ 8) (kk : lw p l e s m below meth c b G1 G2 i (pc + 3) (.int r :: rest) σ' σ2) : lw p l e s m below meth c b G1 G2 i pc (As.reverse ++ .ref (gA G1 0) :: rest) σ1 σ2 := by
  intro H locs ls hl hP1 hP2 hS
  obtain ⟨⟨hx, hb, hr, hml, ho, -⟩, -, ht, hB1, hB2, hc1, hm1, hdis⟩ := hC
  have hO := hB1.ok hS
  obtain ⟨⟨hy, hcode, hini, hm⟩, hw1, hw2, hw3⟩ := cw
  obtain ⟨hpb, hpp⟩ := x_preC (av := .ref (gA G1 0) :: As) hP1 hO
  refine x_runC (A0 := lFr s) (va_runV (C := RX8) (mc := 0) (ms := 0) (n := k) (own := R_law) (Ts := xT) (nL := 4) (rest := rest) ⟨hx, hb, hml, ho, ht⟩ hM ⟨callB_of k ht (xT_GoodIn hcode) rfl rfl rfl (ht _ hini) (ht _ hw1) hy ⟨by show n' + 1 ≤ 2048; omega, by show 8 + (nL' + 11) + 40 * n' ≤ 84000; omega⟩, ht _ hw2, by rw [← hy1]; exact ht _ hw3⟩ ⟨hpb, va_recv hO.1 hP1 (q := (RX8, TX8, 13)) rfl (xW_atO (nc_0 hc1).2 (nc_0 hc1).1), hpp⟩ rfl hA hl.1 rfl (lv_room hst) hd ⟨Nat.le_refl _, Nat.le_refl _⟩) hS hB1.2.2.2.2 (fun v σ'' H1 locs1 hΦ hP hz hk2 hS1 => ?_)
  obtain ⟨rfl, rfl⟩ := hΦ
  exact kk H1 locs1 ls hl hP (xPic_off hP2 hk2 (fun q h2 h1 => hdis q h1 h2)) hS1
theorem l_call2 {rest As : List Value} {y : MethodName} {cc' : ByteArray} {nL' n' k idx : Nat} {r : Int32} {σ' : xS} (hC : lC p s m meth c b L xs G1 G2) (hM : xMet l G2 n' y cc' nL' (some .int) (.ref (gA G2 0) :: As) σ2 (xI r σ')) (cw : xCV R_law idx y cc' nL' (some .int) k) (hn : n' ≤ 200) (hy1 : y.cls = RX9) (hd : decode cL_law pc = .ok (.invokevirtual idx, 3)) (hA : As.length = k) (hst : (rest.map fun v => v.category).sum ≤ 8) (kk : lw p l e s m below meth c b G1 G2 i (pc + 3) (.int r :: rest) σ1 σ') : lw p l e s m below meth c b G1 G2 i pc (As.reverse ++ .ref (gA G2 0) :: rest) σ1 σ2 := by
  intro H locs ls hl hP1 hP2 hS
  obtain ⟨⟨hx, hb, hr, hml, ho, -⟩, -, ht, hB1, hB2, hc1, hm1, hdis⟩ := hC
  have hO := hB2.ok hS
  obtain ⟨⟨hy, hcode, hini, hm⟩, hw1, hw2, hw3⟩ := cw
  obtain ⟨hpb, hpp⟩ := x_preC (av := .ref (gA G2 0) :: As) hP2 hO
  refine x_runC (A0 := lFr s) (va_runV (C := RX9) (mc := 0) (ms := 0) (n := k) (own := R_law) (Ts := xT) (nL := 4) (rest := rest) ⟨hx, hb, hml, ho, ht⟩ hM ⟨callB_of k ht (xT_GoodIn hcode) rfl rfl rfl (ht _ hini) (ht _ hw1) hy ⟨by show n' + 1 ≤ 2048; omega, by show 8 + (nL' + 11) + 40 * n' ≤ 84000; omega⟩, ht _ hw2, by rw [← hy1]; exact ht _ hw3⟩ ⟨hpb, va_recv hO.1 hP2 (q := (RX9, TX9, 24)) rfl (xW_atO (nm_0 hm1).2 (nm_0 hm1).1), hpp⟩ rfl hA hl.1 rfl (lv_room hst) hd ⟨Nat.le_refl _, Nat.le_refl _⟩) hS hB2.2.2.2.2 (fun v σ'' H1 locs1 hΦ hP hz hk2 hS1 => ?_)
  obtain ⟨rfl, rfl⟩ := hΦ
  exact kk H1 locs1 ls hl (xPic_off hP1 hk2 (fun q h1 h2 => hdis q h1 h2)) hP hS1
end LW
