/-! ===== calls ===== -/
theorem x_run {p : Program} {l : Launch} {e : Env} {R : Room} {s : State} {m : MethodId} {args : Array Value} {below : List Frame} {meth : Method} {c : Code} {H : Heap} {locs : List Loc} {Q : State → Prop} {pc : Nat} {ls : Array Slot} {st0 rest : List Value} {G : xG} {Φ : Option Value → xS → Prop} {a : Array Value} {H0 : Heap}
    (hr : va_Run p l e R s m args below meth c H locs 0 0 0 0 (F0 m pc ls st0) rest (xPost G Φ a) (gF G)) (hS : va_S (gF G) H0 H locs)
    (kk : ∀ (v : Option Value) (σ' : xS) (H1 : Heap) (locs1 : List Loc), Φ v σ' → xPic G σ' H1 → va_S (gF G) H0 H1 locs1 → W p l e R s m args below meth c H1 locs1 0 0 Q (F0 m (pc + 3) ls (v.toList ++ rest))) : W p l e R s m args below meth c H locs 0 0 Q (F0 m pc ls st0) := by
  intro T hT X
  obtain ⟨v, st₀, t, T', L, h0, X', hL, e1, e2, ⟨⟨v', σ', hv, hp, hb⟩, hz, hk⟩, st⟩ := hr T hT X
  cases hv
  rw [h0] at hz hk
  obtain ⟨t2, a1, b1⟩ := kk v σ' T'.heap (locs ++ L) hp (by rw [e1]; exact hb)
    ⟨Nat.le_trans hS.1 (by rw [e1]; exact hz), fun q h1 h2 => by rw [e1, hk q (Nat.lt_of_lt_of_le h1 hS.1) h2]; exact hS.2.1 q h1 h2, fun q hq => by
      rcases List.mem_append.mp hq with h | h
      · exact hS.2.2 q h
      · exact hL q h⟩ T' rfl X'
  exact ⟨t2, st t2 a1, b1⟩
theorem x_room {n n' nL : Nat} (h : n' + 1 ≤ n) (hm : nL ≤ 21) : (xRm n').frames + 1 ≤ (xRm n).frames ∧ 8 + (nL + 11) + (xRm n').locals ≤ (xRm n).locals := ⟨h, by show 8 + (nL + 11) + 40 * n' ≤ 40 * n; omega⟩
theorem x_pre {G : xG} {σ : xS} {s : State} {H : Heap} {locs : List Loc} {av : List Value} (hP : xPic G σ H) (hO : xOk G s s.heap) (hS : va_S (gF G) s.heap H locs) : FrameBlind (va_Pc av (xPre G σ)) ∧ ∀ U : State, U.heap = H → s.WarmedH U.vm → va_Pc av (xPre G σ) av.toArray U := by
  refine ⟨fun a U g mk q => ?_, fun U hU hW => ⟨rfl, by rw [hU]; exact hP, by rw [hU]; exact hO.go hW hS.2.1⟩⟩
  obtain ⟨q0, q1, q2⟩ := q
  exact ⟨q0, q1, q2.blind (u := U) (U := U.calling g mk a) rfl⟩
/-- what a call's words are -/
abbrev xC (own : String) (index : Nat) (y : MethodName) (cc : ByteArray) (nL : Nat) (ret : Option FieldType) (k : Nat) : Prop :=
  (y.cls ≠ "java/lang/invoke/MethodHandle" ∧ y.cls ≠ "java/lang/invoke/VarHandle" ∧ (parseMethodDescriptor y.desc).map (fun d => d.parameters.length) = some k) ∧ Cond.code y cc nL ret ∈ xT ∧ Cond.initialized y.cls ∈ xT ∧ nL ≤ 21
abbrev xCV (own : String) (index : Nat) (y : MethodName) (cc : ByteArray) (nL : Nat) (ret : Option FieldType) (k : Nat) : Prop :=
  xC own index y cc nL ret k ∧ Cond.methodLink own index y ∈ xT ∧ Cond.instanceMethod y ∈ xT ∧ Cond.selects y.cls y y ∈ xT
abbrev xCS (own : String) (index : Nat) (y : MethodName) (cc : ByteArray) (nL : Nat) (ret : Option FieldType) (k : Nat) : Prop :=
  xC own index y cc nL ret k ∧ Cond.methodLink own index y ∈ xT ∧ Cond.static y ∈ xT
abbrev xCN (own : String) (index : Nat) (y : MethodName) (cc : ByteArray) (nL : Nat) (ret : Option FieldType) (k : Nat) (host : String) : Prop :=
  xC own index y cc nL ret k ∧ (own, index, y, host) ∈ xNestM ∧ Cond.static y ∈ xT
section WKC
variable {l : Launch} {G : xG} {n : Nat} {own : String} {cc : ByteArray} {nL : Nat} {ret : Option FieldType} {Φ Φ' : Option Value → xS → Prop} {pc : Nat} {lv : List (Nat × Value)} {rest : List Value} {σ : xS} {y : MethodName} {cc' : ByteArray} {nL' n' k index : Nat} {ret' : Option FieldType}
theorem wk_callV {o ci N : Nat} {fs : List (Option Nat)} {C : String} {T : u_T} {As : List Value} (hM : xMet l G n' y cc' nL' ret' (.ref (gA G o) :: As) σ Φ') (cw : xCV own index y cc' nL' ret' k) (hn : n' + 1 ≤ n) (hd : decode cc pc = .ok (.invokevirtual index, 3)) (hN : o < gN G) (hs : gS G o = .inr (.inl (ci, fs))) (hc : vwCl[ci]? = some (C, T, N)) (hC : C = y.cls) (hA : As.length = k) (hst : (rest.map fun v => v.category).sum ≤ 8)
    (kk : ∀ (v : Option Value) (σ' : xS), Φ' v σ' → wk l G n own cc nL ret Φ (pc + 3) lv (v.toList ++ rest) σ') : wk l G n own cc nL ret Φ pc lv (As.reverse ++ .ref (gA G o) :: rest) σ := by
  intro p e s m args below meth c hx hb hr hml ho ht hk hO H locs ls hl hP hS
  obtain ⟨⟨hy, hcode, hini, hm⟩, hw1, hw2, hw3⟩ := cw
  obtain ⟨hpb, hpp⟩ := x_pre (av := .ref (gA G o) :: As) hP hO hS
  subst hC
  refine x_run (va_runV (C := y.cls) (mc := 0) (ms := 0) (n := k) (own := own) (Ts := xT) (nL := nL) (rest := rest) ⟨hx, hb, hml, ho, ht⟩ hM ⟨callB_of k ht (xT_GoodIn hcode) rfl rfl rfl (ht _ hini) (ht _ hw1) hy (x_room hn hm), ht _ hw2, ht _ hw3⟩ ⟨hpb, va_recv hO.1 hP hc (xW_atO hN hs), hpp⟩ rfl hA hl.1 rfl (lv_room hst) hd ⟨Nat.le_refl 0, Nat.le_refl 0⟩) hS (fun v σ' H1 locs1 hΦ hP1 hS1 => ?_)
  exact kk v σ' hΦ p e s m args below meth c hx hb hr hml ho ht hk hO H1 locs1 ls hl hP1 hS1
theorem wk_callS {As : List Value} (hM : xMet l G n' y cc' nL' ret' As σ Φ') (cw : xCS own index y cc' nL' ret' k) (hn : n' + 1 ≤ n) (hd : decode cc pc = .ok (.invokestatic index, 3)) (hA : As.length = k) (hst : (rest.map fun v => v.category).sum ≤ 8)
    (kk : ∀ (v : Option Value) (σ' : xS), Φ' v σ' → wk l G n own cc nL ret Φ (pc + 3) lv (v.toList ++ rest) σ') : wk l G n own cc nL ret Φ pc lv (As.reverse ++ rest) σ := by
  intro p e s m args below meth c hx hb hr hml ho ht hk hO H locs ls hl hP hS
  obtain ⟨⟨hy, hcode, hini, hm⟩, hw1, hw2⟩ := cw
  obtain ⟨hpb, hpp⟩ := x_pre (av := As) hP hO hS
  refine x_run (va_runS (mc := 0) (ms := 0) (n := k) (own := own) (Ts := xT) (nL := nL) (rest := rest) ⟨hx, hb, hml, ho, ht⟩ hM ⟨callB_of k ht (xT_GoodIn hcode) rfl rfl rfl (ht _ hini) (ht _ hw1) hy (x_room hn hm), ht _ hw2⟩ ⟨hpb, hpp⟩ rfl hA hl.1 rfl (lv_room hst) hd ⟨Nat.le_refl 0, Nat.le_refl 0⟩) hS (fun v σ' H1 locs1 hΦ hP1 hS1 => ?_)
  exact kk v σ' hΦ p e s m args below meth c hx hb hr hml ho ht hk hO H1 locs1 ls hl hP1 hS1
theorem wk_callSN {As : List Value} {host : String} (hM : xMet l G n' y cc' nL' ret' As σ Φ') (cw : xCN own index y cc' nL' ret' k host) (hn : n' + 1 ≤ n) (hd : decode cc pc = .ok (.invokestatic index, 3)) (hA : As.length = k) (hst : (rest.map fun v => v.category).sum ≤ 8)
    (kk : ∀ (v : Option Value) (σ' : xS), Φ' v σ' → wk l G n own cc nL ret Φ (pc + 3) lv (v.toList ++ rest) σ') : wk l G n own cc nL ret Φ pc lv (As.reverse ++ rest) σ := by
  intro p e s m args below meth c hx hb hr hml ho ht hk hO H locs ls hl hP hS
  obtain ⟨⟨hy, hcode, hini, hm⟩, hw1, hw2⟩ := cw
  obtain ⟨hpb, hpp⟩ := x_pre (av := As) hP hO hS
  refine x_run (va_runSN (mc := 0) (ms := 0) (n := k) (own := own) (Ts := xT) (nL := nL) (rest := rest) ⟨hx, hb, hml, ho, ht⟩ hM ⟨va_cnB (ws' := xT) k ht (xT_GoodIn hcode) rfl rfl rfl (hO.2.2.2.1 _ hw1) (ht _ hini) hy (x_room hn hm), ht _ hw2, trivial⟩ ⟨hpb, hpp⟩ rfl hA hl.1 rfl (lv_room hst) hd ⟨Nat.le_refl 0, Nat.le_refl 0⟩) hS (fun v σ' H1 locs1 hΦ hP1 hS1 => ?_)
  exact kk v σ' hΦ p e s m args below meth c hx hb hr hml ho ht hk hO H1 locs1 ls hl hP1 hS1
theorem wk_callVI {r : Int32} {σ1 : xS} {o ci N : Nat} {fs : List (Option Nat)} {C : String} {T : u_T} {As : List Value} (hM : xMet l G n' y cc' nL' ret' (.ref (gA G o) :: As) σ (xI r σ1)) (cw : xCV own index y cc' nL' ret' k) (hn : n' + 1 ≤ n) (hd : decode cc pc = .ok (.invokevirtual index, 3)) (hN : o < gN G) (hs : gS G o = .inr (.inl (ci, fs))) (hc : vwCl[ci]? = some (C, T, N)) (hC : C = y.cls) (hA : As.length = k) (hst : (rest.map fun v => v.category).sum ≤ 8)
    (kk : wk l G n own cc nL ret Φ (pc + 3) lv (.int r :: rest) σ1) : wk l G n own cc nL ret Φ pc lv (As.reverse ++ .ref (gA G o) :: rest) σ :=
  wk_callV hM cw hn hd hN hs hc hC hA hst (fun v σ' h => by obtain ⟨rfl, rfl⟩ := h; exact kk)
theorem wk_callVU {σ1 : xS} {o ci N : Nat} {fs : List (Option Nat)} {C : String} {T : u_T} {As : List Value} (hM : xMet l G n' y cc' nL' ret' (.ref (gA G o) :: As) σ (xU σ1)) (cw : xCV own index y cc' nL' ret' k) (hn : n' + 1 ≤ n) (hd : decode cc pc = .ok (.invokevirtual index, 3)) (hN : o < gN G) (hs : gS G o = .inr (.inl (ci, fs))) (hc : vwCl[ci]? = some (C, T, N)) (hC : C = y.cls) (hA : As.length = k) (hst : (rest.map fun v => v.category).sum ≤ 8)
    (kk : wk l G n own cc nL ret Φ (pc + 3) lv (rest) σ1) : wk l G n own cc nL ret Φ pc lv (As.reverse ++ .ref (gA G o) :: rest) σ :=
  wk_callV hM cw hn hd hN hs hc hC hA hst (fun v σ' h => by obtain ⟨rfl, rfl⟩ := h; exact kk)
theorem wk_callVR {r : Nat} {σ1 : xS} {o ci N : Nat} {fs : List (Option Nat)} {C : String} {T : u_T} {As : List Value} (hM : xMet l G n' y cc' nL' ret' (.ref (gA G o) :: As) σ (xR G r σ1)) (cw : xCV own index y cc' nL' ret' k) (hn : n' + 1 ≤ n) (hd : decode cc pc = .ok (.invokevirtual index, 3)) (hN : o < gN G) (hs : gS G o = .inr (.inl (ci, fs))) (hc : vwCl[ci]? = some (C, T, N)) (hC : C = y.cls) (hA : As.length = k) (hst : (rest.map fun v => v.category).sum ≤ 8)
    (kk : wk l G n own cc nL ret Φ (pc + 3) lv (.ref (gA G r) :: rest) σ1) : wk l G n own cc nL ret Φ pc lv (As.reverse ++ .ref (gA G o) :: rest) σ :=
  wk_callV hM cw hn hd hN hs hc hC hA hst (fun v σ' h => by obtain ⟨rfl, rfl⟩ := h; exact kk)
theorem wk_callSI {r : Int32} {σ1 : xS} {As : List Value} (hM : xMet l G n' y cc' nL' ret' As σ (xI r σ1)) (cw : xCS own index y cc' nL' ret' k) (hn : n' + 1 ≤ n) (hd : decode cc pc = .ok (.invokestatic index, 3)) (hA : As.length = k) (hst : (rest.map fun v => v.category).sum ≤ 8)
    (kk : wk l G n own cc nL ret Φ (pc + 3) lv (.int r :: rest) σ1) : wk l G n own cc nL ret Φ pc lv (As.reverse ++ rest) σ :=
  wk_callS hM cw hn hd hA hst (fun v σ' h => by obtain ⟨rfl, rfl⟩ := h; exact kk)
theorem wk_callSU {σ1 : xS} {As : List Value} (hM : xMet l G n' y cc' nL' ret' As σ (xU σ1)) (cw : xCS own index y cc' nL' ret' k) (hn : n' + 1 ≤ n) (hd : decode cc pc = .ok (.invokestatic index, 3)) (hA : As.length = k) (hst : (rest.map fun v => v.category).sum ≤ 8)
    (kk : wk l G n own cc nL ret Φ (pc + 3) lv (rest) σ1) : wk l G n own cc nL ret Φ pc lv (As.reverse ++ rest) σ :=
  wk_callS hM cw hn hd hA hst (fun v σ' h => by obtain ⟨rfl, rfl⟩ := h; exact kk)
theorem wk_callSR {r : Nat} {σ1 : xS} {As : List Value} (hM : xMet l G n' y cc' nL' ret' As σ (xR G r σ1)) (cw : xCS own index y cc' nL' ret' k) (hn : n' + 1 ≤ n) (hd : decode cc pc = .ok (.invokestatic index, 3)) (hA : As.length = k) (hst : (rest.map fun v => v.category).sum ≤ 8)
    (kk : wk l G n own cc nL ret Φ (pc + 3) lv (.ref (gA G r) :: rest) σ1) : wk l G n own cc nL ret Φ pc lv (As.reverse ++ rest) σ :=
  wk_callS hM cw hn hd hA hst (fun v σ' h => by obtain ⟨rfl, rfl⟩ := h; exact kk)
theorem wk_callSNI {r : Int32} {σ1 : xS} {As : List Value} {host : String} (hM : xMet l G n' y cc' nL' ret' As σ (xI r σ1)) (cw : xCN own index y cc' nL' ret' k host) (hn : n' + 1 ≤ n) (hd : decode cc pc = .ok (.invokestatic index, 3)) (hA : As.length = k) (hst : (rest.map fun v => v.category).sum ≤ 8)
    (kk : wk l G n own cc nL ret Φ (pc + 3) lv (.int r :: rest) σ1) : wk l G n own cc nL ret Φ pc lv (As.reverse ++ rest) σ :=
  wk_callSN hM cw hn hd hA hst (fun v σ' h => by obtain ⟨rfl, rfl⟩ := h; exact kk)
theorem wk_callSNU {σ1 : xS} {As : List Value} {host : String} (hM : xMet l G n' y cc' nL' ret' As σ (xU σ1)) (cw : xCN own index y cc' nL' ret' k host) (hn : n' + 1 ≤ n) (hd : decode cc pc = .ok (.invokestatic index, 3)) (hA : As.length = k) (hst : (rest.map fun v => v.category).sum ≤ 8)
    (kk : wk l G n own cc nL ret Φ (pc + 3) lv (rest) σ1) : wk l G n own cc nL ret Φ pc lv (As.reverse ++ rest) σ :=
  wk_callSN hM cw hn hd hA hst (fun v σ' h => by obtain ⟨rfl, rfl⟩ := h; exact kk)
theorem wk_callSNR {r : Nat} {σ1 : xS} {As : List Value} {host : String} (hM : xMet l G n' y cc' nL' ret' As σ (xR G r σ1)) (cw : xCN own index y cc' nL' ret' k host) (hn : n' + 1 ≤ n) (hd : decode cc pc = .ok (.invokestatic index, 3)) (hA : As.length = k) (hst : (rest.map fun v => v.category).sum ≤ 8)
    (kk : wk l G n own cc nL ret Φ (pc + 3) lv (.ref (gA G r) :: rest) σ1) : wk l G n own cc nL ret Φ pc lv (As.reverse ++ rest) σ :=
  wk_callSN hM cw hn hd hA hst (fun v σ' h => by obtain ⟨rfl, rfl⟩ := h; exact kk)
end WKC
