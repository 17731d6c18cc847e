-- ===== MY PART =====
set_option maxHeartbeats 4000000 in
set_option maxRecDepth 20000 in
theorem whole_start {p : Program} {e : Env} {s : State} {m : MethodId} {below : List Frame} {meth : Method} {c : Code} (l : Launch) (hflags : l.flags = flags0) {b L : Nat} {xs : Nat → Int32} (hL : L ≤ 3072) (C0 : lw_At p s m meth c b L xs) : W p l e room_1 s m #[Value.ref b] below meth c s.heap [] 0 0 (lw_Z below #[Value.ref b] s) (entryFrame m ([Value.ref b] : List Value).toArray 4) := by
  obtain ⟨hx, hb, hr, hml, hown, hts, hX, hbl, hlocks, hgv⟩ := id C0
  have hT := xT_hts hts
  obtain ⟨D, kI, hK⟩ := st_K hT
  have hA : ∀ q : Nat, s.heap.size ≤ q → lFr s q := fun _ h => h
  have hA0 : ∀ q : Nat, q < s.heap.size → ¬ lFr s q := fun q h => Nat.not_le.mpr h
  obtain ⟨a, hxs, hr1, hr2⟩ := st_xSt hgv hts hA0
  obtain ⟨hnw, hnest⟩ := st_nest hts
  have hO : bOk D kI a (lFr s) s s.heap := ⟨hK, hxs, hnw, hnest, ⟨va_AO.of (hts _ (List.mem_append_right _ (xt_1 (List.mem_of_getElem? (i := 224) (by decide +kernel))))), va_AO.of (hts _ (List.mem_append_right _ (xt_4 (List.mem_of_getElem? (i := 6) (by decide +kernel)))))⟩, hr1, hr2⟩
  obtain ⟨c0, m0, w0, hfc, hfm, hR0⟩ := relI
  have hS : va_S (lFr s) s.heap s.heap [] := va_S.rf
  have hP : va_P D vwCl [] s.heap := fun k q h => by simp at h
  have hD : va_D (lFr s) [] := ⟨fun i j p q h => by simp at h, fun k q h => by simp at h⟩
  have hl := lv_entry ([.ref b]) (n := 4) (Nat.le_of_ble_eq_true rfl)
  rw [lg_entry_eq]
  generalize (lg_sl ([.ref b]) ++ List.replicate (4 - (lg_sl ([.ref b])).length) Slot.unset).toArray = ls at hl ⊢
  have hl : lv_has ls 4 [(0, .ref b)] := hl
  refine va_new (pc := 0) (D := D) (ci := 8) (fs := [.null, .null, .null, .null, .null, .null, .int 0, .null, .null, .null, .null, .null, .null]) (C := RX8) (T := TX8) (N := 13) hx hb hT qU_X8 tyX8 tyX8_ok hown (hT _ qz_L_X8) (hT _ qz_N_X8) (hT _ qz_J_X8) hK hP hD hS hA rfl dfX8 (Nat.le_of_ble_eq_true rfl) (Nat.le_of_ble_eq_true rfl) dL_law_0 (fun q1 H hP hD hS => ?_)
  refine lv_dup (pc := 3) hx hb dL_law_3 rfl ?_
  have hP : va_P D vwCl [(q1, .inr (8, [.null, .null, .null, .null, .null, .null, .int 0, .null, .null, .null, .null, .null, .null]))] H := hP
  have hD : va_D (lFr s) [(q1, .inr (8, [.null, .null, .null, .null, .null, .null, .int 0, .null, .null, .null, .null, .null, .null]))] := hD
  have hF1 : ∀ z, cA q1 (.inr (8, [.null, .null, .null, .null, .null, .null, .int 0, .null, .null, .null, .null, .null, .null])) H.size z → lFr s z := va_free hD hS hA [0] rfl
  refine va_callv (pc := 4) (va_runI (As := []) (rest := [.ref q1]) (own := R_law) (Ts := xT) (nL := 4) ⟨hx, hb, hml, hown, hT⟩ (kX8_init l D kI a (lFr s) q1 H.size hfc hF1) (cwI (ws' := xT) 0 hT (xT_GoodIn qz_C_X8) rfl rfl rfl (hT _ qz_J_X8) (hT _ qz_M_X8) (hT _ qz_I_X8) rfl ⟨by decide, by decide, by decide +kernel⟩ ⟨Nat.le_of_ble_eq_true rfl, Nat.le_of_ble_eq_true rfl⟩) ⟨fun a U g mk q => by obtain ⟨q0, q1, q2, q3⟩ := q; exact ⟨q0, q1, q2, q3.blind (u := U) (U := U.calling g mk a) rfl⟩, fun U hU hW => ⟨rfl, by rw [hU], by rw [hU]; exact hP, by rw [hU]; exact hO.go hW (fun x h1 h2 => hS.2.1 x h1 h2)⟩⟩ rfl rfl hl.1 rfl (lv_room (Nat.le_of_ble_eq_true rfl)) dL_law_4 ⟨Nat.le_of_ble_eq_true rfl, Nat.le_of_ble_eq_true rfl⟩) hS (fun q _ h => hF1 q h) hF1 (fun u t H1 locs ht hvm hw hB hz1 hk1 hS => ?_)
  obtain ⟨ad1, cR1⟩ := u
  obtain ⟨had1, hab1⟩ := hw
  obtain ⟨hK1, hi1, hg1, hp1⟩ := hB
  dsimp only at had1 hab1 hK1 hi1 hg1 hp1
  rw [ht] at hp1
  have hK1 := va_K.moved hvm.symm hK1
  have hgf1 : ∀ q, gF (D, (kI, cR1, "OldLight$Sheet"), ad1, 66, cSh) q → lFr s q := fun q h => hF1 q (hg1 q h)
  refine lv_astore_n (pc := 7) (lv' := [(1, .ref q1), (0, .ref b)]) hx hb dL_law_7 rfl hl (by decide) rfl (fun ls hl => ?_)
  have hD1 : va_D (lFr s) (xW (D, (kI, cR1, "OldLight$Sheet"), ad1, 66, cSh) c0) := (xD_of hi1).weaken (fun k q hk h => hgf1 _ h)
  refine va_new (pc := 8) (D := D) (ws := xW (D, (kI, cR1, "OldLight$Sheet"), ad1, 66, cSh) c0) (ci := 9) (fs := [.null, .null, .null, .int 0, .null, .null, .null, .int 0, .int 0, .int 0, .int 0, .null, .int 0, .null, .null, .null, .int 0, .int 0, .int 0, .int 0, .null, .null, .null, .null]) (C := RX9) (T := TX9) (N := 24) hx hb hT qU_X9 tyX9 tyX9_ok hown (hT _ qz_L_X9) (hT _ qz_N_X9) (hT _ qz_J_X9) hK hp1 hD1 hS hA rfl dfX9 (Nat.le_of_ble_eq_true rfl) (Nat.le_of_ble_eq_true rfl) dL_law_8 (fun q2 H2 hP2 hD2 hS => ?_)
  refine lv_dup (pc := 11) hx hb dL_law_11 rfl ?_
  have hlen : (xW (D, (kI, cR1, "OldLight$Sheet"), ad1, 66, cSh) c0).length = 66 := by simp only [xW, List.length_map, List.length_range]; rfl
  have hlast : ∀ x : Nat × va_E, (xW (D, (kI, cR1, "OldLight$Sheet"), ad1, 66, cSh) c0 ++ [x])[66]? = some x := fun x => by
    rw [List.getElem?_append_right (Nat.le_of_eq hlen), hlen]
    rfl
  have hP3 : va_P D vwCl [(q2, .inr (9, [.null, .null, .null, .int 0, .null, .null, .null, .int 0, .int 0, .int 0, .int 0, .null, .int 0, .null, .null, .null, .int 0, .int 0, .int 0, .int 0, .null, .null, .null, .null]))] H2 := hP2.sub [66] (by simp only [List.filterMap_cons, List.filterMap_nil, hlast])
  have hF2 : ∀ z, cA q2 (.inr (9, [.null, .null, .null, .int 0, .null, .null, .null, .int 0, .int 0, .int 0, .int 0, .null, .int 0, .null, .null, .null, .int 0, .int 0, .int 0, .int 0, .null, .null, .null, .null])) H2.size z → lFr s z := va_free hD2 hS hA [66] (by simp only [List.map_cons, List.map_nil, hlast])
  have hpc : xPic (D, (kI, cR1, "OldLight$Sheet"), ad1, 66, cSh) c0 H2 := fun k q hk => hP2 k q (by rw [List.getElem?_append_left (List.getElem?_eq_some_iff.mp hk).1]; exact hk)
  have hoff : ∀ q, gF (D, (kI, cR1, "OldLight$Sheet"), ad1, 66, cSh) q → ¬ cA q2 (.inr (9, [.null, .null, .null, .int 0, .null, .null, .null, .int 0, .int 0, .int 0, .int 0, .null, .int 0, .null, .null, .null, .int 0, .int 0, .int 0, .int 0, .null, .null, .null, .null])) H2.size q := by
    intro q hq hc
    obtain ⟨k, hk, rfl⟩ := hq
    have hat := xW_at (G := (D, (kI, cR1, "OldLight$Sheet"), ad1, 66, cSh)) (σ := c0) hk
    have hlt := (hpc k _ hat).lt
    rcases hc with ⟨j, e, hj⟩ | hc
    · have hj0 := (List.getElem?_eq_some_iff.mp hj).1
      have : j = 0 := by simp at hj0; omega
      subst this
      have e1 : q2 = gA (D, (kI, cR1, "OldLight$Sheet"), ad1, 66, cSh) k := by cases hj; rfl
      have h1 := hD2.1 k 66 _ (q2, .inr (9, [.null, .null, .null, .int 0, .null, .null, .null, .int 0, .int 0, .int 0, .int 0, .null, .int 0, .null, .null, .null, .int 0, .int 0, .int 0, .int 0, .null, .null, .null, .null])) (by rw [List.getElem?_append_left (List.getElem?_eq_some_iff.mp hat).1]; exact hat) (hlast _) e1.symm
      have hk2 : k < 66 := hk
      omega
    · exact absurd hlt (Nat.not_lt.mpr hc)
  refine va_callv (pc := 12) (va_runI (As := []) (rest := [.ref q2]) (own := R_law) (Ts := xT) (nL := 4) ⟨hx, hb, hml, hown, hT⟩ (kX9_init l D kI a (lFr s) q2 H2.size hfm hF2) (cwI (ws' := xT) 0 hT (xT_GoodIn qz_C_X9) rfl rfl rfl (hT _ qz_J_X9) (hT _ qz_M_X9) (hT _ qz_I_X9) rfl ⟨by decide, by decide, by decide +kernel⟩ ⟨Nat.le_of_ble_eq_true rfl, Nat.le_of_ble_eq_true rfl⟩) ⟨fun a U g mk q => by obtain ⟨q0, q1, q2, q3⟩ := q; exact ⟨q0, q1, q2, q3.blind (u := U) (U := U.calling g mk a) rfl⟩, fun U hU hW => ⟨rfl, by rw [hU], by rw [hU]; exact hP3, by rw [hU]; exact hO.go hW (fun x h1 h2 => hS.2.1 x h1 h2)⟩⟩ rfl rfl hl.1 rfl (lv_room (Nat.le_of_ble_eq_true rfl)) dL_law_12 ⟨Nat.le_of_ble_eq_true rfl, Nat.le_of_ble_eq_true rfl⟩) hS (fun q _ h => hF2 q h) hF2 (fun u t H3 locs ht hvm hw hB hz2 hk2 hS => ?_)
  obtain ⟨ad2, cR2⟩ := u
  obtain ⟨had2, hab2⟩ := hw
  obtain ⟨hK2, hi2, hg2, hp2⟩ := hB
  dsimp only at had2 hab2 hK2 hi2 hg2 hp2
  rw [ht] at hp2
  have hK2 := va_K.moved hvm.symm hK2
  have hp1 : xPic (D, (kI, cR1, "OldLight$Sheet"), ad1, 66, cSh) c0 H3 := xPic_off hpc hk2 hoff
  subst had1
  subst had2
  refine lv_astore_n (pc := 15) (lv' := [(2, .ref (ad2 0)), (1, .ref (ad1 0)), (0, .ref b)]) hx hb dL_law_15 rfl hl (by decide) rfl (fun ls hl => ?_)
  refine lv_iconst (pc := 16) (v := 0) hx hb dL_law_16 (by decide) ?_
  refine lv_istore_n (pc := 17) (lv' := [(3, .int 0), (2, .ref (ad2 0)), (1, .ref (ad1 0)), (0, .ref b)]) hx hb dL_law_17 rfl hl (by decide) rfl (fun ls hl => ?_)
  refine W.widen (k := 600000) (n := 7302250) (Nat.le_of_ble_eq_true rfl) (Nat.le_of_ble_eq_true rfl) ?_
  have hC : lC p s m meth c b L xs (D, (kI, cR1, "OldLight$Sheet"), ad1, 66, cSh) (D, (kI, cR2, "java/lang/String"), ad2, 15, mSh) :=
    ⟨C0, hL, hT, ⟨hK1, hi1, x_xSt_congr hab1 hxs, hnw, hgf1⟩, ⟨hK2, hi2, x_xSt_congr hab2 hxs, hnw, fun q h => hF2 q (hg2 q h)⟩, ⟨rfl, rfl⟩, ⟨rfl, rfl⟩, fun q h1 h2 => hoff q h1 (hg2 q h2)⟩
  exact l_loop hC (L + 1) 0 c0 m0 (by omega) (by omega) hR0 H3 locs ls (lv_sub hl [3, 2, 1, 0] rfl) hp1 hp2 hS
set_option maxHeartbeats 4000000 in
theorem lw_walk (l : Launch) (hflags : l.flags = flags0) (b : Addr) (xs : List Int32) : MetFree l x (headSpec (Jvm.Cond.code x code maxLocals ret :: tables_1) room_1) (lw_P b xs) (fun _ _ _ _ _ => True) lw_Q := by
  refine MetFree.of_bodyS (code := code) (maxLocals := maxLocals) (ret := ret) (by decide) ?_ ?_
  · intro args s m h hn
    obtain ⟨meth, c, h1, h2, h3, h4, h5, h6, -, -⟩ := Cond.code_spec hn (atoms_spec (ws := Jvm.Cond.code x code maxLocals ret :: tables_1) h _ List.mem_cons_self)
    exact ⟨meth, c, h1, h2, h3, h4, h5, h6⟩
  · intro p e s m args below meth c s₁ B hml0 hP _
    obtain ⟨rfl, hx, hbd, hgv⟩ := hP
    obtain ⟨scr, harrAt, hlist, hof, hsmall⟩ := hx
    obtain ⟨hcb, hkn, -, -⟩ := State.arrayAt?_spec harrAt
    have hown : s.vm.findClass R_law = some m.cls := findClass_of_methodNamed B.named
    have hts0 : ∀ c ∈ (Jvm.Cond.code x code maxLocals ret :: tables_1), c.before #[Value.ref b] s = true := atoms_spec (ws := Jvm.Cond.code x code maxLocals ret :: tables_1) B.pre
    have hts : ∀ w ∈ lw_tbl, w.before #[Value.ref b] s = true := k2_hts_sels lw_privs (fun w hw => hts0 w (List.mem_cons_of_mem _ hw)) lw_privs_ok
    have hml : c.maxLocals = 4 := B.maxLocals_eq (hts0 _ List.mem_cons_self)
    have X₀ : Stand p l e room_1 s m #[Value.ref b] below meth c s₁ [] 0 0 := Stand.of_body B
    have hh0 : s₁.heap = s.heap := by rw [B.state]; rfl
    have hsz : scr.slots.size = xs.length := by rw [← Array.length_toList, hlist, List.length_map]
    have hval : ∀ j : Nat, j < xs.length → scr.slots[j]? = some (.int (xs.getD j 0)) := fun j hj => by
      rw [← Array.getElem?_toList, hlist]
      simp [hj]
    have hbl : b < s.heap.size := (Array.getElem?_eq_some_iff.mp hcb).1
    have hX : va_X b xs.length (fun j => xs.getD j 0) s s.heap := ⟨scr, hcb, hof, hkn, hsz, hval⟩
    have K : W p l e room_1 s m #[Value.ref b] below meth c s₁.heap [] 0 0 (lw_Z below #[Value.ref b] s) (entryFrame m ([Value.ref b] : List Value).toArray 4) := by
      rw [hh0]
      exact whole_start l hflags hbd ⟨B.exec, B.bytes, B.returns, hml, hown, hts, hX, hbl, B.notSynchronized, hgv⟩
    obtain ⟨t, a1, o, b1, b2, b3⟩ := K s₁ rfl X₀
    exact ⟨t, o, a1, b1, b2, b3⟩
theorem lw_pre_spec {args : Array Value} {s : State} (h : (Jvm.Cond.and given_1 narrow_1).before args s = true) (hr : rest_1_c.before args s = true) : ∃ (b : Addr) (xs : List Int32), lw_P b xs args s := by
  have hs := flat_of_before _ h
  have hq := flat_of_before _ hr
  have hc : (Cond.count 1).before args s = true := hs _ (by decide +kernel)
  have harr : (Cond.arrayOf (.arg 0) .int).before args s = true := hs _ (by decide +kernel)
  have hle : (Cond.le (.length (.arg 0)) (.int 3072)).before args s = true := hs _ (by decide +kernel)
  have hlen : (Cond.isInt (.length (.arg 0))).before args s = true := hq _ (by decide +kernel)
  have hall : (Cond.all (.arg 0) (.isInt (.elem (.arg 0) (.index 0)))).before args s = true := hq _ (by decide +kernel)
  obtain ⟨b, xs, hb, hx⟩ := State.ints_of_pre rfl harr hlen hall
  have hsm : xs.length < 2 ^ 31 := hx.choose_spec.2.2.2
  have hev : (Term.length (.arg 0)).eval args s none [] s = some (.int xs.length.toInt32) := hx.length_eval hb
  have hv := Cond.le_ints hev (show (Term.int 3072).eval args s none [] s = some (.int 3072) from rfl)
  have hd : xs.length.toInt32 ≤ 3072 := by
    simpa [Cond.before, Cond.holds, hv] using hle
  have hN : xs.length ≤ 3072 := (Int32.ofNat_le_ofNat hsm (by decide)).mp (show Int32.ofNat xs.length ≤ Int32.ofNat 3072 from hd)
  exact ⟨b, xs, Cond.one_arg hc (show args[0]? = some (.ref b) from hb), hx, hN, h⟩
theorem lw_comes (l : Launch) (hflags : l.flags = flags0) : Comes l x (Jvm.Cond.code x code maxLocals ret :: tables_1) room_1 (fun tb e args s => Calls_1 tb e args s ∧ rest_1 tb e args s ∧ Pre_1 tb e args s)
    (fun _ _ args s o t => lw_Q args s o t) := by
  intro p e ha hc hk s m args below hf hfit hheap happ hpre
  obtain ⟨b, xs, hP⟩ := lw_pre_spec hpre.2.2 hpre.2.1
  obtain ⟨k, o, h1, h2, h3, hQ⟩ := lw_walk l hflags b xs p e ha hc hk s m args below hf ((Spec.applies_iff_loose hf).mp happ).1 hP trivial
  exact ⟨k, o, h1, h2, h3, hQ⟩
theorem lw_frame {s t : State} {o : Outcome} {args : Array Value} (h : Framed s o t [] 600000 7302250) :
    Framed s o t (fieldLocs frame_1_writes args s ++ arrayLocs frame_1_arrays args s ++ staticLocs frame_1_statics s) 600000 7302250 := h
theorem lw_limb (L : Cond) (hL : ∀ (args : Array Value) (s t : State), L.after args s (.returned (some (.int 1))) t = true) :
    ArmFor flags0 classFile x code maxLocals ret World_1 tables_1 room_1 Calls_1 rest_1 Pre_1
      (fun tb e a s o t => postC L tb e a s o t ∧ Framed s o t (fieldLocs frame_1_writes a s ++ arrayLocs frame_1_arrays a s ++ staticLocs frame_1_statics s) 600000 7302250) := by
  intro l hflags _ _ p e ha hc hk s m args below hf hfit hheap happ hpre
  obtain ⟨k, o, h1, h2, h3, rfl, hF⟩ := lw_comes l hflags p e ha hc hk s m args below hf hfit hheap happ hpre
  exact ⟨k, _, h1, h2, h3, hL args s _, lw_frame hF⟩
theorem i_vc : Claimed_1_1 ∧ Claimed_1_2 := ⟨lw_limb limb_1_1 (fun args s t => by simp [limb_1_1, Cond.after, Cond.holds, Cond.value]), lw_limb limb_1_2 (fun args s t => Cond.after_iff.mpr (by
  first | (rw [show limb_1_2 = Cond.eq .result (.int 1) from rfl, Cond.eq_ints (x := 1) (y := 1) rfl rfl]; simp; done) | (simp [limb_1_2, Cond.value, Term.eval]; done)))⟩
