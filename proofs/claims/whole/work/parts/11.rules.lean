theorem wk_iconst {l : Launch} {G : xG} {n : Nat} {own : String} {cc : ByteArray} {nL : Nat} {ret : Option FieldType} {Φ : Option Value → xS → Prop} {pc : Nat} {lv : List (Nat × Value)} {st : List Value} {σ : xS} {z : Int} {v : Int32} (hd : decode cc pc = .ok (.iconst z, 1)) (hv : Int32.ofInt z = v) (kk : wk l G n own cc nL ret Φ (pc + 1) lv (.int v :: st) σ) : wk l G n own cc nL ret Φ pc lv (st) σ := by
  intro p e s m args below meth c hx hb hr hml ho ht hk hO H locs ls hl hP hS
  exact lv_iconst hx hb hd hv (kk p e s m args below meth c hx hb hr hml ho ht hk hO H locs ls hl hP hS)
theorem wk_bipush {l : Launch} {G : xG} {n : Nat} {own : String} {cc : ByteArray} {nL : Nat} {ret : Option FieldType} {Φ : Option Value → xS → Prop} {pc : Nat} {lv : List (Nat × Value)} {st : List Value} {σ : xS} {z : Int} {v : Int32} (hd : decode cc pc = .ok (.bipush z, 2)) (hv : (Int8.ofInt z).toInt32 = v) (kk : wk l G n own cc nL ret Φ (pc + 2) lv (.int v :: st) σ) : wk l G n own cc nL ret Φ pc lv (st) σ := by
  intro p e s m args below meth c hx hb hr hml ho ht hk hO H locs ls hl hP hS
  exact lv_bipush hx hb hd hv (kk p e s m args below meth c hx hb hr hml ho ht hk hO H locs ls hl hP hS)
theorem wk_sipush {l : Launch} {G : xG} {n : Nat} {own : String} {cc : ByteArray} {nL : Nat} {ret : Option FieldType} {Φ : Option Value → xS → Prop} {pc : Nat} {lv : List (Nat × Value)} {st : List Value} {σ : xS} {z : Int} {v : Int32} (hd : decode cc pc = .ok (.sipush z, 3)) (hv : (Int16.ofInt z).toInt32 = v) (kk : wk l G n own cc nL ret Φ (pc + 3) lv (.int v :: st) σ) : wk l G n own cc nL ret Φ pc lv (st) σ := by
  intro p e s m args below meth c hx hb hr hml ho ht hk hO H locs ls hl hP hS
  exact lv_sipush hx hb hd hv (kk p e s m args below meth c hx hb hr hml ho ht hk hO H locs ls hl hP hS)
theorem wk_ldc {l : Launch} {G : xG} {n : Nat} {own : String} {cc : ByteArray} {nL : Nat} {ret : Option FieldType} {Φ : Option Value → xS → Prop} {pc : Nat} {lv : List (Nat × Value)} {st : List Value} {σ : xS} {i : Nat} {v : Int32} (hd : decode cc pc = .ok (.ldc i, 2)) (hw : Cond.constant own i v ∈ xT) (kk : wk l G n own cc nL ret Φ (pc + 2) lv (.int v :: st) σ) : wk l G n own cc nL ret Φ pc lv (st) σ := by
  intro p e s m args below meth c hx hb hr hml ho ht hk hO H locs ls hl hP hS
  exact lv_ldc hx hb ho (ht _ hw) hd (kk p e s m args below meth c hx hb hr hml ho ht hk hO H locs ls hl hP hS)
theorem wk_ldcw {l : Launch} {G : xG} {n : Nat} {own : String} {cc : ByteArray} {nL : Nat} {ret : Option FieldType} {Φ : Option Value → xS → Prop} {pc : Nat} {lv : List (Nat × Value)} {st : List Value} {σ : xS} {i : Nat} {v : Int32} (hd : decode cc pc = .ok (.ldc_w i, 3)) (hw : Cond.constant own i v ∈ xT) (kk : wk l G n own cc nL ret Φ (pc + 3) lv (.int v :: st) σ) : wk l G n own cc nL ret Φ pc lv (st) σ := by
  intro p e s m args below meth c hx hb hr hml ho ht hk hO H locs ls hl hP hS
  exact lv_ldcw hx hb ho (ht _ hw) hd (kk p e s m args below meth c hx hb hr hml ho ht hk hO H locs ls hl hP hS)
theorem wk_ldc2 {l : Launch} {G : xG} {n : Nat} {own : String} {cc : ByteArray} {nL : Nat} {ret : Option FieldType} {Φ : Option Value → xS → Prop} {pc : Nat} {lv : List (Nat × Value)} {st : List Value} {σ : xS} {i : Nat} {v : Int64} (hd : decode cc pc = .ok (.ldc2_w i, 3)) (hw : Cond.constantLong own i v ∈ xT) (kk : wk l G n own cc nL ret Φ (pc + 3) lv (.long v :: st) σ) : wk l G n own cc nL ret Φ pc lv (st) σ := by
  intro p e s m args below meth c hx hb hr hml ho ht hk hO H locs ls hl hP hS
  exact lv_ldc2 hx hb ho (ht _ hw) hd (kk p e s m args below meth c hx hb hr hml ho ht hk hO H locs ls hl hP hS)
theorem wk_iload_n {l : Launch} {G : xG} {n : Nat} {own : String} {cc : ByteArray} {nL : Nat} {ret : Option FieldType} {Φ : Option Value → xS → Prop} {pc : Nat} {lv : List (Nat × Value)} {st : List Value} {σ : xS} {f : Fin 4} {i : Nat} {x : Int32} (hd : decode cc pc = .ok (.iload_n f, 1)) (hi : (f : Nat) = i) (j : Nat) (hj : lv[j]? = some (i, .int x)) (kk : wk l G n own cc nL ret Φ (pc + 1) lv (.int x :: st) σ) : wk l G n own cc nL ret Φ pc lv (st) σ := by
  intro p e s m args below meth c hx hb hr hml ho ht hk hO H locs ls hl hP hS
  exact lv_iload_n hx hb hd hi (lv_at hl j hj) (kk p e s m args below meth c hx hb hr hml ho ht hk hO H locs ls hl hP hS)
theorem wk_iload {l : Launch} {G : xG} {n : Nat} {own : String} {cc : ByteArray} {nL : Nat} {ret : Option FieldType} {Φ : Option Value → xS → Prop} {pc : Nat} {lv : List (Nat × Value)} {st : List Value} {σ : xS} {i : Nat} {x : Int32} (hd : decode cc pc = .ok (.iload i, 2)) (j : Nat) (hj : lv[j]? = some (i, .int x)) (kk : wk l G n own cc nL ret Φ (pc + 2) lv (.int x :: st) σ) : wk l G n own cc nL ret Φ pc lv (st) σ := by
  intro p e s m args below meth c hx hb hr hml ho ht hk hO H locs ls hl hP hS
  exact lv_iload hx hb hd (lv_at hl j hj) (kk p e s m args below meth c hx hb hr hml ho ht hk hO H locs ls hl hP hS)
theorem wk_lload_n {l : Launch} {G : xG} {n : Nat} {own : String} {cc : ByteArray} {nL : Nat} {ret : Option FieldType} {Φ : Option Value → xS → Prop} {pc : Nat} {lv : List (Nat × Value)} {st : List Value} {σ : xS} {f : Fin 4} {i : Nat} {x : Int64} (hd : decode cc pc = .ok (.lload_n f, 1)) (hi : (f : Nat) = i) (j : Nat) (hj : lv[j]? = some (i, .long x)) (kk : wk l G n own cc nL ret Φ (pc + 1) lv (.long x :: st) σ) : wk l G n own cc nL ret Φ pc lv (st) σ := by
  intro p e s m args below meth c hx hb hr hml ho ht hk hO H locs ls hl hP hS
  exact lv_lload_n hx hb hd hi (lv_at hl j hj) (kk p e s m args below meth c hx hb hr hml ho ht hk hO H locs ls hl hP hS)
theorem wk_lload {l : Launch} {G : xG} {n : Nat} {own : String} {cc : ByteArray} {nL : Nat} {ret : Option FieldType} {Φ : Option Value → xS → Prop} {pc : Nat} {lv : List (Nat × Value)} {st : List Value} {σ : xS} {i : Nat} {x : Int64} (hd : decode cc pc = .ok (.lload i, 2)) (j : Nat) (hj : lv[j]? = some (i, .long x)) (kk : wk l G n own cc nL ret Φ (pc + 2) lv (.long x :: st) σ) : wk l G n own cc nL ret Φ pc lv (st) σ := by
  intro p e s m args below meth c hx hb hr hml ho ht hk hO H locs ls hl hP hS
  exact lv_lload hx hb hd (lv_at hl j hj) (kk p e s m args below meth c hx hb hr hml ho ht hk hO H locs ls hl hP hS)
theorem wk_aload_n {l : Launch} {G : xG} {n : Nat} {own : String} {cc : ByteArray} {nL : Nat} {ret : Option FieldType} {Φ : Option Value → xS → Prop} {pc : Nat} {lv : List (Nat × Value)} {st : List Value} {σ : xS} {f : Fin 4} {i : Nat} {x : Nat} (hd : decode cc pc = .ok (.aload_n f, 1)) (hi : (f : Nat) = i) (j : Nat) (hj : lv[j]? = some (i, .ref x)) (kk : wk l G n own cc nL ret Φ (pc + 1) lv (.ref x :: st) σ) : wk l G n own cc nL ret Φ pc lv (st) σ := by
  intro p e s m args below meth c hx hb hr hml ho ht hk hO H locs ls hl hP hS
  exact lv_aload_n hx hb hd hi (lv_at hl j hj) (kk p e s m args below meth c hx hb hr hml ho ht hk hO H locs ls hl hP hS)
theorem wk_aload {l : Launch} {G : xG} {n : Nat} {own : String} {cc : ByteArray} {nL : Nat} {ret : Option FieldType} {Φ : Option Value → xS → Prop} {pc : Nat} {lv : List (Nat × Value)} {st : List Value} {σ : xS} {i : Nat} {x : Nat} (hd : decode cc pc = .ok (.aload i, 2)) (j : Nat) (hj : lv[j]? = some (i, .ref x)) (kk : wk l G n own cc nL ret Φ (pc + 2) lv (.ref x :: st) σ) : wk l G n own cc nL ret Φ pc lv (st) σ := by
  intro p e s m args below meth c hx hb hr hml ho ht hk hO H locs ls hl hP hS
  exact lv_aload hx hb hd (lv_at hl j hj) (kk p e s m args below meth c hx hb hr hml ho ht hk hO H locs ls hl hP hS)
theorem wk_istore_n {l : Launch} {G : xG} {n : Nat} {own : String} {cc : ByteArray} {nL : Nat} {ret : Option FieldType} {Φ : Option Value → xS → Prop} {pc : Nat} {lv : List (Nat × Value)} {st : List Value} {σ : xS} {f : Fin 4} {i : Nat} {x : Int32} {lv' : List (Nat × Value)} (hd : decode cc pc = .ok (.istore_n f, 1)) (hi : (f : Nat) = i) (hn : i < nL) (hf : (i, Value.int x) :: lv.filter (fun q => !(q.1 == i) && !(q.1 + 1 == i && q.2.category == 2)) = lv') (kk : wk l G n own cc nL ret Φ (pc + 1) lv' st σ) : wk l G n own cc nL ret Φ pc lv (.int x :: st) σ := by
  intro p e s m args below meth c hx hb hr hml ho ht hk hO H locs ls hl hP hS
  exact lv_istore_n hx hb hd hi hl hn hf (fun ls hl => kk p e s m args below meth c hx hb hr hml ho ht hk hO H locs ls hl hP hS)
theorem wk_istore {l : Launch} {G : xG} {n : Nat} {own : String} {cc : ByteArray} {nL : Nat} {ret : Option FieldType} {Φ : Option Value → xS → Prop} {pc : Nat} {lv : List (Nat × Value)} {st : List Value} {σ : xS} {i : Nat} {x : Int32} {lv' : List (Nat × Value)} (hd : decode cc pc = .ok (.istore i, 2)) (hn : i < nL) (hf : (i, Value.int x) :: lv.filter (fun q => !(q.1 == i) && !(q.1 + 1 == i && q.2.category == 2)) = lv') (kk : wk l G n own cc nL ret Φ (pc + 2) lv' st σ) : wk l G n own cc nL ret Φ pc lv (.int x :: st) σ := by
  intro p e s m args below meth c hx hb hr hml ho ht hk hO H locs ls hl hP hS
  exact lv_istore hx hb hd hl hn hf (fun ls hl => kk p e s m args below meth c hx hb hr hml ho ht hk hO H locs ls hl hP hS)
theorem wk_astore_n {l : Launch} {G : xG} {n : Nat} {own : String} {cc : ByteArray} {nL : Nat} {ret : Option FieldType} {Φ : Option Value → xS → Prop} {pc : Nat} {lv : List (Nat × Value)} {st : List Value} {σ : xS} {f : Fin 4} {i : Nat} {x : Nat} {lv' : List (Nat × Value)} (hd : decode cc pc = .ok (.astore_n f, 1)) (hi : (f : Nat) = i) (hn : i < nL) (hf : (i, Value.ref x) :: lv.filter (fun q => !(q.1 == i) && !(q.1 + 1 == i && q.2.category == 2)) = lv') (kk : wk l G n own cc nL ret Φ (pc + 1) lv' st σ) : wk l G n own cc nL ret Φ pc lv (.ref x :: st) σ := by
  intro p e s m args below meth c hx hb hr hml ho ht hk hO H locs ls hl hP hS
  exact lv_astore_n hx hb hd hi hl hn hf (fun ls hl => kk p e s m args below meth c hx hb hr hml ho ht hk hO H locs ls hl hP hS)
theorem wk_astore {l : Launch} {G : xG} {n : Nat} {own : String} {cc : ByteArray} {nL : Nat} {ret : Option FieldType} {Φ : Option Value → xS → Prop} {pc : Nat} {lv : List (Nat × Value)} {st : List Value} {σ : xS} {i : Nat} {x : Nat} {lv' : List (Nat × Value)} (hd : decode cc pc = .ok (.astore i, 2)) (hn : i < nL) (hf : (i, Value.ref x) :: lv.filter (fun q => !(q.1 == i) && !(q.1 + 1 == i && q.2.category == 2)) = lv') (kk : wk l G n own cc nL ret Φ (pc + 2) lv' st σ) : wk l G n own cc nL ret Φ pc lv (.ref x :: st) σ := by
  intro p e s m args below meth c hx hb hr hml ho ht hk hO H locs ls hl hP hS
  exact lv_astore hx hb hd hl hn hf (fun ls hl => kk p e s m args below meth c hx hb hr hml ho ht hk hO H locs ls hl hP hS)
theorem wk_iinc {l : Launch} {G : xG} {n : Nat} {own : String} {cc : ByteArray} {nL : Nat} {ret : Option FieldType} {Φ : Option Value → xS → Prop} {pc : Nat} {lv : List (Nat × Value)} {st : List Value} {σ : xS} {i : Nat} {z : Int} {x v : Int32} {lv' : List (Nat × Value)} (hd : decode cc pc = .ok (.iinc i z, 3)) (j : Nat) (hj : lv[j]? = some (i, .int x)) (hv : x + Int32.ofInt z = v) (hn : i < nL) (hf : (i, Value.int v) :: lv.filter (fun q => !(q.1 == i) && !(q.1 + 1 == i && q.2.category == 2)) = lv') (kk : wk l G n own cc nL ret Φ (pc + 3) lv' st σ) : wk l G n own cc nL ret Φ pc lv st σ := by
  intro p e s m args below meth c hx hb hr hml ho ht hk hO H locs ls hl hP hS
  exact lv_iinc hx hb hd hl hj hv hn hf (fun ls hl => kk p e s m args below meth c hx hb hr hml ho ht hk hO H locs ls hl hP hS)
theorem wk_top {l : Launch} {G : xG} {n : Nat} {own : String} {cc : ByteArray} {nL : Nat} {ret : Option FieldType} {Φ : Option Value → xS → Prop} {pc : Nat} {lv : List (Nat × Value)} {st : List Value} {σ : xS} {x y : Int32} (h : y = x) (kk : wk l G n own cc nL ret Φ pc lv (.int y :: st) σ) : wk l G n own cc nL ret Φ pc lv (.int x :: st) σ := by
  intro p e s m args below meth c hx hb hr hml ho ht hk hO H locs ls hl hP hS
  subst h
  exact kk p e s m args below meth c hx hb hr hml ho ht hk hO H locs ls hl hP hS
theorem wk_topR {l : Launch} {G : xG} {n : Nat} {own : String} {cc : ByteArray} {nL : Nat} {ret : Option FieldType} {Φ : Option Value → xS → Prop} {pc : Nat} {lv : List (Nat × Value)} {st : List Value} {σ : xS} {x y : Nat} (h : y = x) (kk : wk l G n own cc nL ret Φ pc lv (.ref (gA G y) :: st) σ) : wk l G n own cc nL ret Φ pc lv (.ref (gA G x) :: st) σ := by
  intro p e s m args below meth c hx hb hr hml ho ht hk hO H locs ls hl hP hS
  subst h
  exact kk p e s m args below meth c hx hb hr hml ho ht hk hO H locs ls hl hP hS
theorem wk_sig {l : Launch} {G : xG} {n : Nat} {own : String} {cc : ByteArray} {nL : Nat} {ret : Option FieldType} {Φ : Option Value → xS → Prop} {pc : Nat} {lv : List (Nat × Value)} {st : List Value} {σ : xS} {σ' : xS} (h : σ' = σ) (kk : wk l G n own cc nL ret Φ pc lv st σ') : wk l G n own cc nL ret Φ pc lv st σ := by
  intro p e s m args below meth c hx hb hr hml ho ht hk hO H locs ls hl hP hS
  subst h
  exact kk p e s m args below meth c hx hb hr hml ho ht hk hO H locs ls hl hP hS
theorem wk_lv {l : Launch} {G : xG} {n : Nat} {own : String} {cc : ByteArray} {nL : Nat} {ret : Option FieldType} {Φ : Option Value → xS → Prop} {pc : Nat} {lv : List (Nat × Value)} {st : List Value} {σ : xS} {lv' : List (Nat × Value)} (is : List Nat) (hf : lv_pick lv is = lv') (kk : wk l G n own cc nL ret Φ pc lv' st σ) : wk l G n own cc nL ret Φ pc lv st σ := by
  intro p e s m args below meth c hx hb hr hml ho ht hk hO H locs ls hl hP hS
  exact kk p e s m args below meth c hx hb hr hml ho ht hk hO H locs ls (lv_sub hl is hf) hP hS
theorem wk_iadd {l : Launch} {G : xG} {n : Nat} {own : String} {cc : ByteArray} {nL : Nat} {ret : Option FieldType} {Φ : Option Value → xS → Prop} {pc : Nat} {lv : List (Nat × Value)} {st : List Value} {σ : xS} {x y : Int32} (hd : decode cc pc = .ok (.iadd, 1))  (kk : wk l G n own cc nL ret Φ (pc + 1) lv (.int (x + y) :: st) σ) : wk l G n own cc nL ret Φ pc lv (.int y :: .int x :: st) σ := by
  intro p e s m args below meth c hx hb hr hml ho ht hk hO H locs ls hl hP hS
  exact lv_iadd hx hb hd (kk p e s m args below meth c hx hb hr hml ho ht hk hO H locs ls hl hP hS)
theorem wk_isub {l : Launch} {G : xG} {n : Nat} {own : String} {cc : ByteArray} {nL : Nat} {ret : Option FieldType} {Φ : Option Value → xS → Prop} {pc : Nat} {lv : List (Nat × Value)} {st : List Value} {σ : xS} {x y : Int32} (hd : decode cc pc = .ok (.isub, 1))  (kk : wk l G n own cc nL ret Φ (pc + 1) lv (.int (x - y) :: st) σ) : wk l G n own cc nL ret Φ pc lv (.int y :: .int x :: st) σ := by
  intro p e s m args below meth c hx hb hr hml ho ht hk hO H locs ls hl hP hS
  exact lv_isub hx hb hd (kk p e s m args below meth c hx hb hr hml ho ht hk hO H locs ls hl hP hS)
theorem wk_imul {l : Launch} {G : xG} {n : Nat} {own : String} {cc : ByteArray} {nL : Nat} {ret : Option FieldType} {Φ : Option Value → xS → Prop} {pc : Nat} {lv : List (Nat × Value)} {st : List Value} {σ : xS} {x y : Int32} (hd : decode cc pc = .ok (.imul, 1))  (kk : wk l G n own cc nL ret Φ (pc + 1) lv (.int (x * y) :: st) σ) : wk l G n own cc nL ret Φ pc lv (.int y :: .int x :: st) σ := by
  intro p e s m args below meth c hx hb hr hml ho ht hk hO H locs ls hl hP hS
  exact lv_imul hx hb hd (kk p e s m args below meth c hx hb hr hml ho ht hk hO H locs ls hl hP hS)
theorem wk_iand {l : Launch} {G : xG} {n : Nat} {own : String} {cc : ByteArray} {nL : Nat} {ret : Option FieldType} {Φ : Option Value → xS → Prop} {pc : Nat} {lv : List (Nat × Value)} {st : List Value} {σ : xS} {x y : Int32} (hd : decode cc pc = .ok (.iand, 1))  (kk : wk l G n own cc nL ret Φ (pc + 1) lv (.int (x &&& y) :: st) σ) : wk l G n own cc nL ret Φ pc lv (.int y :: .int x :: st) σ := by
  intro p e s m args below meth c hx hb hr hml ho ht hk hO H locs ls hl hP hS
  exact lv_iand hx hb hd (kk p e s m args below meth c hx hb hr hml ho ht hk hO H locs ls hl hP hS)
theorem wk_ior {l : Launch} {G : xG} {n : Nat} {own : String} {cc : ByteArray} {nL : Nat} {ret : Option FieldType} {Φ : Option Value → xS → Prop} {pc : Nat} {lv : List (Nat × Value)} {st : List Value} {σ : xS} {x y : Int32} (hd : decode cc pc = .ok (.ior, 1))  (kk : wk l G n own cc nL ret Φ (pc + 1) lv (.int (x ||| y) :: st) σ) : wk l G n own cc nL ret Φ pc lv (.int y :: .int x :: st) σ := by
  intro p e s m args below meth c hx hb hr hml ho ht hk hO H locs ls hl hP hS
  exact lv_ior hx hb hd (kk p e s m args below meth c hx hb hr hml ho ht hk hO H locs ls hl hP hS)
theorem wk_ixor {l : Launch} {G : xG} {n : Nat} {own : String} {cc : ByteArray} {nL : Nat} {ret : Option FieldType} {Φ : Option Value → xS → Prop} {pc : Nat} {lv : List (Nat × Value)} {st : List Value} {σ : xS} {x y : Int32} (hd : decode cc pc = .ok (.ixor, 1))  (kk : wk l G n own cc nL ret Φ (pc + 1) lv (.int (x ^^^ y) :: st) σ) : wk l G n own cc nL ret Φ pc lv (.int y :: .int x :: st) σ := by
  intro p e s m args below meth c hx hb hr hml ho ht hk hO H locs ls hl hP hS
  exact lv_ixor hx hb hd (kk p e s m args below meth c hx hb hr hml ho ht hk hO H locs ls hl hP hS)
theorem wk_ishl {l : Launch} {G : xG} {n : Nat} {own : String} {cc : ByteArray} {nL : Nat} {ret : Option FieldType} {Φ : Option Value → xS → Prop} {pc : Nat} {lv : List (Nat × Value)} {st : List Value} {σ : xS} {x y : Int32} (hd : decode cc pc = .ok (.ishl, 1))  (kk : wk l G n own cc nL ret Φ (pc + 1) lv (.int (x <<< (y &&& 31)) :: st) σ) : wk l G n own cc nL ret Φ pc lv (.int y :: .int x :: st) σ := by
  intro p e s m args below meth c hx hb hr hml ho ht hk hO H locs ls hl hP hS
  exact lv_ishl hx hb hd (kk p e s m args below meth c hx hb hr hml ho ht hk hO H locs ls hl hP hS)
theorem wk_ishr {l : Launch} {G : xG} {n : Nat} {own : String} {cc : ByteArray} {nL : Nat} {ret : Option FieldType} {Φ : Option Value → xS → Prop} {pc : Nat} {lv : List (Nat × Value)} {st : List Value} {σ : xS} {x y : Int32} (hd : decode cc pc = .ok (.ishr, 1))  (kk : wk l G n own cc nL ret Φ (pc + 1) lv (.int (x >>> (y &&& 31)) :: st) σ) : wk l G n own cc nL ret Φ pc lv (.int y :: .int x :: st) σ := by
  intro p e s m args below meth c hx hb hr hml ho ht hk hO H locs ls hl hP hS
  exact lv_ishr hx hb hd (kk p e s m args below meth c hx hb hr hml ho ht hk hO H locs ls hl hP hS)
theorem wk_iushr {l : Launch} {G : xG} {n : Nat} {own : String} {cc : ByteArray} {nL : Nat} {ret : Option FieldType} {Φ : Option Value → xS → Prop} {pc : Nat} {lv : List (Nat × Value)} {st : List Value} {σ : xS} {x y : Int32} (hd : decode cc pc = .ok (.iushr, 1))  (kk : wk l G n own cc nL ret Φ (pc + 1) lv (.int ((x.toUInt32 >>> (y.toUInt32 &&& Int32.toUInt32 31)).toInt32) :: st) σ) : wk l G n own cc nL ret Φ pc lv (.int y :: .int x :: st) σ := by
  intro p e s m args below meth c hx hb hr hml ho ht hk hO H locs ls hl hP hS
  exact lv_iushr hx hb hd rfl (kk p e s m args below meth c hx hb hr hml ho ht hk hO H locs ls hl hP hS)
theorem wk_idiv {l : Launch} {G : xG} {n : Nat} {own : String} {cc : ByteArray} {nL : Nat} {ret : Option FieldType} {Φ : Option Value → xS → Prop} {pc : Nat} {lv : List (Nat × Value)} {st : List Value} {σ : xS} {x y : Int32} (hd : decode cc pc = .ok (.idiv, 1)) (hne : ¬ y = 0) (kk : wk l G n own cc nL ret Φ (pc + 1) lv (.int (x / y) :: st) σ) : wk l G n own cc nL ret Φ pc lv (.int y :: .int x :: st) σ := by
  intro p e s m args below meth c hx hb hr hml ho ht hk hO H locs ls hl hP hS
  exact lv_idiv hx hb hd hne (kk p e s m args below meth c hx hb hr hml ho ht hk hO H locs ls hl hP hS)
theorem wk_irem {l : Launch} {G : xG} {n : Nat} {own : String} {cc : ByteArray} {nL : Nat} {ret : Option FieldType} {Φ : Option Value → xS → Prop} {pc : Nat} {lv : List (Nat × Value)} {st : List Value} {σ : xS} {x y : Int32} (hd : decode cc pc = .ok (.irem, 1)) (hne : ¬ y = 0) (kk : wk l G n own cc nL ret Φ (pc + 1) lv (.int (x - x / y * y) :: st) σ) : wk l G n own cc nL ret Φ pc lv (.int y :: .int x :: st) σ := by
  intro p e s m args below meth c hx hb hr hml ho ht hk hO H locs ls hl hP hS
  exact lv_irem hx hb hd hne (kk p e s m args below meth c hx hb hr hml ho ht hk hO H locs ls hl hP hS)
theorem wk_ineg {l : Launch} {G : xG} {n : Nat} {own : String} {cc : ByteArray} {nL : Nat} {ret : Option FieldType} {Φ : Option Value → xS → Prop} {pc : Nat} {lv : List (Nat × Value)} {st : List Value} {σ : xS} {x : Int32} (hd : decode cc pc = .ok (.ineg, 1))  (kk : wk l G n own cc nL ret Φ (pc + 1) lv (.int (-x) :: st) σ) : wk l G n own cc nL ret Φ pc lv (.int x :: st) σ := by
  intro p e s m args below meth c hx hb hr hml ho ht hk hO H locs ls hl hP hS
  exact lv_ineg hx hb hd (kk p e s m args below meth c hx hb hr hml ho ht hk hO H locs ls hl hP hS)
theorem wk_i2l {l : Launch} {G : xG} {n : Nat} {own : String} {cc : ByteArray} {nL : Nat} {ret : Option FieldType} {Φ : Option Value → xS → Prop} {pc : Nat} {lv : List (Nat × Value)} {st : List Value} {σ : xS} {x : Int32} (hd : decode cc pc = .ok (.i2l, 1))  (kk : wk l G n own cc nL ret Φ (pc + 1) lv (.long x.toInt64 :: st) σ) : wk l G n own cc nL ret Φ pc lv (.int x :: st) σ := by
  intro p e s m args below meth c hx hb hr hml ho ht hk hO H locs ls hl hP hS
  exact lv_i2l hx hb hd rfl (kk p e s m args below meth c hx hb hr hml ho ht hk hO H locs ls hl hP hS)
theorem wk_l2i {l : Launch} {G : xG} {n : Nat} {own : String} {cc : ByteArray} {nL : Nat} {ret : Option FieldType} {Φ : Option Value → xS → Prop} {pc : Nat} {lv : List (Nat × Value)} {st : List Value} {σ : xS} {x : Int64} (hd : decode cc pc = .ok (.l2i, 1))  (kk : wk l G n own cc nL ret Φ (pc + 1) lv (.int x.toInt32 :: st) σ) : wk l G n own cc nL ret Φ pc lv (.long x :: st) σ := by
  intro p e s m args below meth c hx hb hr hml ho ht hk hO H locs ls hl hP hS
  exact lv_l2i hx hb hd rfl (kk p e s m args below meth c hx hb hr hml ho ht hk hO H locs ls hl hP hS)
theorem wk_i2b {l : Launch} {G : xG} {n : Nat} {own : String} {cc : ByteArray} {nL : Nat} {ret : Option FieldType} {Φ : Option Value → xS → Prop} {pc : Nat} {lv : List (Nat × Value)} {st : List Value} {σ : xS} {x : Int32} (hd : decode cc pc = .ok (.i2b, 1))  (kk : wk l G n own cc nL ret Φ (pc + 1) lv (.int x.toInt8.toInt32 :: st) σ) : wk l G n own cc nL ret Φ pc lv (.int x :: st) σ := by
  intro p e s m args below meth c hx hb hr hml ho ht hk hO H locs ls hl hP hS
  exact lv_i2b hx hb hd rfl (kk p e s m args below meth c hx hb hr hml ho ht hk hO H locs ls hl hP hS)
theorem wk_i2s {l : Launch} {G : xG} {n : Nat} {own : String} {cc : ByteArray} {nL : Nat} {ret : Option FieldType} {Φ : Option Value → xS → Prop} {pc : Nat} {lv : List (Nat × Value)} {st : List Value} {σ : xS} {x : Int32} (hd : decode cc pc = .ok (.i2s, 1))  (kk : wk l G n own cc nL ret Φ (pc + 1) lv (.int x.toInt16.toInt32 :: st) σ) : wk l G n own cc nL ret Φ pc lv (.int x :: st) σ := by
  intro p e s m args below meth c hx hb hr hml ho ht hk hO H locs ls hl hP hS
  exact lv_i2s hx hb hd rfl (kk p e s m args below meth c hx hb hr hml ho ht hk hO H locs ls hl hP hS)
theorem wk_i2c {l : Launch} {G : xG} {n : Nat} {own : String} {cc : ByteArray} {nL : Nat} {ret : Option FieldType} {Φ : Option Value → xS → Prop} {pc : Nat} {lv : List (Nat × Value)} {st : List Value} {σ : xS} {x : Int32} (hd : decode cc pc = .ok (.i2c, 1))  (kk : wk l G n own cc nL ret Φ (pc + 1) lv (.int (x.toUInt32 % 65536).toInt32 :: st) σ) : wk l G n own cc nL ret Φ pc lv (.int x :: st) σ := by
  intro p e s m args below meth c hx hb hr hml ho ht hk hO H locs ls hl hP hS
  exact lv_i2c hx hb hd rfl (kk p e s m args below meth c hx hb hr hml ho ht hk hO H locs ls hl hP hS)
theorem wk_ladd {l : Launch} {G : xG} {n : Nat} {own : String} {cc : ByteArray} {nL : Nat} {ret : Option FieldType} {Φ : Option Value → xS → Prop} {pc : Nat} {lv : List (Nat × Value)} {st : List Value} {σ : xS} {x y : Int64} (hd : decode cc pc = .ok (.ladd, 1))  (kk : wk l G n own cc nL ret Φ (pc + 1) lv (.long (x + y) :: st) σ) : wk l G n own cc nL ret Φ pc lv (.long y :: .long x :: st) σ := by
  intro p e s m args below meth c hx hb hr hml ho ht hk hO H locs ls hl hP hS
  exact lv_ladd hx hb hd (kk p e s m args below meth c hx hb hr hml ho ht hk hO H locs ls hl hP hS)
theorem wk_land {l : Launch} {G : xG} {n : Nat} {own : String} {cc : ByteArray} {nL : Nat} {ret : Option FieldType} {Φ : Option Value → xS → Prop} {pc : Nat} {lv : List (Nat × Value)} {st : List Value} {σ : xS} {x y : Int64} (hd : decode cc pc = .ok (.land, 1))  (kk : wk l G n own cc nL ret Φ (pc + 1) lv (.long (x &&& y) :: st) σ) : wk l G n own cc nL ret Φ pc lv (.long y :: .long x :: st) σ := by
  intro p e s m args below meth c hx hb hr hml ho ht hk hO H locs ls hl hP hS
  exact lv_land hx hb hd (kk p e s m args below meth c hx hb hr hml ho ht hk hO H locs ls hl hP hS)
theorem wk_lshr {l : Launch} {G : xG} {n : Nat} {own : String} {cc : ByteArray} {nL : Nat} {ret : Option FieldType} {Φ : Option Value → xS → Prop} {pc : Nat} {lv : List (Nat × Value)} {st : List Value} {σ : xS} {x : Int64} {y : Int32} (hd : decode cc pc = .ok (.lshr, 1))  (kk : wk l G n own cc nL ret Φ (pc + 1) lv (.long (x >>> (y.toInt64 &&& 63)) :: st) σ) : wk l G n own cc nL ret Φ pc lv (.int y :: .long x :: st) σ := by
  intro p e s m args below meth c hx hb hr hml ho ht hk hO H locs ls hl hP hS
  exact lv_lshr hx hb hd rfl (kk p e s m args below meth c hx hb hr hml ho ht hk hO H locs ls hl hP hS)
theorem wk_lushr {l : Launch} {G : xG} {n : Nat} {own : String} {cc : ByteArray} {nL : Nat} {ret : Option FieldType} {Φ : Option Value → xS → Prop} {pc : Nat} {lv : List (Nat × Value)} {st : List Value} {σ : xS} {x : Int64} {y : Int32} (hd : decode cc pc = .ok (.lushr, 1))  (kk : wk l G n own cc nL ret Φ (pc + 1) lv (.long ((x.toUInt64 >>> (y.toInt64.toUInt64 &&& Int64.toUInt64 63)).toInt64) :: st) σ) : wk l G n own cc nL ret Φ pc lv (.int y :: .long x :: st) σ := by
  intro p e s m args below meth c hx hb hr hml ho ht hk hO H locs ls hl hP hS
  exact lv_lushr hx hb hd rfl (kk p e s m args below meth c hx hb hr hml ho ht hk hO H locs ls hl hP hS)
theorem wk_lcmp {l : Launch} {G : xG} {n : Nat} {own : String} {cc : ByteArray} {nL : Nat} {ret : Option FieldType} {Φ : Option Value → xS → Prop} {pc : Nat} {lv : List (Nat × Value)} {st : List Value} {σ : xS} {x y : Int64} (hd : decode cc pc = .ok (.lcmp, 1))  (kk : wk l G n own cc nL ret Φ (pc + 1) lv (.int (lg_cmp x y) :: st) σ) : wk l G n own cc nL ret Φ pc lv (.long y :: .long x :: st) σ := by
  intro p e s m args below meth c hx hb hr hml ho ht hk hO H locs ls hl hP hS
  exact W.lcmp hx hb hd (kk p e s m args below meth c hx hb hr hml ho ht hk hO H locs ls hl hP hS)
theorem wk_dup {l : Launch} {G : xG} {n : Nat} {own : String} {cc : ByteArray} {nL : Nat} {ret : Option FieldType} {Φ : Option Value → xS → Prop} {pc : Nat} {lv : List (Nat × Value)} {st : List Value} {σ : xS} {v : Value} (hd : decode cc pc = .ok (.dup, 1)) (hv : v.category = 1) (kk : wk l G n own cc nL ret Φ (pc + 1) lv (v :: v :: st) σ) : wk l G n own cc nL ret Φ pc lv (v :: st) σ := by
  intro p e s m args below meth c hx hb hr hml ho ht hk hO H locs ls hl hP hS
  exact lv_dup hx hb hd hv (kk p e s m args below meth c hx hb hr hml ho ht hk hO H locs ls hl hP hS)
theorem wk_pop {l : Launch} {G : xG} {n : Nat} {own : String} {cc : ByteArray} {nL : Nat} {ret : Option FieldType} {Φ : Option Value → xS → Prop} {pc : Nat} {lv : List (Nat × Value)} {st : List Value} {σ : xS} {v : Value} (hd : decode cc pc = .ok (.pop, 1)) (hv : v.category = 1) (kk : wk l G n own cc nL ret Φ (pc + 1) lv (st) σ) : wk l G n own cc nL ret Φ pc lv (v :: st) σ := by
  intro p e s m args below meth c hx hb hr hml ho ht hk hO H locs ls hl hP hS
  exact lv_pop hx hb hd hv (kk p e s m args below meth c hx hb hr hml ho ht hk hO H locs ls hl hP hS)
theorem wk_dup2 {l : Launch} {G : xG} {n : Nat} {own : String} {cc : ByteArray} {nL : Nat} {ret : Option FieldType} {Φ : Option Value → xS → Prop} {pc : Nat} {lv : List (Nat × Value)} {st : List Value} {σ : xS} {v w : Value} (hd : decode cc pc = .ok (.dup2, 1)) (hv : v.category = 1) (hw : w.category = 1) (kk : wk l G n own cc nL ret Φ (pc + 1) lv (v :: w :: v :: w :: st) σ) : wk l G n own cc nL ret Φ pc lv (v :: w :: st) σ := by
  intro p e s m args below meth c hx hb hr hml ho ht hk hO H locs ls hl hP hS
  exact lv_dup2_11 hx hb hd hv hw (kk p e s m args below meth c hx hb hr hml ho ht hk hO H locs ls hl hP hS)
theorem wk_goto {l : Launch} {G : xG} {n : Nat} {own : String} {cc : ByteArray} {nL : Nat} {ret : Option FieldType} {Φ : Option Value → xS → Prop} {pc : Nat} {lv : List (Nat × Value)} {st : List Value} {σ : xS} {off : Int} {tgt : Nat} (hd : decode cc pc = .ok (.goto off, 3)) (hg : (pc : Int) + off = (tgt : Int)) (kk : wk l G n own cc nL ret Φ tgt lv st σ) : wk l G n own cc nL ret Φ pc lv st σ := by
  intro p e s m args below meth c hx hb hr hml ho ht hk hO H locs ls hl hP hS
  exact lv_goto hx hb hd hg (kk p e s m args below meth c hx hb hr hml ho ht hk hO H locs ls hl hP hS)
theorem wk_icmp_eq {l : Launch} {G : xG} {n : Nat} {own : String} {cc : ByteArray} {nL : Nat} {ret : Option FieldType} {Φ : Option Value → xS → Prop} {pc : Nat} {lv : List (Nat × Value)} {st : List Value} {σ : xS} {x y : Int32} {β : Type} {A B : Option β} {r : Option β} {off : Int} {tgt : Nat} (hd : decode cc pc = .ok (.if_icmp .eq off, 3)) (hg : (pc : Int) + off = (tgt : Int)) (hf : (if x = y then A else B) = r) (kt : A = r → wk l G n own cc nL ret Φ tgt lv st σ) (kf : B = r → wk l G n own cc nL ret Φ (pc + 3) lv st σ) : wk l G n own cc nL ret Φ pc lv (.int y :: .int x :: st) σ := by
  intro p e s m args below meth c hx hb hr hml ho ht hk hO H locs ls hl hP hS
  refine lv_icmp_eq hx hb hd hg (fun h => ?_) (fun h => ?_)
  · rw [if_pos h] at hf; exact kt hf p e s m args below meth c hx hb hr hml ho ht hk hO H locs ls hl hP hS
  · rw [if_neg h] at hf; exact kf hf p e s m args below meth c hx hb hr hml ho ht hk hO H locs ls hl hP hS
theorem wk_if_eq {l : Launch} {G : xG} {n : Nat} {own : String} {cc : ByteArray} {nL : Nat} {ret : Option FieldType} {Φ : Option Value → xS → Prop} {pc : Nat} {lv : List (Nat × Value)} {st : List Value} {σ : xS} {x : Int32} {β : Type} {A B : Option β} {r : Option β} {off : Int} {tgt : Nat} (hd : decode cc pc = .ok (.ifCond .eq off, 3)) (hg : (pc : Int) + off = (tgt : Int)) (hf : (if x = 0 then A else B) = r) (kt : A = r → wk l G n own cc nL ret Φ tgt lv st σ) (kf : B = r → wk l G n own cc nL ret Φ (pc + 3) lv st σ) : wk l G n own cc nL ret Φ pc lv (.int x :: st) σ := by
  intro p e s m args below meth c hx hb hr hml ho ht hk hO H locs ls hl hP hS
  refine lv_if_eq hx hb hd hg (fun h => ?_) (fun h => ?_)
  · rw [if_pos h] at hf; exact kt hf p e s m args below meth c hx hb hr hml ho ht hk hO H locs ls hl hP hS
  · rw [if_neg h] at hf; exact kf hf p e s m args below meth c hx hb hr hml ho ht hk hO H locs ls hl hP hS
theorem wk_icmp_ne {l : Launch} {G : xG} {n : Nat} {own : String} {cc : ByteArray} {nL : Nat} {ret : Option FieldType} {Φ : Option Value → xS → Prop} {pc : Nat} {lv : List (Nat × Value)} {st : List Value} {σ : xS} {x y : Int32} {β : Type} {A B : Option β} {r : Option β} {off : Int} {tgt : Nat} (hd : decode cc pc = .ok (.if_icmp .ne off, 3)) (hg : (pc : Int) + off = (tgt : Int)) (hf : (if x = y then A else B) = r) (kt : B = r → wk l G n own cc nL ret Φ tgt lv st σ) (kf : A = r → wk l G n own cc nL ret Φ (pc + 3) lv st σ) : wk l G n own cc nL ret Φ pc lv (.int y :: .int x :: st) σ := by
  intro p e s m args below meth c hx hb hr hml ho ht hk hO H locs ls hl hP hS
  refine lv_icmp_ne hx hb hd hg (fun h => ?_) (fun h => ?_)
  · rw [if_neg h] at hf; exact kt hf p e s m args below meth c hx hb hr hml ho ht hk hO H locs ls hl hP hS
  · rw [if_pos h] at hf; exact kf hf p e s m args below meth c hx hb hr hml ho ht hk hO H locs ls hl hP hS
theorem wk_if_ne {l : Launch} {G : xG} {n : Nat} {own : String} {cc : ByteArray} {nL : Nat} {ret : Option FieldType} {Φ : Option Value → xS → Prop} {pc : Nat} {lv : List (Nat × Value)} {st : List Value} {σ : xS} {x : Int32} {β : Type} {A B : Option β} {r : Option β} {off : Int} {tgt : Nat} (hd : decode cc pc = .ok (.ifCond .ne off, 3)) (hg : (pc : Int) + off = (tgt : Int)) (hf : (if x = 0 then A else B) = r) (kt : B = r → wk l G n own cc nL ret Φ tgt lv st σ) (kf : A = r → wk l G n own cc nL ret Φ (pc + 3) lv st σ) : wk l G n own cc nL ret Φ pc lv (.int x :: st) σ := by
  intro p e s m args below meth c hx hb hr hml ho ht hk hO H locs ls hl hP hS
  refine lv_if_ne hx hb hd hg (fun h => ?_) (fun h => ?_)
  · rw [if_neg h] at hf; exact kt hf p e s m args below meth c hx hb hr hml ho ht hk hO H locs ls hl hP hS
  · rw [if_pos h] at hf; exact kf hf p e s m args below meth c hx hb hr hml ho ht hk hO H locs ls hl hP hS
theorem wk_icmp_lt {l : Launch} {G : xG} {n : Nat} {own : String} {cc : ByteArray} {nL : Nat} {ret : Option FieldType} {Φ : Option Value → xS → Prop} {pc : Nat} {lv : List (Nat × Value)} {st : List Value} {σ : xS} {x y : Int32} {β : Type} {A B : Option β} {r : Option β} {off : Int} {tgt : Nat} (hd : decode cc pc = .ok (.if_icmp .lt off, 3)) (hg : (pc : Int) + off = (tgt : Int)) (hf : (if x < y then A else B) = r) (kt : A = r → wk l G n own cc nL ret Φ tgt lv st σ) (kf : B = r → wk l G n own cc nL ret Φ (pc + 3) lv st σ) : wk l G n own cc nL ret Φ pc lv (.int y :: .int x :: st) σ := by
  intro p e s m args below meth c hx hb hr hml ho ht hk hO H locs ls hl hP hS
  refine lv_icmp_lt hx hb hd hg (fun h => ?_) (fun h => ?_)
  · rw [if_pos h] at hf; exact kt hf p e s m args below meth c hx hb hr hml ho ht hk hO H locs ls hl hP hS
  · rw [if_neg h] at hf; exact kf hf p e s m args below meth c hx hb hr hml ho ht hk hO H locs ls hl hP hS
theorem wk_if_lt {l : Launch} {G : xG} {n : Nat} {own : String} {cc : ByteArray} {nL : Nat} {ret : Option FieldType} {Φ : Option Value → xS → Prop} {pc : Nat} {lv : List (Nat × Value)} {st : List Value} {σ : xS} {x : Int32} {β : Type} {A B : Option β} {r : Option β} {off : Int} {tgt : Nat} (hd : decode cc pc = .ok (.ifCond .lt off, 3)) (hg : (pc : Int) + off = (tgt : Int)) (hf : (if x < 0 then A else B) = r) (kt : A = r → wk l G n own cc nL ret Φ tgt lv st σ) (kf : B = r → wk l G n own cc nL ret Φ (pc + 3) lv st σ) : wk l G n own cc nL ret Φ pc lv (.int x :: st) σ := by
  intro p e s m args below meth c hx hb hr hml ho ht hk hO H locs ls hl hP hS
  refine lv_if_lt hx hb hd hg (fun h => ?_) (fun h => ?_)
  · rw [if_pos h] at hf; exact kt hf p e s m args below meth c hx hb hr hml ho ht hk hO H locs ls hl hP hS
  · rw [if_neg h] at hf; exact kf hf p e s m args below meth c hx hb hr hml ho ht hk hO H locs ls hl hP hS
theorem wk_icmp_ge {l : Launch} {G : xG} {n : Nat} {own : String} {cc : ByteArray} {nL : Nat} {ret : Option FieldType} {Φ : Option Value → xS → Prop} {pc : Nat} {lv : List (Nat × Value)} {st : List Value} {σ : xS} {x y : Int32} {β : Type} {A B : Option β} {r : Option β} {off : Int} {tgt : Nat} (hd : decode cc pc = .ok (.if_icmp .ge off, 3)) (hg : (pc : Int) + off = (tgt : Int)) (hf : (if y ≤ x then A else B) = r) (kt : A = r → wk l G n own cc nL ret Φ tgt lv st σ) (kf : B = r → wk l G n own cc nL ret Φ (pc + 3) lv st σ) : wk l G n own cc nL ret Φ pc lv (.int y :: .int x :: st) σ := by
  intro p e s m args below meth c hx hb hr hml ho ht hk hO H locs ls hl hP hS
  refine lv_icmp_ge hx hb hd hg (fun h => ?_) (fun h => ?_)
  · rw [if_pos h] at hf; exact kt hf p e s m args below meth c hx hb hr hml ho ht hk hO H locs ls hl hP hS
  · rw [if_neg h] at hf; exact kf hf p e s m args below meth c hx hb hr hml ho ht hk hO H locs ls hl hP hS
theorem wk_if_ge {l : Launch} {G : xG} {n : Nat} {own : String} {cc : ByteArray} {nL : Nat} {ret : Option FieldType} {Φ : Option Value → xS → Prop} {pc : Nat} {lv : List (Nat × Value)} {st : List Value} {σ : xS} {x : Int32} {β : Type} {A B : Option β} {r : Option β} {off : Int} {tgt : Nat} (hd : decode cc pc = .ok (.ifCond .ge off, 3)) (hg : (pc : Int) + off = (tgt : Int)) (hf : (if 0 ≤ x then A else B) = r) (kt : A = r → wk l G n own cc nL ret Φ tgt lv st σ) (kf : B = r → wk l G n own cc nL ret Φ (pc + 3) lv st σ) : wk l G n own cc nL ret Φ pc lv (.int x :: st) σ := by
  intro p e s m args below meth c hx hb hr hml ho ht hk hO H locs ls hl hP hS
  refine lv_if_ge hx hb hd hg (fun h => ?_) (fun h => ?_)
  · rw [if_pos h] at hf; exact kt hf p e s m args below meth c hx hb hr hml ho ht hk hO H locs ls hl hP hS
  · rw [if_neg h] at hf; exact kf hf p e s m args below meth c hx hb hr hml ho ht hk hO H locs ls hl hP hS
theorem wk_icmp_gt {l : Launch} {G : xG} {n : Nat} {own : String} {cc : ByteArray} {nL : Nat} {ret : Option FieldType} {Φ : Option Value → xS → Prop} {pc : Nat} {lv : List (Nat × Value)} {st : List Value} {σ : xS} {x y : Int32} {β : Type} {A B : Option β} {r : Option β} {off : Int} {tgt : Nat} (hd : decode cc pc = .ok (.if_icmp .gt off, 3)) (hg : (pc : Int) + off = (tgt : Int)) (hf : (if y < x then A else B) = r) (kt : A = r → wk l G n own cc nL ret Φ tgt lv st σ) (kf : B = r → wk l G n own cc nL ret Φ (pc + 3) lv st σ) : wk l G n own cc nL ret Φ pc lv (.int y :: .int x :: st) σ := by
  intro p e s m args below meth c hx hb hr hml ho ht hk hO H locs ls hl hP hS
  refine lv_icmp_gt hx hb hd hg (fun h => ?_) (fun h => ?_)
  · rw [if_pos h] at hf; exact kt hf p e s m args below meth c hx hb hr hml ho ht hk hO H locs ls hl hP hS
  · rw [if_neg h] at hf; exact kf hf p e s m args below meth c hx hb hr hml ho ht hk hO H locs ls hl hP hS
theorem wk_if_gt {l : Launch} {G : xG} {n : Nat} {own : String} {cc : ByteArray} {nL : Nat} {ret : Option FieldType} {Φ : Option Value → xS → Prop} {pc : Nat} {lv : List (Nat × Value)} {st : List Value} {σ : xS} {x : Int32} {β : Type} {A B : Option β} {r : Option β} {off : Int} {tgt : Nat} (hd : decode cc pc = .ok (.ifCond .gt off, 3)) (hg : (pc : Int) + off = (tgt : Int)) (hf : (if 0 < x then A else B) = r) (kt : A = r → wk l G n own cc nL ret Φ tgt lv st σ) (kf : B = r → wk l G n own cc nL ret Φ (pc + 3) lv st σ) : wk l G n own cc nL ret Φ pc lv (.int x :: st) σ := by
  intro p e s m args below meth c hx hb hr hml ho ht hk hO H locs ls hl hP hS
  refine lv_if_gt hx hb hd hg (fun h => ?_) (fun h => ?_)
  · rw [if_pos h] at hf; exact kt hf p e s m args below meth c hx hb hr hml ho ht hk hO H locs ls hl hP hS
  · rw [if_neg h] at hf; exact kf hf p e s m args below meth c hx hb hr hml ho ht hk hO H locs ls hl hP hS
theorem wk_icmp_le {l : Launch} {G : xG} {n : Nat} {own : String} {cc : ByteArray} {nL : Nat} {ret : Option FieldType} {Φ : Option Value → xS → Prop} {pc : Nat} {lv : List (Nat × Value)} {st : List Value} {σ : xS} {x y : Int32} {β : Type} {A B : Option β} {r : Option β} {off : Int} {tgt : Nat} (hd : decode cc pc = .ok (.if_icmp .le off, 3)) (hg : (pc : Int) + off = (tgt : Int)) (hf : (if x ≤ y then A else B) = r) (kt : A = r → wk l G n own cc nL ret Φ tgt lv st σ) (kf : B = r → wk l G n own cc nL ret Φ (pc + 3) lv st σ) : wk l G n own cc nL ret Φ pc lv (.int y :: .int x :: st) σ := by
  intro p e s m args below meth c hx hb hr hml ho ht hk hO H locs ls hl hP hS
  refine lv_icmp_le hx hb hd hg (fun h => ?_) (fun h => ?_)
  · rw [if_pos h] at hf; exact kt hf p e s m args below meth c hx hb hr hml ho ht hk hO H locs ls hl hP hS
  · rw [if_neg h] at hf; exact kf hf p e s m args below meth c hx hb hr hml ho ht hk hO H locs ls hl hP hS
theorem wk_if_le {l : Launch} {G : xG} {n : Nat} {own : String} {cc : ByteArray} {nL : Nat} {ret : Option FieldType} {Φ : Option Value → xS → Prop} {pc : Nat} {lv : List (Nat × Value)} {st : List Value} {σ : xS} {x : Int32} {β : Type} {A B : Option β} {r : Option β} {off : Int} {tgt : Nat} (hd : decode cc pc = .ok (.ifCond .le off, 3)) (hg : (pc : Int) + off = (tgt : Int)) (hf : (if x ≤ 0 then A else B) = r) (kt : A = r → wk l G n own cc nL ret Φ tgt lv st σ) (kf : B = r → wk l G n own cc nL ret Φ (pc + 3) lv st σ) : wk l G n own cc nL ret Φ pc lv (.int x :: st) σ := by
  intro p e s m args below meth c hx hb hr hml ho ht hk hO H locs ls hl hP hS
  refine lv_if_le hx hb hd hg (fun h => ?_) (fun h => ?_)
  · rw [if_pos h] at hf; exact kt hf p e s m args below meth c hx hb hr hml ho ht hk hO H locs ls hl hP hS
  · rw [if_neg h] at hf; exact kf hf p e s m args below meth c hx hb hr hml ho ht hk hO H locs ls hl hP hS
theorem wk_icmp_eq_p {l : Launch} {G : xG} {n : Nat} {own : String} {cc : ByteArray} {nL : Nat} {ret : Option FieldType} {Φ : Option Value → xS → Prop} {pc : Nat} {lv : List (Nat × Value)} {st : List Value} {σ : xS} {x y : Int32} {off : Int} {tgt : Nat} (hd : decode cc pc = .ok (.if_icmp .eq off, 3)) (hg : (pc : Int) + off = (tgt : Int)) (q9 : x = y) (kk : wk l G n own cc nL ret Φ tgt lv st σ) : wk l G n own cc nL ret Φ pc lv (.int y :: .int x :: st) σ := by
  intro p e s m args below meth c hx hb hr hml ho ht hk hO H locs ls hl hP hS
  refine lv_icmp_eq hx hb hd hg (fun h => ?_) (fun h => ?_)
  · exact kk p e s m args below meth c hx hb hr hml ho ht hk hO H locs ls hl hP hS
  · exact absurd q9 h
theorem wk_icmp_eq_m {l : Launch} {G : xG} {n : Nat} {own : String} {cc : ByteArray} {nL : Nat} {ret : Option FieldType} {Φ : Option Value → xS → Prop} {pc : Nat} {lv : List (Nat × Value)} {st : List Value} {σ : xS} {x y : Int32} {off : Int} {tgt : Nat} (hd : decode cc pc = .ok (.if_icmp .eq off, 3)) (hg : (pc : Int) + off = (tgt : Int)) (q9 : ¬ x = y) (kk : wk l G n own cc nL ret Φ (pc + 3) lv st σ) : wk l G n own cc nL ret Φ pc lv (.int y :: .int x :: st) σ := by
  intro p e s m args below meth c hx hb hr hml ho ht hk hO H locs ls hl hP hS
  refine lv_icmp_eq hx hb hd hg (fun h => ?_) (fun h => ?_)
  · exact absurd h q9
  · exact kk p e s m args below meth c hx hb hr hml ho ht hk hO H locs ls hl hP hS
theorem wk_if_eq_p {l : Launch} {G : xG} {n : Nat} {own : String} {cc : ByteArray} {nL : Nat} {ret : Option FieldType} {Φ : Option Value → xS → Prop} {pc : Nat} {lv : List (Nat × Value)} {st : List Value} {σ : xS} {x : Int32} {off : Int} {tgt : Nat} (hd : decode cc pc = .ok (.ifCond .eq off, 3)) (hg : (pc : Int) + off = (tgt : Int)) (q9 : x = 0) (kk : wk l G n own cc nL ret Φ tgt lv st σ) : wk l G n own cc nL ret Φ pc lv (.int x :: st) σ := by
  intro p e s m args below meth c hx hb hr hml ho ht hk hO H locs ls hl hP hS
  refine lv_if_eq hx hb hd hg (fun h => ?_) (fun h => ?_)
  · exact kk p e s m args below meth c hx hb hr hml ho ht hk hO H locs ls hl hP hS
  · exact absurd q9 h
theorem wk_if_eq_m {l : Launch} {G : xG} {n : Nat} {own : String} {cc : ByteArray} {nL : Nat} {ret : Option FieldType} {Φ : Option Value → xS → Prop} {pc : Nat} {lv : List (Nat × Value)} {st : List Value} {σ : xS} {x : Int32} {off : Int} {tgt : Nat} (hd : decode cc pc = .ok (.ifCond .eq off, 3)) (hg : (pc : Int) + off = (tgt : Int)) (q9 : ¬ x = 0) (kk : wk l G n own cc nL ret Φ (pc + 3) lv st σ) : wk l G n own cc nL ret Φ pc lv (.int x :: st) σ := by
  intro p e s m args below meth c hx hb hr hml ho ht hk hO H locs ls hl hP hS
  refine lv_if_eq hx hb hd hg (fun h => ?_) (fun h => ?_)
  · exact absurd h q9
  · exact kk p e s m args below meth c hx hb hr hml ho ht hk hO H locs ls hl hP hS
theorem wk_icmp_ne_p {l : Launch} {G : xG} {n : Nat} {own : String} {cc : ByteArray} {nL : Nat} {ret : Option FieldType} {Φ : Option Value → xS → Prop} {pc : Nat} {lv : List (Nat × Value)} {st : List Value} {σ : xS} {x y : Int32} {off : Int} {tgt : Nat} (hd : decode cc pc = .ok (.if_icmp .ne off, 3)) (hg : (pc : Int) + off = (tgt : Int)) (q9 : x = y) (kk : wk l G n own cc nL ret Φ (pc + 3) lv st σ) : wk l G n own cc nL ret Φ pc lv (.int y :: .int x :: st) σ := by
  intro p e s m args below meth c hx hb hr hml ho ht hk hO H locs ls hl hP hS
  refine lv_icmp_ne hx hb hd hg (fun h => ?_) (fun h => ?_)
  · exact absurd q9 h
  · exact kk p e s m args below meth c hx hb hr hml ho ht hk hO H locs ls hl hP hS
theorem wk_icmp_ne_m {l : Launch} {G : xG} {n : Nat} {own : String} {cc : ByteArray} {nL : Nat} {ret : Option FieldType} {Φ : Option Value → xS → Prop} {pc : Nat} {lv : List (Nat × Value)} {st : List Value} {σ : xS} {x y : Int32} {off : Int} {tgt : Nat} (hd : decode cc pc = .ok (.if_icmp .ne off, 3)) (hg : (pc : Int) + off = (tgt : Int)) (q9 : ¬ x = y) (kk : wk l G n own cc nL ret Φ tgt lv st σ) : wk l G n own cc nL ret Φ pc lv (.int y :: .int x :: st) σ := by
  intro p e s m args below meth c hx hb hr hml ho ht hk hO H locs ls hl hP hS
  refine lv_icmp_ne hx hb hd hg (fun h => ?_) (fun h => ?_)
  · exact kk p e s m args below meth c hx hb hr hml ho ht hk hO H locs ls hl hP hS
  · exact absurd h q9
theorem wk_if_ne_p {l : Launch} {G : xG} {n : Nat} {own : String} {cc : ByteArray} {nL : Nat} {ret : Option FieldType} {Φ : Option Value → xS → Prop} {pc : Nat} {lv : List (Nat × Value)} {st : List Value} {σ : xS} {x : Int32} {off : Int} {tgt : Nat} (hd : decode cc pc = .ok (.ifCond .ne off, 3)) (hg : (pc : Int) + off = (tgt : Int)) (q9 : x = 0) (kk : wk l G n own cc nL ret Φ (pc + 3) lv st σ) : wk l G n own cc nL ret Φ pc lv (.int x :: st) σ := by
  intro p e s m args below meth c hx hb hr hml ho ht hk hO H locs ls hl hP hS
  refine lv_if_ne hx hb hd hg (fun h => ?_) (fun h => ?_)
  · exact absurd q9 h
  · exact kk p e s m args below meth c hx hb hr hml ho ht hk hO H locs ls hl hP hS
theorem wk_if_ne_m {l : Launch} {G : xG} {n : Nat} {own : String} {cc : ByteArray} {nL : Nat} {ret : Option FieldType} {Φ : Option Value → xS → Prop} {pc : Nat} {lv : List (Nat × Value)} {st : List Value} {σ : xS} {x : Int32} {off : Int} {tgt : Nat} (hd : decode cc pc = .ok (.ifCond .ne off, 3)) (hg : (pc : Int) + off = (tgt : Int)) (q9 : ¬ x = 0) (kk : wk l G n own cc nL ret Φ tgt lv st σ) : wk l G n own cc nL ret Φ pc lv (.int x :: st) σ := by
  intro p e s m args below meth c hx hb hr hml ho ht hk hO H locs ls hl hP hS
  refine lv_if_ne hx hb hd hg (fun h => ?_) (fun h => ?_)
  · exact kk p e s m args below meth c hx hb hr hml ho ht hk hO H locs ls hl hP hS
  · exact absurd h q9
theorem wk_icmp_lt_p {l : Launch} {G : xG} {n : Nat} {own : String} {cc : ByteArray} {nL : Nat} {ret : Option FieldType} {Φ : Option Value → xS → Prop} {pc : Nat} {lv : List (Nat × Value)} {st : List Value} {σ : xS} {x y : Int32} {off : Int} {tgt : Nat} (hd : decode cc pc = .ok (.if_icmp .lt off, 3)) (hg : (pc : Int) + off = (tgt : Int)) (q9 : x < y) (kk : wk l G n own cc nL ret Φ tgt lv st σ) : wk l G n own cc nL ret Φ pc lv (.int y :: .int x :: st) σ := by
  intro p e s m args below meth c hx hb hr hml ho ht hk hO H locs ls hl hP hS
  refine lv_icmp_lt hx hb hd hg (fun h => ?_) (fun h => ?_)
  · exact kk p e s m args below meth c hx hb hr hml ho ht hk hO H locs ls hl hP hS
  · exact absurd q9 h
theorem wk_icmp_lt_m {l : Launch} {G : xG} {n : Nat} {own : String} {cc : ByteArray} {nL : Nat} {ret : Option FieldType} {Φ : Option Value → xS → Prop} {pc : Nat} {lv : List (Nat × Value)} {st : List Value} {σ : xS} {x y : Int32} {off : Int} {tgt : Nat} (hd : decode cc pc = .ok (.if_icmp .lt off, 3)) (hg : (pc : Int) + off = (tgt : Int)) (q9 : ¬ x < y) (kk : wk l G n own cc nL ret Φ (pc + 3) lv st σ) : wk l G n own cc nL ret Φ pc lv (.int y :: .int x :: st) σ := by
  intro p e s m args below meth c hx hb hr hml ho ht hk hO H locs ls hl hP hS
  refine lv_icmp_lt hx hb hd hg (fun h => ?_) (fun h => ?_)
  · exact absurd h q9
  · exact kk p e s m args below meth c hx hb hr hml ho ht hk hO H locs ls hl hP hS
theorem wk_if_lt_p {l : Launch} {G : xG} {n : Nat} {own : String} {cc : ByteArray} {nL : Nat} {ret : Option FieldType} {Φ : Option Value → xS → Prop} {pc : Nat} {lv : List (Nat × Value)} {st : List Value} {σ : xS} {x : Int32} {off : Int} {tgt : Nat} (hd : decode cc pc = .ok (.ifCond .lt off, 3)) (hg : (pc : Int) + off = (tgt : Int)) (q9 : x < 0) (kk : wk l G n own cc nL ret Φ tgt lv st σ) : wk l G n own cc nL ret Φ pc lv (.int x :: st) σ := by
  intro p e s m args below meth c hx hb hr hml ho ht hk hO H locs ls hl hP hS
  refine lv_if_lt hx hb hd hg (fun h => ?_) (fun h => ?_)
  · exact kk p e s m args below meth c hx hb hr hml ho ht hk hO H locs ls hl hP hS
  · exact absurd q9 h
theorem wk_if_lt_m {l : Launch} {G : xG} {n : Nat} {own : String} {cc : ByteArray} {nL : Nat} {ret : Option FieldType} {Φ : Option Value → xS → Prop} {pc : Nat} {lv : List (Nat × Value)} {st : List Value} {σ : xS} {x : Int32} {off : Int} {tgt : Nat} (hd : decode cc pc = .ok (.ifCond .lt off, 3)) (hg : (pc : Int) + off = (tgt : Int)) (q9 : ¬ x < 0) (kk : wk l G n own cc nL ret Φ (pc + 3) lv st σ) : wk l G n own cc nL ret Φ pc lv (.int x :: st) σ := by
  intro p e s m args below meth c hx hb hr hml ho ht hk hO H locs ls hl hP hS
  refine lv_if_lt hx hb hd hg (fun h => ?_) (fun h => ?_)
  · exact absurd h q9
  · exact kk p e s m args below meth c hx hb hr hml ho ht hk hO H locs ls hl hP hS
theorem wk_icmp_ge_p {l : Launch} {G : xG} {n : Nat} {own : String} {cc : ByteArray} {nL : Nat} {ret : Option FieldType} {Φ : Option Value → xS → Prop} {pc : Nat} {lv : List (Nat × Value)} {st : List Value} {σ : xS} {x y : Int32} {off : Int} {tgt : Nat} (hd : decode cc pc = .ok (.if_icmp .ge off, 3)) (hg : (pc : Int) + off = (tgt : Int)) (q9 : y ≤ x) (kk : wk l G n own cc nL ret Φ tgt lv st σ) : wk l G n own cc nL ret Φ pc lv (.int y :: .int x :: st) σ := by
  intro p e s m args below meth c hx hb hr hml ho ht hk hO H locs ls hl hP hS
  refine lv_icmp_ge hx hb hd hg (fun h => ?_) (fun h => ?_)
  · exact kk p e s m args below meth c hx hb hr hml ho ht hk hO H locs ls hl hP hS
  · exact absurd q9 h
theorem wk_icmp_ge_m {l : Launch} {G : xG} {n : Nat} {own : String} {cc : ByteArray} {nL : Nat} {ret : Option FieldType} {Φ : Option Value → xS → Prop} {pc : Nat} {lv : List (Nat × Value)} {st : List Value} {σ : xS} {x y : Int32} {off : Int} {tgt : Nat} (hd : decode cc pc = .ok (.if_icmp .ge off, 3)) (hg : (pc : Int) + off = (tgt : Int)) (q9 : ¬ y ≤ x) (kk : wk l G n own cc nL ret Φ (pc + 3) lv st σ) : wk l G n own cc nL ret Φ pc lv (.int y :: .int x :: st) σ := by
  intro p e s m args below meth c hx hb hr hml ho ht hk hO H locs ls hl hP hS
  refine lv_icmp_ge hx hb hd hg (fun h => ?_) (fun h => ?_)
  · exact absurd h q9
  · exact kk p e s m args below meth c hx hb hr hml ho ht hk hO H locs ls hl hP hS
theorem wk_if_ge_p {l : Launch} {G : xG} {n : Nat} {own : String} {cc : ByteArray} {nL : Nat} {ret : Option FieldType} {Φ : Option Value → xS → Prop} {pc : Nat} {lv : List (Nat × Value)} {st : List Value} {σ : xS} {x : Int32} {off : Int} {tgt : Nat} (hd : decode cc pc = .ok (.ifCond .ge off, 3)) (hg : (pc : Int) + off = (tgt : Int)) (q9 : 0 ≤ x) (kk : wk l G n own cc nL ret Φ tgt lv st σ) : wk l G n own cc nL ret Φ pc lv (.int x :: st) σ := by
  intro p e s m args below meth c hx hb hr hml ho ht hk hO H locs ls hl hP hS
  refine lv_if_ge hx hb hd hg (fun h => ?_) (fun h => ?_)
  · exact kk p e s m args below meth c hx hb hr hml ho ht hk hO H locs ls hl hP hS
  · exact absurd q9 h
theorem wk_if_ge_m {l : Launch} {G : xG} {n : Nat} {own : String} {cc : ByteArray} {nL : Nat} {ret : Option FieldType} {Φ : Option Value → xS → Prop} {pc : Nat} {lv : List (Nat × Value)} {st : List Value} {σ : xS} {x : Int32} {off : Int} {tgt : Nat} (hd : decode cc pc = .ok (.ifCond .ge off, 3)) (hg : (pc : Int) + off = (tgt : Int)) (q9 : ¬ 0 ≤ x) (kk : wk l G n own cc nL ret Φ (pc + 3) lv st σ) : wk l G n own cc nL ret Φ pc lv (.int x :: st) σ := by
  intro p e s m args below meth c hx hb hr hml ho ht hk hO H locs ls hl hP hS
  refine lv_if_ge hx hb hd hg (fun h => ?_) (fun h => ?_)
  · exact absurd h q9
  · exact kk p e s m args below meth c hx hb hr hml ho ht hk hO H locs ls hl hP hS
theorem wk_icmp_gt_p {l : Launch} {G : xG} {n : Nat} {own : String} {cc : ByteArray} {nL : Nat} {ret : Option FieldType} {Φ : Option Value → xS → Prop} {pc : Nat} {lv : List (Nat × Value)} {st : List Value} {σ : xS} {x y : Int32} {off : Int} {tgt : Nat} (hd : decode cc pc = .ok (.if_icmp .gt off, 3)) (hg : (pc : Int) + off = (tgt : Int)) (q9 : y < x) (kk : wk l G n own cc nL ret Φ tgt lv st σ) : wk l G n own cc nL ret Φ pc lv (.int y :: .int x :: st) σ := by
  intro p e s m args below meth c hx hb hr hml ho ht hk hO H locs ls hl hP hS
  refine lv_icmp_gt hx hb hd hg (fun h => ?_) (fun h => ?_)
  · exact kk p e s m args below meth c hx hb hr hml ho ht hk hO H locs ls hl hP hS
  · exact absurd q9 h
theorem wk_icmp_gt_m {l : Launch} {G : xG} {n : Nat} {own : String} {cc : ByteArray} {nL : Nat} {ret : Option FieldType} {Φ : Option Value → xS → Prop} {pc : Nat} {lv : List (Nat × Value)} {st : List Value} {σ : xS} {x y : Int32} {off : Int} {tgt : Nat} (hd : decode cc pc = .ok (.if_icmp .gt off, 3)) (hg : (pc : Int) + off = (tgt : Int)) (q9 : ¬ y < x) (kk : wk l G n own cc nL ret Φ (pc + 3) lv st σ) : wk l G n own cc nL ret Φ pc lv (.int y :: .int x :: st) σ := by
  intro p e s m args below meth c hx hb hr hml ho ht hk hO H locs ls hl hP hS
  refine lv_icmp_gt hx hb hd hg (fun h => ?_) (fun h => ?_)
  · exact absurd h q9
  · exact kk p e s m args below meth c hx hb hr hml ho ht hk hO H locs ls hl hP hS
theorem wk_if_gt_p {l : Launch} {G : xG} {n : Nat} {own : String} {cc : ByteArray} {nL : Nat} {ret : Option FieldType} {Φ : Option Value → xS → Prop} {pc : Nat} {lv : List (Nat × Value)} {st : List Value} {σ : xS} {x : Int32} {off : Int} {tgt : Nat} (hd : decode cc pc = .ok (.ifCond .gt off, 3)) (hg : (pc : Int) + off = (tgt : Int)) (q9 : 0 < x) (kk : wk l G n own cc nL ret Φ tgt lv st σ) : wk l G n own cc nL ret Φ pc lv (.int x :: st) σ := by
  intro p e s m args below meth c hx hb hr hml ho ht hk hO H locs ls hl hP hS
  refine lv_if_gt hx hb hd hg (fun h => ?_) (fun h => ?_)
  · exact kk p e s m args below meth c hx hb hr hml ho ht hk hO H locs ls hl hP hS
  · exact absurd q9 h
theorem wk_if_gt_m {l : Launch} {G : xG} {n : Nat} {own : String} {cc : ByteArray} {nL : Nat} {ret : Option FieldType} {Φ : Option Value → xS → Prop} {pc : Nat} {lv : List (Nat × Value)} {st : List Value} {σ : xS} {x : Int32} {off : Int} {tgt : Nat} (hd : decode cc pc = .ok (.ifCond .gt off, 3)) (hg : (pc : Int) + off = (tgt : Int)) (q9 : ¬ 0 < x) (kk : wk l G n own cc nL ret Φ (pc + 3) lv st σ) : wk l G n own cc nL ret Φ pc lv (.int x :: st) σ := by
  intro p e s m args below meth c hx hb hr hml ho ht hk hO H locs ls hl hP hS
  refine lv_if_gt hx hb hd hg (fun h => ?_) (fun h => ?_)
  · exact absurd h q9
  · exact kk p e s m args below meth c hx hb hr hml ho ht hk hO H locs ls hl hP hS
theorem wk_icmp_le_p {l : Launch} {G : xG} {n : Nat} {own : String} {cc : ByteArray} {nL : Nat} {ret : Option FieldType} {Φ : Option Value → xS → Prop} {pc : Nat} {lv : List (Nat × Value)} {st : List Value} {σ : xS} {x y : Int32} {off : Int} {tgt : Nat} (hd : decode cc pc = .ok (.if_icmp .le off, 3)) (hg : (pc : Int) + off = (tgt : Int)) (q9 : x ≤ y) (kk : wk l G n own cc nL ret Φ tgt lv st σ) : wk l G n own cc nL ret Φ pc lv (.int y :: .int x :: st) σ := by
  intro p e s m args below meth c hx hb hr hml ho ht hk hO H locs ls hl hP hS
  refine lv_icmp_le hx hb hd hg (fun h => ?_) (fun h => ?_)
  · exact kk p e s m args below meth c hx hb hr hml ho ht hk hO H locs ls hl hP hS
  · exact absurd q9 h
theorem wk_icmp_le_m {l : Launch} {G : xG} {n : Nat} {own : String} {cc : ByteArray} {nL : Nat} {ret : Option FieldType} {Φ : Option Value → xS → Prop} {pc : Nat} {lv : List (Nat × Value)} {st : List Value} {σ : xS} {x y : Int32} {off : Int} {tgt : Nat} (hd : decode cc pc = .ok (.if_icmp .le off, 3)) (hg : (pc : Int) + off = (tgt : Int)) (q9 : ¬ x ≤ y) (kk : wk l G n own cc nL ret Φ (pc + 3) lv st σ) : wk l G n own cc nL ret Φ pc lv (.int y :: .int x :: st) σ := by
  intro p e s m args below meth c hx hb hr hml ho ht hk hO H locs ls hl hP hS
  refine lv_icmp_le hx hb hd hg (fun h => ?_) (fun h => ?_)
  · exact absurd h q9
  · exact kk p e s m args below meth c hx hb hr hml ho ht hk hO H locs ls hl hP hS
theorem wk_if_le_p {l : Launch} {G : xG} {n : Nat} {own : String} {cc : ByteArray} {nL : Nat} {ret : Option FieldType} {Φ : Option Value → xS → Prop} {pc : Nat} {lv : List (Nat × Value)} {st : List Value} {σ : xS} {x : Int32} {off : Int} {tgt : Nat} (hd : decode cc pc = .ok (.ifCond .le off, 3)) (hg : (pc : Int) + off = (tgt : Int)) (q9 : x ≤ 0) (kk : wk l G n own cc nL ret Φ tgt lv st σ) : wk l G n own cc nL ret Φ pc lv (.int x :: st) σ := by
  intro p e s m args below meth c hx hb hr hml ho ht hk hO H locs ls hl hP hS
  refine lv_if_le hx hb hd hg (fun h => ?_) (fun h => ?_)
  · exact kk p e s m args below meth c hx hb hr hml ho ht hk hO H locs ls hl hP hS
  · exact absurd q9 h
theorem wk_if_le_m {l : Launch} {G : xG} {n : Nat} {own : String} {cc : ByteArray} {nL : Nat} {ret : Option FieldType} {Φ : Option Value → xS → Prop} {pc : Nat} {lv : List (Nat × Value)} {st : List Value} {σ : xS} {x : Int32} {off : Int} {tgt : Nat} (hd : decode cc pc = .ok (.ifCond .le off, 3)) (hg : (pc : Int) + off = (tgt : Int)) (q9 : ¬ x ≤ 0) (kk : wk l G n own cc nL ret Φ (pc + 3) lv st σ) : wk l G n own cc nL ret Φ pc lv (.int x :: st) σ := by
  intro p e s m args below meth c hx hb hr hml ho ht hk hO H locs ls hl hP hS
  refine lv_if_le hx hb hd hg (fun h => ?_) (fun h => ?_)
  · exact absurd h q9
  · exact kk p e s m args below meth c hx hb hr hml ho ht hk hO H locs ls hl hP hS
theorem wk_lookup {l : Launch} {G : xG} {n : Nat} {own : String} {cc : ByteArray} {nL : Nat} {ret : Option FieldType} {Φ : Option Value → xS → Prop} {pc : Nat} {lv : List (Nat × Value)} {st : List Value} {σ : xS} {dflt : Int} {ps : Array (Int × Int)} {len : Nat} {x : Int32} {off : Int} {tgt : Nat} (hd : decode cc pc = .ok (.lookupswitch dflt ps, len)) (hp : (ps.toList.zip (ps.toList.drop 1)).all (fun (a, next) => a.1 < next.1) = true) (hoff : Op.lookupswitch.offset ps.toList dflt x.toInt = off) (hg : (pc : Int) + off = (tgt : Int)) (kk : wk l G n own cc nL ret Φ tgt lv st σ) : wk l G n own cc nL ret Φ pc lv (.int x :: st) σ := by
  intro p e s m args below meth c hx hb hr hml ho ht hk hO H locs ls hl hP hS
  exact lv_lookup hx hb hd hp hoff hg (kk p e s m args below meth c hx hb hr hml ho ht hk hO H locs ls hl hP hS)
theorem wk_tableIn {l : Launch} {G : xG} {n : Nat} {own : String} {cc : ByteArray} {nL : Nat} {ret : Option FieldType} {Φ : Option Value → xS → Prop} {pc : Nat} {lv : List (Nat × Value)} {st : List Value} {σ : xS} {dflt lo hi : Int} {offs : Array Int} {len : Nat} {x : Int32} {off : Int} {tgt : Nat} (hd : decode cc pc = .ok (.tableswitch dflt lo hi offs, len)) (v : Int32) (hxv : x = v) (h1 : ¬ v.toInt < lo) (h2 : ¬ hi < v.toInt) (hoff : offs[(v.toInt - lo).toNat]? = some off) (hg : (pc : Int) + off = (tgt : Int)) (kk : wk l G n own cc nL ret Φ tgt lv st σ) : wk l G n own cc nL ret Φ pc lv (.int x :: st) σ := by
  intro p e s m args below meth c hx hb hr hml ho ht hk hO H locs ls hl hP hS
  subst hxv
  exact lv_tableIn hx hb hd h1 h2 hoff hg (kk p e s m args below meth c hx hb hr hml ho ht hk hO H locs ls hl hP hS)
theorem wk_tableOut {l : Launch} {G : xG} {n : Nat} {own : String} {cc : ByteArray} {nL : Nat} {ret : Option FieldType} {Φ : Option Value → xS → Prop} {pc : Nat} {lv : List (Nat × Value)} {st : List Value} {σ : xS} {dflt lo hi : Int} {offs : Array Int} {len : Nat} {x : Int32} {tgt : Nat} (hd : decode cc pc = .ok (.tableswitch dflt lo hi offs, len)) (h : x.toInt < lo ∨ hi < x.toInt) (hg : (pc : Int) + dflt = (tgt : Int)) (kk : wk l G n own cc nL ret Φ tgt lv st σ) : wk l G n own cc nL ret Φ pc lv (.int x :: st) σ := by
  intro p e s m args below meth c hx hb hr hml ho ht hk hO H locs ls hl hP hS
  exact lv_tableOut hx hb hd h hg (kk p e s m args below meth c hx hb hr hml ho ht hk hO H locs ls hl hP hS)
theorem wk_getI {l : Launch} {G : xG} {n : Nat} {own : String} {cc : ByteArray} {nL : Nat} {ret : Option FieldType} {Φ : Option Value → xS → Prop} {pc : Nat} {lv : List (Nat × Value)} {st : List Value} {σ : xS} {C : String} {T : u_T} {N ci index k : Nat} {fs : List (Option Nat)} (hd : decode cc pc = .ok (.getfield index, 3)) (hN : k < gN G) (hs : gS G k = .inr (.inl (ci, fs))) (hc : vwCl[ci]? = some (C, T, N)) (hin : ∀ w ∈ u_ws C T N, w ∈ xT) (j : Nat) (hj : j < N) (hw : Cond.fieldLink own index (T j).1 (T j).2.1 (T j).2.2.1 ∈ xT) (hv : fs[j]? = some none) (kk : wk l G n own cc nL ret Φ (pc + 3) lv (.int (σ k j) :: st) σ) : wk l G n own cc nL ret Φ pc lv (.ref (gA G k) :: st) σ := by
  intro p e s m args below meth c hx hb hr hml ho ht hk hO H locs ls hl hP hS
  exact va_get (D := gD G) (ci := ci) (v := .int (σ _ j)) (C := C) (T := T) (N := N) hx hb ht hin ho hO.1 hP _ (xW_atO hN hs) hc j hj (ht _ hw) (fun _ h => h) (xFs_at hv) hd (kk p e s m args below meth c hx hb hr hml ho ht hk hO H locs ls hl hP hS)
theorem wk_getR {l : Launch} {G : xG} {n : Nat} {own : String} {cc : ByteArray} {nL : Nat} {ret : Option FieldType} {Φ : Option Value → xS → Prop} {pc : Nat} {lv : List (Nat × Value)} {st : List Value} {σ : xS} {C : String} {T : u_T} {N ci index k : Nat} {fs : List (Option Nat)} (hd : decode cc pc = .ok (.getfield index, 3)) (hN : k < gN G) (hs : gS G k = .inr (.inl (ci, fs))) (hc : vwCl[ci]? = some (C, T, N)) (hin : ∀ w ∈ u_ws C T N, w ∈ xT) (j : Nat) (hj : j < N) (hw : Cond.fieldLink own index (T j).1 (T j).2.1 (T j).2.2.1 ∈ xT) {k' : Nat} (hv : fs[j]? = some (some k')) (kk : wk l G n own cc nL ret Φ (pc + 3) lv (.ref (gA G k') :: st) σ) : wk l G n own cc nL ret Φ pc lv (.ref (gA G k) :: st) σ := by
  intro p e s m args below meth c hx hb hr hml ho ht hk hO H locs ls hl hP hS
  exact va_get (D := gD G) (ci := ci) (v := .ref (gA G k')) (C := C) (T := T) (N := N) hx hb ht hin ho hO.1 hP _ (xW_atO hN hs) hc j hj (ht _ hw) (fun _ h => h) (xFs_at hv) hd (kk p e s m args below meth c hx hb hr hml ho ht hk hO H locs ls hl hP hS)
theorem wk_putI {l : Launch} {G : xG} {n : Nat} {own : String} {cc : ByteArray} {nL : Nat} {ret : Option FieldType} {Φ : Option Value → xS → Prop} {pc : Nat} {lv : List (Nat × Value)} {st : List Value} {σ : xS} {C : String} {T : u_T} {N ci index k : Nat} {fs : List (Option Nat)} (hd : decode cc pc = .ok (.putfield index, 3)) (hN : k < gN G) (hs : gS G k = .inr (.inl (ci, fs))) (hc : vwCl[ci]? = some (C, T, N)) (hin : ∀ w ∈ u_ws C T N, w ∈ xT) (ty0 : Nat → FieldType) (hty : ∀ k, k < N → parseFieldDescriptor (T k).2.2.1 = some (ty0 k)) (hnm : ∀ a, a < N → ∀ b, b < N → a ≠ b → (T a).2.1 ≠ (T b).2.1) (j : Nat) (hj : j < N) (hw : Cond.fieldLink own index (T j).1 (T j).2.1 (T j).2.2.1 ∈ xT) (hfin : (T j).2.2.2 = false) (hv : fs[j]? = some none) {ty : FieldType} (htj : parseFieldDescriptor (T j).2.2.1 = some ty) {x : Int32} (hnr : narrow ty (.int x) = .int x) (hfit : fits ty (.int x) = true) (kk : wk l G n own cc nL ret Φ (pc + 3) lv st (xup σ k (upd (σ k) j x))) : wk l G n own cc nL ret Φ pc lv (.int x :: .ref (gA G k) :: st) σ := by
  intro p e s m args below meth c hx hb hr hml ho ht hk hO H locs ls hl hP hS
  refine va_put (D := gD G) (ci := ci) (v := .int x) (C := C) (T := T) (N := N) hx hb ht hin ty0 hty hnm ho hO.1 hP (xD_of hO.2.1) hS _ (xW_atO hN hs) hc j hj (ht _ hw) (fun _ h => h) hfin htj hnr hfit (by simp only [xFs, List.length_mapIdx]; exact (List.getElem?_eq_some_iff.mp hv).1) hd (fun H1 locs1 hP1 _ hS1 => ?_)
  rw [xW_setO hN hs hv] at hP1
  exact kk p e s m args below meth c hx hb hr hml ho ht hk hO H1 locs1 ls hl hP1 hS1
theorem wk_iald {l : Launch} {G : xG} {n : Nat} {own : String} {cc : ByteArray} {nL : Nat} {ret : Option FieldType} {Φ : Option Value → xS → Prop} {pc : Nat} {lv : List (Nat × Value)} {st : List Value} {σ : xS} {i : Int32} {k z jj : Nat} (hd : decode cc pc = .ok (.iaload, 1)) (hN : k < gN G) (hs : gS G k = .inl z) (hi : xin i z) (hj : i.toNatClampNeg = jj) (kk : wk l G n own cc nL ret Φ (pc + 1) lv (.int (σ k jj) :: st) σ) : wk l G n own cc nL ret Φ pc lv (.int i :: .ref (gA G k) :: st) σ := by
  intro p e s m args below meth c hx hb hr hml ho ht hk hO H locs ls hl hP hS
  subst hj
  exact va_iald hx hb hO.1 hP _ 0 (xW_atI hN hs) rfl (xin_vp hi) hd (kk p e s m args below meth c hx hb hr hml ho ht hk hO H locs ls hl hP hS)
theorem wk_iast {l : Launch} {G : xG} {n : Nat} {own : String} {cc : ByteArray} {nL : Nat} {ret : Option FieldType} {Φ : Option Value → xS → Prop} {pc : Nat} {lv : List (Nat × Value)} {st : List Value} {σ : xS} {i x : Int32} {k z jj : Nat} (hd : decode cc pc = .ok (.iastore, 1)) (hN : k < gN G) (hs : gS G k = .inl z) (hi : xin i z) (hj : i.toNatClampNeg = jj) (kk : wk l G n own cc nL ret Φ (pc + 1) lv st (xup σ k (upd (σ k) jj x))) : wk l G n own cc nL ret Φ pc lv (.int x :: .int i :: .ref (gA G k) :: st) σ := by
  intro p e s m args below meth c hx hb hr hml ho ht hk hO H locs ls hl hP hS
  subst hj
  refine va_iast hx hb hO.1 hP (xD_of hO.2.1) hS _ 0 (xW_atI hN hs) rfl (xin_vp hi) hd (fun H1 locs1 hP1 _ hS1 => ?_)
  rw [xW_setI hN hs] at hP1
  exact kk p e s m args below meth c hx hb hr hml ho ht hk hO H1 locs1 ls hl hP1 hS1
theorem wk_aald {l : Launch} {G : xG} {n : Nat} {own : String} {cc : ByteArray} {nL : Nat} {ret : Option FieldType} {Φ : Option Value → xS → Prop} {pc : Nat} {lv : List (Nat × Value)} {st : List Value} {σ : xS} {i : Int32} {k : Nat} {rs : List Nat} {k' : Nat} (hd : decode cc pc = .ok (.aaload, 1)) (hN : k < gN G) (hs : gS G k = .inr (.inr rs)) (hi : xin i rs.length) (hk' : rs[i.toNatClampNeg]? = some k') (kk : wk l G n own cc nL ret Φ (pc + 1) lv (.ref (gA G k') :: st) σ) : wk l G n own cc nL ret Φ pc lv (.int i :: .ref (gA G k) :: st) σ := by
  intro p e s m args below meth c hx hb hr hml ho ht hk hO H locs ls hl hP hS
  refine va_aldq (C := gC G) hx hb hO.1 hP _ 1 (xW_atR hN hs) rfl (xin_vp hi) hd ?_
  rw [hk']
  exact kk p e s m args below meth c hx hb hr hml ho ht hk hO H locs ls hl hP hS
theorem wk_getsAbove {l : Launch} {G : xG} {n : Nat} {own : String} {cc : ByteArray} {nL : Nat} {ret : Option FieldType} {Φ : Option Value → xS → Prop} {pc : Nat} {lv : List (Nat × Value)} {st : List Value} {σ : xS} {index : Nat} (hd : decode cc pc = .ok (.getstatic index, 3)) (hw : Cond.fieldLink own index "OldLight" "ABOVE" "[I" ∈ xT) (kk : wk l G n own cc nL ret Φ (pc + 3) lv (.ref (gA G 1000) :: st) σ) : wk l G n own cc nL ret Φ pc lv st σ := by
  intro p e s m args below meth c hx hb hr hml ho ht hk hO H locs ls hl hP hS
  exact va_gets hx hb hO.2.2.1.1.1 hS ho (ht _ hw) (fun _ h => h) hd (kk p e s m args below meth c hx hb hr hml ho ht hk hO H locs ls hl hP hS)
theorem wk_tldAbove {l : Launch} {G : xG} {n : Nat} {own : String} {cc : ByteArray} {nL : Nat} {ret : Option FieldType} {Φ : Option Value → xS → Prop} {pc : Nat} {lv : List (Nat × Value)} {st : List Value} {σ : xS} {i : Int32} (hd : decode cc pc = .ok (.iaload, 1)) (hi : xin i 7) (kk : wk l G n own cc nL ret Φ (pc + 1) lv (.int (xAbove.getD i.toNatClampNeg 0) :: st) σ) : wk l G n own cc nL ret Φ pc lv (.int i :: .ref (gA G 1000) :: st) σ := by
  intro p e s m args below meth c hx hb hr hml ho ht hk hO H locs ls hl hP hS
  exact va_ti hx hb hO.2.2.1.1.2 hS (xin_vp hi) rfl hd (kk p e s m args below meth c hx hb hr hml ho ht hk hO H locs ls hl hP hS)
theorem wk_getsBodies {l : Launch} {G : xG} {n : Nat} {own : String} {cc : ByteArray} {nL : Nat} {ret : Option FieldType} {Φ : Option Value → xS → Prop} {pc : Nat} {lv : List (Nat × Value)} {st : List Value} {σ : xS} {index : Nat} (hd : decode cc pc = .ok (.getstatic index, 3)) (hw : Cond.fieldLink own index "OldLight$Speaker" "BODIES" "[I" ∈ xT) (kk : wk l G n own cc nL ret Φ (pc + 3) lv (.ref (gA G 1001) :: st) σ) : wk l G n own cc nL ret Φ pc lv st σ := by
  intro p e s m args below meth c hx hb hr hml ho ht hk hO H locs ls hl hP hS
  exact va_gets hx hb hO.2.2.1.2.1.1 hS ho (ht _ hw) (fun _ h => h) hd (kk p e s m args below meth c hx hb hr hml ho ht hk hO H locs ls hl hP hS)
theorem wk_tldBodies {l : Launch} {G : xG} {n : Nat} {own : String} {cc : ByteArray} {nL : Nat} {ret : Option FieldType} {Φ : Option Value → xS → Prop} {pc : Nat} {lv : List (Nat × Value)} {st : List Value} {σ : xS} {i : Int32} (hd : decode cc pc = .ok (.iaload, 1)) (hi : xin i 28) (kk : wk l G n own cc nL ret Φ (pc + 1) lv (.int (xBodies.getD i.toNatClampNeg 0) :: st) σ) : wk l G n own cc nL ret Φ pc lv (.int i :: .ref (gA G 1001) :: st) σ := by
  intro p e s m args below meth c hx hb hr hml ho ht hk hO H locs ls hl hP hS
  exact va_ti hx hb hO.2.2.1.2.1.2 hS (xin_vp hi) rfl hd (kk p e s m args below meth c hx hb hr hml ho ht hk hO H locs ls hl hP hS)
theorem wk_getsNames {l : Launch} {G : xG} {n : Nat} {own : String} {cc : ByteArray} {nL : Nat} {ret : Option FieldType} {Φ : Option Value → xS → Prop} {pc : Nat} {lv : List (Nat × Value)} {st : List Value} {σ : xS} {index : Nat} (hd : decode cc pc = .ok (.getstatic index, 3)) (hw : Cond.fieldLink own index "OldLight$Reader" "NAMES" "[C" ∈ xT) (kk : wk l G n own cc nL ret Φ (pc + 3) lv (.ref (gA G 1002) :: st) σ) : wk l G n own cc nL ret Φ pc lv st σ := by
  intro p e s m args below meth c hx hb hr hml ho ht hk hO H locs ls hl hP hS
  exact va_gets hx hb hO.2.2.1.2.2.1.1 hS ho (ht _ hw) (fun _ h => h) hd (kk p e s m args below meth c hx hb hr hml ho ht hk hO H locs ls hl hP hS)
theorem wk_tldNames {l : Launch} {G : xG} {n : Nat} {own : String} {cc : ByteArray} {nL : Nat} {ret : Option FieldType} {Φ : Option Value → xS → Prop} {pc : Nat} {lv : List (Nat × Value)} {st : List Value} {σ : xS} {i : Int32} (hd : decode cc pc = .ok (.caload, 1)) (hi : xin i 6) (kk : wk l G n own cc nL ret Φ (pc + 1) lv (.int (xNames.getD i.toNatClampNeg 0) :: st) σ) : wk l G n own cc nL ret Φ pc lv (.int i :: .ref (gA G 1002) :: st) σ := by
  intro p e s m args below meth c hx hb hr hml ho ht hk hO H locs ls hl hP hS
  exact va_tc hx hb hO.2.2.1.2.2.1.2 hS (xin_vp hi) rfl hd (kk p e s m args below meth c hx hb hr hml ho ht hk hO H locs ls hl hP hS)
theorem wk_getsAboveN {l : Launch} {G : xG} {n : Nat} {own : String} {cc : ByteArray} {nL : Nat} {ret : Option FieldType} {Φ : Option Value → xS → Prop} {pc : Nat} {lv : List (Nat × Value)} {st : List Value} {σ : xS} {index : Nat} (hd : decode cc pc = .ok (.getstatic index, 3)) {host : String} (hw : (own, index, "OldLight", "ABOVE", "[I", host) ∈ xNestF) (kk : wk l G n own cc nL ret Φ (pc + 3) lv (.ref (gA G 1000) :: st) σ) : wk l G n own cc nL ret Φ pc lv st σ := by
  intro p e s m args below meth c hx hb hr hml ho ht hk hO H locs ls hl hP hS
  exact va_getsN hx hb hO.2.2.1.1.1 hS ho (va_Nw.use rfl (hO.2.2.2.2 _ hw)) (fun _ h => h) hd (kk p e s m args below meth c hx hb hr hml ho ht hk hO H locs ls hl hP hS)
theorem wk_mmax {l : Launch} {G : xG} {n : Nat} {own : String} {cc : ByteArray} {nL : Nat} {ret : Option FieldType} {Φ : Option Value → xS → Prop} {pc : Nat} {lv : List (Nat × Value)} {st : List Value} {σ : xS} {x y : Int32} {index : Nat} (hd : decode cc pc = .ok (.invokestatic index, 3)) (hw1 : Cond.methodLink own index Lib.Math.max.name ∈ xT) (hw2 : Cond.static Lib.Math.max.name ∈ xT) (hw3 : Cond.initialized "java/lang/Math" ∈ xT) (hw4 : Cond.code Lib.Math.max.name Lib.Math.max.code 2 (some .int) ∈ xT) (hn : 1 ≤ n) (hst : (st.map fun v => v.category).sum ≤ 8) (kk : wk l G n own cc nL ret Φ (pc + 3) lv (.int (if x < y then y else x) :: st) σ) : wk l G n own cc nL ret Φ pc lv (.int y :: .int x :: st) σ := by
  intro p e s m args below meth c hx hb hr hml ho ht hk hO H locs ls hl hP hS
  exact va_mmax hx hb (by rw [hml, hl.1]) ho (ht _ hw1) (ht _ hw2) (ht _ hw3) (ht _ hw4) (by show 1 ≤ n; exact hn) (by show _ ≤ 40 * n; omega) (Nat.le_refl 0) (Nat.le_refl 0) hd (kk p e s m args below meth c hx hb hr hml ho ht hk hO H locs ls hl hP hS)
theorem wk_mmin {l : Launch} {G : xG} {n : Nat} {own : String} {cc : ByteArray} {nL : Nat} {ret : Option FieldType} {Φ : Option Value → xS → Prop} {pc : Nat} {lv : List (Nat × Value)} {st : List Value} {σ : xS} {x y : Int32} {index : Nat} (hd : decode cc pc = .ok (.invokestatic index, 3)) (hw1 : Cond.methodLink own index Lib.Math.min.name ∈ xT) (hw2 : Cond.static Lib.Math.min.name ∈ xT) (hw3 : Cond.initialized "java/lang/Math" ∈ xT) (hw4 : Cond.code Lib.Math.min.name Lib.Math.min.code 2 (some .int) ∈ xT) (hn : 1 ≤ n) (hst : (st.map fun v => v.category).sum ≤ 8) (kk : wk l G n own cc nL ret Φ (pc + 3) lv (.int (if y < x then y else x) :: st) σ) : wk l G n own cc nL ret Φ pc lv (.int y :: .int x :: st) σ := by
  intro p e s m args below meth c hx hb hr hml ho ht hk hO H locs ls hl hP hS
  exact va_mmin hx hb (by rw [hml, hl.1]) ho (ht _ hw1) (ht _ hw2) (ht _ hw3) (ht _ hw4) (by show 1 ≤ n; exact hn) (by show _ ≤ 40 * n; omega) (Nat.le_refl 0) (Nat.le_refl 0) hd (kk p e s m args below meth c hx hb hr hml ho ht hk hO H locs ls hl hP hS)
theorem wk_copyi {l : Launch} {G : xG} {n : Nat} {own : String} {cc : ByteArray} {nL : Nat} {ret : Option FieldType} {Φ : Option Value → xS → Prop} {pc : Nat} {lv : List (Nat × Value)} {st : List Value} {σ : xS} {k0 k1 z0 z1 : Nat} {sp dp z : Int32} {index : Nat} (hd : decode cc pc = .ok (.invokestatic index, 3)) (hw1 : Cond.methodLink own index arraycopyName ∈ xT) (hw2 : Cond.native arraycopyName ∈ xT) (hw3 : Cond.static arraycopyName ∈ xT) (hw4 : Cond.initialized "java/lang/System" ∈ xT) (hN0 : k0 < gN G) (hs0 : gS G k0 = .inl z0) (hN1 : k1 < gN G) (hs1 : gS G k1 = .inl z1) (hn : 2 ≤ n) (hst : (st.map fun v => v.category).sum ≤ 8) (hc : 0 ≤ sp.toInt ∧ 0 ≤ dp.toInt ∧ 0 ≤ z.toInt ∧ sp.toInt + z.toInt ≤ (z0 : Int) ∧ dp.toInt + z.toInt ≤ (z1 : Int)) (kk : wk l G n own cc nL ret Φ (pc + 3) lv st (xup σ k1 (va_cpy (σ k0) (σ k1) sp.toNatClampNeg dp.toNatClampNeg z.toNatClampNeg))) : wk l G n own cc nL ret Φ pc lv (.int z :: .int dp :: .ref (gA G k1) :: .int sp :: .ref (gA G k0) :: st) σ := by
  intro p e s m args below meth c hx hb hr hml ho ht hk hO H locs ls hl hP hS
  have nn : ∀ z : Int32, 0 ≤ z.toInt → ¬ z < 0 := fun z h q => by rw [Int32.lt_iff_toInt_lt] at q; simp at q; omega
  have nc : ∀ z : Int32, 0 ≤ z.toInt → (z.toNatClampNeg : Int) = z.toInt := fun z h => by show (z.toInt.toNat : Int) = _; omega
  obtain ⟨c1, c2, c3, c4, c5⟩ := hc
  have e1 := nc sp c1
  have e2 := nc dp c2
  have e3 := nc z c3
  have q0 : nativeFrameWords "java/lang/System" "arraycopy" 5 + 11 ≤ 60 := by decide +kernel
  have q1 : 1 ≤ (xRm n).frames := by show 1 ≤ n; omega
  have q2 : (st.map fun v => v.category).sum + (nativeFrameWords "java/lang/System" "arraycopy" 5 + 11) ≤ (xRm n).locals := by show _ ≤ 40 * n; omega
  refine va_copyi hx hb (by rw [hml, hl.1]) ho (ht _ hw1) (ht _ hw2) (ht _ hw3) (ht _ hw4) hO.1 hP (xD_of hO.2.1) hS _ _ 0 0 (xW_atI hN0 hs0) (xW_atI hN1 hs1) rfl rfl rfl (nn sp c1) (nn dp c2) (nn z c3) (by omega) (by omega) (fun _ _ => rfl) q1 q2 hd (fun H1 locs1 hP1 _ hS1 => ?_)
  rw [xW_setI hN1 hs1] at hP1
  exact kk p e s m args below meth c hx hb hr hml ho ht hk hO H1 locs1 ls hl hP1 hS1
theorem wk_iret {l : Launch} {G : xG} {n : Nat} {own : String} {cc : ByteArray} {nL : Nat} {ret : Option FieldType} {Φ : Option Value → xS → Prop} {pc : Nat} {lv : List (Nat × Value)} {σ : xS} {x : Int32} (hd : decode cc pc = .ok (.ireturn, 1)) (hret : ret = some .int) (h : Φ (some (.int x)) σ) : wk l G n own cc nL ret Φ pc lv [.int x] σ := by
  intro p e s m args below meth c hx hb hr hml ho ht hk hO H locs ls hl hP hS
  subst hret
  exact W.iret hx hb hr (fun t htt hW => ⟨⟨_, σ, rfl, h, by rw [htt]; exact hP⟩, hS.F htt⟩) hS.2.2 hd
theorem wk_zret {l : Launch} {G : xG} {n : Nat} {own : String} {cc : ByteArray} {nL : Nat} {ret : Option FieldType} {Φ : Option Value → xS → Prop} {pc : Nat} {lv : List (Nat × Value)} {σ : xS} {x : Int32} {ty : FieldType} (hd : decode cc pc = .ok (.ireturn, 1)) (hret : ret = some ty) (hnr : narrow ty (.int x) = .int x) (h : Φ (some (.int x)) σ) : wk l G n own cc nL ret Φ pc lv [.int x] σ := by
  intro p e s m args below meth c hx hb hr hml ho ht hk hO H locs ls hl hP hS
  subst hret
  exact W.zret hx hb hr hnr (fun t htt hW => ⟨⟨_, σ, rfl, h, by rw [htt]; exact hP⟩, hS.F htt⟩) hS.2.2 hd
theorem wk_vret {l : Launch} {G : xG} {n : Nat} {own : String} {cc : ByteArray} {nL : Nat} {ret : Option FieldType} {Φ : Option Value → xS → Prop} {pc : Nat} {lv : List (Nat × Value)} {σ : xS} (hd : decode cc pc = .ok (.return_, 1)) (hret : ret = none) (h : Φ none σ) : wk l G n own cc nL ret Φ pc lv [] σ := by
  intro p e s m args below meth c hx hb hr hml ho ht hk hO H locs ls hl hP hS
  subst hret
  exact W.vret hx hb hr (fun t htt hW => ⟨⟨_, σ, rfl, h, by rw [htt]; exact hP⟩, hS.F htt⟩) hS.2.2 hd
theorem wk_aret {l : Launch} {G : xG} {n : Nat} {own : String} {cc : ByteArray} {nL : Nat} {ret : Option FieldType} {Φ : Option Value → xS → Prop} {pc : Nat} {lv : List (Nat × Value)} {σ : xS} {a : Nat} {C : String} (hd : decode cc pc = .ok (.areturn, 1)) (hret : ret = some (.object C)) (h : Φ (some (.ref a)) σ) : wk l G n own cc nL ret Φ pc lv [.ref a] σ := by
  intro p e s m args below meth c hx hb hr hml ho ht hk hO H locs ls hl hP hS
  subst hret
  exact W.aret hx hb hr (Or.inl ⟨_, rfl⟩) (Or.inr ⟨_, rfl⟩) (fun t htt hW => ⟨⟨_, σ, rfl, h, by rw [htt]; exact hP⟩, hS.F htt⟩) hS.2.2 hd
theorem xI_of {x r : Int32} {s s' : xS} (h : some (x, s) = some (r, s')) : xI r s' (some (.int x)) s := by cases h; exact ⟨rfl, rfl⟩
theorem xU_of {s s' : xS} (h : some ((), s) = some ((), s')) : xU s' none s := by cases h; exact ⟨rfl, rfl⟩
theorem xR_of {G : xG} {x r : Nat} {s s' : xS} (h : some (x, s) = some (r, s')) : xR G r s' (some (.ref (gA G x))) s := by cases h; exact ⟨rfl, rfl⟩
theorem x01n {x : Int32} (h : x = 0 ∨ x = 1) : narrow .boolean (.int x) = .int x := by rcases h with rfl | rfl <;> rfl
theorem x01f {x : Int32} (h : x = 0 ∨ x = 1) : fits .boolean (.int x) = true := by rcases h with rfl | rfl <;> rfl
theorem xF_ex : ∃ n : Nat, n = 100000 := ⟨_, rfl⟩
noncomputable def xF : Nat := Classical.choose xF_ex
theorem xF_eq : xF = 100000 := Classical.choose_spec xF_ex
