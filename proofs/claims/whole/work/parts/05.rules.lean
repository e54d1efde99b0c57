section MJ
variable {Γ : GX} {k sl pc n : Nat} {ls : List (Nat × Value)} {st : List Value} {h : MH}
theorem mj_iconst {i : Int} {v : Int32} (hd : decode (mcode Γ.2.1) pc = .ok (.iconst i, 1)) (hv : Int32.ofInt i = v) (g : GG Γ k sl (pc + 1) ls (.int v :: st) n h) : GG Γ k sl pc ls (st) n h := by
  intro p e s m args below meth c H locs lsr C S R L
  exact lv_iconst C.1 C.2.1 hd hv (g p e s m args below meth c H locs lsr C S R L)
theorem mj_bipush {i : Int} {v : Int32} (hd : decode (mcode Γ.2.1) pc = .ok (.bipush i, 2)) (hv : (Int8.ofInt i).toInt32 = v) (g : GG Γ k sl (pc + 2) ls (.int v :: st) n h) : GG Γ k sl pc ls (st) n h := by
  intro p e s m args below meth c H locs lsr C S R L
  exact lv_bipush C.1 C.2.1 hd hv (g p e s m args below meth c H locs lsr C S R L)
theorem mj_sipush {i : Int} {v : Int32} (hd : decode (mcode Γ.2.1) pc = .ok (.sipush i, 3)) (hv : (Int16.ofInt i).toInt32 = v) (g : GG Γ k sl (pc + 3) ls (.int v :: st) n h) : GG Γ k sl pc ls (st) n h := by
  intro p e s m args below meth c H locs lsr C S R L
  exact lv_sipush C.1 C.2.1 hd hv (g p e s m args below meth c H locs lsr C S R L)
theorem mj_lconst {i : Fin 2} {v : Int64} (hd : decode (mcode Γ.2.1) pc = .ok (.lconst i, 1)) (hv : Int64.ofNat (i : Nat) = v) (g : GG Γ k sl (pc + 1) ls (.long v :: st) n h) : GG Γ k sl pc ls (st) n h := by
  intro p e s m args below meth c H locs lsr C S R L
  exact lv_lconst C.1 C.2.1 hd hv (g p e s m args below meth c H locs lsr C S R L)
theorem mj_null  (hd : decode (mcode Γ.2.1) pc = .ok (.aconst_null, 1)) (g : GG Γ k sl (pc + 1) ls (.null :: st) n h) : GG Γ k sl pc ls (st) n h := by
  intro p e s m args below meth c H locs lsr C S R L
  exact lv_null C.1 C.2.1 hd (g p e s m args below meth c H locs lsr C S R L)
theorem mj_iload_n {i : Fin 4} {x : Int32} (j : Nat) (hd : decode (mcode Γ.2.1) pc = .ok (.iload_n i, 1)) (hl : ls[j]? = some ((i : Nat), .int x)) (g : GG Γ k sl (pc + 1) ls (.int x :: st) n h) : GG Γ k sl pc ls (st) n h := by
  intro p e s m args below meth c H locs lsr C S R L
  exact lv_iload_n C.1 C.2.1 hd rfl (lv_at L j hl) (g p e s m args below meth c H locs lsr C S R L)
theorem mj_iload {i : Nat} {x : Int32} (j : Nat) (hd : decode (mcode Γ.2.1) pc = .ok (.iload i, 2)) (hl : ls[j]? = some (i, .int x)) (g : GG Γ k sl (pc + 2) ls (.int x :: st) n h) : GG Γ k sl pc ls (st) n h := by
  intro p e s m args below meth c H locs lsr C S R L
  exact lv_iload C.1 C.2.1 hd (lv_at L j hl) (g p e s m args below meth c H locs lsr C S R L)
theorem mj_lload_n {i : Fin 4} {x : Int64} (j : Nat) (hd : decode (mcode Γ.2.1) pc = .ok (.lload_n i, 1)) (hl : ls[j]? = some ((i : Nat), .long x)) (g : GG Γ k sl (pc + 1) ls (.long x :: st) n h) : GG Γ k sl pc ls (st) n h := by
  intro p e s m args below meth c H locs lsr C S R L
  exact lv_lload_n C.1 C.2.1 hd rfl (lv_at L j hl) (g p e s m args below meth c H locs lsr C S R L)
theorem mj_lload {i : Nat} {x : Int64} (j : Nat) (hd : decode (mcode Γ.2.1) pc = .ok (.lload i, 2)) (hl : ls[j]? = some (i, .long x)) (g : GG Γ k sl (pc + 2) ls (.long x :: st) n h) : GG Γ k sl pc ls (st) n h := by
  intro p e s m args below meth c H locs lsr C S R L
  exact lv_lload C.1 C.2.1 hd (lv_at L j hl) (g p e s m args below meth c H locs lsr C S R L)
theorem mj_aload_n {i : Fin 4} {x : Nat} (j : Nat) (hd : decode (mcode Γ.2.1) pc = .ok (.aload_n i, 1)) (hl : ls[j]? = some ((i : Nat), .ref x)) (g : GG Γ k sl (pc + 1) ls (.ref x :: st) n h) : GG Γ k sl pc ls (st) n h := by
  intro p e s m args below meth c H locs lsr C S R L
  exact lv_aload_n C.1 C.2.1 hd rfl (lv_at L j hl) (g p e s m args below meth c H locs lsr C S R L)
theorem mj_aload {i : Nat} {x : Nat} (j : Nat) (hd : decode (mcode Γ.2.1) pc = .ok (.aload i, 2)) (hl : ls[j]? = some (i, .ref x)) (g : GG Γ k sl (pc + 2) ls (.ref x :: st) n h) : GG Γ k sl pc ls (st) n h := by
  intro p e s m args below meth c H locs lsr C S R L
  exact lv_aload C.1 C.2.1 hd (lv_at L j hl) (g p e s m args below meth c H locs lsr C S R L)
theorem mj_aload_nN {i : Fin 4} (j : Nat) (hd : decode (mcode Γ.2.1) pc = .ok (.aload_n i, 1)) (hl : ls[j]? = some ((i : Nat), .null)) (g : GG Γ k sl (pc + 1) ls (.null :: st) n h) : GG Γ k sl pc ls (st) n h := by
  intro p e s m args below meth c H locs lsr C S R L
  exact lv_aload_nN C.1 C.2.1 hd rfl (lv_at L j hl) (g p e s m args below meth c H locs lsr C S R L)
theorem mj_aloadN {i : Nat} (j : Nat) (hd : decode (mcode Γ.2.1) pc = .ok (.aload i, 2)) (hl : ls[j]? = some (i, .null)) (g : GG Γ k sl (pc + 2) ls (.null :: st) n h) : GG Γ k sl pc ls (st) n h := by
  intro p e s m args below meth c H locs lsr C S R L
  exact lv_aloadN C.1 C.2.1 hd (lv_at L j hl) (g p e s m args below meth c H locs lsr C S R L)
theorem mj_istore_n {i : Fin 4} {x : Int32} {ls' : List (Nat × Value)} (hd : decode (mcode Γ.2.1) pc = .ok (.istore_n i, 1)) (hn : (i : Nat) < mmax Γ.2.1) (hl : ((i : Nat), (.int x : Value)) :: ls.filter (fun q => !(q.1 == (i : Nat)) && !(q.1 + 1 == (i : Nat) && q.2.category == 2)) = ls') (g : GG Γ k sl (pc + 1) ls' st n h) : GG Γ k sl pc ls ((.int x : Value) :: st) n h := by
  intro p e s m args below meth c H locs lsr C S R L
  exact lv_istore_n C.1 C.2.1 hd rfl L hn hl (fun lsr' L' => g p e s m args below meth c H locs lsr' C S R L')
theorem mj_istore {i : Nat} {x : Int32} {ls' : List (Nat × Value)} (hd : decode (mcode Γ.2.1) pc = .ok (.istore i, 2)) (hn : i < mmax Γ.2.1) (hl : (i, (.int x : Value)) :: ls.filter (fun q => !(q.1 == i) && !(q.1 + 1 == i && q.2.category == 2)) = ls') (g : GG Γ k sl (pc + 2) ls' st n h) : GG Γ k sl pc ls ((.int x : Value) :: st) n h := by
  intro p e s m args below meth c H locs lsr C S R L
  exact lv_istore C.1 C.2.1 hd L hn hl (fun lsr' L' => g p e s m args below meth c H locs lsr' C S R L')
theorem mj_lstore_n {i : Fin 4} {x : Int64} {ls' : List (Nat × Value)} (hd : decode (mcode Γ.2.1) pc = .ok (.lstore_n i, 1)) (hn : (i : Nat) + 1 < mmax Γ.2.1) (hl : ((i : Nat), (.long x : Value)) :: ls.filter (fun q => !(q.1 == (i : Nat)) && (!(q.1 == (i : Nat) + 1) && !(q.1 + 1 == (i : Nat) && q.2.category == 2))) = ls') (g : GG Γ k sl (pc + 1) ls' st n h) : GG Γ k sl pc ls ((.long x : Value) :: st) n h := by
  intro p e s m args below meth c H locs lsr C S R L
  exact lv_lstore_n C.1 C.2.1 hd rfl L hn hl (fun lsr' L' => g p e s m args below meth c H locs lsr' C S R L')
theorem mj_lstore {i : Nat} {x : Int64} {ls' : List (Nat × Value)} (hd : decode (mcode Γ.2.1) pc = .ok (.lstore i, 2)) (hn : i + 1 < mmax Γ.2.1) (hl : (i, (.long x : Value)) :: ls.filter (fun q => !(q.1 == i) && (!(q.1 == i + 1) && !(q.1 + 1 == i && q.2.category == 2))) = ls') (g : GG Γ k sl (pc + 2) ls' st n h) : GG Γ k sl pc ls ((.long x : Value) :: st) n h := by
  intro p e s m args below meth c H locs lsr C S R L
  exact lv_lstore C.1 C.2.1 hd L hn hl (fun lsr' L' => g p e s m args below meth c H locs lsr' C S R L')
theorem mj_astore_n {i : Fin 4} {x : Nat} {ls' : List (Nat × Value)} (hd : decode (mcode Γ.2.1) pc = .ok (.astore_n i, 1)) (hn : (i : Nat) < mmax Γ.2.1) (hl : ((i : Nat), (.ref x : Value)) :: ls.filter (fun q => !(q.1 == (i : Nat)) && !(q.1 + 1 == (i : Nat) && q.2.category == 2)) = ls') (g : GG Γ k sl (pc + 1) ls' st n h) : GG Γ k sl pc ls ((.ref x : Value) :: st) n h := by
  intro p e s m args below meth c H locs lsr C S R L
  exact lv_astore_n C.1 C.2.1 hd rfl L hn hl (fun lsr' L' => g p e s m args below meth c H locs lsr' C S R L')
theorem mj_astore {i : Nat} {x : Nat} {ls' : List (Nat × Value)} (hd : decode (mcode Γ.2.1) pc = .ok (.astore i, 2)) (hn : i < mmax Γ.2.1) (hl : (i, (.ref x : Value)) :: ls.filter (fun q => !(q.1 == i) && !(q.1 + 1 == i && q.2.category == 2)) = ls') (g : GG Γ k sl (pc + 2) ls' st n h) : GG Γ k sl pc ls ((.ref x : Value) :: st) n h := by
  intro p e s m args below meth c H locs lsr C S R L
  exact lv_astore C.1 C.2.1 hd L hn hl (fun lsr' L' => g p e s m args below meth c H locs lsr' C S R L')
theorem mj_astore_nN {i : Fin 4} {ls' : List (Nat × Value)} (hd : decode (mcode Γ.2.1) pc = .ok (.astore_n i, 1)) (hn : (i : Nat) < mmax Γ.2.1) (hl : ((i : Nat), (.null : Value)) :: ls.filter (fun q => !(q.1 == (i : Nat)) && !(q.1 + 1 == (i : Nat) && q.2.category == 2)) = ls') (g : GG Γ k sl (pc + 1) ls' st n h) : GG Γ k sl pc ls ((.null : Value) :: st) n h := by
  intro p e s m args below meth c H locs lsr C S R L
  exact lv_astore_nN C.1 C.2.1 hd rfl L hn hl (fun lsr' L' => g p e s m args below meth c H locs lsr' C S R L')
theorem mj_astoreN {i : Nat} {ls' : List (Nat × Value)} (hd : decode (mcode Γ.2.1) pc = .ok (.astore i, 2)) (hn : i < mmax Γ.2.1) (hl : (i, (.null : Value)) :: ls.filter (fun q => !(q.1 == i) && !(q.1 + 1 == i && q.2.category == 2)) = ls') (g : GG Γ k sl (pc + 2) ls' st n h) : GG Γ k sl pc ls ((.null : Value) :: st) n h := by
  intro p e s m args below meth c H locs lsr C S R L
  exact lv_astoreN C.1 C.2.1 hd L hn hl (fun lsr' L' => g p e s m args below meth c H locs lsr' C S R L')
theorem mj_iinc {i : Nat} {d : Int} {x v : Int32} {ls' : List (Nat × Value)} (j : Nat) (hd : decode (mcode Γ.2.1) pc = .ok (.iinc i d, 3)) (hk : ls[j]? = some (i, .int x)) (hv : x + Int32.ofInt d = v) (hn : i < mmax Γ.2.1) (hl : (i, Value.int v) :: ls.filter (fun q => !(q.1 == i) && !(q.1 + 1 == i && q.2.category == 2)) = ls') (g : GG Γ k sl (pc + 3) ls' st n h) : GG Γ k sl pc ls st n h := by
  intro p e s m args below meth c H locs lsr C S R L
  exact lv_iinc C.1 C.2.1 hd L hk hv hn hl (fun lsr' L' => g p e s m args below meth c H locs lsr' C S R L')
theorem mj_ls {ls' : List (Nat × Value)} (js : List Nat) (hl : lv_pick ls js = ls') (g : GG Γ k sl pc ls' st n h) : GG Γ k sl pc ls st n h := by
  intro p e s m args below meth c H locs lsr C S R L
  exact g p e s m args below meth c H locs lsr C S R (lv_sub L js hl)
theorem mj_iadd {x y : Int32} (hd : decode (mcode Γ.2.1) pc = .ok (.iadd, 1)) (g : GG Γ k sl (pc + 1) ls (.int (x + y) :: st) n h) : GG Γ k sl pc ls (.int y :: .int x :: st) n h := by
  intro p e s m args below meth c H locs lsr C S R L
  exact lv_iadd C.1 C.2.1 hd (g p e s m args below meth c H locs lsr C S R L)
theorem mj_isub {x y : Int32} (hd : decode (mcode Γ.2.1) pc = .ok (.isub, 1)) (g : GG Γ k sl (pc + 1) ls (.int (x - y) :: st) n h) : GG Γ k sl pc ls (.int y :: .int x :: st) n h := by
  intro p e s m args below meth c H locs lsr C S R L
  exact lv_isub C.1 C.2.1 hd (g p e s m args below meth c H locs lsr C S R L)
theorem mj_imul {x y : Int32} (hd : decode (mcode Γ.2.1) pc = .ok (.imul, 1)) (g : GG Γ k sl (pc + 1) ls (.int (x * y) :: st) n h) : GG Γ k sl pc ls (.int y :: .int x :: st) n h := by
  intro p e s m args below meth c H locs lsr C S R L
  exact lv_imul C.1 C.2.1 hd (g p e s m args below meth c H locs lsr C S R L)
theorem mj_iand {x y : Int32} (hd : decode (mcode Γ.2.1) pc = .ok (.iand, 1)) (g : GG Γ k sl (pc + 1) ls (.int (x &&& y) :: st) n h) : GG Γ k sl pc ls (.int y :: .int x :: st) n h := by
  intro p e s m args below meth c H locs lsr C S R L
  exact lv_iand C.1 C.2.1 hd (g p e s m args below meth c H locs lsr C S R L)
theorem mj_ior {x y : Int32} (hd : decode (mcode Γ.2.1) pc = .ok (.ior, 1)) (g : GG Γ k sl (pc + 1) ls (.int (x ||| y) :: st) n h) : GG Γ k sl pc ls (.int y :: .int x :: st) n h := by
  intro p e s m args below meth c H locs lsr C S R L
  exact lv_ior C.1 C.2.1 hd (g p e s m args below meth c H locs lsr C S R L)
theorem mj_ladd {x y : Int64} (hd : decode (mcode Γ.2.1) pc = .ok (.ladd, 1)) (g : GG Γ k sl (pc + 1) ls (.long (x + y) :: st) n h) : GG Γ k sl pc ls (.long y :: .long x :: st) n h := by
  intro p e s m args below meth c H locs lsr C S R L
  exact lv_ladd C.1 C.2.1 hd (g p e s m args below meth c H locs lsr C S R L)
theorem mj_lsub {x y : Int64} (hd : decode (mcode Γ.2.1) pc = .ok (.lsub, 1)) (g : GG Γ k sl (pc + 1) ls (.long (x - y) :: st) n h) : GG Γ k sl pc ls (.long y :: .long x :: st) n h := by
  intro p e s m args below meth c H locs lsr C S R L
  exact lv_lsub C.1 C.2.1 hd (g p e s m args below meth c H locs lsr C S R L)
theorem mj_lmul {x y : Int64} (hd : decode (mcode Γ.2.1) pc = .ok (.lmul, 1)) (g : GG Γ k sl (pc + 1) ls (.long (x * y) :: st) n h) : GG Γ k sl pc ls (.long y :: .long x :: st) n h := by
  intro p e s m args below meth c H locs lsr C S R L
  exact lv_lmul C.1 C.2.1 hd (g p e s m args below meth c H locs lsr C S R L)
theorem mj_idiv {x y : Int32} (hd : decode (mcode Γ.2.1) pc = .ok (.idiv, 1)) (hne : ¬ y = 0) (g : GG Γ k sl (pc + 1) ls (.int (x / y) :: st) n h) : GG Γ k sl pc ls (.int y :: .int x :: st) n h := by
  intro p e s m args below meth c H locs lsr C S R L
  exact lv_idiv C.1 C.2.1 hd hne (g p e s m args below meth c H locs lsr C S R L)
theorem mj_irem {x y : Int32} (hd : decode (mcode Γ.2.1) pc = .ok (.irem, 1)) (hne : ¬ y = 0) (g : GG Γ k sl (pc + 1) ls (.int (x - x / y * y) :: st) n h) : GG Γ k sl pc ls (.int y :: .int x :: st) n h := by
  intro p e s m args below meth c H locs lsr C S R L
  exact lv_irem C.1 C.2.1 hd hne (g p e s m args below meth c H locs lsr C S R L)
theorem mj_ishl {x y : Int32} (hd : decode (mcode Γ.2.1) pc = .ok (.ishl, 1)) (g : GG Γ k sl (pc + 1) ls (.int (x <<< (y &&& 31)) :: st) n h) : GG Γ k sl pc ls (.int y :: .int x :: st) n h := by
  intro p e s m args below meth c H locs lsr C S R L
  exact lv_ishl C.1 C.2.1 hd (g p e s m args below meth c H locs lsr C S R L)
theorem mj_ishr {x y : Int32} (hd : decode (mcode Γ.2.1) pc = .ok (.ishr, 1)) (g : GG Γ k sl (pc + 1) ls (.int (x >>> (y &&& 31)) :: st) n h) : GG Γ k sl pc ls (.int y :: .int x :: st) n h := by
  intro p e s m args below meth c H locs lsr C S R L
  exact lv_ishr C.1 C.2.1 hd (g p e s m args below meth c H locs lsr C S R L)
theorem mj_iushr {x y v : Int32} (hd : decode (mcode Γ.2.1) pc = .ok (.iushr, 1)) (hv : (x.toUInt32 >>> (y.toUInt32 &&& Int32.toUInt32 31)).toInt32 = v) (g : GG Γ k sl (pc + 1) ls (.int v :: st) n h) : GG Γ k sl pc ls (.int y :: .int x :: st) n h := by
  intro p e s m args below meth c H locs lsr C S R L
  exact lv_iushr C.1 C.2.1 hd hv (g p e s m args below meth c H locs lsr C S R L)
theorem mj_i2l {x : Int32} {v : Int64} (hd : decode (mcode Γ.2.1) pc = .ok (.i2l, 1)) (hv : x.toInt64 = v) (g : GG Γ k sl (pc + 1) ls (.long v :: st) n h) : GG Γ k sl pc ls (.int x :: st) n h := by
  intro p e s m args below meth c H locs lsr C S R L
  exact lv_i2l C.1 C.2.1 hd hv (g p e s m args below meth c H locs lsr C S R L)
theorem mj_lcmp {x y : Int64} (hd : decode (mcode Γ.2.1) pc = .ok (.lcmp, 1)) (g : GG Γ k sl (pc + 1) ls (.int (lg_cmp x y) :: st) n h) : GG Γ k sl pc ls (.long y :: .long x :: st) n h := by
  intro p e s m args below meth c H locs lsr C S R L
  exact W.lcmp C.1 C.2.1 hd (g p e s m args below meth c H locs lsr C S R L)
theorem mj_dup {v : Value} (hd : decode (mcode Γ.2.1) pc = .ok (.dup, 1)) (hv : v.category = 1) (g : GG Γ k sl (pc + 1) ls (v :: v :: st) n h) : GG Γ k sl pc ls (v :: st) n h := by
  intro p e s m args below meth c H locs lsr C S R L
  exact lv_dup C.1 C.2.1 hd hv (g p e s m args below meth c H locs lsr C S R L)
theorem mj_pop {v : Value} (hd : decode (mcode Γ.2.1) pc = .ok (.pop, 1)) (hv : v.category = 1) (g : GG Γ k sl (pc + 1) ls (st) n h) : GG Γ k sl pc ls (v :: st) n h := by
  intro p e s m args below meth c H locs lsr C S R L
  exact lv_pop C.1 C.2.1 hd hv (g p e s m args below meth c H locs lsr C S R L)
theorem mj_dup2 {v w : Value} (hd : decode (mcode Γ.2.1) pc = .ok (.dup2, 1)) (hv : v.category = 1) (hw : w.category = 1) (g : GG Γ k sl (pc + 1) ls (v :: w :: v :: w :: st) n h) : GG Γ k sl pc ls (v :: w :: st) n h := by
  intro p e s m args below meth c H locs lsr C S R L
  exact lv_dup2_11 C.1 C.2.1 hd hv hw (g p e s m args below meth c H locs lsr C S R L)
theorem mj_if_eq {x : Int32} {off : Int} (tgt : Nat) (hd : decode (mcode Γ.2.1) pc = .ok (.ifCond .eq off, 3)) (ht : (pc : Int) + off = (tgt : Int)) (gt : x = 0 → GG Γ k sl tgt ls st n h) (gf : ¬ x = 0 → GG Γ k sl (pc + 3) ls st n h) : GG Γ k sl pc ls (.int x :: st) n h := by
  intro p e s m args below meth c H locs lsr C S R L
  exact lv_if_eq C.1 C.2.1 hd ht (fun q => gt (q) p e s m args below meth c H locs lsr C S R L) (fun q => gf (q) p e s m args below meth c H locs lsr C S R L)
theorem mj_if_ne {x : Int32} {off : Int} (tgt : Nat) (hd : decode (mcode Γ.2.1) pc = .ok (.ifCond .ne off, 3)) (ht : (pc : Int) + off = (tgt : Int)) (gt : ¬ x = 0 → GG Γ k sl tgt ls st n h) (gf : x = 0 → GG Γ k sl (pc + 3) ls st n h) : GG Γ k sl pc ls (.int x :: st) n h := by
  intro p e s m args below meth c H locs lsr C S R L
  exact lv_if_ne C.1 C.2.1 hd ht (fun q => gt (q) p e s m args below meth c H locs lsr C S R L) (fun q => gf (q) p e s m args below meth c H locs lsr C S R L)
theorem mj_if_lt {x : Int32} {off : Int} (tgt : Nat) (hd : decode (mcode Γ.2.1) pc = .ok (.ifCond .lt off, 3)) (ht : (pc : Int) + off = (tgt : Int)) (gt : x < 0 → GG Γ k sl tgt ls st n h) (gf : ¬ x < 0 → GG Γ k sl (pc + 3) ls st n h) : GG Γ k sl pc ls (.int x :: st) n h := by
  intro p e s m args below meth c H locs lsr C S R L
  exact lv_if_lt C.1 C.2.1 hd ht (fun q => gt (q) p e s m args below meth c H locs lsr C S R L) (fun q => gf (q) p e s m args below meth c H locs lsr C S R L)
theorem mj_if_ge {x : Int32} {off : Int} (tgt : Nat) (hd : decode (mcode Γ.2.1) pc = .ok (.ifCond .ge off, 3)) (ht : (pc : Int) + off = (tgt : Int)) (gt : 0 ≤ x → GG Γ k sl tgt ls st n h) (gf : ¬ 0 ≤ x → GG Γ k sl (pc + 3) ls st n h) : GG Γ k sl pc ls (.int x :: st) n h := by
  intro p e s m args below meth c H locs lsr C S R L
  exact lv_if_ge C.1 C.2.1 hd ht (fun q => gt (q) p e s m args below meth c H locs lsr C S R L) (fun q => gf (q) p e s m args below meth c H locs lsr C S R L)
theorem mj_if_gt {x : Int32} {off : Int} (tgt : Nat) (hd : decode (mcode Γ.2.1) pc = .ok (.ifCond .gt off, 3)) (ht : (pc : Int) + off = (tgt : Int)) (gt : 0 < x → GG Γ k sl tgt ls st n h) (gf : ¬ 0 < x → GG Γ k sl (pc + 3) ls st n h) : GG Γ k sl pc ls (.int x :: st) n h := by
  intro p e s m args below meth c H locs lsr C S R L
  exact lv_if_gt C.1 C.2.1 hd ht (fun q => gt (q) p e s m args below meth c H locs lsr C S R L) (fun q => gf (q) p e s m args below meth c H locs lsr C S R L)
theorem mj_if_le {x : Int32} {off : Int} (tgt : Nat) (hd : decode (mcode Γ.2.1) pc = .ok (.ifCond .le off, 3)) (ht : (pc : Int) + off = (tgt : Int)) (gt : x ≤ 0 → GG Γ k sl tgt ls st n h) (gf : ¬ x ≤ 0 → GG Γ k sl (pc + 3) ls st n h) : GG Γ k sl pc ls (.int x :: st) n h := by
  intro p e s m args below meth c H locs lsr C S R L
  exact lv_if_le C.1 C.2.1 hd ht (fun q => gt (q) p e s m args below meth c H locs lsr C S R L) (fun q => gf (q) p e s m args below meth c H locs lsr C S R L)
theorem mj_icmp_eq {x y : Int32} {off : Int} (tgt : Nat) (hd : decode (mcode Γ.2.1) pc = .ok (.if_icmp .eq off, 3)) (ht : (pc : Int) + off = (tgt : Int)) (gt : x = y → GG Γ k sl tgt ls st n h) (gf : ¬ x = y → GG Γ k sl (pc + 3) ls st n h) : GG Γ k sl pc ls (.int y :: .int x :: st) n h := by
  intro p e s m args below meth c H locs lsr C S R L
  exact lv_icmp_eq C.1 C.2.1 hd ht (fun q => gt q p e s m args below meth c H locs lsr C S R L) (fun q => gf q p e s m args below meth c H locs lsr C S R L)
theorem mj_icmp_ne {x y : Int32} {off : Int} (tgt : Nat) (hd : decode (mcode Γ.2.1) pc = .ok (.if_icmp .ne off, 3)) (ht : (pc : Int) + off = (tgt : Int)) (gt : ¬ x = y → GG Γ k sl tgt ls st n h) (gf : x = y → GG Γ k sl (pc + 3) ls st n h) : GG Γ k sl pc ls (.int y :: .int x :: st) n h := by
  intro p e s m args below meth c H locs lsr C S R L
  exact lv_icmp_ne C.1 C.2.1 hd ht (fun q => gt q p e s m args below meth c H locs lsr C S R L) (fun q => gf q p e s m args below meth c H locs lsr C S R L)
theorem mj_icmp_lt {x y : Int32} {off : Int} (tgt : Nat) (hd : decode (mcode Γ.2.1) pc = .ok (.if_icmp .lt off, 3)) (ht : (pc : Int) + off = (tgt : Int)) (gt : x < y → GG Γ k sl tgt ls st n h) (gf : ¬ x < y → GG Γ k sl (pc + 3) ls st n h) : GG Γ k sl pc ls (.int y :: .int x :: st) n h := by
  intro p e s m args below meth c H locs lsr C S R L
  exact lv_icmp_lt C.1 C.2.1 hd ht (fun q => gt q p e s m args below meth c H locs lsr C S R L) (fun q => gf q p e s m args below meth c H locs lsr C S R L)
theorem mj_icmp_ge {x y : Int32} {off : Int} (tgt : Nat) (hd : decode (mcode Γ.2.1) pc = .ok (.if_icmp .ge off, 3)) (ht : (pc : Int) + off = (tgt : Int)) (gt : y ≤ x → GG Γ k sl tgt ls st n h) (gf : ¬ y ≤ x → GG Γ k sl (pc + 3) ls st n h) : GG Γ k sl pc ls (.int y :: .int x :: st) n h := by
  intro p e s m args below meth c H locs lsr C S R L
  exact lv_icmp_ge C.1 C.2.1 hd ht (fun q => gt q p e s m args below meth c H locs lsr C S R L) (fun q => gf q p e s m args below meth c H locs lsr C S R L)
theorem mj_icmp_gt {x y : Int32} {off : Int} (tgt : Nat) (hd : decode (mcode Γ.2.1) pc = .ok (.if_icmp .gt off, 3)) (ht : (pc : Int) + off = (tgt : Int)) (gt : y < x → GG Γ k sl tgt ls st n h) (gf : ¬ y < x → GG Γ k sl (pc + 3) ls st n h) : GG Γ k sl pc ls (.int y :: .int x :: st) n h := by
  intro p e s m args below meth c H locs lsr C S R L
  exact lv_icmp_gt C.1 C.2.1 hd ht (fun q => gt q p e s m args below meth c H locs lsr C S R L) (fun q => gf q p e s m args below meth c H locs lsr C S R L)
theorem mj_icmp_le {x y : Int32} {off : Int} (tgt : Nat) (hd : decode (mcode Γ.2.1) pc = .ok (.if_icmp .le off, 3)) (ht : (pc : Int) + off = (tgt : Int)) (gt : x ≤ y → GG Γ k sl tgt ls st n h) (gf : ¬ x ≤ y → GG Γ k sl (pc + 3) ls st n h) : GG Γ k sl pc ls (.int y :: .int x :: st) n h := by
  intro p e s m args below meth c H locs lsr C S R L
  exact lv_icmp_le C.1 C.2.1 hd ht (fun q => gt q p e s m args below meth c H locs lsr C S R L) (fun q => gf q p e s m args below meth c H locs lsr C S R L)
theorem mj_goto {off : Int} (tgt : Nat) (hd : decode (mcode Γ.2.1) pc = .ok (.goto off, 3)) (ht : (pc : Int) + off = (tgt : Int)) (g : GG Γ k sl tgt ls st n h) : GG Γ k sl pc ls st n h := by
  intro p e s m args below meth c H locs lsr C S R L
  exact lv_goto C.1 C.2.1 hd ht (g p e s m args below meth c H locs lsr C S R L)
theorem mj_ifnull {x : Nat} {off : Int} (hd : decode (mcode Γ.2.1) pc = .ok (.ifnull off, 3)) (g : GG Γ k sl (pc + 3) ls st n h) : GG Γ k sl pc ls (.ref x :: st) n h := by
  intro p e s m args below meth c H locs lsr C S R L
  exact lv_ifnull C.1 C.2.1 hd (g p e s m args below meth c H locs lsr C S R L)
theorem mj_ifnullN {off : Int} (tgt : Nat) (hd : decode (mcode Γ.2.1) pc = .ok (.ifnull off, 3)) (ht : (pc : Int) + off = (tgt : Int)) (g : GG Γ k sl tgt ls st n h) : GG Γ k sl pc ls (.null :: st) n h := by
  intro p e s m args below meth c H locs lsr C S R L
  exact lv_ifnullN C.1 C.2.1 hd ht (g p e s m args below meth c H locs lsr C S R L)
theorem mj_ifnonnull {x : Nat} {off : Int} (tgt : Nat) (hd : decode (mcode Γ.2.1) pc = .ok (.ifnonnull off, 3)) (ht : (pc : Int) + off = (tgt : Int)) (g : GG Γ k sl tgt ls st n h) : GG Γ k sl pc ls (.ref x :: st) n h := by
  intro p e s m args below meth c H locs lsr C S R L
  exact lv_ifnonnull C.1 C.2.1 hd ht (g p e s m args below meth c H locs lsr C S R L)
theorem mj_ifnonnullN {off : Int} (hd : decode (mcode Γ.2.1) pc = .ok (.ifnonnull off, 3)) (g : GG Γ k sl (pc + 3) ls st n h) : GG Γ k sl pc ls (.null :: st) n h := by
  intro p e s m args below meth c H locs lsr C S R L
  exact lv_ifnonnullN C.1 C.2.1 hd (g p e s m args below meth c H locs lsr C S R L)
theorem mj_tabIn {dflt lo hi : Int} {offs : Array Int} {len : Nat} {x : Int32} {off : Int} (tgt : Nat) (hd : decode (mcode Γ.2.1) pc = .ok (.tableswitch dflt lo hi offs, len)) (h1 : ¬ x.toInt < lo) (h2 : ¬ hi < x.toInt) (ho : offs[(x.toInt - lo).toNat]? = some off) (ht : (pc : Int) + off = (tgt : Int)) (g : GG Γ k sl tgt ls st n h) : GG Γ k sl pc ls (.int x :: st) n h := by
  intro p e s m args below meth c H locs lsr C S R L
  exact lv_tableIn C.1 C.2.1 hd h1 h2 ho ht (g p e s m args below meth c H locs lsr C S R L)
theorem mj_tabOut {dflt lo hi : Int} {offs : Array Int} {len : Nat} {x : Int32} (tgt : Nat) (hd : decode (mcode Γ.2.1) pc = .ok (.tableswitch dflt lo hi offs, len)) (h1 : x.toInt < lo ∨ hi < x.toInt) (ht : (pc : Int) + dflt = (tgt : Int)) (g : GG Γ k sl tgt ls st n h) : GG Γ k sl pc ls (.int x :: st) n h := by
  intro p e s m args below meth c H locs lsr C S R L
  exact lv_tableOut C.1 C.2.1 hd h1 ht (g p e s m args below meth c H locs lsr C S R L)
theorem mj_ldc {i : Nat} {v : Int32} (hd : decode (mcode Γ.2.1) pc = .ok (.ldc i, 2)) (hw : Cond.constant (my Γ.2.1).cls i v ∈ TG) (g : GG Γ k sl (pc + 2) ls (.int v :: st) n h) : GG Γ k sl pc ls st n h := by
  intro p e s m args below meth c H locs lsr C S R L
  exact lv_ldc C.1 C.2.1 C.2.2.2.2.1 (C.2.2.2.2.2.1 _ hw) hd (g p e s m args below meth c H locs lsr C S R L)
theorem mj_ldc_w {i : Nat} {v : Int32} (hd : decode (mcode Γ.2.1) pc = .ok (.ldc_w i, 3)) (hw : Cond.constant (my Γ.2.1).cls i v ∈ TG) (g : GG Γ k sl (pc + 3) ls (.int v :: st) n h) : GG Γ k sl pc ls st n h := by
  intro p e s m args below meth c H locs lsr C S R L
  exact lv_ldcw C.1 C.2.1 C.2.2.2.2.1 (C.2.2.2.2.2.1 _ hw) hd (g p e s m args below meth c H locs lsr C S R L)
theorem mj_ldc2 {i : Nat} {v : Int64} (hd : decode (mcode Γ.2.1) pc = .ok (.ldc2_w i, 3)) (hw : Cond.constantLong (my Γ.2.1).cls i v ∈ TG) (g : GG Γ k sl (pc + 3) ls (.long v :: st) n h) : GG Γ k sl pc ls st n h := by
  intro p e s m args below meth c H locs lsr C S R L
  exact lv_ldc2 C.1 C.2.1 C.2.2.2.2.1 (C.2.2.2.2.2.1 _ hw) hd (g p e s m args below meth c H locs lsr C S R L)
theorem mj_eq {x y : Int32} (e : x = y) (g : GG Γ k sl pc ls (.int y :: st) n h) : GG Γ k sl pc ls (.int x :: st) n h := e ▸ g
theorem mj_eql {x y : Int64} (e : x = y) (g : GG Γ k sl pc ls (.long y :: st) n h) : GG Γ k sl pc ls (.long x :: st) n h := e ▸ g
end MJ
