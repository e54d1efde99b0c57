/-- what stands in the law's frame (its name and table are not given there) -/
def Cy (K : KX) (M : MI) (p : Program) (s : State) (m : MethodId) (args : Array Value) (meth : Method) (c : Jvm.ClassFile.Code) : Prop :=
  p.tables.exec = Jvm.exec ∧ c.code = mcode M ∧ meth.sig.returnType = mret M ∧ c.maxLocals = mmax M ∧ s.vm.findClass (my M).cls = some m.cls ∧ (∀ w ∈ TG, w.before args s = true) ∧ meth.locks = false ∧ True ∧ True ∧ va_K (kD K) vwCl (ktys K) s ∧ Stat K s s.heap
/-- THE LAW'S JUDGEMENT: as GG, with a fact on the state at the entry besides (the script lies in an old cell) -/
def GL (Γ : GX) (X9 : State → Prop) (k sl pc : Nat) (ls : List (Nat × Value)) (st : List Value) (n : Nat) (h : MH) : Prop :=
  ∀ (p : Program) (e : Env) (s : State) (m : MethodId) (args : Array Value) (below : List Frame) (meth : Method) (c : _) (H : Heap) (locs : List Loc) (lsr : Array Slot),
    Cy Γ.1 Γ.2.1 p s m args meth c → X9 s → va_S (kA Γ.1) s.heap H locs → RelH Γ.1 n h H → lv_has lsr (mmax Γ.2.1) ls →
    W p (kl Γ.1) e { frames := mfr Γ.2.1, cells := Γ.2.2.1, slots := Γ.2.2.2.1, locals := mlo Γ.2.1 } s m args below meth c H locs k sl (vx_MQ below (QcM Γ.1 Γ.2.2.2.2) (XcM Γ.1 Γ.2.2.2.2) args s Γ.2.2.1 Γ.2.2.2.1 (kA Γ.1)) (F0 m pc lsr st)
section ML
variable {Γ : GX} {X9 : State → Prop} {k sl pc n : Nat} {ls : List (Nat × Value)} {st : List Value} {h : MH}
theorem ml_iconst {i : Int} {v : Int32} (hd : decode (mcode Γ.2.1) pc = .ok (.iconst i, 1)) (hv : Int32.ofInt i = v) (g : GL Γ X9 k sl (pc + 1) ls (.int v :: st) n h) : GL Γ X9 k sl pc ls (st) n h := by
  intro p e s m args below meth c H locs lsr C x9 S R L
  exact lv_iconst C.1 C.2.1 hd hv (g p e s m args below meth c H locs lsr C x9 S R L)
theorem ml_bipush {i : Int} {v : Int32} (hd : decode (mcode Γ.2.1) pc = .ok (.bipush i, 2)) (hv : (Int8.ofInt i).toInt32 = v) (g : GL Γ X9 k sl (pc + 2) ls (.int v :: st) n h) : GL Γ X9 k sl pc ls (st) n h := by
  intro p e s m args below meth c H locs lsr C x9 S R L
  exact lv_bipush C.1 C.2.1 hd hv (g p e s m args below meth c H locs lsr C x9 S R L)
theorem ml_sipush {i : Int} {v : Int32} (hd : decode (mcode Γ.2.1) pc = .ok (.sipush i, 3)) (hv : (Int16.ofInt i).toInt32 = v) (g : GL Γ X9 k sl (pc + 3) ls (.int v :: st) n h) : GL Γ X9 k sl pc ls (st) n h := by
  intro p e s m args below meth c H locs lsr C x9 S R L
  exact lv_sipush C.1 C.2.1 hd hv (g p e s m args below meth c H locs lsr C x9 S R L)
theorem ml_lconst {i : Fin 2} {v : Int64} (hd : decode (mcode Γ.2.1) pc = .ok (.lconst i, 1)) (hv : Int64.ofNat (i : Nat) = v) (g : GL Γ X9 k sl (pc + 1) ls (.long v :: st) n h) : GL Γ X9 k sl pc ls (st) n h := by
  intro p e s m args below meth c H locs lsr C x9 S R L
  exact lv_lconst C.1 C.2.1 hd hv (g p e s m args below meth c H locs lsr C x9 S R L)
theorem ml_null  (hd : decode (mcode Γ.2.1) pc = .ok (.aconst_null, 1)) (g : GL Γ X9 k sl (pc + 1) ls (.null :: st) n h) : GL Γ X9 k sl pc ls (st) n h := by
  intro p e s m args below meth c H locs lsr C x9 S R L
  exact lv_null C.1 C.2.1 hd (g p e s m args below meth c H locs lsr C x9 S R L)
theorem ml_iload_n {i : Fin 4} {x : Int32} (j : Nat) (hd : decode (mcode Γ.2.1) pc = .ok (.iload_n i, 1)) (hl : ls[j]? = some ((i : Nat), .int x)) (g : GL Γ X9 k sl (pc + 1) ls (.int x :: st) n h) : GL Γ X9 k sl pc ls (st) n h := by
  intro p e s m args below meth c H locs lsr C x9 S R L
  exact lv_iload_n C.1 C.2.1 hd rfl (lv_at L j hl) (g p e s m args below meth c H locs lsr C x9 S R L)
theorem ml_iload {i : Nat} {x : Int32} (j : Nat) (hd : decode (mcode Γ.2.1) pc = .ok (.iload i, 2)) (hl : ls[j]? = some (i, .int x)) (g : GL Γ X9 k sl (pc + 2) ls (.int x :: st) n h) : GL Γ X9 k sl pc ls (st) n h := by
  intro p e s m args below meth c H locs lsr C x9 S R L
  exact lv_iload C.1 C.2.1 hd (lv_at L j hl) (g p e s m args below meth c H locs lsr C x9 S R L)
theorem ml_lload_n {i : Fin 4} {x : Int64} (j : Nat) (hd : decode (mcode Γ.2.1) pc = .ok (.lload_n i, 1)) (hl : ls[j]? = some ((i : Nat), .long x)) (g : GL Γ X9 k sl (pc + 1) ls (.long x :: st) n h) : GL Γ X9 k sl pc ls (st) n h := by
  intro p e s m args below meth c H locs lsr C x9 S R L
  exact lv_lload_n C.1 C.2.1 hd rfl (lv_at L j hl) (g p e s m args below meth c H locs lsr C x9 S R L)
theorem ml_lload {i : Nat} {x : Int64} (j : Nat) (hd : decode (mcode Γ.2.1) pc = .ok (.lload i, 2)) (hl : ls[j]? = some (i, .long x)) (g : GL Γ X9 k sl (pc + 2) ls (.long x :: st) n h) : GL Γ X9 k sl pc ls (st) n h := by
  intro p e s m args below meth c H locs lsr C x9 S R L
  exact lv_lload C.1 C.2.1 hd (lv_at L j hl) (g p e s m args below meth c H locs lsr C x9 S R L)
theorem ml_aload_n {i : Fin 4} {x : Nat} (j : Nat) (hd : decode (mcode Γ.2.1) pc = .ok (.aload_n i, 1)) (hl : ls[j]? = some ((i : Nat), .ref x)) (g : GL Γ X9 k sl (pc + 1) ls (.ref x :: st) n h) : GL Γ X9 k sl pc ls (st) n h := by
  intro p e s m args below meth c H locs lsr C x9 S R L
  exact lv_aload_n C.1 C.2.1 hd rfl (lv_at L j hl) (g p e s m args below meth c H locs lsr C x9 S R L)
theorem ml_aload {i : Nat} {x : Nat} (j : Nat) (hd : decode (mcode Γ.2.1) pc = .ok (.aload i, 2)) (hl : ls[j]? = some (i, .ref x)) (g : GL Γ X9 k sl (pc + 2) ls (.ref x :: st) n h) : GL Γ X9 k sl pc ls (st) n h := by
  intro p e s m args below meth c H locs lsr C x9 S R L
  exact lv_aload C.1 C.2.1 hd (lv_at L j hl) (g p e s m args below meth c H locs lsr C x9 S R L)
theorem ml_aload_nN {i : Fin 4} (j : Nat) (hd : decode (mcode Γ.2.1) pc = .ok (.aload_n i, 1)) (hl : ls[j]? = some ((i : Nat), .null)) (g : GL Γ X9 k sl (pc + 1) ls (.null :: st) n h) : GL Γ X9 k sl pc ls (st) n h := by
  intro p e s m args below meth c H locs lsr C x9 S R L
  exact lv_aload_nN C.1 C.2.1 hd rfl (lv_at L j hl) (g p e s m args below meth c H locs lsr C x9 S R L)
theorem ml_aloadN {i : Nat} (j : Nat) (hd : decode (mcode Γ.2.1) pc = .ok (.aload i, 2)) (hl : ls[j]? = some (i, .null)) (g : GL Γ X9 k sl (pc + 2) ls (.null :: st) n h) : GL Γ X9 k sl pc ls (st) n h := by
  intro p e s m args below meth c H locs lsr C x9 S R L
  exact lv_aloadN C.1 C.2.1 hd (lv_at L j hl) (g p e s m args below meth c H locs lsr C x9 S R L)
theorem ml_istore_n {i : Fin 4} {x : Int32} {ls' : List (Nat × Value)} (hd : decode (mcode Γ.2.1) pc = .ok (.istore_n i, 1)) (hn : (i : Nat) < mmax Γ.2.1) (hl : ((i : Nat), (.int x : Value)) :: ls.filter (fun q => !(q.1 == (i : Nat)) && !(q.1 + 1 == (i : Nat) && q.2.category == 2)) = ls') (g : GL Γ X9 k sl (pc + 1) ls' st n h) : GL Γ X9 k sl pc ls ((.int x : Value) :: st) n h := by
  intro p e s m args below meth c H locs lsr C x9 S R L
  exact lv_istore_n C.1 C.2.1 hd rfl L hn hl (fun lsr' L' => g p e s m args below meth c H locs lsr' C x9 S R L')
theorem ml_istore {i : Nat} {x : Int32} {ls' : List (Nat × Value)} (hd : decode (mcode Γ.2.1) pc = .ok (.istore i, 2)) (hn : i < mmax Γ.2.1) (hl : (i, (.int x : Value)) :: ls.filter (fun q => !(q.1 == i) && !(q.1 + 1 == i && q.2.category == 2)) = ls') (g : GL Γ X9 k sl (pc + 2) ls' st n h) : GL Γ X9 k sl pc ls ((.int x : Value) :: st) n h := by
  intro p e s m args below meth c H locs lsr C x9 S R L
  exact lv_istore C.1 C.2.1 hd L hn hl (fun lsr' L' => g p e s m args below meth c H locs lsr' C x9 S R L')
theorem ml_lstore_n {i : Fin 4} {x : Int64} {ls' : List (Nat × Value)} (hd : decode (mcode Γ.2.1) pc = .ok (.lstore_n i, 1)) (hn : (i : Nat) + 1 < mmax Γ.2.1) (hl : ((i : Nat), (.long x : Value)) :: ls.filter (fun q => !(q.1 == (i : Nat)) && (!(q.1 == (i : Nat) + 1) && !(q.1 + 1 == (i : Nat) && q.2.category == 2))) = ls') (g : GL Γ X9 k sl (pc + 1) ls' st n h) : GL Γ X9 k sl pc ls ((.long x : Value) :: st) n h := by
  intro p e s m args below meth c H locs lsr C x9 S R L
  exact lv_lstore_n C.1 C.2.1 hd rfl L hn hl (fun lsr' L' => g p e s m args below meth c H locs lsr' C x9 S R L')
theorem ml_lstore {i : Nat} {x : Int64} {ls' : List (Nat × Value)} (hd : decode (mcode Γ.2.1) pc = .ok (.lstore i, 2)) (hn : i + 1 < mmax Γ.2.1) (hl : (i, (.long x : Value)) :: ls.filter (fun q => !(q.1 == i) && (!(q.1 == i + 1) && !(q.1 + 1 == i && q.2.category == 2))) = ls') (g : GL Γ X9 k sl (pc + 2) ls' st n h) : GL Γ X9 k sl pc ls ((.long x : Value) :: st) n h := by
  intro p e s m args below meth c H locs lsr C x9 S R L
  exact lv_lstore C.1 C.2.1 hd L hn hl (fun lsr' L' => g p e s m args below meth c H locs lsr' C x9 S R L')
theorem ml_astore_n {i : Fin 4} {x : Nat} {ls' : List (Nat × Value)} (hd : decode (mcode Γ.2.1) pc = .ok (.astore_n i, 1)) (hn : (i : Nat) < mmax Γ.2.1) (hl : ((i : Nat), (.ref x : Value)) :: ls.filter (fun q => !(q.1 == (i : Nat)) && !(q.1 + 1 == (i : Nat) && q.2.category == 2)) = ls') (g : GL Γ X9 k sl (pc + 1) ls' st n h) : GL Γ X9 k sl pc ls ((.ref x : Value) :: st) n h := by
  intro p e s m args below meth c H locs lsr C x9 S R L
  exact lv_astore_n C.1 C.2.1 hd rfl L hn hl (fun lsr' L' => g p e s m args below meth c H locs lsr' C x9 S R L')
theorem ml_astore {i : Nat} {x : Nat} {ls' : List (Nat × Value)} (hd : decode (mcode Γ.2.1) pc = .ok (.astore i, 2)) (hn : i < mmax Γ.2.1) (hl : (i, (.ref x : Value)) :: ls.filter (fun q => !(q.1 == i) && !(q.1 + 1 == i && q.2.category == 2)) = ls') (g : GL Γ X9 k sl (pc + 2) ls' st n h) : GL Γ X9 k sl pc ls ((.ref x : Value) :: st) n h := by
  intro p e s m args below meth c H locs lsr C x9 S R L
  exact lv_astore C.1 C.2.1 hd L hn hl (fun lsr' L' => g p e s m args below meth c H locs lsr' C x9 S R L')
theorem ml_astore_nN {i : Fin 4} {ls' : List (Nat × Value)} (hd : decode (mcode Γ.2.1) pc = .ok (.astore_n i, 1)) (hn : (i : Nat) < mmax Γ.2.1) (hl : ((i : Nat), (.null : Value)) :: ls.filter (fun q => !(q.1 == (i : Nat)) && !(q.1 + 1 == (i : Nat) && q.2.category == 2)) = ls') (g : GL Γ X9 k sl (pc + 1) ls' st n h) : GL Γ X9 k sl pc ls ((.null : Value) :: st) n h := by
  intro p e s m args below meth c H locs lsr C x9 S R L
  exact lv_astore_nN C.1 C.2.1 hd rfl L hn hl (fun lsr' L' => g p e s m args below meth c H locs lsr' C x9 S R L')
theorem ml_astoreN {i : Nat} {ls' : List (Nat × Value)} (hd : decode (mcode Γ.2.1) pc = .ok (.astore i, 2)) (hn : i < mmax Γ.2.1) (hl : (i, (.null : Value)) :: ls.filter (fun q => !(q.1 == i) && !(q.1 + 1 == i && q.2.category == 2)) = ls') (g : GL Γ X9 k sl (pc + 2) ls' st n h) : GL Γ X9 k sl pc ls ((.null : Value) :: st) n h := by
  intro p e s m args below meth c H locs lsr C x9 S R L
  exact lv_astoreN C.1 C.2.1 hd L hn hl (fun lsr' L' => g p e s m args below meth c H locs lsr' C x9 S R L')
theorem ml_iinc {i : Nat} {d : Int} {x v : Int32} {ls' : List (Nat × Value)} (j : Nat) (hd : decode (mcode Γ.2.1) pc = .ok (.iinc i d, 3)) (hk : ls[j]? = some (i, .int x)) (hv : x + Int32.ofInt d = v) (hn : i < mmax Γ.2.1) (hl : (i, Value.int v) :: ls.filter (fun q => !(q.1 == i) && !(q.1 + 1 == i && q.2.category == 2)) = ls') (g : GL Γ X9 k sl (pc + 3) ls' st n h) : GL Γ X9 k sl pc ls st n h := by
  intro p e s m args below meth c H locs lsr C x9 S R L
  exact lv_iinc C.1 C.2.1 hd L hk hv hn hl (fun lsr' L' => g p e s m args below meth c H locs lsr' C x9 S R L')
theorem ml_ls {ls' : List (Nat × Value)} (js : List Nat) (hl : lv_pick ls js = ls') (g : GL Γ X9 k sl pc ls' st n h) : GL Γ X9 k sl pc ls st n h := by
  intro p e s m args below meth c H locs lsr C x9 S R L
  exact g p e s m args below meth c H locs lsr C x9 S R (lv_sub L js hl)
theorem ml_iadd {x y : Int32} (hd : decode (mcode Γ.2.1) pc = .ok (.iadd, 1)) (g : GL Γ X9 k sl (pc + 1) ls (.int (x + y) :: st) n h) : GL Γ X9 k sl pc ls (.int y :: .int x :: st) n h := by
  intro p e s m args below meth c H locs lsr C x9 S R L
  exact lv_iadd C.1 C.2.1 hd (g p e s m args below meth c H locs lsr C x9 S R L)
theorem ml_isub {x y : Int32} (hd : decode (mcode Γ.2.1) pc = .ok (.isub, 1)) (g : GL Γ X9 k sl (pc + 1) ls (.int (x - y) :: st) n h) : GL Γ X9 k sl pc ls (.int y :: .int x :: st) n h := by
  intro p e s m args below meth c H locs lsr C x9 S R L
  exact lv_isub C.1 C.2.1 hd (g p e s m args below meth c H locs lsr C x9 S R L)
theorem ml_imul {x y : Int32} (hd : decode (mcode Γ.2.1) pc = .ok (.imul, 1)) (g : GL Γ X9 k sl (pc + 1) ls (.int (x * y) :: st) n h) : GL Γ X9 k sl pc ls (.int y :: .int x :: st) n h := by
  intro p e s m args below meth c H locs lsr C x9 S R L
  exact lv_imul C.1 C.2.1 hd (g p e s m args below meth c H locs lsr C x9 S R L)
theorem ml_iand {x y : Int32} (hd : decode (mcode Γ.2.1) pc = .ok (.iand, 1)) (g : GL Γ X9 k sl (pc + 1) ls (.int (x &&& y) :: st) n h) : GL Γ X9 k sl pc ls (.int y :: .int x :: st) n h := by
  intro p e s m args below meth c H locs lsr C x9 S R L
  exact lv_iand C.1 C.2.1 hd (g p e s m args below meth c H locs lsr C x9 S R L)
theorem ml_ior {x y : Int32} (hd : decode (mcode Γ.2.1) pc = .ok (.ior, 1)) (g : GL Γ X9 k sl (pc + 1) ls (.int (x ||| y) :: st) n h) : GL Γ X9 k sl pc ls (.int y :: .int x :: st) n h := by
  intro p e s m args below meth c H locs lsr C x9 S R L
  exact lv_ior C.1 C.2.1 hd (g p e s m args below meth c H locs lsr C x9 S R L)
theorem ml_ladd {x y : Int64} (hd : decode (mcode Γ.2.1) pc = .ok (.ladd, 1)) (g : GL Γ X9 k sl (pc + 1) ls (.long (x + y) :: st) n h) : GL Γ X9 k sl pc ls (.long y :: .long x :: st) n h := by
  intro p e s m args below meth c H locs lsr C x9 S R L
  exact lv_ladd C.1 C.2.1 hd (g p e s m args below meth c H locs lsr C x9 S R L)
theorem ml_lsub {x y : Int64} (hd : decode (mcode Γ.2.1) pc = .ok (.lsub, 1)) (g : GL Γ X9 k sl (pc + 1) ls (.long (x - y) :: st) n h) : GL Γ X9 k sl pc ls (.long y :: .long x :: st) n h := by
  intro p e s m args below meth c H locs lsr C x9 S R L
  exact lv_lsub C.1 C.2.1 hd (g p e s m args below meth c H locs lsr C x9 S R L)
theorem ml_lmul {x y : Int64} (hd : decode (mcode Γ.2.1) pc = .ok (.lmul, 1)) (g : GL Γ X9 k sl (pc + 1) ls (.long (x * y) :: st) n h) : GL Γ X9 k sl pc ls (.long y :: .long x :: st) n h := by
  intro p e s m args below meth c H locs lsr C x9 S R L
  exact lv_lmul C.1 C.2.1 hd (g p e s m args below meth c H locs lsr C x9 S R L)
theorem ml_idiv {x y : Int32} (hd : decode (mcode Γ.2.1) pc = .ok (.idiv, 1)) (hne : ¬ y = 0) (g : GL Γ X9 k sl (pc + 1) ls (.int (x / y) :: st) n h) : GL Γ X9 k sl pc ls (.int y :: .int x :: st) n h := by
  intro p e s m args below meth c H locs lsr C x9 S R L
  exact lv_idiv C.1 C.2.1 hd hne (g p e s m args below meth c H locs lsr C x9 S R L)
theorem ml_irem {x y : Int32} (hd : decode (mcode Γ.2.1) pc = .ok (.irem, 1)) (hne : ¬ y = 0) (g : GL Γ X9 k sl (pc + 1) ls (.int (x - x / y * y) :: st) n h) : GL Γ X9 k sl pc ls (.int y :: .int x :: st) n h := by
  intro p e s m args below meth c H locs lsr C x9 S R L
  exact lv_irem C.1 C.2.1 hd hne (g p e s m args below meth c H locs lsr C x9 S R L)
theorem ml_ishl {x y : Int32} (hd : decode (mcode Γ.2.1) pc = .ok (.ishl, 1)) (g : GL Γ X9 k sl (pc + 1) ls (.int (x <<< (y &&& 31)) :: st) n h) : GL Γ X9 k sl pc ls (.int y :: .int x :: st) n h := by
  intro p e s m args below meth c H locs lsr C x9 S R L
  exact lv_ishl C.1 C.2.1 hd (g p e s m args below meth c H locs lsr C x9 S R L)
theorem ml_ishr {x y : Int32} (hd : decode (mcode Γ.2.1) pc = .ok (.ishr, 1)) (g : GL Γ X9 k sl (pc + 1) ls (.int (x >>> (y &&& 31)) :: st) n h) : GL Γ X9 k sl pc ls (.int y :: .int x :: st) n h := by
  intro p e s m args below meth c H locs lsr C x9 S R L
  exact lv_ishr C.1 C.2.1 hd (g p e s m args below meth c H locs lsr C x9 S R L)
theorem ml_iushr {x y v : Int32} (hd : decode (mcode Γ.2.1) pc = .ok (.iushr, 1)) (hv : (x.toUInt32 >>> (y.toUInt32 &&& Int32.toUInt32 31)).toInt32 = v) (g : GL Γ X9 k sl (pc + 1) ls (.int v :: st) n h) : GL Γ X9 k sl pc ls (.int y :: .int x :: st) n h := by
  intro p e s m args below meth c H locs lsr C x9 S R L
  exact lv_iushr C.1 C.2.1 hd hv (g p e s m args below meth c H locs lsr C x9 S R L)
theorem ml_i2l {x : Int32} {v : Int64} (hd : decode (mcode Γ.2.1) pc = .ok (.i2l, 1)) (hv : x.toInt64 = v) (g : GL Γ X9 k sl (pc + 1) ls (.long v :: st) n h) : GL Γ X9 k sl pc ls (.int x :: st) n h := by
  intro p e s m args below meth c H locs lsr C x9 S R L
  exact lv_i2l C.1 C.2.1 hd hv (g p e s m args below meth c H locs lsr C x9 S R L)
theorem ml_lcmp {x y : Int64} (hd : decode (mcode Γ.2.1) pc = .ok (.lcmp, 1)) (g : GL Γ X9 k sl (pc + 1) ls (.int (lg_cmp x y) :: st) n h) : GL Γ X9 k sl pc ls (.long y :: .long x :: st) n h := by
  intro p e s m args below meth c H locs lsr C x9 S R L
  exact W.lcmp C.1 C.2.1 hd (g p e s m args below meth c H locs lsr C x9 S R L)
theorem ml_dup {v : Value} (hd : decode (mcode Γ.2.1) pc = .ok (.dup, 1)) (hv : v.category = 1) (g : GL Γ X9 k sl (pc + 1) ls (v :: v :: st) n h) : GL Γ X9 k sl pc ls (v :: st) n h := by
  intro p e s m args below meth c H locs lsr C x9 S R L
  exact lv_dup C.1 C.2.1 hd hv (g p e s m args below meth c H locs lsr C x9 S R L)
theorem ml_pop {v : Value} (hd : decode (mcode Γ.2.1) pc = .ok (.pop, 1)) (hv : v.category = 1) (g : GL Γ X9 k sl (pc + 1) ls (st) n h) : GL Γ X9 k sl pc ls (v :: st) n h := by
  intro p e s m args below meth c H locs lsr C x9 S R L
  exact lv_pop C.1 C.2.1 hd hv (g p e s m args below meth c H locs lsr C x9 S R L)
theorem ml_dup2 {v w : Value} (hd : decode (mcode Γ.2.1) pc = .ok (.dup2, 1)) (hv : v.category = 1) (hw : w.category = 1) (g : GL Γ X9 k sl (pc + 1) ls (v :: w :: v :: w :: st) n h) : GL Γ X9 k sl pc ls (v :: w :: st) n h := by
  intro p e s m args below meth c H locs lsr C x9 S R L
  exact lv_dup2_11 C.1 C.2.1 hd hv hw (g p e s m args below meth c H locs lsr C x9 S R L)
theorem ml_if_eq {x : Int32} {off : Int} (tgt : Nat) (hd : decode (mcode Γ.2.1) pc = .ok (.ifCond .eq off, 3)) (ht : (pc : Int) + off = (tgt : Int)) (gt : x = 0 → GL Γ X9 k sl tgt ls st n h) (gf : ¬ x = 0 → GL Γ X9 k sl (pc + 3) ls st n h) : GL Γ X9 k sl pc ls (.int x :: st) n h := by
  intro p e s m args below meth c H locs lsr C x9 S R L
  exact lv_if_eq C.1 C.2.1 hd ht (fun q => gt (q) p e s m args below meth c H locs lsr C x9 S R L) (fun q => gf (q) p e s m args below meth c H locs lsr C x9 S R L)
theorem ml_if_ne {x : Int32} {off : Int} (tgt : Nat) (hd : decode (mcode Γ.2.1) pc = .ok (.ifCond .ne off, 3)) (ht : (pc : Int) + off = (tgt : Int)) (gt : ¬ x = 0 → GL Γ X9 k sl tgt ls st n h) (gf : x = 0 → GL Γ X9 k sl (pc + 3) ls st n h) : GL Γ X9 k sl pc ls (.int x :: st) n h := by
  intro p e s m args below meth c H locs lsr C x9 S R L
  exact lv_if_ne C.1 C.2.1 hd ht (fun q => gt (q) p e s m args below meth c H locs lsr C x9 S R L) (fun q => gf (q) p e s m args below meth c H locs lsr C x9 S R L)
theorem ml_if_lt {x : Int32} {off : Int} (tgt : Nat) (hd : decode (mcode Γ.2.1) pc = .ok (.ifCond .lt off, 3)) (ht : (pc : Int) + off = (tgt : Int)) (gt : x < 0 → GL Γ X9 k sl tgt ls st n h) (gf : ¬ x < 0 → GL Γ X9 k sl (pc + 3) ls st n h) : GL Γ X9 k sl pc ls (.int x :: st) n h := by
  intro p e s m args below meth c H locs lsr C x9 S R L
  exact lv_if_lt C.1 C.2.1 hd ht (fun q => gt (q) p e s m args below meth c H locs lsr C x9 S R L) (fun q => gf (q) p e s m args below meth c H locs lsr C x9 S R L)
theorem ml_if_ge {x : Int32} {off : Int} (tgt : Nat) (hd : decode (mcode Γ.2.1) pc = .ok (.ifCond .ge off, 3)) (ht : (pc : Int) + off = (tgt : Int)) (gt : 0 ≤ x → GL Γ X9 k sl tgt ls st n h) (gf : ¬ 0 ≤ x → GL Γ X9 k sl (pc + 3) ls st n h) : GL Γ X9 k sl pc ls (.int x :: st) n h := by
  intro p e s m args below meth c H locs lsr C x9 S R L
  exact lv_if_ge C.1 C.2.1 hd ht (fun q => gt (q) p e s m args below meth c H locs lsr C x9 S R L) (fun q => gf (q) p e s m args below meth c H locs lsr C x9 S R L)
theorem ml_if_gt {x : Int32} {off : Int} (tgt : Nat) (hd : decode (mcode Γ.2.1) pc = .ok (.ifCond .gt off, 3)) (ht : (pc : Int) + off = (tgt : Int)) (gt : 0 < x → GL Γ X9 k sl tgt ls st n h) (gf : ¬ 0 < x → GL Γ X9 k sl (pc + 3) ls st n h) : GL Γ X9 k sl pc ls (.int x :: st) n h := by
  intro p e s m args below meth c H locs lsr C x9 S R L
  exact lv_if_gt C.1 C.2.1 hd ht (fun q => gt (q) p e s m args below meth c H locs lsr C x9 S R L) (fun q => gf (q) p e s m args below meth c H locs lsr C x9 S R L)
theorem ml_if_le {x : Int32} {off : Int} (tgt : Nat) (hd : decode (mcode Γ.2.1) pc = .ok (.ifCond .le off, 3)) (ht : (pc : Int) + off = (tgt : Int)) (gt : x ≤ 0 → GL Γ X9 k sl tgt ls st n h) (gf : ¬ x ≤ 0 → GL Γ X9 k sl (pc + 3) ls st n h) : GL Γ X9 k sl pc ls (.int x :: st) n h := by
  intro p e s m args below meth c H locs lsr C x9 S R L
  exact lv_if_le C.1 C.2.1 hd ht (fun q => gt (q) p e s m args below meth c H locs lsr C x9 S R L) (fun q => gf (q) p e s m args below meth c H locs lsr C x9 S R L)
theorem ml_icmp_eq {x y : Int32} {off : Int} (tgt : Nat) (hd : decode (mcode Γ.2.1) pc = .ok (.if_icmp .eq off, 3)) (ht : (pc : Int) + off = (tgt : Int)) (gt : x = y → GL Γ X9 k sl tgt ls st n h) (gf : ¬ x = y → GL Γ X9 k sl (pc + 3) ls st n h) : GL Γ X9 k sl pc ls (.int y :: .int x :: st) n h := by
  intro p e s m args below meth c H locs lsr C x9 S R L
  exact lv_icmp_eq C.1 C.2.1 hd ht (fun q => gt q p e s m args below meth c H locs lsr C x9 S R L) (fun q => gf q p e s m args below meth c H locs lsr C x9 S R L)
theorem ml_icmp_ne {x y : Int32} {off : Int} (tgt : Nat) (hd : decode (mcode Γ.2.1) pc = .ok (.if_icmp .ne off, 3)) (ht : (pc : Int) + off = (tgt : Int)) (gt : ¬ x = y → GL Γ X9 k sl tgt ls st n h) (gf : x = y → GL Γ X9 k sl (pc + 3) ls st n h) : GL Γ X9 k sl pc ls (.int y :: .int x :: st) n h := by
  intro p e s m args below meth c H locs lsr C x9 S R L
  exact lv_icmp_ne C.1 C.2.1 hd ht (fun q => gt q p e s m args below meth c H locs lsr C x9 S R L) (fun q => gf q p e s m args below meth c H locs lsr C x9 S R L)
theorem ml_icmp_lt {x y : Int32} {off : Int} (tgt : Nat) (hd : decode (mcode Γ.2.1) pc = .ok (.if_icmp .lt off, 3)) (ht : (pc : Int) + off = (tgt : Int)) (gt : x < y → GL Γ X9 k sl tgt ls st n h) (gf : ¬ x < y → GL Γ X9 k sl (pc + 3) ls st n h) : GL Γ X9 k sl pc ls (.int y :: .int x :: st) n h := by
  intro p e s m args below meth c H locs lsr C x9 S R L
  exact lv_icmp_lt C.1 C.2.1 hd ht (fun q => gt q p e s m args below meth c H locs lsr C x9 S R L) (fun q => gf q p e s m args below meth c H locs lsr C x9 S R L)
theorem ml_icmp_ge {x y : Int32} {off : Int} (tgt : Nat) (hd : decode (mcode Γ.2.1) pc = .ok (.if_icmp .ge off, 3)) (ht : (pc : Int) + off = (tgt : Int)) (gt : y ≤ x → GL Γ X9 k sl tgt ls st n h) (gf : ¬ y ≤ x → GL Γ X9 k sl (pc + 3) ls st n h) : GL Γ X9 k sl pc ls (.int y :: .int x :: st) n h := by
  intro p e s m args below meth c H locs lsr C x9 S R L
  exact lv_icmp_ge C.1 C.2.1 hd ht (fun q => gt q p e s m args below meth c H locs lsr C x9 S R L) (fun q => gf q p e s m args below meth c H locs lsr C x9 S R L)
theorem ml_icmp_gt {x y : Int32} {off : Int} (tgt : Nat) (hd : decode (mcode Γ.2.1) pc = .ok (.if_icmp .gt off, 3)) (ht : (pc : Int) + off = (tgt : Int)) (gt : y < x → GL Γ X9 k sl tgt ls st n h) (gf : ¬ y < x → GL Γ X9 k sl (pc + 3) ls st n h) : GL Γ X9 k sl pc ls (.int y :: .int x :: st) n h := by
  intro p e s m args below meth c H locs lsr C x9 S R L
  exact lv_icmp_gt C.1 C.2.1 hd ht (fun q => gt q p e s m args below meth c H locs lsr C x9 S R L) (fun q => gf q p e s m args below meth c H locs lsr C x9 S R L)
theorem ml_icmp_le {x y : Int32} {off : Int} (tgt : Nat) (hd : decode (mcode Γ.2.1) pc = .ok (.if_icmp .le off, 3)) (ht : (pc : Int) + off = (tgt : Int)) (gt : x ≤ y → GL Γ X9 k sl tgt ls st n h) (gf : ¬ x ≤ y → GL Γ X9 k sl (pc + 3) ls st n h) : GL Γ X9 k sl pc ls (.int y :: .int x :: st) n h := by
  intro p e s m args below meth c H locs lsr C x9 S R L
  exact lv_icmp_le C.1 C.2.1 hd ht (fun q => gt q p e s m args below meth c H locs lsr C x9 S R L) (fun q => gf q p e s m args below meth c H locs lsr C x9 S R L)
theorem ml_goto {off : Int} (tgt : Nat) (hd : decode (mcode Γ.2.1) pc = .ok (.goto off, 3)) (ht : (pc : Int) + off = (tgt : Int)) (g : GL Γ X9 k sl tgt ls st n h) : GL Γ X9 k sl pc ls st n h := by
  intro p e s m args below meth c H locs lsr C x9 S R L
  exact lv_goto C.1 C.2.1 hd ht (g p e s m args below meth c H locs lsr C x9 S R L)
theorem ml_ifnull {x : Nat} {off : Int} (hd : decode (mcode Γ.2.1) pc = .ok (.ifnull off, 3)) (g : GL Γ X9 k sl (pc + 3) ls st n h) : GL Γ X9 k sl pc ls (.ref x :: st) n h := by
  intro p e s m args below meth c H locs lsr C x9 S R L
  exact lv_ifnull C.1 C.2.1 hd (g p e s m args below meth c H locs lsr C x9 S R L)
theorem ml_ifnullN {off : Int} (tgt : Nat) (hd : decode (mcode Γ.2.1) pc = .ok (.ifnull off, 3)) (ht : (pc : Int) + off = (tgt : Int)) (g : GL Γ X9 k sl tgt ls st n h) : GL Γ X9 k sl pc ls (.null :: st) n h := by
  intro p e s m args below meth c H locs lsr C x9 S R L
  exact lv_ifnullN C.1 C.2.1 hd ht (g p e s m args below meth c H locs lsr C x9 S R L)
theorem ml_ifnonnull {x : Nat} {off : Int} (tgt : Nat) (hd : decode (mcode Γ.2.1) pc = .ok (.ifnonnull off, 3)) (ht : (pc : Int) + off = (tgt : Int)) (g : GL Γ X9 k sl tgt ls st n h) : GL Γ X9 k sl pc ls (.ref x :: st) n h := by
  intro p e s m args below meth c H locs lsr C x9 S R L
  exact lv_ifnonnull C.1 C.2.1 hd ht (g p e s m args below meth c H locs lsr C x9 S R L)
theorem ml_ifnonnullN {off : Int} (hd : decode (mcode Γ.2.1) pc = .ok (.ifnonnull off, 3)) (g : GL Γ X9 k sl (pc + 3) ls st n h) : GL Γ X9 k sl pc ls (.null :: st) n h := by
  intro p e s m args below meth c H locs lsr C x9 S R L
  exact lv_ifnonnullN C.1 C.2.1 hd (g p e s m args below meth c H locs lsr C x9 S R L)
theorem ml_tabIn {dflt lo hi : Int} {offs : Array Int} {len : Nat} {x : Int32} {off : Int} (tgt : Nat) (hd : decode (mcode Γ.2.1) pc = .ok (.tableswitch dflt lo hi offs, len)) (h1 : ¬ x.toInt < lo) (h2 : ¬ hi < x.toInt) (ho : offs[(x.toInt - lo).toNat]? = some off) (ht : (pc : Int) + off = (tgt : Int)) (g : GL Γ X9 k sl tgt ls st n h) : GL Γ X9 k sl pc ls (.int x :: st) n h := by
  intro p e s m args below meth c H locs lsr C x9 S R L
  exact lv_tableIn C.1 C.2.1 hd h1 h2 ho ht (g p e s m args below meth c H locs lsr C x9 S R L)
theorem ml_tabOut {dflt lo hi : Int} {offs : Array Int} {len : Nat} {x : Int32} (tgt : Nat) (hd : decode (mcode Γ.2.1) pc = .ok (.tableswitch dflt lo hi offs, len)) (h1 : x.toInt < lo ∨ hi < x.toInt) (ht : (pc : Int) + dflt = (tgt : Int)) (g : GL Γ X9 k sl tgt ls st n h) : GL Γ X9 k sl pc ls (.int x :: st) n h := by
  intro p e s m args below meth c H locs lsr C x9 S R L
  exact lv_tableOut C.1 C.2.1 hd h1 ht (g p e s m args below meth c H locs lsr C x9 S R L)
theorem ml_eq {x y : Int32} (e : x = y) (g : GL Γ X9 k sl pc ls (.int y :: st) n h) : GL Γ X9 k sl pc ls (.int x :: st) n h := e ▸ g
theorem ml_eql {x y : Int64} (e : x = y) (g : GL Γ X9 k sl pc ls (.long y :: st) n h) : GL Γ X9 k sl pc ls (.long x :: st) n h := e ▸ g
theorem ml_lald {a N j : Nat} {f : Nat → Int64} {i : Int32} (hh : h a = some (cJ N f)) (hi : i.toInt = (j : Int)) (hj : j < N) (hd : decode (mcode Γ.2.1) pc = .ok (.laload, 1)) (g : GL Γ X9 k sl (pc + 1) ls (.long (f j) :: st) n h) : GL Γ X9 k sl pc ls (.int i :: .ref a :: st) n h := by
  intro p e s m args below meth c H locs lsr C x9 S R L
  have e1 := ix_cl hi
  subst e1
  exact va_lald C.1 C.2.1 C.2.2.2.2.2.2.2.2.2.1 (R.at hh) 0 1 rfl rfl (ix_in hi hj) hd (g p e s m args below meth c H locs lsr C x9 S R L)
theorem ml_callV {i : Nat} {M' : MI} {b ci : Nat} {r : vw_C} {fs As rest : List Value} {mc' ms' : Nat} {Q' : RQ} (hd : decode (mcode Γ.2.1) pc = .ok (.invokevirtual i, 3)) (cw : CVw M' As.length) (hb : h b = some (cO ci fs)) (hcl : vwCl[ci]? = some r) (hrc : r.1 = (my M').cls) (hnt : mhh M' = []) (hlk : LK (my Γ.2.1).cls i (my M')) (hcon : Con Γ.1 M' (.ref b :: As) mc' ms' n h Q') (hst : st = As.reverse ++ .ref b :: rest) (hcat : (rest.map fun v => v.category).sum ≤ 8) (hfr : mfr M' + 1 ≤ mfr Γ.2.1) (hlo : 8 + (mmax M' + 11) + mlo M' ≤ mlo Γ.2.1) (hmc : k + mc' ≤ Γ.2.2.1) (hms : sl + ms' ≤ Γ.2.2.2.1)
    (gr : ∀ v n' h', Q' (.inl v) n' h' → GL Γ X9 (k + mc') (sl + ms') (pc + 3) ls (v.toList ++ rest) n' h') (gx : ∀ E n' h', Q' (.inr E) n' h' → False) : GL Γ X9 k sl pc ls st n h := by
  intro p e s m args below meth c H locs lsr C x9 S R L
  subst hst
  have hts : ∀ w ∈ TG, w.before args s = true := C.2.2.2.2.2.1
  have hK : va_K (kD Γ.1) vwCl (ktys Γ.1) s := C.2.2.2.2.2.2.2.2.2.1
  have hSt := C.2.2.2.2.2.2.2.2.2.2
  have hB := mj_back (R := { frames := mfr Γ.2.1, cells := Γ.2.2.1, slots := Γ.2.2.2.1, locals := mlo Γ.2.1 }) (p := p) (e := e) (below := below) hcon hts cw.1 hfr hlo
  obtain ⟨cw, hcwx⟩ := cw
  have hlen : ∀ sig, parseMethodDescriptor (my M').desc = some sig → As.length = sig.parameters.length := fun sig h => by
    have h2 := cw.2.2.2
    rw [h] at h2
    exact (Option.some.inj h2).symm
  have hy := cw.2.2.1
  obtain ⟨hinst, hsel⟩ := hcwx
  obtain ⟨mk, methM, hnamed, hmethM, hstM, habM⟩ := Cond.instanceMethod_spec (hts _ hinst)
  have hcode := hts _ cw.1
  rw [headW_code hnt] at hcode
  obtain ⟨methM', cM, hmethM', -, -, -, -, -, -, hsigM⟩ := Cond.code_spec hnamed hcode
  cases hmethM.symm.trans hmethM'
  obtain ⟨c2, r2, m2, q1, q2, q3, q4, kP, hkP, hkPi⟩ := Cond.selects_spec (hts _ hsel)
  obtain ⟨cellB, hcB, hoB, hclB⟩ := va_recv hK (R.at hb) (ci := ci) (q0 := 0) hcl rfl
  rw [hrc] at hclB
  cases hclB.symm.trans q1
  cases (State.methodFound?_of_named hnamed hy).symm.trans q2
  cases hnamed.symm.trans q3
  intro T hT X
  have hselP : selectMethod e.platform s.vm cellB.cls mk = .method mk := by rw [Launch.admits_selectMethod X.admits]; exact q4
  rcases hlk with hlk | ⟨host, hlk⟩
  · obtain ⟨vm₁, X₁, hstep₁⟩ := X.invokevirtual C.1 (own := (my Γ.2.1).cls) C.2.2.2.2.1 (hts _ hlk) hnamed hmethM hstM hkP hkPi hy (a := b) (cell := cellB) (by rw [hT]; exact hcB)
      (fun z h => by rw [h] at hoB; cases hoB) hselP hmethM habM hkP hkPi (g := F0 m pc lsr (As.reverse ++ .ref b :: rest)) rfl (argsL := As) (rest := rest) (hlen _ hsigM) rfl (by rw [C.2.1]; exact hd)
    rcases hB m meth c ⟨T.setVm vm₁, locs, k, sl⟩ (F0 m pc lsr rest) (.invokevirtual i) mk (Value.ref b :: As).toArray X₁ rfl (L.1.trans C.2.2.2.1.symm) (by rw [C.2.1]; exact hd) (lv_room (ls := lsr) (pc := pc) (m := m) hcat) (X₁.named hnamed) ⟨hmc, hms, pc_now S R hK hSt hT X₁.warmed⟩ with ⟨v, ⟨U', l2, c2, s2⟩, X', ⟨g', mk', t, L9, e1, e2, hq, h1, hL, h2, h3⟩, hsteps⟩ | ⟨q, ⟨U', l2, c2, s2⟩, X', ⟨g', mk', t, L9, E, ce, e1, e2, hq, hce, hcv, hcl, h1, hL, h2, h3⟩, hsteps⟩
    · dsimp only [Pt.U, Pt.locs, Pt.cells, Pt.slots] at X' e1 e2 h1 h2 h3 hsteps
      subst h1; subst h2; subst h3
      obtain ⟨v', n', h', hv, hQ, hR', hF⟩ := hq
      cases hv
      obtain ⟨-, -, S'⟩ := vx_keep (st₀ := (T.setVm vm₁).calling g' mk' _) (H := H) (T' := U') (t := t) hT e1 S (fun q _ z => z) (fun q z => z) hL hF
      obtain ⟨t2, a1, b1⟩ := gr v n' h' hQ p e s m args below meth c U'.heap _ lsr C x9 S' (by rw [e1]; exact hR') L U' rfl X'
      exact ⟨t2, (hstep₁ _ fun acts => by rw [doInvoke_state]; exact hsteps.trans a1), b1⟩
    · dsimp only [Pt.U, Pt.locs, Pt.cells, Pt.slots] at X' e1 e2 h1 h2 h3 hsteps hcl
      subst h1; subst h2; subst h3
      obtain ⟨n', h', hQ, hR', hF⟩ := hq
      obtain ⟨-, -, S'⟩ := vx_keep (st₀ := (T.setVm vm₁).calling g' mk' _) (H := H) (T' := U') (t := t) hT e1 S (fun q _ z => z) (fun q z => z) hL hF
      exact (gx E n' h' hQ).elim
  · obtain ⟨vm₁, X₁, hstep₁⟩ := X.invokevirtualNest C.1 (own := (my Γ.2.1).cls) C.2.2.2.2.1 (va_Nw.use rfl (hSt.2.1 _ hlk)) hnamed hmethM hstM hkP hkPi hy (a := b) (cell := cellB) (by rw [hT]; exact hcB)
      (fun z h => by rw [h] at hoB; cases hoB) hselP hmethM habM hkP hkPi (g := F0 m pc lsr (As.reverse ++ .ref b :: rest)) rfl (argsL := As) (rest := rest) (hlen _ hsigM) rfl (by rw [C.2.1]; exact hd)
    rcases hB m meth c ⟨T.setVm vm₁, locs, k, sl⟩ (F0 m pc lsr rest) (.invokevirtual i) mk (Value.ref b :: As).toArray X₁ rfl (L.1.trans C.2.2.2.1.symm) (by rw [C.2.1]; exact hd) (lv_room (ls := lsr) (pc := pc) (m := m) hcat) (X₁.named hnamed) ⟨hmc, hms, pc_now S R hK hSt hT X₁.warmed⟩ with ⟨v, ⟨U', l2, c2, s2⟩, X', ⟨g', mk', t, L9, e1, e2, hq, h1, hL, h2, h3⟩, hsteps⟩ | ⟨q, ⟨U', l2, c2, s2⟩, X', ⟨g', mk', t, L9, E, ce, e1, e2, hq, hce, hcv, hcl, h1, hL, h2, h3⟩, hsteps⟩
    · dsimp only [Pt.U, Pt.locs, Pt.cells, Pt.slots] at X' e1 e2 h1 h2 h3 hsteps
      subst h1; subst h2; subst h3
      obtain ⟨v', n', h', hv, hQ, hR', hF⟩ := hq
      cases hv
      obtain ⟨-, -, S'⟩ := vx_keep (st₀ := (T.setVm vm₁).calling g' mk' _) (H := H) (T' := U') (t := t) hT e1 S (fun q _ z => z) (fun q z => z) hL hF
      obtain ⟨t2, a1, b1⟩ := gr v n' h' hQ p e s m args below meth c U'.heap _ lsr C x9 S' (by rw [e1]; exact hR') L U' rfl X'
      exact ⟨t2, (hstep₁ _ fun acts => by rw [doInvoke_state]; exact hsteps.trans a1), b1⟩
    · dsimp only [Pt.U, Pt.locs, Pt.cells, Pt.slots] at X' e1 e2 h1 h2 h3 hsteps hcl
      subst h1; subst h2; subst h3
      obtain ⟨n', h', hQ, hR', hF⟩ := hq
      obtain ⟨-, -, S'⟩ := vx_keep (st₀ := (T.setVm vm₁).calling g' mk' _) (H := H) (T' := U') (t := t) hT e1 S (fun q _ z => z) (fun q z => z) hL hF
      exact (gx E n' h' hQ).elim
theorem ml_callS {i : Nat} {M' : MI} {As rest : List Value} {mc' ms' : Nat} {Q' : RQ} (hd : decode (mcode Γ.2.1) pc = .ok (.invokestatic i, 3)) (cw : CSw M' As.length) (hlk : LK (my Γ.2.1).cls i (my M')) (hcon : Con Γ.1 M' As mc' ms' n h Q') (hst : st = As.reverse ++ rest) (hcat : (rest.map fun v => v.category).sum ≤ 8) (hfr : mfr M' + 1 ≤ mfr Γ.2.1) (hlo : 8 + (mmax M' + 11) + mlo M' ≤ mlo Γ.2.1) (hmc : k + mc' ≤ Γ.2.2.1) (hms : sl + ms' ≤ Γ.2.2.2.1)
    (gr : ∀ v n' h', Q' (.inl v) n' h' → GL Γ X9 (k + mc') (sl + ms') (pc + 3) ls (v.toList ++ rest) n' h') (gx : ∀ E n' h', Q' (.inr E) n' h' → False) : GL Γ X9 k sl pc ls st n h := by
  intro p e s m args below meth c H locs lsr C x9 S R L
  subst hst
  have hts : ∀ w ∈ TG, w.before args s = true := C.2.2.2.2.2.1
  have hK : va_K (kD Γ.1) vwCl (ktys Γ.1) s := C.2.2.2.2.2.2.2.2.2.1
  have hSt := C.2.2.2.2.2.2.2.2.2.2
  have hB := mj_back (R := { frames := mfr Γ.2.1, cells := Γ.2.2.1, slots := Γ.2.2.2.1, locals := mlo Γ.2.1 }) (p := p) (e := e) (below := below) hcon hts cw.1 hfr hlo
  obtain ⟨cw, hcwx⟩ := cw
  have hlen : ∀ sig, parseMethodDescriptor (my M').desc = some sig → As.length = sig.parameters.length := fun sig h => by
    have h2 := cw.2.2.2
    rw [h] at h2
    exact (Option.some.inj h2).symm
  have hy := cw.2.2.1
  have hnm : ∃ (mk : MethodId) (methM : Method), s.methodNamed? (my M') = some mk ∧ s.vm.method? mk = some methM ∧ parseMethodDescriptor (my M').desc = some methM.sig := by
    have hcode := hts _ cw.1
    unfold headW at hcode
    split at hcode
    · obtain ⟨mk, hnamed⟩ := Cond.code_named hcode
      obtain ⟨methM, cM, hmethM, -, -, -, -, -, -, hsigM⟩ := Cond.code_spec hnamed hcode
      exact ⟨mk, methM, hnamed, hmethM, hsigM⟩
    · obtain ⟨mk, methM, cM, hnamed, hmethM, -, -, -, -, -, -, hsigM⟩ := Cond.codeWith_spec hcode
      exact ⟨mk, methM, hnamed, hmethM, hsigM⟩
  obtain ⟨mk, methM, hnamed, hmethM, hsigM⟩ := hnm
  have hstatic : methM.isStatic = true := Cond.static_spec hnamed hmethM (hts _ hcwx)
  obtain ⟨kP, hkP, -⟩ := className_of_methodNamed hnamed
  have hinitP : kP.init = .initialized := Cond.initialized_spec (findClass_of_methodNamed hnamed) hkP (hts _ cw.2.1)
  intro T hT X
  rcases hlk with hlk | ⟨host, hlk⟩
  · obtain ⟨vm₁, X₁, hstep₁⟩ := X.invokestatic C.1 (own := (my Γ.2.1).cls) C.2.2.2.2.1 (hts _ hlk) hnamed hmethM hstatic hkP hinitP hy (g := F0 m pc lsr (As.reverse ++ rest)) rfl (argsL := As) (rest := rest) (hlen _ hsigM) rfl (by rw [C.2.1]; exact hd)
    rcases hB m meth c ⟨T.setVm vm₁, locs, k, sl⟩ (F0 m pc lsr rest) (.invokestatic i) mk As.toArray X₁ rfl (L.1.trans C.2.2.2.1.symm) (by rw [C.2.1]; exact hd) (lv_room (ls := lsr) (pc := pc) (m := m) hcat) (X₁.named hnamed) ⟨hmc, hms, pc_now S R hK hSt hT X₁.warmed⟩ with ⟨v, ⟨U', l2, c2, s2⟩, X', ⟨g', mk', t, L9, e1, e2, hq, h1, hL, h2, h3⟩, hsteps⟩ | ⟨q, ⟨U', l2, c2, s2⟩, X', ⟨g', mk', t, L9, E, ce, e1, e2, hq, hce, hcv, hcl, h1, hL, h2, h3⟩, hsteps⟩
    · dsimp only [Pt.U, Pt.locs, Pt.cells, Pt.slots] at X' e1 e2 h1 h2 h3 hsteps
      subst h1; subst h2; subst h3
      obtain ⟨v', n', h', hv, hQ, hR', hF⟩ := hq
      cases hv
      obtain ⟨-, -, S'⟩ := vx_keep (st₀ := (T.setVm vm₁).calling g' mk' _) (H := H) (T' := U') (t := t) hT e1 S (fun q _ z => z) (fun q z => z) hL hF
      obtain ⟨t2, a1, b1⟩ := gr v n' h' hQ p e s m args below meth c U'.heap _ lsr C x9 S' (by rw [e1]; exact hR') L U' rfl X'
      exact ⟨t2, (hstep₁ _ fun acts => by rw [doInvoke_state]; exact hsteps.trans a1), b1⟩
    · dsimp only [Pt.U, Pt.locs, Pt.cells, Pt.slots] at X' e1 e2 h1 h2 h3 hsteps hcl
      subst h1; subst h2; subst h3
      obtain ⟨n', h', hQ, hR', hF⟩ := hq
      obtain ⟨-, -, S'⟩ := vx_keep (st₀ := (T.setVm vm₁).calling g' mk' _) (H := H) (T' := U') (t := t) hT e1 S (fun q _ z => z) (fun q z => z) hL hF
      exact (gx E n' h' hQ).elim
  · obtain ⟨vm₁, X₁, hstep₁⟩ := X.invokestaticNest C.1 (own := (my Γ.2.1).cls) C.2.2.2.2.1 (va_Nw.use rfl (hSt.2.1 _ hlk)) hnamed hmethM hstatic hkP hinitP hy (g := F0 m pc lsr (As.reverse ++ rest)) rfl (argsL := As) (rest := rest) (hlen _ hsigM) rfl (by rw [C.2.1]; exact hd)
    rcases hB m meth c ⟨T.setVm vm₁, locs, k, sl⟩ (F0 m pc lsr rest) (.invokestatic i) mk As.toArray X₁ rfl (L.1.trans C.2.2.2.1.symm) (by rw [C.2.1]; exact hd) (lv_room (ls := lsr) (pc := pc) (m := m) hcat) (X₁.named hnamed) ⟨hmc, hms, pc_now S R hK hSt hT X₁.warmed⟩ with ⟨v, ⟨U', l2, c2, s2⟩, X', ⟨g', mk', t, L9, e1, e2, hq, h1, hL, h2, h3⟩, hsteps⟩ | ⟨q, ⟨U', l2, c2, s2⟩, X', ⟨g', mk', t, L9, E, ce, e1, e2, hq, hce, hcv, hcl, h1, hL, h2, h3⟩, hsteps⟩
    · dsimp only [Pt.U, Pt.locs, Pt.cells, Pt.slots] at X' e1 e2 h1 h2 h3 hsteps
      subst h1; subst h2; subst h3
      obtain ⟨v', n', h', hv, hQ, hR', hF⟩ := hq
      cases hv
      obtain ⟨-, -, S'⟩ := vx_keep (st₀ := (T.setVm vm₁).calling g' mk' _) (H := H) (T' := U') (t := t) hT e1 S (fun q _ z => z) (fun q z => z) hL hF
      obtain ⟨t2, a1, b1⟩ := gr v n' h' hQ p e s m args below meth c U'.heap _ lsr C x9 S' (by rw [e1]; exact hR') L U' rfl X'
      exact ⟨t2, (hstep₁ _ fun acts => by rw [doInvoke_state]; exact hsteps.trans a1), b1⟩
    · dsimp only [Pt.U, Pt.locs, Pt.cells, Pt.slots] at X' e1 e2 h1 h2 h3 hsteps hcl
      subst h1; subst h2; subst h3
      obtain ⟨n', h', hQ, hR', hF⟩ := hq
      obtain ⟨-, -, S'⟩ := vx_keep (st₀ := (T.setVm vm₁).calling g' mk' _) (H := H) (T' := U') (t := t) hT e1 S (fun q _ z => z) (fun q z => z) hL hF
      exact (gx E n' h' hQ).elim
theorem ml_callI {i : Nat} {M' : MI} {b : Nat} {As rest : List Value} {mc' ms' : Nat} {Q' : RQ} (hd : decode (mcode Γ.2.1) pc = .ok (.invokespecial i, 3)) (cw : CIw M' As.length) (hnt : mhh M' = []) (hlk : LK (my Γ.2.1).cls i (my M')) (hcon : Con Γ.1 M' (.ref b :: As) mc' ms' n h Q') (hst : st = As.reverse ++ .ref b :: rest) (hcat : (rest.map fun v => v.category).sum ≤ 8) (hfr : mfr M' + 1 ≤ mfr Γ.2.1) (hlo : 8 + (mmax M' + 11) + mlo M' ≤ mlo Γ.2.1) (hmc : k + mc' ≤ Γ.2.2.1) (hms : sl + ms' ≤ Γ.2.2.2.1)
    (gr : ∀ v n' h', Q' (.inl v) n' h' → GL Γ X9 (k + mc') (sl + ms') (pc + 3) ls (v.toList ++ rest) n' h') (gx : ∀ E n' h', Q' (.inr E) n' h' → False) : GL Γ X9 k sl pc ls st n h := by
  intro p e s m args below meth c H locs lsr C x9 S R L
  subst hst
  have hts : ∀ w ∈ TG, w.before args s = true := C.2.2.2.2.2.1
  have hK : va_K (kD Γ.1) vwCl (ktys Γ.1) s := C.2.2.2.2.2.2.2.2.2.1
  have hSt := C.2.2.2.2.2.2.2.2.2.2
  have hB := mj_back (R := { frames := mfr Γ.2.1, cells := Γ.2.2.1, slots := Γ.2.2.2.1, locals := mlo Γ.2.1 }) (p := p) (e := e) (below := below) hcon hts cw.1 hfr hlo
  obtain ⟨cw, hcwx⟩ := cw
  have hlen : ∀ sig, parseMethodDescriptor (my M').desc = some sig → As.length = sig.parameters.length := fun sig h => by
    have h2 := cw.2.2.2
    rw [h] at h2
    exact (Option.some.inj h2).symm
  have hy := cw.2.2.1
  obtain ⟨hinst, hy1, hrn⟩ := hcwx
  have hcode := hts _ cw.1
  rw [headW_code hnt, hrn] at hcode
  intro T hT X
  have hpl : e.platform.magicAccessors = ({} : Platform).magicAccessors := by rw [X.admits.platform]
  rcases hlk with hlk | ⟨host, hlk⟩
  · obtain ⟨mk, methM, cM, kP, vm₁, hnamed, hmethM, hcodeM, -, hlocalsM, -, hkP, -, hW₁, hstep₁⟩ := Steps.initColdArgs (e := e) X.here C.1 X.warmed hpl C.2.2.2.2.1 hy1 hy (hts _ hlk) (hts _ hinst) hcode (f := F0 m pc lsr (As.reverse ++ .ref b :: rest)) (a := b) (argsL := As) (rest := rest) rfl hlen rfl (by rw [C.2.1]; exact hd)
    have X₁ := X.noted hW₁
    rcases hB m meth c ⟨T.setVm vm₁, locs, k, sl⟩ (F0 m pc lsr rest) (.invokespecial i) mk (Value.ref b :: As).toArray X₁ rfl (L.1.trans C.2.2.2.1.symm) (by rw [C.2.1]; exact hd) (lv_room (ls := lsr) (pc := pc) (m := m) hcat) (X₁.named hnamed) ⟨hmc, hms, pc_now S R hK hSt hT X₁.warmed⟩ with ⟨v, ⟨U', l2, c2, s2⟩, X', ⟨g', mk', t, L9, e1, e2, hq, h1, hL, h2, h3⟩, hsteps⟩ | ⟨q, ⟨U', l2, c2, s2⟩, X', ⟨g', mk', t, L9, E, ce, e1, e2, hq, hce, hcv, hcl, h1, hL, h2, h3⟩, hsteps⟩
    · dsimp only [Pt.U, Pt.locs, Pt.cells, Pt.slots] at X' e1 e2 h1 h2 h3 hsteps
      subst h1; subst h2; subst h3
      obtain ⟨v', n', h', hv, hQ, hR', hF⟩ := hq
      cases hv
      obtain ⟨-, -, S'⟩ := vx_keep (st₀ := (T.setVm vm₁).calling g' mk' _) (H := H) (T' := U') (t := t) hT e1 S (fun q _ z => z) (fun q z => z) hL hF
      obtain ⟨t2, a1, b1⟩ := gr v n' h' hQ p e s m args below meth c U'.heap _ lsr C x9 S' (by rw [e1]; exact hR') L U' rfl X'
      exact ⟨t2, (hstep₁ _ fun acts => by rw [doInvoke_state]; exact hsteps.trans a1), b1⟩
    · dsimp only [Pt.U, Pt.locs, Pt.cells, Pt.slots] at X' e1 e2 h1 h2 h3 hsteps hcl
      subst h1; subst h2; subst h3
      obtain ⟨n', h', hQ, hR', hF⟩ := hq
      obtain ⟨-, -, S'⟩ := vx_keep (st₀ := (T.setVm vm₁).calling g' mk' _) (H := H) (T' := U') (t := t) hT e1 S (fun q _ z => z) (fun q z => z) hL hF
      exact (gx E n' h' hQ).elim
  · obtain ⟨mk, methM, cM, kP, vm₁, hnamed, hmethM, hcodeM, -, hlocalsM, -, hkP, -, hW₁, hstep₁⟩ := Steps.initColdArgsNest (e := e) X.here C.1 X.warmed hpl C.2.2.2.2.1 hy1 hy (va_Nw.use rfl (hSt.2.1 _ hlk)) (hts _ hinst) hcode (f := F0 m pc lsr (As.reverse ++ .ref b :: rest)) (a := b) (argsL := As) (rest := rest) rfl hlen rfl (by rw [C.2.1]; exact hd)
    have X₁ := X.noted hW₁
    rcases hB m meth c ⟨T.setVm vm₁, locs, k, sl⟩ (F0 m pc lsr rest) (.invokespecial i) mk (Value.ref b :: As).toArray X₁ rfl (L.1.trans C.2.2.2.1.symm) (by rw [C.2.1]; exact hd) (lv_room (ls := lsr) (pc := pc) (m := m) hcat) (X₁.named hnamed) ⟨hmc, hms, pc_now S R hK hSt hT X₁.warmed⟩ with ⟨v, ⟨U', l2, c2, s2⟩, X', ⟨g', mk', t, L9, e1, e2, hq, h1, hL, h2, h3⟩, hsteps⟩ | ⟨q, ⟨U', l2, c2, s2⟩, X', ⟨g', mk', t, L9, E, ce, e1, e2, hq, hce, hcv, hcl, h1, hL, h2, h3⟩, hsteps⟩
    · dsimp only [Pt.U, Pt.locs, Pt.cells, Pt.slots] at X' e1 e2 h1 h2 h3 hsteps
      subst h1; subst h2; subst h3
      obtain ⟨v', n', h', hv, hQ, hR', hF⟩ := hq
      cases hv
      obtain ⟨-, -, S'⟩ := vx_keep (st₀ := (T.setVm vm₁).calling g' mk' _) (H := H) (T' := U') (t := t) hT e1 S (fun q _ z => z) (fun q z => z) hL hF
      obtain ⟨t2, a1, b1⟩ := gr v n' h' hQ p e s m args below meth c U'.heap _ lsr C x9 S' (by rw [e1]; exact hR') L U' rfl X'
      exact ⟨t2, (hstep₁ _ fun acts => by rw [doInvoke_state]; exact hsteps.trans a1), b1⟩
    · dsimp only [Pt.U, Pt.locs, Pt.cells, Pt.slots] at X' e1 e2 h1 h2 h3 hsteps hcl
      subst h1; subst h2; subst h3
      obtain ⟨n', h', hQ, hR', hF⟩ := hq
      obtain ⟨-, -, S'⟩ := vx_keep (st₀ := (T.setVm vm₁).calling g' mk' _) (H := H) (T' := U') (t := t) hT e1 S (fun q _ z => z) (fun q z => z) hL hF
      exact (gx E n' h' hQ).elim
theorem ml_zret {v : Int32} (hd : decode (mcode Γ.2.1) pc = .ok (.ireturn, 1)) (hr : mret Γ.2.1 = some .boolean) (hn : v = 0 ∨ v = 1) (hc : k ≤ Γ.2.2.1) (hs : sl ≤ Γ.2.2.2.1) (hq : Γ.2.2.2.2 (.inl (some (.int v))) n h) : GL Γ X9 k sl pc ls [.int v] n h := by
  intro p e s m args below meth c H locs lsr C x9 S R L
  have hlocks := C.2.2.2.2.2.2.1
  have hn : narrow .boolean (.int v) = .int v := by rcases hn with rfl | rfl <;> rfl
  exact W.widen hc hs (vx_ret (W.zret C.1 C.2.1 (C.2.2.1.trans hr) hn (fun t ht hW => ⟨_, n, h, rfl, hq, by rw [ht]; exact R, S.f ht⟩) S.2.2 hd hlocks))
theorem ml_new {i ci N : Nat} {fs : List Value} (hd : decode (mcode Γ.2.1) pc = .ok (.new i, 3)) (hf : NF (my Γ.2.1).cls i ci N) (hfs : ∀ j, j < N → defaultValue (tyC ci j) = vp_V fs j) (hc9 : k + 1 ≤ Γ.2.2.1) (hs9 : sl + N ≤ Γ.2.2.2.1) (g : GL Γ X9 (k + 1) (sl + N) (pc + 3) ls (.ref n :: st) (n + 1) (mup h n (cO ci fs))) : GL Γ X9 k sl pc ls st n h := by
  intro p e s m args below meth c H locs lsr C x9 S R L
  obtain ⟨r, hc, hN, h1, h2, h3⟩ := hf
  subst hN
  have hts : ∀ w ∈ TG, w.before args s = true := C.2.2.2.2.2.1
  have hK : va_K (kD Γ.1) vwCl (ktys Γ.1) s := C.2.2.2.2.2.2.2.2.2.1
  have hKn := hK.1 ci _ hc
  refine W.newcK C.1 C.2.1 C.2.2.2.2.1 (hts _ h1) (hts _ h2) (hts _ h3) rfl hd hc9 hs9 hKn.2.1 R.1 fun H1 kC hkC e1 z1 o1 => ?_
  refine g p e s m args below meth c H1 _ lsr C x9 (S.grow (by rw [z1, R.1]; omega) (fun q hq => o1 q (by rw [← R.1]; exact hq))) (R.push z1 o1 ⟨_, hc, (u_born (tyC ci) hts (uwC hc) hKn hkC e1 (tyC_ok hc)).to hfs⟩) L
theorem ml_newaJ {x : Int32} {N : Nat} (hd : decode (mcode Γ.2.1) pc = .ok (.newarray .long, 2)) (hw : Cond.arrayClass .long ∈ TG) (hx : x.toInt = (N : Int)) (hN : N ≤ 60000) (hc9 : k + 1 ≤ Γ.2.2.1) (hs9 : sl + N ≤ Γ.2.2.2.1) (g : GL Γ X9 (k + 1) (sl + N) (pc + 2) ls (.ref n :: st) (n + 1) (mup h n (cJ N (fun _ => 0)))) : GL Γ X9 k sl pc ls (.int x :: st) n h := by
  intro p e s m args below meth c H locs lsr C x9 S R L
  have hts : ∀ w ∈ TG, w.before args s = true := C.2.2.2.2.2.1
  have hK : va_K (kD Γ.1) vwCl (ktys Γ.1) s := C.2.2.2.2.2.2.2.2.2.1
  have hx0 : ¬ x < 0 := fun q => by
    have := Int32.lt_iff_toInt_lt.mp q
    have e0 : (0 : Int32).toInt = 0 := rfl
    omega
  refine va_newaK C.1 C.2.1 (atype := .long) (hts _ hw) rfl hd rfl hx0 (ix_cl hx) (by show N * componentBytes .long ≤ _; simp only [componentBytes]; omega) hc9 hs9 R.1 fun H1 cA e1 z1 o1 hAr hNm => ?_
  have hcA : cA = kcy Γ.1 1 := Option.some.inj (hNm.symm.trans (hK.2 1 _ rfl).2)
  subst hcA
  exact g p e s m args below meth c H1 _ lsr C x9 (S.grow (by rw [z1, R.1]; omega) (fun q hq => o1 q (by rw [← R.1]; exact hq))) (R.push z1 o1 e1) L
theorem ml_cV1 {i : Nat} {M' : MI} {b ci : Nat} {fs rest : List Value} {mc' ms' n' : Nat} {P : MH → Prop} {v : Value} (As : List Value) (r : vw_C) (hd : decode (mcode Γ.2.1) pc = .ok (.invokevirtual i, 3)) (cw : CVw M' As.length) (hlk : LK (my Γ.2.1).cls i (my M')) (hb : h b = some (cO ci fs)) (hcl : vwCl[ci]? = some r) (hrc : r.1 = (my M').cls) (hnt : mhh M' = []) (hst : st = As.reverse ++ .ref b :: rest) (hcon : Con Γ.1 M' (.ref b :: As) mc' ms' n h (RetP (some v) n' P)) (sd : Sd Γ M' k sl mc' ms' rest) (g : ∀ h', P h' → GL Γ X9 (k + mc') (sl + ms') (pc + 3) ls (v :: rest) n' h') : GL Γ X9 k sl pc ls st n h := by
  refine ml_callV (As := As) (rest := rest) (r := r) hd cw hb hcl hrc hnt hlk hcon hst sd.1 sd.2.1 sd.2.2.1 sd.2.2.2.1 sd.2.2.2.2 (fun v9 n9 h9 q => ?_) (fun E n9 h9 q => ?_)
  · obtain ⟨e, rfl, q⟩ := q
    cases e
    exact g h9 q
  · exact absurd q.1 (fun e => by cases e)
theorem ml_cV0 {i : Nat} {M' : MI} {b ci : Nat} {fs rest : List Value} {mc' ms' n' : Nat} {P : MH → Prop} (As : List Value) (r : vw_C) (hd : decode (mcode Γ.2.1) pc = .ok (.invokevirtual i, 3)) (cw : CVw M' As.length) (hlk : LK (my Γ.2.1).cls i (my M')) (hb : h b = some (cO ci fs)) (hcl : vwCl[ci]? = some r) (hrc : r.1 = (my M').cls) (hnt : mhh M' = []) (hst : st = As.reverse ++ .ref b :: rest) (hcon : Con Γ.1 M' (.ref b :: As) mc' ms' n h (RetP none n' P)) (sd : Sd Γ M' k sl mc' ms' rest) (g : ∀ h', P h' → GL Γ X9 (k + mc') (sl + ms') (pc + 3) ls (rest) n' h') : GL Γ X9 k sl pc ls st n h := by
  refine ml_callV (As := As) (rest := rest) (r := r) hd cw hb hcl hrc hnt hlk hcon hst sd.1 sd.2.1 sd.2.2.1 sd.2.2.2.1 sd.2.2.2.2 (fun v9 n9 h9 q => ?_) (fun E n9 h9 q => ?_)
  · obtain ⟨e, rfl, q⟩ := q
    cases e
    exact g h9 q
  · exact absurd q.1 (fun e => by cases e)
theorem ml_cI0 {i : Nat} {M' : MI} {b : Nat} {rest : List Value} {mc' ms' n' : Nat} {P : MH → Prop} (As : List Value) (hd : decode (mcode Γ.2.1) pc = .ok (.invokespecial i, 3)) (cw : CIw M' As.length) (hlk : LK (my Γ.2.1).cls i (my M')) (hnt : mhh M' = []) (hst : st = As.reverse ++ .ref b :: rest) (hcon : Con Γ.1 M' (.ref b :: As) mc' ms' n h (RetP none n' P)) (sd : Sd Γ M' k sl mc' ms' rest) (g : ∀ h', P h' → GL Γ X9 (k + mc') (sl + ms') (pc + 3) ls (rest) n' h') : GL Γ X9 k sl pc ls st n h := by
  refine ml_callI (As := As) (rest := rest) hd cw hnt hlk hcon hst sd.1 sd.2.1 sd.2.2.1 sd.2.2.2.1 sd.2.2.2.2 (fun v9 n9 h9 q => ?_) (fun E n9 h9 q => ?_)
  · obtain ⟨e, rfl, q⟩ := q
    cases e
    exact g h9 q
  · exact absurd q.1 (fun e => by cases e)
/-- the script at b, of L ints -/
def XSc (K : KX) (b L : Nat) (xs : Nat → Int32) : State → Prop := fun s => va_X b L xs s s.heap ∧ b < s.heap.size ∧ ¬ kA K b
theorem ml_sld {b L j : Nat} {xs : Nat → Int32} {i : Int32} (hX : X9 = XSc Γ.1 b L xs) (hi : i.toInt = (j : Int)) (hj : j < L) (hd : decode (mcode Γ.2.1) pc = .ok (.iaload, 1)) (g : GL Γ X9 k sl (pc + 1) ls (.int (xs j) :: st) n h) : GL Γ X9 k sl pc ls (.int i :: .ref b :: st) n h := by
  intro p e s m args below meth c H locs lsr C x9 S R L9
  have y9 := x9
  rw [hX] at y9
  have e1 := ix_cl hi
  subst e1
  exact va_sld C.1 C.2.1 y9.1 y9.2.1 y9.2.2 S (ix_in hi hj) hd (g p e s m args below meth c H locs lsr C x9 S R L9)
theorem ml_slen {b L : Nat} {xs : Nat → Int32} (hX : X9 = XSc Γ.1 b L xs) (hd : decode (mcode Γ.2.1) pc = .ok (.arraylength, 1)) (g : GL Γ X9 k sl (pc + 1) ls (.int (nI L) :: st) n h) : GL Γ X9 k sl pc ls (.ref b :: st) n h := by
  intro p e s m args below meth c H locs lsr C x9 S R L9
  have y9 := x9
  rw [hX] at y9
  exact va_slen C.1 C.2.1 y9.1 y9.2.1 y9.2.2 S hd (g p e s m args below meth c H locs lsr C x9 S R L9)
/-- a wrapper's answer -/
theorem ml_cS {i : Nat} {M' : MI} {rest : List Value} {mc' ms' : Nat} {Q' : RQ} (As : List Value) (hd : decode (mcode Γ.2.1) pc = .ok (.invokestatic i, 3)) (cw : CSw M' As.length) (hlk : LK (my Γ.2.1).cls i (my M')) (hst : st = As.reverse ++ rest) (hcon : Con Γ.1 M' As mc' ms' n h Q') (sd : Sd Γ M' k sl mc' ms' rest) (g : ∀ v n' h', Q' (.inl v) n' h' → GL Γ X9 (k + mc') (sl + ms') (pc + 3) ls (v.toList ++ rest) n' h') (gx : ∀ E n' h', Q' (.inr E) n' h' → False) : GL Γ X9 k sl pc ls st n h :=
  ml_callS (As := As) (rest := rest) hd cw hlk hcon hst sd.1 sd.2.1 sd.2.2.1 sd.2.2.2.1 sd.2.2.2.2 g gx
end ML
