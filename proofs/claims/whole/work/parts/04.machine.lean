/-! THE ABSTRACT MACHINE: a heap of cells by address (no class ids in it), the frame at pc; every rule below is a row of the kit's in these words -/
abbrev MC : Type := (Nat × vp_A) ⊕ (Nat × List Value)
abbrev MH : Type := Nat → Option MC
abbrev cI (n : Nat) (f : Nat → Int32) : MC := .inl (0, n, .inl f)
abbrev cJ (n : Nat) (f : Nat → Int64) : MC := .inl (1, n, .inr (.inl f))
abbrev cZ (n : Nat) (f : Nat → Int32) : MC := .inl (2, n, .inl f)
abbrev cQ (k n : Nat) (f : Nat → Option Nat) : MC := .inl (k, n, .inr (.inr (.inr (.inr f))))
abbrev cO (ci : Nat) (fs : List Value) : MC := .inr (ci, fs)
def kTy : Nat → FieldType
  | 0 => .int
  | 1 => .long
  | 2 => .boolean
  | 3 => .object "Carpool$Board"
  | 4 => .object "Carpool$Driver"
  | 5 => .object "Carpool$Rider"
  | _ => .array .int
def mcE (cy : Nat → ClassId) : MC → va_E
  | .inl x => .inl (cy x.1, x.2)
  | .inr o => .inr o
def mup (h : MH) (a : Nat) (c : MC) : MH := fun q => if q = a then some c else h q
theorem mup_s (h : MH) (a : Nat) (c : MC) : mup h a c a = some c := if_pos rfl
theorem mup_n (h : MH) {a q : Nat} (c : MC) (e : q ≠ a) : mup h a c q = h q := if_neg e
/-- launch, class ids and slots, array classes, where our own cells begin, the static arrays, the word constants and their bytes -/
abbrev KX : Type := Launch × va_G × (Nat → ClassId) × Nat × (Nat → Nat) × (Nat → Nat) × (Nat → Nat)
abbrev kl (K : KX) : Launch := K.1
abbrev kD (K : KX) : va_G := K.2.1
abbrev kcy (K : KX) : Nat → ClassId := K.2.2.1
abbrev kb (K : KX) : Nat := K.2.2.2.1
abbrev kt (K : KX) : Nat → Nat := K.2.2.2.2.1
abbrev ks (K : KX) : Nat → Nat := K.2.2.2.2.2.1
abbrev kv (K : KX) : Nat → Nat := K.2.2.2.2.2.2
def kA (K : KX) : Nat → Prop := fun q => kb K ≤ q
def ktys (K : KX) : List (ClassId × FieldType) := [(kcy K 0, kTy 0), (kcy K 1, kTy 1), (kcy K 2, kTy 2), (kcy K 3, kTy 3), (kcy K 4, kTy 4), (kcy K 5, kTy 5), (kcy K 6, kTy 6)]
def RelH (K : KX) (n : Nat) (h : MH) (H : Heap) : Prop := H.size = n ∧ kb K ≤ n ∧ ∀ a c, h a = some c → kb K ≤ a ∧ va_at (kD K) vwCl (a, mcE (kcy K) c) H
theorem RelH.lt {K : KX} {n : Nat} {h : MH} {H : Heap} (R : RelH K n h H) {a : Nat} {c : MC} (e : h a = some c) : a < n := by
  have h1 := (R.2.2 a c e).2.lt
  rw [← R.1]
  exact h1
theorem RelH.at {K : KX} {n : Nat} {h : MH} {H : Heap} (R : RelH K n h H) {a : Nat} {c : MC} (e : h a = some c) : va_P (kD K) vwCl [(a, mcE (kcy K) c)] H := by
  intro k q hk
  have hz : k < 1 := (List.getElem?_eq_some_iff.mp hk).1
  rw [show k = 0 by omega] at hk
  cases hk
  exact (R.2.2 a c e).2
/-- one cell is written -/
theorem RelH.set {K : KX} {n : Nat} {h : MH} {H H1 : Heap} (R : RelH K n h H) {a : Nat} {c0 c : MC} (e : h a = some c0) (z : H1.size = H.size) (oq : ∀ q : Nat, q ≠ a → H1[q]? = H[q]?) (ha : va_at (kD K) vwCl (a, mcE (kcy K) c) H1) : RelH K n (mup h a c) H1 := by
  refine ⟨z.trans R.1, R.2.1, fun b c' hb => ?_⟩
  by_cases q : b = a
  · subst q
    rw [mup_s] at hb
    cases hb
    exact ⟨(R.2.2 b c0 e).1, ha⟩
  · rw [mup_n h c q] at hb
    obtain ⟨h1, h2⟩ := R.2.2 b c' hb
    exact ⟨h1, h2.kept (oq b q)⟩
/-- one cell is new, at the end -/
theorem RelH.push {K : KX} {n : Nat} {h : MH} {H H1 : Heap} (R : RelH K n h H) {c : MC} (z : H1.size = n + 1) (oq : ∀ q : Nat, q < n → H1[q]? = H[q]?) (ha : va_at (kD K) vwCl (n, mcE (kcy K) c) H1) : RelH K (n + 1) (mup h n c) H1 := by
  refine ⟨z, Nat.le_succ_of_le R.2.1, fun b c' hb => ?_⟩
  by_cases q : b = n
  · subst q
    rw [mup_s] at hb
    cases hb
    exact ⟨R.2.1, ha⟩
  · rw [mup_n h c q] at hb
    obtain ⟨h1, h2⟩ := R.2.2 b c' hb
    exact ⟨h1, h2.kept (oq b (R.lt hb))⟩
-- the words: those that may stand in a method's list, and those that ride beside it
def TG : List Cond := lw_tbl.filter goodWord
def isNest : Cond → Bool
  | .methodLinkNest _ _ _ _ => true
  | .fieldLinkNest _ _ _ _ _ _ => true
  | .castable _ _ => true
  | .declares _ => true
  | .arrayOver _ => true
  | _ => false
def TN : List Cond := lw_tbl.filter isNest
theorem tg_of {w : Cond} (i : Nat) (h : lw_tbl[i]? = some w) (g : goodWord w = true) : w ∈ TG := List.mem_filter.mpr ⟨List.mem_of_getElem? h, g⟩
theorem tn_of {w : Cond} (i : Nat) (h : lw_tbl[i]? = some w) (g : isNest w = true) : w ∈ TN := List.mem_filter.mpr ⟨List.mem_of_getElem? h, g⟩
/-- words by table and place -/
theorem tb1 {w : Cond} (i : Nat) (h : tables_1_1[i]? = some w) : w ∈ lw_tbl := List.mem_append_right _ (List.mem_append_left _ (List.mem_of_getElem? h))
theorem tb2 {w : Cond} (i : Nat) (h : tables_1_2[i]? = some w) : w ∈ lw_tbl := List.mem_append_right _ (List.mem_append_right _ (List.mem_append_left _ (List.mem_of_getElem? h)))
theorem tb3 {w : Cond} (i : Nat) (h : tables_1_3[i]? = some w) : w ∈ lw_tbl := List.mem_append_right _ (List.mem_append_right _ (List.mem_append_right _ (List.mem_append_left _ (List.mem_of_getElem? h))))
theorem tb4 {w : Cond} (i : Nat) (h : tables_1_4[i]? = some w) : w ∈ lw_tbl := List.mem_append_right _ (List.mem_append_right _ (List.mem_append_right _ (List.mem_append_right _ (List.mem_append_left _ (List.mem_of_getElem? h)))))
theorem tb5 {w : Cond} (i : Nat) (h : tables_1_5[i]? = some w) : w ∈ lw_tbl := List.mem_append_right _ (List.mem_append_right _ (List.mem_append_right _ (List.mem_append_right _ (List.mem_append_right _ (List.mem_append_left _ (List.mem_of_getElem? h))))))
theorem tb6 {w : Cond} (i : Nat) (h : tables_1_6[i]? = some w) : w ∈ lw_tbl := List.mem_append_right _ (List.mem_append_right _ (List.mem_append_right _ (List.mem_append_right _ (List.mem_append_right _ (List.mem_append_right _ (List.mem_append_left _ (List.mem_of_getElem? h)))))))
theorem tb7 {w : Cond} (i : Nat) (h : tables_1_7[i]? = some w) : w ∈ lw_tbl := List.mem_append_right _ (List.mem_append_right _ (List.mem_append_right _ (List.mem_append_right _ (List.mem_append_right _ (List.mem_append_right _ (List.mem_append_right _ (List.mem_append_left _ (List.mem_of_getElem? h))))))))
theorem tb8 {w : Cond} (i : Nat) (h : tables_1_8[i]? = some w) : w ∈ lw_tbl := List.mem_append_right _ (List.mem_append_right _ (List.mem_append_right _ (List.mem_append_right _ (List.mem_append_right _ (List.mem_append_right _ (List.mem_append_right _ (List.mem_append_right _ (List.mem_of_getElem? h))))))))
theorem tg_m {w : Cond} (h : w ∈ lw_tbl) (g : goodWord w = true) : w ∈ TG := List.mem_filter.mpr ⟨h, g⟩
theorem tn_m {w : Cond} (h : w ∈ lw_tbl) (g : isNest w = true) : w ∈ TN := List.mem_filter.mpr ⟨h, g⟩
theorem tn_warm {w : Cond} {s U : State} (hW : s.WarmedH U.vm) (hw : isNest w = true) (h : va_Nw w s) : va_Nw w U := by
  unfold isNest at hw
  split at hw
  · exact va_Nw.warmM hW h
  · exact va_Nw.warmF hW h
  · exact va_Nw.warmC hW h
  · exact va_Nw.warmD hW h
  · rename_i ty
    have h9 : (Cond.arrayOver ty).before #[] (s.setVm U.vm) = true := by rw [Cond.arrayOver_setVmC hW.alike]; exact h
    exact h9
  · cases hw
theorem tn_use {w : Cond} {s : State} {args : Array Value} (hw : isNest w = true) (h : va_Nw w s) : w.before args s = true := by
  unfold isNest at hw
  split at hw
  · exact va_Nw.use rfl h
  · exact va_Nw.use rfl h
  · exact va_Nw.use rfl h
  · exact va_Nw.use rfl h
  · exact h
  · cases hw
def strK : List (String × Nat × String) := [("Carpool$Board", 63, "there is no such rider"), ("Carpool$Board", 58, "there is no such driver"), ("Carpool", 71, "an argument is out of range"), ("Carpool", 82, "there are 8 drivers"), ("Carpool", 107, "a coordinate is out of range"), ("Carpool", 123, "the driver is done or has riders"), ("Carpool", 132, "there are 20 riders"), ("Carpool", 164, "the penalty is out of range"), ("Carpool", 319, "there is no such stop"), ("Carpool", 200, "the rider is not waiting"), ("Carpool", 202, "the driver is not open"), ("Carpool", 207, "there is no extra"), ("Carpool", 322, "the rider is not assigned"), ("Carpool", 248, "the rider is not absent"), ("Carpool", 270, "the driver is done already"), ("Carpool", 272, "the amount is out of range"), ("Carpool", 289, "the text would be too long"), ("Carpool", 295, "the length is out of range"), ("Carpool", 315, "there is no such slot"), ("Carpool", 313, "nothing is saved there")]
def strW : List (String × Nat × String × Nat) := [("Carpool$SetupReader", 41, "driver", 0), ("Carpool$SetupReader", 50, "rider", 1), ("Carpool$SetupReader", 55, "penalty", 2), ("CarpoolModel", 341, "driver", 0), ("CarpoolModel", 349, "rider", 1), ("CarpoolModel", 353, "penalty", 2)]
def ncK : List (String × String) := [("java/lang/IndexOutOfBoundsException", "java/lang/IllegalArgumentException"), ("java/lang/IndexOutOfBoundsException", "java/lang/IllegalStateException"), ("java/lang/IllegalArgumentException", "java/lang/IndexOutOfBoundsException"), ("java/lang/IllegalArgumentException", "java/lang/IllegalStateException"), ("java/lang/IllegalStateException", "java/lang/IndexOutOfBoundsException"), ("java/lang/IllegalStateException", "java/lang/IllegalArgumentException")]
def saN (i : Nat) : String := match i with | 0 => "DRIVER_LOW" | 1 => "DRIVER_HIGH" | 2 => "RIDER_LOW" | 3 => "RIDER_HIGH" | 4 => "PENALTY_LOW" | _ => "PENALTY_HIGH"
def saV (i : Nat) : List Int32 := match i with | 0 => [0, 0, 0, 0, 1, 0, 0, 1] | 1 => [99, 99, 99, 99, 4, 1439, 400, 99] | 2 => [0, 0, 0, 0, 0, 0] | 3 => [99, 99, 99, 99, 1439, 9999] | 4 => [0] | _ => [9999]
def swL : List Nat := [6, 5, 7]
def swB : List (List Int32) := [[100, 114, 105, 118, 101, 114], [114, 105, 100, 101, 114], [112, 101, 110, 97, 108, 116, 121]]
/-- what the launch gives and every call keeps -/
def Stat (K : KX) (U : State) (H : Heap) : Prop :=
  (kl K).stackTraces = false ∧ (∀ w ∈ TN, va_Nw w U) ∧ (∀ q ∈ strK, ∃ a, vk_R q.1 q.2.1 q.2.2 a U) ∧ (∀ q ∈ ncK, va_Nc q.1 q.2 U) ∧
  vx_Zq Bundle.tN "UNASSIGNED_STACK" Bundle.steD (kA K) U H ∧ vx_Zq Bundle.tN "SUPPRESSED_SENTINEL" Bundle.listD (kA K) U H ∧
  (∀ i, i < 6 → va_Z "Carpool$SetupReader" (saN i) "[I" (.ref (kt K i)) (kA K) U H ∧ va_T .int (kt K i) (saV i).length (fun j => .int ((saV i).getD j 0)) (kA K) U H) ∧
  vk_S 3 swL swB (ks K) (kv K) (kA K) U H ∧ (∀ q ∈ strW, vk_R q.1 q.2.1 q.2.2.1 (ks K q.2.2.2) U) ∧ va_Z "java/lang/String" "COMPACT_STRINGS" "Z" (.int 1) (kA K) U H ∧ va_Zq "jdk/internal/util/Preconditions" "SIOOBE_FORMATTER" "Ljava/util/function/BiFunction;" (kA K) U H
theorem Stat.go {K : KX} {s U : State} {H H1 : Heap} (hW : s.WarmedH U.vm) (hk : ∀ a : Nat, a < H.size → ¬ kA K a → H1[a]? = H[a]?) (h : Stat K s H) : Stat K U H1 := by
  obtain ⟨h0, h1, h2, h3, h4, h5, h6, h7, h8, h9, h10⟩ := h
  have hA := hW.alike
  refine ⟨h0, fun w hw => tn_warm hW (List.mem_filter.mp hw).2 (h1 w hw), fun q hq => ?_, fun q hq => va_Nc.moved hA (h3 q hq), (vx_Zq.moved hA h4).kept hk, (vx_Zq.moved hA h5).kept hk, fun i hi => ?_, (vk_S.moved hA h7).kept hk, fun q hq => vk_R.warm hW (h8 q hq), (va_Z.moved hA h9).kept hk, (va_Zq.moved hA h10).kept hk⟩
  · obtain ⟨a, ha⟩ := h2 q hq
    exact ⟨a, vk_R.warm hW ha⟩
  · exact ⟨(va_Z.moved hA (h6 i hi).1).kept hk, (va_T.moved hA (h6 i hi).2).kept hk⟩
/-- a method: its name, code, locals, what it returns, the frames and words of locals below it, its table -/
abbrev MI : Type := MethodName × ByteArray × Nat × Option FieldType × Nat × Nat × List (Nat × Nat × Nat × Nat)
abbrev my (M : MI) : MethodName := M.1
abbrev mcode (M : MI) : ByteArray := M.2.1
abbrev mmax (M : MI) : Nat := M.2.2.1
abbrev mret (M : MI) : Option FieldType := M.2.2.2.1
abbrev mfr (M : MI) : Nat := M.2.2.2.2.1
abbrev mlo (M : MI) : Nat := M.2.2.2.2.2.1
abbrev mhh (M : MI) : List (Nat × Nat × Nat × Nat) := M.2.2.2.2.2.2
def headW (M : MI) : Cond := match mhh M with
  | [] => .code (my M) (mcode M) (mmax M) (mret M)
  | x :: l => .codeWith (my M) (mcode M) (mmax M) (mret M) (x :: l)
def wsM (M : MI) : List Cond := headW M :: TG
abbrev RQ : Type := Option Value ⊕ String → Nat → MH → Prop
def QcM (K : KX) (Q : RQ) : Array Value → State → Outcome → State → Prop := fun _ st o t => ∃ (v : Option Value) (n' : Nat) (h' : MH), o = .returned v ∧ Q (.inl v) n' h' ∧ RelH K n' h' t.heap ∧ va_F (kA K) st t
def XcM (K : KX) (Q : RQ) : String → State → State → Prop := fun E st t => ∃ (n' : Nat) (h' : MH), Q (.inr E) n' h' ∧ RelH K n' h' t.heap ∧ va_F (kA K) st t
/-- THE CONTRACT: called with av over the heap (n, h), the method returns or throws as Q says; at most mc cells of ms slots come -/
def Con (K : KX) (M : MI) (av : List Value) (mc ms n : Nat) (h : MH) (Q : RQ) : Prop :=
  vx_Met (kl K) (my M) (wsM M) { frames := mfr M, cells := mc, slots := ms, locals := mlo M } (va_Pc av (fun U => RelH K n h U.heap ∧ va_K (kD K) vwCl (ktys K) U ∧ Stat K U U.heap)) (QcM K Q) (XcM K Q) mc ms (kA K)
/-- what stands in a method's frame -/
def Cx (K : KX) (M : MI) (p : Program) (s : State) (m : MethodId) (args : Array Value) (meth : Method) (c : Code) : Prop :=
  p.tables.exec = Jvm.exec ∧ c.code = mcode M ∧ meth.sig.returnType = mret M ∧ c.maxLocals = mmax M ∧ s.vm.findClass (my M).cls = some m.cls ∧ (∀ w ∈ TG, w.before args s = true) ∧ meth.locks = false ∧ meth.name = (my M).name ∧ c.exceptionTable.toList = tableOf (mhh M) ∧ va_K (kD K) vwCl (ktys K) s ∧ Stat K s s.heap
abbrev GX : Type := KX × MI × Nat × Nat × RQ
/-- THE JUDGEMENT: from the frame at pc, with locals ls, operands st and the heap (n, h), k cells of sl slots made so far, the method ends as it should -/
def GG (Γ : GX) (k sl pc : Nat) (ls : List (Nat × Value)) (st : List Value) (n : Nat) (h : MH) : Prop :=
  ∀ (p : Program) (e : Env) (s : State) (m : MethodId) (args : Array Value) (below : List Frame) (meth : Method) (c : Code) (H : Heap) (locs : List Loc) (lsr : Array Slot),
    Cx Γ.1 Γ.2.1 p s m args meth c → va_S (kA Γ.1) s.heap H locs → RelH Γ.1 n h H → lv_has lsr (mmax Γ.2.1) ls →
    W p (kl Γ.1) e { frames := mfr Γ.2.1, cells := Γ.2.2.1, slots := Γ.2.2.2.1, locals := mlo Γ.2.1 } s m args below meth c H locs k sl (vx_MQ below (QcM Γ.1 Γ.2.2.2.2) (XcM Γ.1 Γ.2.2.2.2) args s Γ.2.2.1 Γ.2.2.2.1 (kA Γ.1)) (F0 m pc lsr st)
theorem Con.of {K : KX} {M : MI} {av : List Value} {mc ms n : Nat} {h : MH} {Q : RQ} (hy : plainName (my M).cls = true) (hl : (lg_sl av).length ≤ mmax M) (g : GG (K, M, mc, ms, Q) 0 0 0 (lv_args 0 av) [] n h) : Con K M av mc ms n h Q := by
  have key : ∀ (p : Program) (e : Env) (s : State) (m : MethodId) (args : Array Value) (below : List Frame) (meth : Method) (c : Code) (s₁ : State), BodyLoose p (kl K) (my M) (headSpec (wsM M) { frames := mfr M, cells := mc, slots := ms, locals := mlo M }) (mcode M) (mmax M) (mret M) e s m args below meth c s₁ → c.maxLocals = mmax M → c.exceptionTable.toList = tableOf (mhh M) → va_Pc av (fun U => RelH K n h U.heap ∧ va_K (kD K) vwCl (ktys K) U ∧ Stat K U U.heap) args s →
      W p (kl K) e (headSpec (wsM M) { frames := mfr M, cells := mc, slots := ms, locals := mlo M }).room s m args below meth c s.heap [] 0 0 (vx_MQ below (QcM K Q) (XcM K Q) args s mc ms (kA K)) (entryFrame m args (mmax M)) := by
    intro p e s m args below meth c s₁ B hml ht hP
    obtain ⟨rfl, hR, hK, hSt⟩ := hP
    have hts := atoms_spec (ws := wsM M) B.pre
    have hlv := lv_entry av (n := mmax M) hl
    rw [lg_entry_eq]
    exact g p e s m _ below meth c s.heap [] _ ⟨B.exec, B.bytes, B.returns, hml, findClass_of_methodNamed B.named, fun w hw => hts w (List.mem_cons_of_mem _ hw), B.notSynchronized, (name_of_methodNamed B.named B.method).1, ht, hK, hSt⟩ va_S.rf hR hlv
  unfold Con
  cases hh : mhh M with
  | nil =>
    refine vx_ofW (cc := mcode M) (maxL := mmax M) (ret := mret M) (ws' := TG) hy (by unfold wsM headW; rw [hh]) ?_
    intro p e s m args below meth c s₁ B hml ht hP
    refine key p e s m args below meth c s₁ B hml ?_ hP
    rw [hh]
    cases hl9 : c.exceptionTable.toList with
    | nil => rfl
    | cons x l => exact (ht x (by rw [hl9]; exact List.mem_cons_self)).elim
  | cons x l =>
    refine vx_ofWH (cc := mcode M) (maxL := mmax M) (ret := mret M) (hh := x :: l) (ws' := TG) hy (by unfold wsM headW; rw [hh]) ?_
    intro p e s m args below meth c s₁ B hml hP
    refine key p e s m args below meth c s₁ B hml ?_ hP
    rw [hh]
    exact vx_table (x := my M) (y := my M) (bytes := mcode M) (maxL' := mmax M) (ret' := mret M) B (atoms_spec (ws := wsM M) B.pre _ (by unfold wsM headW; rw [hh]; exact List.mem_cons_self))
