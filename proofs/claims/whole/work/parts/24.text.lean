-- TEXT: object at x, bytes at x + 1
def Tx (h : MH) (x : Nat) (T : Nat → Int32) (n : Nat) : Prop := h x = some (cO 8 [.ref (x + 1), .int (nI n)]) ∧ h (x + 1) = some (cI 600 T) ∧ n ≤ 600
theorem Tx.at {h h' : MH} {x : Nat} {T : Nat → Int32} {n : Nat} (t : Tx h x T n) (e : ∀ q, x ≤ q → q < x + 2 → h' q = h q) : Tx h' x T n := ⟨(e _ (by omega) (by omega)).trans t.1, (e _ (by omega) (by omega)).trans t.2.1, t.2.2⟩
theorem Tx.off {h h' : MH} {x c d : Nat} {T : Nat → Int32} {n : Nat} (t : Tx h x T n) (o : Off c d h h') (e : x + 2 ≤ c ∨ d ≤ x) : Tx h' x T n := t.at fun q h1 h2 => o q (by omega)
def k_at (T : Nat → Int32) (n j : Nat) : Int32 := if j < n then T j else -1
def k_blank (c : Int32) : Bool := decide (c = 32) || decide (c = 10)
def k_let (c : Int32) : Bool := decide (97 ≤ c) && decide (c ≤ 122)
def k_dig (c : Int32) : Bool := decide (48 ≤ c) && decide (c ≤ 57)
/-- on while the bytes are such -/
def k_run (P : Int32 → Bool) (T : Nat → Int32) (n : Nat) : Nat → Nat → Nat
  | 0, p => p
  | f + 1, p => if P (T p) then k_run P T n f (p + 1) else p
def i_min (x y : Int32) : Int32 := if y < x then y else x
def k_num (T : Nat → Int32) (n : Nat) : Nat → Nat → Int32 → Nat × Int32
  | 0, p, v => (p, v)
  | f + 1, p, v => if k_dig (T p) then k_num T n f (p + 1) (i_min (v * 10 + T p - 48) 10000) else (p, v)
theorem k_run_le (P : Int32 → Bool) (T : Nat → Int32) (n : Nat) : ∀ f p, p ≤ k_run P T n f p ∧ k_run P T n f p ≤ p + f
  | 0, p => ⟨Nat.le_refl _, Nat.le_refl _⟩
  | f + 1, p => by
    have := k_run_le P T n f (p + 1)
    unfold k_run
    split <;> omega
theorem k_num_le (T : Nat → Int32) (n : Nat) : ∀ f p v, p ≤ (k_num T n f p v).1 ∧ (k_num T n f p v).1 ≤ p + f
  | 0, p, v => ⟨Nat.le_refl _, Nat.le_refl _⟩
  | f + 1, p, v => by
    have := k_num_le T n f (p + 1) (i_min (v * 10 + T p - 48) 10000)
    unfold k_num
    split
    · omega
    · dsimp only; omega
set_option maxRecDepth 100000 in
set_option maxHeartbeats 4000000 in
theorem cn_X8_byteAt {K : KX} {n : Nat} {h : MH} {x : Nat} {T : Nat → Int32} {m : Nat} (t : Tx h x T m) {j : Nat} (hj : j < 2147483648) : Con K mX8_byteAt [.ref x, .int (nI j)] 0 0 n h (Ret (some (.int (k_at T m j))) n h) := by
  have t9 := t
  obtain ⟨t0, t1, t2⟩ := t
  refine Con.of (by decide +kernel) (Nat.le_of_ble_eq_true rfl) ?_
  refine mj_iconst (v := 0) dX8_byteAt_0 rfl ?_
  refine mj_iload_n 1 dX8_byteAt_1 rfl ?_
  refine mj_icmp_gt 29 dX8_byteAt_2 (by decide) (fun c_2 => ?_) (fun c_2 => ?_)
  · exact absurd (Int32.lt_iff_toInt_lt.mp c_2) (by rw [ixn (by omega)]; show ¬ _ < (0 : Int32).toInt; have : (0 : Int32).toInt = 0 := rfl; omega)
  · refine mj_iload_n 1 dX8_byteAt_5 rfl ?_
    refine mj_aload_n 0 dX8_byteAt_6 rfl ?_
    refine mj_getf dX8_byteAt_7 fgX8_15 (by repeat (first | assumption | exact mup_s _ _ _ | rw [mup_n _ _ (by omega)])) rfl ?_
    refine mj_icmp_ge 29 dX8_byteAt_10 (by decide) (fun c_10 => ?_) (fun c_10 => ?_)
    · have z : ¬ j < m := fun z => nI_ge z (by omega) c_10
      refine mj_iconst (v := (-1)) dX8_byteAt_29 rfl ?_
      exact mj_iret dX8_byteAt_30 rfl (Nat.le_of_ble_eq_true rfl) (Nat.le_of_ble_eq_true rfl) ⟨(by unfold k_at; first | rw [if_pos z] | rw [if_neg z]), rfl, rfl⟩
    · have z : j < m := Nat.lt_of_not_le fun z => c_10 (nI_le z (by omega))
      refine mj_iload_n 1 dX8_byteAt_13 rfl ?_
      refine mj_sipush (v := (600)) dX8_byteAt_14 rfl ?_
      refine mj_icmp_ge 29 dX8_byteAt_17 (by decide) (fun c_17 => ?_) (fun c_17 => ?_)
      · exact absurd c_17 (nI_ge (show j < 600 by omega) (by decide))
      · refine mj_aload_n 0 dX8_byteAt_20 rfl ?_
        refine mj_getf dX8_byteAt_21 fgX8_9 (by repeat (first | assumption | exact mup_s _ _ _ | rw [mup_n _ _ (by omega)])) rfl ?_
        refine mj_iload_n 1 dX8_byteAt_24 rfl ?_
        refine mj_iald (by repeat (first | assumption | exact mup_s _ _ _ | rw [mup_n _ _ (by omega)])) (by first | assumption | rfl | exact ixn (by omega)) (by first | assumption | decide | omega) dX8_byteAt_25 ?_
        refine mj_goto 30 dX8_byteAt_26 (by decide) ?_
        exact mj_iret dX8_byteAt_30 rfl (Nat.le_of_ble_eq_true rfl) (Nat.le_of_ble_eq_true rfl) ⟨(by unfold k_at; first | rw [if_pos z] | rw [if_neg z]), rfl, rfl⟩
set_option maxRecDepth 100000 in
set_option maxHeartbeats 4000000 in
theorem cn_X8_add {K : KX} {n : Nat} {h : MH} {x : Nat} {T : Nat → Int32} {m : Nat} (t : Tx h x T m) (hm : m < 600) {v : Int32} : Con K mX8_add [.ref x, .int v] 0 0 n h (RetP none n (fun h' => Tx h' x (upd T m v) (m + 1) ∧ Off x (x + 2) h h')) := by
  have t9 := t
  obtain ⟨t0, t1, t2⟩ := t
  refine Con.of (by decide +kernel) (Nat.le_of_ble_eq_true rfl) ?_
  refine mj_aload_n 0 dX8_add_0 rfl ?_
  refine mj_getf dX8_add_1 fgX8_15 (by repeat (first | assumption | exact mup_s _ _ _ | rw [mup_n _ _ (by omega)])) rfl ?_
  refine mj_sipush (v := (600)) dX8_add_4 rfl ?_
  refine mj_icmp_ge 30 dX8_add_7 (by decide) (fun c_7 => ?_) (fun c_7 => ?_)
  · exact absurd c_7 (nI_ge (show m < 600 by omega) (by decide))
  · refine mj_aload_n 0 dX8_add_10 rfl ?_
    refine mj_getf dX8_add_11 fgX8_9 (by repeat (first | assumption | exact mup_s _ _ _ | rw [mup_n _ _ (by omega)])) rfl ?_
    refine mj_aload_n 0 dX8_add_14 rfl ?_
    refine mj_getf dX8_add_15 fgX8_15 (by repeat (first | assumption | exact mup_s _ _ _ | rw [mup_n _ _ (by omega)])) rfl ?_
    refine mj_iload_n 1 dX8_add_18 rfl ?_
    refine mj_iast (by repeat (first | assumption | exact mup_s _ _ _ | rw [mup_n _ _ (by omega)])) (by first | assumption | rfl | exact ixn (by omega)) (by first | assumption | decide | omega) dX8_add_19 ?_
    refine mj_aload_n 0 dX8_add_20 rfl ?_
    refine mj_dup dX8_add_21 rfl ?_
    refine mj_getf dX8_add_22 fgX8_15 (by repeat (first | assumption | exact mup_s _ _ _ | rw [mup_n _ _ (by omega)])) rfl ?_
    refine mj_iconst (v := 1) dX8_add_25 rfl ?_
    refine mj_iadd dX8_add_26 ?_
    refine mj_eq (nI_1 _) ?_
    refine mj_putf dX8_add_27 fgX8_15 (by repeat (first | assumption | exact mup_s _ _ _ | rw [mup_n _ _ (by omega)])) rfl rfl rfl (Nat.le_of_ble_eq_true rfl) rfl ?_
    exact mj_vret dX8_add_30 rfl (Nat.le_of_ble_eq_true rfl) (Nat.le_of_ble_eq_true rfl) ⟨rfl, rfl, ⟨⟨(by repeat (first | assumption | exact mup_s _ _ _ | rw [mup_n _ _ (by omega)])), (by repeat (first | assumption | exact mup_s _ _ _ | rw [mup_n _ _ (by omega)])), by omega⟩, (by repeat (first | exact Off.rf | assumption | refine Off.m ?_ _ (by omega) (by omega)))⟩⟩
set_option maxRecDepth 100000 in
set_option maxHeartbeats 4000000 in
theorem cn_X8_init {K : KX} {n : Nat} {h : MH} {x : Nat} (hn : n = x + 1) (t : h x = some (cO 8 [.null, .int 0])) : Con K mX8_init [.ref x] 1 600 n h (RetP none (n + 1) (fun h' => Tx h' x (fun _ => 0) 0 ∧ Off x (x + 2) h h')) := by
  refine Con.of (by decide +kernel) (Nat.le_of_ble_eq_true rfl) ?_
  subst hn
  refine mj_aload_n 0 dX8_init_0 rfl ?_
  refine mj_objInit dX8_init_1 mlX8_3 im_obj cd_obj (Nat.le_of_ble_eq_true rfl) (Nat.le_of_ble_eq_true rfl) ?_
  refine mj_aload_n 0 dX8_init_4 rfl ?_
  refine mj_sipush (v := (600)) dX8_init_5 rfl ?_
  refine mj_newaI dX8_init_8 ac_int (show (600 : Int32).toInt = ((600 : Nat) : Int) from rfl) (by omega) (Nat.le_of_ble_eq_true rfl) (Nat.le_of_ble_eq_true rfl) ?_
  refine mj_putG dX8_init_10 ffX8_9 (by repeat (first | assumption | exact mup_s _ _ _ | rw [mup_n _ _ (by omega)])) rfl rfl (by intro r h9; cases h9; rfl) rfl rfl (Nat.le_of_ble_eq_true rfl) rfl ?_
  exact mj_vret dX8_init_13 rfl (Nat.le_of_ble_eq_true rfl) (Nat.le_of_ble_eq_true rfl) ⟨rfl, rfl, ⟨⟨(by repeat (first | assumption | exact mup_s _ _ _ | rw [mup_n _ _ (by omega)])), (by repeat (first | assumption | exact mup_s _ _ _ | rw [mup_n _ _ (by omega)])), by omega⟩, (by repeat (first | exact Off.rf | assumption | refine Off.m ?_ _ (by omega) (by omega)))⟩⟩
set_option maxRecDepth 100000 in
set_option maxHeartbeats 4000000 in
theorem cn_X7_isBlank {K : KX} {n : Nat} {h : MH} {c : Int32} : Con K mX7_isBlank [.int c] 0 0 n h (Ret (some (.int (bI (k_blank c)))) n h) := by
  refine Con.of (by decide +kernel) (Nat.le_of_ble_eq_true rfl) ?_
  refine mj_iload_n 0 dX7_isBlank_0 rfl ?_
  refine mj_bipush (v := (32)) dX7_isBlank_1 rfl ?_
  refine mj_icmp_eq 12 dX7_isBlank_3 (by decide) (fun c_3 => ?_) (fun c_3 => ?_)
  · refine mj_iconst (v := 1) dX7_isBlank_12 rfl ?_
    refine mj_goto 17 dX7_isBlank_13 (by decide) ?_
    exact mj_zret dX7_isBlank_17 rfl (by first | exact Or.inl rfl | exact Or.inr rfl) (Nat.le_of_ble_eq_true rfl) (Nat.le_of_ble_eq_true rfl) ⟨(by unfold k_blank; first | (simp [bI, *]; done) | (simp [bI, Int32.not_le, Int32.not_lt] at *; simp [*]; done) | (simp_all [bI, Int32.not_le, Int32.not_lt, Int32.lt_iff_toInt_lt, Int32.le_iff_toInt_le]; omega)), rfl, rfl⟩
  · refine mj_iload_n 0 dX7_isBlank_6 rfl ?_
    refine mj_bipush (v := (10)) dX7_isBlank_7 rfl ?_
    refine mj_icmp_ne 16 dX7_isBlank_9 (by decide) (fun c_9 => ?_) (fun c_9 => ?_)
    · refine mj_iconst (v := 0) dX7_isBlank_16 rfl ?_
      exact mj_zret dX7_isBlank_17 rfl (by first | exact Or.inl rfl | exact Or.inr rfl) (Nat.le_of_ble_eq_true rfl) (Nat.le_of_ble_eq_true rfl) ⟨(by unfold k_blank; first | (simp [bI, *]; done) | (simp [bI, Int32.not_le, Int32.not_lt] at *; simp [*]; done) | (simp_all [bI, Int32.not_le, Int32.not_lt, Int32.lt_iff_toInt_lt, Int32.le_iff_toInt_le]; omega)), rfl, rfl⟩
    · refine mj_iconst (v := 1) dX7_isBlank_12 rfl ?_
      refine mj_goto 17 dX7_isBlank_13 (by decide) ?_
      exact mj_zret dX7_isBlank_17 rfl (by first | exact Or.inl rfl | exact Or.inr rfl) (Nat.le_of_ble_eq_true rfl) (Nat.le_of_ble_eq_true rfl) ⟨(by unfold k_blank; first | (simp [bI, *]; done) | (simp [bI, Int32.not_le, Int32.not_lt] at *; simp [*]; done) | (simp_all [bI, Int32.not_le, Int32.not_lt, Int32.lt_iff_toInt_lt, Int32.le_iff_toInt_le]; omega)), rfl, rfl⟩
set_option maxRecDepth 100000 in
set_option maxHeartbeats 4000000 in
theorem cn_X7_isLetter {K : KX} {n : Nat} {h : MH} {c : Int32} : Con K mX7_isLetter [.int c] 0 0 n h (Ret (some (.int (bI (k_let c)))) n h) := by
  refine Con.of (by decide +kernel) (Nat.le_of_ble_eq_true rfl) ?_
  refine mj_bipush (v := (97)) dX7_isLetter_0 rfl ?_
  refine mj_iload_n 0 dX7_isLetter_2 rfl ?_
  refine mj_icmp_gt 16 dX7_isLetter_3 (by decide) (fun c_3 => ?_) (fun c_3 => ?_)
  · refine mj_iconst (v := 0) dX7_isLetter_16 rfl ?_
    exact mj_zret dX7_isLetter_17 rfl (by first | exact Or.inl rfl | exact Or.inr rfl) (Nat.le_of_ble_eq_true rfl) (Nat.le_of_ble_eq_true rfl) ⟨(by unfold k_let; first | (simp [bI, *]; done) | (simp [bI, Int32.not_le, Int32.not_lt] at *; simp [*]; done) | (simp_all [bI, Int32.not_le, Int32.not_lt, Int32.lt_iff_toInt_lt, Int32.le_iff_toInt_le]; omega)), rfl, rfl⟩
  · refine mj_iload_n 0 dX7_isLetter_6 rfl ?_
    refine mj_bipush (v := (122)) dX7_isLetter_7 rfl ?_
    refine mj_icmp_gt 16 dX7_isLetter_9 (by decide) (fun c_9 => ?_) (fun c_9 => ?_)
    · refine mj_iconst (v := 0) dX7_isLetter_16 rfl ?_
      exact mj_zret dX7_isLetter_17 rfl (by first | exact Or.inl rfl | exact Or.inr rfl) (Nat.le_of_ble_eq_true rfl) (Nat.le_of_ble_eq_true rfl) ⟨(by unfold k_let; first | (simp [bI, *]; done) | (simp [bI, Int32.not_le, Int32.not_lt] at *; simp [*]; done) | (simp_all [bI, Int32.not_le, Int32.not_lt, Int32.lt_iff_toInt_lt, Int32.le_iff_toInt_le]; omega)), rfl, rfl⟩
    · refine mj_iconst (v := 1) dX7_isLetter_12 rfl ?_
      refine mj_goto 17 dX7_isLetter_13 (by decide) ?_
      exact mj_zret dX7_isLetter_17 rfl (by first | exact Or.inl rfl | exact Or.inr rfl) (Nat.le_of_ble_eq_true rfl) (Nat.le_of_ble_eq_true rfl) ⟨(by unfold k_let; first | (simp [bI, *]; done) | (simp [bI, Int32.not_le, Int32.not_lt] at *; simp [*]; done) | (simp_all [bI, Int32.not_le, Int32.not_lt, Int32.lt_iff_toInt_lt, Int32.le_iff_toInt_le]; omega)), rfl, rfl⟩
set_option maxRecDepth 100000 in
set_option maxHeartbeats 4000000 in
theorem cn_X7_isDigit {K : KX} {n : Nat} {h : MH} {c : Int32} : Con K mX7_isDigit [.int c] 0 0 n h (Ret (some (.int (bI (k_dig c)))) n h) := by
  refine Con.of (by decide +kernel) (Nat.le_of_ble_eq_true rfl) ?_
  refine mj_bipush (v := (48)) dX7_isDigit_0 rfl ?_
  refine mj_iload_n 0 dX7_isDigit_2 rfl ?_
  refine mj_icmp_gt 16 dX7_isDigit_3 (by decide) (fun c_3 => ?_) (fun c_3 => ?_)
  · refine mj_iconst (v := 0) dX7_isDigit_16 rfl ?_
    exact mj_zret dX7_isDigit_17 rfl (by first | exact Or.inl rfl | exact Or.inr rfl) (Nat.le_of_ble_eq_true rfl) (Nat.le_of_ble_eq_true rfl) ⟨(by unfold k_dig; first | (simp [bI, *]; done) | (simp [bI, Int32.not_le, Int32.not_lt] at *; simp [*]; done) | (simp_all [bI, Int32.not_le, Int32.not_lt, Int32.lt_iff_toInt_lt, Int32.le_iff_toInt_le]; omega)), rfl, rfl⟩
  · refine mj_iload_n 0 dX7_isDigit_6 rfl ?_
    refine mj_bipush (v := (57)) dX7_isDigit_7 rfl ?_
    refine mj_icmp_gt 16 dX7_isDigit_9 (by decide) (fun c_9 => ?_) (fun c_9 => ?_)
    · refine mj_iconst (v := 0) dX7_isDigit_16 rfl ?_
      exact mj_zret dX7_isDigit_17 rfl (by first | exact Or.inl rfl | exact Or.inr rfl) (Nat.le_of_ble_eq_true rfl) (Nat.le_of_ble_eq_true rfl) ⟨(by unfold k_dig; first | (simp [bI, *]; done) | (simp [bI, Int32.not_le, Int32.not_lt] at *; simp [*]; done) | (simp_all [bI, Int32.not_le, Int32.not_lt, Int32.lt_iff_toInt_lt, Int32.le_iff_toInt_le]; omega)), rfl, rfl⟩
    · refine mj_iconst (v := 1) dX7_isDigit_12 rfl ?_
      refine mj_goto 17 dX7_isDigit_13 (by decide) ?_
      exact mj_zret dX7_isDigit_17 rfl (by first | exact Or.inl rfl | exact Or.inr rfl) (Nat.le_of_ble_eq_true rfl) (Nat.le_of_ble_eq_true rfl) ⟨(by unfold k_dig; first | (simp [bI, *]; done) | (simp [bI, Int32.not_le, Int32.not_lt] at *; simp [*]; done) | (simp_all [bI, Int32.not_le, Int32.not_lt, Int32.lt_iff_toInt_lt, Int32.le_iff_toInt_le]; omega)), rfl, rfl⟩
-- READER: object at z, values at z + 1
abbrev KS : Type := (Nat → Int32) × Int32 × Int32 × Int32 × Nat × Nat × Int32
abbrev kV (S : KS) : Nat → Int32 := S.1
abbrev kfc (S : KS) : Int32 := S.2.1
abbrev kfp (S : KS) : Int32 := S.2.2.1
abbrev kkd (S : KS) : Int32 := S.2.2.2.1
abbrev kst (S : KS) : Nat := S.2.2.2.2.1
abbrev ken (S : KS) : Nat := S.2.2.2.2.2.1
abbrev kva (S : KS) : Int32 := S.2.2.2.2.2.2
def rdO (z : Nat) (S : KS) : MC := cO 7 [.ref (z + 1), .int (kfc S), .int (kfp S), .int (kkd S), .int (nI (kst S)), .int (nI (ken S)), .int (kva S)]
def Rd (h : MH) (z : Nat) (S : KS) : Prop := h z = some (rdO z S) ∧ h (z + 1) = some (cI 8 (kV S))
theorem Rd.at {h h' : MH} {z : Nat} {S : KS} (r : Rd h z S) (e : ∀ q, z ≤ q → q < z + 2 → h' q = h q) : Rd h' z S := ⟨(e _ (by omega) (by omega)).trans r.1, (e _ (by omega) (by omega)).trans r.2⟩
theorem Rd.off {h h' : MH} {z c d : Nat} {S : KS} (r : Rd h z S) (o : Off c d h h') (e : z + 2 ≤ c ∨ d ≤ z) : Rd h' z S := r.at fun q h1 h2 => o q (by omega)
theorem Rd.s {h : MH} {z : Nat} {S S' : KS} (r : Rd h z S) (e : kV S' = kV S) : Rd (mup h z (rdO z S')) z S' := ⟨mup_s _ _ _, by rw [mup_n _ _ (by omega), e]; exact r.2⟩
/-- the places stand within the text -/
def KOk (S : KS) (m : Nat) : Prop := kst S ≤ ken S ∧ ken S ≤ m
def k_word (T : Nat → Int32) (m : Nat) (S : KS) : KS := (kV S, kfc S, kfp S, 1, kst S, k_run k_let T m (m - ken S) (ken S), kva S)
def k_numb (T : Nat → Int32) (m : Nat) (S : KS) : KS := (kV S, kfc S, kfp S, 2, kst S, (k_num T m (m - ken S) (ken S) 0).1, (k_num T m (m - ken S) (ken S) 0).2)
def k_tok (T : Nat → Int32) (m : Nat) (S : KS) (p : Nat) : KS :=
  if k_at T m p = -1 then (kV S, kfc S, kfp S, 0, p, p, kva S)
  else if k_let (k_at T m p) then k_word T m (kV S, kfc S, kfp S, kkd S, p, p, kva S)
  else if k_dig (k_at T m p) then k_numb T m (kV S, kfc S, kfp S, kkd S, p, p, kva S)
  else (kV S, kfc S, kfp S, if k_at T m p = 59 then 3 else 4, p, p + 1, kva S)
def k_next (T : Nat → Int32) (m : Nat) (S : KS) : KS := k_tok T m S (k_run k_blank T m (m - ken S) (ken S))
def k_fail (S : KS) (c : Int32) : KS := (kV S, c, nI (kst S), kkd S, kst S, ken S, kva S)
theorem k_next_ok2 {T : Nat → Int32} {m : Nat} {S : KS} (h2 : ken S ≤ m) : KOk (k_next T m S) m := by
  have a := k_run_le k_blank T m (m - ken S) (ken S)
  unfold k_next
  generalize k_run k_blank T m (m - ken S) (ken S) = p at a
  unfold k_tok
  have b := k_run_le k_let T m (m - p) p
  have c := k_num_le T m (m - p) p 0
  split
  · exact ⟨Nat.le_refl _, by show p ≤ m; omega⟩
  · rename_i hne
    have hp : p < m := by
      apply Nat.lt_of_not_le
      intro z
      apply hne
      unfold k_at
      rw [if_neg (by omega)]
    split
    · exact ⟨by show p ≤ k_run k_let T m (m - p) p; omega, by show k_run k_let T m (m - p) p ≤ m; omega⟩
    · split
      · exact ⟨by show p ≤ (k_num T m (m - p) p 0).1; omega, by show (k_num T m (m - p) p 0).1 ≤ m; omega⟩
      · exact ⟨by show p ≤ p + 1; omega, by show p + 1 ≤ m; omega⟩
theorem k_next_ok {T : Nat → Int32} {m : Nat} {S : KS} (h : KOk S m) : KOk (k_next T m S) m := k_next_ok2 h.2
set_option maxRecDepth 100000 in
set_option maxHeartbeats 4000000 in
theorem cn_X7_readWord {K : KX} {n : Nat} {h : MH} {x z : Nat} {T : Nat → Int32} {m : Nat} {S : KS} (t : Tx h x T m) (r : Rd h z S) (ok : ken S ≤ m) (hx : x + 2 ≤ z ∨ z + 2 ≤ x) : Con K mX7_readWord [.ref z, .ref x] 0 0 n h (RetP none n (fun h' => Rd h' z (k_word T m S) ∧ Off z (z + 2) h h')) := by
  refine Con.of (by decide +kernel) (Nat.le_of_ble_eq_true rfl) ?_
  have loop : ∀ (f : Nat) (p : Nat) (h1 : MH), p + f = m → k_run k_let T m (m - ken S) (ken S) = k_run k_let T m f p → Rd h1 z (kV S, kfc S, kfp S, 1, kst S, p, kva S) → Off z (z + 2) h h1 → GG (K, mX7_readWord, 0, 0, RetP none n (fun h' => Rd h' z (k_word T m S) ∧ Off z (z + 2) h h')) 0 0 5 [(0, .ref z), (1, .ref x)] [] n h1 := by
    intro f
    induction f with
    | zero =>
      intro p h1 hp hr r9 o
      have t9 := t.off o (by omega)
      obtain ⟨t0, t1, t2⟩ := id t9
      obtain ⟨r0, r1⟩ := id r9
      refine mj_aload_n 0 dX7_readWord_5 rfl ?_
      refine mj_getf dX7_readWord_6 fgX7_27 (by repeat (first | assumption | exact mup_s _ _ _ | rw [mup_n _ _ (by omega)])) rfl ?_
      refine mj_aload_n 1 dX7_readWord_9 rfl ?_
      refine mj_getf dX7_readWord_10 fgX7_150 (by repeat (first | assumption | exact mup_s _ _ _ | rw [mup_n _ _ (by omega)])) rfl ?_
      refine mj_icmp_ge 43 dX7_readWord_13 (by decide) (fun c_13 => ?_) (fun c_13 => ?_)
      · exact mj_vret dX7_readWord_43 rfl (Nat.le_of_ble_eq_true rfl) (Nat.le_of_ble_eq_true rfl) ⟨rfl, rfl, ⟨by unfold k_word; rw [hr]; exact r9, o⟩⟩
      · exact absurd (nI_le (show m ≤ p by omega) (by omega)) c_13
    | succ f ih =>
      intro p h1 hp hr r9 o
      have t9 := t.off o (by omega)
      obtain ⟨t0, t1, t2⟩ := id t9
      obtain ⟨r0, r1⟩ := id r9
      have ka : k_at T m p = T p := if_pos (by omega)
      refine mj_aload_n 0 dX7_readWord_5 rfl ?_
      refine mj_getf dX7_readWord_6 fgX7_27 (by repeat (first | assumption | exact mup_s _ _ _ | rw [mup_n _ _ (by omega)])) rfl ?_
      refine mj_aload_n 1 dX7_readWord_9 rfl ?_
      refine mj_getf dX7_readWord_10 fgX7_150 (by repeat (first | assumption | exact mup_s _ _ _ | rw [mup_n _ _ (by omega)])) rfl ?_
      refine mj_icmp_ge 43 dX7_readWord_13 (by decide) (fun c_13 => ?_) (fun c_13 => ?_)
      · exact absurd c_13 (nI_ge (show p < m by omega) (by omega))
      · refine mj_aload_n 1 dX7_readWord_16 rfl ?_
        refine mj_aload_n 0 dX7_readWord_17 rfl ?_
        refine mj_getf dX7_readWord_18 fgX7_27 (by repeat (first | assumption | exact mup_s _ _ _ | rw [mup_n _ _ (by omega)])) rfl ?_
        refine mj_cV1 [_] (RX8, TX8, 2) dX7_readWord_21 cwX8_byteAt lkX7_140 (t9.1) rfl rfl rfl rfl (cn_X8_byteAt t9 (j := p) (by omega)) ⟨Nat.le_of_ble_eq_true rfl, Nat.le_of_ble_eq_true rfl, Nat.le_of_ble_eq_true rfl, Nat.le_of_ble_eq_true rfl, Nat.le_of_ble_eq_true rfl⟩ (fun h' e' => ?_)
        subst e'
        refine mj_cS1 [_] dX7_readWord_24 cwX7_isLetter lkX7_155 rfl (cn_X7_isLetter) ⟨Nat.le_of_ble_eq_true rfl, Nat.le_of_ble_eq_true rfl, Nat.le_of_ble_eq_true rfl, Nat.le_of_ble_eq_true rfl, Nat.le_of_ble_eq_true rfl⟩ (fun h' e' => ?_)
        subst e'
        refine mj_if_eq 43 dX7_readWord_27 (by decide) (fun c_27 => ?_) (fun c_27 => ?_)
        · have z1 := bI_0.mp c_27
          rw [ka] at z1
          exact mj_vret dX7_readWord_43 rfl (Nat.le_of_ble_eq_true rfl) (Nat.le_of_ble_eq_true rfl) ⟨rfl, rfl, ⟨by unfold k_word; rw [hr]; simp only [k_run, z1]; exact r9, o⟩⟩
        · have z1 := bI_n0.mp c_27
          rw [ka] at z1
          refine mj_aload_n 0 dX7_readWord_30 rfl ?_
          refine mj_dup dX7_readWord_31 rfl ?_
          refine mj_getf dX7_readWord_32 fgX7_27 (by repeat (first | assumption | exact mup_s _ _ _ | rw [mup_n _ _ (by omega)])) rfl ?_
          refine mj_iconst (v := 1) dX7_readWord_35 rfl ?_
          refine mj_iadd dX7_readWord_36 ?_
          refine mj_eq (nI_1 _) ?_
          refine mj_putf dX7_readWord_37 fgX7_27 (by repeat (first | assumption | exact mup_s _ _ _ | rw [mup_n _ _ (by omega)])) rfl rfl rfl (Nat.le_of_ble_eq_true rfl) rfl ?_
          refine mj_goto 5 dX7_readWord_40 (by decide) ?_
          exact ih (p + 1) _ (by omega) (by rw [hr]; simp [k_run, z1]) (r9.s (S' := (kV S, kfc S, kfp S, 1, kst S, p + 1, kva S)) rfl) (o.m _ (by omega) (by omega))
  have t9 := t
  have r9 := r
  obtain ⟨t0, t1, t2⟩ := t
  obtain ⟨r0, r1⟩ := r
  refine mj_aload_n 0 dX7_readWord_0 rfl ?_
  refine mj_iconst (v := 1) dX7_readWord_1 rfl ?_
  refine mj_putf dX7_readWord_2 fgX7_34 (by repeat (first | assumption | exact mup_s _ _ _ | rw [mup_n _ _ (by omega)])) rfl rfl rfl (Nat.le_of_ble_eq_true rfl) rfl ?_
  exact mj_ls [0, 1] rfl (loop (m - ken S) (ken S) _ (by omega) rfl (r9.s (S' := (kV S, kfc S, kfp S, 1, kst S, ken S, kva S)) rfl) (Off.m0 _ (by omega) (by omega)))
set_option maxRecDepth 100000 in
set_option maxHeartbeats 4000000 in
theorem cn_X7_readNumber {K : KX} {n : Nat} {h : MH} {x z : Nat} {T : Nat → Int32} {m : Nat} {S : KS} (t : Tx h x T m) (r : Rd h z S) (ok : ken S ≤ m) (hx : x + 2 ≤ z ∨ z + 2 ≤ x) : Con K mX7_readNumber [.ref z, .ref x] 0 0 n h (RetP none n (fun h' => Rd h' z (k_numb T m S) ∧ Off z (z + 2) h h')) := by
  refine Con.of (by decide +kernel) (Nat.le_of_ble_eq_true rfl) ?_
  have loop : ∀ (f : Nat) (p : Nat) (v : Int32) (h1 : MH), p + f = m → k_num T m (m - ken S) (ken S) 0 = k_num T m f p v → Rd h1 z (kV S, kfc S, kfp S, 2, kst S, p, v) → Off z (z + 2) h h1 → GG (K, mX7_readNumber, 0, 0, RetP none n (fun h' => Rd h' z (k_numb T m S) ∧ Off z (z + 2) h h')) 0 0 10 [(0, .ref z), (1, .ref x)] [] n h1 := by
    intro f
    induction f with
    | zero =>
      intro p v h1 hp hr r9 o
      have t9 := t.off o (by omega)
      obtain ⟨t0, t1, t2⟩ := id t9
      obtain ⟨r0, r1⟩ := id r9
      refine mj_aload_n 0 dX7_readNumber_10 rfl ?_
      refine mj_getf dX7_readNumber_11 fgX7_27 (by repeat (first | assumption | exact mup_s _ _ _ | rw [mup_n _ _ (by omega)])) rfl ?_
      refine mj_aload_n 1 dX7_readNumber_14 rfl ?_
      refine mj_getf dX7_readNumber_15 fgX7_150 (by repeat (first | assumption | exact mup_s _ _ _ | rw [mup_n _ _ (by omega)])) rfl ?_
      refine mj_icmp_ge 77 dX7_readNumber_18 (by decide) (fun c_18 => ?_) (fun c_18 => ?_)
      · exact mj_vret dX7_readNumber_77 rfl (Nat.le_of_ble_eq_true rfl) (Nat.le_of_ble_eq_true rfl) ⟨rfl, rfl, ⟨by unfold k_numb; rw [hr]; exact r9, o⟩⟩
      · exact absurd (nI_le (show m ≤ p by omega) (by omega)) c_18
    | succ f ih =>
      intro p v h1 hp hr r9 o
      have t9 := t.off o (by omega)
      obtain ⟨t0, t1, t2⟩ := id t9
      obtain ⟨r0, r1⟩ := id r9
      have ka : k_at T m p = T p := if_pos (by omega)
      refine mj_aload_n 0 dX7_readNumber_10 rfl ?_
      refine mj_getf dX7_readNumber_11 fgX7_27 (by repeat (first | assumption | exact mup_s _ _ _ | rw [mup_n _ _ (by omega)])) rfl ?_
      refine mj_aload_n 1 dX7_readNumber_14 rfl ?_
      refine mj_getf dX7_readNumber_15 fgX7_150 (by repeat (first | assumption | exact mup_s _ _ _ | rw [mup_n _ _ (by omega)])) rfl ?_
      refine mj_icmp_ge 77 dX7_readNumber_18 (by decide) (fun c_18 => ?_) (fun c_18 => ?_)
      · exact absurd c_18 (nI_ge (show p < m by omega) (by omega))
      · refine mj_aload_n 1 dX7_readNumber_21 rfl ?_
        refine mj_aload_n 0 dX7_readNumber_22 rfl ?_
        refine mj_getf dX7_readNumber_23 fgX7_27 (by repeat (first | assumption | exact mup_s _ _ _ | rw [mup_n _ _ (by omega)])) rfl ?_
        refine mj_cV1 [_] (RX8, TX8, 2) dX7_readNumber_26 cwX8_byteAt lkX7_140 (t9.1) rfl rfl rfl rfl (cn_X8_byteAt t9 (j := p) (by omega)) ⟨Nat.le_of_ble_eq_true rfl, Nat.le_of_ble_eq_true rfl, Nat.le_of_ble_eq_true rfl, Nat.le_of_ble_eq_true rfl, Nat.le_of_ble_eq_true rfl⟩ (fun h' e' => ?_)
        subst e'
        refine mj_cS1 [_] dX7_readNumber_29 cwX7_isDigit lkX7_161 rfl (cn_X7_isDigit) ⟨Nat.le_of_ble_eq_true rfl, Nat.le_of_ble_eq_true rfl, Nat.le_of_ble_eq_true rfl, Nat.le_of_ble_eq_true rfl, Nat.le_of_ble_eq_true rfl⟩ (fun h' e' => ?_)
        subst e'
        refine mj_if_eq 77 dX7_readNumber_32 (by decide) (fun c_32 => ?_) (fun c_32 => ?_)
        · have z1 := bI_0.mp c_32
          rw [ka] at z1
          exact mj_vret dX7_readNumber_77 rfl (Nat.le_of_ble_eq_true rfl) (Nat.le_of_ble_eq_true rfl) ⟨rfl, rfl, ⟨by unfold k_numb; rw [hr]; simp only [k_num, z1]; exact r9, o⟩⟩
        · have z1 := bI_n0.mp c_32
          rw [ka] at z1
          refine mj_aload_n 0 dX7_readNumber_35 rfl ?_
          refine mj_aload_n 0 dX7_readNumber_36 rfl ?_
          refine mj_getf dX7_readNumber_37 fgX7_124 (by repeat (first | assumption | exact mup_s _ _ _ | rw [mup_n _ _ (by omega)])) rfl ?_
          refine mj_bipush (v := (10)) dX7_readNumber_40 rfl ?_
          refine mj_imul dX7_readNumber_42 ?_
          refine mj_aload_n 1 dX7_readNumber_43 rfl ?_
          refine mj_aload_n 0 dX7_readNumber_44 rfl ?_
          refine mj_getf dX7_readNumber_45 fgX7_27 (by repeat (first | assumption | exact mup_s _ _ _ | rw [mup_n _ _ (by omega)])) rfl ?_
          refine mj_cV1 [_] (RX8, TX8, 2) dX7_readNumber_48 cwX8_byteAt lkX7_140 (t9.1) rfl rfl rfl rfl (cn_X8_byteAt t9 (j := p) (by omega)) ⟨Nat.le_of_ble_eq_true rfl, Nat.le_of_ble_eq_true rfl, Nat.le_of_ble_eq_true rfl, Nat.le_of_ble_eq_true rfl, Nat.le_of_ble_eq_true rfl⟩ (fun h' e' => ?_)
          subst e'
          rw [ka]
          refine mj_iadd dX7_readNumber_51 ?_
          refine mj_bipush (v := (48)) dX7_readNumber_52 rfl ?_
          refine mj_isub dX7_readNumber_54 ?_
          refine mj_sipush (v := (10000)) dX7_readNumber_55 rfl ?_
          refine mj_min dX7_readNumber_58 mlX7_167 st_min in_Math cd_min (Nat.le_of_ble_eq_true rfl) (Nat.le_of_ble_eq_true rfl) (Nat.le_of_ble_eq_true rfl) (Nat.le_of_ble_eq_true rfl) rfl ?_
          refine mj_putf dX7_readNumber_61 fgX7_124 (by repeat (first | assumption | exact mup_s _ _ _ | rw [mup_n _ _ (by omega)])) rfl rfl rfl (Nat.le_of_ble_eq_true rfl) rfl ?_
          refine mj_aload_n 0 dX7_readNumber_64 rfl ?_
          refine mj_dup dX7_readNumber_65 rfl ?_
          refine mj_getf dX7_readNumber_66 fgX7_27 (by repeat (first | assumption | exact mup_s _ _ _ | rw [mup_n _ _ (by omega)])) rfl ?_
          refine mj_iconst (v := 1) dX7_readNumber_69 rfl ?_
          refine mj_iadd dX7_readNumber_70 ?_
          refine mj_eq (nI_1 _) ?_
          refine mj_putf dX7_readNumber_71 fgX7_27 (by repeat (first | assumption | exact mup_s _ _ _ | rw [mup_n _ _ (by omega)])) rfl rfl rfl (Nat.le_of_ble_eq_true rfl) rfl ?_
          refine mj_goto 10 dX7_readNumber_74 (by decide) ?_
          exact ih (p + 1) (i_min (v * 10 + T p - 48) 10000) _ (by omega) (by rw [hr]; simp [k_num, z1]) ((r9.s (S' := (kV S, kfc S, kfp S, 2, kst S, p, i_min (v * 10 + T p - 48) 10000)) rfl).s (S' := (kV S, kfc S, kfp S, 2, kst S, p + 1, i_min (v * 10 + T p - 48) 10000)) rfl) ((o.m _ (by omega) (by omega)).m _ (by omega) (by omega))
  have t9 := t
  have r9 := r
  obtain ⟨t0, t1, t2⟩ := t
  obtain ⟨r0, r1⟩ := r
  refine mj_aload_n 0 dX7_readNumber_0 rfl ?_
  refine mj_iconst (v := 2) dX7_readNumber_1 rfl ?_
  refine mj_putf dX7_readNumber_2 fgX7_34 (by repeat (first | assumption | exact mup_s _ _ _ | rw [mup_n _ _ (by omega)])) rfl rfl rfl (Nat.le_of_ble_eq_true rfl) rfl ?_
  refine mj_aload_n 0 dX7_readNumber_5 rfl ?_
  refine mj_iconst (v := 0) dX7_readNumber_6 rfl ?_
  refine mj_putf dX7_readNumber_7 fgX7_124 (by repeat (first | assumption | exact mup_s _ _ _ | rw [mup_n _ _ (by omega)])) rfl rfl rfl (Nat.le_of_ble_eq_true rfl) rfl ?_
  exact mj_ls [0, 1] rfl (loop (m - ken S) (ken S) 0 _ (by omega) rfl ((r9.s (S' := (kV S, kfc S, kfp S, 2, kst S, ken S, kva S)) rfl).s (S' := (kV S, kfc S, kfp S, 2, kst S, ken S, 0)) rfl) ((Off.m0 _ (by omega) (by omega)).m _ (by omega) (by omega)))
set_option maxRecDepth 100000 in
set_option maxHeartbeats 4000000 in
theorem cn_X7_nextToken {K : KX} {n : Nat} {h : MH} {x z : Nat} {T : Nat → Int32} {m : Nat} {S : KS} (t : Tx h x T m) (r : Rd h z S) (ok : ken S ≤ m) (hx : x + 2 ≤ z ∨ z + 2 ≤ x) : Con K mX7_nextToken [.ref z, .ref x] 0 0 n h (RetP none n (fun h' => Rd h' z (k_next T m S) ∧ Off z (z + 2) h h')) := by
  refine Con.of (by decide +kernel) (Nat.le_of_ble_eq_true rfl) ?_
  have rest : ∀ (p : Nat) (h1 : MH), p ≤ m → k_run k_blank T m (m - ken S) (ken S) = p → Rd h1 z (kV S, kfc S, kfp S, kkd S, p, ken S, kva S) → Off z (z + 2) h h1 → GG (K, mX7_nextToken, 0, 0, RetP none n (fun h' => Rd h' z (k_next T m S) ∧ Off z (z + 2) h h')) 0 0 46 [(0, .ref z), (1, .ref x)] [] n h1 := by
    intro p h1 hp hk r9 o
    have hpm := t.2.2
    have t9 := t.off o (by omega)
    obtain ⟨t0, t1, t2⟩ := id t9
    obtain ⟨r0, r1⟩ := id r9
    refine mj_aload_n 1 dX7_nextToken_46 rfl ?_
    refine mj_aload_n 0 dX7_nextToken_47 rfl ?_
    refine mj_getf dX7_nextToken_48 fgX7_131 (by repeat (first | assumption | exact mup_s _ _ _ | rw [mup_n _ _ (by omega)])) rfl ?_
    refine mj_cV1 [_] (RX8, TX8, 2) dX7_nextToken_51 cwX8_byteAt lkX7_140 (t9.1) rfl rfl rfl rfl (cn_X8_byteAt t9 (j := p) (by omega)) ⟨Nat.le_of_ble_eq_true rfl, Nat.le_of_ble_eq_true rfl, Nat.le_of_ble_eq_true rfl, Nat.le_of_ble_eq_true rfl, Nat.le_of_ble_eq_true rfl⟩ (fun h' e' => ?_)
    subst e'
    refine mj_istore_n (ls' := [(2, _), (0, _), (1, _)]) dX7_nextToken_54 (Nat.le_of_ble_eq_true rfl) rfl ?_
    refine mj_aload_n 1 dX7_nextToken_55 rfl ?_
    refine mj_aload_n 1 dX7_nextToken_56 rfl ?_
    refine mj_getf dX7_nextToken_57 fgX7_131 (by repeat (first | assumption | exact mup_s _ _ _ | rw [mup_n _ _ (by omega)])) rfl ?_
    refine mj_putf dX7_nextToken_60 fgX7_27 (by repeat (first | assumption | exact mup_s _ _ _ | rw [mup_n _ _ (by omega)])) rfl rfl rfl (Nat.le_of_ble_eq_true rfl) rfl ?_
    refine mj_iload_n 0 dX7_nextToken_63 rfl ?_
    refine mj_iconst (v := (-1)) dX7_nextToken_64 rfl ?_
    refine mj_icmp_ne 76 dX7_nextToken_65 (by decide) (fun c_65 => ?_) (fun c_65 => ?_)
    · refine mj_iload_n 0 dX7_nextToken_76 rfl ?_
      refine mj_cS1 [_] dX7_nextToken_77 cwX7_isLetter lkX7_155 rfl (cn_X7_isLetter) ⟨Nat.le_of_ble_eq_true rfl, Nat.le_of_ble_eq_true rfl, Nat.le_of_ble_eq_true rfl, Nat.le_of_ble_eq_true rfl, Nat.le_of_ble_eq_true rfl⟩ (fun h' e' => ?_)
      subst e'
      refine mj_if_eq 91 dX7_nextToken_80 (by decide) (fun c_80 => ?_) (fun c_80 => ?_)
      · have z1 := bI_0.mp c_80
        refine mj_iload_n 0 dX7_nextToken_91 rfl ?_
        refine mj_cS1 [_] dX7_nextToken_92 cwX7_isDigit lkX7_161 rfl (cn_X7_isDigit) ⟨Nat.le_of_ble_eq_true rfl, Nat.le_of_ble_eq_true rfl, Nat.le_of_ble_eq_true rfl, Nat.le_of_ble_eq_true rfl, Nat.le_of_ble_eq_true rfl⟩ (fun h' e' => ?_)
        subst e'
        refine mj_if_eq 106 dX7_nextToken_95 (by decide) (fun c_95 => ?_) (fun c_95 => ?_)
        · have z2 := bI_0.mp c_95
          refine mj_aload_n 1 dX7_nextToken_106 rfl ?_
          refine mj_iload_n 0 dX7_nextToken_107 rfl ?_
          refine mj_bipush (v := (59)) dX7_nextToken_108 rfl ?_
          refine mj_icmp_ne 117 dX7_nextToken_110 (by decide) (fun c_110 => ?_) (fun c_110 => ?_)
          · refine mj_iconst (v := 4) dX7_nextToken_117 rfl ?_
            refine mj_putf dX7_nextToken_118 fgX7_34 (by repeat (first | assumption | exact mup_s _ _ _ | rw [mup_n _ _ (by omega)])) rfl rfl rfl (Nat.le_of_ble_eq_true rfl) rfl ?_
            refine mj_aload_n 1 dX7_nextToken_121 rfl ?_
            refine mj_dup dX7_nextToken_122 rfl ?_
            refine mj_getf dX7_nextToken_123 fgX7_27 (by repeat (first | assumption | exact mup_s _ _ _ | rw [mup_n _ _ (by omega)])) rfl ?_
            refine mj_iconst (v := 1) dX7_nextToken_126 rfl ?_
            refine mj_iadd dX7_nextToken_127 ?_
            refine mj_eq (nI_1 _) ?_
            refine mj_putf dX7_nextToken_128 fgX7_27 (by repeat (first | assumption | exact mup_s _ _ _ | rw [mup_n _ _ (by omega)])) rfl rfl rfl (Nat.le_of_ble_eq_true rfl) rfl ?_
            exact mj_vret dX7_nextToken_131 rfl (Nat.le_of_ble_eq_true rfl) (Nat.le_of_ble_eq_true rfl) ⟨rfl, rfl, (by rw [show k_next T m S = k_tok T m S p from by unfold k_next; rw [hk]]; unfold k_tok; rw [if_neg c_65, if_neg (by rw [z1]; decide), if_neg (by rw [z2]; decide), if_neg c_110]; exact ((r9.s (S' := (kV S, kfc S, kfp S, kkd S, p, p, kva S)) rfl).s (S' := (kV S, kfc S, kfp S, 4, p, p, kva S)) rfl).s (S' := (kV S, kfc S, kfp S, 4, p, p + 1, kva S)) rfl), ((o.m _ (by omega) (by omega)).m _ (by omega) (by omega)).m _ (by omega) (by omega)⟩
          · refine mj_iconst (v := 3) dX7_nextToken_113 rfl ?_
            refine mj_goto 118 dX7_nextToken_114 (by decide) ?_
            refine mj_putf dX7_nextToken_118 fgX7_34 (by repeat (first | assumption | exact mup_s _ _ _ | rw [mup_n _ _ (by omega)])) rfl rfl rfl (Nat.le_of_ble_eq_true rfl) rfl ?_
            refine mj_aload_n 1 dX7_nextToken_121 rfl ?_
            refine mj_dup dX7_nextToken_122 rfl ?_
            refine mj_getf dX7_nextToken_123 fgX7_27 (by repeat (first | assumption | exact mup_s _ _ _ | rw [mup_n _ _ (by omega)])) rfl ?_
            refine mj_iconst (v := 1) dX7_nextToken_126 rfl ?_
            refine mj_iadd dX7_nextToken_127 ?_
            refine mj_eq (nI_1 _) ?_
            refine mj_putf dX7_nextToken_128 fgX7_27 (by repeat (first | assumption | exact mup_s _ _ _ | rw [mup_n _ _ (by omega)])) rfl rfl rfl (Nat.le_of_ble_eq_true rfl) rfl ?_
            exact mj_vret dX7_nextToken_131 rfl (Nat.le_of_ble_eq_true rfl) (Nat.le_of_ble_eq_true rfl) ⟨rfl, rfl, (by rw [show k_next T m S = k_tok T m S p from by unfold k_next; rw [hk]]; unfold k_tok; rw [if_neg c_65, if_neg (by rw [z1]; decide), if_neg (by rw [z2]; decide), if_pos c_110]; exact ((r9.s (S' := (kV S, kfc S, kfp S, kkd S, p, p, kva S)) rfl).s (S' := (kV S, kfc S, kfp S, 3, p, p, kva S)) rfl).s (S' := (kV S, kfc S, kfp S, 3, p, p + 1, kva S)) rfl), ((o.m _ (by omega) (by omega)).m _ (by omega) (by omega)).m _ (by omega) (by omega)⟩
        · have z2 := bI_n0.mp c_95
          refine mj_aload_n 1 dX7_nextToken_98 rfl ?_
          refine mj_aload_n 2 dX7_nextToken_99 rfl ?_
          have r5 := r9.s (S' := (kV S, kfc S, kfp S, kkd S, p, p, kva S)) rfl
          have r50 := r5.1
          have t5 := t9.off (Off.m0 (a := z) (b := z + 1) (c := z) (rdO z (kV S, kfc S, kfp S, kkd S, p, p, kva S)) (by omega) (by omega)) (by omega)
          refine mj_cV0 [_] (RX7, TX7, 7) dX7_nextToken_100 cwX7_readNumber lkX7_164 r50 rfl rfl rfl rfl (cn_X7_readNumber t5 r5 (show p ≤ m by omega) hx) ⟨Nat.le_of_ble_eq_true rfl, Nat.le_of_ble_eq_true rfl, Nat.le_of_ble_eq_true rfl, Nat.le_of_ble_eq_true rfl, Nat.le_of_ble_eq_true rfl⟩ (fun h' e' => ?_)
          obtain ⟨e1, e2⟩ := e'
          refine mj_goto 131 dX7_nextToken_103 (by decide) ?_
          exact mj_vret dX7_nextToken_131 rfl (Nat.le_of_ble_eq_true rfl) (Nat.le_of_ble_eq_true rfl) ⟨rfl, rfl, (by rw [show k_next T m S = k_tok T m S p from by unfold k_next; rw [hk]]; unfold k_tok; rw [if_neg c_65, if_neg (by rw [z1]; decide), if_pos z2]; exact e1), (o.m _ (by omega) (by omega)).tr e2⟩
      · have z1 := bI_n0.mp c_80
        refine mj_aload_n 1 dX7_nextToken_83 rfl ?_
        refine mj_aload_n 2 dX7_nextToken_84 rfl ?_
        have r5 := r9.s (S' := (kV S, kfc S, kfp S, kkd S, p, p, kva S)) rfl
        have r50 := r5.1
        have t5 := t9.off (Off.m0 (a := z) (b := z + 1) (c := z) (rdO z (kV S, kfc S, kfp S, kkd S, p, p, kva S)) (by omega) (by omega)) (by omega)
        refine mj_cV0 [_] (RX7, TX7, 7) dX7_nextToken_85 cwX7_readWord lkX7_158 r50 rfl rfl rfl rfl (cn_X7_readWord t5 r5 (show p ≤ m by omega) hx) ⟨Nat.le_of_ble_eq_true rfl, Nat.le_of_ble_eq_true rfl, Nat.le_of_ble_eq_true rfl, Nat.le_of_ble_eq_true rfl, Nat.le_of_ble_eq_true rfl⟩ (fun h' e' => ?_)
        obtain ⟨e1, e2⟩ := e'
        refine mj_goto 131 dX7_nextToken_88 (by decide) ?_
        exact mj_vret dX7_nextToken_131 rfl (Nat.le_of_ble_eq_true rfl) (Nat.le_of_ble_eq_true rfl) ⟨rfl, rfl, (by rw [show k_next T m S = k_tok T m S p from by unfold k_next; rw [hk]]; unfold k_tok; rw [if_neg c_65, if_pos z1]; exact e1), (o.m _ (by omega) (by omega)).tr e2⟩
    · refine mj_aload_n 1 dX7_nextToken_68 rfl ?_
      refine mj_iconst (v := 0) dX7_nextToken_69 rfl ?_
      refine mj_putf dX7_nextToken_70 fgX7_34 (by repeat (first | assumption | exact mup_s _ _ _ | rw [mup_n _ _ (by omega)])) rfl rfl rfl (Nat.le_of_ble_eq_true rfl) rfl ?_
      refine mj_goto 131 dX7_nextToken_73 (by decide) ?_
      exact mj_vret dX7_nextToken_131 rfl (Nat.le_of_ble_eq_true rfl) (Nat.le_of_ble_eq_true rfl) ⟨rfl, rfl, (by rw [show k_next T m S = k_tok T m S p from by unfold k_next; rw [hk]]; unfold k_tok; rw [if_pos c_65]; exact (r9.s (S' := (kV S, kfc S, kfp S, kkd S, p, p, kva S)) rfl).s (S' := (kV S, kfc S, kfp S, 0, p, p, kva S)) rfl), (o.m _ (by omega) (by omega)).m _ (by omega) (by omega)⟩
  have loop : ∀ (f : Nat) (p : Nat) (h1 : MH), p + f = m → k_run k_blank T m (m - ken S) (ken S) = k_run k_blank T m f p → Rd h1 z (kV S, kfc S, kfp S, kkd S, p, ken S, kva S) → Off z (z + 2) h h1 → GG (K, mX7_nextToken, 0, 0, RetP none n (fun h' => Rd h' z (k_next T m S) ∧ Off z (z + 2) h h')) 0 0 8 [(0, .ref z), (1, .ref x)] [] n h1 := by
    intro f
    induction f with
    | zero =>
      intro p h1 hp hr r9 o
      have hpm := t.2.2
      have t9 := t.off o (by omega)
      obtain ⟨t0, t1, t2⟩ := id t9
      obtain ⟨r0, r1⟩ := id r9
      refine mj_aload_n 0 dX7_nextToken_8 rfl ?_
      refine mj_getf dX7_nextToken_9 fgX7_131 (by repeat (first | assumption | exact mup_s _ _ _ | rw [mup_n _ _ (by omega)])) rfl ?_
      refine mj_aload_n 1 dX7_nextToken_12 rfl ?_
      refine mj_getf dX7_nextToken_13 fgX7_150 (by repeat (first | assumption | exact mup_s _ _ _ | rw [mup_n _ _ (by omega)])) rfl ?_
      refine mj_icmp_ge 46 dX7_nextToken_16 (by decide) (fun c_16 => ?_) (fun c_16 => ?_)
      · exact rest p h1 (by omega) hr r9 o
      · exact absurd (nI_le (show m ≤ p by omega) (by omega)) c_16
    | succ f ih =>
      intro p h1 hp hr r9 o
      have hpm := t.2.2
      have t9 := t.off o (by omega)
      obtain ⟨t0, t1, t2⟩ := id t9
      obtain ⟨r0, r1⟩ := id r9
      have ka : k_at T m p = T p := if_pos (by omega)
      refine mj_aload_n 0 dX7_nextToken_8 rfl ?_
      refine mj_getf dX7_nextToken_9 fgX7_131 (by repeat (first | assumption | exact mup_s _ _ _ | rw [mup_n _ _ (by omega)])) rfl ?_
      refine mj_aload_n 1 dX7_nextToken_12 rfl ?_
      refine mj_getf dX7_nextToken_13 fgX7_150 (by repeat (first | assumption | exact mup_s _ _ _ | rw [mup_n _ _ (by omega)])) rfl ?_
      refine mj_icmp_ge 46 dX7_nextToken_16 (by decide) (fun c_16 => ?_) (fun c_16 => ?_)
      · exact absurd c_16 (nI_ge (show p < m by omega) (by omega))
      · refine mj_aload_n 1 dX7_nextToken_19 rfl ?_
        refine mj_aload_n 0 dX7_nextToken_20 rfl ?_
        refine mj_getf dX7_nextToken_21 fgX7_131 (by repeat (first | assumption | exact mup_s _ _ _ | rw [mup_n _ _ (by omega)])) rfl ?_
        refine mj_cV1 [_] (RX8, TX8, 2) dX7_nextToken_24 cwX8_byteAt lkX7_140 (t9.1) rfl rfl rfl rfl (cn_X8_byteAt t9 (j := p) (by omega)) ⟨Nat.le_of_ble_eq_true rfl, Nat.le_of_ble_eq_true rfl, Nat.le_of_ble_eq_true rfl, Nat.le_of_ble_eq_true rfl, Nat.le_of_ble_eq_true rfl⟩ (fun h' e' => ?_)
        subst e'
        refine mj_cS1 [_] dX7_nextToken_27 cwX7_isBlank lkX7_152 rfl (cn_X7_isBlank) ⟨Nat.le_of_ble_eq_true rfl, Nat.le_of_ble_eq_true rfl, Nat.le_of_ble_eq_true rfl, Nat.le_of_ble_eq_true rfl, Nat.le_of_ble_eq_true rfl⟩ (fun h' e' => ?_)
        subst e'
        refine mj_if_eq 46 dX7_nextToken_30 (by decide) (fun c_30 => ?_) (fun c_30 => ?_)
        · have z1 := bI_0.mp c_30
          rw [ka] at z1
          exact rest p _ (by omega) (by rw [hr]; simp [k_run, z1]) r9 o
        · have z1 := bI_n0.mp c_30
          rw [ka] at z1
          refine mj_aload_n 0 dX7_nextToken_33 rfl ?_
          refine mj_dup dX7_nextToken_34 rfl ?_
          refine mj_getf dX7_nextToken_35 fgX7_131 (by repeat (first | assumption | exact mup_s _ _ _ | rw [mup_n _ _ (by omega)])) rfl ?_
          refine mj_iconst (v := 1) dX7_nextToken_38 rfl ?_
          refine mj_iadd dX7_nextToken_39 ?_
          refine mj_eq (nI_1 _) ?_
          refine mj_putf dX7_nextToken_40 fgX7_131 (by repeat (first | assumption | exact mup_s _ _ _ | rw [mup_n _ _ (by omega)])) rfl rfl rfl (Nat.le_of_ble_eq_true rfl) rfl ?_
          refine mj_goto 8 dX7_nextToken_43 (by decide) ?_
          exact ih (p + 1) _ (by omega) (by rw [hr]; simp [k_run, z1]) (r9.s (S' := (kV S, kfc S, kfp S, kkd S, p + 1, ken S, kva S)) rfl) (o.m _ (by omega) (by omega))
  have t9 := t
  have r9 := r
  obtain ⟨t0, t1, t2⟩ := t
  obtain ⟨r0, r1⟩ := r
  refine mj_aload_n 0 dX7_nextToken_0 rfl ?_
  refine mj_aload_n 0 dX7_nextToken_1 rfl ?_
  refine mj_getf dX7_nextToken_2 fgX7_27 (by repeat (first | assumption | exact mup_s _ _ _ | rw [mup_n _ _ (by omega)])) rfl ?_
  refine mj_putf dX7_nextToken_5 fgX7_131 (by repeat (first | assumption | exact mup_s _ _ _ | rw [mup_n _ _ (by omega)])) rfl rfl rfl (Nat.le_of_ble_eq_true rfl) rfl ?_
  exact mj_ls [0, 1] rfl (loop (m - ken S) (ken S) _ (by omega) rfl (r9.s (S' := (kV S, kfc S, kfp S, kkd S, ken S, ken S, kva S)) rfl) (Off.m0 _ (by omega) (by omega)))
set_option maxRecDepth 100000 in
set_option maxHeartbeats 4000000 in
theorem cn_X7_fail {K : KX} {n : Nat} {h : MH} {z : Nat} {S : KS} (r : Rd h z S) {c : Int32} : Con K mX7_fail [.ref z, .int c] 0 0 n h (RetP (some (.int 0)) n (fun h' => Rd h' z (k_fail S c) ∧ Off z (z + 2) h h')) := by
  refine Con.of (by decide +kernel) (Nat.le_of_ble_eq_true rfl) ?_
  have r9 := r
  obtain ⟨r0, r1⟩ := r
  refine mj_aload_n 0 dX7_fail_0 rfl ?_
  refine mj_iload_n 1 dX7_fail_1 rfl ?_
  refine mj_putf dX7_fail_2 fgX7_24 (by repeat (first | assumption | exact mup_s _ _ _ | rw [mup_n _ _ (by omega)])) rfl rfl rfl (Nat.le_of_ble_eq_true rfl) rfl ?_
  refine mj_aload_n 0 dX7_fail_5 rfl ?_
  refine mj_aload_n 0 dX7_fail_6 rfl ?_
  refine mj_getf dX7_fail_7 fgX7_131 (by repeat (first | assumption | exact mup_s _ _ _ | rw [mup_n _ _ (by omega)])) rfl ?_
  refine mj_putf dX7_fail_10 fgX7_15 (by repeat (first | assumption | exact mup_s _ _ _ | rw [mup_n _ _ (by omega)])) rfl rfl rfl (Nat.le_of_ble_eq_true rfl) rfl ?_
  refine mj_iconst (v := 0) dX7_fail_13 rfl ?_
  exact mj_zret dX7_fail_14 rfl (by first | exact Or.inl rfl | exact Or.inr rfl) (Nat.le_of_ble_eq_true rfl) (Nat.le_of_ble_eq_true rfl) ⟨rfl, rfl, ⟨(r9.s (S' := (kV S, c, kfp S, kkd S, kst S, ken S, kva S)) rfl).s (S' := k_fail S c) rfl, (by repeat (first | exact Off.rf | assumption | refine Off.m ?_ _ (by omega) (by omega)))⟩⟩
set_option maxRecDepth 100000 in
set_option maxHeartbeats 4000000 in
theorem cn_X7_init {K : KX} {n : Nat} {h : MH} {z : Nat} (hn : n = z + 1) (r : h z = some (cO 7 [.null, .int 0, .int 0, .int 0, .int 0, .int 0, .int 0])) : Con K mX7_init [.ref z] 1 8 n h (RetP none (n + 1) (fun h' => Rd h' z (fun _ => 0, 0, -1, 0, 0, 0, 0) ∧ Off z (z + 2) h h')) := by
  refine Con.of (by decide +kernel) (Nat.le_of_ble_eq_true rfl) ?_
  subst hn
  refine mj_aload_n 0 dX7_init_0 rfl ?_
  refine mj_objInit dX7_init_1 mlX7_3 im_obj cd_obj (Nat.le_of_ble_eq_true rfl) (Nat.le_of_ble_eq_true rfl) ?_
  refine mj_aload_n 0 dX7_init_4 rfl ?_
  refine mj_bipush (v := (8)) dX7_init_5 rfl ?_
  refine mj_newaI dX7_init_7 ac_int (show (8 : Int32).toInt = ((8 : Nat) : Int) from rfl) (by omega) (Nat.le_of_ble_eq_true rfl) (Nat.le_of_ble_eq_true rfl) ?_
  refine mj_putG dX7_init_9 ffX7_9 (by repeat (first | assumption | exact mup_s _ _ _ | rw [mup_n _ _ (by omega)])) rfl rfl (by intro r h9; cases h9; rfl) rfl rfl (Nat.le_of_ble_eq_true rfl) rfl ?_
  refine mj_aload_n 0 dX7_init_12 rfl ?_
  refine mj_iconst (v := (-1)) dX7_init_13 rfl ?_
  refine mj_putf dX7_init_14 fgX7_15 (by repeat (first | assumption | exact mup_s _ _ _ | rw [mup_n _ _ (by omega)])) rfl rfl rfl (Nat.le_of_ble_eq_true rfl) rfl ?_
  exact mj_vret dX7_init_17 rfl (Nat.le_of_ble_eq_true rfl) (Nat.le_of_ble_eq_true rfl) ⟨rfl, rfl, ⟨⟨(by repeat (first | assumption | exact mup_s _ _ _ | rw [mup_n _ _ (by omega)])), (by repeat (first | assumption | exact mup_s _ _ _ | rw [mup_n _ _ (by omega)]))⟩, (by repeat (first | exact Off.rf | assumption | refine Off.m ?_ _ (by omega) (by omega)))⟩⟩
