-- COUNTING BITS
theorem nI_and2 {x y : Nat} (hx : x < 2 ^ 32) (hy : y < 2 ^ 32) : nI x &&& nI y = nI (x &&& y) := by
  apply Int32.toBitVec_inj.mp
  apply BitVec.eq_of_toNat_eq
  rw [Int32.toBitVec_and, BitVec.toNat_and, pk_tn hx, pk_tn hy, pk_tn (Nat.lt_of_le_of_lt Nat.and_le_left hx)]
theorem nI_or2 {x y : Nat} (hx : x < 2 ^ 32) (hy : y < 2 ^ 32) : nI x ||| nI y = nI (x ||| y) := by
  apply Int32.toBitVec_inj.mp
  apply BitVec.eq_of_toNat_eq
  rw [Int32.toBitVec_or, BitVec.toNat_or, pk_tn hx, pk_tn hy, pk_tn (Nat.or_lt_two_pow hx hy)]
theorem sh1 : ∀ k, k < 20 → (1 : Int32) <<< (nI k &&& 31) = nI (2 ^ k) := by decide +kernel
def vN (P : Nat → Bool) (a : Nat) : Nat → Nat
  | 0 => 0
  | n + 1 => vN P a n + if P (a + n) then 2 ^ (a + n) else 0
theorem vN_lt (P : Nat → Bool) (a : Nat) : ∀ n, vN P a n < 2 ^ (a + n)
  | 0 => Nat.two_pow_pos _
  | n + 1 => by
    have ih := vN_lt P a n
    have e : 2 ^ (a + (n + 1)) = 2 ^ (a + n) + 2 ^ (a + n) := by rw [← Nat.add_assoc, Nat.pow_succ]; omega
    unfold vN
    split <;> omega
theorem vN_f (P : Nat → Bool) (a : Nat) : ∀ n, vN P a (n + 1) = (if P a then 2 ^ a else 0) + vN P (a + 1) n
  | 0 => by simp [vN]
  | n + 1 => by
    have ih := vN_f P a n
    unfold vN
    rw [ih, show a + (n + 1) = a + 1 + n by omega, Nat.add_assoc]
theorem vN_m (P : Nat → Bool) (a : Nat) : ∀ n, ∃ w, vN P a n = 2 ^ a * w
  | 0 => ⟨0, rfl⟩
  | n + 1 => by
    obtain ⟨w, e⟩ := vN_m P a n
    unfold vN
    split
    · exact ⟨w + 2 ^ n, by rw [e, Nat.pow_add, Nat.mul_add]⟩
    · exact ⟨w, by rw [e]; rfl⟩
theorem low_bit (a w : Nat) : (2 ^ a + 2 ^ (a + 1) * w) &&& (2 ^ a + 2 ^ (a + 1) * w - 1) = 2 ^ (a + 1) * w := by
  have hp := Nat.two_pow_pos a
  have h1 : 2 ^ a < 2 ^ (a + 1) := by rw [Nat.pow_succ]; omega
  rw [show 2 ^ a + 2 ^ (a + 1) * w = 2 ^ (a + 1) * w + 2 ^ a by omega, show 2 ^ (a + 1) * w + 2 ^ a - 1 = 2 ^ (a + 1) * w + (2 ^ a - 1) by omega]
  apply Nat.eq_of_testBit_eq
  intro j
  have e0 : (2 ^ (a + 1) * w).testBit j = (2 ^ (a + 1) * w + 0).testBit j := rfl
  rw [Nat.testBit_and, e0, Nat.testBit_two_pow_mul_add _ h1, Nat.testBit_two_pow_mul_add _ (show 2 ^ a - 1 < 2 ^ (a + 1) by omega), Nat.testBit_two_pow_mul_add _ (Nat.two_pow_pos (a + 1))]
  by_cases h : j < a + 1
  · rw [if_pos h, if_pos h, if_pos h, Nat.testBit_two_pow, Nat.testBit_two_pow_sub_one, Nat.zero_testBit]
    by_cases h2 : a = j
    · subst h2; simp
    · simp [h2]
  · rw [if_neg h, if_neg h, if_neg h, Bool.and_self]
def cb : Nat → Int32 → Nat
  | 0, _ => 0
  | f + 1, v => if v = 0 then 0 else cb f (v &&& (v - 1)) + 1
def cbz : Nat → Int32 → Prop
  | 0, v => v = 0
  | f + 1, v => v = 0 ∨ cbz f (v &&& (v - 1))
theorem cb_0 (f : Nat) : cbz f 0 ∧ cb f 0 = 0 := by
  cases f
  · exact ⟨rfl, rfl⟩
  · exact ⟨Or.inl rfl, if_pos rfl⟩
def cN (P : Nat → Bool) (a : Nat) : Nat → Nat
  | 0 => 0
  | n + 1 => cN P a n + if P (a + n) then 1 else 0
theorem cN_f (P : Nat → Bool) (a : Nat) : ∀ n, cN P a (n + 1) = (if P a then 1 else 0) + cN P (a + 1) n
  | 0 => by simp [cN]
  | n + 1 => by
    have ih := cN_f P a n
    unfold cN
    rw [ih, show a + (n + 1) = a + 1 + n by omega, Nat.add_assoc]
theorem cb_v (P : Nat → Bool) : ∀ (n a f : Nat), a + n ≤ 31 → n ≤ f → cbz f (nI (vN P a n)) ∧ cb f (nI (vN P a n)) = cN P a n
  | 0, _, f, _, _ => cb_0 f
  | n + 1, a, 0, _, h => absurd h (by omega)
  | n + 1, a, f + 1, h1, h2 => by
    have hl := vN_lt P a (n + 1)
    have hL : 2 ^ (a + (n + 1)) ≤ 2 ^ 31 := Nat.pow_le_pow_right (by decide) h1
    rw [vN_f, cN_f] at *
    by_cases hp : P a
    · rw [if_pos hp] at hl ⊢
      obtain ⟨w, e⟩ := vN_m P (a + 1) n
      have hq := low_bit a w
      rw [← e] at hq
      have h0 : 0 < 2 ^ a := Nat.two_pow_pos a
      have hnz : ¬ nI (2 ^ a + vN P (a + 1) n) = 0 := fun z => by
        have := congrArg Int32.toInt z
        rw [ixn (by omega), show (0 : Int32).toInt = 0 from rfl] at this
        omega
      have hs : nI (2 ^ a + vN P (a + 1) n) &&& (nI (2 ^ a + vN P (a + 1) n) - 1) = nI (vN P (a + 1) n) := by
        have e2 : nI (2 ^ a + vN P (a + 1) n) - 1 = nI (2 ^ a + vN P (a + 1) n - 1) := by
          have := nI_p (2 ^ a + vN P (a + 1) n - 1)
          rw [show 2 ^ a + vN P (a + 1) n - 1 + 1 = 2 ^ a + vN P (a + 1) n by omega] at this
          exact this
        rw [e2, nI_and2 (by omega) (by omega), hq]
      obtain ⟨i1, i2⟩ := cb_v P n (a + 1) f (by omega) (by omega)
      refine ⟨Or.inr ?_, ?_⟩
      · rw [hs]; exact i1
      · unfold cb
        rw [if_neg hnz, hs, i2, if_pos hp]
        omega
    · rw [if_neg hp, if_neg hp, Nat.zero_add, Nat.zero_add]
      exact cb_v P n (a + 1) (f + 1) (by omega) (by omega)
theorem cN_i (P : Nat → Bool) : ∀ n, cN P 0 n = i_count P n
  | 0 => rfl
  | n + 1 => by unfold cN i_count; rw [cN_i P n, Nat.zero_add]
def inP (g : Nat → Int32) (d : Nat) (k : Nat) : Bool := decide (gr g k 7 = nI d)
theorem w_mask_v (g : Nat → Int32) (d : Nat) : ∀ k, k ≤ 20 → w_maskTo g d k = nI (vN (inP g d) 0 k)
  | 0, _ => rfl
  | k + 1, h => by
    have hl := vN_lt (inP g d) 0 k
    rw [Nat.zero_add] at hl
    have hL : 2 ^ k ≤ 2 ^ 19 := Nat.pow_le_pow_right (by decide) (by omega)
    unfold w_maskTo vN
    rw [w_mask_v g d k (by omega), Nat.zero_add]
    unfold inP at hl ⊢
    by_cases c : gr g k 7 = nI d
    · rw [if_pos c, if_pos (decide_eq_true c), sh1 k (by omega), nI_or2 (by omega) (by omega), Nat.or_comm]
      have q := Nat.two_pow_add_eq_or_of_lt hl 1
      rw [Nat.mul_one] at q
      rw [← q, Nat.add_comm]
    · rw [if_neg c, if_neg (by rw [decide_eq_false c]; decide), Nat.add_zero]
      show nI _ ||| nI 0 = _
      rw [nI_or2 (by omega) (by omega), Nat.or_zero]
theorem w_mask_cb (g : Nat → Int32) (d : Nat) {k : Nat} (h : k ≤ 20) : cbz 20 (w_maskTo g d k) ∧ cb 20 (w_maskTo g d k) = i_count (inP g d) k := by
  rw [w_mask_v g d k h, ← cN_i]
  exact cb_v (inP g d) k 0 20 (by omega) h
theorem i_count_s (P : Nat → Bool) (k : Nat) : i_count P (k + 1) = i_count P k + if P k then 1 else 0 := rfl
theorem cb_s (f : Nat) (v : Int32) : cb (f + 1) v = if v = 0 then 0 else cb f (v &&& (v - 1)) + 1 := rfl
set_option maxRecDepth 100000 in
set_option maxHeartbeats 4000000 in
theorem cn_X11_countBits {K : KX} {n : Nat} {h : MH} {v0 : Int32} {f0 : Nat} (hf : f0 ≤ 1000) (hz : cbz f0 v0) : Con K mX11_countBits [.int v0] 0 0 n h (Ret (some (.int (nI (cb f0 v0)))) n h) := by
  refine Con.of (by decide +kernel) (Nat.le_of_ble_eq_true rfl) ?_
  generalize hr9 : nI (cb f0 v0) = r9
  have loop : ∀ (f : Nat) (v : Int32) (t : Nat), t + f ≤ 1000 → cbz f v → r9 = nI (t + cb f v) → GG (K, mX11_countBits, 0, 0, Ret (some (.int r9)) n h) 0 0 4 [(2, .int v), (1, .int (nI t)), (0, .int v0)] [] n h := by
    intro f
    induction f with
    | zero =>
      intro v t ht hz hr
      have hz : v = 0 := hz
      refine mj_iload_n 0 dX11_countBits_4 rfl ?_
      refine mj_if_eq 20 dX11_countBits_5 (by decide) (fun c_5 => ?_) (fun c_5 => ?_)
      · refine mj_iload_n 1 dX11_countBits_20 rfl ?_
        exact mj_iret dX11_countBits_21 rfl (Nat.le_of_ble_eq_true rfl) (Nat.le_of_ble_eq_true rfl) ⟨(by rw [hr]; rfl), rfl, rfl⟩
      · exact absurd hz c_5
    | succ f ih =>
      intro v t ht hz hr
      by_cases hv : v = 0
      · refine mj_iload_n 0 dX11_countBits_4 rfl ?_
        refine mj_if_eq 20 dX11_countBits_5 (by decide) (fun c_5 => ?_) (fun c_5 => ?_)
        · refine mj_iload_n 1 dX11_countBits_20 rfl ?_
          exact mj_iret dX11_countBits_21 rfl (Nat.le_of_ble_eq_true rfl) (Nat.le_of_ble_eq_true rfl) ⟨(by rw [hr]; unfold cb; rw [if_pos hv]; rfl), rfl, rfl⟩
        · exact absurd hv c_5
      · refine mj_iload_n 0 dX11_countBits_4 rfl ?_
        refine mj_if_eq 20 dX11_countBits_5 (by decide) (fun c_5 => ?_) (fun c_5 => ?_)
        · exact absurd c_5 hv
        · refine mj_iinc (ls' := [(1, _), (2, _), (0, _)]) 1 dX11_countBits_8 rfl (nI_s _) (Nat.le_of_ble_eq_true rfl) rfl ?_
          refine mj_iload_n 1 dX11_countBits_11 rfl ?_
          refine mj_iload_n 1 dX11_countBits_12 rfl ?_
          refine mj_iconst (v := 1) dX11_countBits_13 rfl ?_
          refine mj_isub dX11_countBits_14 ?_
          refine mj_iand dX11_countBits_15 ?_
          refine mj_istore_n (ls' := [(2, _), (1, _), (0, _)]) dX11_countBits_16 (Nat.le_of_ble_eq_true rfl) rfl ?_
          refine mj_goto 4 dX11_countBits_17 (by decide) ?_
          exact mj_ls [0, 1, 2] rfl (ih _ (t + 1) (by omega) (hz.resolve_left hv) (by rw [hr]; rw [cb_s, if_neg hv, show t + (cb f (v &&& (v - 1)) + 1) = t + 1 + cb f (v &&& (v - 1)) by omega]))
  refine mj_iconst (v := 0) dX11_countBits_0 rfl ?_
  refine mj_istore_n (ls' := [(1, _), (0, _)]) dX11_countBits_1 (Nat.le_of_ble_eq_true rfl) rfl ?_
  refine mj_iload_n 1 dX11_countBits_2 rfl ?_
  refine mj_istore_n (ls' := [(2, _), (1, _), (0, _)]) dX11_countBits_3 (Nat.le_of_ble_eq_true rfl) rfl ?_
  exact mj_ls [0, 1, 2] rfl (loop f0 v0 0 (by omega) hz (by rw [Nat.zero_add]; exact hr9.symm))
def w_bs (g : Nat → Int32) (d : Nat) : Int32 := w_dir g d * gd g d 7
def w_base (g : Nat → Int32) (d rs pl : Nat) : Int32 := w_bs g d / nI (rs + 1) + if nI pl < w_bs g d - w_bs g d / nI (rs + 1) * nI (rs + 1) then 1 else 0
set_option maxRecDepth 100000 in
set_option maxHeartbeats 4000000 in
theorem cn_X11_basePart {K : KX} {n : Nat} {h : MH} {h0 : MH} {m : Nat} {M : MS} (x : Md h0 m M h) {d rs pl : Nat} (hd : d < 8) (hrs : rs < 1000) : Con K mX11_basePart [.ref m, .int (nI d), .int (nI rs), .int (nI pl)] 0 0 n h (RetP (some (.int (w_base (gbrd M) d rs pl))) n (Md h0 m (M))) := by
  refine Con.of (by decide +kernel) (Nat.le_of_ble_eq_true rfl) ?_
  refine mj_aload_n 0 dX11_basePart_0 rfl ?_
  refine mj_iload_n 1 dX11_basePart_1 rfl ?_
  refine mj_cV1 [_] (RX11, TX11, 32) dX11_basePart_2 cwX11_directLength lkX11_102 x.ko rfl rfl rfl rfl (cn_X11_directLength x hd) ⟨Nat.le_of_ble_eq_true rfl, Nat.le_of_ble_eq_true rfl, Nat.le_of_ble_eq_true rfl, Nat.le_of_ble_eq_true rfl, Nat.le_of_ble_eq_true rfl⟩ (fun h x => ?_)
  refine mj_aload_n 0 dX11_basePart_5 rfl ?_
  refine mj_iload_n 1 dX11_basePart_6 rfl ?_
  refine mj_bipush (v := (7)) dX11_basePart_7 rfl ?_
  refine mj_cV1 [_, _] (RX11, TX11, 32) dX11_basePart_9 cwX11_driver lkX11_68 x.ko rfl rfl rfl rfl (cn_X11_driver x (d := d) (f := 7) hd (by decide)) ⟨Nat.le_of_ble_eq_true rfl, Nat.le_of_ble_eq_true rfl, Nat.le_of_ble_eq_true rfl, Nat.le_of_ble_eq_true rfl, Nat.le_of_ble_eq_true rfl⟩ (fun h x => ?_)
  refine mj_imul dX11_basePart_12 ?_
  refine mj_eq (y := w_bs (gbrd M) d) rfl ?_
  refine mj_istore (ls' := [(4, _), (0, _), (1, _), (2, _), (3, _)]) dX11_basePart_13 (Nat.le_of_ble_eq_true rfl) rfl ?_
  refine mj_iload 0 dX11_basePart_15 rfl ?_
  refine mj_iload_n 3 dX11_basePart_17 rfl ?_
  refine mj_iconst (v := 1) dX11_basePart_18 rfl ?_
  refine mj_iadd dX11_basePart_19 ?_
  refine mj_eq (nI_1 _) ?_
  refine mj_idiv dX11_basePart_20 (nI_nz (by omega)) ?_
  refine mj_iload_n 4 dX11_basePart_21 rfl ?_
  refine mj_iload 0 dX11_basePart_22 rfl ?_
  refine mj_iload_n 3 dX11_basePart_24 rfl ?_
  refine mj_iconst (v := 1) dX11_basePart_25 rfl ?_
  refine mj_iadd dX11_basePart_26 ?_
  refine mj_eq (nI_1 _) ?_
  refine mj_irem dX11_basePart_27 (nI_nz (by omega)) ?_
  refine mj_icmp_ge 35 dX11_basePart_28 (by decide) (fun c_28 => ?_) (fun c_28 => ?_)
  · refine mj_iconst (v := 0) dX11_basePart_35 rfl ?_
    refine mj_iadd dX11_basePart_36 ?_
    exact mj_iret dX11_basePart_37 rfl (Nat.le_of_ble_eq_true rfl) (Nat.le_of_ble_eq_true rfl) ⟨(by unfold w_base; rw [if_neg (Int32.not_lt.mpr c_28)]), rfl, x⟩
  · refine mj_iconst (v := 1) dX11_basePart_31 rfl ?_
    refine mj_goto 36 dX11_basePart_32 (by decide) ?_
    refine mj_iadd dX11_basePart_36 ?_
    exact mj_iret dX11_basePart_37 rfl (Nat.le_of_ble_eq_true rfl) (Nat.le_of_ble_eq_true rfl) ⟨(by unfold w_base; rw [if_pos (Int32.not_le.mp c_28)]), rfl, x⟩
def fw_wl (g : Nat → Int32) (d : Nat) (l : List Int32) : Nat → List Int32
  | 0 => []
  | k + 1 => if gr g k 7 = nI d then fw_wl g d l k ++ [w_marg g k d l] else fw_wl g d l k
def fw_sum (g : Nat → Int32) (d : Nat) (l : List Int32) : Nat → Int32
  | 0 => 0
  | k + 1 => if gr g k 7 = nI d then fw_sum g d l k + w_marg g k d l else fw_sum g d l k
def fw_pl (g : Nat → Int32) (d q : Nat) : Nat → Nat
  | 0 => 0
  | k + 1 => if gr g k 7 = nI d ∧ k = q then i_count (inP g d) k else fw_pl g d q k
theorem fw_wl_s (g : Nat → Int32) (d : Nat) (l : List Int32) (k : Nat) : fw_wl g d l (k + 1) = if gr g k 7 = nI d then fw_wl g d l k ++ [w_marg g k d l] else fw_wl g d l k := rfl
theorem fw_sum_s (g : Nat → Int32) (d : Nat) (l : List Int32) (k : Nat) : fw_sum g d l (k + 1) = if gr g k 7 = nI d then fw_sum g d l k + w_marg g k d l else fw_sum g d l k := rfl
theorem fw_wl_n (g : Nat → Int32) (d : Nat) (l : List Int32) : ∀ k, (fw_wl g d l k).length = i_count (inP g d) k
  | 0 => rfl
  | k + 1 => by
    have ih := fw_wl_n g d l k
    unfold fw_wl i_count
    by_cases c : gr g k 7 = nI d
    · rw [if_pos c, if_pos (show inP g d k = true from decide_eq_true c), List.length_append, ih]; rfl
    · rw [if_neg c, if_neg (show ¬ inP g d k = true by unfold inP; rw [decide_eq_false c]; decide), ih]; rfl
/-- the weights and their sum -/
def fw_fin (g : Nat → Int32) (d : Nat) (l : List Int32) (nr : Nat) : List Int32 × Int32 := if fw_sum g d l nr = 0 then (List.replicate (i_count (inP g d) nr) 1, nI (i_count (inP g d) nr)) else (fw_wl g d l nr, fw_sum g d l nr)
theorem fw_fin_n (g : Nat → Int32) (d : Nat) (l : List Int32) (nr : Nat) : (fw_fin g d l nr).1.length = i_count (inP g d) nr := by
  unfold fw_fin
  split
  · exact List.length_replicate
  · exact fw_wl_n g d l nr
/-- the weights stand in the fields -/
def Wts (M : MS) (w : List Int32 × Int32) : Prop := gws M = w.2 ∧ rowL (gwei M) w.1.length = w.1
def MsW (h0 : MH) (m : Nat) (M : MS) (w : List Int32 × Int32) (h : MH) : Prop := ∃ M', Md h0 m M' h ∧ Sc M M' ∧ Wts M' w
set_option maxRecDepth 100000 in
set_option maxHeartbeats 4000000 in
theorem cn_X11_findWeights {K : KX} {n : Nat} {h : MH} {h0 : MH} {m : Nat} {M : MS} (x : Md h0 m M h) {d q nr : Nat} {l : List Int32} (hd : d < 8) (hq : q < 20) (hnr : gbrd M 2 = nI nr) (h20 : nr ≤ 20) (hg : Rok (gbrd M) d l) : Con K mX11_findWeights [.ref m, .int (nI d), .int (nI q)] 0 0 n h (RetP (some (.int (nI (fw_pl (gbrd M) d q nr)))) n (MsW h0 m M (fw_fin (gbrd M) d l nr))) := by
  refine Con.of (by decide +kernel) (Nat.le_of_ble_eq_true rfl) ?_
  have hcnr := i_count_le (inP (gbrd M) d) nr
  have t114 : ∀ (M1 : MS) (h1 : MH) (j5 : Int32), Md h0 m M1 h1 → Sc M M1 → gws M1 = (fw_sum (gbrd M) d l nr) → rowL (gwei M1) (fw_fin (gbrd M) d l nr).1.length = (fw_fin (gbrd M) d l nr).1 → GG (K, mX11_findWeights, 0, 0, RetP (some (.int (nI (fw_pl (gbrd M) d q nr)))) n (MsW h0 m M (fw_fin (gbrd M) d l nr))) 0 0 114 [(5, .int (j5)), (4, .int (nI (fw_pl (gbrd M) d q nr))), (3, .int (nI (i_count (inP (gbrd M) d) nr))), (0, .ref m), (1, .int (nI d)), (2, .int (nI q))] [] n h1 := by
    intro M1 h1 j5 x sc hw hW
    refine mj_aload_n 3 dX11_findWeights_114 rfl ?_
    refine mj_aload_n 3 dX11_findWeights_115 rfl ?_
    refine mj_getf dX11_findWeights_116 fgX11_254 x.ko rfl ?_
    refine mj_eq (hw) ?_
    refine mj_if_ne 126 dX11_findWeights_119 (by decide) (fun c_119 => ?_) (fun c_119 => ?_)
    · refine mj_aload_n 3 dX11_findWeights_126 rfl ?_
      refine mj_getf dX11_findWeights_127 fgX11_254 x.ko rfl ?_
      refine mj_eq (hw) ?_
      refine mM_pws dX11_findWeights_130 fgX11_254 x (fun h x => ?_)
      refine mj_iload 1 dX11_findWeights_133 rfl ?_
      exact mj_iret dX11_findWeights_135 rfl (Nat.le_of_ble_eq_true rfl) (Nat.le_of_ble_eq_true rfl) ⟨rfl, rfl, _, x, sc.oF (k := 20) _ rfl, by unfold fw_fin; rw [if_neg c_119]; rfl, hW⟩
    · refine mj_iload_n 2 dX11_findWeights_122 rfl ?_
      refine mj_goto 130 dX11_findWeights_123 (by decide) ?_
      refine mM_pws dX11_findWeights_130 fgX11_254 x (fun h x => ?_)
      refine mj_iload 1 dX11_findWeights_133 rfl ?_
      exact mj_iret dX11_findWeights_135 rfl (Nat.le_of_ble_eq_true rfl) (Nat.le_of_ble_eq_true rfl) ⟨rfl, rfl, _, x, sc.oF (k := 20) _ rfl, by unfold fw_fin; rw [if_pos c_119]; rfl, hW⟩
  have t84 : ∀ (M1 : MS) (h1 : MH) (j5 : Int32), Md h0 m M1 h1 → Sc M M1 → gws M1 = (fw_sum (gbrd M) d l nr) → rowL (gwei M1) (fw_wl (gbrd M) d l nr).length = fw_wl (gbrd M) d l nr → GG (K, mX11_findWeights, 0, 0, RetP (some (.int (nI (fw_pl (gbrd M) d q nr)))) n (MsW h0 m M (fw_fin (gbrd M) d l nr))) 0 0 84 [(5, .int (j5)), (4, .int (nI (fw_pl (gbrd M) d q nr))), (3, .int (nI (i_count (inP (gbrd M) d) nr))), (0, .ref m), (1, .int (nI d)), (2, .int (nI q))] [] n h1 := by
    intro M1 h1 j5 x sc hw hW
    by_cases hs0 : (fw_sum (gbrd M) d l nr) = 0
    · have ones : ∀ (f : Nat) (j : Nat) (M1 : MS) (h1 : MH), j + f = i_count (inP (gbrd M) d) nr → Md h0 m M1 h1 → Sc M M1 → gws M1 = (fw_sum (gbrd M) d l nr) → rowL (gwei M1) j = List.replicate j 1 → GG (K, mX11_findWeights, 0, 0, RetP (some (.int (nI (fw_pl (gbrd M) d q nr)))) n (MsW h0 m M (fw_fin (gbrd M) d l nr))) 0 0 87 [(5, .int (nI j)), (4, .int (nI (fw_pl (gbrd M) d q nr))), (3, .int (nI (i_count (inP (gbrd M) d) nr))), (0, .ref m), (1, .int (nI d)), (2, .int (nI q))] [] n h1 := by
        intro f
        induction f with
        | zero =>
          intro j M1 h1 hj x sc hw hW
          refine mj_iload 0 dX11_findWeights_87 rfl ?_
          refine mj_iload_n 2 dX11_findWeights_89 rfl ?_
          refine mj_icmp_ge 114 dX11_findWeights_90 (by decide) (fun c_90 => ?_) (fun c_90 => ?_)
          · exact mj_ls [0, 1, 2, 3, 4, 5] rfl (t114 M1 _ _ x sc hw (by rw [fw_fin_n]; unfold fw_fin; rw [if_pos hs0, show i_count (inP (gbrd M) d) nr = j by omega]; exact hW))
          · exact absurd (nI_le (by omega) (by omega)) c_90
        | succ f ih =>
          intro j M1 h1 hj x sc hw hW
          refine mj_iload 0 dX11_findWeights_87 rfl ?_
          refine mj_iload_n 2 dX11_findWeights_89 rfl ?_
          refine mj_icmp_ge 114 dX11_findWeights_90 (by decide) (fun c_90 => ?_) (fun c_90 => ?_)
          · exact absurd c_90 (nI_ge (by omega) (by omega))
          · refine mj_aload_n 3 dX11_findWeights_93 rfl ?_
            refine mj_getf dX11_findWeights_94 fgX11_254 x.ko rfl ?_
            refine mj_eq (hw) ?_
            refine mj_if_ne 114 dX11_findWeights_97 (by decide) (fun c_97 => ?_) (fun c_97 => ?_)
            · exact absurd hs0 c_97
            · refine mj_aload_n 3 dX11_findWeights_100 rfl ?_
              refine mj_getf dX11_findWeights_101 fgX11_48 x.ko rfl ?_
              refine mj_iload 0 dX11_findWeights_104 rfl ?_
              refine mj_iconst (v := 1) dX11_findWeights_106 rfl ?_
              refine mM_awei x (ixn (by omega)) (show j < 20 by omega) dX11_findWeights_107 (fun h x => ?_)
              refine mj_iinc (ls' := [(5, _), (4, _), (3, _), (0, _), (1, _), (2, _)]) 0 dX11_findWeights_108 rfl (nI_s _) (Nat.le_of_ble_eq_true rfl) rfl ?_
              refine mj_goto 87 dX11_findWeights_111 (by decide) ?_
              exact mj_ls [0, 1, 2, 3, 4, 5] rfl (ih (j + 1) _ _ (by omega) x (sc.oA (k := 13) _ rfl) hw (by
                rw [rowL_s, List.replicate_succ', ← hW]
                refine congr (congrArg _ (rowL_c fun i hi => ?_)) (congrArg (fun z => [z]) (if_pos rfl))
                exact if_neg (by omega)))
      refine mj_iconst (v := 0) dX11_findWeights_84 rfl ?_
      refine mj_istore (ls' := [(5, _), (4, _), (3, _), (0, _), (1, _), (2, _)]) dX11_findWeights_85 (Nat.le_of_ble_eq_true rfl) rfl ?_
      exact mj_ls [0, 1, 2, 3, 4, 5] rfl (ones (i_count (inP (gbrd M) d) nr) 0 M1 _ (by omega) x sc hw rfl)
    · refine mj_iconst (v := 0) dX11_findWeights_84 rfl ?_
      refine mj_istore (ls' := [(5, _), (4, _), (3, _), (0, _), (1, _), (2, _)]) dX11_findWeights_85 (Nat.le_of_ble_eq_true rfl) rfl ?_
      refine mj_iload 0 dX11_findWeights_87 rfl ?_
      refine mj_iload_n 2 dX11_findWeights_89 rfl ?_
      refine mj_icmp_ge 114 dX11_findWeights_90 (by decide) (fun c_90 => ?_) (fun c_90 => ?_)
      · exact mj_ls [0, 1, 2, 3, 4, 5] rfl (t114 M1 _ _ x sc hw (by unfold fw_fin; rw [if_neg hs0]; exact hW))
      · refine mj_aload_n 3 dX11_findWeights_93 rfl ?_
        refine mj_getf dX11_findWeights_94 fgX11_254 x.ko rfl ?_
        refine mj_eq (hw) ?_
        refine mj_if_ne 114 dX11_findWeights_97 (by decide) (fun c_97 => ?_) (fun c_97 => ?_)
        · exact mj_ls [0, 1, 2, 3, 4, 5] rfl (t114 M1 _ _ x sc hw (by unfold fw_fin; rw [if_neg hs0]; exact hW))
        · exact absurd c_97 hs0
  have loop : ∀ (f : Nat) (k : Nat) (M1 : MS) (h1 : MH), k + f = nr → Md h0 m M1 h1 → Sc M M1 → gws M1 = fw_sum (gbrd M) d l k → rowL (gwei M1) (fw_wl (gbrd M) d l k).length = fw_wl (gbrd M) d l k → GG (K, mX11_findWeights, 0, 0, RetP (some (.int (nI (fw_pl (gbrd M) d q nr)))) n (MsW h0 m M (fw_fin (gbrd M) d l nr))) 0 0 13 [(5, .int (nI k)), (4, .int (nI (fw_pl (gbrd M) d q k))), (3, .int (nI (i_count (inP (gbrd M) d) k))), (0, .ref m), (1, .int (nI d)), (2, .int (nI q))] [] n h1 := by
    intro f
    induction f with
    | zero =>
      intro k M1 h1 hk x sc hw hW
      obtain rfl : k = nr := by omega
      refine mj_iload 0 dX11_findWeights_13 rfl ?_
      refine mj_aload_n 3 dX11_findWeights_15 rfl ?_
      refine mj_getf dX11_findWeights_16 fgX11_7 x.ko rfl ?_
      refine mj_iconst (v := 2) dX11_findWeights_19 rfl ?_
      refine mj_iald x.kbrd ((show (2 : Int32).toInt = ((2 : Nat) : Int) from rfl)) (by first | assumption | omega | decide) dX11_findWeights_20 ?_
      refine mj_eq ((congrFun sc.b _).trans hnr) ?_
      refine mj_icmp_ge 84 dX11_findWeights_21 (by decide) (fun c_21 => ?_) (fun c_21 => ?_)
      · exact mj_ls [0, 1, 2, 3, 4, 5] rfl (t84 M1 _ _ x sc hw hW)
      · exact absurd (nI_le (by omega) (by omega)) c_21
    | succ f ih =>
      intro k M1 h1 hk x sc hw hW
      have hck := i_count_le (inP (gbrd M) d) k
      have hcn := fw_wl_n (gbrd M) d l k
      refine mj_iload 0 dX11_findWeights_13 rfl ?_
      refine mj_aload_n 3 dX11_findWeights_15 rfl ?_
      refine mj_getf dX11_findWeights_16 fgX11_7 x.ko rfl ?_
      refine mj_iconst (v := 2) dX11_findWeights_19 rfl ?_
      refine mj_iald x.kbrd ((show (2 : Int32).toInt = ((2 : Nat) : Int) from rfl)) (by first | assumption | omega | decide) dX11_findWeights_20 ?_
      refine mj_eq ((congrFun sc.b _).trans hnr) ?_
      refine mj_icmp_ge 84 dX11_findWeights_21 (by decide) (fun c_21 => ?_) (fun c_21 => ?_)
      · exact absurd c_21 (nI_ge (by omega) (by omega))
      · refine mj_aload_n 3 dX11_findWeights_24 rfl ?_
        refine mj_iload 0 dX11_findWeights_25 rfl ?_
        refine mj_iload_n 4 dX11_findWeights_27 rfl ?_
        refine mj_cV1 [_, _] (RX11, TX11, 32) dX11_findWeights_28 cwX11_isIn lkX11_115 x.ko rfl rfl rfl rfl (cn_X11_isIn x (r := k) (by omega)) ⟨Nat.le_of_ble_eq_true rfl, Nat.le_of_ble_eq_true rfl, Nat.le_of_ble_eq_true rfl, Nat.le_of_ble_eq_true rfl, Nat.le_of_ble_eq_true rfl⟩ (fun h x => ?_)
        refine mj_eq (congrArg (fun z => bI (decide (z = nI d))) (congrFun sc.b _)) ?_
        refine mj_if_eq 78 dX11_findWeights_31 (by decide) (fun c_31 => ?_) (fun c_31 => ?_)
        · have z : ¬ gr (gbrd M) k 7 = nI d := of_decide_eq_false (bI_0.mp c_31)
          refine mj_iinc (ls' := [(5, _), (4, _), (3, _), (0, _), (1, _), (2, _)]) 0 dX11_findWeights_78 rfl (nI_s _) (Nat.le_of_ble_eq_true rfl) rfl ?_
          refine mj_goto 13 dX11_findWeights_81 (by decide) ?_
          exact mj_ls [0, 1, 2, 3, 4, 5] rfl (by
            have q9 := ih (k + 1) _ _ (by omega) x sc (by rw [fw_sum_s, if_neg z]; exact hw) (by rw [fw_wl_s, if_neg z]; exact hW)
            rw [show i_count (inP (gbrd M) d) (k + 1) = i_count (inP (gbrd M) d) k by rw [i_count_s, if_neg (show ¬ inP (gbrd M) d k = true by unfold inP; rw [decide_eq_false z]; decide)]; rfl, show fw_pl (gbrd M) d q (k + 1) = fw_pl (gbrd M) d q k from if_neg (fun e => z e.1)] at q9
            exact q9)
        · have z : gr (gbrd M) k 7 = nI d := of_decide_eq_true (bI_n0.mp c_31)
          have hcs : i_count (inP (gbrd M) d) (k + 1) = i_count (inP (gbrd M) d) k + 1 := by rw [i_count_s, if_pos (show inP (gbrd M) d k = true from decide_eq_true z)]
          refine mj_iload 0 dX11_findWeights_34 rfl ?_
          refine mj_iload_n 5 dX11_findWeights_36 rfl ?_
          refine mj_icmp_ne 44 dX11_findWeights_37 (by decide) (fun c_37 => ?_) (fun c_37 => ?_)
          · have zq : ¬ k = q := fun e => c_37 (by rw [e])
            refine mj_iload 1 dX11_findWeights_44 rfl ?_
            refine mj_istore (ls' := [(4, _), (5, _), (3, _), (0, _), (1, _), (2, _)]) dX11_findWeights_46 (Nat.le_of_ble_eq_true rfl) rfl ?_
            refine mj_aload_n 3 dX11_findWeights_48 rfl ?_
            refine mj_getf dX11_findWeights_49 fgX11_48 x.ko rfl ?_
            refine mj_iload_n 2 dX11_findWeights_52 rfl ?_
            refine mj_aload_n 3 dX11_findWeights_53 rfl ?_
            refine mj_iload 1 dX11_findWeights_54 rfl ?_
            refine mj_cV1 [_] (RX11, TX11, 32) dX11_findWeights_56 cwX11_marginalOf lkX11_251 x.ko rfl rfl rfl rfl (cn_X11_marginalOf x (r := k) (by omega) hd (by rw [sc.b]; exact hg) ((congrFun sc.b _).trans z)) ⟨Nat.le_of_ble_eq_true rfl, Nat.le_of_ble_eq_true rfl, Nat.le_of_ble_eq_true rfl, Nat.le_of_ble_eq_true rfl, Nat.le_of_ble_eq_true rfl⟩ (fun h x => ?_)
            refine mj_eq ((show w_marg (gbrd M1) k d l = w_marg (gbrd M) k d l by rw [show gbrd M1 = gbrd M from sc.b])) ?_
            obtain ⟨M2, x, sr⟩ := x
            refine mM_awei x (ixn (by omega)) (show i_count (inP (gbrd M) d) k < 20 by omega) dX11_findWeights_59 (fun h x => ?_)
            refine mj_aload_n 3 dX11_findWeights_60 rfl ?_
            refine mj_dup dX11_findWeights_61 rfl ?_
            refine mj_getf dX11_findWeights_62 fgX11_254 x.ko rfl ?_
            refine mj_eq ((sr.f 20 rfl).trans hw) ?_
            refine mj_aload_n 3 dX11_findWeights_65 rfl ?_
            refine mj_getf dX11_findWeights_66 fgX11_48 x.ko rfl ?_
            refine mj_iload_n 2 dX11_findWeights_69 rfl ?_
            refine mj_iald x.kwei (ixn (by omega)) (show i_count (inP (gbrd M) d) k < 20 by omega) dX11_findWeights_70 ?_
            refine mj_eq ((show upd (gwei M2) (i_count (inP (gbrd M) d) k) (w_marg (gbrd M) k d l) (i_count (inP (gbrd M) d) k) = w_marg (gbrd M) k d l from if_pos rfl)) ?_
            refine mj_iadd dX11_findWeights_71 ?_
            refine mM_pws dX11_findWeights_72 fgX11_254 x (fun h x => ?_)
            refine mj_iinc (ls' := [(3, _), (4, _), (5, _), (0, _), (1, _), (2, _)]) 2 dX11_findWeights_75 rfl (nI_s _) (Nat.le_of_ble_eq_true rfl) rfl ?_
            refine mj_iinc (ls' := [(5, _), (3, _), (4, _), (0, _), (1, _), (2, _)]) 2 dX11_findWeights_78 rfl (nI_s _) (Nat.le_of_ble_eq_true rfl) rfl ?_
            refine mj_goto 13 dX11_findWeights_81 (by decide) ?_
            exact mj_ls [0, 2, 1, 3, 4, 5] rfl (by
              have q9 := ih (k + 1) _ _ (by omega) x (((sc.tr sr.up).oA (k := 13) _ rfl).oF (k := 20) _ rfl) (by rw [fw_sum_s, if_pos z]; rfl) (by
                have hWW : fw_wl (gbrd M) d l (k + 1) = fw_wl (gbrd M) d l k ++ [w_marg (gbrd M) k d l] := if_pos z
                rw [hWW, List.length_append]
                show rowL (upd (gwei M2) (i_count (inP (gbrd M) d) k) (w_marg (gbrd M) k d l)) ((fw_wl (gbrd M) d l k).length + 1) = _
                rw [rowL_s, ← hcn]
                refine congr (congrArg _ ?_) (congrArg (fun z => [z]) (if_pos (by rw [hcn])))
                rw [← hW]
                rw [hW]
                have e5 : gwei M2 = gwei M1 := sr.a 13 rfl
                conv => rhs; rw [← hW]
                exact rowL_c fun i hi => by rw [e5]; exact if_neg (by omega))
              rw [hcs, show fw_pl (gbrd M) d q (k + 1) = fw_pl (gbrd M) d q k from if_neg (fun e => zq e.2)] at q9
              exact q9)
          · have zq : k = q := (nI_inj (by omega) (by omega)).mp c_37
            refine mj_iload_n 2 dX11_findWeights_40 rfl ?_
            refine mj_goto 46 dX11_findWeights_41 (by decide) ?_
            refine mj_istore (ls' := [(4, _), (5, _), (3, _), (0, _), (1, _), (2, _)]) dX11_findWeights_46 (Nat.le_of_ble_eq_true rfl) rfl ?_
            refine mj_aload_n 3 dX11_findWeights_48 rfl ?_
            refine mj_getf dX11_findWeights_49 fgX11_48 x.ko rfl ?_
            refine mj_iload_n 2 dX11_findWeights_52 rfl ?_
            refine mj_aload_n 3 dX11_findWeights_53 rfl ?_
            refine mj_iload 1 dX11_findWeights_54 rfl ?_
            refine mj_cV1 [_] (RX11, TX11, 32) dX11_findWeights_56 cwX11_marginalOf lkX11_251 x.ko rfl rfl rfl rfl (cn_X11_marginalOf x (r := k) (by omega) hd (by rw [sc.b]; exact hg) ((congrFun sc.b _).trans z)) ⟨Nat.le_of_ble_eq_true rfl, Nat.le_of_ble_eq_true rfl, Nat.le_of_ble_eq_true rfl, Nat.le_of_ble_eq_true rfl, Nat.le_of_ble_eq_true rfl⟩ (fun h x => ?_)
            refine mj_eq ((show w_marg (gbrd M1) k d l = w_marg (gbrd M) k d l by rw [show gbrd M1 = gbrd M from sc.b])) ?_
            obtain ⟨M2, x, sr⟩ := x
            refine mM_awei x (ixn (by omega)) (show i_count (inP (gbrd M) d) k < 20 by omega) dX11_findWeights_59 (fun h x => ?_)
            refine mj_aload_n 3 dX11_findWeights_60 rfl ?_
            refine mj_dup dX11_findWeights_61 rfl ?_
            refine mj_getf dX11_findWeights_62 fgX11_254 x.ko rfl ?_
            refine mj_eq ((sr.f 20 rfl).trans hw) ?_
            refine mj_aload_n 3 dX11_findWeights_65 rfl ?_
            refine mj_getf dX11_findWeights_66 fgX11_48 x.ko rfl ?_
            refine mj_iload_n 2 dX11_findWeights_69 rfl ?_
            refine mj_iald x.kwei (ixn (by omega)) (show i_count (inP (gbrd M) d) k < 20 by omega) dX11_findWeights_70 ?_
            refine mj_eq ((show upd (gwei M2) (i_count (inP (gbrd M) d) k) (w_marg (gbrd M) k d l) (i_count (inP (gbrd M) d) k) = w_marg (gbrd M) k d l from if_pos rfl)) ?_
            refine mj_iadd dX11_findWeights_71 ?_
            refine mM_pws dX11_findWeights_72 fgX11_254 x (fun h x => ?_)
            refine mj_iinc (ls' := [(3, _), (4, _), (5, _), (0, _), (1, _), (2, _)]) 2 dX11_findWeights_75 rfl (nI_s _) (Nat.le_of_ble_eq_true rfl) rfl ?_
            refine mj_iinc (ls' := [(5, _), (3, _), (4, _), (0, _), (1, _), (2, _)]) 2 dX11_findWeights_78 rfl (nI_s _) (Nat.le_of_ble_eq_true rfl) rfl ?_
            refine mj_goto 13 dX11_findWeights_81 (by decide) ?_
            exact mj_ls [0, 2, 1, 3, 4, 5] rfl (by
              have q9 := ih (k + 1) _ _ (by omega) x (((sc.tr sr.up).oA (k := 13) _ rfl).oF (k := 20) _ rfl) (by rw [fw_sum_s, if_pos z]; rfl) (by
                have hWW : fw_wl (gbrd M) d l (k + 1) = fw_wl (gbrd M) d l k ++ [w_marg (gbrd M) k d l] := if_pos z
                rw [hWW, List.length_append]
                show rowL (upd (gwei M2) (i_count (inP (gbrd M) d) k) (w_marg (gbrd M) k d l)) ((fw_wl (gbrd M) d l k).length + 1) = _
                rw [rowL_s, ← hcn]
                refine congr (congrArg _ ?_) (congrArg (fun z => [z]) (if_pos (by rw [hcn])))
                rw [← hW]
                rw [hW]
                have e5 : gwei M2 = gwei M1 := sr.a 13 rfl
                conv => rhs; rw [← hW]
                exact rowL_c fun i hi => by rw [e5]; exact if_neg (by omega))
              rw [hcs, show fw_pl (gbrd M) d q (k + 1) = i_count (inP (gbrd M) d) k from if_pos ⟨z, zq⟩] at q9
              exact q9)
  refine mj_iconst (v := 0) dX11_findWeights_0 rfl ?_
  refine mj_istore_n (ls' := [(3, _), (0, _), (1, _), (2, _)]) dX11_findWeights_1 (Nat.le_of_ble_eq_true rfl) rfl ?_
  refine mj_iconst (v := 0) dX11_findWeights_2 rfl ?_
  refine mj_istore (ls' := [(4, _), (3, _), (0, _), (1, _), (2, _)]) dX11_findWeights_3 (Nat.le_of_ble_eq_true rfl) rfl ?_
  refine mj_aload_n 2 dX11_findWeights_5 rfl ?_
  refine mj_iconst (v := 0) dX11_findWeights_6 rfl ?_
  refine mM_pws dX11_findWeights_7 fgX11_254 x (fun h x => ?_)
  refine mj_iconst (v := 0) dX11_findWeights_10 rfl ?_
  refine mj_istore (ls' := [(5, _), (4, _), (3, _), (0, _), (1, _), (2, _)]) dX11_findWeights_11 (Nat.le_of_ble_eq_true rfl) rfl ?_
  exact mj_ls [0, 1, 2, 3, 4, 5] rfl (loop nr 0 _ h (by omega) x (Scg.rf.oF (k := 20) _ rfl) rfl rfl)
