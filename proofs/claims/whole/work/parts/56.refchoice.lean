theorem i_first_s (P : Nat → Bool) (f k : Nat) : i_first P (f + 1) k = if P k then nI k else i_first P f (k + 1) := rfl
def d_P (c : Nat → Int64) (r o : Nat) : Bool := c_ahead (c (8 + o)) o (c (8 + r)) r
def d_Q (c : Nat → Int64) (nr : Nat) (pl : Int32) (r : Nat) : Bool := decide (nI (i_count (d_P c r) nr) = pl)
def w_dbt (c : Nat → Int64) (nr : Nat) (pl : Int32) : Int32 := i_first (d_Q c nr pl) nr 0
set_option maxRecDepth 100000 in
set_option maxHeartbeats 4000000 in
theorem cs_debtor {K : KX} {n : Nat} {h : MH} {h0 : MH} {m : Nat} {M : MS} (x : Ms h0 m M h) {pl : Int32} {nr : Nat} (hnr : gbrd M 2 = nI nr) (h20 : nr ≤ 20) : Con K mX11_debtor [.ref m, .int pl] 0 0 n h (RetP (some (.int (w_dbt (gcrd M) nr pl))) n (Ms h0 m (sthr M 0))) := by
  refine Con.of (by decide +kernel) (Nat.le_of_ble_eq_true rfl) ?_
  refine mj_aload_n 0 dX11_debtor_0 rfl ?_
  refine mj_iconst (v := 0) dX11_debtor_1 rfl ?_
  refine mS_pthr dX11_debtor_2 fgX11_61 x (fun h x => ?_)
  refine mj_iconst (v := 0) dX11_debtor_5 rfl ?_
  refine mj_istore_n (ls' := [(2, _), (0, _), (1, _)]) dX11_debtor_6 (Nat.le_of_ble_eq_true rfl) rfl ?_
  have outer : ∀ (f : Nat) (k : Nat), k + f = nr → w_dbt (gcrd M) nr pl = i_first (d_Q (gcrd M) nr pl) f k → GG (K, mX11_debtor, 0, 0, RetP (some (.int (w_dbt (gcrd M) nr pl))) n (Ms h0 m (sthr M 0))) 0 0 7 [(2, .int (nI k)), (0, .ref m), (1, .int pl)] [] n h := by
    intro f
    induction f with
    | zero =>
      intro k hk hv
      refine mj_iload_n 0 dX11_debtor_7 rfl ?_
      refine mj_aload_n 1 dX11_debtor_8 rfl ?_
      refine mS_gbrd dX11_debtor_9 fgX11_7 x ?_
      refine mj_iconst (v := 2) dX11_debtor_12 rfl ?_
      refine mS_lbrd x ((show (2 : Int32).toInt = ((2 : Nat) : Int) from rfl)) (by first | assumption | omega | decide) dX11_debtor_13 ?_
      refine mj_eq (hnr) ?_
      refine mj_icmp_ge 105 dX11_debtor_14 (by decide) (fun c_14 => ?_) (fun c_14 => ?_)
      · refine mj_iconst (v := (-1)) dX11_debtor_105 rfl ?_
        exact mj_iret dX11_debtor_106 rfl (Nat.le_of_ble_eq_true rfl) (Nat.le_of_ble_eq_true rfl) ⟨(by rw [hv]; rfl), rfl, x⟩
      · exact absurd (nI_le (by omega) (by omega)) c_14
    | succ f ih =>
      intro k hk hv
      have ihO : w_dbt (gcrd M) nr pl = i_first (d_Q (gcrd M) nr pl) f (k + 1) → GG (K, mX11_debtor, 0, 0, RetP (some (.int (w_dbt (gcrd M) nr pl))) n (Ms h0 m (sthr M 0))) 0 0 7 [(2, .int (nI (k + 1))), (0, .ref m), (1, .int pl)] [] n h := fun q => ih (k + 1) (by omega) q
      have inner : ∀ (f : Nat) (o : Nat), o + f = nr → GG (K, mX11_debtor, 0, 0, RetP (some (.int (w_dbt (gcrd M) nr pl))) n (Ms h0 m (sthr M 0))) 0 0 22 [(4, .int (nI o)), (3, .int (nI (i_count (d_P (gcrd M) k) o))), (2, .int (nI k)), (0, .ref m), (1, .int pl)] [] n h := by
        intro f
        induction f with
        | zero =>
          intro o hk
          obtain rfl : o = nr := by omega
          refine mj_iload 0 dX11_debtor_22 rfl ?_
          refine mj_aload_n 3 dX11_debtor_24 rfl ?_
          refine mS_gbrd dX11_debtor_25 fgX11_7 x ?_
          refine mj_iconst (v := 2) dX11_debtor_28 rfl ?_
          refine mS_lbrd x ((show (2 : Int32).toInt = ((2 : Nat) : Int) from rfl)) (by first | assumption | omega | decide) dX11_debtor_29 ?_
          refine mj_eq (hnr) ?_
          refine mj_icmp_ge 92 dX11_debtor_30 (by decide) (fun c_30 => ?_) (fun c_30 => ?_)
          · refine mj_iload_n 1 dX11_debtor_92 rfl ?_
            refine mj_iload_n 4 dX11_debtor_93 rfl ?_
            refine mj_icmp_ne 99 dX11_debtor_94 (by decide) (fun c_94 => ?_) (fun c_94 => ?_)
            · refine mj_iinc (ls' := [(2, _), (4, _), (3, _), (0, _), (1, _)]) 2 dX11_debtor_99 rfl (nI_s _) (Nat.le_of_ble_eq_true rfl) rfl ?_
              refine mj_goto 7 dX11_debtor_102 (by decide) ?_
              exact mj_ls [0, 3, 4] rfl (ihO (by rw [hv, i_first_s, if_neg (by rw [show d_Q (gcrd M) o pl k = false from decide_eq_false c_94]; decide)]))
            · refine mj_iload_n 2 dX11_debtor_97 rfl ?_
              exact mj_iret dX11_debtor_98 rfl (Nat.le_of_ble_eq_true rfl) (Nat.le_of_ble_eq_true rfl) ⟨(by rw [hv, i_first_s, if_pos (show d_Q (gcrd M) o pl k = true from decide_eq_true c_94)]), rfl, x⟩
          · exact absurd (nI_le (by omega) (by omega)) c_30
        | succ f ih =>
          intro o hk
          refine mj_iload 0 dX11_debtor_22 rfl ?_
          refine mj_aload_n 3 dX11_debtor_24 rfl ?_
          refine mS_gbrd dX11_debtor_25 fgX11_7 x ?_
          refine mj_iconst (v := 2) dX11_debtor_28 rfl ?_
          refine mS_lbrd x ((show (2 : Int32).toInt = ((2 : Nat) : Int) from rfl)) (by first | assumption | omega | decide) dX11_debtor_29 ?_
          refine mj_eq (hnr) ?_
          refine mj_icmp_ge 92 dX11_debtor_30 (by decide) (fun c_30 => ?_) (fun c_30 => ?_)
          · exact absurd c_30 (nI_ge (by omega) (by omega))
          · refine mj_aload_n 3 dX11_debtor_33 rfl ?_
            refine mS_gcrd dX11_debtor_34 fgX11_19 x ?_
            refine mj_bipush (v := (8)) dX11_debtor_37 rfl ?_
            refine mj_iload 0 dX11_debtor_39 rfl ?_
            refine mj_iadd dX11_debtor_41 ?_
            refine mS_lcrd x (ix_crd (by omega)) (by first | assumption | omega | decide) dX11_debtor_42 ?_
            refine mj_lstore (ls' := [(5, _), (4, _), (3, _), (2, _), (0, _), (1, _)]) dX11_debtor_43 (Nat.le_of_ble_eq_true rfl) rfl ?_
            refine mj_aload_n 4 dX11_debtor_45 rfl ?_
            refine mS_gcrd dX11_debtor_46 fgX11_19 x ?_
            refine mj_bipush (v := (8)) dX11_debtor_49 rfl ?_
            refine mj_iload_n 3 dX11_debtor_51 rfl ?_
            refine mj_iadd dX11_debtor_52 ?_
            refine mS_lcrd x (ix_crd (by omega)) (by first | assumption | omega | decide) dX11_debtor_53 ?_
            refine mj_lstore (ls' := [(7, _), (5, _), (4, _), (3, _), (2, _), (0, _), (1, _)]) dX11_debtor_54 (Nat.le_of_ble_eq_true rfl) rfl ?_
            refine mj_iload_n 3 dX11_debtor_56 rfl ?_
            refine mj_lload 1 dX11_debtor_57 rfl ?_
            refine mj_lload 0 dX11_debtor_59 rfl ?_
            refine mj_lcmp dX11_debtor_61 ?_
            refine mj_if_lt 79 dX11_debtor_62 (by decide) (fun c_62 => ?_) (fun c_62 => ?_)
            · have y1 : gcrd M (8 + o) < gcrd M (8 + k) := lgc_lt.mp c_62
              refine mj_iconst (v := 1) dX11_debtor_79 rfl ?_
              refine mj_goto 84 dX11_debtor_80 (by decide) ?_
              refine mj_iadd dX11_debtor_84 ?_
              refine mj_istore_n (ls' := [(3, _), (7, _), (5, _), (4, _), (2, _), (0, _), (1, _)]) dX11_debtor_85 (Nat.le_of_ble_eq_true rfl) rfl ?_
              refine mj_iinc (ls' := [(4, _), (3, _), (7, _), (5, _), (2, _), (0, _), (1, _)]) 3 dX11_debtor_86 rfl (nI_s _) (Nat.le_of_ble_eq_true rfl) rfl ?_
              refine mj_goto 22 dX11_debtor_89 (by decide) ?_
              exact mj_ls [0, 1, 4, 5, 6] rfl (by
                have q9 := ih (o + 1) (by omega)
                rw [show i_count (d_P (gcrd M) k) (o + 1) = i_count (d_P (gcrd M) k) o + 1 by rw [i_count_s, if_pos (by show c_ahead _ _ _ _ = true; unfold c_ahead; rw [decide_eq_true y1]; rfl)], ← nI_1 (i_count (d_P (gcrd M) k) o)] at q9
                exact q9)
            · have y1 : ¬ gcrd M (8 + o) < gcrd M (8 + k) := fun z => c_62 (lgc_lt.mpr z)
              refine mj_lload 1 dX11_debtor_65 rfl ?_
              refine mj_lload 0 dX11_debtor_67 rfl ?_
              refine mj_lcmp dX11_debtor_69 ?_
              refine mj_if_ne 83 dX11_debtor_70 (by decide) (fun c_70 => ?_) (fun c_70 => ?_)
              · have y2 : ¬ gcrd M (8 + o) = gcrd M (8 + k) := fun z => c_70 (lgc_eq.mpr z)
                refine mj_iconst (v := 0) dX11_debtor_83 rfl ?_
                refine mj_iadd dX11_debtor_84 ?_
                refine mj_istore_n (ls' := [(3, _), (7, _), (5, _), (4, _), (2, _), (0, _), (1, _)]) dX11_debtor_85 (Nat.le_of_ble_eq_true rfl) rfl ?_
                refine mj_iinc (ls' := [(4, _), (3, _), (7, _), (5, _), (2, _), (0, _), (1, _)]) 3 dX11_debtor_86 rfl (nI_s _) (Nat.le_of_ble_eq_true rfl) rfl ?_
                refine mj_goto 22 dX11_debtor_89 (by decide) ?_
                exact mj_ls [0, 1, 4, 5, 6] rfl (by
                  have q9 := ih (o + 1) (by omega)
                  rw [show i_count (d_P (gcrd M) k) (o + 1) = i_count (d_P (gcrd M) k) o by rw [i_count_s, if_neg (by show ¬ c_ahead _ _ _ _ = true; unfold c_ahead; rw [decide_eq_false y1, decide_eq_false y2, Bool.false_and]; decide)]; rfl, ← Int32.add_zero (nI (i_count (d_P (gcrd M) k) o))] at q9
                  exact q9)
              · have y2 : gcrd M (8 + o) = gcrd M (8 + k) := lgc_eq.mp c_70
                refine mj_iload 2 dX11_debtor_73 rfl ?_
                refine mj_iload_n 4 dX11_debtor_75 rfl ?_
                refine mj_icmp_ge 83 dX11_debtor_76 (by decide) (fun c_76 => ?_) (fun c_76 => ?_)
                · have y3 : ¬ o < k := fun z => nI_ge z (by omega) c_76
                  refine mj_iconst (v := 0) dX11_debtor_83 rfl ?_
                  refine mj_iadd dX11_debtor_84 ?_
                  refine mj_istore_n (ls' := [(3, _), (7, _), (5, _), (4, _), (2, _), (0, _), (1, _)]) dX11_debtor_85 (Nat.le_of_ble_eq_true rfl) rfl ?_
                  refine mj_iinc (ls' := [(4, _), (3, _), (7, _), (5, _), (2, _), (0, _), (1, _)]) 3 dX11_debtor_86 rfl (nI_s _) (Nat.le_of_ble_eq_true rfl) rfl ?_
                  refine mj_goto 22 dX11_debtor_89 (by decide) ?_
                  exact mj_ls [0, 1, 4, 5, 6] rfl (by
                    have q9 := ih (o + 1) (by omega)
                    rw [show i_count (d_P (gcrd M) k) (o + 1) = i_count (d_P (gcrd M) k) o by rw [i_count_s, if_neg (by show ¬ c_ahead _ _ _ _ = true; unfold c_ahead; rw [decide_eq_false y1, decide_eq_false y3, Bool.and_false]; decide)]; rfl, ← Int32.add_zero (nI (i_count (d_P (gcrd M) k) o))] at q9
                    exact q9)
                · have y3 : o < k := Nat.lt_of_not_le fun z => c_76 (nI_le z (by omega))
                  refine mj_iconst (v := 1) dX11_debtor_79 rfl ?_
                  refine mj_goto 84 dX11_debtor_80 (by decide) ?_
                  refine mj_iadd dX11_debtor_84 ?_
                  refine mj_istore_n (ls' := [(3, _), (7, _), (5, _), (4, _), (2, _), (0, _), (1, _)]) dX11_debtor_85 (Nat.le_of_ble_eq_true rfl) rfl ?_
                  refine mj_iinc (ls' := [(4, _), (3, _), (7, _), (5, _), (2, _), (0, _), (1, _)]) 3 dX11_debtor_86 rfl (nI_s _) (Nat.le_of_ble_eq_true rfl) rfl ?_
                  refine mj_goto 22 dX11_debtor_89 (by decide) ?_
                  exact mj_ls [0, 1, 4, 5, 6] rfl (by
                    have q9 := ih (o + 1) (by omega)
                    rw [show i_count (d_P (gcrd M) k) (o + 1) = i_count (d_P (gcrd M) k) o + 1 by rw [i_count_s, if_pos (by show c_ahead _ _ _ _ = true; unfold c_ahead; rw [decide_eq_true y2, decide_eq_true y3, Bool.and_true, Bool.or_true])], ← nI_1 (i_count (d_P (gcrd M) k) o)] at q9
                    exact q9)
      refine mj_iload_n 0 dX11_debtor_7 rfl ?_
      refine mj_aload_n 1 dX11_debtor_8 rfl ?_
      refine mS_gbrd dX11_debtor_9 fgX11_7 x ?_
      refine mj_iconst (v := 2) dX11_debtor_12 rfl ?_
      refine mS_lbrd x ((show (2 : Int32).toInt = ((2 : Nat) : Int) from rfl)) (by first | assumption | omega | decide) dX11_debtor_13 ?_
      refine mj_eq (hnr) ?_
      refine mj_icmp_ge 105 dX11_debtor_14 (by decide) (fun c_14 => ?_) (fun c_14 => ?_)
      · exact absurd c_14 (nI_ge (by omega) (by omega))
      · refine mj_iconst (v := 0) dX11_debtor_17 rfl ?_
        refine mj_istore_n (ls' := [(3, _), (2, _), (0, _), (1, _)]) dX11_debtor_18 (Nat.le_of_ble_eq_true rfl) rfl ?_
        refine mj_iconst (v := 0) dX11_debtor_19 rfl ?_
        refine mj_istore (ls' := [(4, _), (3, _), (2, _), (0, _), (1, _)]) dX11_debtor_20 (Nat.le_of_ble_eq_true rfl) rfl ?_
        exact mj_ls [0, 1, 2, 3, 4] rfl (inner nr 0 (by omega))
  exact mj_ls [0, 1, 2] rfl (outer nr 0 (by omega) rfl)
set_option maxRecDepth 100000 in
set_option maxHeartbeats 4000000 in
theorem cn_X11_commonDivisor {K : KX} {n : Nat} {h : MH} {a0 b0 : Nat} (ha : a0 < 2147483648) (hb : b0 < 2147483648) : Con K mX11_commonDivisor [.int (nI a0), .int (nI b0)] 0 0 n h (Ret (some (.int (nI (Nat.gcd a0 b0)))) n h) := by
  refine Con.of (by decide +kernel) (Nat.le_of_ble_eq_true rfl) ?_
  have loop : ∀ (f a b : Nat), b ≤ f → a < 2147483648 → b < 2147483648 → Nat.gcd a0 b0 = Nat.gcd a b → GG (K, mX11_commonDivisor, 0, 0, Ret (some (.int (nI (Nat.gcd a0 b0)))) n h) 0 0 4 [(3, .int (nI b)), (2, .int (nI a)), (0, .int (nI a0)), (1, .int (nI b0))] [] n h := by
    intro f
    induction f with
    | zero =>
      intro a b hf ha hb hg
      obtain rfl : b = 0 := by omega
      refine mj_iload_n 0 dX11_commonDivisor_4 rfl ?_
      refine mj_if_eq 21 dX11_commonDivisor_5 (by decide) (fun c_5 => ?_) (fun c_5 => ?_)
      · refine mj_iload_n 1 dX11_commonDivisor_21 rfl ?_
        exact mj_iret dX11_commonDivisor_22 rfl (Nat.le_of_ble_eq_true rfl) (Nat.le_of_ble_eq_true rfl) ⟨(by rw [hg, Nat.gcd_zero_right]), rfl, rfl⟩
      · exact absurd (show nI 0 = 0 from rfl) c_5
    | succ f ih =>
      intro a b hf ha hb hg
      by_cases hz : b = 0
      · subst hz
        refine mj_iload_n 0 dX11_commonDivisor_4 rfl ?_
        refine mj_if_eq 21 dX11_commonDivisor_5 (by decide) (fun c_5 => ?_) (fun c_5 => ?_)
        · refine mj_iload_n 1 dX11_commonDivisor_21 rfl ?_
          exact mj_iret dX11_commonDivisor_22 rfl (Nat.le_of_ble_eq_true rfl) (Nat.le_of_ble_eq_true rfl) ⟨(by rw [hg, Nat.gcd_zero_right]), rfl, rfl⟩
        · exact absurd (show nI 0 = 0 from rfl) c_5
      · refine mj_iload_n 0 dX11_commonDivisor_4 rfl ?_
        refine mj_if_eq 21 dX11_commonDivisor_5 (by decide) (fun c_5 => ?_) (fun c_5 => ?_)
        · exact absurd c_5 (nI_ne0 (by omega) (by omega))
        · refine mj_iload_n 1 dX11_commonDivisor_8 rfl ?_
          refine mj_iload_n 0 dX11_commonDivisor_9 rfl ?_
          refine mj_irem dX11_commonDivisor_10 (nI_ne0 (by omega) (by omega)) ?_
          refine mj_eq (pk_rem ha (by omega) hb) ?_
          refine mj_istore (ls' := [(4, _), (3, _), (2, _), (0, _), (1, _)]) dX11_commonDivisor_11 (Nat.le_of_ble_eq_true rfl) rfl ?_
          refine mj_iload_n 1 dX11_commonDivisor_13 rfl ?_
          refine mj_istore_n (ls' := [(2, _), (4, _), (3, _), (0, _), (1, _)]) dX11_commonDivisor_14 (Nat.le_of_ble_eq_true rfl) rfl ?_
          refine mj_iload 1 dX11_commonDivisor_15 rfl ?_
          refine mj_istore_n (ls' := [(3, _), (2, _), (4, _), (0, _), (1, _)]) dX11_commonDivisor_17 (Nat.le_of_ble_eq_true rfl) rfl ?_
          refine mj_goto 4 dX11_commonDivisor_18 (by decide) ?_
          exact mj_ls [0, 1, 3, 4] rfl (ih b (a % b) (by have := Nat.mod_lt a (show 0 < b by omega); omega) hb (by have := Nat.mod_lt a (show 0 < b by omega); omega) (by rw [hg, Nat.gcd_comm a b, Nat.gcd_rec b a, Nat.gcd_comm]))
  refine mj_iload_n 0 dX11_commonDivisor_0 rfl ?_
  refine mj_istore_n (ls' := [(2, _), (0, _), (1, _)]) dX11_commonDivisor_1 (Nat.le_of_ble_eq_true rfl) rfl ?_
  refine mj_iload_n 2 dX11_commonDivisor_2 rfl ?_
  refine mj_istore_n (ls' := [(3, _), (2, _), (0, _), (1, _)]) dX11_commonDivisor_3 (Nat.le_of_ble_eq_true rfl) rfl ?_
  exact mj_ls [0, 1, 2, 3] rfl (loop b0 a0 b0 (Nat.le_refl _) ha hb rfl)
def md_s (g : Nat → Int32) (δ : Nat → Nat) : Nat → Nat
  | 0 => 0
  | k + 1 => if 0 < gd g k 9 then md_s g δ k + δ k else md_s g δ k
def md_c (g : Nat → Int32) : Nat → Nat
  | 0 => 0
  | k + 1 => if 0 < gd g k 9 then md_c g k + 1 else md_c g k
theorem md_c_le (g : Nat → Int32) : ∀ k, md_c g k ≤ k
  | 0 => Nat.le_refl 0
  | k + 1 => by have := md_c_le g k; show (if 0 < gd g k 9 then md_c g k + 1 else md_c g k) ≤ _; split <;> omega
theorem md_s_le (g : Nat → Int32) (δ : Nat → Nat) : ∀ k, (∀ d, d < k → δ d ≤ 100000) → md_s g δ k ≤ 100000 * k
  | 0, _ => Nat.le_refl 0
  | k + 1, h => by
    have := md_s_le g δ k (fun d hd => h d (by omega))
    have := h k (by omega)
    show (if 0 < gd g k 9 then md_s g δ k + δ k else md_s g δ k) ≤ _
    split <;> omega
theorem md_s0 (g : Nat → Int32) (δ : Nat → Nat) : ∀ k, ¬ md_s g δ k = 0 → 0 < md_c g k
  | 0, h => absurd rfl h
  | k + 1, h => by
    revert h
    show ¬ (if 0 < gd g k 9 then md_s g δ k + δ k else md_s g δ k) = 0 → 0 < (if 0 < gd g k 9 then md_c g k + 1 else md_c g k)
    split
    · intro _; omega
    · exact md_s0 g δ k
/-- the mean's numerator or denominator -/
def w_mean (g : Nat → Int32) (δ : Nat → Nat) (nd : Nat) (b : Bool) : Int32 := if md_s g δ nd = 0 then (if b then 0 else 1) else nI ((if b then md_s g δ nd else md_c g nd) / Nat.gcd (md_s g δ nd) (md_c g nd))
set_option maxRecDepth 100000 in
set_option maxHeartbeats 4000000 in
theorem cs_meanDetour {K : KX} {n : Nat} {h : MH} {h0 : MH} {m : Nat} {M : MS} (x : Ms h0 m M h) {L : Nat → List Int32} {δ : Nat → Nat} {nd : Nat} (hnd : gbrd M 1 = nI nd) (h8 : nd ≤ 8) (hL : ∀ d, d < nd → Rok (gbrd M) d (L d)) (hδ : ∀ d, d < nd → w_len (gbrd M) d (L d) - w_dir (gbrd M) d = nI (δ d) ∧ δ d ≤ 100000) {b : Bool} : Con K mX11_meanDetour [.ref m, .int (bI b)] 0 0 n h (RetP (some (.int (w_mean (gbrd M) δ nd b))) n (Ms h0 m M)) := by
  refine Con.of (by decide +kernel) (Nat.le_of_ble_eq_true rfl) ?_
  have loop : ∀ (f : Nat) (k : Nat) (h1 : MH), k + f = nd → Ms h0 m M h1 → GG (K, mX11_meanDetour, 0, 0, RetP (some (.int (w_mean (gbrd M) δ nd b))) n (Ms h0 m M)) 0 0 7 [(4, .int (nI k)), (3, .int (nI (md_c (gbrd M) k))), (2, .int (nI (md_s (gbrd M) δ k))), (0, .ref m), (1, .int (bI b))] [] n h1 := by
    intro f
    induction f with
    | zero =>
      intro k h1 hk x
      obtain rfl : k = nd := by omega
      have hs := md_s_le (gbrd M) δ k (fun d hd => (hδ d hd).2)
      have hc := md_c_le (gbrd M) k
      have hc0 := md_s0 (gbrd M) δ k
      refine mj_iload 0 dX11_meanDetour_7 rfl ?_
      refine mj_aload_n 3 dX11_meanDetour_9 rfl ?_
      refine mS_gbrd dX11_meanDetour_10 fgX11_7 x ?_
      refine mj_iconst (v := 1) dX11_meanDetour_13 rfl ?_
      refine mS_lbrd x ((show (1 : Int32).toInt = ((1 : Nat) : Int) from rfl)) (by first | assumption | omega | decide) dX11_meanDetour_14 ?_
      refine mj_eq (hnd) ?_
      refine mj_icmp_ge 54 dX11_meanDetour_15 (by decide) (fun c_15 => ?_) (fun c_15 => ?_)
      · refine mj_iload_n 2 dX11_meanDetour_54 rfl ?_
        refine mj_if_ne 68 dX11_meanDetour_55 (by decide) (fun c_55 => ?_) (fun c_55 => ?_)
        · have hz : ¬ md_s (gbrd M) δ k = 0 := fun z => c_55 (by rw [z]; rfl)
          have hcp := hc0 hz
          have hg := Nat.gcd_pos_of_pos_right (md_s (gbrd M) δ k) hcp
          have hg2 := Nat.gcd_le_right (md_s (gbrd M) δ k) hcp
          refine mj_iload_n 4 dX11_meanDetour_68 rfl ?_
          refine mj_if_eq 76 dX11_meanDetour_69 (by decide) (fun c_69 => ?_) (fun c_69 => ?_)
          · have hbf := bI_0.mp c_69
            refine mj_iload_n 1 dX11_meanDetour_76 rfl ?_
            refine mj_iload_n 2 dX11_meanDetour_77 rfl ?_
            refine mj_iload_n 1 dX11_meanDetour_78 rfl ?_
            refine mj_cS1 [_, _] dX11_meanDetour_79 cwX11_commonDivisor lkX11_270 rfl (cn_X11_commonDivisor (by omega) (by omega)) ⟨Nat.le_of_ble_eq_true rfl, Nat.le_of_ble_eq_true rfl, Nat.le_of_ble_eq_true rfl, Nat.le_of_ble_eq_true rfl, Nat.le_of_ble_eq_true rfl⟩ (fun h' e' => ?_)
            subst h'
            refine mj_idiv dX11_meanDetour_82 (nI_ne0 (by omega) (by omega)) ?_
            refine mj_eq (pk_div (by omega) (by omega) (by omega)) ?_
            exact mj_iret dX11_meanDetour_83 rfl (Nat.le_of_ble_eq_true rfl) (Nat.le_of_ble_eq_true rfl) ⟨(by unfold w_mean; rw [if_neg hz, if_neg (by rw [hbf]; decide)]), rfl, x⟩
          · have hbt := bI_n0.mp c_69
            refine mj_iload_n 2 dX11_meanDetour_72 rfl ?_
            refine mj_goto 77 dX11_meanDetour_73 (by decide) ?_
            refine mj_iload_n 2 dX11_meanDetour_77 rfl ?_
            refine mj_iload_n 1 dX11_meanDetour_78 rfl ?_
            refine mj_cS1 [_, _] dX11_meanDetour_79 cwX11_commonDivisor lkX11_270 rfl (cn_X11_commonDivisor (by omega) (by omega)) ⟨Nat.le_of_ble_eq_true rfl, Nat.le_of_ble_eq_true rfl, Nat.le_of_ble_eq_true rfl, Nat.le_of_ble_eq_true rfl, Nat.le_of_ble_eq_true rfl⟩ (fun h' e' => ?_)
            subst h'
            refine mj_idiv dX11_meanDetour_82 (nI_ne0 (by omega) (by omega)) ?_
            refine mj_eq (pk_div (by omega) (by omega) (by omega)) ?_
            exact mj_iret dX11_meanDetour_83 rfl (Nat.le_of_ble_eq_true rfl) (Nat.le_of_ble_eq_true rfl) ⟨(by unfold w_mean; rw [if_neg hz, if_pos hbt]), rfl, x⟩
        · have hz : md_s (gbrd M) δ k = 0 := (nI_inj (by omega) (by omega)).mp (show nI (md_s (gbrd M) δ k) = nI 0 from c_55)
          refine mj_iload_n 4 dX11_meanDetour_58 rfl ?_
          refine mj_if_eq 66 dX11_meanDetour_59 (by decide) (fun c_59 => ?_) (fun c_59 => ?_)
          · have hbf := bI_0.mp c_59
            refine mj_iconst (v := 1) dX11_meanDetour_66 rfl ?_
            exact mj_iret dX11_meanDetour_67 rfl (Nat.le_of_ble_eq_true rfl) (Nat.le_of_ble_eq_true rfl) ⟨(by unfold w_mean; rw [if_pos hz, if_neg (by rw [hbf]; decide)]), rfl, x⟩
          · have hbt := bI_n0.mp c_59
            refine mj_iconst (v := 0) dX11_meanDetour_62 rfl ?_
            refine mj_goto 67 dX11_meanDetour_63 (by decide) ?_
            exact mj_iret dX11_meanDetour_67 rfl (Nat.le_of_ble_eq_true rfl) (Nat.le_of_ble_eq_true rfl) ⟨(by unfold w_mean; rw [if_pos hz, if_pos hbt]), rfl, x⟩
      · exact absurd (nI_le (by omega) (by omega)) c_15
    | succ f ih =>
      intro k h1 hk x
      refine mj_iload 0 dX11_meanDetour_7 rfl ?_
      refine mj_aload_n 3 dX11_meanDetour_9 rfl ?_
      refine mS_gbrd dX11_meanDetour_10 fgX11_7 x ?_
      refine mj_iconst (v := 1) dX11_meanDetour_13 rfl ?_
      refine mS_lbrd x ((show (1 : Int32).toInt = ((1 : Nat) : Int) from rfl)) (by first | assumption | omega | decide) dX11_meanDetour_14 ?_
      refine mj_eq (hnd) ?_
      refine mj_icmp_ge 54 dX11_meanDetour_15 (by decide) (fun c_15 => ?_) (fun c_15 => ?_)
      · exact absurd c_15 (nI_ge (by omega) (by omega))
      · refine mj_aload_n 3 dX11_meanDetour_18 rfl ?_
        refine mj_iload 0 dX11_meanDetour_19 rfl ?_
        refine mj_bipush (v := (9)) dX11_meanDetour_21 rfl ?_
        refine mS_cV1 x [_, _] dX11_meanDetour_23 cwX11_driver lkX11_68 rfl rfl rfl (cs_driver x (d := k) (f := 9) (by omega) (by decide)) ⟨Nat.le_of_ble_eq_true rfl, Nat.le_of_ble_eq_true rfl, Nat.le_of_ble_eq_true rfl, Nat.le_of_ble_eq_true rfl, Nat.le_of_ble_eq_true rfl⟩ (fun h x => ?_)
        refine mj_if_le 48 dX11_meanDetour_26 (by decide) (fun c_26 => ?_) (fun c_26 => ?_)
        · have hz : ¬ 0 < gd (gbrd M) k 9 := Int32.not_lt.mpr c_26
          refine mj_iinc (ls' := [(4, _), (3, _), (2, _), (0, _), (1, _)]) 0 dX11_meanDetour_48 rfl (nI_s _) (Nat.le_of_ble_eq_true rfl) rfl ?_
          refine mj_goto 7 dX11_meanDetour_51 (by decide) ?_
          exact mj_ls [0, 1, 2, 3, 4] rfl (by
            have q9 := ih (k + 1) h (by omega) x
            rw [show md_s (gbrd M) δ (k + 1) = md_s (gbrd M) δ k from if_neg hz, show md_c (gbrd M) (k + 1) = md_c (gbrd M) k from if_neg hz] at q9
            exact q9)
        · have hz : 0 < gd (gbrd M) k 9 := Int32.not_le.mp c_26
          refine mj_iload_n 2 dX11_meanDetour_29 rfl ?_
          refine mj_aload_n 3 dX11_meanDetour_30 rfl ?_
          refine mj_iload 0 dX11_meanDetour_31 rfl ?_
          refine mS_cV1 x [_] dX11_meanDetour_33 cwX11_lengthOf lkX11_163 rfl rfl rfl (cs_lengthOf x (d := k) (by omega) (hL k (by omega))) ⟨Nat.le_of_ble_eq_true rfl, Nat.le_of_ble_eq_true rfl, Nat.le_of_ble_eq_true rfl, Nat.le_of_ble_eq_true rfl, Nat.le_of_ble_eq_true rfl⟩ (fun h x => ?_)
          refine mj_aload_n 3 dX11_meanDetour_36 rfl ?_
          refine mj_iload 0 dX11_meanDetour_37 rfl ?_
          refine mS_cV1 x [_] dX11_meanDetour_39 cwX11_directLength lkX11_102 rfl rfl rfl (cs_directLength x (d := k) (by omega)) ⟨Nat.le_of_ble_eq_true rfl, Nat.le_of_ble_eq_true rfl, Nat.le_of_ble_eq_true rfl, Nat.le_of_ble_eq_true rfl, Nat.le_of_ble_eq_true rfl⟩ (fun h x => ?_)
          refine mj_isub dX11_meanDetour_42 ?_
          refine mj_eq ((hδ k (by omega)).1) ?_
          refine mj_iadd dX11_meanDetour_43 ?_
          refine mj_eq (nI_add _ _) ?_
          refine mj_istore_n (ls' := [(2, _), (4, _), (3, _), (0, _), (1, _)]) dX11_meanDetour_44 (Nat.le_of_ble_eq_true rfl) rfl ?_
          refine mj_iinc (ls' := [(3, _), (2, _), (4, _), (0, _), (1, _)]) 2 dX11_meanDetour_45 rfl (nI_s _) (Nat.le_of_ble_eq_true rfl) rfl ?_
          refine mj_iinc (ls' := [(4, _), (3, _), (2, _), (0, _), (1, _)]) 2 dX11_meanDetour_48 rfl (nI_s _) (Nat.le_of_ble_eq_true rfl) rfl ?_
          refine mj_goto 7 dX11_meanDetour_51 (by decide) ?_
          exact mj_ls [0, 1, 2, 3, 4] rfl (by
            have q9 := ih (k + 1) h (by omega) x
            rw [show md_s (gbrd M) δ (k + 1) = md_s (gbrd M) δ k + δ k from if_pos hz, show md_c (gbrd M) (k + 1) = md_c (gbrd M) k + 1 from if_pos hz] at q9
            exact q9)
  refine mj_iconst (v := 0) dX11_meanDetour_0 rfl ?_
  refine mj_istore_n (ls' := [(2, _), (0, _), (1, _)]) dX11_meanDetour_1 (Nat.le_of_ble_eq_true rfl) rfl ?_
  refine mj_iconst (v := 0) dX11_meanDetour_2 rfl ?_
  refine mj_istore_n (ls' := [(3, _), (2, _), (0, _), (1, _)]) dX11_meanDetour_3 (Nat.le_of_ble_eq_true rfl) rfl ?_
  refine mj_iconst (v := 0) dX11_meanDetour_4 rfl ?_
  refine mj_istore (ls' := [(4, _), (3, _), (2, _), (0, _), (1, _)]) dX11_meanDetour_5 (Nat.le_of_ble_eq_true rfl) rfl ?_
  exact mj_ls [0, 1, 2, 3, 4] rfl (loop nd 0 h (by omega) x)
set_option maxRecDepth 100000 in
set_option maxHeartbeats 4000000 in
theorem cs_meanDetourNumerator {K : KX} {n : Nat} {h : MH} {h0 : MH} {m : Nat} {M : MS} (x : Ms h0 m M h) {L : Nat → List Int32} {δ : Nat → Nat} {nd : Nat} (hnd : gbrd M 1 = nI nd) (h8 : nd ≤ 8) (hL : ∀ d, d < nd → Rok (gbrd M) d (L d)) (hδ : ∀ d, d < nd → w_len (gbrd M) d (L d) - w_dir (gbrd M) d = nI (δ d) ∧ δ d ≤ 100000) : Con K mX11_meanDetourNumerator [.ref m] 0 0 n h (RetP (some (.int (w_mean (gbrd M) δ nd true))) n (Ms h0 m (sthr M 0))) := by
  refine Con.of (by decide +kernel) (Nat.le_of_ble_eq_true rfl) ?_
  refine mj_aload_n 0 dX11_meanDetourNumerator_0 rfl ?_
  refine mj_iconst (v := 0) dX11_meanDetourNumerator_1 rfl ?_
  refine mS_pthr dX11_meanDetourNumerator_2 fgX11_61 x (fun h x => ?_)
  refine mj_aload_n 0 dX11_meanDetourNumerator_5 rfl ?_
  refine mj_iconst (v := 1) dX11_meanDetourNumerator_6 rfl ?_
  refine mS_cV1 x [_] dX11_meanDetourNumerator_7 cwX11_meanDetour lkX11_273 rfl rfl rfl (cs_meanDetour x (L := L) (δ := δ) (b := true) hnd h8 hL hδ) ⟨Nat.le_of_ble_eq_true rfl, Nat.le_of_ble_eq_true rfl, Nat.le_of_ble_eq_true rfl, Nat.le_of_ble_eq_true rfl, Nat.le_of_ble_eq_true rfl⟩ (fun h x => ?_)
  exact mj_iret dX11_meanDetourNumerator_10 rfl (Nat.le_of_ble_eq_true rfl) (Nat.le_of_ble_eq_true rfl) ⟨rfl, rfl, x⟩
set_option maxRecDepth 100000 in
set_option maxHeartbeats 4000000 in
theorem cs_meanDetourDenominator {K : KX} {n : Nat} {h : MH} {h0 : MH} {m : Nat} {M : MS} (x : Ms h0 m M h) {L : Nat → List Int32} {δ : Nat → Nat} {nd : Nat} (hnd : gbrd M 1 = nI nd) (h8 : nd ≤ 8) (hL : ∀ d, d < nd → Rok (gbrd M) d (L d)) (hδ : ∀ d, d < nd → w_len (gbrd M) d (L d) - w_dir (gbrd M) d = nI (δ d) ∧ δ d ≤ 100000) : Con K mX11_meanDetourDenominator [.ref m] 0 0 n h (RetP (some (.int (w_mean (gbrd M) δ nd false))) n (Ms h0 m (sthr M 0))) := by
  refine Con.of (by decide +kernel) (Nat.le_of_ble_eq_true rfl) ?_
  refine mj_aload_n 0 dX11_meanDetourDenominator_0 rfl ?_
  refine mj_iconst (v := 0) dX11_meanDetourDenominator_1 rfl ?_
  refine mS_pthr dX11_meanDetourDenominator_2 fgX11_61 x (fun h x => ?_)
  refine mj_aload_n 0 dX11_meanDetourDenominator_5 rfl ?_
  refine mj_iconst (v := 0) dX11_meanDetourDenominator_6 rfl ?_
  refine mS_cV1 x [_] dX11_meanDetourDenominator_7 cwX11_meanDetour lkX11_273 rfl rfl rfl (cs_meanDetour x (L := L) (δ := δ) (b := false) hnd h8 hL hδ) ⟨Nat.le_of_ble_eq_true rfl, Nat.le_of_ble_eq_true rfl, Nat.le_of_ble_eq_true rfl, Nat.le_of_ble_eq_true rfl, Nat.le_of_ble_eq_true rfl⟩ (fun h x => ?_)
  exact mj_iret dX11_meanDetourDenominator_10 rfl (Nat.le_of_ble_eq_true rfl) (Nat.le_of_ble_eq_true rfl) ⟨rfl, rfl, x⟩
def w_sol (g : Nat → Int32) (r d : Nat) : Int32 := if gd g d 8 = 0 then w_solo g r d else 1000000000
def SolU (g : Nat → Int32) (nd k l : Nat) (S : Nat → Int32) : Prop := (∀ r d, r < k → d < nd → S (8 * r + d) = w_sol g r d) ∧ ∀ d, d < l → S (8 * k + d) = w_sol g k d
def SolW (g : Nat → Int32) (nr nd : Nat) (S : Nat → Int32) : Prop := ∀ r d, r < nr → d < nd → S (8 * r + d) = w_sol g r d
theorem SolU.st {g : Nat → Int32} {nd k l : Nat} {S : Nat → Int32} (h : SolU g nd k l S) (h8 : nd ≤ 8) (hl : l < nd) : SolU g nd k (l + 1) (upd S (8 * k + l) (w_sol g k l)) := by
  refine ⟨fun r d hr hd => ?_, fun d hd => ?_⟩
  · unfold upd
    rw [if_neg (by omega)]
    exact h.1 r d hr hd
  · unfold upd
    by_cases e : d = l
    · subst e; rw [if_pos rfl]
    · rw [if_neg (by omega)]
      exact h.2 d (by omega)
theorem SolU.nx {g : Nat → Int32} {nd k : Nat} {S : Nat → Int32} (h : SolU g nd k nd S) : SolU g nd (k + 1) 0 S := by
  refine ⟨fun r d hr hd => ?_, fun d hd => absurd hd (Nat.not_lt_zero _)⟩
  by_cases e : r = k
  · subst e; exact h.2 d hd
  · exact h.1 r d (by omega) hd
theorem ssol_ss (M : MS) (S S' : Nat → Int32) : ssol (ssol M S) S' = ssol M S' := by
  show (_, _, vf_upd (vf_upd (mA M) 10 S) 10 S', _) = (_, _, vf_upd (mA M) 10 S', _)
  rw [vf_ss]
  rfl
theorem ssol_id (M : MS) : ssol M (gsol M) = M := by
  show (_, _, vf_upd (mA M) 10 (mA M 10), _) = M
  rw [vf_id]
def MsS (h0 : MH) (m : Nat) (M : MS) (nr nd : Nat) (h : MH) : Prop := ∃ S, SolW (gbrd M) nr nd S ∧ Ms h0 m (ssol M S) h
set_option maxRecDepth 100000 in
set_option maxHeartbeats 4000000 in
theorem cs_findSolos {K : KX} {n : Nat} {h : MH} {h0 : MH} {m : Nat} {M : MS} (x : Ms h0 m M h) {nr : Nat} (hnr : gbrd M 2 = nI nr) (h20 : nr ≤ 20) {nd : Nat} (hnd : gbrd M 1 = nI nd) (h8 : nd ≤ 8) : Con K mX11_findSolos [.ref m] 0 0 n h (RetP none n (MsS h0 m M nr nd)) := by
  refine Con.of (by decide +kernel) (Nat.le_of_ble_eq_true rfl) ?_
  have outer : ∀ (f : Nat) (k : Nat) (S : Nat → Int32) (h1 : MH), k + f = nr → SolU (gbrd M) nd k 0 S → Ms h0 m (ssol M S) h1 → GG (K, mX11_findSolos, 0, 0, RetP none n (MsS h0 m M nr nd)) 0 0 2 [(1, .int (nI k)), (0, .ref m)] [] n h1 := by
    intro f
    induction f with
    | zero =>
      intro k S h1 hk hS x
      refine mj_iload_n 0 dX11_findSolos_2 rfl ?_
      refine mj_aload_n 1 dX11_findSolos_3 rfl ?_
      refine mS_gbrd dX11_findSolos_4 fgX11_7 x ?_
      refine mj_iconst (v := 2) dX11_findSolos_7 rfl ?_
      refine mS_lbrd x ((show (2 : Int32).toInt = ((2 : Nat) : Int) from rfl)) (by first | assumption | omega | decide) dX11_findSolos_8 ?_
      refine mj_eq (hnr) ?_
      refine mj_icmp_ge 66 dX11_findSolos_9 (by decide) (fun c_9 => ?_) (fun c_9 => ?_)
      · exact mj_vret dX11_findSolos_66 rfl (Nat.le_of_ble_eq_true rfl) (Nat.le_of_ble_eq_true rfl) ⟨rfl, rfl, ⟨S, fun r d hr hd => hS.1 r d (by omega) hd, x⟩⟩
      · exact absurd (nI_le (by omega) (by omega)) c_9
    | succ f ih =>
      intro k S h1 hk hS x
      have ihO : ∀ (S : Nat → Int32) (h1 : MH), SolU (gbrd M) nd (k + 1) 0 S → Ms h0 m (ssol M S) h1 → GG (K, mX11_findSolos, 0, 0, RetP none n (MsS h0 m M nr nd)) 0 0 2 [(1, .int (nI (k + 1))), (0, .ref m)] [] n h1 := fun S h1 hS x => ih (k + 1) S h1 (by omega) hS x
      have inner : ∀ (f : Nat) (l : Nat) (S : Nat → Int32) (h1 : MH), l + f = nd → SolU (gbrd M) nd k l S → Ms h0 m (ssol M S) h1 → GG (K, mX11_findSolos, 0, 0, RetP none n (MsS h0 m M nr nd)) 0 0 14 [(2, .int (nI l)), (1, .int (nI k)), (0, .ref m)] [] n h1 := by
        intro f
        induction f with
        | zero =>
          intro l S h1 hk hS x
          obtain rfl : l = nd := by omega
          refine mj_iload_n 0 dX11_findSolos_14 rfl ?_
          refine mj_aload_n 2 dX11_findSolos_15 rfl ?_
          refine mS_gbrd dX11_findSolos_16 fgX11_7 x ?_
          refine mj_iconst (v := 1) dX11_findSolos_19 rfl ?_
          refine mS_lbrd x ((show (1 : Int32).toInt = ((1 : Nat) : Int) from rfl)) (by first | assumption | omega | decide) dX11_findSolos_20 ?_
          refine mj_eq (hnd) ?_
          refine mj_icmp_ge 60 dX11_findSolos_21 (by decide) (fun c_21 => ?_) (fun c_21 => ?_)
          · refine mj_iinc (ls' := [(1, _), (2, _), (0, _)]) 1 dX11_findSolos_60 rfl (nI_s _) (Nat.le_of_ble_eq_true rfl) rfl ?_
            refine mj_goto 2 dX11_findSolos_63 (by decide) ?_
            exact mj_ls [0, 2] rfl (ihO S _ hS.nx x)
          · exact absurd (nI_le (by omega) (by omega)) c_21
        | succ f ih =>
          intro l S h1 hk hS x
          refine mj_iload_n 0 dX11_findSolos_14 rfl ?_
          refine mj_aload_n 2 dX11_findSolos_15 rfl ?_
          refine mS_gbrd dX11_findSolos_16 fgX11_7 x ?_
          refine mj_iconst (v := 1) dX11_findSolos_19 rfl ?_
          refine mS_lbrd x ((show (1 : Int32).toInt = ((1 : Nat) : Int) from rfl)) (by first | assumption | omega | decide) dX11_findSolos_20 ?_
          refine mj_eq (hnd) ?_
          refine mj_icmp_ge 60 dX11_findSolos_21 (by decide) (fun c_21 => ?_) (fun c_21 => ?_)
          · exact absurd c_21 (nI_ge (by omega) (by omega))
          · refine mj_aload_n 2 dX11_findSolos_24 rfl ?_
            refine mS_gsol dX11_findSolos_25 fgX11_39 x ?_
            refine mj_bipush (v := (8)) dX11_findSolos_28 rfl ?_
            refine mj_iload_n 1 dX11_findSolos_30 rfl ?_
            refine mj_imul dX11_findSolos_31 ?_
            refine mj_iload_n 0 dX11_findSolos_32 rfl ?_
            refine mj_iadd dX11_findSolos_33 ?_
            refine mj_aload_n 2 dX11_findSolos_34 rfl ?_
            refine mj_iload_n 0 dX11_findSolos_35 rfl ?_
            refine mS_cV1 x [_] dX11_findSolos_36 cwX11_isOpen lkX11_95 rfl rfl rfl (cs_isOpen x (d := l) (by omega)) ⟨Nat.le_of_ble_eq_true rfl, Nat.le_of_ble_eq_true rfl, Nat.le_of_ble_eq_true rfl, Nat.le_of_ble_eq_true rfl, Nat.le_of_ble_eq_true rfl⟩ (fun h x => ?_)
            refine mj_if_eq 51 dX11_findSolos_39 (by decide) (fun c_39 => ?_) (fun c_39 => ?_)
            · have fe : w_sol (gbrd M) k l = 1000000000 := if_neg (of_decide_eq_false (bI_0.mp c_39))
              refine mj_ldc dX11_findSolos_51 ctX11_166 ?_
              refine mS_asol x (ix_sol (by omega) (by omega)) (by first | assumption | omega | decide) dX11_findSolos_53 (fun h x => ?_)
              refine mj_iinc (ls' := [(2, _), (1, _), (0, _)]) 0 dX11_findSolos_54 rfl (nI_s _) (Nat.le_of_ble_eq_true rfl) rfl ?_
              refine mj_goto 14 dX11_findSolos_57 (by decide) ?_
              exact mj_ls [0, 1, 2] rfl (by
                rw [ssol_ss] at x
                have q9 := ih (l + 1) _ h (by omega) (hS.st h8 (by omega)) (by rw [fe]; exact x)
                exact q9)
            · have fe : w_sol (gbrd M) k l = w_solo (gbrd M) k l := if_pos (of_decide_eq_true (bI_n0.mp c_39))
              refine mj_aload_n 2 dX11_findSolos_42 rfl ?_
              refine mj_iload_n 1 dX11_findSolos_43 rfl ?_
              refine mj_iload_n 0 dX11_findSolos_44 rfl ?_
              refine mS_cV1 x [_, _] dX11_findSolos_45 cwX11_soloOf lkX11_188 rfl rfl rfl (cs_soloOf x (r := k) (d := l) (by omega) (by omega)) ⟨Nat.le_of_ble_eq_true rfl, Nat.le_of_ble_eq_true rfl, Nat.le_of_ble_eq_true rfl, Nat.le_of_ble_eq_true rfl, Nat.le_of_ble_eq_true rfl⟩ (fun h x => ?_)
              refine mj_goto 53 dX11_findSolos_48 (by decide) ?_
              refine mS_asol x (ix_sol (by omega) (by omega)) (by first | assumption | omega | decide) dX11_findSolos_53 (fun h x => ?_)
              refine mj_iinc (ls' := [(2, _), (1, _), (0, _)]) 0 dX11_findSolos_54 rfl (nI_s _) (Nat.le_of_ble_eq_true rfl) rfl ?_
              refine mj_goto 14 dX11_findSolos_57 (by decide) ?_
              exact mj_ls [0, 1, 2] rfl (by
                rw [ssol_ss] at x
                have q9 := ih (l + 1) _ h (by omega) (hS.st h8 (by omega)) (by rw [fe]; exact x)
                exact q9)
      refine mj_iload_n 0 dX11_findSolos_2 rfl ?_
      refine mj_aload_n 1 dX11_findSolos_3 rfl ?_
      refine mS_gbrd dX11_findSolos_4 fgX11_7 x ?_
      refine mj_iconst (v := 2) dX11_findSolos_7 rfl ?_
      refine mS_lbrd x ((show (2 : Int32).toInt = ((2 : Nat) : Int) from rfl)) (by first | assumption | omega | decide) dX11_findSolos_8 ?_
      refine mj_eq (hnr) ?_
      refine mj_icmp_ge 66 dX11_findSolos_9 (by decide) (fun c_9 => ?_) (fun c_9 => ?_)
      · exact absurd c_9 (nI_ge (by omega) (by omega))
      · refine mj_iconst (v := 0) dX11_findSolos_12 rfl ?_
        refine mj_istore_n (ls' := [(2, _), (1, _), (0, _)]) dX11_findSolos_13 (Nat.le_of_ble_eq_true rfl) rfl ?_
        exact mj_ls [0, 1, 2] rfl (inner nd 0 S _ (by omega) hS x)
  refine mj_iconst (v := 0) dX11_findSolos_0 rfl ?_
  refine mj_istore_n (ls' := [(1, _), (0, _)]) dX11_findSolos_1 (Nat.le_of_ble_eq_true rfl) rfl ?_
  exact mj_ls [0, 1] rfl (outer nr 0 (gsol M) h (by omega) ⟨fun r d hr hd => absurd hr (Nat.not_lt_zero _), fun d hd => absurd hd (Nat.not_lt_zero _)⟩ (by rw [ssol_id]; exact x))
