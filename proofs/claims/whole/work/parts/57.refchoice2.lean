def u_fit (S : Nat → Int32) (r d : Nat) : Bool := decide (S (8 * r + d) < 1000000000)
def u_pr (g S : Nat → Int32) (r d : Nat) : Int32 := S (8 * r + d) * gd g d 7
def u_ld (g S : Nat → Int32) (r d e : Nat) : Bool := if u_pr g S r d = u_pr g S r e then decide (d < e) else decide (u_pr g S r d < u_pr g S r e)
def u_lr (c : Nat → Int64) (S : Nat → Int32) (d r q : Nat) : Bool := if S (8 * r + d) = S (8 * q + d) then c_more c r q else decide (S (8 * r + d) < S (8 * q + d))
def u_ch (g S : Nat → Int32) (d r : Nat) : Bool := (decide (gr g r 6 = 0) || decide (gr g r 6 = 1)) && u_fit S r d
def rc_P (g S : Nat → Int32) (r d e : Nat) : Bool := !decide (e = d) && (u_fit S r d && (u_fit S r e && u_ld g S r e d))
def rc_Q (g S : Nat → Int32) (r nd : Nat) (pl : Int32) (d : Nat) : Bool := u_fit S r d && decide (nI (i_count (rc_P g S r d) nd) = pl)
def w_rch (g S : Nat → Int32) (r nd : Nat) (pl : Int32) : Int32 := i_first (rc_Q g S r nd pl) nd 0
def dc_P (g : Nat → Int32) (c : Nat → Int64) (S : Nat → Int32) (d r q : Nat) : Bool := !decide (q = r) && (u_ch g S d r && (u_ch g S d q && u_lr c S d q r))
def dc_Q (g : Nat → Int32) (c : Nat → Int64) (S : Nat → Int32) (d nr : Nat) (pl : Int32) (r : Nat) : Bool := u_ch g S d r && decide (nI (i_count (dc_P g c S d r) nr) = pl)
def w_dch (g : Nat → Int32) (c : Nat → Int64) (S : Nat → Int32) (d nr : Nat) (pl : Int32) : Int32 := i_first (dc_Q g c S d nr pl) nr 0
set_option maxRecDepth 100000 in
set_option maxHeartbeats 4000000 in
theorem cs_riderChoice_no {K : KX} {n : Nat} {h : MH} {h0 : MH} {m : Nat} {M : MS} (x : Ms h0 m M h) {i : Int32} (hb : b_in i 0 (gbrd M 2 - 1) = false) {pl : Int32} : Con K mX11_riderChoice [.ref m, .int i, .int pl] 0 0 n h (RetP (some (.int (0))) n (Ms h0 m (sthr M 1))) := by
  refine Con.of (by decide +kernel) (Nat.le_of_ble_eq_true rfl) ?_
  refine mj_aload_n 0 dX11_riderChoice_0 rfl ?_
  refine mj_iconst (v := 0) dX11_riderChoice_1 rfl ?_
  refine mS_pthr dX11_riderChoice_2 fgX11_61 x (fun h x => ?_)
  refine mj_aload_n 0 dX11_riderChoice_5 rfl ?_
  refine mj_iload_n 1 dX11_riderChoice_6 rfl ?_
  refine mS_cV1 x [_] dX11_riderChoice_7 cwX11_isRider lkX11_112 rfl rfl rfl (cs_isRider x) ⟨Nat.le_of_ble_eq_true rfl, Nat.le_of_ble_eq_true rfl, Nat.le_of_ble_eq_true rfl, Nat.le_of_ble_eq_true rfl, Nat.le_of_ble_eq_true rfl⟩ (fun h x => ?_)
  refine mj_if_ne 19 dX11_riderChoice_10 (by decide) (fun c_10 => ?_) (fun c_10 => ?_)
  · exact absurd ((bI_n0.mp c_10).symm.trans hb) (by decide)
  · refine mj_aload_n 0 dX11_riderChoice_13 rfl ?_
    refine mj_iconst (v := 1) dX11_riderChoice_14 rfl ?_
    refine mS_cV1 x [_] dX11_riderChoice_15 cwX11_fail lkX11_79 rfl rfl rfl (cs_fail x (v := 1)) ⟨Nat.le_of_ble_eq_true rfl, Nat.le_of_ble_eq_true rfl, Nat.le_of_ble_eq_true rfl, Nat.le_of_ble_eq_true rfl, Nat.le_of_ble_eq_true rfl⟩ (fun h x => ?_)
    exact mj_iret dX11_riderChoice_18 rfl (Nat.le_of_ble_eq_true rfl) (Nat.le_of_ble_eq_true rfl) ⟨rfl, rfl, (by rw [sthr_ss] at x; exact x)⟩
set_option maxRecDepth 100000 in
set_option maxHeartbeats 4000000 in
theorem cs_riderChoice {K : KX} {n : Nat} {h : MH} {h0 : MH} {m : Nat} {M : MS} (x : Ms h0 m M h) {r : Nat} (hr : r < 20) (hb : b_in (nI r) 0 (gbrd M 2 - 1) = true) {nr : Nat} (hnr : gbrd M 2 = nI nr) (h20 : nr ≤ 20) {nd : Nat} (hnd : gbrd M 1 = nI nd) (h8 : nd ≤ 8) {pl : Int32} : Con K mX11_riderChoice [.ref m, .int (nI r), .int pl] 0 0 n h (fun r9 n9 h9 => ∃ S, SolW (gbrd M) nr nd S ∧ r9 = .inl (some (.int (w_rch (gbrd M) S r nd pl))) ∧ n9 = n ∧ Ms h0 m (ssol (sthr M 0) S) h9) := by
  refine Con.of (by decide +kernel) (Nat.le_of_ble_eq_true rfl) ?_
  refine mj_aload_n 0 dX11_riderChoice_0 rfl ?_
  refine mj_iconst (v := 0) dX11_riderChoice_1 rfl ?_
  refine mS_pthr dX11_riderChoice_2 fgX11_61 x (fun h x => ?_)
  refine mj_aload_n 0 dX11_riderChoice_5 rfl ?_
  refine mj_iload_n 1 dX11_riderChoice_6 rfl ?_
  refine mS_cV1 x [_] dX11_riderChoice_7 cwX11_isRider lkX11_112 rfl rfl rfl (cs_isRider x) ⟨Nat.le_of_ble_eq_true rfl, Nat.le_of_ble_eq_true rfl, Nat.le_of_ble_eq_true rfl, Nat.le_of_ble_eq_true rfl, Nat.le_of_ble_eq_true rfl⟩ (fun h x => ?_)
  refine mj_if_ne 19 dX11_riderChoice_10 (by decide) (fun c_10 => ?_) (fun c_10 => ?_)
  · refine mj_aload_n 0 dX11_riderChoice_19 rfl ?_
    refine mS_cV0 x [] dX11_riderChoice_20 cwX11_findSolos lkX11_206 rfl rfl rfl (cs_findSolos x hnr h20 hnd h8) ⟨Nat.le_of_ble_eq_true rfl, Nat.le_of_ble_eq_true rfl, Nat.le_of_ble_eq_true rfl, Nat.le_of_ble_eq_true rfl, Nat.le_of_ble_eq_true rfl⟩ (fun h x => ?_)
    obtain ⟨S, hS, x⟩ := x
    refine mj_iconst (v := 0) dX11_riderChoice_23 rfl ?_
    refine mj_istore_n (ls' := [(3, _), (0, _), (1, _), (2, _)]) dX11_riderChoice_24 (Nat.le_of_ble_eq_true rfl) rfl ?_
    have outer : ∀ (f : Nat) (k : Nat) (h1 : MH), k + f = nd → Ms h0 m (ssol (sthr M 0) S) h1 → w_rch (gbrd M) S r nd pl = i_first (rc_Q (gbrd M) S r nd pl) f k → GG (K, mX11_riderChoice, 0, 0, fun r9 n9 h9 => ∃ S, SolW (gbrd M) nr nd S ∧ r9 = .inl (some (.int (w_rch (gbrd M) S r nd pl))) ∧ n9 = n ∧ Ms h0 m (ssol (sthr M 0) S) h9) 0 0 25 [(3, .int (nI k)), (0, .ref m), (1, .int (nI r)), (2, .int pl)] [] n h1 := by
      intro f
      induction f with
      | zero =>
        intro k h1 hk x hv
        refine mj_iload_n 0 dX11_riderChoice_25 rfl ?_
        refine mj_aload_n 1 dX11_riderChoice_26 rfl ?_
        refine mS_gbrd dX11_riderChoice_27 fgX11_7 x ?_
        refine mj_iconst (v := 1) dX11_riderChoice_30 rfl ?_
        refine mS_lbrd x ((show (1 : Int32).toInt = ((1 : Nat) : Int) from rfl)) (by first | assumption | omega | decide) dX11_riderChoice_31 ?_
        refine mj_eq (hnd) ?_
        refine mj_icmp_ge 127 dX11_riderChoice_32 (by decide) (fun c_32 => ?_) (fun c_32 => ?_)
        · refine mj_iconst (v := (-1)) dX11_riderChoice_127 rfl ?_
          exact mj_iret dX11_riderChoice_128 rfl (Nat.le_of_ble_eq_true rfl) (Nat.le_of_ble_eq_true rfl) ⟨S, hS, (by rw [hv]; rfl), rfl, x⟩
        · exact absurd (nI_le (by omega) (by omega)) c_32
      | succ f ih =>
        intro k h1 hk x hv
        have ihO : ∀ (h1 : MH), Ms h0 m (ssol (sthr M 0) S) h1 → w_rch (gbrd M) S r nd pl = i_first (rc_Q (gbrd M) S r nd pl) f (k + 1) → GG (K, mX11_riderChoice, 0, 0, fun r9 n9 h9 => ∃ S, SolW (gbrd M) nr nd S ∧ r9 = .inl (some (.int (w_rch (gbrd M) S r nd pl))) ∧ n9 = n ∧ Ms h0 m (ssol (sthr M 0) S) h9) 0 0 25 [(3, .int (nI (k + 1))), (0, .ref m), (1, .int (nI r)), (2, .int pl)] [] n h1 := fun h1 x q => ih (k + 1) h1 (by omega) x q
        have inner : ∀ (f : Nat) (o : Nat) (h1 : MH), o + f = nd → Ms h0 m (ssol (sthr M 0) S) h1 → GG (K, mX11_riderChoice, 0, 0, fun r9 n9 h9 => ∃ S, SolW (gbrd M) nr nd S ∧ r9 = .inl (some (.int (w_rch (gbrd M) S r nd pl))) ∧ n9 = n ∧ Ms h0 m (ssol (sthr M 0) S) h9) 0 0 41 [(5, .int (nI o)), (4, .int (nI (i_count (rc_P (gbrd M) S r k) o))), (3, .int (nI k)), (0, .ref m), (1, .int (nI r)), (2, .int pl)] [] n h1 := by
          intro f
          induction f with
          | zero =>
            intro o h1 hk x
            obtain rfl : nd = o := by omega
            refine mj_iload 0 dX11_riderChoice_41 rfl ?_
            refine mj_aload_n 3 dX11_riderChoice_43 rfl ?_
            refine mS_gbrd dX11_riderChoice_44 fgX11_7 x ?_
            refine mj_iconst (v := 1) dX11_riderChoice_47 rfl ?_
            refine mS_lbrd x ((show (1 : Int32).toInt = ((1 : Nat) : Int) from rfl)) (by first | assumption | omega | decide) dX11_riderChoice_48 ?_
            refine mj_eq (hnd) ?_
            refine mj_icmp_ge 104 dX11_riderChoice_49 (by decide) (fun c_49 => ?_) (fun c_49 => ?_)
            · refine mj_aload_n 3 dX11_riderChoice_104 rfl ?_
              refine mj_iload_n 4 dX11_riderChoice_105 rfl ?_
              refine mj_iload_n 2 dX11_riderChoice_106 rfl ?_
              refine mS_cV1 x [_, _] dX11_riderChoice_107 cwX11_doFit lkX11_209 rfl rfl rfl (cs_doFit x (r := r) (d := k) hr (by omega)) ⟨Nat.le_of_ble_eq_true rfl, Nat.le_of_ble_eq_true rfl, Nat.le_of_ble_eq_true rfl, Nat.le_of_ble_eq_true rfl, Nat.le_of_ble_eq_true rfl⟩ (fun h x => ?_)
              refine mj_if_eq 121 dX11_riderChoice_110 (by decide) (fun c_110 => ?_) (fun c_110 => ?_)
              · have y5 : u_fit S r k = false := bI_0.mp c_110
                refine mj_iinc (ls' := [(3, _), (5, _), (4, _), (0, _), (1, _), (2, _)]) 2 dX11_riderChoice_121 rfl (nI_s _) (Nat.le_of_ble_eq_true rfl) rfl ?_
                refine mj_goto 25 dX11_riderChoice_124 (by decide) ?_
                exact mj_ls [0, 3, 4, 5] rfl (ihO _ x (by rw [hv, i_first_s, if_neg (by show ¬ rc_Q (gbrd M) S r nd pl k = true; unfold rc_Q; rw [y5, Bool.false_and]; decide)]))
              · have y5 : u_fit S r k = true := bI_n0.mp c_110
                refine mj_iload 1 dX11_riderChoice_113 rfl ?_
                refine mj_iload_n 5 dX11_riderChoice_115 rfl ?_
                refine mj_icmp_ne 121 dX11_riderChoice_116 (by decide) (fun c_116 => ?_) (fun c_116 => ?_)
                · refine mj_iinc (ls' := [(3, _), (5, _), (4, _), (0, _), (1, _), (2, _)]) 2 dX11_riderChoice_121 rfl (nI_s _) (Nat.le_of_ble_eq_true rfl) rfl ?_
                  refine mj_goto 25 dX11_riderChoice_124 (by decide) ?_
                  exact mj_ls [0, 3, 4, 5] rfl (ihO _ x (by rw [hv, i_first_s, if_neg (by show ¬ rc_Q (gbrd M) S r nd pl k = true; unfold rc_Q; rw [y5, decide_eq_false c_116]; decide)]))
                · refine mj_iload_n 2 dX11_riderChoice_119 rfl ?_
                  exact mj_iret dX11_riderChoice_120 rfl (Nat.le_of_ble_eq_true rfl) (Nat.le_of_ble_eq_true rfl) ⟨S, hS, (by rw [hv, i_first_s, if_pos (by show rc_Q (gbrd M) S r nd pl k = true; unfold rc_Q; rw [y5, decide_eq_true c_116]; rfl)]), rfl, x⟩
            · exact absurd (nI_le (by omega) (by omega)) c_49
          | succ f ih =>
            intro o h1 hk x
            refine mj_iload 0 dX11_riderChoice_41 rfl ?_
            refine mj_aload_n 3 dX11_riderChoice_43 rfl ?_
            refine mS_gbrd dX11_riderChoice_44 fgX11_7 x ?_
            refine mj_iconst (v := 1) dX11_riderChoice_47 rfl ?_
            refine mS_lbrd x ((show (1 : Int32).toInt = ((1 : Nat) : Int) from rfl)) (by first | assumption | omega | decide) dX11_riderChoice_48 ?_
            refine mj_eq (hnd) ?_
            refine mj_icmp_ge 104 dX11_riderChoice_49 (by decide) (fun c_49 => ?_) (fun c_49 => ?_)
            · exact absurd c_49 (nI_ge (by omega) (by omega))
            · refine mj_iload 1 dX11_riderChoice_52 rfl ?_
              refine mj_iload 0 dX11_riderChoice_54 rfl ?_
              refine mj_iload_n 2 dX11_riderChoice_56 rfl ?_
              refine mj_icmp_eq 94 dX11_riderChoice_57 (by decide) (fun c_57 => ?_) (fun c_57 => ?_)
              · have y0 : o = k := (nI_inj (by omega) (by omega)).mp c_57
                refine mj_iconst (v := 0) dX11_riderChoice_94 rfl ?_
                refine mj_iadd dX11_riderChoice_95 ?_
                refine mj_istore (ls' := [(4, _), (5, _), (3, _), (0, _), (1, _), (2, _)]) dX11_riderChoice_96 (Nat.le_of_ble_eq_true rfl) rfl ?_
                refine mj_iinc (ls' := [(5, _), (4, _), (3, _), (0, _), (1, _), (2, _)]) 1 dX11_riderChoice_98 rfl (nI_s _) (Nat.le_of_ble_eq_true rfl) rfl ?_
                refine mj_goto 41 dX11_riderChoice_101 (by decide) ?_
                exact mj_ls [0, 1, 2, 3, 4, 5] rfl (by
                  have q9 := ih (o + 1) _ (by omega) x
                  rw [show i_count (rc_P (gbrd M) S r k) (o + 1) = i_count (rc_P (gbrd M) S r k) o by rw [i_count_s, if_neg (by show ¬ rc_P (gbrd M) S r k o = true; unfold rc_P; rw [decide_eq_true y0, Bool.not_true, Bool.false_and]; decide)]; rfl, ← Int32.add_zero (nI (i_count (rc_P (gbrd M) S r k) o))] at q9
                  exact q9)
              · have y0 : ¬ o = k := fun z => c_57 (by rw [z])
                refine mj_aload_n 3 dX11_riderChoice_60 rfl ?_
                refine mj_iload_n 4 dX11_riderChoice_61 rfl ?_
                refine mj_iload_n 2 dX11_riderChoice_62 rfl ?_
                refine mS_cV1 x [_, _] dX11_riderChoice_63 cwX11_doFit lkX11_209 rfl rfl rfl (cs_doFit x (r := r) (d := k) hr (by omega)) ⟨Nat.le_of_ble_eq_true rfl, Nat.le_of_ble_eq_true rfl, Nat.le_of_ble_eq_true rfl, Nat.le_of_ble_eq_true rfl, Nat.le_of_ble_eq_true rfl⟩ (fun h x => ?_)
                refine mj_if_eq 94 dX11_riderChoice_66 (by decide) (fun c_66 => ?_) (fun c_66 => ?_)
                · have y1 : u_fit S r k = false := bI_0.mp c_66
                  refine mj_iconst (v := 0) dX11_riderChoice_94 rfl ?_
                  refine mj_iadd dX11_riderChoice_95 ?_
                  refine mj_istore (ls' := [(4, _), (5, _), (3, _), (0, _), (1, _), (2, _)]) dX11_riderChoice_96 (Nat.le_of_ble_eq_true rfl) rfl ?_
                  refine mj_iinc (ls' := [(5, _), (4, _), (3, _), (0, _), (1, _), (2, _)]) 1 dX11_riderChoice_98 rfl (nI_s _) (Nat.le_of_ble_eq_true rfl) rfl ?_
                  refine mj_goto 41 dX11_riderChoice_101 (by decide) ?_
                  exact mj_ls [0, 1, 2, 3, 4, 5] rfl (by
                    have q9 := ih (o + 1) _ (by omega) x
                    rw [show i_count (rc_P (gbrd M) S r k) (o + 1) = i_count (rc_P (gbrd M) S r k) o by rw [i_count_s, if_neg (by show ¬ rc_P (gbrd M) S r k o = true; unfold rc_P; rw [y1, Bool.false_and, Bool.and_false]; decide)]; rfl, ← Int32.add_zero (nI (i_count (rc_P (gbrd M) S r k) o))] at q9
                    exact q9)
                · have y1 : u_fit S r k = true := bI_n0.mp c_66
                  refine mj_aload_n 3 dX11_riderChoice_69 rfl ?_
                  refine mj_iload_n 4 dX11_riderChoice_70 rfl ?_
                  refine mj_iload 0 dX11_riderChoice_71 rfl ?_
                  refine mS_cV1 x [_, _] dX11_riderChoice_73 cwX11_doFit lkX11_209 rfl rfl rfl (cs_doFit x (r := r) (d := o) hr (by omega)) ⟨Nat.le_of_ble_eq_true rfl, Nat.le_of_ble_eq_true rfl, Nat.le_of_ble_eq_true rfl, Nat.le_of_ble_eq_true rfl, Nat.le_of_ble_eq_true rfl⟩ (fun h x => ?_)
                  refine mj_if_eq 94 dX11_riderChoice_76 (by decide) (fun c_76 => ?_) (fun c_76 => ?_)
                  · have y2 : u_fit S r o = false := bI_0.mp c_76
                    refine mj_iconst (v := 0) dX11_riderChoice_94 rfl ?_
                    refine mj_iadd dX11_riderChoice_95 ?_
                    refine mj_istore (ls' := [(4, _), (5, _), (3, _), (0, _), (1, _), (2, _)]) dX11_riderChoice_96 (Nat.le_of_ble_eq_true rfl) rfl ?_
                    refine mj_iinc (ls' := [(5, _), (4, _), (3, _), (0, _), (1, _), (2, _)]) 1 dX11_riderChoice_98 rfl (nI_s _) (Nat.le_of_ble_eq_true rfl) rfl ?_
                    refine mj_goto 41 dX11_riderChoice_101 (by decide) ?_
                    exact mj_ls [0, 1, 2, 3, 4, 5] rfl (by
                      have q9 := ih (o + 1) _ (by omega) x
                      rw [show i_count (rc_P (gbrd M) S r k) (o + 1) = i_count (rc_P (gbrd M) S r k) o by rw [i_count_s, if_neg (by show ¬ rc_P (gbrd M) S r k o = true; unfold rc_P; rw [y2, Bool.false_and, Bool.and_false, Bool.and_false]; decide)]; rfl, ← Int32.add_zero (nI (i_count (rc_P (gbrd M) S r k) o))] at q9
                      exact q9)
                  · have y2 : u_fit S r o = true := bI_n0.mp c_76
                    refine mj_aload_n 3 dX11_riderChoice_79 rfl ?_
                    refine mj_iload_n 4 dX11_riderChoice_80 rfl ?_
                    refine mj_iload 0 dX11_riderChoice_81 rfl ?_
                    refine mj_iload_n 2 dX11_riderChoice_83 rfl ?_
                    refine mS_cV1 x [_, _, _] dX11_riderChoice_84 cwX11_likesDriver lkX11_212 rfl rfl rfl (cs_likesDriver x (r := r) (d := o) (e := k) hr (by omega) (by omega)) ⟨Nat.le_of_ble_eq_true rfl, Nat.le_of_ble_eq_true rfl, Nat.le_of_ble_eq_true rfl, Nat.le_of_ble_eq_true rfl, Nat.le_of_ble_eq_true rfl⟩ (fun h x => ?_)
                    refine mj_if_eq 94 dX11_riderChoice_87 (by decide) (fun c_87 => ?_) (fun c_87 => ?_)
                    · have y3 : u_ld (gbrd M) S r o k = false := bI_0.mp c_87
                      refine mj_iconst (v := 0) dX11_riderChoice_94 rfl ?_
                      refine mj_iadd dX11_riderChoice_95 ?_
                      refine mj_istore (ls' := [(4, _), (5, _), (3, _), (0, _), (1, _), (2, _)]) dX11_riderChoice_96 (Nat.le_of_ble_eq_true rfl) rfl ?_
                      refine mj_iinc (ls' := [(5, _), (4, _), (3, _), (0, _), (1, _), (2, _)]) 1 dX11_riderChoice_98 rfl (nI_s _) (Nat.le_of_ble_eq_true rfl) rfl ?_
                      refine mj_goto 41 dX11_riderChoice_101 (by decide) ?_
                      exact mj_ls [0, 1, 2, 3, 4, 5] rfl (by
                        have q9 := ih (o + 1) _ (by omega) x
                        rw [show i_count (rc_P (gbrd M) S r k) (o + 1) = i_count (rc_P (gbrd M) S r k) o by rw [i_count_s, if_neg (by show ¬ rc_P (gbrd M) S r k o = true; unfold rc_P; rw [y3, Bool.and_false, Bool.and_false, Bool.and_false]; decide)]; rfl, ← Int32.add_zero (nI (i_count (rc_P (gbrd M) S r k) o))] at q9
                        exact q9)
                    · have y3 : u_ld (gbrd M) S r o k = true := bI_n0.mp c_87
                      refine mj_iconst (v := 1) dX11_riderChoice_90 rfl ?_
                      refine mj_goto 95 dX11_riderChoice_91 (by decide) ?_
                      refine mj_iadd dX11_riderChoice_95 ?_
                      refine mj_istore (ls' := [(4, _), (5, _), (3, _), (0, _), (1, _), (2, _)]) dX11_riderChoice_96 (Nat.le_of_ble_eq_true rfl) rfl ?_
                      refine mj_iinc (ls' := [(5, _), (4, _), (3, _), (0, _), (1, _), (2, _)]) 1 dX11_riderChoice_98 rfl (nI_s _) (Nat.le_of_ble_eq_true rfl) rfl ?_
                      refine mj_goto 41 dX11_riderChoice_101 (by decide) ?_
                      exact mj_ls [0, 1, 2, 3, 4, 5] rfl (by
                        have q9 := ih (o + 1) _ (by omega) x
                        rw [show i_count (rc_P (gbrd M) S r k) (o + 1) = i_count (rc_P (gbrd M) S r k) o + 1 by rw [i_count_s, if_pos (by show rc_P (gbrd M) S r k o = true; unfold rc_P; rw [decide_eq_false y0, y1, y2, y3]; rfl)], ← nI_1 (i_count (rc_P (gbrd M) S r k) o)] at q9
                        exact q9)
        refine mj_iload_n 0 dX11_riderChoice_25 rfl ?_
        refine mj_aload_n 1 dX11_riderChoice_26 rfl ?_
        refine mS_gbrd dX11_riderChoice_27 fgX11_7 x ?_
        refine mj_iconst (v := 1) dX11_riderChoice_30 rfl ?_
        refine mS_lbrd x ((show (1 : Int32).toInt = ((1 : Nat) : Int) from rfl)) (by first | assumption | omega | decide) dX11_riderChoice_31 ?_
        refine mj_eq (hnd) ?_
        refine mj_icmp_ge 127 dX11_riderChoice_32 (by decide) (fun c_32 => ?_) (fun c_32 => ?_)
        · exact absurd c_32 (nI_ge (by omega) (by omega))
        · refine mj_iconst (v := 0) dX11_riderChoice_35 rfl ?_
          refine mj_istore (ls' := [(4, _), (3, _), (0, _), (1, _), (2, _)]) dX11_riderChoice_36 (Nat.le_of_ble_eq_true rfl) rfl ?_
          refine mj_iconst (v := 0) dX11_riderChoice_38 rfl ?_
          refine mj_istore (ls' := [(5, _), (4, _), (3, _), (0, _), (1, _), (2, _)]) dX11_riderChoice_39 (Nat.le_of_ble_eq_true rfl) rfl ?_
          exact mj_ls [0, 1, 2, 3, 4, 5] rfl (inner nd 0 _ (by omega) x)
    exact mj_ls [0, 1, 2, 3] rfl (outer nd 0 _ (by omega) x rfl)
  · exact absurd ((bI_0.mp c_10).symm.trans hb) (by decide)
set_option maxRecDepth 100000 in
set_option maxHeartbeats 4000000 in
theorem cs_driverChoice_no {K : KX} {n : Nat} {h : MH} {h0 : MH} {m : Nat} {M : MS} (x : Ms h0 m M h) {i : Int32} (hb : b_in i 0 (gbrd M 1 - 1) = false) {pl : Int32} : Con K mX11_driverChoice [.ref m, .int i, .int pl] 0 0 n h (RetP (some (.int (0))) n (Ms h0 m (sthr M 1))) := by
  refine Con.of (by decide +kernel) (Nat.le_of_ble_eq_true rfl) ?_
  refine mj_aload_n 0 dX11_driverChoice_0 rfl ?_
  refine mj_iconst (v := 0) dX11_driverChoice_1 rfl ?_
  refine mS_pthr dX11_driverChoice_2 fgX11_61 x (fun h x => ?_)
  refine mj_aload_n 0 dX11_driverChoice_5 rfl ?_
  refine mj_iload_n 1 dX11_driverChoice_6 rfl ?_
  refine mS_cV1 x [_] dX11_driverChoice_7 cwX11_isDriver lkX11_87 rfl rfl rfl (cs_isDriver x) ⟨Nat.le_of_ble_eq_true rfl, Nat.le_of_ble_eq_true rfl, Nat.le_of_ble_eq_true rfl, Nat.le_of_ble_eq_true rfl, Nat.le_of_ble_eq_true rfl⟩ (fun h x => ?_)
  refine mj_if_ne 19 dX11_driverChoice_10 (by decide) (fun c_10 => ?_) (fun c_10 => ?_)
  · exact absurd ((bI_n0.mp c_10).symm.trans hb) (by decide)
  · refine mj_aload_n 0 dX11_driverChoice_13 rfl ?_
    refine mj_iconst (v := 1) dX11_driverChoice_14 rfl ?_
    refine mS_cV1 x [_] dX11_driverChoice_15 cwX11_fail lkX11_79 rfl rfl rfl (cs_fail x (v := 1)) ⟨Nat.le_of_ble_eq_true rfl, Nat.le_of_ble_eq_true rfl, Nat.le_of_ble_eq_true rfl, Nat.le_of_ble_eq_true rfl, Nat.le_of_ble_eq_true rfl⟩ (fun h x => ?_)
    exact mj_iret dX11_driverChoice_18 rfl (Nat.le_of_ble_eq_true rfl) (Nat.le_of_ble_eq_true rfl) ⟨rfl, rfl, (by rw [sthr_ss] at x; exact x)⟩
set_option maxRecDepth 100000 in
set_option maxHeartbeats 4000000 in
theorem cs_driverChoice {K : KX} {n : Nat} {h : MH} {h0 : MH} {m : Nat} {M : MS} (x : Ms h0 m M h) {d : Nat} (hd : d < 8) (hb : b_in (nI d) 0 (gbrd M 1 - 1) = true) {nr : Nat} (hnr : gbrd M 2 = nI nr) (h20 : nr ≤ 20) {nd : Nat} (hnd : gbrd M 1 = nI nd) (h8 : nd ≤ 8) {pl : Int32} : Con K mX11_driverChoice [.ref m, .int (nI d), .int pl] 0 0 n h (fun r9 n9 h9 => ∃ S, SolW (gbrd M) nr nd S ∧ r9 = .inl (some (.int (w_dch (gbrd M) (gcrd M) S d nr pl))) ∧ n9 = n ∧ Ms h0 m (ssol (sthr M 0) S) h9) := by
  refine Con.of (by decide +kernel) (Nat.le_of_ble_eq_true rfl) ?_
  refine mj_aload_n 0 dX11_driverChoice_0 rfl ?_
  refine mj_iconst (v := 0) dX11_driverChoice_1 rfl ?_
  refine mS_pthr dX11_driverChoice_2 fgX11_61 x (fun h x => ?_)
  refine mj_aload_n 0 dX11_driverChoice_5 rfl ?_
  refine mj_iload_n 1 dX11_driverChoice_6 rfl ?_
  refine mS_cV1 x [_] dX11_driverChoice_7 cwX11_isDriver lkX11_87 rfl rfl rfl (cs_isDriver x) ⟨Nat.le_of_ble_eq_true rfl, Nat.le_of_ble_eq_true rfl, Nat.le_of_ble_eq_true rfl, Nat.le_of_ble_eq_true rfl, Nat.le_of_ble_eq_true rfl⟩ (fun h x => ?_)
  refine mj_if_ne 19 dX11_driverChoice_10 (by decide) (fun c_10 => ?_) (fun c_10 => ?_)
  · refine mj_aload_n 0 dX11_driverChoice_19 rfl ?_
    refine mS_cV0 x [] dX11_driverChoice_20 cwX11_findSolos lkX11_206 rfl rfl rfl (cs_findSolos x hnr h20 hnd h8) ⟨Nat.le_of_ble_eq_true rfl, Nat.le_of_ble_eq_true rfl, Nat.le_of_ble_eq_true rfl, Nat.le_of_ble_eq_true rfl, Nat.le_of_ble_eq_true rfl⟩ (fun h x => ?_)
    obtain ⟨S, hS, x⟩ := x
    refine mj_iconst (v := 0) dX11_driverChoice_23 rfl ?_
    refine mj_istore_n (ls' := [(3, _), (0, _), (1, _), (2, _)]) dX11_driverChoice_24 (Nat.le_of_ble_eq_true rfl) rfl ?_
    have outer : ∀ (f : Nat) (k : Nat) (h1 : MH), k + f = nr → Ms h0 m (ssol (sthr M 0) S) h1 → w_dch (gbrd M) (gcrd M) S d nr pl = i_first (dc_Q (gbrd M) (gcrd M) S d nr pl) f k → GG (K, mX11_driverChoice, 0, 0, fun r9 n9 h9 => ∃ S, SolW (gbrd M) nr nd S ∧ r9 = .inl (some (.int (w_dch (gbrd M) (gcrd M) S d nr pl))) ∧ n9 = n ∧ Ms h0 m (ssol (sthr M 0) S) h9) 0 0 25 [(3, .int (nI k)), (0, .ref m), (1, .int (nI d)), (2, .int pl)] [] n h1 := by
      intro f
      induction f with
      | zero =>
        intro k h1 hk x hv
        refine mj_iload_n 0 dX11_driverChoice_25 rfl ?_
        refine mj_aload_n 1 dX11_driverChoice_26 rfl ?_
        refine mS_gbrd dX11_driverChoice_27 fgX11_7 x ?_
        refine mj_iconst (v := 2) dX11_driverChoice_30 rfl ?_
        refine mS_lbrd x ((show (2 : Int32).toInt = ((2 : Nat) : Int) from rfl)) (by first | assumption | omega | decide) dX11_driverChoice_31 ?_
        refine mj_eq (hnr) ?_
        refine mj_icmp_ge 127 dX11_driverChoice_32 (by decide) (fun c_32 => ?_) (fun c_32 => ?_)
        · refine mj_iconst (v := (-1)) dX11_driverChoice_127 rfl ?_
          exact mj_iret dX11_driverChoice_128 rfl (Nat.le_of_ble_eq_true rfl) (Nat.le_of_ble_eq_true rfl) ⟨S, hS, (by rw [hv]; rfl), rfl, x⟩
        · exact absurd (nI_le (by omega) (by omega)) c_32
      | succ f ih =>
        intro k h1 hk x hv
        have ihO : ∀ (h1 : MH), Ms h0 m (ssol (sthr M 0) S) h1 → w_dch (gbrd M) (gcrd M) S d nr pl = i_first (dc_Q (gbrd M) (gcrd M) S d nr pl) f (k + 1) → GG (K, mX11_driverChoice, 0, 0, fun r9 n9 h9 => ∃ S, SolW (gbrd M) nr nd S ∧ r9 = .inl (some (.int (w_dch (gbrd M) (gcrd M) S d nr pl))) ∧ n9 = n ∧ Ms h0 m (ssol (sthr M 0) S) h9) 0 0 25 [(3, .int (nI (k + 1))), (0, .ref m), (1, .int (nI d)), (2, .int pl)] [] n h1 := fun h1 x q => ih (k + 1) h1 (by omega) x q
        have inner : ∀ (f : Nat) (o : Nat) (h1 : MH), o + f = nr → Ms h0 m (ssol (sthr M 0) S) h1 → GG (K, mX11_driverChoice, 0, 0, fun r9 n9 h9 => ∃ S, SolW (gbrd M) nr nd S ∧ r9 = .inl (some (.int (w_dch (gbrd M) (gcrd M) S d nr pl))) ∧ n9 = n ∧ Ms h0 m (ssol (sthr M 0) S) h9) 0 0 41 [(5, .int (nI o)), (4, .int (nI (i_count (dc_P (gbrd M) (gcrd M) S d k) o))), (3, .int (nI k)), (0, .ref m), (1, .int (nI d)), (2, .int pl)] [] n h1 := by
          intro f
          induction f with
          | zero =>
            intro o h1 hk x
            obtain rfl : nr = o := by omega
            refine mj_iload 0 dX11_driverChoice_41 rfl ?_
            refine mj_aload_n 3 dX11_driverChoice_43 rfl ?_
            refine mS_gbrd dX11_driverChoice_44 fgX11_7 x ?_
            refine mj_iconst (v := 2) dX11_driverChoice_47 rfl ?_
            refine mS_lbrd x ((show (2 : Int32).toInt = ((2 : Nat) : Int) from rfl)) (by first | assumption | omega | decide) dX11_driverChoice_48 ?_
            refine mj_eq (hnr) ?_
            refine mj_icmp_ge 104 dX11_driverChoice_49 (by decide) (fun c_49 => ?_) (fun c_49 => ?_)
            · refine mj_aload_n 3 dX11_driverChoice_104 rfl ?_
              refine mj_iload_n 4 dX11_driverChoice_105 rfl ?_
              refine mj_iload_n 2 dX11_driverChoice_106 rfl ?_
              refine mS_cV1 x [_, _] dX11_driverChoice_107 cwX11_isChoice lkX11_215 rfl rfl rfl (cs_isChoice x (d := d) (r := k) hd (by omega)) ⟨Nat.le_of_ble_eq_true rfl, Nat.le_of_ble_eq_true rfl, Nat.le_of_ble_eq_true rfl, Nat.le_of_ble_eq_true rfl, Nat.le_of_ble_eq_true rfl⟩ (fun h x => ?_)
              refine mj_if_eq 121 dX11_driverChoice_110 (by decide) (fun c_110 => ?_) (fun c_110 => ?_)
              · have y5 : u_ch (gbrd M) S d k = false := bI_0.mp c_110
                refine mj_iinc (ls' := [(3, _), (5, _), (4, _), (0, _), (1, _), (2, _)]) 2 dX11_driverChoice_121 rfl (nI_s _) (Nat.le_of_ble_eq_true rfl) rfl ?_
                refine mj_goto 25 dX11_driverChoice_124 (by decide) ?_
                exact mj_ls [0, 3, 4, 5] rfl (ihO _ x (by rw [hv, i_first_s, if_neg (by show ¬ dc_Q (gbrd M) (gcrd M) S d nr pl k = true; unfold dc_Q; rw [y5, Bool.false_and]; decide)]))
              · have y5 : u_ch (gbrd M) S d k = true := bI_n0.mp c_110
                refine mj_iload 1 dX11_driverChoice_113 rfl ?_
                refine mj_iload_n 5 dX11_driverChoice_115 rfl ?_
                refine mj_icmp_ne 121 dX11_driverChoice_116 (by decide) (fun c_116 => ?_) (fun c_116 => ?_)
                · refine mj_iinc (ls' := [(3, _), (5, _), (4, _), (0, _), (1, _), (2, _)]) 2 dX11_driverChoice_121 rfl (nI_s _) (Nat.le_of_ble_eq_true rfl) rfl ?_
                  refine mj_goto 25 dX11_driverChoice_124 (by decide) ?_
                  exact mj_ls [0, 3, 4, 5] rfl (ihO _ x (by rw [hv, i_first_s, if_neg (by show ¬ dc_Q (gbrd M) (gcrd M) S d nr pl k = true; unfold dc_Q; rw [y5, decide_eq_false c_116]; decide)]))
                · refine mj_iload_n 2 dX11_driverChoice_119 rfl ?_
                  exact mj_iret dX11_driverChoice_120 rfl (Nat.le_of_ble_eq_true rfl) (Nat.le_of_ble_eq_true rfl) ⟨S, hS, (by rw [hv, i_first_s, if_pos (by show dc_Q (gbrd M) (gcrd M) S d nr pl k = true; unfold dc_Q; rw [y5, decide_eq_true c_116]; rfl)]), rfl, x⟩
            · exact absurd (nI_le (by omega) (by omega)) c_49
          | succ f ih =>
            intro o h1 hk x
            refine mj_iload 0 dX11_driverChoice_41 rfl ?_
            refine mj_aload_n 3 dX11_driverChoice_43 rfl ?_
            refine mS_gbrd dX11_driverChoice_44 fgX11_7 x ?_
            refine mj_iconst (v := 2) dX11_driverChoice_47 rfl ?_
            refine mS_lbrd x ((show (2 : Int32).toInt = ((2 : Nat) : Int) from rfl)) (by first | assumption | omega | decide) dX11_driverChoice_48 ?_
            refine mj_eq (hnr) ?_
            refine mj_icmp_ge 104 dX11_driverChoice_49 (by decide) (fun c_49 => ?_) (fun c_49 => ?_)
            · exact absurd c_49 (nI_ge (by omega) (by omega))
            · refine mj_iload 1 dX11_driverChoice_52 rfl ?_
              refine mj_iload 0 dX11_driverChoice_54 rfl ?_
              refine mj_iload_n 2 dX11_driverChoice_56 rfl ?_
              refine mj_icmp_eq 94 dX11_driverChoice_57 (by decide) (fun c_57 => ?_) (fun c_57 => ?_)
              · have y0 : o = k := (nI_inj (by omega) (by omega)).mp c_57
                refine mj_iconst (v := 0) dX11_driverChoice_94 rfl ?_
                refine mj_iadd dX11_driverChoice_95 ?_
                refine mj_istore (ls' := [(4, _), (5, _), (3, _), (0, _), (1, _), (2, _)]) dX11_driverChoice_96 (Nat.le_of_ble_eq_true rfl) rfl ?_
                refine mj_iinc (ls' := [(5, _), (4, _), (3, _), (0, _), (1, _), (2, _)]) 1 dX11_driverChoice_98 rfl (nI_s _) (Nat.le_of_ble_eq_true rfl) rfl ?_
                refine mj_goto 41 dX11_driverChoice_101 (by decide) ?_
                exact mj_ls [0, 1, 2, 3, 4, 5] rfl (by
                  have q9 := ih (o + 1) _ (by omega) x
                  rw [show i_count (dc_P (gbrd M) (gcrd M) S d k) (o + 1) = i_count (dc_P (gbrd M) (gcrd M) S d k) o by rw [i_count_s, if_neg (by show ¬ dc_P (gbrd M) (gcrd M) S d k o = true; unfold dc_P; rw [decide_eq_true y0, Bool.not_true, Bool.false_and]; decide)]; rfl, ← Int32.add_zero (nI (i_count (dc_P (gbrd M) (gcrd M) S d k) o))] at q9
                  exact q9)
              · have y0 : ¬ o = k := fun z => c_57 (by rw [z])
                refine mj_aload_n 3 dX11_driverChoice_60 rfl ?_
                refine mj_iload_n 4 dX11_driverChoice_61 rfl ?_
                refine mj_iload_n 2 dX11_driverChoice_62 rfl ?_
                refine mS_cV1 x [_, _] dX11_driverChoice_63 cwX11_isChoice lkX11_215 rfl rfl rfl (cs_isChoice x (d := d) (r := k) hd (by omega)) ⟨Nat.le_of_ble_eq_true rfl, Nat.le_of_ble_eq_true rfl, Nat.le_of_ble_eq_true rfl, Nat.le_of_ble_eq_true rfl, Nat.le_of_ble_eq_true rfl⟩ (fun h x => ?_)
                refine mj_if_eq 94 dX11_driverChoice_66 (by decide) (fun c_66 => ?_) (fun c_66 => ?_)
                · have y1 : u_ch (gbrd M) S d k = false := bI_0.mp c_66
                  refine mj_iconst (v := 0) dX11_driverChoice_94 rfl ?_
                  refine mj_iadd dX11_driverChoice_95 ?_
                  refine mj_istore (ls' := [(4, _), (5, _), (3, _), (0, _), (1, _), (2, _)]) dX11_driverChoice_96 (Nat.le_of_ble_eq_true rfl) rfl ?_
                  refine mj_iinc (ls' := [(5, _), (4, _), (3, _), (0, _), (1, _), (2, _)]) 1 dX11_driverChoice_98 rfl (nI_s _) (Nat.le_of_ble_eq_true rfl) rfl ?_
                  refine mj_goto 41 dX11_driverChoice_101 (by decide) ?_
                  exact mj_ls [0, 1, 2, 3, 4, 5] rfl (by
                    have q9 := ih (o + 1) _ (by omega) x
                    rw [show i_count (dc_P (gbrd M) (gcrd M) S d k) (o + 1) = i_count (dc_P (gbrd M) (gcrd M) S d k) o by rw [i_count_s, if_neg (by show ¬ dc_P (gbrd M) (gcrd M) S d k o = true; unfold dc_P; rw [y1, Bool.false_and, Bool.and_false]; decide)]; rfl, ← Int32.add_zero (nI (i_count (dc_P (gbrd M) (gcrd M) S d k) o))] at q9
                    exact q9)
                · have y1 : u_ch (gbrd M) S d k = true := bI_n0.mp c_66
                  refine mj_aload_n 3 dX11_driverChoice_69 rfl ?_
                  refine mj_iload_n 4 dX11_driverChoice_70 rfl ?_
                  refine mj_iload 0 dX11_driverChoice_71 rfl ?_
                  refine mS_cV1 x [_, _] dX11_driverChoice_73 cwX11_isChoice lkX11_215 rfl rfl rfl (cs_isChoice x (d := d) (r := o) hd (by omega)) ⟨Nat.le_of_ble_eq_true rfl, Nat.le_of_ble_eq_true rfl, Nat.le_of_ble_eq_true rfl, Nat.le_of_ble_eq_true rfl, Nat.le_of_ble_eq_true rfl⟩ (fun h x => ?_)
                  refine mj_if_eq 94 dX11_driverChoice_76 (by decide) (fun c_76 => ?_) (fun c_76 => ?_)
                  · have y2 : u_ch (gbrd M) S d o = false := bI_0.mp c_76
                    refine mj_iconst (v := 0) dX11_driverChoice_94 rfl ?_
                    refine mj_iadd dX11_driverChoice_95 ?_
                    refine mj_istore (ls' := [(4, _), (5, _), (3, _), (0, _), (1, _), (2, _)]) dX11_driverChoice_96 (Nat.le_of_ble_eq_true rfl) rfl ?_
                    refine mj_iinc (ls' := [(5, _), (4, _), (3, _), (0, _), (1, _), (2, _)]) 1 dX11_driverChoice_98 rfl (nI_s _) (Nat.le_of_ble_eq_true rfl) rfl ?_
                    refine mj_goto 41 dX11_driverChoice_101 (by decide) ?_
                    exact mj_ls [0, 1, 2, 3, 4, 5] rfl (by
                      have q9 := ih (o + 1) _ (by omega) x
                      rw [show i_count (dc_P (gbrd M) (gcrd M) S d k) (o + 1) = i_count (dc_P (gbrd M) (gcrd M) S d k) o by rw [i_count_s, if_neg (by show ¬ dc_P (gbrd M) (gcrd M) S d k o = true; unfold dc_P; rw [y2, Bool.false_and, Bool.and_false, Bool.and_false]; decide)]; rfl, ← Int32.add_zero (nI (i_count (dc_P (gbrd M) (gcrd M) S d k) o))] at q9
                      exact q9)
                  · have y2 : u_ch (gbrd M) S d o = true := bI_n0.mp c_76
                    refine mj_aload_n 3 dX11_driverChoice_79 rfl ?_
                    refine mj_iload_n 4 dX11_driverChoice_80 rfl ?_
                    refine mj_iload 0 dX11_driverChoice_81 rfl ?_
                    refine mj_iload_n 2 dX11_driverChoice_83 rfl ?_
                    refine mS_cV1 x [_, _, _] dX11_driverChoice_84 cwX11_likesRider lkX11_218 rfl rfl rfl (cs_likesRider x (d := d) (r := o) (q := k) hd (by omega) (by omega)) ⟨Nat.le_of_ble_eq_true rfl, Nat.le_of_ble_eq_true rfl, Nat.le_of_ble_eq_true rfl, Nat.le_of_ble_eq_true rfl, Nat.le_of_ble_eq_true rfl⟩ (fun h x => ?_)
                    refine mj_if_eq 94 dX11_driverChoice_87 (by decide) (fun c_87 => ?_) (fun c_87 => ?_)
                    · have y3 : u_lr (gcrd M) S d o k = false := bI_0.mp c_87
                      refine mj_iconst (v := 0) dX11_driverChoice_94 rfl ?_
                      refine mj_iadd dX11_driverChoice_95 ?_
                      refine mj_istore (ls' := [(4, _), (5, _), (3, _), (0, _), (1, _), (2, _)]) dX11_driverChoice_96 (Nat.le_of_ble_eq_true rfl) rfl ?_
                      refine mj_iinc (ls' := [(5, _), (4, _), (3, _), (0, _), (1, _), (2, _)]) 1 dX11_driverChoice_98 rfl (nI_s _) (Nat.le_of_ble_eq_true rfl) rfl ?_
                      refine mj_goto 41 dX11_driverChoice_101 (by decide) ?_
                      exact mj_ls [0, 1, 2, 3, 4, 5] rfl (by
                        have q9 := ih (o + 1) _ (by omega) x
                        rw [show i_count (dc_P (gbrd M) (gcrd M) S d k) (o + 1) = i_count (dc_P (gbrd M) (gcrd M) S d k) o by rw [i_count_s, if_neg (by show ¬ dc_P (gbrd M) (gcrd M) S d k o = true; unfold dc_P; rw [y3, Bool.and_false, Bool.and_false, Bool.and_false]; decide)]; rfl, ← Int32.add_zero (nI (i_count (dc_P (gbrd M) (gcrd M) S d k) o))] at q9
                        exact q9)
                    · have y3 : u_lr (gcrd M) S d o k = true := bI_n0.mp c_87
                      refine mj_iconst (v := 1) dX11_driverChoice_90 rfl ?_
                      refine mj_goto 95 dX11_driverChoice_91 (by decide) ?_
                      refine mj_iadd dX11_driverChoice_95 ?_
                      refine mj_istore (ls' := [(4, _), (5, _), (3, _), (0, _), (1, _), (2, _)]) dX11_driverChoice_96 (Nat.le_of_ble_eq_true rfl) rfl ?_
                      refine mj_iinc (ls' := [(5, _), (4, _), (3, _), (0, _), (1, _), (2, _)]) 1 dX11_driverChoice_98 rfl (nI_s _) (Nat.le_of_ble_eq_true rfl) rfl ?_
                      refine mj_goto 41 dX11_driverChoice_101 (by decide) ?_
                      exact mj_ls [0, 1, 2, 3, 4, 5] rfl (by
                        have q9 := ih (o + 1) _ (by omega) x
                        rw [show i_count (dc_P (gbrd M) (gcrd M) S d k) (o + 1) = i_count (dc_P (gbrd M) (gcrd M) S d k) o + 1 by rw [i_count_s, if_pos (by show dc_P (gbrd M) (gcrd M) S d k o = true; unfold dc_P; rw [decide_eq_false y0, y1, y2, y3]; rfl)], ← nI_1 (i_count (dc_P (gbrd M) (gcrd M) S d k) o)] at q9
                        exact q9)
        refine mj_iload_n 0 dX11_driverChoice_25 rfl ?_
        refine mj_aload_n 1 dX11_driverChoice_26 rfl ?_
        refine mS_gbrd dX11_driverChoice_27 fgX11_7 x ?_
        refine mj_iconst (v := 2) dX11_driverChoice_30 rfl ?_
        refine mS_lbrd x ((show (2 : Int32).toInt = ((2 : Nat) : Int) from rfl)) (by first | assumption | omega | decide) dX11_driverChoice_31 ?_
        refine mj_eq (hnr) ?_
        refine mj_icmp_ge 127 dX11_driverChoice_32 (by decide) (fun c_32 => ?_) (fun c_32 => ?_)
        · exact absurd c_32 (nI_ge (by omega) (by omega))
        · refine mj_iconst (v := 0) dX11_driverChoice_35 rfl ?_
          refine mj_istore (ls' := [(4, _), (3, _), (0, _), (1, _), (2, _)]) dX11_driverChoice_36 (Nat.le_of_ble_eq_true rfl) rfl ?_
          refine mj_iconst (v := 0) dX11_driverChoice_38 rfl ?_
          refine mj_istore (ls' := [(5, _), (4, _), (3, _), (0, _), (1, _), (2, _)]) dX11_driverChoice_39 (Nat.le_of_ble_eq_true rfl) rfl ?_
          exact mj_ls [0, 1, 2, 3, 4, 5] rfl (inner nr 0 _ (by omega) x)
    exact mj_ls [0, 1, 2, 3] rfl (outer nr 0 _ (by omega) x rfl)
  · exact absurd ((bI_0.mp c_10).symm.trans hb) (by decide)
def u_go (g S : Nat → Int32) (r d : Nat) : Bool := decide (gr g r 7 = -1) || (!u_fit S r (i_nat (gr g r 7)) || u_ld g S r d (i_nat (gr g r 7)))
def u_tk (g : Nat → Int32) (c : Nat → Int64) (S : Nat → Int32) (d r nr : Nat) : Nat → Bool
  | 0 => decide (nI (i_count (inP g d) nr) < gd g d 4)
  | k + 1 => u_tk g c S d r nr k || (inP g d k && u_lr c S d r k)
theorem u_tk_s (g : Nat → Int32) (c : Nat → Int64) (S : Nat → Int32) (d r nr k : Nat) : u_tk g c S d r nr (k + 1) = (u_tk g c S d r nr k || (inP g d k && u_lr c S d r k)) := rfl
set_option maxRecDepth 100000 in
set_option maxHeartbeats 4000000 in
theorem cs_wouldGo {K : KX} {n : Nat} {h : MH} {h0 : MH} {m : Nat} {M : MS} (x : Ms h0 m M h) {r d : Nat} (hr : r < 20) (hd : d < 8) (hq : gr (gbrd M) r 7 = -1 ∨ ∃ p, p < 8 ∧ gr (gbrd M) r 7 = nI p) : Con K mX11_wouldGo [.ref m, .int (nI r), .int (nI d)] 0 0 n h (RetP (some (.int (bI (u_go (gbrd M) (gsol M) r d)))) n (Ms h0 m (M))) := by
  refine Con.of (by decide +kernel) (Nat.le_of_ble_eq_true rfl) ?_
  refine mj_aload_n 0 dX11_wouldGo_0 rfl ?_
  refine mj_iload_n 1 dX11_wouldGo_1 rfl ?_
  refine mj_bipush (v := (7)) dX11_wouldGo_2 rfl ?_
  refine mS_cV1 x [_, _] dX11_wouldGo_4 cwX11_rider lkX11_72 rfl rfl rfl (cs_rider x (r := r) (f := 7) hr (by decide)) ⟨Nat.le_of_ble_eq_true rfl, Nat.le_of_ble_eq_true rfl, Nat.le_of_ble_eq_true rfl, Nat.le_of_ble_eq_true rfl, Nat.le_of_ble_eq_true rfl⟩ (fun h x => ?_)
  refine mj_istore_n (ls' := [(3, _), (0, _), (1, _), (2, _)]) dX11_wouldGo_7 (Nat.le_of_ble_eq_true rfl) rfl ?_
  refine mj_iload_n 0 dX11_wouldGo_8 rfl ?_
  refine mj_iconst (v := (-1)) dX11_wouldGo_9 rfl ?_
  refine mj_icmp_eq 32 dX11_wouldGo_10 (by decide) (fun c_10 => ?_) (fun c_10 => ?_)
  · have y0 : gr (gbrd M) r 7 = -1 := c_10
    refine mj_iconst (v := 1) dX11_wouldGo_32 rfl ?_
    refine mj_goto 37 dX11_wouldGo_33 (by decide) ?_
    exact mj_zret dX11_wouldGo_37 rfl (by first | exact Or.inl rfl | exact Or.inr rfl) (Nat.le_of_ble_eq_true rfl) (Nat.le_of_ble_eq_true rfl) ⟨(by unfold u_go; first | (rw [decide_eq_true y0]; rfl) | (rw [decide_eq_false y0, y1]; rfl) | (rw [decide_eq_false y0, y1, y2]; rfl)), rfl, x⟩
  · have y0 : ¬ gr (gbrd M) r 7 = -1 := c_10
    have hp : gr (gbrd M) r 7 = nI (i_nat (gr (gbrd M) r 7)) ∧ i_nat (gr (gbrd M) r 7) < 8 := by
      rcases hq with z | ⟨p, hp, z⟩
      · exact absurd z c_10
      · rw [z, i_nat_nI (by omega)]; exact ⟨rfl, hp⟩
    refine mj_aload_n 1 dX11_wouldGo_13 rfl ?_
    refine mj_iload_n 2 dX11_wouldGo_14 rfl ?_
    refine mj_iload_n 0 dX11_wouldGo_15 rfl ?_
    refine mj_eq (hp.1) ?_
    refine mS_cV1 x [_, _] dX11_wouldGo_16 cwX11_doFit lkX11_209 rfl rfl rfl (cs_doFit x (r := r) (d := i_nat (gr (gbrd M) r 7)) hr hp.2) ⟨Nat.le_of_ble_eq_true rfl, Nat.le_of_ble_eq_true rfl, Nat.le_of_ble_eq_true rfl, Nat.le_of_ble_eq_true rfl, Nat.le_of_ble_eq_true rfl⟩ (fun h x => ?_)
    refine mj_if_eq 32 dX11_wouldGo_19 (by decide) (fun c_19 => ?_) (fun c_19 => ?_)
    · have y1 : u_fit (gsol M) r (i_nat (gr (gbrd M) r 7)) = false := bI_0.mp c_19
      refine mj_iconst (v := 1) dX11_wouldGo_32 rfl ?_
      refine mj_goto 37 dX11_wouldGo_33 (by decide) ?_
      exact mj_zret dX11_wouldGo_37 rfl (by first | exact Or.inl rfl | exact Or.inr rfl) (Nat.le_of_ble_eq_true rfl) (Nat.le_of_ble_eq_true rfl) ⟨(by unfold u_go; first | (rw [decide_eq_true y0]; rfl) | (rw [decide_eq_false y0, y1]; rfl) | (rw [decide_eq_false y0, y1, y2]; rfl)), rfl, x⟩
    · have y1 : u_fit (gsol M) r (i_nat (gr (gbrd M) r 7)) = true := bI_n0.mp c_19
      refine mj_aload_n 1 dX11_wouldGo_22 rfl ?_
      refine mj_iload_n 2 dX11_wouldGo_23 rfl ?_
      refine mj_iload_n 3 dX11_wouldGo_24 rfl ?_
      refine mj_iload_n 0 dX11_wouldGo_25 rfl ?_
      refine mj_eq (hp.1) ?_
      refine mS_cV1 x [_, _, _] dX11_wouldGo_26 cwX11_likesDriver lkX11_212 rfl rfl rfl (cs_likesDriver x (r := r) (d := d) (e := i_nat (gr (gbrd M) r 7)) hr hd hp.2) ⟨Nat.le_of_ble_eq_true rfl, Nat.le_of_ble_eq_true rfl, Nat.le_of_ble_eq_true rfl, Nat.le_of_ble_eq_true rfl, Nat.le_of_ble_eq_true rfl⟩ (fun h x => ?_)
      refine mj_if_eq 36 dX11_wouldGo_29 (by decide) (fun c_29 => ?_) (fun c_29 => ?_)
      · have y2 : u_ld (gbrd M) (gsol M) r d (i_nat (gr (gbrd M) r 7)) = false := bI_0.mp c_29
        refine mj_iconst (v := 0) dX11_wouldGo_36 rfl ?_
        exact mj_zret dX11_wouldGo_37 rfl (by first | exact Or.inl rfl | exact Or.inr rfl) (Nat.le_of_ble_eq_true rfl) (Nat.le_of_ble_eq_true rfl) ⟨(by unfold u_go; first | (rw [decide_eq_true y0]; rfl) | (rw [decide_eq_false y0, y1]; rfl) | (rw [decide_eq_false y0, y1, y2]; rfl)), rfl, x⟩
      · have y2 : u_ld (gbrd M) (gsol M) r d (i_nat (gr (gbrd M) r 7)) = true := bI_n0.mp c_29
        refine mj_iconst (v := 1) dX11_wouldGo_32 rfl ?_
        refine mj_goto 37 dX11_wouldGo_33 (by decide) ?_
        exact mj_zret dX11_wouldGo_37 rfl (by first | exact Or.inl rfl | exact Or.inr rfl) (Nat.le_of_ble_eq_true rfl) (Nat.le_of_ble_eq_true rfl) ⟨(by unfold u_go; first | (rw [decide_eq_true y0]; rfl) | (rw [decide_eq_false y0, y1]; rfl) | (rw [decide_eq_false y0, y1, y2]; rfl)), rfl, x⟩
set_option maxRecDepth 100000 in
set_option maxHeartbeats 4000000 in
theorem cs_wouldTake {K : KX} {n : Nat} {h : MH} {h0 : MH} {m : Nat} {M : MS} (x : Ms h0 m M h) {d r : Nat} (hd : d < 8) (hr : r < 20) {nr : Nat} (hnr : gbrd M 2 = nI nr) (h20 : nr ≤ 20) : Con K mX11_wouldTake [.ref m, .int (nI d), .int (nI r)] 0 0 n h (RetP (some (.int (bI (u_tk (gbrd M) (gcrd M) (gsol M) d r nr nr)))) n (Ms h0 m M)) := by
  refine Con.of (by decide +kernel) (Nat.le_of_ble_eq_true rfl) ?_
  have loop : ∀ (f : Nat) (k : Nat) (w : Int32) (h1 : MH), k + f = nr → bI (u_tk (gbrd M) (gcrd M) (gsol M) d r nr k) = w → Ms h0 m M h1 → GG (K, mX11_wouldTake, 0, 0, RetP (some (.int (bI (u_tk (gbrd M) (gcrd M) (gsol M) d r nr nr)))) n (Ms h0 m M)) 0 0 26 [(4, .int (nI k)), (3, .int w), (0, .ref m), (1, .int (nI d)), (2, .int (nI r))] [] n h1 := by
    intro f
    induction f with
    | zero =>
      intro k w h1 hk hw x
      refine mj_iload 0 dX11_wouldTake_26 rfl ?_
      refine mj_aload_n 2 dX11_wouldTake_28 rfl ?_
      refine mS_gbrd dX11_wouldTake_29 fgX11_7 x ?_
      refine mj_iconst (v := 2) dX11_wouldTake_32 rfl ?_
      refine mS_lbrd x ((show (2 : Int32).toInt = ((2 : Nat) : Int) from rfl)) (by first | assumption | omega | decide) dX11_wouldTake_33 ?_
      refine mj_eq (hnr) ?_
      refine mj_icmp_ge 74 dX11_wouldTake_34 (by decide) (fun c_34 => ?_) (fun c_34 => ?_)
      · refine mj_iload_n 1 dX11_wouldTake_74 rfl ?_
        obtain rfl : k = nr := by omega
        subst hw
        exact mj_zret dX11_wouldTake_75 rfl (by first | exact bI_or _) (Nat.le_of_ble_eq_true rfl) (Nat.le_of_ble_eq_true rfl) ⟨rfl, rfl, x⟩
      · exact absurd (nI_le (by omega) (by omega)) c_34
    | succ f ih =>
      intro k w h1 hk hw x
      refine mj_iload 0 dX11_wouldTake_26 rfl ?_
      refine mj_aload_n 2 dX11_wouldTake_28 rfl ?_
      refine mS_gbrd dX11_wouldTake_29 fgX11_7 x ?_
      refine mj_iconst (v := 2) dX11_wouldTake_32 rfl ?_
      refine mS_lbrd x ((show (2 : Int32).toInt = ((2 : Nat) : Int) from rfl)) (by first | assumption | omega | decide) dX11_wouldTake_33 ?_
      refine mj_eq (hnr) ?_
      refine mj_icmp_ge 74 dX11_wouldTake_34 (by decide) (fun c_34 => ?_) (fun c_34 => ?_)
      · exact absurd c_34 (nI_ge (by omega) (by omega))
      · refine mj_iload_n 1 dX11_wouldTake_37 rfl ?_
        refine mj_if_ne 62 dX11_wouldTake_38 (by decide) (fun c_38 => ?_) (fun c_38 => ?_)
        · have y0 : u_tk (gbrd M) (gcrd M) (gsol M) d r nr k = true := bI_n0.mp (by rw [hw]; exact c_38)
          refine mj_iconst (v := 1) dX11_wouldTake_62 rfl ?_
          refine mj_goto 67 dX11_wouldTake_63 (by decide) ?_
          refine mj_istore_n (ls' := [(3, _), (4, _), (0, _), (1, _), (2, _)]) dX11_wouldTake_67 (Nat.le_of_ble_eq_true rfl) rfl ?_
          refine mj_iinc (ls' := [(4, _), (3, _), (0, _), (1, _), (2, _)]) 1 dX11_wouldTake_68 rfl (nI_s _) (Nat.le_of_ble_eq_true rfl) rfl ?_
          refine mj_goto 26 dX11_wouldTake_71 (by decide) ?_
          exact mj_ls [0, 1, 2, 3, 4] rfl (ih (k + 1) _ _ (by omega) (by rw [u_tk_s, y0, Bool.true_or]; first | done | rfl) x)
        · have y0 : u_tk (gbrd M) (gcrd M) (gsol M) d r nr k = false := bI_0.mp (by rw [hw]; exact c_38)
          refine mj_aload_n 2 dX11_wouldTake_41 rfl ?_
          refine mj_iload 0 dX11_wouldTake_42 rfl ?_
          refine mj_iload_n 3 dX11_wouldTake_44 rfl ?_
          refine mS_cV1 x [_, _] dX11_wouldTake_45 cwX11_isIn lkX11_115 rfl rfl rfl (cs_isIn x (r := k) (by omega)) ⟨Nat.le_of_ble_eq_true rfl, Nat.le_of_ble_eq_true rfl, Nat.le_of_ble_eq_true rfl, Nat.le_of_ble_eq_true rfl, Nat.le_of_ble_eq_true rfl⟩ (fun h x => ?_)
          refine mj_if_eq 66 dX11_wouldTake_48 (by decide) (fun c_48 => ?_) (fun c_48 => ?_)
          · have y1 : inP (gbrd M) d k = false := bI_0.mp c_48
            refine mj_iconst (v := 0) dX11_wouldTake_66 rfl ?_
            refine mj_istore_n (ls' := [(3, _), (4, _), (0, _), (1, _), (2, _)]) dX11_wouldTake_67 (Nat.le_of_ble_eq_true rfl) rfl ?_
            refine mj_iinc (ls' := [(4, _), (3, _), (0, _), (1, _), (2, _)]) 1 dX11_wouldTake_68 rfl (nI_s _) (Nat.le_of_ble_eq_true rfl) rfl ?_
            refine mj_goto 26 dX11_wouldTake_71 (by decide) ?_
            exact mj_ls [0, 1, 2, 3, 4] rfl (ih (k + 1) _ _ (by omega) (by rw [u_tk_s, y0, y1]; first | done | rfl) x)
          · have y1 : inP (gbrd M) d k = true := bI_n0.mp c_48
            refine mj_aload_n 2 dX11_wouldTake_51 rfl ?_
            refine mj_iload_n 3 dX11_wouldTake_52 rfl ?_
            refine mj_iload_n 4 dX11_wouldTake_53 rfl ?_
            refine mj_iload 0 dX11_wouldTake_54 rfl ?_
            refine mS_cV1 x [_, _, _] dX11_wouldTake_56 cwX11_likesRider lkX11_218 rfl rfl rfl (cs_likesRider x (d := d) (r := r) (q := k) hd hr (by omega)) ⟨Nat.le_of_ble_eq_true rfl, Nat.le_of_ble_eq_true rfl, Nat.le_of_ble_eq_true rfl, Nat.le_of_ble_eq_true rfl, Nat.le_of_ble_eq_true rfl⟩ (fun h x => ?_)
            refine mj_if_eq 66 dX11_wouldTake_59 (by decide) (fun c_59 => ?_) (fun c_59 => ?_)
            · have y2 : u_lr (gcrd M) (gsol M) d r k = false := bI_0.mp c_59
              refine mj_iconst (v := 0) dX11_wouldTake_66 rfl ?_
              refine mj_istore_n (ls' := [(3, _), (4, _), (0, _), (1, _), (2, _)]) dX11_wouldTake_67 (Nat.le_of_ble_eq_true rfl) rfl ?_
              refine mj_iinc (ls' := [(4, _), (3, _), (0, _), (1, _), (2, _)]) 1 dX11_wouldTake_68 rfl (nI_s _) (Nat.le_of_ble_eq_true rfl) rfl ?_
              refine mj_goto 26 dX11_wouldTake_71 (by decide) ?_
              exact mj_ls [0, 1, 2, 3, 4] rfl (ih (k + 1) _ _ (by omega) (by rw [u_tk_s, y0, y1, y2]; first | done | rfl) x)
            · have y2 : u_lr (gcrd M) (gsol M) d r k = true := bI_n0.mp c_59
              refine mj_iconst (v := 1) dX11_wouldTake_62 rfl ?_
              refine mj_goto 67 dX11_wouldTake_63 (by decide) ?_
              refine mj_istore_n (ls' := [(3, _), (4, _), (0, _), (1, _), (2, _)]) dX11_wouldTake_67 (Nat.le_of_ble_eq_true rfl) rfl ?_
              refine mj_iinc (ls' := [(4, _), (3, _), (0, _), (1, _), (2, _)]) 1 dX11_wouldTake_68 rfl (nI_s _) (Nat.le_of_ble_eq_true rfl) rfl ?_
              refine mj_goto 26 dX11_wouldTake_71 (by decide) ?_
              exact mj_ls [0, 1, 2, 3, 4] rfl (ih (k + 1) _ _ (by omega) (by rw [u_tk_s, y0, y1, y2]; first | done | rfl) x)
  refine mj_aload_n 0 dX11_wouldTake_0 rfl ?_
  refine mj_iload_n 1 dX11_wouldTake_1 rfl ?_
  refine mS_cV1 x [_] dX11_wouldTake_2 cwX11_ridersIn lkX11_119 rfl rfl rfl (cs_ridersIn x (d := d) hnr h20) ⟨Nat.le_of_ble_eq_true rfl, Nat.le_of_ble_eq_true rfl, Nat.le_of_ble_eq_true rfl, Nat.le_of_ble_eq_true rfl, Nat.le_of_ble_eq_true rfl⟩ (fun h x => ?_)
  refine mj_cS1 [_] dX11_wouldTake_5 cwX11_countBits lkX11_230 rfl (cn_X11_countBits (f0 := 20) (by decide) (w_mask_cb (gbrd M) d h20).1) ⟨Nat.le_of_ble_eq_true rfl, Nat.le_of_ble_eq_true rfl, Nat.le_of_ble_eq_true rfl, Nat.le_of_ble_eq_true rfl, Nat.le_of_ble_eq_true rfl⟩ (fun h' e' => ?_)
  subst h'
  refine mj_eq (congrArg nI (w_mask_cb (gbrd M) d h20).2) ?_
  refine mj_aload_n 0 dX11_wouldTake_8 rfl ?_
  refine mj_iload_n 1 dX11_wouldTake_9 rfl ?_
  refine mj_iconst (v := 4) dX11_wouldTake_10 rfl ?_
  refine mS_cV1 x [_, _] dX11_wouldTake_11 cwX11_driver lkX11_68 rfl rfl rfl (cs_driver x (d := d) (f := 4) hd (by decide)) ⟨Nat.le_of_ble_eq_true rfl, Nat.le_of_ble_eq_true rfl, Nat.le_of_ble_eq_true rfl, Nat.le_of_ble_eq_true rfl, Nat.le_of_ble_eq_true rfl⟩ (fun h x => ?_)
  refine mj_icmp_ge 21 dX11_wouldTake_14 (by decide) (fun c_14 => ?_) (fun c_14 => ?_)
  · have y0 : u_tk (gbrd M) (gcrd M) (gsol M) d r nr 0 = false := decide_eq_false (Int32.not_lt.mpr c_14)
    refine mj_iconst (v := 0) dX11_wouldTake_21 rfl ?_
    refine mj_istore_n (ls' := [(3, _), (0, _), (1, _), (2, _)]) dX11_wouldTake_22 (Nat.le_of_ble_eq_true rfl) rfl ?_
    refine mj_iconst (v := 0) dX11_wouldTake_23 rfl ?_
    refine mj_istore (ls' := [(4, _), (3, _), (0, _), (1, _), (2, _)]) dX11_wouldTake_24 (Nat.le_of_ble_eq_true rfl) rfl ?_
    exact mj_ls [0, 1, 2, 3, 4] rfl (loop nr 0 _ h (by omega) (by rw [y0]; rfl) x)
  · have y0 : u_tk (gbrd M) (gcrd M) (gsol M) d r nr 0 = true := decide_eq_true (Int32.not_le.mp c_14)
    refine mj_iconst (v := 1) dX11_wouldTake_17 rfl ?_
    refine mj_goto 22 dX11_wouldTake_18 (by decide) ?_
    refine mj_istore_n (ls' := [(3, _), (0, _), (1, _), (2, _)]) dX11_wouldTake_22 (Nat.le_of_ble_eq_true rfl) rfl ?_
    refine mj_iconst (v := 0) dX11_wouldTake_23 rfl ?_
    refine mj_istore (ls' := [(4, _), (3, _), (0, _), (1, _), (2, _)]) dX11_wouldTake_24 (Nat.le_of_ble_eq_true rfl) rfl ?_
    exact mj_ls [0, 1, 2, 3, 4] rfl (loop nr 0 _ h (by omega) (by rw [y0]; rfl) x)
def u_blk (g : Nat → Int32) (c : Nat → Int64) (S : Nat → Int32) (nr r d : Nat) : Bool := u_ch g S d r && (!decide (gr g r 7 = nI d) && (u_go g S r d && u_tk g c S d r nr nr))
def w_blk (g : Nat → Int32) (c : Nat → Int64) (S : Nat → Int32) (nr nd : Nat) : Nat := i_pairs (u_blk g c S nr) nd nr
set_option maxRecDepth 100000 in
set_option maxHeartbeats 4000000 in
theorem cs_blockingPairs {K : KX} {n : Nat} {h : MH} {h0 : MH} {m : Nat} {M : MS} (x : Ms h0 m M h) {nr : Nat} (hnr : gbrd M 2 = nI nr) (h20 : nr ≤ 20) {nd : Nat} (hnd : gbrd M 1 = nI nd) (h8 : nd ≤ 8) (hQ : ∀ r, r < nr → gr (gbrd M) r 7 = -1 ∨ ∃ p, p < 8 ∧ gr (gbrd M) r 7 = nI p) : Con K mX11_blockingPairs [.ref m] 0 0 n h (fun r9 n9 h9 => ∃ S, SolW (gbrd M) nr nd S ∧ r9 = .inl (some (.int (nI (w_blk (gbrd M) (gcrd M) S nr nd)))) ∧ n9 = n ∧ Ms h0 m (ssol (sthr M 0) S) h9) := by
  refine Con.of (by decide +kernel) (Nat.le_of_ble_eq_true rfl) ?_
  refine mj_aload_n 0 dX11_blockingPairs_0 rfl ?_
  refine mj_iconst (v := 0) dX11_blockingPairs_1 rfl ?_
  refine mS_pthr dX11_blockingPairs_2 fgX11_61 x (fun h x => ?_)
  refine mj_aload_n 0 dX11_blockingPairs_5 rfl ?_
  refine mS_cV0 x [] dX11_blockingPairs_6 cwX11_findSolos lkX11_206 rfl rfl rfl (cs_findSolos x hnr h20 hnd h8) ⟨Nat.le_of_ble_eq_true rfl, Nat.le_of_ble_eq_true rfl, Nat.le_of_ble_eq_true rfl, Nat.le_of_ble_eq_true rfl, Nat.le_of_ble_eq_true rfl⟩ (fun h x => ?_)
  obtain ⟨S, hS, x⟩ := x
  refine mj_iconst (v := 0) dX11_blockingPairs_9 rfl ?_
  refine mj_istore_n (ls' := [(1, _), (0, _)]) dX11_blockingPairs_10 (Nat.le_of_ble_eq_true rfl) rfl ?_
  refine mj_iconst (v := 0) dX11_blockingPairs_11 rfl ?_
  refine mj_istore_n (ls' := [(2, _), (1, _), (0, _)]) dX11_blockingPairs_12 (Nat.le_of_ble_eq_true rfl) rfl ?_
  have outer : ∀ (f : Nat) (k : Nat) (h1 : MH), k + f = nr → Ms h0 m (ssol (sthr M 0) S) h1 → GG (K, mX11_blockingPairs, 0, 0, fun r9 n9 h9 => ∃ S, SolW (gbrd M) nr nd S ∧ r9 = .inl (some (.int (nI (w_blk (gbrd M) (gcrd M) S nr nd)))) ∧ n9 = n ∧ Ms h0 m (ssol (sthr M 0) S) h9) 0 0 13 [(2, .int (nI k)), (1, .int (nI (i_pairs (u_blk (gbrd M) (gcrd M) S nr) nd k))), (0, .ref m)] [] n h1 := by
    intro f
    induction f with
    | zero =>
      intro k h1 hk x
      refine mj_iload_n 0 dX11_blockingPairs_13 rfl ?_
      refine mj_aload_n 2 dX11_blockingPairs_14 rfl ?_
      refine mS_gbrd dX11_blockingPairs_15 fgX11_7 x ?_
      refine mj_iconst (v := 2) dX11_blockingPairs_18 rfl ?_
      refine mS_lbrd x ((show (2 : Int32).toInt = ((2 : Nat) : Int) from rfl)) (by first | assumption | omega | decide) dX11_blockingPairs_19 ?_
      refine mj_eq (hnr) ?_
      refine mj_icmp_ge 103 dX11_blockingPairs_20 (by decide) (fun c_20 => ?_) (fun c_20 => ?_)
      · refine mj_iload_n 1 dX11_blockingPairs_103 rfl ?_
        obtain rfl : k = nr := by omega
        exact mj_iret dX11_blockingPairs_104 rfl (Nat.le_of_ble_eq_true rfl) (Nat.le_of_ble_eq_true rfl) ⟨S, hS, rfl, rfl, x⟩
      · exact absurd (nI_le (by omega) (by omega)) c_20
    | succ f ih =>
      intro k h1 hk x
      have ihO : ∀ (h1 : MH), Ms h0 m (ssol (sthr M 0) S) h1 → GG (K, mX11_blockingPairs, 0, 0, fun r9 n9 h9 => ∃ S, SolW (gbrd M) nr nd S ∧ r9 = .inl (some (.int (nI (w_blk (gbrd M) (gcrd M) S nr nd)))) ∧ n9 = n ∧ Ms h0 m (ssol (sthr M 0) S) h9) 0 0 13 [(2, .int (nI (k + 1))), (1, .int (nI (i_pairs (u_blk (gbrd M) (gcrd M) S nr) nd (k + 1)))), (0, .ref m)] [] n h1 := fun h1 x => ih (k + 1) h1 (by omega) x
      have inner : ∀ (f : Nat) (o : Nat) (h1 : MH), o + f = nd → Ms h0 m (ssol (sthr M 0) S) h1 → GG (K, mX11_blockingPairs, 0, 0, fun r9 n9 h9 => ∃ S, SolW (gbrd M) nr nd S ∧ r9 = .inl (some (.int (nI (w_blk (gbrd M) (gcrd M) S nr nd)))) ∧ n9 = n ∧ Ms h0 m (ssol (sthr M 0) S) h9) 0 0 25 [(3, .int (nI o)), (2, .int (nI k)), (1, .int (nI (i_pairs (u_blk (gbrd M) (gcrd M) S nr) nd k + i_count (u_blk (gbrd M) (gcrd M) S nr k) o))), (0, .ref m)] [] n h1 := by
        intro f
        induction f with
        | zero =>
          intro o h1 hk x
          obtain rfl : o = nd := by omega
          refine mj_iload_n 0 dX11_blockingPairs_25 rfl ?_
          refine mj_aload_n 3 dX11_blockingPairs_26 rfl ?_
          refine mS_gbrd dX11_blockingPairs_27 fgX11_7 x ?_
          refine mj_iconst (v := 1) dX11_blockingPairs_30 rfl ?_
          refine mS_lbrd x ((show (1 : Int32).toInt = ((1 : Nat) : Int) from rfl)) (by first | assumption | omega | decide) dX11_blockingPairs_31 ?_
          refine mj_eq (hnd) ?_
          refine mj_icmp_ge 97 dX11_blockingPairs_32 (by decide) (fun c_32 => ?_) (fun c_32 => ?_)
          · refine mj_iinc (ls' := [(2, _), (3, _), (1, _), (0, _)]) 1 dX11_blockingPairs_97 rfl (nI_s _) (Nat.le_of_ble_eq_true rfl) rfl ?_
            refine mj_goto 13 dX11_blockingPairs_100 (by decide) ?_
            exact mj_ls [0, 2, 3] rfl (ihO _ x)
          · exact absurd (nI_le (by omega) (by omega)) c_32
        | succ f ih =>
          intro o h1 hk x
          refine mj_iload_n 0 dX11_blockingPairs_25 rfl ?_
          refine mj_aload_n 3 dX11_blockingPairs_26 rfl ?_
          refine mS_gbrd dX11_blockingPairs_27 fgX11_7 x ?_
          refine mj_iconst (v := 1) dX11_blockingPairs_30 rfl ?_
          refine mS_lbrd x ((show (1 : Int32).toInt = ((1 : Nat) : Int) from rfl)) (by first | assumption | omega | decide) dX11_blockingPairs_31 ?_
          refine mj_eq (hnd) ?_
          refine mj_icmp_ge 97 dX11_blockingPairs_32 (by decide) (fun c_32 => ?_) (fun c_32 => ?_)
          · exact absurd c_32 (nI_ge (by omega) (by omega))
          · refine mj_aload_n 3 dX11_blockingPairs_35 rfl ?_
            refine mj_iload_n 0 dX11_blockingPairs_36 rfl ?_
            refine mj_iload_n 1 dX11_blockingPairs_37 rfl ?_
            refine mS_cV1 x [_, _] dX11_blockingPairs_38 cwX11_isChoice lkX11_215 rfl rfl rfl (cs_isChoice x (d := o) (r := k) (by omega) (by omega)) ⟨Nat.le_of_ble_eq_true rfl, Nat.le_of_ble_eq_true rfl, Nat.le_of_ble_eq_true rfl, Nat.le_of_ble_eq_true rfl, Nat.le_of_ble_eq_true rfl⟩ (fun h x => ?_)
            refine mj_if_eq 75 dX11_blockingPairs_41 (by decide) (fun c_41 => ?_) (fun c_41 => ?_)
            · have y0 : u_ch (gbrd M) S o k = false := bI_0.mp c_41
              refine mj_iconst (v := 0) dX11_blockingPairs_75 rfl ?_
              refine mj_istore (ls' := [(4, _), (3, _), (2, _), (1, _), (0, _)]) dX11_blockingPairs_76 (Nat.le_of_ble_eq_true rfl) rfl ?_
              refine mj_iload_n 3 dX11_blockingPairs_78 rfl ?_
              refine mj_iload 0 dX11_blockingPairs_79 rfl ?_
              refine mj_if_eq 88 dX11_blockingPairs_81 (by decide) (fun c_81 => ?_) (fun c_81 => ?_)
              · refine mj_iconst (v := 0) dX11_blockingPairs_88 rfl ?_
                refine mj_iadd dX11_blockingPairs_89 ?_
                refine mj_istore_n (ls' := [(1, _), (4, _), (3, _), (2, _), (0, _)]) dX11_blockingPairs_90 (Nat.le_of_ble_eq_true rfl) rfl ?_
                refine mj_iinc (ls' := [(3, _), (1, _), (4, _), (2, _), (0, _)]) 2 dX11_blockingPairs_91 rfl (nI_s _) (Nat.le_of_ble_eq_true rfl) rfl ?_
                refine mj_goto 25 dX11_blockingPairs_94 (by decide) ?_
                exact mj_ls [0, 3, 1, 4] rfl (by
                  have q9 := ih (o + 1) h (by omega) x
                  rw [show i_count (u_blk (gbrd M) (gcrd M) S nr k) (o + 1) = i_count (u_blk (gbrd M) (gcrd M) S nr k) o by rw [i_count_s, if_neg (by show ¬ u_blk (gbrd M) (gcrd M) S nr k o = true; unfold u_blk; rw [y0, Bool.false_and]; decide)]; rfl, ← Int32.add_zero (nI (i_pairs (u_blk (gbrd M) (gcrd M) S nr) nd k + i_count (u_blk (gbrd M) (gcrd M) S nr k) o))] at q9
                  exact q9)
              · exact absurd (show (0 : Int32) = 0 from rfl) c_81
            · have y0 : u_ch (gbrd M) S o k = true := bI_n0.mp c_41
              refine mj_aload_n 3 dX11_blockingPairs_44 rfl ?_
              refine mj_iload_n 1 dX11_blockingPairs_45 rfl ?_
              refine mj_iload_n 0 dX11_blockingPairs_46 rfl ?_
              refine mS_cV1 x [_, _] dX11_blockingPairs_47 cwX11_isIn lkX11_115 rfl rfl rfl (cs_isIn x (r := k) (by omega)) ⟨Nat.le_of_ble_eq_true rfl, Nat.le_of_ble_eq_true rfl, Nat.le_of_ble_eq_true rfl, Nat.le_of_ble_eq_true rfl, Nat.le_of_ble_eq_true rfl⟩ (fun h x => ?_)
              refine mj_if_ne 75 dX11_blockingPairs_50 (by decide) (fun c_50 => ?_) (fun c_50 => ?_)
              · have y1 : decide (gr (gbrd M) k 7 = nI o) = true := bI_n0.mp c_50
                refine mj_iconst (v := 0) dX11_blockingPairs_75 rfl ?_
                refine mj_istore (ls' := [(4, _), (3, _), (2, _), (1, _), (0, _)]) dX11_blockingPairs_76 (Nat.le_of_ble_eq_true rfl) rfl ?_
                refine mj_iload_n 3 dX11_blockingPairs_78 rfl ?_
                refine mj_iload 0 dX11_blockingPairs_79 rfl ?_
                refine mj_if_eq 88 dX11_blockingPairs_81 (by decide) (fun c_81 => ?_) (fun c_81 => ?_)
                · refine mj_iconst (v := 0) dX11_blockingPairs_88 rfl ?_
                  refine mj_iadd dX11_blockingPairs_89 ?_
                  refine mj_istore_n (ls' := [(1, _), (4, _), (3, _), (2, _), (0, _)]) dX11_blockingPairs_90 (Nat.le_of_ble_eq_true rfl) rfl ?_
                  refine mj_iinc (ls' := [(3, _), (1, _), (4, _), (2, _), (0, _)]) 2 dX11_blockingPairs_91 rfl (nI_s _) (Nat.le_of_ble_eq_true rfl) rfl ?_
                  refine mj_goto 25 dX11_blockingPairs_94 (by decide) ?_
                  exact mj_ls [0, 3, 1, 4] rfl (by
                    have q9 := ih (o + 1) h (by omega) x
                    rw [show i_count (u_blk (gbrd M) (gcrd M) S nr k) (o + 1) = i_count (u_blk (gbrd M) (gcrd M) S nr k) o by rw [i_count_s, if_neg (by show ¬ u_blk (gbrd M) (gcrd M) S nr k o = true; unfold u_blk; rw [y1, Bool.not_true, Bool.false_and, Bool.and_false]; decide)]; rfl, ← Int32.add_zero (nI (i_pairs (u_blk (gbrd M) (gcrd M) S nr) nd k + i_count (u_blk (gbrd M) (gcrd M) S nr k) o))] at q9
                    exact q9)
                · exact absurd (show (0 : Int32) = 0 from rfl) c_81
              · have y1 : decide (gr (gbrd M) k 7 = nI o) = false := bI_0.mp c_50
                refine mj_aload_n 3 dX11_blockingPairs_53 rfl ?_
                refine mj_iload_n 1 dX11_blockingPairs_54 rfl ?_
                refine mj_iload_n 0 dX11_blockingPairs_55 rfl ?_
                refine mS_cV1 x [_, _] dX11_blockingPairs_56 cwX11_wouldGo lkX11_224 rfl rfl rfl (cs_wouldGo x (r := k) (d := o) (by omega) (by omega) (hQ k (by omega))) ⟨Nat.le_of_ble_eq_true rfl, Nat.le_of_ble_eq_true rfl, Nat.le_of_ble_eq_true rfl, Nat.le_of_ble_eq_true rfl, Nat.le_of_ble_eq_true rfl⟩ (fun h x => ?_)
                refine mj_if_eq 75 dX11_blockingPairs_59 (by decide) (fun c_59 => ?_) (fun c_59 => ?_)
                · have y2 : u_go (gbrd M) S k o = false := bI_0.mp c_59
                  refine mj_iconst (v := 0) dX11_blockingPairs_75 rfl ?_
                  refine mj_istore (ls' := [(4, _), (3, _), (2, _), (1, _), (0, _)]) dX11_blockingPairs_76 (Nat.le_of_ble_eq_true rfl) rfl ?_
                  refine mj_iload_n 3 dX11_blockingPairs_78 rfl ?_
                  refine mj_iload 0 dX11_blockingPairs_79 rfl ?_
                  refine mj_if_eq 88 dX11_blockingPairs_81 (by decide) (fun c_81 => ?_) (fun c_81 => ?_)
                  · refine mj_iconst (v := 0) dX11_blockingPairs_88 rfl ?_
                    refine mj_iadd dX11_blockingPairs_89 ?_
                    refine mj_istore_n (ls' := [(1, _), (4, _), (3, _), (2, _), (0, _)]) dX11_blockingPairs_90 (Nat.le_of_ble_eq_true rfl) rfl ?_
                    refine mj_iinc (ls' := [(3, _), (1, _), (4, _), (2, _), (0, _)]) 2 dX11_blockingPairs_91 rfl (nI_s _) (Nat.le_of_ble_eq_true rfl) rfl ?_
                    refine mj_goto 25 dX11_blockingPairs_94 (by decide) ?_
                    exact mj_ls [0, 3, 1, 4] rfl (by
                      have q9 := ih (o + 1) h (by omega) x
                      rw [show i_count (u_blk (gbrd M) (gcrd M) S nr k) (o + 1) = i_count (u_blk (gbrd M) (gcrd M) S nr k) o by rw [i_count_s, if_neg (by show ¬ u_blk (gbrd M) (gcrd M) S nr k o = true; unfold u_blk; rw [y2, Bool.false_and, Bool.and_false, Bool.and_false]; decide)]; rfl, ← Int32.add_zero (nI (i_pairs (u_blk (gbrd M) (gcrd M) S nr) nd k + i_count (u_blk (gbrd M) (gcrd M) S nr k) o))] at q9
                      exact q9)
                  · exact absurd (show (0 : Int32) = 0 from rfl) c_81
                · have y2 : u_go (gbrd M) S k o = true := bI_n0.mp c_59
                  refine mj_aload_n 3 dX11_blockingPairs_62 rfl ?_
                  refine mj_iload_n 0 dX11_blockingPairs_63 rfl ?_
                  refine mj_iload_n 1 dX11_blockingPairs_64 rfl ?_
                  refine mS_cV1 x [_, _] dX11_blockingPairs_65 cwX11_wouldTake lkX11_227 rfl rfl rfl (cs_wouldTake x (d := o) (r := k) (by omega) (by omega) hnr h20) ⟨Nat.le_of_ble_eq_true rfl, Nat.le_of_ble_eq_true rfl, Nat.le_of_ble_eq_true rfl, Nat.le_of_ble_eq_true rfl, Nat.le_of_ble_eq_true rfl⟩ (fun h x => ?_)
                  refine mj_if_eq 75 dX11_blockingPairs_68 (by decide) (fun c_68 => ?_) (fun c_68 => ?_)
                  · have y3 : u_tk (gbrd M) (gcrd M) S o k nr nr = false := bI_0.mp c_68
                    refine mj_iconst (v := 0) dX11_blockingPairs_75 rfl ?_
                    refine mj_istore (ls' := [(4, _), (3, _), (2, _), (1, _), (0, _)]) dX11_blockingPairs_76 (Nat.le_of_ble_eq_true rfl) rfl ?_
                    refine mj_iload_n 3 dX11_blockingPairs_78 rfl ?_
                    refine mj_iload 0 dX11_blockingPairs_79 rfl ?_
                    refine mj_if_eq 88 dX11_blockingPairs_81 (by decide) (fun c_81 => ?_) (fun c_81 => ?_)
                    · refine mj_iconst (v := 0) dX11_blockingPairs_88 rfl ?_
                      refine mj_iadd dX11_blockingPairs_89 ?_
                      refine mj_istore_n (ls' := [(1, _), (4, _), (3, _), (2, _), (0, _)]) dX11_blockingPairs_90 (Nat.le_of_ble_eq_true rfl) rfl ?_
                      refine mj_iinc (ls' := [(3, _), (1, _), (4, _), (2, _), (0, _)]) 2 dX11_blockingPairs_91 rfl (nI_s _) (Nat.le_of_ble_eq_true rfl) rfl ?_
                      refine mj_goto 25 dX11_blockingPairs_94 (by decide) ?_
                      exact mj_ls [0, 3, 1, 4] rfl (by
                        have q9 := ih (o + 1) h (by omega) x
                        rw [show i_count (u_blk (gbrd M) (gcrd M) S nr k) (o + 1) = i_count (u_blk (gbrd M) (gcrd M) S nr k) o by rw [i_count_s, if_neg (by show ¬ u_blk (gbrd M) (gcrd M) S nr k o = true; unfold u_blk; rw [y3, Bool.and_false, Bool.and_false, Bool.and_false]; decide)]; rfl, ← Int32.add_zero (nI (i_pairs (u_blk (gbrd M) (gcrd M) S nr) nd k + i_count (u_blk (gbrd M) (gcrd M) S nr k) o))] at q9
                        exact q9)
                    · exact absurd (show (0 : Int32) = 0 from rfl) c_81
                  · have y3 : u_tk (gbrd M) (gcrd M) S o k nr nr = true := bI_n0.mp c_68
                    refine mj_iconst (v := 1) dX11_blockingPairs_71 rfl ?_
                    refine mj_goto 76 dX11_blockingPairs_72 (by decide) ?_
                    refine mj_istore (ls' := [(4, _), (3, _), (2, _), (1, _), (0, _)]) dX11_blockingPairs_76 (Nat.le_of_ble_eq_true rfl) rfl ?_
                    refine mj_iload_n 3 dX11_blockingPairs_78 rfl ?_
                    refine mj_iload 0 dX11_blockingPairs_79 rfl ?_
                    refine mj_if_eq 88 dX11_blockingPairs_81 (by decide) (fun c_81 => ?_) (fun c_81 => ?_)
                    · exact absurd (show (1 : Int32) = 0 from c_81) (by decide)
                    · refine mj_iconst (v := 1) dX11_blockingPairs_84 rfl ?_
                      refine mj_goto 89 dX11_blockingPairs_85 (by decide) ?_
                      refine mj_iadd dX11_blockingPairs_89 ?_
                      refine mj_istore_n (ls' := [(1, _), (4, _), (3, _), (2, _), (0, _)]) dX11_blockingPairs_90 (Nat.le_of_ble_eq_true rfl) rfl ?_
                      refine mj_iinc (ls' := [(3, _), (1, _), (4, _), (2, _), (0, _)]) 2 dX11_blockingPairs_91 rfl (nI_s _) (Nat.le_of_ble_eq_true rfl) rfl ?_
                      refine mj_goto 25 dX11_blockingPairs_94 (by decide) ?_
                      exact mj_ls [0, 3, 1, 4] rfl (by
                        have q9 := ih (o + 1) h (by omega) x
                        rw [show i_count (u_blk (gbrd M) (gcrd M) S nr k) (o + 1) = i_count (u_blk (gbrd M) (gcrd M) S nr k) o + 1 by rw [i_count_s, if_pos (by show u_blk (gbrd M) (gcrd M) S nr k o = true; unfold u_blk; rw [y0, y1, y2, y3]; rfl)], ← Nat.add_assoc, ← nI_1 (i_pairs (u_blk (gbrd M) (gcrd M) S nr) nd k + i_count (u_blk (gbrd M) (gcrd M) S nr k) o)] at q9
                        exact q9)
      refine mj_iload_n 0 dX11_blockingPairs_13 rfl ?_
      refine mj_aload_n 2 dX11_blockingPairs_14 rfl ?_
      refine mS_gbrd dX11_blockingPairs_15 fgX11_7 x ?_
      refine mj_iconst (v := 2) dX11_blockingPairs_18 rfl ?_
      refine mS_lbrd x ((show (2 : Int32).toInt = ((2 : Nat) : Int) from rfl)) (by first | assumption | omega | decide) dX11_blockingPairs_19 ?_
      refine mj_eq (hnr) ?_
      refine mj_icmp_ge 103 dX11_blockingPairs_20 (by decide) (fun c_20 => ?_) (fun c_20 => ?_)
      · exact absurd c_20 (nI_ge (by omega) (by omega))
      · refine mj_iconst (v := 0) dX11_blockingPairs_23 rfl ?_
        refine mj_istore_n (ls' := [(3, _), (2, _), (1, _), (0, _)]) dX11_blockingPairs_24 (Nat.le_of_ble_eq_true rfl) rfl ?_
        exact mj_ls [0, 1, 2, 3] rfl (inner nd 0 _ (by omega) x)
  exact mj_ls [0, 1, 2] rfl (outer nr 0 _ (by omega) x)
