def txS (M : MS) (T : Nat → Int32) (l : Nat) : MS := stl (stxt M T) (nI l)
theorem txS_t (M : MS) (T T' : Nat → Int32) (l : Nat) : stxt (txS M T l) T' = txS M T' l := by
  show (_, _, vf_upd (vf_upd (mA M) 14 T) 14 T', _) = (_, _, vf_upd (mA M) 14 T', _)
  rw [vf_ss]
  rfl
theorem txS_l (M : MS) (T : Nat → Int32) (l l' : Nat) : stl (txS M T l) (nI l') = txS M T l' := by
  show (vf_upd (vf_upd (mF M) 22 (nI l)) 22 (nI l'), _) = (vf_upd (mF M) 22 (nI l'), _)
  rw [vf_ss]
  rfl
theorem txS_id (M : MS) (l : Nat) (h : gtl M = nI l) : txS M (gtxt M) l = M := by
  show (vf_upd (mF M) 22 (nI l), M.2.1, vf_upd (mA M) 14 (mA M 14), M.2.2.2) = M
  rw [← h, vf_id, vf_id]
  try rfl
def t_app2 (v : Int32) : Nat → (Nat → Int32) → Nat → Nat → Int32
  | 0, T, _ => T
  | f + 1, T, m => t_app2 v f (upd T m ((v >>> (nI (8 * f) &&& 31)) &&& 255)) (m + 1)
set_option maxRecDepth 100000 in
set_option maxHeartbeats 4000000 in
theorem cs_appendText_full {K : KX} {n : Nat} {h : MH} {h0 : MH} {m : Nat} {M : MS} (x : Ms h0 m M h) {v : Int32} {t : Nat} (ht : gtl M = nI t) (h6 : t ≤ 600) (hf : 600 < t + 4) : Con K mX11_appendText [.ref m, .int v] 0 0 n h (RetP (some (.int (0))) n (Ms h0 m (sthr M 1))) := by
  refine Con.of (by decide +kernel) (Nat.le_of_ble_eq_true rfl) ?_
  refine mj_aload_n 0 dX11_appendText_0 rfl ?_
  refine mj_iconst (v := 0) dX11_appendText_1 rfl ?_
  refine mS_pthr dX11_appendText_2 fgX11_61 x (fun h x => ?_)
  refine mj_aload_n 0 dX11_appendText_5 rfl ?_
  refine mS_gtl dX11_appendText_6 fgX11_277 x ?_
  refine mj_eq (ht) ?_
  refine mj_iconst (v := 4) dX11_appendText_9 rfl ?_
  refine mj_iadd dX11_appendText_10 ?_
  refine mj_eq (show nI t + 4 = nI (t + 4) from nI_add t 4) ?_
  refine mj_sipush (v := (600)) dX11_appendText_11 rfl ?_
  refine mj_icmp_le 23 dX11_appendText_14 (by decide) (fun c_14 => ?_) (fun c_14 => ?_)
  · exact absurd ((nI_leI (by omega) (by omega)).mp (show nI (t + 4) ≤ nI 600 from c_14)) (by omega)
  · refine mj_aload_n 0 dX11_appendText_17 rfl ?_
    refine mj_iconst (v := 1) dX11_appendText_18 rfl ?_
    refine mS_cV1 x [_] dX11_appendText_19 cwX11_fail lkX11_79 rfl rfl rfl (cs_fail x (v := 1)) ⟨Nat.le_of_ble_eq_true rfl, Nat.le_of_ble_eq_true rfl, Nat.le_of_ble_eq_true rfl, Nat.le_of_ble_eq_true rfl, Nat.le_of_ble_eq_true rfl⟩ (fun h x => ?_)
    exact mj_iret dX11_appendText_22 rfl (Nat.le_of_ble_eq_true rfl) (Nat.le_of_ble_eq_true rfl) ⟨rfl, rfl, (by rw [sthr_ss] at x; exact x)⟩
set_option maxRecDepth 100000 in
set_option maxHeartbeats 4000000 in
theorem cs_appendText {K : KX} {n : Nat} {h : MH} {h0 : MH} {m : Nat} {M : MS} (x : Ms h0 m M h) {v : Int32} {t : Nat} (ht : gtl M = nI t) (hf : t + 4 ≤ 600) {R : Nat → Int32} (hR : R = t_app2 v 4 (gtxt M) t) : Con K mX11_appendText [.ref m, .int v] 0 0 n h (RetP (some (.int (nI (t + 4)))) n (Ms h0 m (txS (sthr M 0) R (t + 4)))) := by
  refine Con.of (by decide +kernel) (Nat.le_of_ble_eq_true rfl) ?_
  have loop : ∀ (f0 l : Nat) (T : Nat → Int32) (h1 : MH), l + f0 = t + 4 → R = t_app2 v f0 T l → Ms h0 m (txS (sthr M 0) T l) h1 → GG (K, mX11_appendText, 0, 0, RetP (some (.int (nI (t + 4)))) n (Ms h0 m (txS (sthr M 0) R (t + 4)))) 0 0 26 [(2, .int (nI (8 * f0) + -8)), (0, .ref m), (1, .int v)] [] n h1 := by
    intro f0
    induction f0 with
    | zero =>
      intro l T h1 hk hR x
      obtain rfl : l = t + 4 := by omega
      refine mj_iload_n 0 dX11_appendText_26 rfl ?_
      refine mj_if_lt 62 dX11_appendText_27 (by decide) (fun c_27 => ?_) (fun c_27 => ?_)
      · refine mj_aload_n 1 dX11_appendText_62 rfl ?_
        refine mS_gtl dX11_appendText_63 fgX11_277 x ?_
        refine mj_eq (y := nI (t + 4)) rfl ?_
        exact mj_iret dX11_appendText_66 rfl (Nat.le_of_ble_eq_true rfl) (Nat.le_of_ble_eq_true rfl) ⟨rfl, rfl, (by rw [hR]; exact x)⟩
      · exact absurd (show (nI (8 * 0) + -8 : Int32) < 0 by decide) c_27
    | succ f0 ih =>
      intro l T h1 hk hR x
      have hs := sh_go f0
      refine mj_iload_n 0 dX11_appendText_26 rfl ?_
      refine mj_eq hs ?_
      refine mj_if_lt 62 dX11_appendText_27 (by decide) (fun c_27 => ?_) (fun c_27 => ?_)
      · exact absurd c_27 (nI_pos (by omega))
      · refine mj_aload_n 1 dX11_appendText_30 rfl ?_
        refine mS_gtxt dX11_appendText_31 fgX11_51 x ?_
        refine mj_aload_n 1 dX11_appendText_34 rfl ?_
        refine mS_gtl dX11_appendText_35 fgX11_277 x ?_
        refine mj_eq (y := nI l) rfl ?_
        refine mj_iload_n 2 dX11_appendText_38 rfl ?_
        refine mj_iload_n 0 dX11_appendText_39 rfl ?_
        refine mj_eq hs ?_
        refine mj_ishr dX11_appendText_40 ?_
        refine mj_sipush (v := (255)) dX11_appendText_41 rfl ?_
        refine mj_iand dX11_appendText_44 ?_
        refine mS_atxt x (ixn (by omega)) (show l < 600 by omega) dX11_appendText_45 (fun h x => ?_)
        rw [txS_t] at x
        refine mj_aload_n 1 dX11_appendText_46 rfl ?_
        refine mj_dup dX11_appendText_47 rfl ?_
        refine mS_gtl dX11_appendText_48 fgX11_277 x ?_
        refine mj_eq (y := nI l) rfl ?_
        refine mj_iconst (v := 1) dX11_appendText_51 rfl ?_
        refine mj_iadd dX11_appendText_52 ?_
        refine mj_eq (nI_1 _) ?_
        refine mS_ptl dX11_appendText_53 fgX11_277 x (fun h x => ?_)
        rw [txS_l] at x
        refine mj_iinc (v := _ + (-8)) (ls' := [(2, _), (0, _), (1, _)]) 0 dX11_appendText_56 rfl rfl (Nat.le_of_ble_eq_true rfl) rfl ?_
        refine mj_goto 26 dX11_appendText_59 (by decide) ?_
        exact mj_ls [0, 1, 2] rfl (by
          have q9 := ih (l + 1) _ h (by omega) hR x
          rw [← hs] at q9
          exact q9)
  refine mj_aload_n 0 dX11_appendText_0 rfl ?_
  refine mj_iconst (v := 0) dX11_appendText_1 rfl ?_
  refine mS_pthr dX11_appendText_2 fgX11_61 x (fun h x => ?_)
  refine mj_aload_n 0 dX11_appendText_5 rfl ?_
  refine mS_gtl dX11_appendText_6 fgX11_277 x ?_
  refine mj_eq (ht) ?_
  refine mj_iconst (v := 4) dX11_appendText_9 rfl ?_
  refine mj_iadd dX11_appendText_10 ?_
  refine mj_eq (show nI t + 4 = nI (t + 4) from nI_add t 4) ?_
  refine mj_sipush (v := (600)) dX11_appendText_11 rfl ?_
  refine mj_icmp_le 23 dX11_appendText_14 (by decide) (fun c_14 => ?_) (fun c_14 => ?_)
  · refine mj_bipush (v := (24)) dX11_appendText_23 rfl ?_
    refine mj_istore_n (ls' := [(2, _), (0, _), (1, _)]) dX11_appendText_25 (Nat.le_of_ble_eq_true rfl) rfl ?_
    exact mj_ls [0, 1, 2] rfl (loop 4 t (gtxt M) h (by omega) hR (by rw [show txS (sthr M 0) (gtxt M) t = sthr M 0 from txS_id (sthr M 0) t ht]; exact x))
  · exact absurd (show nI (t + 4) ≤ nI 600 from nI_le (by omega) (by omega)) c_14
set_option maxRecDepth 100000 in
set_option maxHeartbeats 4000000 in
theorem cs_truncateText_arg {K : KX} {n : Nat} {h : MH} {h0 : MH} {m : Nat} {M : MS} (x : Ms h0 m M h) {v : Int32} (hb : b_in v 0 (gtl M) = false) : Con K mX11_truncateText [.ref m, .int v] 0 0 n h (RetP (some (.int (0))) n (Ms h0 m (sthr M 1))) := by
  refine Con.of (by decide +kernel) (Nat.le_of_ble_eq_true rfl) ?_
  refine mj_aload_n 0 dX11_truncateText_0 rfl ?_
  refine mj_iconst (v := 0) dX11_truncateText_1 rfl ?_
  refine mS_pthr dX11_truncateText_2 fgX11_61 x (fun h x => ?_)
  refine mj_iload_n 1 dX11_truncateText_5 rfl ?_
  refine mj_iconst (v := 0) dX11_truncateText_6 rfl ?_
  refine mj_aload_n 0 dX11_truncateText_7 rfl ?_
  refine mS_gtl dX11_truncateText_8 fgX11_277 x ?_
  refine mj_cS1 [_, _, _] dX11_truncateText_11 cwX11_isBetween lkX11_64 rfl (cn_X11_isBetween _ _ _) ⟨Nat.le_of_ble_eq_true rfl, Nat.le_of_ble_eq_true rfl, Nat.le_of_ble_eq_true rfl, Nat.le_of_ble_eq_true rfl, Nat.le_of_ble_eq_true rfl⟩ (fun h' e' => ?_)
  subst h'
  refine mj_if_ne 23 dX11_truncateText_14 (by decide) (fun c_14 => ?_) (fun c_14 => ?_)
  · exact absurd ((bI_n0.mp c_14).symm.trans hb) (by decide)
  · refine mj_aload_n 0 dX11_truncateText_17 rfl ?_
    refine mj_iconst (v := 1) dX11_truncateText_18 rfl ?_
    refine mS_cV1 x [_] dX11_truncateText_19 cwX11_fail lkX11_79 rfl rfl rfl (cs_fail x (v := 1)) ⟨Nat.le_of_ble_eq_true rfl, Nat.le_of_ble_eq_true rfl, Nat.le_of_ble_eq_true rfl, Nat.le_of_ble_eq_true rfl, Nat.le_of_ble_eq_true rfl⟩ (fun h x => ?_)
    exact mj_iret dX11_truncateText_22 rfl (Nat.le_of_ble_eq_true rfl) (Nat.le_of_ble_eq_true rfl) ⟨rfl, rfl, (by rw [sthr_ss] at x; exact x)⟩
set_option maxRecDepth 100000 in
set_option maxHeartbeats 4000000 in
theorem cs_truncateText {K : KX} {n : Nat} {h : MH} {h0 : MH} {m : Nat} {M : MS} (x : Ms h0 m M h) {v : Int32} (hb : b_in v 0 (gtl M) = true) : Con K mX11_truncateText [.ref m, .int v] 0 0 n h (RetP (some (.int (v))) n (Ms h0 m (stl (sthr M 0) v))) := by
  refine Con.of (by decide +kernel) (Nat.le_of_ble_eq_true rfl) ?_
  refine mj_aload_n 0 dX11_truncateText_0 rfl ?_
  refine mj_iconst (v := 0) dX11_truncateText_1 rfl ?_
  refine mS_pthr dX11_truncateText_2 fgX11_61 x (fun h x => ?_)
  refine mj_iload_n 1 dX11_truncateText_5 rfl ?_
  refine mj_iconst (v := 0) dX11_truncateText_6 rfl ?_
  refine mj_aload_n 0 dX11_truncateText_7 rfl ?_
  refine mS_gtl dX11_truncateText_8 fgX11_277 x ?_
  refine mj_cS1 [_, _, _] dX11_truncateText_11 cwX11_isBetween lkX11_64 rfl (cn_X11_isBetween _ _ _) ⟨Nat.le_of_ble_eq_true rfl, Nat.le_of_ble_eq_true rfl, Nat.le_of_ble_eq_true rfl, Nat.le_of_ble_eq_true rfl, Nat.le_of_ble_eq_true rfl⟩ (fun h' e' => ?_)
  subst h'
  refine mj_if_ne 23 dX11_truncateText_14 (by decide) (fun c_14 => ?_) (fun c_14 => ?_)
  · refine mj_aload_n 0 dX11_truncateText_23 rfl ?_
    refine mj_iload_n 1 dX11_truncateText_24 rfl ?_
    refine mS_ptl dX11_truncateText_25 fgX11_277 x (fun h x => ?_)
    refine mj_aload_n 0 dX11_truncateText_28 rfl ?_
    refine mS_gtl dX11_truncateText_29 fgX11_277 x ?_
    exact mj_iret dX11_truncateText_32 rfl (Nat.le_of_ble_eq_true rfl) (Nat.le_of_ble_eq_true rfl) ⟨rfl, rfl, x⟩
  · exact absurd ((bI_0.mp c_14).symm.trans hb) (by decide)
set_option maxRecDepth 100000 in
set_option maxHeartbeats 4000000 in
theorem cs_errorCode {K : KX} {n : Nat} {h : MH} {h0 : MH} {m : Nat} {M : MS} (x : Ms h0 m M h)  : Con K mX11_errorCode [.ref m] 0 0 n h (RetP (some (.int (gec M))) n (Ms h0 m (sthr M 0))) := by
  refine Con.of (by decide +kernel) (Nat.le_of_ble_eq_true rfl) ?_
  refine mj_aload_n 0 dX11_errorCode_0 rfl ?_
  refine mj_iconst (v := 0) dX11_errorCode_1 rfl ?_
  refine mS_pthr dX11_errorCode_2 fgX11_61 x (fun h x => ?_)
  refine mj_aload_n 0 dX11_errorCode_5 rfl ?_
  refine mS_gec dX11_errorCode_6 fgX11_322 x ?_
  exact mj_iret dX11_errorCode_9 rfl (Nat.le_of_ble_eq_true rfl) (Nat.le_of_ble_eq_true rfl) ⟨rfl, rfl, x⟩
set_option maxRecDepth 100000 in
set_option maxHeartbeats 4000000 in
theorem cs_errorPosition {K : KX} {n : Nat} {h : MH} {h0 : MH} {m : Nat} {M : MS} (x : Ms h0 m M h)  : Con K mX11_errorPosition [.ref m] 0 0 n h (RetP (some (.int (gep M))) n (Ms h0 m (sthr M 0))) := by
  refine Con.of (by decide +kernel) (Nat.le_of_ble_eq_true rfl) ?_
  refine mj_aload_n 0 dX11_errorPosition_0 rfl ?_
  refine mj_iconst (v := 0) dX11_errorPosition_1 rfl ?_
  refine mS_pthr dX11_errorPosition_2 fgX11_61 x (fun h x => ?_)
  refine mj_aload_n 0 dX11_errorPosition_5 rfl ?_
  refine mS_gep dX11_errorPosition_6 fgX11_54 x ?_
  exact mj_iret dX11_errorPosition_9 rfl (Nat.le_of_ble_eq_true rfl) (Nat.le_of_ble_eq_true rfl) ⟨rfl, rfl, x⟩
set_option maxRecDepth 100000 in
set_option maxHeartbeats 4000000 in
theorem cs_byteAt {K : KX} {n : Nat} {h : MH} {h0 : MH} {m : Nat} {M : MS} (x : Ms h0 m M h) {t j : Nat} (ht : gtl M = nI t) (h6 : t ≤ 600) (hj : j ≤ 1000) : Con K mX11_byteAt [.ref m, .int (nI j)] 0 0 n h (RetP (some (.int (k_at (gtxt M) t j))) n (Ms h0 m (M))) := by
  refine Con.of (by decide +kernel) (Nat.le_of_ble_eq_true rfl) ?_
  refine mj_iload_n 1 dX11_byteAt_0 rfl ?_
  refine mj_aload_n 0 dX11_byteAt_1 rfl ?_
  refine mS_gtl dX11_byteAt_2 fgX11_277 x ?_
  refine mj_eq (ht) ?_
  refine mj_icmp_ge 17 dX11_byteAt_5 (by decide) (fun c_5 => ?_) (fun c_5 => ?_)
  · have z : ¬ j < t := fun z => absurd c_5 (nI_ge (by omega) (by omega))
    refine mj_iconst (v := (-1)) dX11_byteAt_17 rfl ?_
    exact mj_iret dX11_byteAt_18 rfl (Nat.le_of_ble_eq_true rfl) (Nat.le_of_ble_eq_true rfl) ⟨(by unfold k_at; first | rw [if_pos z] | rw [if_neg z]), rfl, x⟩
  · have z : j < t := Nat.lt_of_not_le fun z => c_5 (nI_le z (by omega))
    refine mj_aload_n 0 dX11_byteAt_8 rfl ?_
    refine mS_gtxt dX11_byteAt_9 fgX11_51 x ?_
    refine mj_iload_n 1 dX11_byteAt_12 rfl ?_
    refine mS_ltxt x (ixn (by omega)) (by omega) dX11_byteAt_13 ?_
    refine mj_goto 18 dX11_byteAt_14 (by decide) ?_
    exact mj_iret dX11_byteAt_18 rfl (Nat.le_of_ble_eq_true rfl) (Nat.le_of_ble_eq_true rfl) ⟨(by unfold k_at; first | rw [if_pos z] | rw [if_neg z]), rfl, x⟩
-- THE REFERENCE'S TOKENS: position, start, token, letters, number, word, error's code and position
abbrev ZS : Type := Nat × Nat × Int32 × Nat × Int32 × Int64 × Int32 × Int32
abbrev zpos (Z : ZS) : Nat := Z.1
abbrev ztst (Z : ZS) : Nat := Z.2.1
abbrev ztok (Z : ZS) : Int32 := Z.2.2.1
abbrev zlet (Z : ZS) : Nat := Z.2.2.2.1
abbrev znum (Z : ZS) : Int32 := Z.2.2.2.2.1
abbrev zwrd (Z : ZS) : Int64 := Z.2.2.2.2.2.1
abbrev zec (Z : ZS) : Int32 := Z.2.2.2.2.2.2.1
abbrev zep (Z : ZS) : Int32 := Z.2.2.2.2.2.2.2
def zF (M : MS) (Z : ZS) : Nat → Int32 := fun k => if k = 23 then nI (zpos Z) else if k = 24 then nI (ztst Z) else if k = 25 then ztok Z else if k = 26 then nI (zlet Z) else if k = 27 then znum Z else if k = 28 then zec Z else if k = 29 then zep Z else mF M k
def tkS (M : MS) (Z : ZS) : MS := (zF M Z, zwrd Z, M.2.2)
theorem tkS_pos (M : MS) (p t : Nat) (k : Int32) (l : Nat) (nn : Int32) (w : Int64) (e ep : Int32) (v : Nat) : spos (tkS M (p, t, k, l, nn, w, e, ep)) (nI v) = tkS M (v, t, k, l, nn, w, e, ep) := by
  refine Prod.ext (funext fun j => ?_) rfl
  show (if j = 23 then nI v else zF M (p, t, k, l, nn, w, e, ep) j) = zF M (v, t, k, l, nn, w, e, ep) j
  unfold zF
  (repeat' split) <;> first | rfl | omega
theorem tkS_tst (M : MS) (p t : Nat) (k : Int32) (l : Nat) (nn : Int32) (w : Int64) (e ep : Int32) (v : Nat) : stst (tkS M (p, t, k, l, nn, w, e, ep)) (nI v) = tkS M (p, v, k, l, nn, w, e, ep) := by
  refine Prod.ext (funext fun j => ?_) rfl
  show (if j = 24 then nI v else zF M (p, t, k, l, nn, w, e, ep) j) = zF M (p, v, k, l, nn, w, e, ep) j
  unfold zF
  (repeat' split) <;> first | rfl | omega
theorem tkS_tok (M : MS) (p t : Nat) (k : Int32) (l : Nat) (nn : Int32) (w : Int64) (e ep : Int32) (v : Int32) : stok (tkS M (p, t, k, l, nn, w, e, ep)) (v) = tkS M (p, t, v, l, nn, w, e, ep) := by
  refine Prod.ext (funext fun j => ?_) rfl
  show (if j = 25 then v else zF M (p, t, k, l, nn, w, e, ep) j) = zF M (p, t, v, l, nn, w, e, ep) j
  unfold zF
  (repeat' split) <;> first | rfl | omega
theorem tkS_let (M : MS) (p t : Nat) (k : Int32) (l : Nat) (nn : Int32) (w : Int64) (e ep : Int32) (v : Nat) : slet (tkS M (p, t, k, l, nn, w, e, ep)) (nI v) = tkS M (p, t, k, v, nn, w, e, ep) := by
  refine Prod.ext (funext fun j => ?_) rfl
  show (if j = 26 then nI v else zF M (p, t, k, l, nn, w, e, ep) j) = zF M (p, t, k, v, nn, w, e, ep) j
  unfold zF
  (repeat' split) <;> first | rfl | omega
theorem tkS_num (M : MS) (p t : Nat) (k : Int32) (l : Nat) (nn : Int32) (w : Int64) (e ep : Int32) (v : Int32) : snum (tkS M (p, t, k, l, nn, w, e, ep)) (v) = tkS M (p, t, k, l, v, w, e, ep) := by
  refine Prod.ext (funext fun j => ?_) rfl
  show (if j = 27 then v else zF M (p, t, k, l, nn, w, e, ep) j) = zF M (p, t, k, l, v, w, e, ep) j
  unfold zF
  (repeat' split) <;> first | rfl | omega
theorem tkS_ec (M : MS) (p t : Nat) (k : Int32) (l : Nat) (nn : Int32) (w : Int64) (e ep : Int32) (v : Int32) : sec (tkS M (p, t, k, l, nn, w, e, ep)) (v) = tkS M (p, t, k, l, nn, w, v, ep) := by
  refine Prod.ext (funext fun j => ?_) rfl
  show (if j = 28 then v else zF M (p, t, k, l, nn, w, e, ep) j) = zF M (p, t, k, l, nn, w, v, ep) j
  unfold zF
  (repeat' split) <;> first | rfl | omega
theorem tkS_ep (M : MS) (p t : Nat) (k : Int32) (l : Nat) (nn : Int32) (w : Int64) (e ep : Int32) (v : Int32) : sep (tkS M (p, t, k, l, nn, w, e, ep)) (v) = tkS M (p, t, k, l, nn, w, e, v) := by
  refine Prod.ext (funext fun j => ?_) rfl
  show (if j = 29 then v else zF M (p, t, k, l, nn, w, e, ep) j) = zF M (p, t, k, l, nn, w, e, v) j
  unfold zF
  (repeat' split) <;> first | rfl | omega
theorem tkS_wrd (M : MS) (p t : Nat) (k : Int32) (l : Nat) (nn : Int32) (w : Int64) (e ep : Int32) (v : Int64) : swrd (tkS M (p, t, k, l, nn, w, e, ep)) v = tkS M (p, t, k, l, nn, v, e, ep) := rfl
