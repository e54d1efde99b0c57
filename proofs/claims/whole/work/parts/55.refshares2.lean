def dp_x (cost S : Int32) (W : List Int32) (j : Nat) : Int32 := cost * W.getD j 0 / S
def dp_fr (cost S : Int32) (W : List Int32) (j : Nat) : Int32 := cost * W.getD j 0 - cost * W.getD j 0 / S * S
def dp_to (cost S : Int32) (W : List Int32) (pl : Nat) : Nat → Int32 × Int32
  | 0 => (cost, 0)
  | k + 1 => ((dp_to cost S W pl k).1 - dp_x cost S W k, (dp_to cost S W pl k).2 + if dp_fr cost S W pl < dp_fr cost S W k ∨ (dp_fr cost S W k = dp_fr cost S W pl ∧ k < pl) then 1 else 0)
theorem dp_to_s (cost S : Int32) (W : List Int32) (pl k : Nat) : dp_to cost S W pl (k + 1) = ((dp_to cost S W pl k).1 - dp_x cost S W k, (dp_to cost S W pl k).2 + if dp_fr cost S W pl < dp_fr cost S W k ∨ (dp_fr cost S W k = dp_fr cost S W pl ∧ k < pl) then 1 else 0) := rfl
def dp (cost S : Int32) (W : List Int32) (pl : Nat) : Int32 := dp_x cost S W pl + if (dp_to cost S W pl W.length).2 < (dp_to cost S W pl W.length).1 then 1 else 0
def w_dc (g : Nat → Int32) (d : Nat) (l : List Int32) : Int32 := (w_len g d l - w_dir g d) * gd g d 7
theorem rowL_w {f : Nat → Int32} {l : List Int32} (h : rowL f l.length = l) {j : Nat} (hj : j < l.length) : f j = l.getD j 0 := by
  have q : (rowL f l.length).getD j 0 = l.getD j 0 := congrArg (fun z : List Int32 => z.getD j 0) h
  rw [← q]
  exact (rowL_d f hj).symm
set_option maxRecDepth 100000 in
set_option maxHeartbeats 4000000 in
theorem cn_X11_detourPart {K : KX} {n : Nat} {h : MH} {h0 : MH} {m : Nat} {M : MS} (x : Md h0 m M h) {d pl : Nat} {l W : List Int32} {S : Int32} (hd : d < 8) (hg : Rok (gbrd M) d l) (hw : gws M = S) (hW : rowL (gwei M) W.length = W) (hS : ¬ S = 0) (h20 : W.length ≤ 20) (hpl : pl < W.length) : Con K mX11_detourPart [.ref m, .int (nI d), .int (nI W.length), .int (nI pl)] 0 0 n h (RetP (some (.int (dp (w_dc (gbrd M) d l) S W pl))) n (fun h9 => ∃ M9, Md h0 m M9 h9 ∧ Sr M M9)) := by
  refine Con.of (by decide +kernel) (Nat.le_of_ble_eq_true rfl) ?_
  refine mj_aload_n 0 dX11_detourPart_0 rfl ?_
  refine mj_iload_n 1 dX11_detourPart_1 rfl ?_
  refine mj_cV1 [_] (RX11, TX11, 32) dX11_detourPart_2 cwX11_lengthOf lkX11_163 x.ko rfl rfl rfl rfl (cr_lengthOf x hd hg) ⟨Nat.le_of_ble_eq_true rfl, Nat.le_of_ble_eq_true rfl, Nat.le_of_ble_eq_true rfl, Nat.le_of_ble_eq_true rfl, Nat.le_of_ble_eq_true rfl⟩ (fun h x => ?_)
  obtain ⟨M1, x, me⟩ := x
  have sr : Sr M M1 := me.1
  refine mj_aload_n 0 dX11_detourPart_5 rfl ?_
  refine mj_iload_n 1 dX11_detourPart_6 rfl ?_
  refine mj_cV1 [_] (RX11, TX11, 32) dX11_detourPart_7 cwX11_directLength lkX11_102 x.ko rfl rfl rfl rfl (cn_X11_directLength x hd) ⟨Nat.le_of_ble_eq_true rfl, Nat.le_of_ble_eq_true rfl, Nat.le_of_ble_eq_true rfl, Nat.le_of_ble_eq_true rfl, Nat.le_of_ble_eq_true rfl⟩ (fun h x => ?_)
  refine mj_eq (show w_dir (gbrd M1) d = w_dir (gbrd M) d by rw [sr.d]) ?_
  refine mj_isub dX11_detourPart_10 ?_
  refine mj_aload_n 0 dX11_detourPart_11 rfl ?_
  refine mj_iload_n 1 dX11_detourPart_12 rfl ?_
  refine mj_bipush (v := (7)) dX11_detourPart_13 rfl ?_
  refine mj_cV1 [_, _] (RX11, TX11, 32) dX11_detourPart_15 cwX11_driver lkX11_68 x.ko rfl rfl rfl rfl (cn_X11_driver x (d := d) (f := 7) hd (by decide)) ⟨Nat.le_of_ble_eq_true rfl, Nat.le_of_ble_eq_true rfl, Nat.le_of_ble_eq_true rfl, Nat.le_of_ble_eq_true rfl, Nat.le_of_ble_eq_true rfl⟩ (fun h x => ?_)
  refine mj_eq (congrFun sr.d _) ?_
  refine mj_imul dX11_detourPart_18 ?_
  refine mj_istore (ls' := [(4, _), (0, _), (1, _), (2, _), (3, _)]) dX11_detourPart_19 (Nat.le_of_ble_eq_true rfl) rfl ?_
  refine mj_iload 0 dX11_detourPart_21 rfl ?_
  refine mj_istore (ls' := [(5, _), (4, _), (0, _), (1, _), (2, _), (3, _)]) dX11_detourPart_23 (Nat.le_of_ble_eq_true rfl) rfl ?_
  refine mj_iconst (v := 0) dX11_detourPart_25 rfl ?_
  refine mj_istore (ls' := [(6, _), (5, _), (4, _), (0, _), (1, _), (2, _), (3, _)]) dX11_detourPart_26 (Nat.le_of_ble_eq_true rfl) rfl ?_
  refine mj_iload 2 dX11_detourPart_28 rfl ?_
  refine mj_aload_n 3 dX11_detourPart_30 rfl ?_
  refine mj_getf dX11_detourPart_31 fgX11_48 x.ko rfl ?_
  refine mj_iload_n 6 dX11_detourPart_34 rfl ?_
  refine mj_iald x.kwei (ixn (by omega)) (show pl < 20 by omega) dX11_detourPart_35 ?_
  refine mj_eq ((congrFun (sr.a 13 rfl) _).trans (rowL_w hW (show pl < W.length by omega))) ?_
  refine mj_imul dX11_detourPart_36 ?_
  refine mj_aload_n 3 dX11_detourPart_37 rfl ?_
  refine mj_getf dX11_detourPart_38 fgX11_254 x.ko rfl ?_
  refine mj_eq ((sr.f 20 rfl).trans hw) ?_
  refine mj_irem dX11_detourPart_41 hS ?_
  refine mj_eq (y := dp_fr (w_dc (gbrd M) d l) S W pl) rfl ?_
  refine mj_istore (ls' := [(7, _), (6, _), (5, _), (4, _), (0, _), (1, _), (2, _), (3, _)]) dX11_detourPart_42 (Nat.le_of_ble_eq_true rfl) rfl ?_
  refine mj_iconst (v := 0) dX11_detourPart_44 rfl ?_
  refine mj_istore (ls' := [(8, _), (7, _), (6, _), (5, _), (4, _), (0, _), (1, _), (2, _), (3, _)]) dX11_detourPart_45 (Nat.le_of_ble_eq_true rfl) rfl ?_
  have loop : ∀ (f : Nat) (k : Nat) (le ah : Int32), k + f = W.length → dp_to (w_dc (gbrd M) d l) S W pl k = (le, ah) → GG (K, mX11_detourPart, 0, 0, RetP (some (.int (dp (w_dc (gbrd M) d l) S W pl))) n (fun h9 => ∃ M9, Md h0 m M9 h9 ∧ Sr M M9)) 0 0 47 [(8, .int (nI k)), (7, .int (dp_fr (w_dc (gbrd M) d l) S W pl)), (6, .int (ah)), (5, .int (le)), (4, .int (w_dc (gbrd M) d l)), (0, .ref m), (1, .int (nI d)), (2, .int (nI W.length)), (3, .int (nI pl))] [] n h := by
    intro f
    induction f with
    | zero =>
      intro k le ah hk hs
      refine mj_iload 0 dX11_detourPart_47 rfl ?_
      refine mj_iload_n 7 dX11_detourPart_49 rfl ?_
      refine mj_icmp_ge 126 dX11_detourPart_50 (by decide) (fun c_50 => ?_) (fun c_50 => ?_)
      · refine mj_iload 4 dX11_detourPart_126 rfl ?_
        refine mj_aload_n 5 dX11_detourPart_128 rfl ?_
        refine mj_getf dX11_detourPart_129 fgX11_48 x.ko rfl ?_
        refine mj_iload_n 8 dX11_detourPart_132 rfl ?_
        refine mj_iald x.kwei (ixn (by omega)) (show pl < 20 by omega) dX11_detourPart_133 ?_
        refine mj_eq ((congrFun (sr.a 13 rfl) _).trans (rowL_w hW (show pl < W.length by omega))) ?_
        refine mj_imul dX11_detourPart_134 ?_
        refine mj_aload_n 5 dX11_detourPart_135 rfl ?_
        refine mj_getf dX11_detourPart_136 fgX11_254 x.ko rfl ?_
        refine mj_eq ((sr.f 20 rfl).trans hw) ?_
        refine mj_idiv dX11_detourPart_139 hS ?_
        refine mj_eq (y := dp_x (w_dc (gbrd M) d l) S W pl) rfl ?_
        refine mj_iload 2 dX11_detourPart_140 rfl ?_
        refine mj_iload 3 dX11_detourPart_142 rfl ?_
        refine mj_icmp_ge 151 dX11_detourPart_144 (by decide) (fun c_144 => ?_) (fun c_144 => ?_)
        · refine mj_iconst (v := 0) dX11_detourPart_151 rfl ?_
          refine mj_iadd dX11_detourPart_152 ?_
          exact mj_iret dX11_detourPart_153 rfl (Nat.le_of_ble_eq_true rfl) (Nat.le_of_ble_eq_true rfl) ⟨(by unfold dp; rw [show W.length = k by omega, hs, if_neg (Int32.not_lt.mpr c_144)]), rfl, M1, x, sr⟩
        · refine mj_iconst (v := 1) dX11_detourPart_147 rfl ?_
          refine mj_goto 152 dX11_detourPart_148 (by decide) ?_
          refine mj_iadd dX11_detourPart_152 ?_
          exact mj_iret dX11_detourPart_153 rfl (Nat.le_of_ble_eq_true rfl) (Nat.le_of_ble_eq_true rfl) ⟨(by unfold dp; rw [show W.length = k by omega, hs, if_pos (Int32.not_le.mp c_144)]), rfl, M1, x, sr⟩
      · exact absurd (nI_le (by omega) (by omega)) c_50
    | succ f ih =>
      intro k le ah hk hs
      refine mj_iload 0 dX11_detourPart_47 rfl ?_
      refine mj_iload_n 7 dX11_detourPart_49 rfl ?_
      refine mj_icmp_ge 126 dX11_detourPart_50 (by decide) (fun c_50 => ?_) (fun c_50 => ?_)
      · exact absurd c_50 (nI_ge (by omega) (by omega))
      · refine mj_iload 4 dX11_detourPart_53 rfl ?_
        refine mj_aload_n 5 dX11_detourPart_55 rfl ?_
        refine mj_getf dX11_detourPart_56 fgX11_48 x.ko rfl ?_
        refine mj_iload 0 dX11_detourPart_59 rfl ?_
        refine mj_iald x.kwei (ixn (by omega)) (show k < 20 by omega) dX11_detourPart_61 ?_
        refine mj_eq ((congrFun (sr.a 13 rfl) _).trans (rowL_w hW (show k < W.length by omega))) ?_
        refine mj_imul dX11_detourPart_62 ?_
        refine mj_aload_n 5 dX11_detourPart_63 rfl ?_
        refine mj_getf dX11_detourPart_64 fgX11_254 x.ko rfl ?_
        refine mj_eq ((sr.f 20 rfl).trans hw) ?_
        refine mj_irem dX11_detourPart_67 hS ?_
        refine mj_eq (y := dp_fr (w_dc (gbrd M) d l) S W k) rfl ?_
        refine mj_istore (ls' := [(9, _), (8, _), (7, _), (6, _), (5, _), (4, _), (0, _), (1, _), (2, _), (3, _)]) dX11_detourPart_68 (Nat.le_of_ble_eq_true rfl) rfl ?_
        refine mj_iload 4 dX11_detourPart_70 rfl ?_
        refine mj_iload 5 dX11_detourPart_72 rfl ?_
        refine mj_aload_n 6 dX11_detourPart_74 rfl ?_
        refine mj_getf dX11_detourPart_75 fgX11_48 x.ko rfl ?_
        refine mj_iload 1 dX11_detourPart_78 rfl ?_
        refine mj_iald x.kwei (ixn (by omega)) (show k < 20 by omega) dX11_detourPart_80 ?_
        refine mj_eq ((congrFun (sr.a 13 rfl) _).trans (rowL_w hW (show k < W.length by omega))) ?_
        refine mj_imul dX11_detourPart_81 ?_
        refine mj_aload_n 6 dX11_detourPart_82 rfl ?_
        refine mj_getf dX11_detourPart_83 fgX11_254 x.ko rfl ?_
        refine mj_eq ((sr.f 20 rfl).trans hw) ?_
        refine mj_idiv dX11_detourPart_86 hS ?_
        refine mj_eq (y := dp_x (w_dc (gbrd M) d l) S W k) rfl ?_
        refine mj_isub dX11_detourPart_87 ?_
        refine mj_istore (ls' := [(5, _), (9, _), (8, _), (7, _), (6, _), (4, _), (0, _), (1, _), (2, _), (3, _)]) dX11_detourPart_88 (Nat.le_of_ble_eq_true rfl) rfl ?_
        refine mj_iload 4 dX11_detourPart_90 rfl ?_
        refine mj_iload 1 dX11_detourPart_92 rfl ?_
        refine mj_iload 3 dX11_detourPart_94 rfl ?_
        refine mj_icmp_gt 112 dX11_detourPart_96 (by decide) (fun c_96 => ?_) (fun c_96 => ?_)
        · refine mj_iconst (v := 1) dX11_detourPart_112 rfl ?_
          refine mj_goto 117 dX11_detourPart_113 (by decide) ?_
          refine mj_iadd dX11_detourPart_117 ?_
          refine mj_istore (ls' := [(6, _), (5, _), (9, _), (8, _), (7, _), (4, _), (0, _), (1, _), (2, _), (3, _)]) dX11_detourPart_118 (Nat.le_of_ble_eq_true rfl) rfl ?_
          refine mj_iinc (ls' := [(8, _), (6, _), (5, _), (9, _), (7, _), (4, _), (0, _), (1, _), (2, _), (3, _)]) 3 dX11_detourPart_120 rfl (nI_s _) (Nat.le_of_ble_eq_true rfl) rfl ?_
          refine mj_goto 47 dX11_detourPart_123 (by decide) ?_
          exact mj_ls [0, 4, 1, 2, 5, 6, 7, 8, 9] rfl (ih (k + 1) _ _ (by omega) (by rw [dp_to_s, hs]; dsimp only; rw [if_pos (Or.inl c_96)]))
        · refine mj_iload 1 dX11_detourPart_99 rfl ?_
          refine mj_iload 3 dX11_detourPart_101 rfl ?_
          refine mj_icmp_ne 116 dX11_detourPart_103 (by decide) (fun c_103 => ?_) (fun c_103 => ?_)
          · refine mj_iconst (v := 0) dX11_detourPart_116 rfl ?_
            refine mj_iadd dX11_detourPart_117 ?_
            refine mj_istore (ls' := [(6, _), (5, _), (9, _), (8, _), (7, _), (4, _), (0, _), (1, _), (2, _), (3, _)]) dX11_detourPart_118 (Nat.le_of_ble_eq_true rfl) rfl ?_
            refine mj_iinc (ls' := [(8, _), (6, _), (5, _), (9, _), (7, _), (4, _), (0, _), (1, _), (2, _), (3, _)]) 3 dX11_detourPart_120 rfl (nI_s _) (Nat.le_of_ble_eq_true rfl) rfl ?_
            refine mj_goto 47 dX11_detourPart_123 (by decide) ?_
            exact mj_ls [0, 4, 1, 2, 5, 6, 7, 8, 9] rfl (ih (k + 1) _ _ (by omega) (by rw [dp_to_s, hs]; dsimp only; rw [if_neg (fun z => z.elim c_96 (fun z => c_103 z.1))]))
          · refine mj_iload 2 dX11_detourPart_106 rfl ?_
            refine mj_iload_n 9 dX11_detourPart_108 rfl ?_
            refine mj_icmp_ge 116 dX11_detourPart_109 (by decide) (fun c_109 => ?_) (fun c_109 => ?_)
            · have z3 : ¬ k < pl := fun z => nI_ge z (by omega) c_109
              refine mj_iconst (v := 0) dX11_detourPart_116 rfl ?_
              refine mj_iadd dX11_detourPart_117 ?_
              refine mj_istore (ls' := [(6, _), (5, _), (9, _), (8, _), (7, _), (4, _), (0, _), (1, _), (2, _), (3, _)]) dX11_detourPart_118 (Nat.le_of_ble_eq_true rfl) rfl ?_
              refine mj_iinc (ls' := [(8, _), (6, _), (5, _), (9, _), (7, _), (4, _), (0, _), (1, _), (2, _), (3, _)]) 3 dX11_detourPart_120 rfl (nI_s _) (Nat.le_of_ble_eq_true rfl) rfl ?_
              refine mj_goto 47 dX11_detourPart_123 (by decide) ?_
              exact mj_ls [0, 4, 1, 2, 5, 6, 7, 8, 9] rfl (ih (k + 1) _ _ (by omega) (by rw [dp_to_s, hs]; dsimp only; rw [if_neg (fun z => z.elim c_96 (fun z => z3 z.2))]))
            · have z3 : k < pl := Nat.lt_of_not_le fun z => c_109 (nI_le z (by omega))
              refine mj_iconst (v := 1) dX11_detourPart_112 rfl ?_
              refine mj_goto 117 dX11_detourPart_113 (by decide) ?_
              refine mj_iadd dX11_detourPart_117 ?_
              refine mj_istore (ls' := [(6, _), (5, _), (9, _), (8, _), (7, _), (4, _), (0, _), (1, _), (2, _), (3, _)]) dX11_detourPart_118 (Nat.le_of_ble_eq_true rfl) rfl ?_
              refine mj_iinc (ls' := [(8, _), (6, _), (5, _), (9, _), (7, _), (4, _), (0, _), (1, _), (2, _), (3, _)]) 3 dX11_detourPart_120 rfl (nI_s _) (Nat.le_of_ble_eq_true rfl) rfl ?_
              refine mj_goto 47 dX11_detourPart_123 (by decide) ?_
              exact mj_ls [0, 4, 1, 2, 5, 6, 7, 8, 9] rfl (ih (k + 1) _ _ (by omega) (by rw [dp_to_s, hs]; dsimp only; rw [if_pos (Or.inr ⟨c_103, z3⟩)]))
  exact mj_ls [0, 1, 2, 3, 4, 5, 6, 7, 8] rfl (loop W.length 0 (w_dc (gbrd M) d l) 0 (by omega) rfl)
/-- a rider's share -/
def w_share (g : Nat → Int32) (r d : Nat) (l : List Int32) (nr : Nat) : Int32 := w_base g d (i_count (inP g d) nr) (fw_pl g d r nr + 1) + dp (w_dc g d l) (fw_fin g d l nr).2 (fw_fin g d l nr).1 (fw_pl g d r nr)
theorem fw_pl_lt (g : Nat → Int32) (d q : Nat) : ∀ k, q < k → gr g q 7 = nI d → fw_pl g d q k < i_count (inP g d) k
  | 0, h, _ => absurd h (Nat.not_lt_zero _)
  | k + 1, h, e => by
    show (if gr g k 7 = nI d ∧ k = q then i_count (inP g d) k else fw_pl g d q k) < _
    rw [i_count_s]
    by_cases c : gr g k 7 = nI d ∧ k = q
    · rw [if_pos c, if_pos (show inP g d k = true from decide_eq_true c.1)]
      omega
    · rw [if_neg c]
      have hk : q < k := by
        have : ¬ k = q := fun z => c ⟨by rw [z]; exact e, z⟩
        omega
      have := fw_pl_lt g d q k hk e
      omega
theorem fw_fin_nz {g : Nat → Int32} {d : Nat} {l : List Int32} {nr : Nat} (h : 0 < i_count (inP g d) nr) (h2 : nr ≤ 20) : ¬ (fw_fin g d l nr).2 = 0 := by
  unfold fw_fin
  split
  · show ¬ nI _ = 0
    have h3 := i_count_le (inP g d) nr
    rw [show i_count (inP g d) nr = i_count (inP g d) nr - 1 + 1 by omega]
    exact nI_nz (by omega)
  · rename_i h; exact h
set_option maxRecDepth 100000 in
set_option maxHeartbeats 4000000 in
theorem cn_X11_shareOf {K : KX} {n : Nat} {h : MH} {h0 : MH} {m : Nat} {M : MS} (x : Md h0 m M h) {r d nr : Nat} {l : List Int32} (hr : r < 20) (hd : d < 8) (hg : Rok (gbrd M) d l) (hnr : gbrd M 2 = nI nr) (h20 : nr ≤ 20) (hrn : r < nr) (hdr : rF M r 7 = nI d) : Con K mX11_shareOf [.ref m, .int (nI r)] 0 0 n h (RetP (some (.int (w_share (gbrd M) r d l nr))) n (Ms h0 m M)) := by
  refine Con.of (by decide +kernel) (Nat.le_of_ble_eq_true rfl) ?_
  have hpl := fw_pl_lt (gbrd M) d r nr hrn hdr
  have hcl := i_count_le (inP (gbrd M) d) nr
  refine mj_aload_n 0 dX11_shareOf_0 rfl ?_
  refine mj_iload_n 1 dX11_shareOf_1 rfl ?_
  refine mj_bipush (v := (7)) dX11_shareOf_2 rfl ?_
  refine mj_cV1 [_, _] (RX11, TX11, 32) dX11_shareOf_4 cwX11_rider lkX11_72 x.ko rfl rfl rfl rfl (cn_X11_rider x (r := r) (f := 7) hr (by decide)) ⟨Nat.le_of_ble_eq_true rfl, Nat.le_of_ble_eq_true rfl, Nat.le_of_ble_eq_true rfl, Nat.le_of_ble_eq_true rfl, Nat.le_of_ble_eq_true rfl⟩ (fun h x => ?_)
  refine mj_eq (hdr) ?_
  refine mj_istore_n (ls' := [(2, _), (0, _), (1, _)]) dX11_shareOf_7 (Nat.le_of_ble_eq_true rfl) rfl ?_
  refine mj_aload_n 1 dX11_shareOf_8 rfl ?_
  refine mj_iload_n 0 dX11_shareOf_9 rfl ?_
  refine mj_cV1 [_] (RX11, TX11, 32) dX11_shareOf_10 cwX11_ridersIn lkX11_119 x.ko rfl rfl rfl rfl (cs_ridersIn x.s (d := d) hnr h20) ⟨Nat.le_of_ble_eq_true rfl, Nat.le_of_ble_eq_true rfl, Nat.le_of_ble_eq_true rfl, Nat.le_of_ble_eq_true rfl, Nat.le_of_ble_eq_true rfl⟩ (fun h x => ?_)
  obtain ⟨M1, x, sc0⟩ := x
  refine mj_cS1 [_] dX11_shareOf_13 cwX11_countBits lkX11_230 rfl (cn_X11_countBits (f0 := 20) (by decide) (w_mask_cb (gbrd M) d h20).1) ⟨Nat.le_of_ble_eq_true rfl, Nat.le_of_ble_eq_true rfl, Nat.le_of_ble_eq_true rfl, Nat.le_of_ble_eq_true rfl, Nat.le_of_ble_eq_true rfl⟩ (fun h' e' => ?_)
  subst h'
  refine mj_eq (congrArg nI (w_mask_cb (gbrd M) d h20).2) ?_
  refine mj_istore_n (ls' := [(3, _), (2, _), (0, _), (1, _)]) dX11_shareOf_16 (Nat.le_of_ble_eq_true rfl) rfl ?_
  refine mj_aload_n 2 dX11_shareOf_17 rfl ?_
  refine mj_iload_n 1 dX11_shareOf_18 rfl ?_
  refine mj_iload_n 3 dX11_shareOf_19 rfl ?_
  refine mj_cV1 [_, _] (RX11, TX11, 32) dX11_shareOf_20 cwX11_findWeights lkX11_257 x.ko rfl rfl rfl rfl (cn_X11_findWeights x hd hr (by rw [sc0.b]; exact hnr) h20 (by rw [sc0.b]; exact hg)) ⟨Nat.le_of_ble_eq_true rfl, Nat.le_of_ble_eq_true rfl, Nat.le_of_ble_eq_true rfl, Nat.le_of_ble_eq_true rfl, Nat.le_of_ble_eq_true rfl⟩ (fun h x => ?_)
  obtain ⟨M2, x, sc1, hws⟩ := x
  have eb : gbrd M1 = gbrd M := sc0.b
  rw [eb] at hws
  have sc : Sc M M2 := sc0.tr sc1
  refine mj_eq (show nI (fw_pl (gbrd M1) d r nr) = nI (fw_pl (gbrd M) d r nr) by rw [eb]) ?_
  refine mj_istore (ls' := [(4, _), (3, _), (2, _), (0, _), (1, _)]) dX11_shareOf_23 (Nat.le_of_ble_eq_true rfl) rfl ?_
  refine mj_aload_n 3 dX11_shareOf_25 rfl ?_
  refine mj_iload_n 2 dX11_shareOf_26 rfl ?_
  refine mj_iload_n 1 dX11_shareOf_27 rfl ?_
  refine mj_iload 0 dX11_shareOf_28 rfl ?_
  refine mj_iconst (v := 1) dX11_shareOf_30 rfl ?_
  refine mj_iadd dX11_shareOf_31 ?_
  refine mj_eq (nI_1 _) ?_
  refine mj_cV1 [_, _, _] (RX11, TX11, 32) dX11_shareOf_32 cwX11_basePart lkX11_260 x.ko rfl rfl rfl rfl (cn_X11_basePart x (d := d) (rs := i_count (inP (gbrd M) d) nr) (pl := fw_pl (gbrd M) d r nr + 1) hd (by omega)) ⟨Nat.le_of_ble_eq_true rfl, Nat.le_of_ble_eq_true rfl, Nat.le_of_ble_eq_true rfl, Nat.le_of_ble_eq_true rfl, Nat.le_of_ble_eq_true rfl⟩ (fun h x => ?_)
  refine mj_eq (show w_base (gbrd M2) d (i_count (inP (gbrd M) d) nr) (fw_pl (gbrd M) d r nr + 1) = w_base (gbrd M) d (i_count (inP (gbrd M) d) nr) (fw_pl (gbrd M) d r nr + 1) by rw [sc.b]) ?_
  refine mj_aload_n 3 dX11_shareOf_35 rfl ?_
  refine mj_iload_n 2 dX11_shareOf_36 rfl ?_
  refine mj_iload_n 1 dX11_shareOf_37 rfl ?_
  refine mj_eq (show nI (i_count (inP (gbrd M) d) nr) = nI (fw_fin (gbrd M) d l nr).1.length by rw [fw_fin_n]) ?_
  refine mj_iload 0 dX11_shareOf_38 rfl ?_
  refine mj_cV1 [_, _, _] (RX11, TX11, 32) dX11_shareOf_40 cwX11_detourPart lkX11_264 x.ko rfl rfl rfl rfl (cn_X11_detourPart x (W := (fw_fin (gbrd M) d l nr).1) hd (by rw [sc.b]; exact hg) hws.1 hws.2 (fw_fin_nz (by omega) h20) (by rw [fw_fin_n]; omega) (by rw [fw_fin_n]; exact hpl)) ⟨Nat.le_of_ble_eq_true rfl, Nat.le_of_ble_eq_true rfl, Nat.le_of_ble_eq_true rfl, Nat.le_of_ble_eq_true rfl, Nat.le_of_ble_eq_true rfl⟩ (fun h x => ?_)
  refine mj_eq ((show dp (w_dc (gbrd M2) d l) (fw_fin (gbrd M) d l nr).2 (fw_fin (gbrd M) d l nr).1 (fw_pl (gbrd M) d r nr) = dp (w_dc (gbrd M) d l) (fw_fin (gbrd M) d l nr).2 (fw_fin (gbrd M) d l nr).1 (fw_pl (gbrd M) d r nr) by rw [sc.b])) ?_
  obtain ⟨M3, x, sr3⟩ := x
  refine mj_iadd dX11_shareOf_43 ?_
  exact mj_iret dX11_shareOf_44 rfl (Nat.le_of_ble_eq_true rfl) (Nat.le_of_ble_eq_true rfl) ⟨rfl, rfl, ⟨M3, x, sc.tr sr3.up⟩⟩
theorem cs_shareOf {K : KX} {n : Nat} {h h0 : MH} {m : Nat} {M : MS} (x : Ms h0 m M h) {r d nr : Nat} {l : List Int32} (hr : r < 20) (hd : d < 8) (hg : Rok (gbrd M) d l) (hnr : gbrd M 2 = nI nr) (h20 : nr ≤ 20) (hrn : r < nr) (hdr : gr (gbrd M) r 7 = nI d) : Con K mX11_shareOf [.ref m, .int (nI r)] 0 0 n h (RetP (some (.int (w_share (gbrd M) r d l nr))) n (Ms h0 m M)) :=
  lift_s x fun M9 y sc => by
    rw [← (show gbrd M9 = gbrd M from sc.b)] at hg hnr hdr ⊢
    exact lift_m sc (cn_X11_shareOf y hr hd hg hnr h20 hrn hdr)
theorem cs_basePart {K : KX} {n : Nat} {h h0 : MH} {m : Nat} {M : MS} (x : Ms h0 m M h) {d rs pl : Nat} (hd : d < 8) (hrs : rs < 1000) : Con K mX11_basePart [.ref m, .int (nI d), .int (nI rs), .int (nI pl)] 0 0 n h (RetP (some (.int (w_base (gbrd M) d rs pl))) n (Ms h0 m M)) :=
  lift_s x fun M9 y sc => by
    rw [← (show gbrd M9 = gbrd M from sc.b)]
    exact lift_r (cn_X11_basePart y hd hrs) rfl sc
set_option maxRecDepth 100000 in
set_option maxHeartbeats 4000000 in
theorem cs_share_no {K : KX} {n : Nat} {h : MH} {h0 : MH} {m : Nat} {M : MS} (x : Ms h0 m M h) {i : Int32} (hb : b_in i 0 (gbrd M 2 - 1) = false) : Con K mX11_share [.ref m, .int i] 0 0 n h (RetP (some (.int (0))) n (Ms h0 m (sthr M 1))) := by
  refine Con.of (by decide +kernel) (Nat.le_of_ble_eq_true rfl) ?_
  refine mj_aload_n 0 dX11_share_0 rfl ?_
  refine mj_iconst (v := 0) dX11_share_1 rfl ?_
  refine mS_pthr dX11_share_2 fgX11_61 x (fun h x => ?_)
  refine mj_aload_n 0 dX11_share_5 rfl ?_
  refine mj_iload_n 1 dX11_share_6 rfl ?_
  refine mS_cV1 x [_] dX11_share_7 cwX11_isRider lkX11_112 rfl rfl rfl (cs_isRider x) ⟨Nat.le_of_ble_eq_true rfl, Nat.le_of_ble_eq_true rfl, Nat.le_of_ble_eq_true rfl, Nat.le_of_ble_eq_true rfl, Nat.le_of_ble_eq_true rfl⟩ (fun h x => ?_)
  refine mj_if_ne 19 dX11_share_10 (by decide) (fun c_10 => ?_) (fun c_10 => ?_)
  · exact absurd ((bI_n0.mp c_10).symm.trans hb) (by decide)
  · refine mj_aload_n 0 dX11_share_13 rfl ?_
    refine mj_iconst (v := 1) dX11_share_14 rfl ?_
    refine mS_cV1 x [_] dX11_share_15 cwX11_fail lkX11_79 rfl rfl rfl (cs_fail x (v := 1)) ⟨Nat.le_of_ble_eq_true rfl, Nat.le_of_ble_eq_true rfl, Nat.le_of_ble_eq_true rfl, Nat.le_of_ble_eq_true rfl, Nat.le_of_ble_eq_true rfl⟩ (fun h x => ?_)
    exact mj_iret dX11_share_18 rfl (Nat.le_of_ble_eq_true rfl) (Nat.le_of_ble_eq_true rfl) ⟨rfl, rfl, (by rw [sthr_ss] at x; exact x)⟩
set_option maxRecDepth 100000 in
set_option maxHeartbeats 4000000 in
theorem cs_share_none {K : KX} {n : Nat} {h : MH} {h0 : MH} {m : Nat} {M : MS} (x : Ms h0 m M h) {r : Nat} (hr : r < 20) (hb : b_in (nI r) 0 (gbrd M 2 - 1) = true) (hs : gr (gbrd M) r 7 = -1) : Con K mX11_share [.ref m, .int (nI r)] 0 0 n h (RetP (some (.int (-1))) n (Ms h0 m (sthr M 0))) := by
  refine Con.of (by decide +kernel) (Nat.le_of_ble_eq_true rfl) ?_
  refine mj_aload_n 0 dX11_share_0 rfl ?_
  refine mj_iconst (v := 0) dX11_share_1 rfl ?_
  refine mS_pthr dX11_share_2 fgX11_61 x (fun h x => ?_)
  refine mj_aload_n 0 dX11_share_5 rfl ?_
  refine mj_iload_n 1 dX11_share_6 rfl ?_
  refine mS_cV1 x [_] dX11_share_7 cwX11_isRider lkX11_112 rfl rfl rfl (cs_isRider x) ⟨Nat.le_of_ble_eq_true rfl, Nat.le_of_ble_eq_true rfl, Nat.le_of_ble_eq_true rfl, Nat.le_of_ble_eq_true rfl, Nat.le_of_ble_eq_true rfl⟩ (fun h x => ?_)
  refine mj_if_ne 19 dX11_share_10 (by decide) (fun c_10 => ?_) (fun c_10 => ?_)
  · refine mj_aload_n 0 dX11_share_19 rfl ?_
    refine mj_iload_n 1 dX11_share_20 rfl ?_
    refine mj_bipush (v := (7)) dX11_share_21 rfl ?_
    refine mS_cV1 x [_, _] dX11_share_23 cwX11_rider lkX11_72 rfl rfl rfl (cs_rider x (r := r) (f := 7) hr (by decide)) ⟨Nat.le_of_ble_eq_true rfl, Nat.le_of_ble_eq_true rfl, Nat.le_of_ble_eq_true rfl, Nat.le_of_ble_eq_true rfl, Nat.le_of_ble_eq_true rfl⟩ (fun h x => ?_)
    refine mj_iconst (v := (-1)) dX11_share_26 rfl ?_
    refine mj_icmp_ne 34 dX11_share_27 (by decide) (fun c_27 => ?_) (fun c_27 => ?_)
    · exact absurd hs c_27
    · refine mj_iconst (v := (-1)) dX11_share_30 rfl ?_
      refine mj_goto 39 dX11_share_31 (by decide) ?_
      exact mj_iret dX11_share_39 rfl (Nat.le_of_ble_eq_true rfl) (Nat.le_of_ble_eq_true rfl) ⟨rfl, rfl, x⟩
  · exact absurd ((bI_0.mp c_10).symm.trans hb) (by decide)
set_option maxRecDepth 100000 in
set_option maxHeartbeats 4000000 in
theorem cs_share {K : KX} {n : Nat} {h : MH} {h0 : MH} {m : Nat} {M : MS} (x : Ms h0 m M h) {r : Nat} (hr : r < 20) (hb : b_in (nI r) 0 (gbrd M 2 - 1) = true) {d : Nat} (hd : d < 8) {l : List Int32} (hg : Rok (gbrd M) d l) {nr : Nat} (hnr : gbrd M 2 = nI nr) (h20 : nr ≤ 20) (hrn : r < nr) (hdr : gr (gbrd M) r 7 = nI d) : Con K mX11_share [.ref m, .int (nI r)] 0 0 n h (RetP (some (.int (w_share (gbrd M) r d l nr))) n (Ms h0 m (sthr M 0))) := by
  refine Con.of (by decide +kernel) (Nat.le_of_ble_eq_true rfl) ?_
  refine mj_aload_n 0 dX11_share_0 rfl ?_
  refine mj_iconst (v := 0) dX11_share_1 rfl ?_
  refine mS_pthr dX11_share_2 fgX11_61 x (fun h x => ?_)
  refine mj_aload_n 0 dX11_share_5 rfl ?_
  refine mj_iload_n 1 dX11_share_6 rfl ?_
  refine mS_cV1 x [_] dX11_share_7 cwX11_isRider lkX11_112 rfl rfl rfl (cs_isRider x) ⟨Nat.le_of_ble_eq_true rfl, Nat.le_of_ble_eq_true rfl, Nat.le_of_ble_eq_true rfl, Nat.le_of_ble_eq_true rfl, Nat.le_of_ble_eq_true rfl⟩ (fun h x => ?_)
  refine mj_if_ne 19 dX11_share_10 (by decide) (fun c_10 => ?_) (fun c_10 => ?_)
  · refine mj_aload_n 0 dX11_share_19 rfl ?_
    refine mj_iload_n 1 dX11_share_20 rfl ?_
    refine mj_bipush (v := (7)) dX11_share_21 rfl ?_
    refine mS_cV1 x [_, _] dX11_share_23 cwX11_rider lkX11_72 rfl rfl rfl (cs_rider x (r := r) (f := 7) hr (by decide)) ⟨Nat.le_of_ble_eq_true rfl, Nat.le_of_ble_eq_true rfl, Nat.le_of_ble_eq_true rfl, Nat.le_of_ble_eq_true rfl, Nat.le_of_ble_eq_true rfl⟩ (fun h x => ?_)
    refine mj_iconst (v := (-1)) dX11_share_26 rfl ?_
    refine mj_icmp_ne 34 dX11_share_27 (by decide) (fun c_27 => ?_) (fun c_27 => ?_)
    · refine mj_aload_n 0 dX11_share_34 rfl ?_
      refine mj_iload_n 1 dX11_share_35 rfl ?_
      refine mS_cV1 x [_] dX11_share_36 cwX11_shareOf lkX11_267 rfl rfl rfl (cs_shareOf x hr hd hg hnr h20 hrn hdr) ⟨Nat.le_of_ble_eq_true rfl, Nat.le_of_ble_eq_true rfl, Nat.le_of_ble_eq_true rfl, Nat.le_of_ble_eq_true rfl, Nat.le_of_ble_eq_true rfl⟩ (fun h x => ?_)
      exact mj_iret dX11_share_39 rfl (Nat.le_of_ble_eq_true rfl) (Nat.le_of_ble_eq_true rfl) ⟨rfl, rfl, x⟩
    · exact absurd ((show nI d = gr (gbrd M) r 7 from hdr.symm).trans c_27) (nI_ne_m1 (by omega))
  · exact absurd ((bI_0.mp c_10).symm.trans hb) (by decide)
set_option maxRecDepth 100000 in
set_option maxHeartbeats 4000000 in
theorem cs_driverShare_no {K : KX} {n : Nat} {h : MH} {h0 : MH} {m : Nat} {M : MS} (x : Ms h0 m M h) {i : Int32} (hb : b_in i 0 (gbrd M 1 - 1) = false) : Con K mX11_driverShare [.ref m, .int i] 0 0 n h (RetP (some (.int (0))) n (Ms h0 m (sthr M 1))) := by
  refine Con.of (by decide +kernel) (Nat.le_of_ble_eq_true rfl) ?_
  refine mj_aload_n 0 dX11_driverShare_0 rfl ?_
  refine mj_iconst (v := 0) dX11_driverShare_1 rfl ?_
  refine mS_pthr dX11_driverShare_2 fgX11_61 x (fun h x => ?_)
  refine mj_aload_n 0 dX11_driverShare_5 rfl ?_
  refine mj_iload_n 1 dX11_driverShare_6 rfl ?_
  refine mS_cV1 x [_] dX11_driverShare_7 cwX11_isDriver lkX11_87 rfl rfl rfl (cs_isDriver x) ⟨Nat.le_of_ble_eq_true rfl, Nat.le_of_ble_eq_true rfl, Nat.le_of_ble_eq_true rfl, Nat.le_of_ble_eq_true rfl, Nat.le_of_ble_eq_true rfl⟩ (fun h x => ?_)
  refine mj_if_eq 30 dX11_driverShare_10 (by decide) (fun c_10 => ?_) (fun c_10 => ?_)
  · refine mj_aload_n 0 dX11_driverShare_30 rfl ?_
    refine mj_iconst (v := 1) dX11_driverShare_31 rfl ?_
    refine mS_cV1 x [_] dX11_driverShare_32 cwX11_fail lkX11_79 rfl rfl rfl (cs_fail x (v := 1)) ⟨Nat.le_of_ble_eq_true rfl, Nat.le_of_ble_eq_true rfl, Nat.le_of_ble_eq_true rfl, Nat.le_of_ble_eq_true rfl, Nat.le_of_ble_eq_true rfl⟩ (fun h x => ?_)
    exact mj_iret dX11_driverShare_35 rfl (Nat.le_of_ble_eq_true rfl) (Nat.le_of_ble_eq_true rfl) ⟨rfl, rfl, (by rw [sthr_ss] at x; exact x)⟩
  · exact absurd ((bI_n0.mp c_10).symm.trans hb) (by decide)
set_option maxRecDepth 100000 in
set_option maxHeartbeats 4000000 in
theorem cs_driverShare {K : KX} {n : Nat} {h : MH} {h0 : MH} {m : Nat} {M : MS} (x : Ms h0 m M h) {d : Nat} (hd : d < 8) (hb : b_in (nI d) 0 (gbrd M 1 - 1) = true) {nr : Nat} (hnr : gbrd M 2 = nI nr) (h20 : nr ≤ 20) : Con K mX11_driverShare [.ref m, .int (nI d)] 0 0 n h (RetP (some (.int (w_base (gbrd M) d (i_count (inP (gbrd M) d) nr) 0))) n (Ms h0 m (sthr M 0))) := by
  refine Con.of (by decide +kernel) (Nat.le_of_ble_eq_true rfl) ?_
  have hcl := i_count_le (inP (gbrd M) d) nr
  refine mj_aload_n 0 dX11_driverShare_0 rfl ?_
  refine mj_iconst (v := 0) dX11_driverShare_1 rfl ?_
  refine mS_pthr dX11_driverShare_2 fgX11_61 x (fun h x => ?_)
  refine mj_aload_n 0 dX11_driverShare_5 rfl ?_
  refine mj_iload_n 1 dX11_driverShare_6 rfl ?_
  refine mS_cV1 x [_] dX11_driverShare_7 cwX11_isDriver lkX11_87 rfl rfl rfl (cs_isDriver x) ⟨Nat.le_of_ble_eq_true rfl, Nat.le_of_ble_eq_true rfl, Nat.le_of_ble_eq_true rfl, Nat.le_of_ble_eq_true rfl, Nat.le_of_ble_eq_true rfl⟩ (fun h x => ?_)
  refine mj_if_eq 30 dX11_driverShare_10 (by decide) (fun c_10 => ?_) (fun c_10 => ?_)
  · exact absurd ((bI_0.mp c_10).symm.trans hb) (by decide)
  · refine mj_aload_n 0 dX11_driverShare_13 rfl ?_
    refine mj_iload_n 1 dX11_driverShare_14 rfl ?_
    refine mj_aload_n 0 dX11_driverShare_15 rfl ?_
    refine mj_iload_n 1 dX11_driverShare_16 rfl ?_
    refine mS_cV1 x [_] dX11_driverShare_17 cwX11_ridersIn lkX11_119 rfl rfl rfl (cs_ridersIn x (d := d) hnr h20) ⟨Nat.le_of_ble_eq_true rfl, Nat.le_of_ble_eq_true rfl, Nat.le_of_ble_eq_true rfl, Nat.le_of_ble_eq_true rfl, Nat.le_of_ble_eq_true rfl⟩ (fun h x => ?_)
    refine mj_cS1 [_] dX11_driverShare_20 cwX11_countBits lkX11_230 rfl (cn_X11_countBits (f0 := 20) (by decide) (w_mask_cb (gbrd M) d h20).1) ⟨Nat.le_of_ble_eq_true rfl, Nat.le_of_ble_eq_true rfl, Nat.le_of_ble_eq_true rfl, Nat.le_of_ble_eq_true rfl, Nat.le_of_ble_eq_true rfl⟩ (fun h' e' => ?_)
    subst h'
    refine mj_eq (congrArg nI (w_mask_cb (gbrd M) d h20).2) ?_
    refine mj_iconst (v := 0) dX11_driverShare_23 rfl ?_
    refine mS_cV1 x [_, _, _] dX11_driverShare_24 cwX11_basePart lkX11_260 rfl rfl rfl (cs_basePart x (d := d) (rs := i_count (inP (gbrd M) d) nr) (pl := 0) hd (by omega)) ⟨Nat.le_of_ble_eq_true rfl, Nat.le_of_ble_eq_true rfl, Nat.le_of_ble_eq_true rfl, Nat.le_of_ble_eq_true rfl, Nat.le_of_ble_eq_true rfl⟩ (fun h x => ?_)
    refine mj_goto 35 dX11_driverShare_27 (by decide) ?_
    exact mj_iret dX11_driverShare_35 rfl (Nat.le_of_ble_eq_true rfl) (Nat.le_of_ble_eq_true rfl) ⟨rfl, rfl, x⟩
def nmS (M : MS) (g : Nat → Int32) (c : Nat → Int64) : MS := scrd (sbrd M g) c
theorem nmS_b (M : MS) (g g' : Nat → Int32) (c : Nat → Int64) : sbrd (nmS M g c) g' = nmS M g' c := by
  show (_, _, vf_upd (vf_upd (mA M) 1 g) 1 g', _) = (_, _, vf_upd (mA M) 1 g', _)
  rw [vf_ss]
  rfl
theorem nmS_c (M : MS) (g : Nat → Int32) (c c' : Nat → Int64) : scrd (nmS M g c) c' = nmS M g c' := by
  show (_, _, _, vf_upd (vf_upd (mL M) 4 c) 4 c', _) = (_, _, _, vf_upd (mL M) 4 c', _)
  rw [vf_ss]
  rfl
theorem nmS_g (M : MS) (g : Nat → Int32) (c : Nat → Int64) : gbrd (nmS M g c) = g := rfl
theorem nmS_k (M : MS) (g : Nat → Int32) (c : Nat → Int64) : gcrd (nmS M g c) = c := rfl
theorem nmS_id (M : MS) : nmS M (gbrd M) (gcrd M) = M := by
  show scrd (sbrd M (gbrd M)) (gcrd M) = M
  rw [sbrd_id]
  show (_, _, _, vf_upd (mL M) 4 (mL M 4), _) = M
  rw [vf_id]
theorem Rok.c {g g' : Nat → Int32} {d : Nat} {l : List Int32} (h : Rok g d l) (hd : d < 8) (e : ∀ j, j < 408 → g' j = g j) : Rok g' d l := by
  obtain ⟨a, b, c, f⟩ := h
  refine ⟨(e _ (by omega)).trans a, ?_, c, f⟩
  rw [← b, rowL_n]
  exact rowL_c fun j hj => e _ (by omega)
def cp_to (g : Nat → Int32) (c : Nat → Int64) (d : Nat) (l : List Int32) (nr : Nat) : Nat → Int32 × (Nat → Int32) × (Nat → Int64)
  | 0 => (0, g, c)
  | k + 1 => if gr (cp_to g c d l nr k).2.1 k 7 = nI d then
      ((cp_to g c d l nr k).1 + w_share (cp_to g c d l nr k).2.1 k d l nr, upd (cp_to g c d l nr k).2.1 (408 + 8 * k + 6) 3, vp_updL (cp_to g c d l nr k).2.2 (8 + k) ((cp_to g c d l nr k).2.2 (8 + k) - (w_share (cp_to g c d l nr k).2.1 k d l nr).toInt64)) else cp_to g c d l nr k
theorem cp_to_lo (g : Nat → Int32) (c : Nat → Int64) (d : Nat) (l : List Int32) (nr : Nat) {j : Nat} (hj : j < 408) : ∀ k, (cp_to g c d l nr k).2.1 j = g j
  | 0 => rfl
  | k + 1 => by
    unfold cp_to
    split
    · show upd _ _ _ j = _
      unfold upd
      rw [if_neg (by omega)]
      exact cp_to_lo g c d l nr hj k
    · exact cp_to_lo g c d l nr hj k
/-- the board and credits after the completion -/
def cp_M (M : MS) (d : Nat) (l : List Int32) (nr : Nat) : MS := nmS M (upd (cp_to (gbrd M) (gcrd M) d l nr nr).2.1 (8 + 10 * d + 8) 1) (vp_updL (cp_to (gbrd M) (gcrd M) d l nr nr).2.2 d ((cp_to (gbrd M) (gcrd M) d l nr nr).2.2 d + (cp_to (gbrd M) (gcrd M) d l nr nr).1.toInt64))
set_option maxRecDepth 100000 in
set_option maxHeartbeats 4000000 in
theorem cs_complete_no {K : KX} {n : Nat} {h : MH} {h0 : MH} {m : Nat} {M : MS} (x : Ms h0 m M h) {i : Int32} (hb : b_in i 0 (gbrd M 1 - 1) = false) : Con K mX11_complete [.ref m, .int i] 0 0 n h (RetP (some (.int (0))) n (Ms h0 m (sthr M 1))) := by
  refine Con.of (by decide +kernel) (Nat.le_of_ble_eq_true rfl) ?_
  refine mj_aload_n 0 dX11_complete_0 rfl ?_
  refine mj_iconst (v := 0) dX11_complete_1 rfl ?_
  refine mS_pthr dX11_complete_2 fgX11_61 x (fun h x => ?_)
  refine mj_aload_n 0 dX11_complete_5 rfl ?_
  refine mj_iload_n 1 dX11_complete_6 rfl ?_
  refine mS_cV1 x [_] dX11_complete_7 cwX11_isDriver lkX11_87 rfl rfl rfl (cs_isDriver x) ⟨Nat.le_of_ble_eq_true rfl, Nat.le_of_ble_eq_true rfl, Nat.le_of_ble_eq_true rfl, Nat.le_of_ble_eq_true rfl, Nat.le_of_ble_eq_true rfl⟩ (fun h x => ?_)
  refine mj_if_ne 19 dX11_complete_10 (by decide) (fun c_10 => ?_) (fun c_10 => ?_)
  · exact absurd ((bI_n0.mp c_10).symm.trans hb) (by decide)
  · refine mj_aload_n 0 dX11_complete_13 rfl ?_
    refine mj_iconst (v := 1) dX11_complete_14 rfl ?_
    refine mS_cV1 x [_] dX11_complete_15 cwX11_fail lkX11_79 rfl rfl rfl (cs_fail x (v := 1)) ⟨Nat.le_of_ble_eq_true rfl, Nat.le_of_ble_eq_true rfl, Nat.le_of_ble_eq_true rfl, Nat.le_of_ble_eq_true rfl, Nat.le_of_ble_eq_true rfl⟩ (fun h x => ?_)
    exact mj_iret dX11_complete_18 rfl (Nat.le_of_ble_eq_true rfl) (Nat.le_of_ble_eq_true rfl) ⟨rfl, rfl, (by rw [sthr_ss] at x; exact x)⟩
set_option maxRecDepth 100000 in
set_option maxHeartbeats 4000000 in
theorem cs_complete_done {K : KX} {n : Nat} {h : MH} {h0 : MH} {m : Nat} {M : MS} (x : Ms h0 m M h) {d : Nat} (hd : d < 8) (hb : b_in (nI d) 0 (gbrd M 1 - 1) = true) (hs : ¬ gd (gbrd M) d 8 = 0) : Con K mX11_complete [.ref m, .int (nI d)] 0 0 n h (RetP (some (.int (0))) n (Ms h0 m (sthr M 2))) := by
  refine Con.of (by decide +kernel) (Nat.le_of_ble_eq_true rfl) ?_
  refine mj_aload_n 0 dX11_complete_0 rfl ?_
  refine mj_iconst (v := 0) dX11_complete_1 rfl ?_
  refine mS_pthr dX11_complete_2 fgX11_61 x (fun h x => ?_)
  refine mj_aload_n 0 dX11_complete_5 rfl ?_
  refine mj_iload_n 1 dX11_complete_6 rfl ?_
  refine mS_cV1 x [_] dX11_complete_7 cwX11_isDriver lkX11_87 rfl rfl rfl (cs_isDriver x) ⟨Nat.le_of_ble_eq_true rfl, Nat.le_of_ble_eq_true rfl, Nat.le_of_ble_eq_true rfl, Nat.le_of_ble_eq_true rfl, Nat.le_of_ble_eq_true rfl⟩ (fun h x => ?_)
  refine mj_if_ne 19 dX11_complete_10 (by decide) (fun c_10 => ?_) (fun c_10 => ?_)
  · refine mj_aload_n 0 dX11_complete_19 rfl ?_
    refine mj_iload_n 1 dX11_complete_20 rfl ?_
    refine mS_cV1 x [_] dX11_complete_21 cwX11_isOpen lkX11_95 rfl rfl rfl (cs_isOpen x hd) ⟨Nat.le_of_ble_eq_true rfl, Nat.le_of_ble_eq_true rfl, Nat.le_of_ble_eq_true rfl, Nat.le_of_ble_eq_true rfl, Nat.le_of_ble_eq_true rfl⟩ (fun h x => ?_)
    refine mj_if_ne 33 dX11_complete_24 (by decide) (fun c_24 => ?_) (fun c_24 => ?_)
    · exact absurd (of_decide_eq_true (bI_n0.mp c_24)) hs
    · refine mj_aload_n 0 dX11_complete_27 rfl ?_
      refine mj_iconst (v := 2) dX11_complete_28 rfl ?_
      refine mS_cV1 x [_] dX11_complete_29 cwX11_fail lkX11_79 rfl rfl rfl (cs_fail x (v := 2)) ⟨Nat.le_of_ble_eq_true rfl, Nat.le_of_ble_eq_true rfl, Nat.le_of_ble_eq_true rfl, Nat.le_of_ble_eq_true rfl, Nat.le_of_ble_eq_true rfl⟩ (fun h x => ?_)
      exact mj_iret dX11_complete_32 rfl (Nat.le_of_ble_eq_true rfl) (Nat.le_of_ble_eq_true rfl) ⟨rfl, rfl, (by rw [sthr_ss] at x; exact x)⟩
  · exact absurd ((bI_0.mp c_10).symm.trans hb) (by decide)
set_option maxRecDepth 100000 in
set_option maxHeartbeats 4000000 in
theorem cs_complete {K : KX} {n : Nat} {h : MH} {h0 : MH} {m : Nat} {M : MS} (x : Ms h0 m M h) {d : Nat} (hd : d < 8) (hb : b_in (nI d) 0 (gbrd M 1 - 1) = true) {nr : Nat} (hnr : gbrd M 2 = nI nr) (h20 : nr ≤ 20) {l : List Int32} (hg : Rok (gbrd M) d l) (hs : gd (gbrd M) d 8 = 0) : Con K mX11_complete [.ref m, .int (nI d)] 0 0 n h (RetP (some (.int (cp_to (gbrd M) (gcrd M) d l nr nr).1)) n (Ms h0 m (cp_M (sthr M 0) d l nr))) := by
  refine Con.of (by decide +kernel) (Nat.le_of_ble_eq_true rfl) ?_
  have loop : ∀ (f : Nat) (k : Nat) (sm : Int32) (g : Nat → Int32) (c : Nat → Int64) (h1 : MH), k + f = nr → cp_to (gbrd M) (gcrd M) d l nr k = (sm, g, c) → Ms h0 m (nmS (sthr M 0) g c) h1 → GG (K, mX11_complete, 0, 0, RetP (some (.int (cp_to (gbrd M) (gcrd M) d l nr nr).1)) n (Ms h0 m (cp_M (sthr M 0) d l nr))) 0 0 37 [(3, .int (nI k)), (2, .int sm), (0, .ref m), (1, .int (nI d))] [] n h1 := by
    intro f
    induction f with
    | zero =>
      intro k sm g c h1 hk hs x
      obtain rfl : k = nr := by omega
      have hlo : ∀ j, j < 408 → g j = gbrd M j := fun j hj => by have q := cp_to_lo (gbrd M) (gcrd M) d l k hj k; rw [hs] at q; exact q
      refine mj_iload_n 0 dX11_complete_37 rfl ?_
      refine mj_aload_n 2 dX11_complete_38 rfl ?_
      refine mS_gbrd dX11_complete_39 fgX11_7 x ?_
      refine mj_iconst (v := 2) dX11_complete_42 rfl ?_
      refine mS_lbrd x ((show (2 : Int32).toInt = ((2 : Nat) : Int) from rfl)) (by first | assumption | omega | decide) dX11_complete_43 ?_
      refine mj_eq ((hlo 2 (by omega)).trans hnr) ?_
      refine mj_icmp_ge 97 dX11_complete_44 (by decide) (fun c_44 => ?_) (fun c_44 => ?_)
      · refine mj_aload_n 2 dX11_complete_97 rfl ?_
        refine mS_gcrd dX11_complete_98 fgX11_19 x ?_
        refine mj_iload_n 3 dX11_complete_101 rfl ?_
        refine mj_dup2 dX11_complete_102 rfl rfl ?_
        refine mS_lcrd x ((by first | assumption | exact ixn (by omega))) (by first | assumption | omega | decide) dX11_complete_103 ?_
        refine mj_iload_n 1 dX11_complete_104 rfl ?_
        refine mj_i2l dX11_complete_105 rfl ?_
        refine mj_ladd dX11_complete_106 ?_
        refine mS_acrd x ((by first | assumption | exact ixn (by omega))) (by first | assumption | omega | decide) dX11_complete_107 (fun h x => ?_)
        rw [nmS_c] at x
        refine mj_aload_n 2 dX11_complete_108 rfl ?_
        refine mj_iload_n 3 dX11_complete_109 rfl ?_
        refine mj_bipush (v := (8)) dX11_complete_110 rfl ?_
        refine mj_iconst (v := 1) dX11_complete_112 rfl ?_
        refine mS_cV0 x [_, _, _] dX11_complete_113 cwX11_setDriver lkX11_75 rfl rfl rfl (cs_setDriver x (d := d) (f := 8) (v := 1) hd (by decide)) ⟨Nat.le_of_ble_eq_true rfl, Nat.le_of_ble_eq_true rfl, Nat.le_of_ble_eq_true rfl, Nat.le_of_ble_eq_true rfl, Nat.le_of_ble_eq_true rfl⟩ (fun h x => ?_)
        rw [show wD (nmS (sthr M 0) g _) d 8 1 = _ from nmS_b _ _ _ _] at x
        refine mj_iload_n 1 dX11_complete_116 rfl ?_
        exact mj_iret dX11_complete_117 rfl (Nat.le_of_ble_eq_true rfl) (Nat.le_of_ble_eq_true rfl) ⟨(by rw [hs]), rfl, (by unfold cp_M; rw [show cp_to (gbrd (sthr M 0)) (gcrd (sthr M 0)) d l k k = (sm, g, c) from hs]; exact x)⟩
      · exact absurd (nI_le (by omega) (by omega)) c_44
    | succ f ih =>
      intro k sm g c h1 hk hs x
      have hlo : ∀ j, j < 408 → g j = gbrd M j := fun j hj => by have q := cp_to_lo (gbrd M) (gcrd M) d l nr hj k; rw [hs] at q; exact q
      refine mj_iload_n 0 dX11_complete_37 rfl ?_
      refine mj_aload_n 2 dX11_complete_38 rfl ?_
      refine mS_gbrd dX11_complete_39 fgX11_7 x ?_
      refine mj_iconst (v := 2) dX11_complete_42 rfl ?_
      refine mS_lbrd x ((show (2 : Int32).toInt = ((2 : Nat) : Int) from rfl)) (by first | assumption | omega | decide) dX11_complete_43 ?_
      refine mj_eq ((hlo 2 (by omega)).trans hnr) ?_
      refine mj_icmp_ge 97 dX11_complete_44 (by decide) (fun c_44 => ?_) (fun c_44 => ?_)
      · exact absurd c_44 (nI_ge (by omega) (by omega))
      · refine mj_aload_n 2 dX11_complete_47 rfl ?_
        refine mj_iload_n 0 dX11_complete_48 rfl ?_
        refine mj_iload_n 3 dX11_complete_49 rfl ?_
        refine mS_cV1 x [_, _] dX11_complete_50 cwX11_isIn lkX11_115 rfl rfl rfl (cs_isIn x (r := k) (by omega)) ⟨Nat.le_of_ble_eq_true rfl, Nat.le_of_ble_eq_true rfl, Nat.le_of_ble_eq_true rfl, Nat.le_of_ble_eq_true rfl, Nat.le_of_ble_eq_true rfl⟩ (fun h x => ?_)
        refine mj_if_eq 91 dX11_complete_53 (by decide) (fun c_53 => ?_) (fun c_53 => ?_)
        · have z : ¬ gr g k 7 = nI d := of_decide_eq_false (bI_0.mp c_53)
          refine mj_iinc (ls' := [(3, _), (2, _), (0, _), (1, _)]) 0 dX11_complete_91 rfl (nI_s _) (Nat.le_of_ble_eq_true rfl) rfl ?_
          refine mj_goto 37 dX11_complete_94 (by decide) ?_
          exact mj_ls [0, 1, 2, 3] rfl (ih (k + 1) sm g c h (by omega) (by unfold cp_to; rw [hs]; exact if_neg z) x)
        · have z : gr g k 7 = nI d := of_decide_eq_true (bI_n0.mp c_53)
          refine mj_aload_n 2 dX11_complete_56 rfl ?_
          refine mj_iload_n 0 dX11_complete_57 rfl ?_
          refine mS_cV1 x [_] dX11_complete_58 cwX11_shareOf lkX11_267 rfl rfl rfl (cs_shareOf x (r := k) (d := d) (l := l) (nr := nr) (by omega) hd (hg.c hd hlo) ((hlo 2 (by omega)).trans hnr) h20 (by omega) z) ⟨Nat.le_of_ble_eq_true rfl, Nat.le_of_ble_eq_true rfl, Nat.le_of_ble_eq_true rfl, Nat.le_of_ble_eq_true rfl, Nat.le_of_ble_eq_true rfl⟩ (fun h x => ?_)
          refine mj_istore (ls' := [(4, _), (3, _), (2, _), (0, _), (1, _)]) dX11_complete_61 (Nat.le_of_ble_eq_true rfl) rfl ?_
          refine mj_aload_n 3 dX11_complete_63 rfl ?_
          refine mS_gcrd dX11_complete_64 fgX11_19 x ?_
          refine mj_bipush (v := (8)) dX11_complete_67 rfl ?_
          refine mj_iload_n 1 dX11_complete_69 rfl ?_
          refine mj_iadd dX11_complete_70 ?_
          refine mj_dup2 dX11_complete_71 rfl rfl ?_
          refine mS_lcrd x (ix_crd (by omega)) (by first | assumption | omega | decide) dX11_complete_72 ?_
          refine mj_iload 0 dX11_complete_73 rfl ?_
          refine mj_i2l dX11_complete_75 rfl ?_
          refine mj_lsub dX11_complete_76 ?_
          refine mS_acrd x (ix_crd (by omega)) (by first | assumption | omega | decide) dX11_complete_77 (fun h x => ?_)
          rw [nmS_c] at x
          refine mj_iload_n 2 dX11_complete_78 rfl ?_
          refine mj_iload 0 dX11_complete_79 rfl ?_
          refine mj_iadd dX11_complete_81 ?_
          refine mj_istore_n (ls' := [(2, _), (4, _), (3, _), (0, _), (1, _)]) dX11_complete_82 (Nat.le_of_ble_eq_true rfl) rfl ?_
          refine mj_aload_n 3 dX11_complete_83 rfl ?_
          refine mj_iload_n 2 dX11_complete_84 rfl ?_
          refine mj_bipush (v := (6)) dX11_complete_85 rfl ?_
          refine mj_iconst (v := 3) dX11_complete_87 rfl ?_
          refine mS_cV0 x [_, _, _] dX11_complete_88 cwX11_setRider lkX11_105 rfl rfl rfl (cs_setRider x (r := k) (f := 6) (v := 3) (by omega) (by decide)) ⟨Nat.le_of_ble_eq_true rfl, Nat.le_of_ble_eq_true rfl, Nat.le_of_ble_eq_true rfl, Nat.le_of_ble_eq_true rfl, Nat.le_of_ble_eq_true rfl⟩ (fun h x => ?_)
          rw [show wR (nmS (sthr M 0) g _) k 6 3 = _ from nmS_b _ _ _ _] at x
          refine mj_iinc (ls' := [(3, _), (2, _), (4, _), (0, _), (1, _)]) 2 dX11_complete_91 rfl (nI_s _) (Nat.le_of_ble_eq_true rfl) rfl ?_
          refine mj_goto 37 dX11_complete_94 (by decide) ?_
          exact mj_ls [0, 1, 3, 4] rfl (ih (k + 1) _ _ _ h (by omega) (by unfold cp_to; rw [hs]; exact if_pos z) x)
  refine mj_aload_n 0 dX11_complete_0 rfl ?_
  refine mj_iconst (v := 0) dX11_complete_1 rfl ?_
  refine mS_pthr dX11_complete_2 fgX11_61 x (fun h x => ?_)
  refine mj_aload_n 0 dX11_complete_5 rfl ?_
  refine mj_iload_n 1 dX11_complete_6 rfl ?_
  refine mS_cV1 x [_] dX11_complete_7 cwX11_isDriver lkX11_87 rfl rfl rfl (cs_isDriver x) ⟨Nat.le_of_ble_eq_true rfl, Nat.le_of_ble_eq_true rfl, Nat.le_of_ble_eq_true rfl, Nat.le_of_ble_eq_true rfl, Nat.le_of_ble_eq_true rfl⟩ (fun h x => ?_)
  refine mj_if_ne 19 dX11_complete_10 (by decide) (fun c_10 => ?_) (fun c_10 => ?_)
  · refine mj_aload_n 0 dX11_complete_19 rfl ?_
    refine mj_iload_n 1 dX11_complete_20 rfl ?_
    refine mS_cV1 x [_] dX11_complete_21 cwX11_isOpen lkX11_95 rfl rfl rfl (cs_isOpen x hd) ⟨Nat.le_of_ble_eq_true rfl, Nat.le_of_ble_eq_true rfl, Nat.le_of_ble_eq_true rfl, Nat.le_of_ble_eq_true rfl, Nat.le_of_ble_eq_true rfl⟩ (fun h x => ?_)
    refine mj_if_ne 33 dX11_complete_24 (by decide) (fun c_24 => ?_) (fun c_24 => ?_)
    · refine mj_iconst (v := 0) dX11_complete_33 rfl ?_
      refine mj_istore_n (ls' := [(2, _), (0, _), (1, _)]) dX11_complete_34 (Nat.le_of_ble_eq_true rfl) rfl ?_
      refine mj_iconst (v := 0) dX11_complete_35 rfl ?_
      refine mj_istore_n (ls' := [(3, _), (2, _), (0, _), (1, _)]) dX11_complete_36 (Nat.le_of_ble_eq_true rfl) rfl ?_
      exact mj_ls [0, 1, 2, 3] rfl (loop nr 0 0 (gbrd M) (gcrd M) h (by omega) rfl (by rw [show nmS (sthr M 0) (gbrd M) (gcrd M) = sthr M 0 from nmS_id (sthr M 0)]; exact x))
    · exact absurd hs (of_decide_eq_false (bI_0.mp c_24))
  · exact absurd ((bI_0.mp c_10).symm.trans hb) (by decide)
