-- THE BEST INSERTION
def f_go (g : Nat → Int32) (d r : Nat) (l : List Int32) (s : SS) (i j : Nat) : SS :=
  if w_val g d (w_ins l r i j) && decide (w_len g d (w_ins l r i j) < s.1) then (w_len g d (w_ins l r i j), i, j) else s
def f_in (g : Nat → Int32) (d r : Nat) (l : List Int32) (s : SS) (i : Nat) : Nat → SS
  | 0 => s
  | m + 1 => f_go g d r l (f_in g d r l s i m) i (i + m)
def f_out (g : Nat → Int32) (d r : Nat) (l : List Int32) : Nat → SS
  | 0 => (1000000000, 0, 0)
  | i + 1 => f_in g d r l (f_out g d r l i) i (l.length + 1 - i)
def f_find (g : Nat → Int32) (d r : Nat) (l : List Int32) : SS := f_out g d r l (l.length + 1)
/-- the best insertion so far stands in the fields -/
def Bst (M : MS) (s : SS) : Prop := gbl M = s.1 ∧ (¬ s.1 = 1000000000 → gbp M = nI s.2.1 ∧ gbdr M = nI s.2.2)
theorem Bst.sr {M M' : MS} {s : SS} (h : Bst M s) (q : Sr M M') : Bst M' s := ⟨(q.f 13 rfl).trans h.1, fun z => ⟨(q.f 14 rfl).trans (h.2 z).1, (q.f 15 rfl).trans (h.2 z).2⟩⟩
def MsB (h0 : MH) (m : Nat) (M : MS) (s : SS) (h : MH) : Prop := ∃ M', Md h0 m M' h ∧ Sc M M' ∧ Bst M' s
theorem Ms.tr {h0 h : MH} {m : Nat} {M M1 : MS} (s : Sc M M1) (x : Ms h0 m M1 h) : Ms h0 m M h := by
  obtain ⟨M2, y, z⟩ := x
  exact ⟨M2, y, s.tr z⟩
theorem MsM.s {h0 h : MH} {m : Nat} {M : MS} {d : Nat} {l : List Int32} (x : MsM h0 m M d l h) : Ms h0 m M h := by
  obtain ⟨M2, y, z⟩ := x
  exact ⟨M2, y, z.1.up⟩
theorem lift_m {K : KX} {X : MI} {av : List Value} {mc ms n n1 : Nat} {h h0 : MH} {m : Nat} {M M9 : MS} {v : Option Value} (sc : Sc M M9) (c : Con K X av mc ms n h (RetP v n1 (Ms h0 m M9))) : Con K X av mc ms n h (RetP v n1 (Ms h0 m M)) := c.mono fun _ _ _ q => ⟨q.1, q.2.1, Ms.tr sc q.2.2⟩
set_option maxRecDepth 100000 in
set_option maxHeartbeats 4000000 in
theorem cn_X11_findInsertion {K : KX} {n : Nat} {h : MH} {h0 : MH} {m : Nat} {M : MS} (x : Md h0 m M h) {r d : Nat} {l : List Int32} (hr : r < 20) (hd : d < 8) (hg : Rsu (gbrd M) d l) : Con K mX11_findInsertion [.ref m, .int (nI r), .int (nI d), .int (nI l.length)] 0 0 n h (RetP none n (MsB h0 m M (f_find (gbrd M) d r l))) := by
  refine Con.of (by decide +kernel) (Nat.le_of_ble_eq_true rfl) ?_
  have hll := hg.2.1
  have outer : ∀ (f : Nat) (i : Nat) (M1 : MS) (h1 : MH), i + f = l.length + 1 → Md h0 m M1 h1 → Sc M M1 → Bst M1 (f_out (gbrd M) d r l i) → GG (K, mX11_findInsertion, 0, 0, RetP none n (MsB h0 m M (f_find (gbrd M) d r l))) 0 0 9 [(4, .int (nI i)), (0, .ref m), (1, .int (nI r)), (2, .int (nI d)), (3, .int (nI l.length))] [] n h1 := by
    intro f
    induction f with
    | zero =>
      intro i M1 h1 hk x sc hB
      have hie : i = l.length + 1 := by omega
      subst hie
      refine mj_iload 0 dX11_findInsertion_9 rfl ?_
      refine mj_iload_n 4 dX11_findInsertion_11 rfl ?_
      refine mj_icmp_gt 86 dX11_findInsertion_12 (by decide) (fun c_12 => ?_) (fun c_12 => ?_)
      · exact mj_vret dX11_findInsertion_86 rfl (Nat.le_of_ble_eq_true rfl) (Nat.le_of_ble_eq_true rfl) ⟨rfl, rfl, ⟨M1, x, sc, hB⟩⟩
      · exact absurd ((nI_ltI (by omega) (by omega)).mpr (by omega)) c_12
    | succ f ih =>
      intro i M1 h1 hk x sc hB
      have ihO : ∀ (M1 : MS) (h1 : MH), Md h0 m M1 h1 → Sc M M1 → Bst M1 (f_out (gbrd M) d r l (i + 1)) → GG (K, mX11_findInsertion, 0, 0, RetP none n (MsB h0 m M (f_find (gbrd M) d r l))) 0 0 9 [(4, .int (nI (i + 1))), (0, .ref m), (1, .int (nI r)), (2, .int (nI d)), (3, .int (nI l.length))] [] n h1 := fun M1 h1 x sc hB => ih (i + 1) M1 h1 (by omega) x sc hB
      have inner : ∀ (f : Nat) (t : Nat) (M1 : MS) (h1 : MH), i + t + f = l.length + 1 → Md h0 m M1 h1 → Sc M M1 → Bst M1 (f_in (gbrd M) d r l (f_out (gbrd M) d r l i) i t) → GG (K, mX11_findInsertion, 0, 0, RetP none n (MsB h0 m M (f_find (gbrd M) d r l))) 0 0 19 [(5, .int (nI (i + t))), (4, .int (nI i)), (0, .ref m), (1, .int (nI r)), (2, .int (nI d)), (3, .int (nI l.length))] [] n h1 := by
        intro f
        induction f with
        | zero =>
          intro t M1 h1 hk x sc hB
          refine mj_iload 0 dX11_findInsertion_19 rfl ?_
          refine mj_iload_n 5 dX11_findInsertion_21 rfl ?_
          refine mj_icmp_gt 80 dX11_findInsertion_22 (by decide) (fun c_22 => ?_) (fun c_22 => ?_)
          · refine mj_iinc (ls' := [(4, _), (5, _), (0, _), (1, _), (2, _), (3, _)]) 1 dX11_findInsertion_80 rfl (nI_s _) (Nat.le_of_ble_eq_true rfl) rfl ?_
            refine mj_goto 9 dX11_findInsertion_83 (by decide) ?_
            exact mj_ls [0, 2, 3, 4, 5] rfl (ihO M1 _ x sc (by unfold f_out; rw [show l.length + 1 - i = t by omega]; exact hB))
          · exact absurd ((nI_ltI (by omega) (by omega)).mpr (by omega)) c_22
        | succ f ih =>
          intro t M1 h1 hk x sc hB
          refine mj_iload 0 dX11_findInsertion_19 rfl ?_
          refine mj_iload_n 5 dX11_findInsertion_21 rfl ?_
          refine mj_icmp_gt 80 dX11_findInsertion_22 (by decide) (fun c_22 => ?_) (fun c_22 => ?_)
          · exact absurd ((nI_ltI (by omega) (by omega)).mp c_22) (by omega)
          · refine mj_aload_n 2 dX11_findInsertion_25 rfl ?_
            refine mj_iload_n 3 dX11_findInsertion_26 rfl ?_
            refine mj_iload_n 4 dX11_findInsertion_27 rfl ?_
            refine mj_iload_n 5 dX11_findInsertion_28 rfl ?_
            refine mj_iload 1 dX11_findInsertion_29 rfl ?_
            refine mj_iload 0 dX11_findInsertion_31 rfl ?_
            refine mj_cV0 [_, _, _, _, _] (RX11, TX11, 32) dX11_findInsertion_33 cwX11_layInsertion lkX11_170 x.ko rfl rfl rfl rfl (cn_X11_layInsertion x hr hd (by rw [sc.b]; exact hg) (by omega) (by omega)) ⟨Nat.le_of_ble_eq_true rfl, Nat.le_of_ble_eq_true rfl, Nat.le_of_ble_eq_true rfl, Nat.le_of_ble_eq_true rfl, Nat.le_of_ble_eq_true rfl⟩ (fun h x => ?_)
            obtain ⟨M2, x, me⟩ := x
            have e1 : grval M2 = bI (w_val (gbrd M) d (w_ins l r i (i + t))) := by rw [← (show gbrd M1 = gbrd M from sc.b)]; exact me.2.2.2.1
            have e2 : grlen M2 = w_len (gbrd M) d (w_ins l r i (i + t)) := by rw [← (show gbrd M1 = gbrd M from sc.b)]; exact me.2.2.1
            have sc : Sc M M2 := sc.tr me.1.up
            have hB := hB.sr me.1
            have hS : f_in (gbrd M) d r l (f_out (gbrd M) d r l i) i (t + 1) = f_go (gbrd M) d r l (f_in (gbrd M) d r l (f_out (gbrd M) d r l i) i t) i (i + t) := rfl
            generalize f_in (gbrd M) d r l (f_out (gbrd M) d r l i) i t = s at hB hS
            refine mj_aload_n 2 dX11_findInsertion_36 rfl ?_
            refine mj_getf dX11_findInsertion_37 fgX11_133 x.ko rfl ?_
            refine mj_eq (e1) ?_
            refine mj_if_eq 74 dX11_findInsertion_40 (by decide) (fun c_40 => ?_) (fun c_40 => ?_)
            · have z1 := bI_0.mp c_40
              refine mj_iinc (ls' := [(5, _), (4, _), (0, _), (1, _), (2, _), (3, _)]) 0 dX11_findInsertion_74 rfl (nI_s _) (Nat.le_of_ble_eq_true rfl) rfl ?_
              refine mj_goto 19 dX11_findInsertion_77 (by decide) ?_
              refine mj_ls [0, 1, 2, 3, 4, 5] rfl (ih (t + 1) M2 _ (by omega) x sc ?_)
              rw [hS]
              unfold f_go
              rw [z1, Bool.false_and, if_neg (by decide)]
              exact hB
            · have z1 := bI_n0.mp c_40
              refine mj_aload_n 2 dX11_findInsertion_43 rfl ?_
              refine mj_getf dX11_findInsertion_44 fgX11_130 x.ko rfl ?_
              refine mj_eq (e2) ?_
              refine mj_aload_n 2 dX11_findInsertion_47 rfl ?_
              refine mj_getf dX11_findInsertion_48 fgX11_167 x.ko rfl ?_
              refine mj_eq (hB.1) ?_
              refine mj_icmp_ge 74 dX11_findInsertion_51 (by decide) (fun c_51 => ?_) (fun c_51 => ?_)
              · have z2 : ¬ w_len (gbrd M) d (w_ins l r i (i + t)) < s.1 := Int32.not_lt.mpr c_51
                refine mj_iinc (ls' := [(5, _), (4, _), (0, _), (1, _), (2, _), (3, _)]) 0 dX11_findInsertion_74 rfl (nI_s _) (Nat.le_of_ble_eq_true rfl) rfl ?_
                refine mj_goto 19 dX11_findInsertion_77 (by decide) ?_
                refine mj_ls [0, 1, 2, 3, 4, 5] rfl (ih (t + 1) M2 _ (by omega) x sc ?_)
                rw [hS]
                unfold f_go
                rw [z1, Bool.true_and, decide_eq_false z2, if_neg (by decide)]
                exact hB
              · have z2 : w_len (gbrd M) d (w_ins l r i (i + t)) < s.1 := Int32.not_le.mp c_51
                refine mj_aload_n 2 dX11_findInsertion_54 rfl ?_
                refine mj_aload_n 2 dX11_findInsertion_55 rfl ?_
                refine mj_getf dX11_findInsertion_56 fgX11_130 x.ko rfl ?_
                refine mj_eq (e2) ?_
                refine mM_pbl dX11_findInsertion_59 fgX11_167 x (fun h x => ?_)
                refine mj_aload_n 2 dX11_findInsertion_62 rfl ?_
                refine mj_iload 1 dX11_findInsertion_63 rfl ?_
                refine mM_pbp dX11_findInsertion_65 fgX11_173 x (fun h x => ?_)
                refine mj_aload_n 2 dX11_findInsertion_68 rfl ?_
                refine mj_iload 0 dX11_findInsertion_69 rfl ?_
                refine mM_pbdr dX11_findInsertion_71 fgX11_176 x (fun h x => ?_)
                refine mj_iinc (ls' := [(5, _), (4, _), (0, _), (1, _), (2, _), (3, _)]) 0 dX11_findInsertion_74 rfl (nI_s _) (Nat.le_of_ble_eq_true rfl) rfl ?_
                refine mj_goto 19 dX11_findInsertion_77 (by decide) ?_
                refine mj_ls [0, 1, 2, 3, 4, 5] rfl (ih (t + 1) _ _ (by omega) x (((sc.oF (k := 13) _ rfl).oF (k := 14) _ rfl).oF (k := 15) _ rfl) ?_)
                rw [hS]
                unfold f_go
                rw [z1, Bool.true_and, decide_eq_true z2, if_pos rfl]
                exact ⟨rfl, fun _ => ⟨rfl, rfl⟩⟩
      refine mj_iload 0 dX11_findInsertion_9 rfl ?_
      refine mj_iload_n 4 dX11_findInsertion_11 rfl ?_
      refine mj_icmp_gt 86 dX11_findInsertion_12 (by decide) (fun c_12 => ?_) (fun c_12 => ?_)
      · exact absurd ((nI_ltI (by omega) (by omega)).mp c_12) (by omega)
      · refine mj_iload 0 dX11_findInsertion_15 rfl ?_
        refine mj_istore (ls' := [(5, _), (4, _), (0, _), (1, _), (2, _), (3, _)]) dX11_findInsertion_17 (Nat.le_of_ble_eq_true rfl) rfl ?_
        exact mj_ls [0, 1, 2, 3, 4, 5] rfl (inner (l.length + 1 - i) 0 M1 _ (by omega) x sc hB)
  refine mj_aload_n 0 dX11_findInsertion_0 rfl ?_
  refine mj_ldc dX11_findInsertion_1 ctX11_166 ?_
  refine mM_pbl dX11_findInsertion_3 fgX11_167 x (fun h x => ?_)
  refine mj_iconst (v := 0) dX11_findInsertion_6 rfl ?_
  refine mj_istore (ls' := [(4, _), (0, _), (1, _), (2, _), (3, _)]) dX11_findInsertion_7 (Nat.le_of_ble_eq_true rfl) rfl ?_
  exact mj_ls [0, 1, 2, 3, 4] rfl (outer (l.length + 1) 0 _ h (by omega) x (Scg.rf.oF (k := 13) _ rfl) ⟨rfl, fun z => absurd rfl z⟩)
def w_extra (g : Nat → Int32) (r d : Nat) (l : List Int32) : Int32 := if gr g r 7 = nI d then 1000000000 else if (f_find g d r l).1 = 1000000000 then 1000000000 else (f_find g d r l).1 - w_len g d l
def w_solo (g : Nat → Int32) (r d : Nat) : Int32 := if (f_find g d r []).1 = 1000000000 then 1000000000 else (f_find g d r []).1 - w_dir g d
def w_joinG (g : Nat → Int32) (r d : Nat) (l : List Int32) : Nat → Int32 := if w_extra g r d l = 1000000000 then g else upd (upd (w_put g d (w_ins l r (f_find g d r l).2.1 (f_find g d r l).2.2)) (408 + 8 * r + 6) 1) (408 + 8 * r + 7) (nI d)
def w_leaveG (g : Nat → Int32) (r d : Nat) (l : List Int32) (st : Int32) : Nat → Int32 := upd (upd (w_put g d (w_wo (nI r) l)) (408 + 8 * r + 6) st) (408 + 8 * r + 7) (-1)
def w_marg (g : Nat → Int32) (r d : Nat) (l : List Int32) : Int32 := w_len g d l - w_len g d (w_wo (nI r) l)
/-- the best place is a place -/
theorem f_go_pl {g : Nat → Int32} {d r : Nat} {l : List Int32} {s : SS} {i j : Nat} (h : ¬ s.1 = 1000000000 → s.2.1 ≤ s.2.2 ∧ s.2.2 ≤ l.length) (hi : i ≤ j) (hj : j ≤ l.length) : ¬ (f_go g d r l s i j).1 = 1000000000 → (f_go g d r l s i j).2.1 ≤ (f_go g d r l s i j).2.2 ∧ (f_go g d r l s i j).2.2 ≤ l.length := by
  unfold f_go
  split
  · exact fun _ => ⟨hi, hj⟩
  · exact h
theorem f_in_pl {g : Nat → Int32} {d r : Nat} {l : List Int32} {s : SS} {i : Nat} (h : ¬ s.1 = 1000000000 → s.2.1 ≤ s.2.2 ∧ s.2.2 ≤ l.length) : ∀ t, i + t ≤ l.length + 1 → ¬ (f_in g d r l s i t).1 = 1000000000 → (f_in g d r l s i t).2.1 ≤ (f_in g d r l s i t).2.2 ∧ (f_in g d r l s i t).2.2 ≤ l.length
  | 0, _ => h
  | t + 1, ht => f_go_pl (f_in_pl h t (by omega)) (by omega) (by omega)
theorem f_out_pl {g : Nat → Int32} {d r : Nat} {l : List Int32} : ∀ i, i ≤ l.length + 1 → ¬ (f_out g d r l i).1 = 1000000000 → (f_out g d r l i).2.1 ≤ (f_out g d r l i).2.2 ∧ (f_out g d r l i).2.2 ≤ l.length
  | 0, _ => fun z => absurd rfl z
  | i + 1, hi => f_in_pl (f_out_pl i (by omega)) _ (by omega)
theorem f_find_pl {g : Nat → Int32} {d r : Nat} {l : List Int32} : ¬ (f_find g d r l).1 = 1000000000 → (f_find g d r l).2.1 ≤ (f_find g d r l).2.2 ∧ (f_find g d r l).2.2 ≤ l.length := f_out_pl _ (Nat.le_refl _)
set_option maxRecDepth 100000 in
set_option maxHeartbeats 4000000 in
theorem cn_X11_extraOf {K : KX} {n : Nat} {h : MH} {h0 : MH} {m : Nat} {M : MS} (x : Md h0 m M h) {r d : Nat} {l : List Int32} (hr : r < 20) (hd : d < 8) (hg : Rok (gbrd M) d l) : Con K mX11_extraOf [.ref m, .int (nI r), .int (nI d)] 0 0 n h (RetP (some (.int (w_extra (gbrd M) r d l))) n (Ms h0 m M)) := by
  refine Con.of (by decide +kernel) (Nat.le_of_ble_eq_true rfl) ?_
  refine mj_aload_n 0 dX11_extraOf_0 rfl ?_
  refine mj_iload_n 1 dX11_extraOf_1 rfl ?_
  refine mj_iload_n 2 dX11_extraOf_2 rfl ?_
  refine mj_cV1 [_, _] (RX11, TX11, 32) dX11_extraOf_3 cwX11_isIn lkX11_115 x.ko rfl rfl rfl rfl (cn_X11_isIn x hr) ⟨Nat.le_of_ble_eq_true rfl, Nat.le_of_ble_eq_true rfl, Nat.le_of_ble_eq_true rfl, Nat.le_of_ble_eq_true rfl, Nat.le_of_ble_eq_true rfl⟩ (fun h x => ?_)
  refine mj_if_eq 12 dX11_extraOf_6 (by decide) (fun c_6 => ?_) (fun c_6 => ?_)
  · have z1 : ¬ gr (gbrd M) r 7 = nI d := of_decide_eq_false (bI_0.mp c_6)
    refine mj_aload_n 0 dX11_extraOf_12 rfl ?_
    refine mj_iload_n 1 dX11_extraOf_13 rfl ?_
    refine mj_iload_n 2 dX11_extraOf_14 rfl ?_
    refine mj_aload_n 0 dX11_extraOf_15 rfl ?_
    refine mj_iload_n 2 dX11_extraOf_16 rfl ?_
    refine mj_bipush (v := (9)) dX11_extraOf_17 rfl ?_
    refine mj_cV1 [_, _] (RX11, TX11, 32) dX11_extraOf_19 cwX11_driver lkX11_68 x.ko rfl rfl rfl rfl (cn_X11_driver x (d := d) (f := 9) hd (by decide)) ⟨Nat.le_of_ble_eq_true rfl, Nat.le_of_ble_eq_true rfl, Nat.le_of_ble_eq_true rfl, Nat.le_of_ble_eq_true rfl, Nat.le_of_ble_eq_true rfl⟩ (fun h x => ?_)
    refine mj_eq (hg.1) ?_
    refine mj_cV0 [_, _, _] (RX11, TX11, 32) dX11_extraOf_22 cwX11_findInsertion lkX11_179 x.ko rfl rfl rfl rfl (cn_X11_findInsertion x hr hd hg.2) ⟨Nat.le_of_ble_eq_true rfl, Nat.le_of_ble_eq_true rfl, Nat.le_of_ble_eq_true rfl, Nat.le_of_ble_eq_true rfl, Nat.le_of_ble_eq_true rfl⟩ (fun h x => ?_)
    obtain ⟨M1, x, sc, hB⟩ := x
    refine mj_aload_n 0 dX11_extraOf_25 rfl ?_
    refine mj_getf dX11_extraOf_26 fgX11_167 x.ko rfl ?_
    refine mj_eq (hB.1) ?_
    refine mj_ldc dX11_extraOf_29 ctX11_166 ?_
    refine mj_icmp_ne 39 dX11_extraOf_31 (by decide) (fun c_31 => ?_) (fun c_31 => ?_)
    · refine mj_aload_n 0 dX11_extraOf_39 rfl ?_
      refine mj_getf dX11_extraOf_40 fgX11_167 x.ko rfl ?_
      refine mj_eq (hB.1) ?_
      refine mj_aload_n 0 dX11_extraOf_43 rfl ?_
      refine mj_iload_n 2 dX11_extraOf_44 rfl ?_
      refine mj_cV1 [_] (RX11, TX11, 32) dX11_extraOf_45 cwX11_lengthOf lkX11_163 x.ko rfl rfl rfl rfl (cr_lengthOf x hd (by rw [sc.b]; exact hg)) ⟨Nat.le_of_ble_eq_true rfl, Nat.le_of_ble_eq_true rfl, Nat.le_of_ble_eq_true rfl, Nat.le_of_ble_eq_true rfl, Nat.le_of_ble_eq_true rfl⟩ (fun h x => ?_)
      refine mj_eq (show w_len (gbrd M1) d l = w_len (gbrd M) d l by rw [sc.b]) ?_
      have x := Ms.tr sc (MsM.s x)
      refine mj_isub dX11_extraOf_48 ?_
      exact mj_iret dX11_extraOf_49 rfl (Nat.le_of_ble_eq_true rfl) (Nat.le_of_ble_eq_true rfl) ⟨(by unfold w_extra; rw [if_neg z1, if_neg c_31]), rfl, x⟩
    · refine mj_ldc dX11_extraOf_34 ctX11_166 ?_
      refine mj_goto 49 dX11_extraOf_36 (by decide) ?_
      exact mj_iret dX11_extraOf_49 rfl (Nat.le_of_ble_eq_true rfl) (Nat.le_of_ble_eq_true rfl) ⟨(by unfold w_extra; rw [if_neg z1, if_pos c_31]), rfl, ⟨M1, x, sc⟩⟩
  · have z1 : gr (gbrd M) r 7 = nI d := of_decide_eq_true (bI_n0.mp c_6)
    refine mj_ldc dX11_extraOf_9 ctX11_166 ?_
    exact mj_iret dX11_extraOf_11 rfl (Nat.le_of_ble_eq_true rfl) (Nat.le_of_ble_eq_true rfl) ⟨(by unfold w_extra; rw [if_pos z1]), rfl, x.s⟩
set_option maxRecDepth 100000 in
set_option maxHeartbeats 4000000 in
theorem cn_X11_soloOf {K : KX} {n : Nat} {h : MH} {h0 : MH} {m : Nat} {M : MS} (x : Md h0 m M h) {r d : Nat} (hr : r < 20) (hd : d < 8) : Con K mX11_soloOf [.ref m, .int (nI r), .int (nI d)] 0 0 n h (RetP (some (.int (w_solo (gbrd M) r d))) n (Ms h0 m M)) := by
  refine Con.of (by decide +kernel) (Nat.le_of_ble_eq_true rfl) ?_
  refine mj_aload_n 0 dX11_soloOf_0 rfl ?_
  refine mj_iload_n 1 dX11_soloOf_1 rfl ?_
  refine mj_iload_n 2 dX11_soloOf_2 rfl ?_
  refine mj_iconst (v := 0) dX11_soloOf_3 rfl ?_
  refine mj_cV0 [_, _, _] (RX11, TX11, 32) dX11_soloOf_4 cwX11_findInsertion lkX11_179 x.ko rfl rfl rfl rfl (cn_X11_findInsertion x (l := []) hr hd (Rsu.nil _ _)) ⟨Nat.le_of_ble_eq_true rfl, Nat.le_of_ble_eq_true rfl, Nat.le_of_ble_eq_true rfl, Nat.le_of_ble_eq_true rfl, Nat.le_of_ble_eq_true rfl⟩ (fun h x => ?_)
  obtain ⟨M1, x, sc, hB⟩ := x
  refine mj_aload_n 0 dX11_soloOf_7 rfl ?_
  refine mj_getf dX11_soloOf_8 fgX11_167 x.ko rfl ?_
  refine mj_eq (hB.1) ?_
  refine mj_ldc dX11_soloOf_11 ctX11_166 ?_
  refine mj_icmp_ne 21 dX11_soloOf_13 (by decide) (fun c_13 => ?_) (fun c_13 => ?_)
  · refine mj_aload_n 0 dX11_soloOf_21 rfl ?_
    refine mj_getf dX11_soloOf_22 fgX11_167 x.ko rfl ?_
    refine mj_eq (hB.1) ?_
    refine mj_aload_n 0 dX11_soloOf_25 rfl ?_
    refine mj_iload_n 2 dX11_soloOf_26 rfl ?_
    refine mj_cV1 [_] (RX11, TX11, 32) dX11_soloOf_27 cwX11_directLength lkX11_102 x.ko rfl rfl rfl rfl (cn_X11_directLength x hd) ⟨Nat.le_of_ble_eq_true rfl, Nat.le_of_ble_eq_true rfl, Nat.le_of_ble_eq_true rfl, Nat.le_of_ble_eq_true rfl, Nat.le_of_ble_eq_true rfl⟩ (fun h x => ?_)
    refine mj_eq (show w_dir (gbrd M1) d = w_dir (gbrd M) d by rw [sc.b]) ?_
    refine mj_isub dX11_soloOf_30 ?_
    exact mj_iret dX11_soloOf_31 rfl (Nat.le_of_ble_eq_true rfl) (Nat.le_of_ble_eq_true rfl) ⟨(by unfold w_solo; rw [if_neg c_13]), rfl, ⟨M1, x, sc⟩⟩
  · refine mj_ldc dX11_soloOf_16 ctX11_166 ?_
    refine mj_goto 31 dX11_soloOf_18 (by decide) ?_
    exact mj_iret dX11_soloOf_31 rfl (Nat.le_of_ble_eq_true rfl) (Nat.le_of_ble_eq_true rfl) ⟨(by unfold w_solo; rw [if_pos c_13]), rfl, ⟨M1, x, sc⟩⟩
theorem cs_extraOf {K : KX} {n : Nat} {h h0 : MH} {m : Nat} {M : MS} (x : Ms h0 m M h) {r d : Nat} {l : List Int32} (hr : r < 20) (hd : d < 8) (hg : Rok (gbrd M) d l) : Con K mX11_extraOf [.ref m, .int (nI r), .int (nI d)] 0 0 n h (RetP (some (.int (w_extra (gbrd M) r d l))) n (Ms h0 m M)) :=
  lift_s x fun M9 y sc => by
    rw [← (show gbrd M9 = gbrd M from sc.b)] at hg ⊢
    exact lift_m sc (cn_X11_extraOf y hr hd hg)
theorem cs_soloOf {K : KX} {n : Nat} {h h0 : MH} {m : Nat} {M : MS} (x : Ms h0 m M h) {r d : Nat} (hr : r < 20) (hd : d < 8) : Con K mX11_soloOf [.ref m, .int (nI r), .int (nI d)] 0 0 n h (RetP (some (.int (w_solo (gbrd M) r d))) n (Ms h0 m M)) :=
  lift_s x fun M9 y sc => by
    rw [← (show gbrd M9 = gbrd M from sc.b)]
    exact lift_m sc (cn_X11_soloOf y hr hd)
