theorem st4_c {R R' : RS} {k : Nat} (e : st4 R' k = st4 R k) : rc R' k = rc R k ∧ rx R' k = rx R k ∧ ry R' k = ry R k ∧ rt R' k = rt R k := by
  simpa only [st4, Prod.mk.injEq] using e
theorem Req.rfl {R : RS} : Req R R := ⟨Eq.refl _, fun _ _ => Eq.refl _⟩
theorem Req.tr {R R' R2 : RS} (q : Req R R') (p : Req R' R2) : Req R R2 := ⟨p.1.trans q.1, fun k hk => (p.2 k (by rw [q.1]; exact hk)).trans (q.2 k hk)⟩
theorem Req.ins {R R1 : RS} {num : Int32} {X : RdS} {i j : Nat} (q : Req R R1) (hij : i ≤ j) (hj : j + 1 < rn R) : Req (r_ins R num X i j) (r_ins R1 num X i j) := by
  refine ⟨by show rn R1 + 2 = rn R + 2; rw [q.1], fun k hk => ?_⟩
  have hk' : k < rn R + 2 := hk
  rw [st4_ins, st4_ins]
  by_cases q1 : k ≤ i
  · rw [if_pos q1, if_pos q1]; exact q.2 k (by omega)
  · rw [if_neg q1, if_neg q1]
    by_cases q2 : k = i + 1
    · rw [if_pos q2, if_pos q2]
    · rw [if_neg q2, if_neg q2]
      by_cases q3 : k ≤ j + 1
      · rw [if_pos q3, if_pos q3]; exact q.2 _ (by omega)
      · rw [if_neg q3, if_neg q3]
        by_cases q4 : k = j + 2
        · rw [if_pos q4, if_pos q4]
        · rw [if_neg q4, if_neg q4]; exact q.2 _ (by omega)
theorem r_keep_eq {R R' : RS} (q : Req R R') (s : Int32) : ∀ (f k : Nat) (w ic : Int32), k + f + 1 ≤ rn R → r_keep R' s f k w ic = r_keep R s f k w ic
  | 0, _, _, _, _ => Eq.refl _
  | f + 1, k, w, ic, h => by
    obtain ⟨a1, a2, a3, a4⟩ := st4_c (q.2 k (by omega))
    obtain ⟨b1, b2, b3, b4⟩ := st4_c (q.2 (k + 1) (by omega))
    have p1 : r_pick R' (k + 1) = r_pick R (k + 1) := by unfold r_pick; rw [b1]
    have p2 : r_drop R' (k + 1) = r_drop R (k + 1) := by unfold r_drop; rw [b1]
    have p3 : ∀ w, r_lv R' k w = r_lv R k w := fun w => by unfold r_lv r_pick; rw [a1, a4]
    have p4 : r_step R' k (k + 1) = r_step R k (k + 1) := by unfold r_step; rw [a2, a3, b2, b3]
    have ih := fun w ic => r_keep_eq q s f (k + 1) w ic (by omega)
    unfold r_keep
    rw [p1, p2, p3, p4, b4, ih, ih, ih]
theorem r_ok_eq {R R' : RS} (q : Req R R') (h : 1 ≤ rn R) (s w : Int32) : r_ok R' s w = r_ok R s w := by
  unfold r_ok
  rw [q.1]
  exact r_keep_eq q s _ 0 w 0 (by omega)
-- INSERTION: object at g, trial route at g + 1, bare route at g + 6
def inC (g : Nat) (pa da : Nat) : MC := cO 2 [.ref (g + 1), .ref (g + 6), .int (nI pa), .int (nI da)]
def In (h : MH) (g : Nat) (T2 : RS) (pa da : Nat) : Prop := h g = some (inC g pa da) ∧ (∃ T, Rt h (g + 1) T) ∧ Rt h (g + 6) T2
abbrev SS : Type := Int32 × Nat × Nat
/-- one place of the search -/
def s_go (R : RS) (num : Int32) (X : RdS) (D : DS) (s : SS) (i j : Nat) : SS :=
  if r_lng R X i j ≤ dli D - r_det R ∧ (s.1 = -1 ∨ r_lng R X i j < s.1) ∧ r_ok (r_ins R num X i j) (dse D) (dde D) = true then (r_lng R X i j, i, j) else s
theorem s_no1 {R : RS} {num : Int32} {X : RdS} {D : DS} {s : SS} {i j : Nat} (c : dli D - r_det R < r_lng R X i j) : s = s_go R num X D s i j := (if_neg (fun z => absurd z.1 (Int32.not_le.mpr c))).symm
theorem s_no2 {R : RS} {num : Int32} {X : RdS} {D : DS} {s : SS} {i j : Nat} (c : ¬ s.1 = -1) (c2 : s.1 ≤ r_lng R X i j) : s = s_go R num X D s i j := (if_neg (fun z => z.2.1.elim c (fun z2 => absurd z2 (Int32.not_lt.mpr c2)))).symm
theorem s_no3 {R : RS} {num : Int32} {X : RdS} {D : DS} {s : SS} {i j : Nat} (c : r_ok (r_ins R num X i j) (dse D) (dde D) = false) : s = s_go R num X D s i j := (if_neg (fun z => by have z2 := z.2.2; rw [c] at z2; cases z2)).symm
theorem s_yes {R : RS} {num : Int32} {X : RdS} {D : DS} {s : SS} {i j : Nat} (c : ¬ dli D - r_det R < r_lng R X i j) (c1 : s.1 = -1 ∨ ¬ s.1 ≤ r_lng R X i j) (c2 : r_ok (r_ins R num X i j) (dse D) (dde D) = true) : (r_lng R X i j, i, j) = s_go R num X D s i j := (if_pos ⟨Int32.not_lt.mp c, c1.imp id Int32.not_le.mp, c2⟩).symm
def s_in (R : RS) (num : Int32) (X : RdS) (D : DS) (s : SS) (i : Nat) : Nat → SS
  | 0 => s
  | m + 1 => s_go R num X D (s_in R num X D s i m) i (i + m)
def s_out (R : RS) (num : Int32) (X : RdS) (D : DS) (s : SS) : Nat → SS
  | 0 => s
  | i + 1 => s_in R num X D (s_out R num X D s i) i (rn R - 1 - i)
def s_find (R : RS) (num : Int32) (X : RdS) (D : DS) (pa da : Nat) : SS := if rn R + 2 ≤ 42 then s_out R num X D (-1, pa, da) (rn R - 1) else (-1, pa, da)
theorem Rt.at {h h' : MH} {a : Nat} {R : RS} (r : Rt h a R) (e : ∀ q, a ≤ q → q < a + 5 → h' q = h q) : Rt h' a R := by
  obtain ⟨r0, r1, r2, r3, r4, r5⟩ := r
  exact ⟨(e _ (by omega) (by omega)).trans r0, (e _ (by omega) (by omega)).trans r1, (e _ (by omega) (by omega)).trans r2, (e _ (by omega) (by omega)).trans r3, (e _ (by omega) (by omega)).trans r4, r5⟩
theorem In.off {h h' : MH} {g c d : Nat} {T2 : RS} {pa da : Nat} (x : In h g T2 pa da) (o : Off c d h h') (e : g + 11 ≤ c ∨ d ≤ g) : In h' g T2 pa da := by
  obtain ⟨x0, ⟨T, x1⟩, x2⟩ := x
  exact ⟨o.at x0 (by omega), ⟨T, x1.off o (by omega)⟩, x2.off o (by omega)⟩
set_option maxRecDepth 100000 in
set_option maxHeartbeats 4000000 in
theorem cn_X2_search {K : KX} {n : Nat} {h : MH} {g c q e : Nat} {R T2 : RS} {num nd : Int32} {X : RdS} {D : DS} {pa da : Nat} (x : In h g T2 pa da) (r : Rt h c R) (hX : h q = some (rdC num X)) {e1 : Nat} (hE : h e = some (drC nd e1 D)) (h2 : 2 ≤ rn R) (hc : c + 5 ≤ g ∨ g + 6 ≤ c) (hq : q < g ∨ g + 6 ≤ q) (he : e < g ∨ g + 6 ≤ e) : Con K mX2_search [.ref g, .ref q, .ref e, .ref c] 0 0 n h (RetP (some (.int (s_find R num X D pa da).1)) n (fun h' => In h' g T2 (s_find R num X D pa da).2.1 (s_find R num X D pa da).2.2 ∧ Off g (g + 6) h h')) := by
  refine Con.of (by decide +kernel) (Nat.le_of_ble_eq_true rfl) ?_
  by_cases hn2 : rn R + 2 ≤ 42
  · skip
    have loop : ∀ (f : Nat) (i : Nat) (s : SS) (h1 : MH) (ls : List (Nat × Value)), i + f = rn R - 1 → s = (s_out R num X D (-1, pa, da) i) → In h1 g T2 s.2.1 s.2.2 → Off g (g + 6) h h1 → ls = (6, .int (nI i)) :: (5, .int s.1) :: [(4, .int (dli D - r_det R)), (0, .ref g), (1, .ref q), (2, .ref e), (3, .ref c)] → GG (K, mX2_search, 0, 0, RetP (some (.int (s_find R num X D pa da).1)) n (fun h' => In h' g T2 (s_find R num X D pa da).2.1 (s_find R num X D pa da).2.2 ∧ Off g (g + 6) h h')) 0 0 30 ls [] n h1 := by
      intro f
      induction f with
      | zero =>
        intro i s h1 ls hi hs x o hl
        subst hl
        obtain ⟨x0, ⟨T1, x1⟩, x2⟩ := id x
        have hX1 := o.at hX hq
        have hE1 := o.at hE he
        have r1 := r.off o hc
        have r10 := r1.1
        have rt1 := x1.1
        have hf : s_find R num X D pa da = s := by unfold s_find; rw [if_pos hn2, hs, show rn R - 1 = i by omega]
        refine mj_iload 0 dX2_search_30 rfl ?_
        refine mj_aload_n 6 dX2_search_32 rfl ?_
        refine mj_getf dX2_search_33 fgX2_61 (by repeat (first | assumption | exact mup_s _ _ _ | rw [mup_n _ _ (by omega)])) rfl ?_
        refine mj_iconst (v := 1) dX2_search_36 rfl ?_
        refine mj_isub dX2_search_37 ?_
        refine mj_eq (show nI (rn R) - 1 = nI (rn R - 1) from pk_sub (a := rn R) (b := 1) (by omega)) ?_
        refine mj_icmp_ge 153 dX2_search_38 (by decide) (fun c_38 => ?_) (fun c_38 => ?_)
        · refine mj_iload 1 dX2_search_153 rfl ?_
          exact mj_iret dX2_search_155 rfl (Nat.le_of_ble_eq_true rfl) (Nat.le_of_ble_eq_true rfl) ⟨(by rw [hf]), rfl, (by rw [hf]; exact ⟨x, o⟩)⟩
        · exact absurd (nI_le (show rn R - 1 ≤ i by omega) (by omega)) c_38
      | succ f ih =>
        intro i s h1 ls hi hs x o hl
        subst hl
        have loop2 : ∀ (f : Nat) (m : Nat) (s : SS) (h1 : MH) (ls : List (Nat × Value)), i + m + f = rn R - 1 → s = (s_in R num X D (s_out R num X D (-1, pa, da) i) i m) → In h1 g T2 s.2.1 s.2.2 → Off g (g + 6) h h1 → ls = (7, .int (nI (i + m))) :: (6, .int (nI i)) :: (5, .int s.1) :: [(4, .int (dli D - r_det R)), (0, .ref g), (1, .ref q), (2, .ref e), (3, .ref c)] → GG (K, mX2_search, 0, 0, RetP (some (.int (s_find R num X D pa da).1)) n (fun h' => In h' g T2 (s_find R num X D pa da).2.1 (s_find R num X D pa da).2.2 ∧ Off g (g + 6) h h')) 0 0 45 ls [] n h1 := by
          intro f
          induction f with
          | zero =>
            intro m s h1 ls hm hs x o hl
            subst hl
            obtain ⟨x0, ⟨T1, x1⟩, x2⟩ := id x
            have hX1 := o.at hX hq
            have hE1 := o.at hE he
            have r1 := r.off o hc
            have r10 := r1.1
            have rt1 := x1.1
            refine mj_iload 0 dX2_search_45 rfl ?_
            refine mj_aload_n 7 dX2_search_47 rfl ?_
            refine mj_getf dX2_search_48 fgX2_61 (by repeat (first | assumption | exact mup_s _ _ _ | rw [mup_n _ _ (by omega)])) rfl ?_
            refine mj_iconst (v := 1) dX2_search_51 rfl ?_
            refine mj_isub dX2_search_52 ?_
            refine mj_eq (show nI (rn R) - 1 = nI (rn R - 1) from pk_sub (a := rn R) (b := 1) (by omega)) ?_
            refine mj_icmp_ge 147 dX2_search_53 (by decide) (fun c_53 => ?_) (fun c_53 => ?_)
            · refine mj_iinc (ls' := [(6, _), (7, _), (5, _), (4, _), (0, _), (1, _), (2, _), (3, _)]) 1 dX2_search_147 rfl (nI_s _) (Nat.le_of_ble_eq_true rfl) rfl ?_
              refine mj_goto 30 dX2_search_150 (by decide) ?_
              exact mj_ls [0, 2, 3, 4, 5, 6, 7] rfl (ih (i + 1) s h1 _ (by omega) (by rw [hs, show m = rn R - 1 - i by omega]; rfl) x o rfl)
            · exact absurd (nI_le (show rn R - 1 ≤ i + m by omega) (by omega)) c_53
          | succ f2 ih2 =>
            intro m s h1 ls hm hs x o hl
            subst hl
            have hgo : s_in R num X D (s_out R num X D (-1, pa, da) i) i (m + 1) = s_go R num X D s i (i + m) := by rw [hs]; rfl
            obtain ⟨x0, ⟨T1, x1⟩, x2⟩ := id x
            have hX1 := o.at hX hq
            have hE1 := o.at hE he
            have r1 := r.off o hc
            have r10 := r1.1
            have rt1 := x1.1
            refine mj_iload 0 dX2_search_45 rfl ?_
            refine mj_aload_n 7 dX2_search_47 rfl ?_
            refine mj_getf dX2_search_48 fgX2_61 (by repeat (first | assumption | exact mup_s _ _ _ | rw [mup_n _ _ (by omega)])) rfl ?_
            refine mj_iconst (v := 1) dX2_search_51 rfl ?_
            refine mj_isub dX2_search_52 ?_
            refine mj_eq (show nI (rn R) - 1 = nI (rn R - 1) from pk_sub (a := rn R) (b := 1) (by omega)) ?_
            refine mj_icmp_ge 147 dX2_search_53 (by decide) (fun c_53 => ?_) (fun c_53 => ?_)
            · exact absurd c_53 (nI_ge (show i + m < rn R - 1 by omega) (by omega))
            · refine mj_aload_n 7 dX2_search_56 rfl ?_
              refine mj_aload_n 5 dX2_search_57 rfl ?_
              refine mj_iload 1 dX2_search_58 rfl ?_
              refine mj_iload 0 dX2_search_60 rfl ?_
              refine mj_cV1 [_, _, _] (RX6, TX6, 5) dX2_search_62 cwX6_lengthening lkX2_71 (r1.1) rfl rfl rfl rfl (cn_X6_lengthening r1 hX1 (by omega) (by omega)) ⟨Nat.le_of_ble_eq_true rfl, Nat.le_of_ble_eq_true rfl, Nat.le_of_ble_eq_true rfl, Nat.le_of_ble_eq_true rfl, Nat.le_of_ble_eq_true rfl⟩ (fun h' e' => ?_)
              subst e'
              refine mj_istore (ls' := [(8, _), (7, _), (6, _), (5, _), (4, _), (0, _), (1, _), (2, _), (3, _)]) dX2_search_65 (Nat.le_of_ble_eq_true rfl) rfl ?_
              refine mj_iload 0 dX2_search_67 rfl ?_
              refine mj_iload 4 dX2_search_69 rfl ?_
              refine mj_icmp_gt 141 dX2_search_71 (by decide) (fun c_71 => ?_) (fun c_71 => ?_)
              · refine mj_iinc (ls' := [(7, _), (8, _), (6, _), (5, _), (4, _), (0, _), (1, _), (2, _), (3, _)]) 1 dX2_search_141 rfl (nI_s _) (Nat.le_of_ble_eq_true rfl) rfl ?_
                refine mj_goto 45 dX2_search_144 (by decide) ?_
                exact mj_ls [0, 2, 3, 4, 5, 6, 7, 8] rfl (ih2 (m + 1) s _ _ (by omega) (by rw [hgo]; exact s_no1 c_71) x o rfl)
              · refine mj_iload 3 dX2_search_74 rfl ?_
                refine mj_iconst (v := (-1)) dX2_search_76 rfl ?_
                refine mj_icmp_eq 87 dX2_search_77 (by decide) (fun c_77 => ?_) (fun c_77 => ?_)
                · refine mj_aload_n 5 dX2_search_87 rfl ?_
                  refine mj_getf dX2_search_88 fgX2_12 (by repeat (first | assumption | exact mup_s _ _ _ | rw [mup_n _ _ (by omega)])) rfl ?_
                  refine mj_aload_n 8 dX2_search_91 rfl ?_
                  refine mj_cV0 [_] (RX6, TX6, 5) dX2_search_92 cwX6_copyFrom lkX2_75 (x1.1) rfl rfl rfl rfl (cn_X6_copyFrom x1 r1 (by omega)) ⟨Nat.le_of_ble_eq_true rfl, Nat.le_of_ble_eq_true rfl, Nat.le_of_ble_eq_true rfl, Nat.le_of_ble_eq_true rfl, Nat.le_of_ble_eq_true rfl⟩ (fun h' e' => ?_)
                  obtain ⟨R1, t1, t2, t3⟩ := e'
                  have t0 := t1.1
                  have u0 := t3.at x0 (by omega)
                  refine mj_aload_n 5 dX2_search_95 rfl ?_
                  refine mj_getf dX2_search_96 fgX2_12 (by repeat (first | assumption | exact mup_s _ _ _ | rw [mup_n _ _ (by omega)])) rfl ?_
                  refine mj_aload_n 6 dX2_search_99 rfl ?_
                  refine mj_iload 2 dX2_search_100 rfl ?_
                  refine mj_iload 1 dX2_search_102 rfl ?_
                  refine mj_cV0 [_, _, _] (RX6, TX6, 5) dX2_search_104 cwX6_insert lkX2_50 (t1.1) rfl rfl rfl rfl (cn_X6_insert t1 (t3.at hX1 (by omega)) (by omega) (by omega) (by rw [t2.1]; omega) (by rw [t2.1]; omega)) ⟨Nat.le_of_ble_eq_true rfl, Nat.le_of_ble_eq_true rfl, Nat.le_of_ble_eq_true rfl, Nat.le_of_ble_eq_true rfl, Nat.le_of_ble_eq_true rfl⟩ (fun h' e' => ?_)
                  obtain ⟨R2, t4, t5, t6⟩ := e'
                  have o2 : Off g (g + 6) _ _ := (t3.up (by omega) (by omega)).tr (t6.up (by omega) (by omega))
                  have u1 := t6.at u0 (by omega)
                  have u2 := o2.at hE1 (by omega)
                  have t9 := t4.1
                  refine mj_aload_n 5 dX2_search_107 rfl ?_
                  refine mj_getf dX2_search_108 fgX2_12 (by repeat (first | assumption | exact mup_s _ _ _ | rw [mup_n _ _ (by omega)])) rfl ?_
                  refine mj_aload_n 7 dX2_search_111 rfl ?_
                  refine mj_getf dX2_search_112 fgX2_78 (by repeat (first | assumption | exact mup_s _ _ _ | rw [mup_n _ _ (by omega)])) rfl ?_
                  refine mj_aload_n 7 dX2_search_115 rfl ?_
                  refine mj_getf dX2_search_116 fgX2_81 (by repeat (first | assumption | exact mup_s _ _ _ | rw [mup_n _ _ (by omega)])) rfl ?_
                  refine mj_cV1 [_, _] (RX6, TX6, 5) dX2_search_119 cwX6_keepsSeatsAndDeadlines lkX2_84 (t4.1) rfl rfl rfl rfl (cn_X6_keepsSeatsAndDeadlines t4 (by rw [t5.1]; show 1 ≤ rn R1 + 2; omega)) ⟨Nat.le_of_ble_eq_true rfl, Nat.le_of_ble_eq_true rfl, Nat.le_of_ble_eq_true rfl, Nat.le_of_ble_eq_true rfl, Nat.le_of_ble_eq_true rfl⟩ (fun h' e' => ?_)
                  subst e'
                  have hk := r_ok_eq ((t2.ins (num := num) (X := X) (i := i) (j := i + m) (by omega) (by omega)).tr t5) (by show 1 ≤ rn R + 2; omega) (dse D) (dde D)
                  refine mj_if_eq 141 dX2_search_122 (by decide) (fun c_122 => ?_) (fun c_122 => ?_)
                  · have hok := bI_0.mp c_122
                    rw [hk] at hok
                    refine mj_iinc (ls' := [(7, _), (8, _), (6, _), (5, _), (4, _), (0, _), (1, _), (2, _), (3, _)]) 1 dX2_search_141 rfl (nI_s _) (Nat.le_of_ble_eq_true rfl) rfl ?_
                    refine mj_goto 45 dX2_search_144 (by decide) ?_
                    exact mj_ls [0, 2, 3, 4, 5, 6, 7, 8] rfl (ih2 (m + 1) s _ _ (by omega) (by rw [hgo]; exact s_no3 hok) ⟨u1, ⟨R2, t4⟩, x2.off o2 (by omega)⟩ (o.tr o2) rfl)
                  · have hok := bI_n0.mp c_122
                    rw [hk] at hok
                    refine mj_iload 0 dX2_search_125 rfl ?_
                    refine mj_istore (ls' := [(5, _), (8, _), (7, _), (6, _), (4, _), (0, _), (1, _), (2, _), (3, _)]) dX2_search_127 (Nat.le_of_ble_eq_true rfl) rfl ?_
                    refine mj_aload_n 5 dX2_search_129 rfl ?_
                    refine mj_iload 3 dX2_search_130 rfl ?_
                    refine mj_putf dX2_search_132 fgX2_44 (by repeat (first | assumption | exact mup_s _ _ _ | rw [mup_n _ _ (by omega)])) rfl rfl rfl (Nat.le_of_ble_eq_true rfl) rfl ?_
                    refine mj_aload_n 5 dX2_search_135 rfl ?_
                    refine mj_iload 2 dX2_search_136 rfl ?_
                    refine mj_putf dX2_search_138 fgX2_47 (by repeat (first | assumption | exact mup_s _ _ _ | rw [mup_n _ _ (by omega)])) rfl rfl rfl (Nat.le_of_ble_eq_true rfl) rfl ?_
                    refine mj_iinc (ls' := [(7, _), (5, _), (8, _), (6, _), (4, _), (0, _), (1, _), (2, _), (3, _)]) 2 dX2_search_141 rfl (nI_s _) (Nat.le_of_ble_eq_true rfl) rfl ?_
                    refine mj_goto 45 dX2_search_144 (by decide) ?_
                    exact mj_ls [0, 3, 1, 4, 5, 6, 7, 8] rfl (ih2 (m + 1) (r_lng R X i (i + m), i, i + m) _ _ (by omega) (by rw [hgo]; first | exact s_yes c_71 (Or.inl c_77) hok | exact s_yes c_71 (Or.inr c_84) hok) ⟨(by repeat (first | assumption | exact mup_s _ _ _ | rw [mup_n _ _ (by omega)])), ⟨R2, (t4.off (Off.m0 (a := g) (b := g + 1) _ (by omega) (by omega)) (by omega)).off (Off.m0 (a := g) (b := g + 1) _ (by omega) (by omega)) (by omega)⟩, ((x2.off o2 (by omega)).off (Off.m0 (a := g) (b := g + 1) _ (by omega) (by omega)) (by omega)).off (Off.m0 (a := g) (b := g + 1) _ (by omega) (by omega)) (by omega)⟩ (((o.tr o2).m _ (by omega) (by omega)).m _ (by omega) (by omega)) rfl)
                · refine mj_iload 0 dX2_search_80 rfl ?_
                  refine mj_iload 3 dX2_search_82 rfl ?_
                  refine mj_icmp_ge 141 dX2_search_84 (by decide) (fun c_84 => ?_) (fun c_84 => ?_)
                  · refine mj_iinc (ls' := [(7, _), (8, _), (6, _), (5, _), (4, _), (0, _), (1, _), (2, _), (3, _)]) 1 dX2_search_141 rfl (nI_s _) (Nat.le_of_ble_eq_true rfl) rfl ?_
                    refine mj_goto 45 dX2_search_144 (by decide) ?_
                    exact mj_ls [0, 2, 3, 4, 5, 6, 7, 8] rfl (ih2 (m + 1) s _ _ (by omega) (by rw [hgo]; exact s_no2 c_77 c_84) x o rfl)
                  · refine mj_aload_n 5 dX2_search_87 rfl ?_
                    refine mj_getf dX2_search_88 fgX2_12 (by repeat (first | assumption | exact mup_s _ _ _ | rw [mup_n _ _ (by omega)])) rfl ?_
                    refine mj_aload_n 8 dX2_search_91 rfl ?_
                    refine mj_cV0 [_] (RX6, TX6, 5) dX2_search_92 cwX6_copyFrom lkX2_75 (x1.1) rfl rfl rfl rfl (cn_X6_copyFrom x1 r1 (by omega)) ⟨Nat.le_of_ble_eq_true rfl, Nat.le_of_ble_eq_true rfl, Nat.le_of_ble_eq_true rfl, Nat.le_of_ble_eq_true rfl, Nat.le_of_ble_eq_true rfl⟩ (fun h' e' => ?_)
                    obtain ⟨R1, t1, t2, t3⟩ := e'
                    have t0 := t1.1
                    have u0 := t3.at x0 (by omega)
                    refine mj_aload_n 5 dX2_search_95 rfl ?_
                    refine mj_getf dX2_search_96 fgX2_12 (by repeat (first | assumption | exact mup_s _ _ _ | rw [mup_n _ _ (by omega)])) rfl ?_
                    refine mj_aload_n 6 dX2_search_99 rfl ?_
                    refine mj_iload 2 dX2_search_100 rfl ?_
                    refine mj_iload 1 dX2_search_102 rfl ?_
                    refine mj_cV0 [_, _, _] (RX6, TX6, 5) dX2_search_104 cwX6_insert lkX2_50 (t1.1) rfl rfl rfl rfl (cn_X6_insert t1 (t3.at hX1 (by omega)) (by omega) (by omega) (by rw [t2.1]; omega) (by rw [t2.1]; omega)) ⟨Nat.le_of_ble_eq_true rfl, Nat.le_of_ble_eq_true rfl, Nat.le_of_ble_eq_true rfl, Nat.le_of_ble_eq_true rfl, Nat.le_of_ble_eq_true rfl⟩ (fun h' e' => ?_)
                    obtain ⟨R2, t4, t5, t6⟩ := e'
                    have o2 : Off g (g + 6) _ _ := (t3.up (by omega) (by omega)).tr (t6.up (by omega) (by omega))
                    have u1 := t6.at u0 (by omega)
                    have u2 := o2.at hE1 (by omega)
                    have t9 := t4.1
                    refine mj_aload_n 5 dX2_search_107 rfl ?_
                    refine mj_getf dX2_search_108 fgX2_12 (by repeat (first | assumption | exact mup_s _ _ _ | rw [mup_n _ _ (by omega)])) rfl ?_
                    refine mj_aload_n 7 dX2_search_111 rfl ?_
                    refine mj_getf dX2_search_112 fgX2_78 (by repeat (first | assumption | exact mup_s _ _ _ | rw [mup_n _ _ (by omega)])) rfl ?_
                    refine mj_aload_n 7 dX2_search_115 rfl ?_
                    refine mj_getf dX2_search_116 fgX2_81 (by repeat (first | assumption | exact mup_s _ _ _ | rw [mup_n _ _ (by omega)])) rfl ?_
                    refine mj_cV1 [_, _] (RX6, TX6, 5) dX2_search_119 cwX6_keepsSeatsAndDeadlines lkX2_84 (t4.1) rfl rfl rfl rfl (cn_X6_keepsSeatsAndDeadlines t4 (by rw [t5.1]; show 1 ≤ rn R1 + 2; omega)) ⟨Nat.le_of_ble_eq_true rfl, Nat.le_of_ble_eq_true rfl, Nat.le_of_ble_eq_true rfl, Nat.le_of_ble_eq_true rfl, Nat.le_of_ble_eq_true rfl⟩ (fun h' e' => ?_)
                    subst e'
                    have hk := r_ok_eq ((t2.ins (num := num) (X := X) (i := i) (j := i + m) (by omega) (by omega)).tr t5) (by show 1 ≤ rn R + 2; omega) (dse D) (dde D)
                    refine mj_if_eq 141 dX2_search_122 (by decide) (fun c_122 => ?_) (fun c_122 => ?_)
                    · have hok := bI_0.mp c_122
                      rw [hk] at hok
                      refine mj_iinc (ls' := [(7, _), (8, _), (6, _), (5, _), (4, _), (0, _), (1, _), (2, _), (3, _)]) 1 dX2_search_141 rfl (nI_s _) (Nat.le_of_ble_eq_true rfl) rfl ?_
                      refine mj_goto 45 dX2_search_144 (by decide) ?_
                      exact mj_ls [0, 2, 3, 4, 5, 6, 7, 8] rfl (ih2 (m + 1) s _ _ (by omega) (by rw [hgo]; exact s_no3 hok) ⟨u1, ⟨R2, t4⟩, x2.off o2 (by omega)⟩ (o.tr o2) rfl)
                    · have hok := bI_n0.mp c_122
                      rw [hk] at hok
                      refine mj_iload 0 dX2_search_125 rfl ?_
                      refine mj_istore (ls' := [(5, _), (8, _), (7, _), (6, _), (4, _), (0, _), (1, _), (2, _), (3, _)]) dX2_search_127 (Nat.le_of_ble_eq_true rfl) rfl ?_
                      refine mj_aload_n 5 dX2_search_129 rfl ?_
                      refine mj_iload 3 dX2_search_130 rfl ?_
                      refine mj_putf dX2_search_132 fgX2_44 (by repeat (first | assumption | exact mup_s _ _ _ | rw [mup_n _ _ (by omega)])) rfl rfl rfl (Nat.le_of_ble_eq_true rfl) rfl ?_
                      refine mj_aload_n 5 dX2_search_135 rfl ?_
                      refine mj_iload 2 dX2_search_136 rfl ?_
                      refine mj_putf dX2_search_138 fgX2_47 (by repeat (first | assumption | exact mup_s _ _ _ | rw [mup_n _ _ (by omega)])) rfl rfl rfl (Nat.le_of_ble_eq_true rfl) rfl ?_
                      refine mj_iinc (ls' := [(7, _), (5, _), (8, _), (6, _), (4, _), (0, _), (1, _), (2, _), (3, _)]) 2 dX2_search_141 rfl (nI_s _) (Nat.le_of_ble_eq_true rfl) rfl ?_
                      refine mj_goto 45 dX2_search_144 (by decide) ?_
                      exact mj_ls [0, 3, 1, 4, 5, 6, 7, 8] rfl (ih2 (m + 1) (r_lng R X i (i + m), i, i + m) _ _ (by omega) (by rw [hgo]; first | exact s_yes c_71 (Or.inl c_77) hok | exact s_yes c_71 (Or.inr c_84) hok) ⟨(by repeat (first | assumption | exact mup_s _ _ _ | rw [mup_n _ _ (by omega)])), ⟨R2, (t4.off (Off.m0 (a := g) (b := g + 1) _ (by omega) (by omega)) (by omega)).off (Off.m0 (a := g) (b := g + 1) _ (by omega) (by omega)) (by omega)⟩, ((x2.off o2 (by omega)).off (Off.m0 (a := g) (b := g + 1) _ (by omega) (by omega)) (by omega)).off (Off.m0 (a := g) (b := g + 1) _ (by omega) (by omega)) (by omega)⟩ (((o.tr o2).m _ (by omega) (by omega)).m _ (by omega) (by omega)) rfl)
        obtain ⟨x0, ⟨T1, x1⟩, x2⟩ := id x
        have hX1 := o.at hX hq
        have hE1 := o.at hE he
        have r1 := r.off o hc
        have r10 := r1.1
        have rt1 := x1.1
        refine mj_iload 0 dX2_search_30 rfl ?_
        refine mj_aload_n 6 dX2_search_32 rfl ?_
        refine mj_getf dX2_search_33 fgX2_61 (by repeat (first | assumption | exact mup_s _ _ _ | rw [mup_n _ _ (by omega)])) rfl ?_
        refine mj_iconst (v := 1) dX2_search_36 rfl ?_
        refine mj_isub dX2_search_37 ?_
        refine mj_eq (show nI (rn R) - 1 = nI (rn R - 1) from pk_sub (a := rn R) (b := 1) (by omega)) ?_
        refine mj_icmp_ge 153 dX2_search_38 (by decide) (fun c_38 => ?_) (fun c_38 => ?_)
        · exact absurd c_38 (nI_ge (show i < rn R - 1 by omega) (by omega))
        · refine mj_iload 0 dX2_search_41 rfl ?_
          refine mj_istore (ls' := [(7, _), (6, _), (5, _), (4, _), (0, _), (1, _), (2, _), (3, _)]) dX2_search_43 (Nat.le_of_ble_eq_true rfl) rfl ?_
          exact mj_ls [0, 1, 2, 3, 4, 5, 6, 7] rfl (loop2 (rn R - 1 - i) 0 s h1 _ (by omega) (by rw [hs]; rfl) x o rfl)
    have r0 := r.1
    have r5 := r.2.2.2.2.2
    refine mj_aload_n 3 dX2_search_0 rfl ?_
    refine mj_getf dX2_search_1 fgX2_61 (by repeat (first | assumption | exact mup_s _ _ _ | rw [mup_n _ _ (by omega)])) rfl ?_
    refine mj_iconst (v := 2) dX2_search_4 rfl ?_
    refine mj_iadd dX2_search_5 ?_
    refine mj_eq (show nI (rn R) + 2 = nI (rn R + 2) from nI_add _ 2) ?_
    refine mj_bipush (v := (42)) dX2_search_6 rfl ?_
    refine mj_icmp_le 13 dX2_search_8 (by decide) (fun c_8 => ?_) (fun c_8 => ?_)
    · refine mj_aload_n 2 dX2_search_13 rfl ?_
      refine mj_getf dX2_search_14 fgX2_64 (by repeat (first | assumption | exact mup_s _ _ _ | rw [mup_n _ _ (by omega)])) rfl ?_
      refine mj_aload_n 3 dX2_search_17 rfl ?_
      refine mj_cV1 [] (RX6, TX6, 5) dX2_search_18 cwX6_detourLength lkX2_67 (r.1) rfl rfl rfl rfl (cn_X6_detourLength r (by omega)) ⟨Nat.le_of_ble_eq_true rfl, Nat.le_of_ble_eq_true rfl, Nat.le_of_ble_eq_true rfl, Nat.le_of_ble_eq_true rfl, Nat.le_of_ble_eq_true rfl⟩ (fun h' e' => ?_)
      subst e'
      refine mj_isub dX2_search_21 ?_
      refine mj_istore (ls' := [(4, _), (0, _), (1, _), (2, _), (3, _)]) dX2_search_22 (Nat.le_of_ble_eq_true rfl) rfl ?_
      refine mj_iconst (v := (-1)) dX2_search_24 rfl ?_
      refine mj_istore (ls' := [(5, _), (4, _), (0, _), (1, _), (2, _), (3, _)]) dX2_search_25 (Nat.le_of_ble_eq_true rfl) rfl ?_
      refine mj_iconst (v := 0) dX2_search_27 rfl ?_
      refine mj_istore (ls' := [(6, _), (5, _), (4, _), (0, _), (1, _), (2, _), (3, _)]) dX2_search_28 (Nat.le_of_ble_eq_true rfl) rfl ?_
      exact mj_ls [0, 1, 2, 3, 4, 5, 6] rfl (loop (rn R - 1) 0 (-1, pa, da) _ _ (by omega) rfl x Off.rf rfl)
    · exact absurd ((nI_leI (a := rn R + 2) (b := 42) (by omega) (by omega)).mpr hn2) c_8
  · have r0 := r.1
    have r5 := r.2.2.2.2.2
    have hf : s_find R num X D pa da = (-1, pa, da) := if_neg hn2
    refine mj_aload_n 3 dX2_search_0 rfl ?_
    refine mj_getf dX2_search_1 fgX2_61 (by repeat (first | assumption | exact mup_s _ _ _ | rw [mup_n _ _ (by omega)])) rfl ?_
    refine mj_iconst (v := 2) dX2_search_4 rfl ?_
    refine mj_iadd dX2_search_5 ?_
    refine mj_eq (show nI (rn R) + 2 = nI (rn R + 2) from nI_add _ 2) ?_
    refine mj_bipush (v := (42)) dX2_search_6 rfl ?_
    refine mj_icmp_le 13 dX2_search_8 (by decide) (fun c_8 => ?_) (fun c_8 => ?_)
    · exact absurd ((nI_leI (a := rn R + 2) (b := 42) (by omega) (by omega)).mp c_8) hn2
    · refine mj_iconst (v := (-1)) dX2_search_11 rfl ?_
      exact mj_iret dX2_search_12 rfl (Nat.le_of_ble_eq_true rfl) (Nat.le_of_ble_eq_true rfl) ⟨(by rw [hf]), rfl, (by rw [hf]; exact ⟨x, Off.rf⟩)⟩
/-- the search starts from anything -/
def s_best (R : RS) (num : Int32) (X : RdS) (D : DS) : SS := s_find R num X D 0 0
def Sim (s t : SS) : Prop := s.1 = t.1 ∧ (¬ s.1 = -1 → s = t)
theorem Sim.go {R : RS} {num : Int32} {X : RdS} {D : DS} {s t : SS} (e : Sim s t) (i j : Nat) : Sim (s_go R num X D s i j) (s_go R num X D t i j) := by
  unfold s_go
  rw [e.1]
  split
  · exact ⟨rfl, fun _ => rfl⟩
  · exact e
theorem Sim.inn {R : RS} {num : Int32} {X : RdS} {D : DS} {s t : SS} (e : Sim s t) (i : Nat) : ∀ m, Sim (s_in R num X D s i m) (s_in R num X D t i m)
  | 0 => e
  | m + 1 => (Sim.inn e i m).go i (i + m)
theorem Sim.out {R : RS} {num : Int32} {X : RdS} {D : DS} {s t : SS} (e : Sim s t) : ∀ i, Sim (s_out R num X D s i) (s_out R num X D t i)
  | 0 => e
  | i + 1 => (Sim.out e i).inn i _
theorem s_find_sim (R : RS) (num : Int32) (X : RdS) (D : DS) (pa da : Nat) : Sim (s_find R num X D pa da) (s_best R num X D) := by
  unfold s_best s_find
  have h : Sim (-1, pa, da) (-1, 0, 0) := ⟨rfl, fun z => absurd rfl z⟩
  split
  · exact h.out _
  · exact h
/-- what it finds are places of the route -/
def Pl (R : RS) (s : SS) : Prop := s.1 = -1 ∨ (s.2.1 ≤ s.2.2 ∧ s.2.2 + 1 < rn R ∧ rn R + 2 ≤ 42)
theorem Pl.go {R : RS} {num : Int32} {X : RdS} {D : DS} {s : SS} (e : Pl R s) {i j : Nat} (h1 : i ≤ j) (h2 : j + 1 < rn R) (h3 : rn R + 2 ≤ 42) : Pl R (s_go R num X D s i j) := by
  unfold s_go
  split
  · exact Or.inr ⟨h1, h2, h3⟩
  · exact e
theorem Pl.inn {R : RS} {num : Int32} {X : RdS} {D : DS} {s : SS} (e : Pl R s) (i : Nat) (h3 : rn R + 2 ≤ 42) : ∀ m, m ≤ rn R - 1 - i → Pl R (s_in R num X D s i m)
  | 0, _ => e
  | m + 1, h => (Pl.inn e i h3 m (by omega)).go (by omega) (by omega) h3
theorem Pl.out {R : RS} {num : Int32} {X : RdS} {D : DS} {s : SS} (e : Pl R s) (h3 : rn R + 2 ≤ 42) : ∀ i, Pl R (s_out R num X D s i)
  | 0 => e
  | i + 1 => (Pl.out e h3 i).inn i h3 _ (Nat.le_refl _)
theorem s_best_pl (R : RS) (num : Int32) (X : RdS) (D : DS) : Pl R (s_best R num X D) := by
  unfold s_best s_find
  have h : Pl R (-1, 0, 0) := Or.inl rfl
  split
  · rename_i h3
    exact h.out h3 _
  · exact h
theorem r_lng_eq {R R' : RS} {X : RdS} {i j : Nat} (q : Req R R') (hi : i ≤ j) (hj : j + 1 < rn R) : r_lng R' X i j = r_lng R X i j := by
  obtain ⟨a1, a2, a3, a4⟩ := st4_c (q.2 i (by omega))
  obtain ⟨b1, b2, b3, b4⟩ := st4_c (q.2 (i + 1) (by omega))
  obtain ⟨c1, c2, c3, c4⟩ := st4_c (q.2 j (by omega))
  obtain ⟨d1, d2, d3, d4⟩ := st4_c (q.2 (j + 1) (by omega))
  unfold r_lng r_step
  rw [a2, a3, b2, b3, c2, c3, d2, d3]
theorem r_lenTo_eq {R R' : RS} (q : Req R R') : ∀ k, k < rn R → r_lenTo R' k = r_lenTo R k
  | 0, _ => rfl
  | k + 1, h => by
    obtain ⟨a1, a2, a3, a4⟩ := st4_c (q.2 k (by omega))
    obtain ⟨b1, b2, b3, b4⟩ := st4_c (q.2 (k + 1) (by omega))
    have p4 : r_step R' k (k + 1) = r_step R k (k + 1) := by unfold r_step; rw [a2, a3, b2, b3]
    unfold r_lenTo
    rw [r_lenTo_eq q k (by omega), p4]
theorem r_dir_eq {R R' : RS} (q : Req R R') (h : 1 ≤ rn R) : r_dir R' = r_dir R := by
  obtain ⟨a1, a2, a3, a4⟩ := st4_c (q.2 0 (by omega))
  obtain ⟨b1, b2, b3, b4⟩ := st4_c (q.2 (rn R - 1) (by omega))
  unfold r_dir r_step
  rw [q.1, a2, a3, b2, b3]
theorem r_len_eq {R R' : RS} (q : Req R R') (h : 1 ≤ rn R) : r_len R' = r_len R := by
  unfold r_len
  rw [q.1, r_lenTo_eq q _ (by omega)]
theorem r_det_eq {R R' : RS} (q : Req R R') (h : 1 ≤ rn R) : r_det R' = r_det R := by
  unfold r_det
  rw [r_len_eq q h, r_dir_eq q h]
theorem s_go_eq {R R' : RS} {num : Int32} {X : RdS} {D : DS} {s : SS} {i j : Nat} (q : Req R R') (hi : i ≤ j) (hj : j + 1 < rn R) : s_go R' num X D s i j = s_go R num X D s i j := by
  unfold s_go
  rw [r_lng_eq q hi hj, r_det_eq q (by omega), r_ok_eq (q.ins (num := num) (X := X) hi hj) (by show 1 ≤ rn R + 2; omega)]
theorem s_in_eq {R R' : RS} {num : Int32} {X : RdS} {D : DS} {s : SS} {i : Nat} (q : Req R R') : ∀ m, m ≤ rn R - 1 - i → s_in R' num X D s i m = s_in R num X D s i m
  | 0, _ => rfl
  | m + 1, h => by
    unfold s_in
    rw [s_in_eq q m (by omega), s_go_eq q (by omega) (by omega)]
theorem s_out_eq {R R' : RS} {num : Int32} {X : RdS} {D : DS} {s : SS} (q : Req R R') : ∀ i, s_out R' num X D s i = s_out R num X D s i
  | 0 => rfl
  | i + 1 => by
    unfold s_out
    rw [q.1, s_out_eq q i, s_in_eq q _ (Nat.le_refl _)]
theorem s_find_eq {R R' : RS} {num : Int32} {X : RdS} {D : DS} {pa da : Nat} (q : Req R R') : s_find R' num X D pa da = s_find R num X D pa da := by
  unfold s_find
  rw [q.1, s_out_eq q]
theorem r_like_eq (R S O : RS) : Req (r_like R O) (r_like S O) := by
  refine ⟨rfl, fun k hk => ?_⟩
  have hk' : k < 2 := hk
  unfold st4 r_like r_begin rc rx ry rt upd
  dsimp only
  by_cases h : k = 1
  · subst h; simp
  · have : k = 0 := by omega
    subst this; simp
def InE (h : MH) (g : Nat) : Prop := ∃ T2 pa da, In h g T2 pa da
theorem In.at {h h' : MH} {g : Nat} {T2 : RS} {pa da : Nat} (x : In h g T2 pa da) (e : ∀ q, g ≤ q → q < g + 11 → h' q = h q) : In h' g T2 pa da := by
  obtain ⟨x0, ⟨T, x1⟩, x2⟩ := x
  exact ⟨(e _ (by omega) (by omega)).trans x0, ⟨T, x1.at fun q h1 h2 => e q (by omega) (by omega)⟩, x2.at fun q h1 h2 => e q (by omega) (by omega)⟩
theorem InE.at {h h' : MH} {g : Nat} (x : InE h g) (e : ∀ q, g ≤ q → q < g + 11 → h' q = h q) : InE h' g := by
  obtain ⟨T2, pa, da, x⟩ := x
  exact ⟨T2, pa, da, x.at e⟩
/-- the heap differs only on two intervals -/
def Off2 (a b c d : Nat) (h h' : MH) : Prop := ∀ q, (q < a ∨ b ≤ q) → (q < c ∨ d ≤ q) → h' q = h q
theorem Off.to1 {a b c d : Nat} {h h' : MH} (o : Off a b h h') : Off2 a b c d h h' := fun q e _ => o q e
theorem Off.to2 {a b c d : Nat} {h h' : MH} (o : Off c d h h') : Off2 a b c d h h' := fun q _ e => o q e
theorem Off2.tr {a b c d : Nat} {h h1 h2 : MH} (x : Off2 a b c d h h1) (y : Off2 a b c d h1 h2) : Off2 a b c d h h2 := fun q e f => (y q e f).trans (x q e f)
theorem Dr.at {h h' : MH} {a : Nat} {num : Int32} {D : DS} {T : RS} (x : Dr h a num D T) (e : ∀ q, a ≤ q → q < a + 6 → h' q = h q) : Dr h' a num D T := ⟨(e _ (by omega) (by omega)).trans x.1, x.2.at fun q h1 h2 => e q (by omega) (by omega)⟩
theorem Bd.at {h h' : MH} {a : Nat} {B : BS} (x : Bd h a B) (e : ∀ q, a ≤ q → q < a + 71 → h' q = h q) : Bd h' a B := by
  obtain ⟨b0, ⟨f, b1, f1⟩, ⟨g, b2, g2⟩, b3, b4, b5⟩ := x
  exact ⟨(e _ (by omega) (by omega)).trans b0, ⟨f, (e _ (by omega) (by omega)).trans b1, f1⟩, ⟨g, (e _ (by omega) (by omega)).trans b2, g2⟩, fun d hd => (b3 d hd).at fun q h1 h2 => e q (by omega) (by omega), fun r hr => (e _ (by omega) (by omega)).trans (b4 r hr), b5⟩
def s_alone (B : BS) (r d : Nat) : Int32 := (s_best (r_like (bT B d) (bT B d)) (nI r) (bX B r) (bD B d)).1
def s_inr (B : BS) (r d : Nat) : Int32 := if i_bit (r_mask (bT B d)) (nI r) then -1 else (s_best (bT B d) (nI r) (bX B r) (bD B d)).1
def x_put (X : RdS) (d : Nat) : RdS := (qfx X, qfy X, qtx X, qty X, qrd X, qdl X, 1, nI d, qcr X)
/-- the board after a rider has been put in -/
def Bput (B : BS) (r d : Nat) (B' : BS) : Prop :=
  if (s_best (bT B d) (nI r) (bX B r) (bD B d)).1 = -1 then B' = B else ∃ T, Req (r_ins (bT B d) (nI r) (bX B r) (s_best (bT B d) (nI r) (bX B r) (bD B d)).2.1 (s_best (bT B d) (nI r) (bX B r) (bD B d)).2.2) T ∧ B' = b_setX (b_setT B d T) r (x_put (bX B r) d)
set_option maxRecDepth 100000 in
set_option maxHeartbeats 4000000 in
theorem cn_X2_extraInRoute {K : KX} {n : Nat} {h : MH} {g a r d : Nat} {B : BS} (x : InE h g) (b : Bd h a B) (hr : r < 20) (hd : d < 8) (ht : 2 ≤ rn (bT B d)) (hg : a + 71 ≤ g ∨ g + 11 ≤ a) : Con K mX2_extraInRoute [.ref g, .ref (a + 51 + r), .ref (a + 3 + 6 * d)] 0 0 n h (RetP (some (.int (s_inr B r d))) n (fun h' => InE h' g ∧ Off g (g + 11) h h')) := by
  obtain ⟨T2, pa, da, x⟩ := x
  have x0 := x.1
  have bx := b.2.2.2.2.1 r hr
  obtain ⟨be, bt⟩ := b.2.2.2.1 d hd
  refine Con.of (by decide +kernel) (Nat.le_of_ble_eq_true rfl) ?_
  refine mj_aload_n 2 dX2_extraInRoute_0 rfl ?_
  refine mj_getf dX2_extraInRoute_1 fgX2_21 (by repeat (first | assumption | exact mup_s _ _ _ | rw [mup_n _ _ (by omega)])) rfl ?_
  refine mj_aload_n 1 dX2_extraInRoute_4 rfl ?_
  refine mj_getf dX2_extraInRoute_5 fgX2_26 (by repeat (first | assumption | exact mup_s _ _ _ | rw [mup_n _ _ (by omega)])) rfl ?_
  refine mj_cV1 [_] (RX6, TX6, 5) dX2_extraInRoute_8 cwX6_hasRider lkX2_32 (bt.1) rfl rfl rfl rfl (cn_X6_hasRider bt) ⟨Nat.le_of_ble_eq_true rfl, Nat.le_of_ble_eq_true rfl, Nat.le_of_ble_eq_true rfl, Nat.le_of_ble_eq_true rfl, Nat.le_of_ble_eq_true rfl⟩ (fun h' e' => ?_)
  subst e'
  refine mj_if_eq 18 dX2_extraInRoute_11 (by decide) (fun c_11 => ?_) (fun c_11 => ?_)
  · have z := bI_0.mp c_11
    refine mj_aload_n 0 dX2_extraInRoute_18 rfl ?_
    refine mj_aload_n 1 dX2_extraInRoute_19 rfl ?_
    refine mj_aload_n 2 dX2_extraInRoute_20 rfl ?_
    refine mj_aload_n 2 dX2_extraInRoute_21 rfl ?_
    refine mj_getf dX2_extraInRoute_22 fgX2_21 (by repeat (first | assumption | exact mup_s _ _ _ | rw [mup_n _ _ (by omega)])) rfl ?_
    refine mj_cV1 [_, _, _] (RX2, TX2, 4) dX2_extraInRoute_25 cwX2_search lkX2_36 (x.1) rfl rfl rfl rfl (cn_X2_search x bt bx be ht (by omega) (by omega) (by omega)) ⟨Nat.le_of_ble_eq_true rfl, Nat.le_of_ble_eq_true rfl, Nat.le_of_ble_eq_true rfl, Nat.le_of_ble_eq_true rfl, Nat.le_of_ble_eq_true rfl⟩ (fun h' e' => ?_)
    obtain ⟨y1, y2⟩ := e'
    exact mj_iret dX2_extraInRoute_28 rfl (Nat.le_of_ble_eq_true rfl) (Nat.le_of_ble_eq_true rfl) ⟨by unfold s_inr; rw [z, if_neg (by decide), (s_find_sim _ _ _ _ pa da).1], rfl, ⟨_, _, _, y1⟩, y2.up (by omega) (by omega)⟩
  · have z := bI_n0.mp c_11
    refine mj_iconst (v := (-1)) dX2_extraInRoute_14 rfl ?_
    refine mj_goto 28 dX2_extraInRoute_15 (by decide) ?_
    exact mj_iret dX2_extraInRoute_28 rfl (Nat.le_of_ble_eq_true rfl) (Nat.le_of_ble_eq_true rfl) ⟨by unfold s_inr; rw [if_pos z], rfl, ⟨_, _, _, x⟩, Off.rf⟩
set_option maxRecDepth 100000 in
set_option maxHeartbeats 4000000 in
theorem cn_X2_extraAlone {K : KX} {n : Nat} {h : MH} {g a r d : Nat} {B : BS} (x : InE h g) (b : Bd h a B) (hr : r < 20) (hd : d < 8) (ht : 2 ≤ rn (bT B d)) (hg : a + 71 ≤ g ∨ g + 11 ≤ a) : Con K mX2_extraAlone [.ref g, .ref (a + 51 + r), .ref (a + 3 + 6 * d)] 0 0 n h (RetP (some (.int (s_alone B r d))) n (fun h' => InE h' g ∧ Off g (g + 11) h h')) := by
  obtain ⟨T2, pa, da, x⟩ := x
  have x0 := x.1
  have bx := b.2.2.2.2.1 r hr
  obtain ⟨be, bt⟩ := b.2.2.2.1 d hd
  refine Con.of (by decide +kernel) (Nat.le_of_ble_eq_true rfl) ?_
  refine mj_aload_n 0 dX2_extraAlone_0 rfl ?_
  refine mj_getf dX2_extraAlone_1 fgX2_18 (by repeat (first | assumption | exact mup_s _ _ _ | rw [mup_n _ _ (by omega)])) rfl ?_
  refine mj_aload_n 2 dX2_extraAlone_4 rfl ?_
  refine mj_getf dX2_extraAlone_5 fgX2_21 (by repeat (first | assumption | exact mup_s _ _ _ | rw [mup_n _ _ (by omega)])) rfl ?_
  refine mj_cV0 [_] (RX6, TX6, 5) dX2_extraAlone_8 cwX6_beginLike lkX2_40 (x.2.2.1) rfl rfl rfl rfl (cn_X6_beginLike x.2.2 bt (by omega)) ⟨Nat.le_of_ble_eq_true rfl, Nat.le_of_ble_eq_true rfl, Nat.le_of_ble_eq_true rfl, Nat.le_of_ble_eq_true rfl, Nat.le_of_ble_eq_true rfl⟩ (fun h' e' => ?_)
  obtain ⟨t1, t2⟩ := e'
  have x1 : In h' g _ pa da := ⟨t2.at x.1 (by omega), ⟨x.2.1.choose, x.2.1.choose_spec.off t2 (by omega)⟩, t1⟩
  have x10 := x1.1
  refine mj_aload_n 0 dX2_extraAlone_11 rfl ?_
  refine mj_aload_n 1 dX2_extraAlone_12 rfl ?_
  refine mj_aload_n 2 dX2_extraAlone_13 rfl ?_
  refine mj_aload_n 0 dX2_extraAlone_14 rfl ?_
  refine mj_getf dX2_extraAlone_15 fgX2_18 (by repeat (first | assumption | exact mup_s _ _ _ | rw [mup_n _ _ (by omega)])) rfl ?_
  refine mj_cV1 [_, _, _] (RX2, TX2, 4) dX2_extraAlone_18 cwX2_search lkX2_36 (x1.1) rfl rfl rfl rfl (cn_X2_search x1 t1 (t2.at bx (by omega)) (t2.at be (by omega)) (Nat.le_refl 2) (by omega) (by omega) (by omega)) ⟨Nat.le_of_ble_eq_true rfl, Nat.le_of_ble_eq_true rfl, Nat.le_of_ble_eq_true rfl, Nat.le_of_ble_eq_true rfl, Nat.le_of_ble_eq_true rfl⟩ (fun h' e' => ?_)
  obtain ⟨y1, y2⟩ := e'
  exact mj_iret dX2_extraAlone_21 rfl (Nat.le_of_ble_eq_true rfl) (Nat.le_of_ble_eq_true rfl) ⟨(by unfold s_alone; rw [← (s_find_sim _ _ _ _ pa da).1, s_find_eq (r_like_eq (bT B d) T2 (bT B d))]), rfl, ⟨⟨_, _, _, y1⟩, (t2.up (by omega) (by omega)).tr (y2.up (by omega) (by omega))⟩⟩
set_option maxRecDepth 100000 in
set_option maxHeartbeats 4000000 in
theorem cn_X2_putIn {K : KX} {n : Nat} {h : MH} {g a r d : Nat} {B : BS} (x : InE h g) (b : Bd h a B) (hr : r < 20) (hd : d < 8) (ht : 2 ≤ rn (bT B d)) (hg : a + 71 ≤ g ∨ g + 11 ≤ a) : Con K mX2_putIn [.ref g, .ref (a + 51 + r), .ref (a + 3 + 6 * d)] 0 0 n h (RetP (some (.int (s_best (bT B d) (nI r) (bX B r) (bD B d)).1)) n (fun h' => ∃ B', Bd h' a B' ∧ Bput B r d B' ∧ InE h' g ∧ Off2 a (a + 71) g (g + 11) h h')) := by
  obtain ⟨T2, pa, da, x⟩ := x
  have x0 := x.1
  have bx := b.2.2.2.2.1 r hr
  obtain ⟨be, bt⟩ := b.2.2.2.1 d hd
  refine Con.of (by decide +kernel) (Nat.le_of_ble_eq_true rfl) ?_
  refine mj_aload_n 0 dX2_putIn_0 rfl ?_
  refine mj_aload_n 1 dX2_putIn_1 rfl ?_
  refine mj_aload_n 2 dX2_putIn_2 rfl ?_
  refine mj_aload_n 2 dX2_putIn_3 rfl ?_
  refine mj_getf dX2_putIn_4 fgX2_21 (by repeat (first | assumption | exact mup_s _ _ _ | rw [mup_n _ _ (by omega)])) rfl ?_
  refine mj_cV1 [_, _, _] (RX2, TX2, 4) dX2_putIn_7 cwX2_search lkX2_36 (x.1) rfl rfl rfl rfl (cn_X2_search x bt bx be ht (by omega) (by omega) (by omega)) ⟨Nat.le_of_ble_eq_true rfl, Nat.le_of_ble_eq_true rfl, Nat.le_of_ble_eq_true rfl, Nat.le_of_ble_eq_true rfl, Nat.le_of_ble_eq_true rfl⟩ (fun h' e' => ?_)
  obtain ⟨y1, y2⟩ := e'
  have sp := s_find_sim (bT B d) (nI r) (bX B r) (bD B d) pa da
  rw [sp.1]
  have bt1 := bt.off y2 (by omega)
  have bx1 := y2.at bx (by omega)
  have be1 := y2.at be (by omega)
  have b1 := b.off y2 (by omega)
  have y10 := y1.1
  refine mj_istore_n (ls' := [(3, _), (0, _), (1, _), (2, _)]) dX2_putIn_10 (Nat.le_of_ble_eq_true rfl) rfl ?_
  refine mj_iload_n 0 dX2_putIn_11 rfl ?_
  refine mj_iconst (v := (-1)) dX2_putIn_12 rfl ?_
  refine mj_icmp_eq 45 dX2_putIn_13 (by decide) (fun c_13 => ?_) (fun c_13 => ?_)
  · refine mj_iload_n 0 dX2_putIn_45 rfl ?_
    exact mj_iret dX2_putIn_46 rfl (Nat.le_of_ble_eq_true rfl) (Nat.le_of_ble_eq_true rfl) ⟨rfl, rfl, B, b1, by unfold Bput; rw [if_pos c_13], ⟨_, _, _, y1⟩, (y2.up (by omega) (by omega)).to2⟩
  · refine mj_aload_n 3 dX2_putIn_16 rfl ?_
    refine mj_getf dX2_putIn_17 fgX2_21 (by repeat (first | assumption | exact mup_s _ _ _ | rw [mup_n _ _ (by omega)])) rfl ?_
    refine mj_aload_n 2 dX2_putIn_20 rfl ?_
    refine mj_aload_n 1 dX2_putIn_21 rfl ?_
    refine mj_getf dX2_putIn_22 fgX2_44 (by repeat (first | assumption | exact mup_s _ _ _ | rw [mup_n _ _ (by omega)])) rfl ?_
    refine mj_aload_n 1 dX2_putIn_25 rfl ?_
    refine mj_getf dX2_putIn_26 fgX2_47 (by repeat (first | assumption | exact mup_s _ _ _ | rw [mup_n _ _ (by omega)])) rfl ?_
    have sq := sp.2 (by rw [sp.1]; exact c_13)
    rw [sq]
    have pl := (s_best_pl (bT B d) (nI r) (bX B r) (bD B d)).resolve_left c_13
    refine mj_cV0 [_, _, _] (RX6, TX6, 5) dX2_putIn_29 cwX6_insert lkX2_50 (bt1.1) rfl rfl rfl rfl (cn_X6_insert bt1 bx1 (by omega) pl.1 pl.2.1 pl.2.2) ⟨Nat.le_of_ble_eq_true rfl, Nat.le_of_ble_eq_true rfl, Nat.le_of_ble_eq_true rfl, Nat.le_of_ble_eq_true rfl, Nat.le_of_ble_eq_true rfl⟩ (fun h' e' => ?_)
    obtain ⟨R', t1, t2, t3⟩ := e'
    have bx2 := t3.at bx1 (by omega)
    have be2 := t3.at be1 (by omega)
    refine mj_aload_n 2 dX2_putIn_32 rfl ?_
    refine mj_iconst (v := 1) dX2_putIn_33 rfl ?_
    refine mj_putf dX2_putIn_34 fgX2_54 (by repeat (first | assumption | exact mup_s _ _ _ | rw [mup_n _ _ (by omega)])) rfl rfl rfl (Nat.le_of_ble_eq_true rfl) rfl ?_
    refine mj_aload_n 2 dX2_putIn_37 rfl ?_
    refine mj_aload_n 3 dX2_putIn_38 rfl ?_
    refine mj_getf dX2_putIn_39 fgX2_57 (by repeat (first | assumption | exact mup_s _ _ _ | rw [mup_n _ _ (by omega)])) rfl ?_
    refine mj_putf dX2_putIn_42 fgX2_58 (by repeat (first | assumption | exact mup_s _ _ _ | rw [mup_n _ _ (by omega)])) rfl rfl rfl (Nat.le_of_ble_eq_true rfl) rfl ?_
    refine mj_iload_n 0 dX2_putIn_45 rfl ?_
    have z0 := b1.setT hd (by rw [show a + 4 + 6 * d = a + 3 + 6 * d + 1 by omega]; exact t1) (t3.up (by omega) (by omega))
    exact mj_iret dX2_putIn_46 rfl (Nat.le_of_ble_eq_true rfl) (Nat.le_of_ble_eq_true rfl) ⟨rfl, rfl, _, z0.setX (Y := x_put (bX B r) d) hr (mup_s _ _ _) ((Off.m0 _ (by omega) (by omega)).m _ (by omega) (by omega)), by unfold Bput; rw [if_neg c_13]; exact ⟨R', t2, rfl⟩, InE.at ⟨_, _, _, y1⟩ (fun q h1 h2 => by rw [mup_n _ _ (by omega), mup_n _ _ (by omega)]; exact t3 q (by omega)), ((y2.up (a := g) (b := g + 11) (by omega) (by omega)).to2).tr (Off.to1 (((t3.up (by omega) (by omega)).m _ (by omega) (by omega)).m _ (by omega) (by omega)))⟩
set_option maxRecDepth 100000 in
set_option maxHeartbeats 4000000 in
theorem cn_X2_init {K : KX} {n : Nat} {h : MH} {g : Nat} (hn : n = g + 1) (x : h g = some (cO 2 [.null, .null, .int 0, .int 0])) : Con K mX2_init [.ref g] 10 346 n h (RetP none (n + 10) (fun h' => InE h' g ∧ Off g (g + 11) h h')) := by
  refine Con.of (by decide +kernel) (Nat.le_of_ble_eq_true rfl) ?_
  subst hn
  refine mj_aload_n 0 dX2_init_0 rfl ?_
  refine mj_objInit dX2_init_1 mlX2_3 im_obj cd_obj (Nat.le_of_ble_eq_true rfl) (Nat.le_of_ble_eq_true rfl) ?_
  refine mj_aload_n 0 dX2_init_4 rfl ?_
  refine mj_new (fs := [.null, .null, .null, .null, .int 0]) dX2_init_5 nfX2_9 (fun j hj => by match j, hj with | 0, _ => rfl | 1, _ => rfl | 2, _ => rfl | 3, _ => rfl | 4, _ => rfl | j + 5, h9 => exact absurd h9 (by omega)) (Nat.le_of_ble_eq_true rfl) (Nat.le_of_ble_eq_true rfl) ?_
  refine mj_dup dX2_init_8 rfl ?_
  refine mj_cI0 [] dX2_init_9 cwX6_init lkX2_11 rfl rfl (cn_X6_init rfl (mup_s _ _ _)) ⟨Nat.le_of_ble_eq_true rfl, Nat.le_of_ble_eq_true rfl, Nat.le_of_ble_eq_true rfl, Nat.le_of_ble_eq_true rfl, Nat.le_of_ble_eq_true rfl⟩ (fun h' e' => ?_)
  obtain ⟨T, q1, q2⟩ := e'
  have x1 := q2.at (q := g) (by repeat (first | assumption | exact mup_s _ _ _ | rw [mup_n _ _ (by omega)])) (by omega)
  refine mj_putG dX2_init_12 ffX2_12 (by repeat (first | assumption | exact mup_s _ _ _ | rw [mup_n _ _ (by omega)])) rfl rfl (by intro r h9; cases h9; rfl) rfl rfl (Nat.le_of_ble_eq_true rfl) rfl ?_
  refine mj_aload_n 0 dX2_init_15 rfl ?_
  refine mj_new (fs := [.null, .null, .null, .null, .int 0]) dX2_init_16 nfX2_9 (fun j hj => by match j, hj with | 0, _ => rfl | 1, _ => rfl | 2, _ => rfl | 3, _ => rfl | 4, _ => rfl | j + 5, h9 => exact absurd h9 (by omega)) (Nat.le_of_ble_eq_true rfl) (Nat.le_of_ble_eq_true rfl) ?_
  refine mj_dup dX2_init_19 rfl ?_
  refine mj_cI0 [] dX2_init_20 cwX6_init lkX2_11 rfl rfl (cn_X6_init rfl (mup_s _ _ _)) ⟨Nat.le_of_ble_eq_true rfl, Nat.le_of_ble_eq_true rfl, Nat.le_of_ble_eq_true rfl, Nat.le_of_ble_eq_true rfl, Nat.le_of_ble_eq_true rfl⟩ (fun h' e' => ?_)
  obtain ⟨T', p1, p2⟩ := e'
  have x2 := p2.at (q := g) (by repeat (first | assumption | exact mup_s _ _ _ | rw [mup_n _ _ (by omega)])) (by omega)
  refine mj_putG dX2_init_23 ffX2_18 (by repeat (first | assumption | exact mup_s _ _ _ | rw [mup_n _ _ (by omega)])) rfl rfl (by intro r h9; cases h9; rfl) rfl rfl (Nat.le_of_ble_eq_true rfl) rfl ?_
  exact mj_vret dX2_init_26 rfl (Nat.le_of_ble_eq_true rfl) (Nat.le_of_ble_eq_true rfl) ⟨rfl, rfl, ⟨⟨_, 0, 0, mup_s _ _ _, ⟨T, (((q1.off (Off.m0 (a := g) (b := g + 1) _ (by omega) (by omega)) (by omega)).off (Off.m0 (a := g + 6) (b := g + 7) _ (by omega) (by omega)) (by omega)).off p2 (by omega)).off (Off.m0 (a := g) (b := g + 1) _ (by omega) (by omega)) (by omega)⟩, p1.off (Off.m0 (a := g) (b := g + 1) _ (by omega) (by omega)) (by omega)⟩, ((((Off.m0 _ (by omega) (by omega)).tr (q2.up (by omega) (by omega))).m _ (by omega) (by omega)).m _ (by omega) (by omega)).tr (p2.up (by omega) (by omega)) |>.m _ (by omega) (by omega)⟩⟩
