theorem k_loop_e (T : Nat → Int32) (m f c : Nat) (S : KS) (B : BS) : k_loop T m (f + 1) c S B = if kkd S = 0 then (nI c, S, B) else if (k_stmt T m S B).1 then k_loop T m f (c + 1) (k_next T m (k_stmt T m S B).2.1) (k_stmt T m S B).2.2 else (-1, (k_stmt T m S B).2.1, (k_stmt T m S B).2.2) := rfl
theorem ld_stop {t : Nat} {s : LS2} (h : ¬ zec s.2 = 0) (c : Nat) : ∀ f, ld_run t f c s = (c, s) ∧ LdT t f s
  | 0 => ⟨rfl, fun z => h z.1⟩
  | f + 1 => ⟨by rw [ld_run_s, if_neg fun z => h z.1], Or.inl fun z => h z.1⟩
/-- THE LOOP of load -/
theorem load_v {T : Nat → Int32} {m : Nat} : ∀ (f cnt : Nat) {S : KS} {Z : ZS} {B : BS} {N : MS}, Tk T m S Z → zec Z = 0 → gtxt N = T → RB B (gbrd N) (gcrd N) → m < f + ken S →
    LdT m f (N, Z) ∧ kp (ld_run m f cnt (N, Z)).2.1 = kp N ∧ kfc (k_loop T m f cnt S B).2.1 = zec (ld_run m f cnt (N, Z)).2.2 ∧ kfp (k_loop T m f cnt S B).2.1 = zep (ld_run m f cnt (N, Z)).2.2 ∧ (ld_run m f cnt (N, Z)).1 ≤ cnt + f ∧
    ((zec (ld_run m f cnt (N, Z)).2.2 = 0 ∧ (k_loop T m f cnt S B).1 = nI (ld_run m f cnt (N, Z)).1 ∧ RB (k_loop T m f cnt S B).2.2 (gbrd (ld_run m f cnt (N, Z)).2.1) (gcrd (ld_run m f cnt (N, Z)).2.1)) ∨ (¬ zec (ld_run m f cnt (N, Z)).2.2 = 0 ∧ (k_loop T m f cnt S B).1 = -1))
  | 0, cnt, S, Z, B, N, tk, e0, hT, h, hm => by
    have := tk.2.2.2.2.2.1
    omega
  | f + 1, cnt, S, Z, B, N, tk, e0, hT, h, hm => by
    have kd := tk.kind.1
    rw [k_loop_e, ld_run_s]
    by_cases z : kkd S = 0
    · have z2 : ztok Z = 0 := kd.mp z
      rw [if_pos z, if_neg (fun y => y.2 z2)]
      exact ⟨Or.inl fun y => y.2 z2, rfl, tk.2.2.1, tk.2.2.2.1, by show cnt ≤ cnt + (f + 1); omega, Or.inl ⟨e0, rfl, h⟩⟩
    · have z2 : ¬ ztok Z = 0 := fun y => z (kd.mpr y)
      have h8 := h.1.1
      have h20 := h.1.2.1
      have el : ld1 m (N, Z) = ps N m Z (bnd B) (bnr B) := by
        show ps N m Z (i_nat (gbrd N 1)) (i_nat (gbrd N 2)) = _
        rw [h.1.2.2.2.1, h.1.2.2.2.2.1, i_nat_nI (by omega), i_nat_nI (by omega)]
      have eT : LdT m (f + 1) (N, Z) = (¬ ld_go (N, Z) ∨ LdT m f (ld1 m (N, Z))) := rfl
      rw [if_neg z, if_pos ⟨e0, z2⟩, eT, el]
      have sr := stmt_v tk e0 hT h
      have kq : kp (ps N m Z (bnd B) (bnr B)).1 = kp N := ps_kp
      generalize k_stmt T m S B = s at sr
      generalize ps N m Z (bnd B) (bnr B) = p at sr kq
      rcases sr with ⟨s1, s2, s3, s4, s5, s6⟩ | ⟨s1, s2, s3, s4⟩
      · rw [if_pos s1]
        have tx : gtxt p.1 = T := by
          have e : gtxt p.1 = gtxt N := congrArg (fun z => z.2.2.2.2.2.1) kq
          rw [e]
          exact hT
        have kl := knext_le (T := T) s6
        have ih := load_v f (cnt + 1) (N := p.1) (Z := p.2) s3 s2 tx s4 (by omega)
        have ep : (p.1, p.2) = p := rfl
        rw [ep] at ih
        obtain ⟨i1, i2, i3, i4, i5, i6⟩ := ih
        exact ⟨Or.inr i1, i2.trans kq, i3, i4, by omega, i6⟩
      · rw [if_neg (by rw [s1]; decide)]
        obtain ⟨l1, l2⟩ := ld_stop (t := m) (s := p) s2 (cnt + 1) f
        rw [l1]
        exact ⟨Or.inr l2, kq, s3, s4, by show cnt + 1 ≤ cnt + (f + 1); omega, Or.inr ⟨s2, rfl⟩⟩
theorem RB.empty {B : BS} {g : Nat → Int32} {c : Nat → Int64} (h0 : bnd B = 0) (h1 : bnr B = 0) (g0 : g 0 = bpe B) (g1 : g 1 = 0) (g2 : g 2 = 0) : RB B g c := by
  refine ⟨⟨by omega, by omega, g0, by rw [h0]; exact g1, by rw [h1]; exact g2, fun d hd => ?_, fun r hr => ?_⟩, ⟨fun d hd => ?_, fun r hr => ?_⟩, fun d hd => ?_⟩ <;> omega
theorem TkI.z {P : CS} {M : MS} (h : TkI P M) : ∃ Z, tkS M Z = M := by
  obtain ⟨-, p, t, l, h1, h2, h3⟩ := h
  refine ⟨(p, t, mF M 25, l, mF M 27, gwrd M, mF M 28, mF M 29), ?_⟩
  have e : zF M (p, t, mF M 25, l, mF M 27, gwrd M, mF M 28, mF M 29) = mF M := funext fun k => by
    unfold zF
    by_cases a : k = 23
    · rw [if_pos a, a]
      exact h1.symm
    · rw [if_neg a]
      by_cases b : k = 24
      · rw [if_pos b, b]
        exact h2.symm
      · rw [if_neg b]
        by_cases c : k = 25
        · rw [if_pos c, c]
        · rw [if_neg c]
          by_cases d : k = 26
          · rw [if_pos d, d]
            exact h3.symm
          · rw [if_neg d]
            by_cases e : k = 27
            · rw [if_pos e, e]
            · rw [if_neg e]
              by_cases f : k = 28
              · rw [if_pos f, f]
              · rw [if_neg f]
                by_cases g : k = 29
                · rw [if_pos g, g]
                · rw [if_neg g]
  show (zF M (p, t, mF M 25, l, mF M 27, gwrd M, mF M 28, mF M 29), gwrd M, M.2.2) = M
  rw [e]
theorem k_read_e (T : Nat → Int32) (m : Nat) (S : KS) (B : BS) : k_read T m S B = k_loop T m 601 0 (k_next T m (kV S, 0, -1, kkd S, kst S, 0, kva S)) (b_head B 0 0 500) := rfl
/-- LOAD, both: from the start -/
theorem read_v {M : MS} {T : Nat → Int32} {m : Nat} {Z : ZS} {Bk : Nat → Int32} {Ck : Nat → Int64} (hT : gtxt M = T) (hm : m ≤ 600) (Kx : KS) (Sp : BS) :
    LdT m 601 (ld_st M Z m Bk Ck (clrG (gbrd M)) (clrC (gcrd M))) ∧ kp (ld_run m 601 0 (ld_st M Z m Bk Ck (clrG (gbrd M)) (clrC (gcrd M)))).2.1 = (Bk, Ck, gsav M, gcsv M, giss M, gtxt M, gtl M) ∧ kfc (k_read T m Kx Sp).2.1 = zec (ld_run m 601 0 (ld_st M Z m Bk Ck (clrG (gbrd M)) (clrC (gcrd M)))).2.2 ∧ kfp (k_read T m Kx Sp).2.1 = zep (ld_run m 601 0 (ld_st M Z m Bk Ck (clrG (gbrd M)) (clrC (gcrd M)))).2.2 ∧ (ld_run m 601 0 (ld_st M Z m Bk Ck (clrG (gbrd M)) (clrC (gcrd M)))).1 ≤ 601 ∧
    ((zec (ld_run m 601 0 (ld_st M Z m Bk Ck (clrG (gbrd M)) (clrC (gcrd M)))).2.2 = 0 ∧ (k_read T m Kx Sp).1 = nI (ld_run m 601 0 (ld_st M Z m Bk Ck (clrG (gbrd M)) (clrC (gcrd M)))).1 ∧ RB (k_read T m Kx Sp).2.2 (gbrd (ld_run m 601 0 (ld_st M Z m Bk Ck (clrG (gbrd M)) (clrC (gcrd M)))).2.1) (gcrd (ld_run m 601 0 (ld_st M Z m Bk Ck (clrG (gbrd M)) (clrC (gcrd M)))).2.1)) ∨ (¬ zec (ld_run m 601 0 (ld_st M Z m Bk Ck (clrG (gbrd M)) (clrC (gcrd M)))).2.2 = 0 ∧ (k_read T m Kx Sp).1 = -1)) := by
  have nx := next_v (T := T) (m := m) (S := (kV Kx, 0, -1, kkd Kx, kst Kx, 0, kva Kx)) (Z := ld_Z0 Z) rfl (Nat.zero_le _) rfl rfl
  have z0 : zec (z_next T m (ld_Z0 Z)) = 0 := by
    rw [znext_ec]
    rfl
  have es : ld_st M Z m Bk Ck (clrG (gbrd M)) (clrC (gcrd M)) = (ld_N M Bk Ck (clrG (gbrd M)) (clrC (gcrd M)), z_next T m (ld_Z0 Z)) := by
    unfold ld_st
    rw [hT]
  have rb : RB (b_head Sp 0 0 500) (clrG (gbrd M)) (clrC (gcrd M)) := RB.empty rfl rfl ux_s (clrG_1 _) (clrG_2 _)
  have lv := load_v 601 0 (B := b_head Sp 0 0 500) (N := ld_N M Bk Ck (clrG (gbrd M)) (clrC (gcrd M))) nx.1 z0 hT rb (by omega)
  rw [es, k_read_e]
  rw [kp_N] at lv
  obtain ⟨a, b, c, d, e, f⟩ := lv
  exact ⟨a, b, c, d, by omega, f⟩
theorem SvR.of {P P' : CS} {M M' : MS} {i : Nat} (h : SvR P M i) (e1 : giss M' = giss M) (e2 : gsav M' = gsav M) (e3 : gcsv M' = gcsv M) (e4 : pV P' = pV P) : SvR P' M' i := by
  unfold SvR
  rw [e1, e2, e3, e4]
  exact h
set_option maxRecDepth 100000 in
set_option maxHeartbeats 4000000 in
theorem sr_load {K : KX} {c : Nat} : ∀ (n : Nat) (h : MH), Jv Rel c n h → StepD K c (c + 176) mX10_load [.ref c] mX11_load [.ref (c + 176)] (Jv Rel c) n h := by
  intro n h  j0
  obtain ⟨P, M, f, cp, mm, ho, hn, hr⟩ := j0
  have hB := hr.1
  obtain ⟨⟨f8, f20, g0, g1, g2, fd, fr⟩, ft⟩ := Rel.hasF.1 P M hr
  obtain ⟨fs, hc⟩ := cp.obj
  have h6 := ft.1
  have hT := hr.2.2.1.1
  obtain ⟨Z, hZ⟩ := hr.2.2.1.z
  have rv := fun (Kx : KS) (Sp : BS) => read_v (M := M) (Z := Z) (Bk := cpk (gbrd M) (gbak M) 0 0 568) (Ck := cpkL (gcrd M) (gcbk M) 0 0 28) hT h6 Kx Sp
  have lt := (rv (fun _ => 0, 0, 0, 0, 0, 0, 0) (pB P)).1
  have hL := fun (h1 : MH) (x : Ms h1 (c + 176) M h1) => cs_load (K := K) (n := n) x (t := pL P) (Z := Z) rfl rfl rfl rfl hZ ft.2.1 h6 lt rfl
  generalize ld_run (pL P) 601 0 (ld_st M Z (pL P) (cpk (gbrd M) (gbak M) 0 0 568) (cpkL (gcrd M) (gcbk M) 0 0 28) (clrG (gbrd M)) (clrC (gcrd M))) = R9 at rv hL
  have rv1 := rv (fun _ => 0, 0, 0, 0, 0, 0, 0) (pB P)
  have q0 := rv1.2.1
  have r600 := rv1.2.2.2.2.1
  have k1 : gbak R9.2.1 = cpk (gbrd M) (gbak M) 0 0 568 := congrArg (fun z => z.1) q0
  have k2 : gcbk R9.2.1 = cpkL (gcrd M) (gcbk M) 0 0 28 := congrArg (fun z => z.2.1) q0
  have k3 : gsav R9.2.1 = gsav M := congrArg (fun z => z.2.2.1) q0
  have k4 : gcsv R9.2.1 = gcsv M := congrArg (fun z => z.2.2.2.1) q0
  have k5 : giss R9.2.1 = giss M := congrArg (fun z => z.2.2.2.2.1) q0
  have k6 : gtxt R9.2.1 = gtxt M := congrArg (fun z => z.2.2.2.2.2.1) q0
  have nm1 : ¬ nI R9.1 = -1 := nI_ne_m1 (by omega)
  by_cases ok : zec R9.2.2 = 0
  · refine gl_D2 (v := nI R9.1) (QQ := fun P9 => ∃ Kx Sp, P9 = p_load P Kx Sp) (TT := fun M9 => M9 = stl (tkS R9.2.1 R9.2.2) 0) (PP := fun h' => ∃ Kx Sp, Cp h' n c (p_load P Kx Sp) ∧ OffS c h h') cp mm ho hn (Nat.le_refl _) (by omega) (by omega) ((cn_X10_load cp).mono fun r9 n9 h9 q => ?_) (fun h' e => ?_) (fun h1 x => ?_) (fun P9 M9 e1 e2 => ?_)
    · obtain ⟨Kx, Sp, e1, e2, e3, e4⟩ := q
      refine ⟨?_, e2, Kx, Sp, e3, e4⟩
      rcases (rv Kx Sp).2.2.2.2.2 with ⟨-, b, -⟩ | ⟨a, -⟩
      · rw [e1, b]
      · exact absurd ok a
    · obtain ⟨Kx, Sp, e1, e2⟩ := e
      exact ⟨e2, _, e1, Kx, Sp, rfl⟩
    · refine (hL h1 x).mono fun r9 n9 h9 q => ?_
      rcases q with ⟨e1, ⟨a, b, w⟩ | ⟨a, -⟩⟩
      · exact ⟨b, e1, _, rfl, w⟩
      · exact absurd ok a
    · obtain ⟨Kx, Sp, rfl⟩ := e1
      subst e2
      obtain ⟨-, -, c3, c4, -, c6⟩ := rv Kx Sp
      rcases c6 with ⟨-, b, w⟩ | ⟨a, -⟩
      · have eb : pB (p_load P Kx Sp) = (k_read (pT P) (pL P) Kx Sp).2.2 := if_neg (by rw [b]; exact nm1)
        refine ⟨by rw [eb]; exact w, ⟨Nat.zero_le _, rfl, fun k hk => absurd hk (Nat.not_lt_zero _), c3.symm, c4.symm⟩, ⟨k6.trans hT, zpos R9.2.2, ztst R9.2.2, zlet R9.2.2, rfl, rfl, rfl⟩, fun i hi => (hr.2.2.2 i hi).of k5 k3 k4 rfl⟩
      · exact absurd ok a
  · refine gl_D2 (v := -1) (QQ := fun P9 => ∃ Kx Sp, P9 = p_load P Kx Sp) (TT := fun M9 => M9 = ld_bk (stl (tkS R9.2.1 R9.2.2) 0)) (PP := fun h' => ∃ Kx Sp, Cp h' n c (p_load P Kx Sp) ∧ OffS c h h') cp mm ho hn (Nat.le_refl _) (by omega) (by omega) ((cn_X10_load cp).mono fun r9 n9 h9 q => ?_) (fun h' e => ?_) (fun h1 x => ?_) (fun P9 M9 e1 e2 => ?_)
    · obtain ⟨Kx, Sp, e1, e2, e3, e4⟩ := q
      refine ⟨?_, e2, Kx, Sp, e3, e4⟩
      rcases (rv Kx Sp).2.2.2.2.2 with ⟨a, -⟩ | ⟨-, b⟩
      · exact absurd a ok
      · rw [e1, b]
    · obtain ⟨Kx, Sp, e1, e2⟩ := e
      exact ⟨e2, _, e1, Kx, Sp, rfl⟩
    · refine (hL h1 x).mono fun r9 n9 h9 q => ?_
      rcases q with ⟨e1, ⟨a, -⟩ | ⟨-, b, w⟩⟩
      · exact absurd a ok
      · exact ⟨b, e1, _, rfl, w⟩
    · obtain ⟨Kx, Sp, rfl⟩ := e1
      subst e2
      obtain ⟨-, -, c3, c4, -, c6⟩ := rv Kx Sp
      rcases c6 with ⟨a, -⟩ | ⟨-, b⟩
      · exact absurd a ok
      · have eb : pB (p_load P Kx Sp) = pB P := if_pos b
        refine ⟨?_, ⟨Nat.zero_le _, rfl, fun k hk => absurd hk (Nat.not_lt_zero _), c3.symm, c4.symm⟩, ⟨k6.trans hT, zpos R9.2.2, ztst R9.2.2, zlet R9.2.2, rfl, rfl, rfl⟩, fun i hi => (hr.2.2.2 i hi).of k5 k3 k4 rfl⟩
        rw [eb]
        refine hB.c (fun k hk => ?_) (fun k hk => ?_)
        · show cpk (gbak R9.2.1) (gbrd R9.2.1) 0 0 568 k = gbrd M k
          rw [k1, cpk_v, if_pos (by omega), cpk_v, if_pos (by omega)]
          congr 1
          omega
        · show cpkL (gcbk R9.2.1) (gcrd R9.2.1) 0 0 28 k = gcrd M k
          rw [k2, cpkL_v, if_pos (by omega), cpkL_v, if_pos (by omega)]
          congr 1
          omega

