theorem dJ0_length_8abf5_0 : decode cJ0_length_8abf5 0 = .ok (.aload_n 0, 1) := by decide +kernel
theorem dJ0_length_8abf5_1 : decode cJ0_length_8abf5 1 = .ok (.getfield 9, 3) := by decide +kernel
theorem dJ0_length_8abf5_4 : decode cJ0_length_8abf5 4 = .ok (.arraylength, 1) := by decide +kernel
theorem dJ0_length_8abf5_5 : decode cJ0_length_8abf5 5 = .ok (.aload_n 0, 1) := by decide +kernel
theorem dJ0_length_8abf5_6 : decode cJ0_length_8abf5 6 = .ok (.invokevirtual 335, 3) := by decide +kernel
theorem dJ0_length_8abf5_9 : decode cJ0_length_8abf5 9 = .ok (.ishr, 1) := by decide +kernel
theorem dJ0_length_8abf5_10 : decode cJ0_length_8abf5 10 = .ok (.ireturn, 1) := by decide +kernel
theorem dJ0_charAt_5068e_0 : decode cJ0_charAt_5068e 0 = .ok (.aload_n 0, 1) := by decide +kernel
theorem dJ0_charAt_5068e_1 : decode cJ0_charAt_5068e 1 = .ok (.invokevirtual 492, 3) := by decide +kernel
theorem dJ0_charAt_5068e_4 : decode cJ0_charAt_5068e 4 = .ok (.ifCond .eq 12, 3) := by decide +kernel
theorem dJ0_charAt_5068e_7 : decode cJ0_charAt_5068e 7 = .ok (.aload_n 0, 1) := by decide +kernel
theorem dJ0_charAt_5068e_8 : decode cJ0_charAt_5068e 8 = .ok (.getfield 9, 3) := by decide +kernel
theorem dJ0_charAt_5068e_11 : decode cJ0_charAt_5068e 11 = .ok (.iload_n 1, 1) := by decide +kernel
theorem dJ0_charAt_5068e_12 : decode cJ0_charAt_5068e 12 = .ok (.invokestatic 495, 3) := by decide +kernel
theorem dJ0_charAt_5068e_15 : decode cJ0_charAt_5068e 15 = .ok (.ireturn, 1) := by decide +kernel
theorem dJ0_charAt_5068e_16 : decode cJ0_charAt_5068e 16 = .ok (.aload_n 0, 1) := by decide +kernel
theorem dJ0_charAt_5068e_17 : decode cJ0_charAt_5068e 17 = .ok (.getfield 9, 3) := by decide +kernel
theorem dJ0_charAt_5068e_20 : decode cJ0_charAt_5068e 20 = .ok (.iload_n 1, 1) := by decide +kernel
theorem dJ0_charAt_5068e_21 : decode cJ0_charAt_5068e 21 = .ok (.invokestatic 498, 3) := by decide +kernel
theorem dJ0_charAt_5068e_24 : decode cJ0_charAt_5068e 24 = .ok (.ireturn, 1) := by decide +kernel
theorem dJ0_coder_7d493_0 : decode cJ0_coder_7d493 0 = .ok (.getstatic 38, 3) := by decide +kernel
theorem dJ0_coder_7d493_3 : decode cJ0_coder_7d493 3 = .ok (.ifCond .eq 10, 3) := by decide +kernel
theorem dJ0_coder_7d493_6 : decode cJ0_coder_7d493 6 = .ok (.aload_n 0, 1) := by decide +kernel
theorem dJ0_coder_7d493_7 : decode cJ0_coder_7d493 7 = .ok (.getfield 15, 3) := by decide +kernel
theorem dJ0_coder_7d493_10 : decode cJ0_coder_7d493 10 = .ok (.goto 4, 3) := by decide +kernel
theorem dJ0_coder_7d493_13 : decode cJ0_coder_7d493 13 = .ok (.iconst 1, 1) := by decide +kernel
theorem dJ0_coder_7d493_14 : decode cJ0_coder_7d493 14 = .ok (.ireturn, 1) := by decide +kernel
theorem dJ0_isLatin1_aae02_0 : decode cJ0_isLatin1_aae02 0 = .ok (.getstatic 38, 3) := by decide +kernel
theorem dJ0_isLatin1_aae02_3 : decode cJ0_isLatin1_aae02 3 = .ok (.ifCond .eq 14, 3) := by decide +kernel
theorem dJ0_isLatin1_aae02_6 : decode cJ0_isLatin1_aae02 6 = .ok (.aload_n 0, 1) := by decide +kernel
theorem dJ0_isLatin1_aae02_7 : decode cJ0_isLatin1_aae02 7 = .ok (.getfield 15, 3) := by decide +kernel
theorem dJ0_isLatin1_aae02_10 : decode cJ0_isLatin1_aae02 10 = .ok (.ifCond .ne 7, 3) := by decide +kernel
theorem dJ0_isLatin1_aae02_13 : decode cJ0_isLatin1_aae02 13 = .ok (.iconst 1, 1) := by decide +kernel
theorem dJ0_isLatin1_aae02_14 : decode cJ0_isLatin1_aae02 14 = .ok (.goto 4, 3) := by decide +kernel
theorem dJ0_isLatin1_aae02_17 : decode cJ0_isLatin1_aae02 17 = .ok (.iconst 0, 1) := by decide +kernel
theorem dJ0_isLatin1_aae02_18 : decode cJ0_isLatin1_aae02 18 = .ok (.ireturn, 1) := by decide +kernel
theorem dJ0_checkIndex_df160_0 : decode cJ0_checkIndex_df160 0 = .ok (.iload_n 0, 1) := by decide +kernel
theorem dJ0_checkIndex_df160_1 : decode cJ0_checkIndex_df160 1 = .ok (.iload_n 1, 1) := by decide +kernel
theorem dJ0_checkIndex_df160_2 : decode cJ0_checkIndex_df160 2 = .ok (.getstatic 1053, 3) := by decide +kernel
theorem dJ0_checkIndex_df160_5 : decode cJ0_checkIndex_df160 5 = .ok (.invokestatic 1059, 3) := by decide +kernel
theorem dJ0_checkIndex_df160_8 : decode cJ0_checkIndex_df160 8 = .ok (.pop, 1) := by decide +kernel
theorem dJ0_checkIndex_df160_9 : decode cJ0_checkIndex_df160 9 = .ok (.return_, 1) := by decide +kernel
theorem dJ1_charAt_3b067_0 : decode cJ1_charAt_3b067 0 = .ok (.iload_n 1, 1) := by decide +kernel
theorem dJ1_charAt_3b067_1 : decode cJ1_charAt_3b067 1 = .ok (.aload_n 0, 1) := by decide +kernel
theorem dJ1_charAt_3b067_2 : decode cJ1_charAt_3b067 2 = .ok (.arraylength, 1) := by decide +kernel
theorem dJ1_charAt_3b067_3 : decode cJ1_charAt_3b067 3 = .ok (.invokestatic 9, 3) := by decide +kernel
theorem dJ1_charAt_3b067_6 : decode cJ1_charAt_3b067 6 = .ok (.aload_n 0, 1) := by decide +kernel
theorem dJ1_charAt_3b067_7 : decode cJ1_charAt_3b067 7 = .ok (.iload_n 1, 1) := by decide +kernel
theorem dJ1_charAt_3b067_8 : decode cJ1_charAt_3b067 8 = .ok (.baload, 1) := by decide +kernel
theorem dJ1_charAt_3b067_9 : decode cJ1_charAt_3b067 9 = .ok (.sipush 255, 3) := by decide +kernel
theorem dJ1_charAt_3b067_12 : decode cJ1_charAt_3b067 12 = .ok (.iand, 1) := by decide +kernel
theorem dJ1_charAt_3b067_13 : decode cJ1_charAt_3b067 13 = .ok (.i2c, 1) := by decide +kernel
theorem dJ1_charAt_3b067_14 : decode cJ1_charAt_3b067 14 = .ok (.ireturn, 1) := by decide +kernel
theorem dJ3_checkIndex_8e157_0 : decode cJ3_checkIndex_8e157 0 = .ok (.iload_n 0, 1) := by decide +kernel
theorem dJ3_checkIndex_8e157_1 : decode cJ3_checkIndex_8e157 1 = .ok (.ifCond .lt 8, 3) := by decide +kernel
theorem dJ3_checkIndex_8e157_4 : decode cJ3_checkIndex_8e157 4 = .ok (.iload_n 0, 1) := by decide +kernel
theorem dJ3_checkIndex_8e157_5 : decode cJ3_checkIndex_8e157 5 = .ok (.iload_n 1, 1) := by decide +kernel
theorem dJ3_checkIndex_8e157_6 : decode cJ3_checkIndex_8e157 6 = .ok (.if_icmp .lt 10, 3) := by decide +kernel
theorem dJ3_checkIndex_8e157_9 : decode cJ3_checkIndex_8e157 9 = .ok (.aload_n 2, 1) := by decide +kernel
theorem dJ3_checkIndex_8e157_10 : decode cJ3_checkIndex_8e157 10 = .ok (.iload_n 0, 1) := by decide +kernel
theorem dJ3_checkIndex_8e157_11 : decode cJ3_checkIndex_8e157 11 = .ok (.iload_n 1, 1) := by decide +kernel
theorem dJ3_checkIndex_8e157_12 : decode cJ3_checkIndex_8e157 12 = .ok (.invokestatic 95, 3) := by decide +kernel
theorem dJ3_checkIndex_8e157_15 : decode cJ3_checkIndex_8e157 15 = .ok (.athrow, 1) := by decide +kernel
theorem dJ3_checkIndex_8e157_16 : decode cJ3_checkIndex_8e157 16 = .ok (.iload_n 0, 1) := by decide +kernel
theorem dJ3_checkIndex_8e157_17 : decode cJ3_checkIndex_8e157 17 = .ok (.ireturn, 1) := by decide +kernel
theorem wCompact : Cond.fieldLink RJ0 38 "java/lang/String" "COMPACT_STRINGS" "Z" ∈ TG := tg_m (tb3 210 (by decide +kernel)) (by decide +kernel)
theorem wSioobe : Cond.fieldLink RJ0 1053 "jdk/internal/util/Preconditions" "SIOOBE_FORMATTER" "Ljava/util/function/BiFunction;" ∈ TG := tg_m (tb3 226 (by decide +kernel)) (by decide +kernel)
theorem wSval : Cond.fieldLink RJ0 9 "java/lang/String" "value" "[B" ∈ TG := tg_m (tb8 149 (by decide +kernel)) (by decide +kernel)
theorem wScod : Cond.fieldLink RJ0 15 "java/lang/String" "coder" "B" ∈ TG := tg_m (tb8 150 (by decide +kernel)) (by decide +kernel)
section MJK
variable {Γ : GX} {k sl pc n : Nat} {ls : List (Nat × Value)} {st : List Value} {h : MH} {E : String}
theorem mj_callK {i : Nat} {M' : MI} {q0 : Nat} {As rest : List Value} {mc' ms' : Nat} {Q' : RQ} (hd : decode (mcode Γ.2.1) pc = .ok (.invokevirtual i, 3)) (cw : CVw M' As.length) (hq0 : q0 < 3) (hrc : "java/lang/String" = (my M').cls) (hnt : mhh M' = []) (hlk : LK (my Γ.2.1).cls i (my M')) (hcon : Con Γ.1 M' (.ref (ks Γ.1 q0) :: As) mc' ms' n h Q') (hst : st = As.reverse ++ .ref (ks Γ.1 q0) :: rest) (hcat : (rest.map fun v => v.category).sum ≤ 8) (hfr : mfr M' + 1 ≤ mfr Γ.2.1) (hlo : 8 + (mmax M' + 11) + mlo M' ≤ mlo Γ.2.1) (hmc : k + mc' ≤ Γ.2.2.1) (hms : sl + ms' ≤ Γ.2.2.2.1)
    (gr : ∀ v n' h', Q' (.inl v) n' h' → GG Γ (k + mc') (sl + ms') (pc + 3) ls (v.toList ++ rest) n' h') (gx : ∀ E n' h', Q' (.inr E) n' h' → XX Γ (k + mc') (sl + ms') pc ls rest E n' h') : GG Γ k sl pc ls st n h := by
  intro p e s m args below meth c H locs lsr C S R L
  subst hst
  have hts : ∀ w ∈ TG, w.before args s = true := C.2.2.2.2.2.1
  have hK : va_K (kD Γ.1) vwCl (ktys Γ.1) s := C.2.2.2.2.2.2.2.2.2.1
  have hSt := C.2.2.2.2.2.2.2.2.2.2
  have hB := mj_back (R := { frames := mfr Γ.2.1, cells := Γ.2.2.1, slots := Γ.2.2.2.1, locals := mlo Γ.2.1 }) (p := p) (e := e) (below := below) hcon hts cw.1 hfr hlo
  obtain ⟨cw, hcwx⟩ := cw
  have hlen : ∀ sig, parseMethodDescriptor (my M').desc = some sig → As.length = sig.parameters.length := fun sig h => by
    have h2 := cw.2.2.2
    rw [h] at h2
    exact (Option.some.inj h2).symm
  have hy := cw.2.2.1
  obtain ⟨hinst, hsel⟩ := hcwx
  obtain ⟨mk, methM, hnamed, hmethM, hstM, habM⟩ := Cond.instanceMethod_spec (hts _ hinst)
  have hcode := hts _ cw.1
  rw [headW_code hnt] at hcode
  obtain ⟨methM', cM, hmethM', -, -, -, -, -, -, hsigM⟩ := Cond.code_spec hnamed hcode
  cases hmethM.symm.trans hmethM'
  obtain ⟨c2, r2, m2, q1, q2, q3, q4, kP, hkP, hkPi⟩ := Cond.selects_spec (hts _ hsel)
  obtain ⟨cellB, hcB, hoB, hclB⟩ := vk_recv hSt.2.2.2.2.2.2.2.1 hq0 S
  rw [hrc] at hclB
  cases hclB.symm.trans q1
  cases (State.methodFound?_of_named hnamed hy).symm.trans q2
  cases hnamed.symm.trans q3
  intro T hT X
  have hselP : selectMethod e.platform s.vm cellB.cls mk = .method mk := by rw [Launch.admits_selectMethod X.admits]; exact q4
  rcases hlk with hlk | ⟨host, hlk⟩
  · obtain ⟨vm₁, X₁, hstep₁⟩ := X.invokevirtual C.1 (own := (my Γ.2.1).cls) C.2.2.2.2.1 (hts _ hlk) hnamed hmethM hstM hkP hkPi hy (a := ks Γ.1 q0) (cell := cellB) (by rw [hT]; exact hcB)
      (fun z h => by rw [h] at hoB; cases hoB) hselP hmethM habM hkP hkPi (g := F0 m pc lsr (As.reverse ++ .ref (ks Γ.1 q0) :: rest)) rfl (argsL := As) (rest := rest) (hlen _ hsigM) rfl (by rw [C.2.1]; exact hd)
    rcases hB m meth c ⟨T.setVm vm₁, locs, k, sl⟩ (F0 m pc lsr rest) (.invokevirtual i) mk (Value.ref (ks Γ.1 q0) :: As).toArray X₁ rfl (L.1.trans C.2.2.2.1.symm) (by rw [C.2.1]; exact hd) (lv_room (ls := lsr) (pc := pc) (m := m) hcat) (X₁.named hnamed) ⟨hmc, hms, pc_now S R hK hSt hT X₁.warmed⟩ with ⟨v, ⟨U', l2, c2, s2⟩, X', ⟨g', mk', t, L9, e1, e2, hq, h1, hL, h2, h3⟩, hsteps⟩ | ⟨q, ⟨U', l2, c2, s2⟩, X', ⟨g', mk', t, L9, E, ce, e1, e2, hq, hce, hcv, hcl, h1, hL, h2, h3⟩, hsteps⟩
    · dsimp only [Pt.U, Pt.locs, Pt.cells, Pt.slots] at X' e1 e2 h1 h2 h3 hsteps
      subst h1; subst h2; subst h3
      obtain ⟨v', n', h', hv, hQ, hR', hF⟩ := hq
      cases hv
      obtain ⟨-, -, S'⟩ := vx_keep (st₀ := (T.setVm vm₁).calling g' mk' _) (H := H) (T' := U') (t := t) hT e1 S (fun q _ z => z) (fun q z => z) hL hF
      obtain ⟨t2, a1, b1⟩ := gr v n' h' hQ p e s m args below meth c U'.heap _ lsr C S' (by rw [e1]; exact hR') L U' rfl X'
      exact ⟨t2, (hstep₁ _ fun acts => by rw [doInvoke_state]; exact hsteps.trans a1), b1⟩
    · dsimp only [Pt.U, Pt.locs, Pt.cells, Pt.slots] at X' e1 e2 h1 h2 h3 hsteps hcl
      subst h1; subst h2; subst h3
      obtain ⟨n', h', hQ, hR', hF⟩ := hq
      obtain ⟨-, -, S'⟩ := vx_keep (st₀ := (T.setVm vm₁).calling g' mk' _) (H := H) (T' := U') (t := t) hT e1 S (fun q _ z => z) (fun q z => z) hL hF
      obtain ⟨t2, a1, b1⟩ := gx E n' h' hQ p e s m args below meth c U'.heap _ lsr C S' (by rw [e1]; exact hR') L q ce (by rw [e1]; exact hce) hcv (vx_cls X₁.warmed hcl) U' rfl X'
      exact ⟨t2, (hstep₁ _ fun acts => by rw [doInvoke_state]; exact hsteps.trans a1), b1⟩
  · obtain ⟨vm₁, X₁, hstep₁⟩ := X.invokevirtualNest C.1 (own := (my Γ.2.1).cls) C.2.2.2.2.1 (va_Nw.use rfl (hSt.2.1 _ hlk)) hnamed hmethM hstM hkP hkPi hy (a := ks Γ.1 q0) (cell := cellB) (by rw [hT]; exact hcB)
      (fun z h => by rw [h] at hoB; cases hoB) hselP hmethM habM hkP hkPi (g := F0 m pc lsr (As.reverse ++ .ref (ks Γ.1 q0) :: rest)) rfl (argsL := As) (rest := rest) (hlen _ hsigM) rfl (by rw [C.2.1]; exact hd)
    rcases hB m meth c ⟨T.setVm vm₁, locs, k, sl⟩ (F0 m pc lsr rest) (.invokevirtual i) mk (Value.ref (ks Γ.1 q0) :: As).toArray X₁ rfl (L.1.trans C.2.2.2.1.symm) (by rw [C.2.1]; exact hd) (lv_room (ls := lsr) (pc := pc) (m := m) hcat) (X₁.named hnamed) ⟨hmc, hms, pc_now S R hK hSt hT X₁.warmed⟩ with ⟨v, ⟨U', l2, c2, s2⟩, X', ⟨g', mk', t, L9, e1, e2, hq, h1, hL, h2, h3⟩, hsteps⟩ | ⟨q, ⟨U', l2, c2, s2⟩, X', ⟨g', mk', t, L9, E, ce, e1, e2, hq, hce, hcv, hcl, h1, hL, h2, h3⟩, hsteps⟩
    · dsimp only [Pt.U, Pt.locs, Pt.cells, Pt.slots] at X' e1 e2 h1 h2 h3 hsteps
      subst h1; subst h2; subst h3
      obtain ⟨v', n', h', hv, hQ, hR', hF⟩ := hq
      cases hv
      obtain ⟨-, -, S'⟩ := vx_keep (st₀ := (T.setVm vm₁).calling g' mk' _) (H := H) (T' := U') (t := t) hT e1 S (fun q _ z => z) (fun q z => z) hL hF
      obtain ⟨t2, a1, b1⟩ := gr v n' h' hQ p e s m args below meth c U'.heap _ lsr C S' (by rw [e1]; exact hR') L U' rfl X'
      exact ⟨t2, (hstep₁ _ fun acts => by rw [doInvoke_state]; exact hsteps.trans a1), b1⟩
    · dsimp only [Pt.U, Pt.locs, Pt.cells, Pt.slots] at X' e1 e2 h1 h2 h3 hsteps hcl
      subst h1; subst h2; subst h3
      obtain ⟨n', h', hQ, hR', hF⟩ := hq
      obtain ⟨-, -, S'⟩ := vx_keep (st₀ := (T.setVm vm₁).calling g' mk' _) (H := H) (T' := U') (t := t) hT e1 S (fun q _ z => z) (fun q z => z) hL hF
      obtain ⟨t2, a1, b1⟩ := gx E n' h' hQ p e s m args below meth c U'.heap _ lsr C S' (by rw [e1]; exact hR') L q ce (by rw [e1]; exact hce) hcv (vx_cls X₁.warmed hcl) U' rfl X'
      exact ⟨t2, (hstep₁ _ fun acts => by rw [doInvoke_state]; exact hsteps.trans a1), b1⟩

theorem mj_cK1 {i : Nat} {M' : MI} {q0 : Nat} {rest : List Value} {mc' ms' n' : Nat} {P : MH → Prop} {v : Value} (As : List Value) (hd : decode (mcode Γ.2.1) pc = .ok (.invokevirtual i, 3)) (cw : CVw M' As.length) (hlk : LK (my Γ.2.1).cls i (my M')) (hq0 : q0 < 3) (hrc : "java/lang/String" = (my M').cls) (hnt : mhh M' = []) (hst : st = As.reverse ++ .ref (ks Γ.1 q0) :: rest) (hcon : Con Γ.1 M' (.ref (ks Γ.1 q0) :: As) mc' ms' n h (RetP (some v) n' P)) (sd : Sd Γ M' k sl mc' ms' rest) (g : ∀ h', P h' → GG Γ (k + mc') (sl + ms') (pc + 3) ls (v :: rest) n' h') : GG Γ k sl pc ls st n h := by
  refine mj_callK (As := As) (rest := rest) hd cw hq0 hrc hnt hlk hcon hst sd.1 sd.2.1 sd.2.2.1 sd.2.2.2.1 sd.2.2.2.2 (fun v9 n9 h9 q => ?_) (fun E n9 h9 q => ?_)
  · obtain ⟨e, rfl, q⟩ := q
    cases e
    exact g h9 q
  · exact absurd q.1 (fun e => by cases e)
theorem mj_nret {v : Int32} {ty : FieldType} (hd : decode (mcode Γ.2.1) pc = .ok (.ireturn, 1)) (hr : mret Γ.2.1 = some ty) (hn : narrow ty (.int v) = .int v) (hc : k ≤ Γ.2.2.1) (hs : sl ≤ Γ.2.2.2.1) (hq : Γ.2.2.2.2 (.inl (some (.int v))) n h) : GG Γ k sl pc ls [.int v] n h := by
  intro p e s m args below meth c H locs lsr C S R L
  have hlocks := C.2.2.2.2.2.2.1
  exact W.widen hc hs (vx_ret (W.zret C.1 C.2.1 (C.2.2.1.trans hr) hn (fun t ht hW => ⟨_, n, h, rfl, hq, by rw [ht]; exact R, S.f ht⟩) S.2.2 hd hlocks))
theorem mj_i2c {x v : Int32} (hd : decode (mcode Γ.2.1) pc = .ok (.i2c, 1)) (hv : (x.toUInt32 % 65536).toInt32 = v) (g : GG Γ k sl (pc + 1) ls (.int v :: st) n h) : GG Γ k sl pc ls (.int x :: st) n h := by
  intro p e s m args below meth c H locs lsr C S R L
  exact lv_i2c C.1 C.2.1 hd hv (g p e s m args below meth c H locs lsr C S R L)
theorem mj_ldcS {i q : Nat} {tx : String} (hq : ((my Γ.2.1).cls, i, tx, q) ∈ strW) (hd : decode (mcode Γ.2.1) pc = .ok (.ldc i, 2)) (g : GG Γ k sl (pc + 2) ls (.ref (ks Γ.1 q) :: st) n h) : GG Γ k sl pc ls st n h := by
  intro p e s m args below meth c H locs lsr C S R L
  have hSt := C.2.2.2.2.2.2.2.2.2.2
  exact va_ldcS C.1 C.2.1 C.2.2.2.2.1 (hSt.2.2.2.2.2.2.2.2.1 _ hq) hd (g p e s m args below meth c H locs lsr C S R L)
theorem mj_ldcSW {i q : Nat} {tx : String} (hq : ((my Γ.2.1).cls, i, tx, q) ∈ strW) (hd : decode (mcode Γ.2.1) pc = .ok (.ldc_w i, 3)) (g : GG Γ k sl (pc + 3) ls (.ref (ks Γ.1 q) :: st) n h) : GG Γ k sl pc ls st n h := by
  intro p e s m args below meth c H locs lsr C S R L
  have hSt := C.2.2.2.2.2.2.2.2.2.2
  have hZ := hSt.2.2.2.2.2.2.2.2.1 _ hq
  have g1 := g p e s m args below meth c H locs lsr C S R L
  intro T hT X
  obtain ⟨t, a1, b1⟩ := g1 T hT X
  exact ⟨t, X.ldcStringW C.1 C.2.2.2.2.1 (text := tx) (a := ks Γ.1 q) hZ.1 hZ.2 (g := F0 m pc lsr st) rfl (by rw [C.2.1]; exact hd) t a1, b1⟩
theorem mj_getZ {i : Nat} (hd : decode (mcode Γ.2.1) pc = .ok (.getstatic i, 3)) (hw : Cond.fieldLink (my Γ.2.1).cls i "java/lang/String" "COMPACT_STRINGS" "Z" ∈ TG) (g : GG Γ k sl (pc + 3) ls (.int 1 :: st) n h) : GG Γ k sl pc ls st n h := by
  intro p e s m args below meth c H locs lsr C S R L
  have hSt := C.2.2.2.2.2.2.2.2.2.2
  exact va_gets C.1 C.2.1 hSt.2.2.2.2.2.2.2.2.2.1 S C.2.2.2.2.1 (C.2.2.2.2.2.1 _ hw) (fun _ x => x) hd (g p e s m args below meth c H locs lsr C S R L)
theorem mj_getSI {i : Nat} (hd : decode (mcode Γ.2.1) pc = .ok (.getstatic i, 3)) (hw : Cond.fieldLink (my Γ.2.1).cls i "jdk/internal/util/Preconditions" "SIOOBE_FORMATTER" "Ljava/util/function/BiFunction;" ∈ TG) (g0 : GG Γ k sl (pc + 3) ls (.null :: st) n h) (g1 : ∀ t, GG Γ k sl (pc + 3) ls (.ref t :: st) n h) : GG Γ k sl pc ls st n h := by
  intro p e s m args below meth c H locs lsr C S R L
  have hSt := C.2.2.2.2.2.2.2.2.2.2
  rcases hSt.2.2.2.2.2.2.2.2.2.2 with z | ⟨t, z⟩
  · exact va_gets C.1 C.2.1 z S C.2.2.2.2.1 (C.2.2.2.2.2.1 _ hw) (fun _ x => x) hd (g0 p e s m args below meth c H locs lsr C S R L)
  · exact va_gets C.1 C.2.1 z S C.2.2.2.2.1 (C.2.2.2.2.2.1 _ hw) (fun _ x => x) hd (g1 t p e s m args below meth c H locs lsr C S R L)
theorem mj_kval {i q : Nat} (hq : q < 3) (hd : decode (mcode Γ.2.1) pc = .ok (.getfield i, 3)) (hw : Cond.fieldLink (my Γ.2.1).cls i "java/lang/String" "value" "[B" ∈ TG) (g : GG Γ k sl (pc + 3) ls (.ref (kv Γ.1 q) :: st) n h) : GG Γ k sl pc ls (.ref (ks Γ.1 q) :: st) n h := by
  intro p e s m args below meth c H locs lsr C S R L
  have hSt := C.2.2.2.2.2.2.2.2.2.2
  exact vk_getf C.1 C.2.1 (hSt.2.2.2.2.2.2.2.1.1 q hq).2.2.1 S C.2.2.2.2.1 (C.2.2.2.2.2.1 _ hw) (fun _ x => x) hd (g p e s m args below meth c H locs lsr C S R L)
theorem mj_kcod {i q : Nat} (hq : q < 3) (hd : decode (mcode Γ.2.1) pc = .ok (.getfield i, 3)) (hw : Cond.fieldLink (my Γ.2.1).cls i "java/lang/String" "coder" "B" ∈ TG) (g : GG Γ k sl (pc + 3) ls (.int 0 :: st) n h) : GG Γ k sl pc ls (.ref (ks Γ.1 q) :: st) n h := by
  intro p e s m args below meth c H locs lsr C S R L
  have hSt := C.2.2.2.2.2.2.2.2.2.2
  exact vk_getf C.1 C.2.1 (hSt.2.2.2.2.2.2.2.1.1 q hq).2.1 S C.2.2.2.2.1 (C.2.2.2.2.2.1 _ hw) (fun _ x => x) hd (g p e s m args below meth c H locs lsr C S R L)
theorem mj_klen {q : Nat} (hq : q < 3) (hd : decode (mcode Γ.2.1) pc = .ok (.arraylength, 1)) (g : GG Γ k sl (pc + 1) ls (.int (nI (swL.getD q 0)) :: st) n h) : GG Γ k sl pc ls (.ref (kv Γ.1 q) :: st) n h := by
  intro p e s m args below meth c H locs lsr C S R L
  have hSt := C.2.2.2.2.2.2.2.2.2.2
  exact va_tlen C.1 C.2.1 (hSt.2.2.2.2.2.2.2.1.1 q hq).2.2.2 S rfl hd (g p e s m args below meth c H locs lsr C S R L)
theorem mj_kbld {q j : Nat} {i : Int32} (hq : q < 3) (hi : i.toInt = (j : Int)) (hj : j < swL.getD q 0) (hd : decode (mcode Γ.2.1) pc = .ok (.baload, 1)) (g : GG Γ k sl (pc + 1) ls (.int ((swB.getD q []).getD j 0) :: st) n h) : GG Γ k sl pc ls (.int i :: .ref (kv Γ.1 q) :: st) n h := by
  intro p e s m args below meth c H locs lsr C S R L
  have hSt := C.2.2.2.2.2.2.2.2.2.2
  exact va_tb C.1 C.2.1 (hSt.2.2.2.2.2.2.2.1.1 q hq).2.2.2 S (ix_in hi hj) (by rw [ix_cl hi]) hd (g p e s m args below meth c H locs lsr C S R L)
end MJK
theorem sw_le : ∀ q, q < 3 → swL.getD q 0 ≤ 7 := by decide
theorem sw_ch : ∀ q, q < 3 → ∀ j, j < swL.getD q 0 → (((swB.getD q []).getD j 0 &&& 255).toUInt32 % 65536).toInt32 = (swB.getD q []).getD j 0 ∧ narrow .char (.int ((swB.getD q []).getD j 0)) = .int ((swB.getD q []).getD j 0) := by decide +kernel
set_option maxRecDepth 100000 in
set_option maxHeartbeats 4000000 in
theorem cn_J0_coder_7d493 {K : KX} {n : Nat} {h : MH} {q : Nat} (hq : q < 3) : Con K mJ0_coder_7d493 [.ref (ks K q)] 0 0 n h (Ret (some (.int (0))) n h) := by
  refine Con.of (by decide +kernel) (Nat.le_of_ble_eq_true rfl) ?_
  refine mj_getZ dJ0_coder_7d493_0 wCompact ?_
  refine mj_if_eq 13 dJ0_coder_7d493_3 (by decide) (fun c_3 => ?_) (fun c_3 => ?_)
  · exact absurd c_3 (by decide)
  · refine mj_aload_n 0 dJ0_coder_7d493_6 rfl ?_
    refine mj_kcod hq dJ0_coder_7d493_7 wScod ?_
    refine mj_goto 14 dJ0_coder_7d493_10 (by decide) ?_
    exact mj_nret dJ0_coder_7d493_14 rfl rfl (Nat.le_of_ble_eq_true rfl) (Nat.le_of_ble_eq_true rfl) ⟨rfl, rfl, rfl⟩
set_option maxRecDepth 100000 in
set_option maxHeartbeats 4000000 in
theorem cn_J0_isLatin1_aae02 {K : KX} {n : Nat} {h : MH} {q : Nat} (hq : q < 3) : Con K mJ0_isLatin1_aae02 [.ref (ks K q)] 0 0 n h (Ret (some (.int (1))) n h) := by
  refine Con.of (by decide +kernel) (Nat.le_of_ble_eq_true rfl) ?_
  refine mj_getZ dJ0_isLatin1_aae02_0 wCompact ?_
  refine mj_if_eq 17 dJ0_isLatin1_aae02_3 (by decide) (fun c_3 => ?_) (fun c_3 => ?_)
  · exact absurd c_3 (by decide)
  · refine mj_aload_n 0 dJ0_isLatin1_aae02_6 rfl ?_
    refine mj_kcod hq dJ0_isLatin1_aae02_7 wScod ?_
    refine mj_if_ne 17 dJ0_isLatin1_aae02_10 (by decide) (fun c_10 => ?_) (fun c_10 => ?_)
    · exact absurd rfl c_10
    · refine mj_iconst (v := 1) dJ0_isLatin1_aae02_13 rfl ?_
      refine mj_goto 18 dJ0_isLatin1_aae02_14 (by decide) ?_
      exact mj_zret dJ0_isLatin1_aae02_18 rfl (by first | exact Or.inl rfl | exact Or.inr rfl) (Nat.le_of_ble_eq_true rfl) (Nat.le_of_ble_eq_true rfl) ⟨rfl, rfl, rfl⟩
set_option maxRecDepth 100000 in
set_option maxHeartbeats 4000000 in
theorem cn_J0_length_8abf5 {K : KX} {n : Nat} {h : MH} {q : Nat} (hq : q < 3) : Con K mJ0_length_8abf5 [.ref (ks K q)] 0 0 n h (Ret (some (.int (nI (swL.getD q 0)))) n h) := by
  refine Con.of (by decide +kernel) (Nat.le_of_ble_eq_true rfl) ?_
  refine mj_aload_n 0 dJ0_length_8abf5_0 rfl ?_
  refine mj_kval hq dJ0_length_8abf5_1 wSval ?_
  refine mj_klen hq dJ0_length_8abf5_4 ?_
  refine mj_aload_n 0 dJ0_length_8abf5_5 rfl ?_
  refine mj_cK1 [] dJ0_length_8abf5_6 cwJ0_coder_7d493 lkJ0_335 hq rfl rfl rfl (cn_J0_coder_7d493 hq) ⟨Nat.le_of_ble_eq_true rfl, Nat.le_of_ble_eq_true rfl, Nat.le_of_ble_eq_true rfl, Nat.le_of_ble_eq_true rfl, Nat.le_of_ble_eq_true rfl⟩ (fun h' e' => ?_)
  subst e'
  refine mj_ishr dJ0_length_8abf5_9 ?_
  exact mj_iret dJ0_length_8abf5_10 rfl (Nat.le_of_ble_eq_true rfl) (Nat.le_of_ble_eq_true rfl) ⟨(by have := sw_le q hq; match q, hq with | 0, _ => rfl | 1, _ => rfl | 2, _ => rfl), rfl, rfl⟩
set_option maxRecDepth 100000 in
set_option maxHeartbeats 4000000 in
theorem cn_J3_checkIndex_8e157_n {K : KX} {n : Nat} {h : MH} {i N : Nat} (hi : i < N) (hN : N < 1000) : Con K mJ3_checkIndex_8e157 [.int (nI i), .int (nI N), .null] 0 0 n h (Ret (some (.int (nI i))) n h) := by
  refine Con.of (by decide +kernel) (Nat.le_of_ble_eq_true rfl) ?_
  refine mj_iload_n 0 dJ3_checkIndex_8e157_0 rfl ?_
  refine mj_if_lt 9 dJ3_checkIndex_8e157_1 (by decide) (fun c_1 => ?_) (fun c_1 => ?_)
  · exact absurd (Int32.lt_iff_toInt_lt.mp c_1) (by rw [ixn (by omega)]; show ¬ _ < (0 : Int32).toInt; have : (0 : Int32).toInt = 0 := rfl; omega)
  · refine mj_iload_n 0 dJ3_checkIndex_8e157_4 rfl ?_
    refine mj_iload_n 1 dJ3_checkIndex_8e157_5 rfl ?_
    refine mj_icmp_lt 16 dJ3_checkIndex_8e157_6 (by decide) (fun c_6 => ?_) (fun c_6 => ?_)
    · refine mj_iload_n 0 dJ3_checkIndex_8e157_16 rfl ?_
      exact mj_iret dJ3_checkIndex_8e157_17 rfl (Nat.le_of_ble_eq_true rfl) (Nat.le_of_ble_eq_true rfl) ⟨rfl, rfl, rfl⟩
    · exact absurd (Int32.lt_iff_toInt_lt.mpr (by rw [ixn (by omega), ixn (by omega)]; omega)) c_6
set_option maxRecDepth 100000 in
set_option maxHeartbeats 4000000 in
theorem cn_J3_checkIndex_8e157_r {K : KX} {n : Nat} {h : MH} {t : Nat} {i N : Nat} (hi : i < N) (hN : N < 1000) : Con K mJ3_checkIndex_8e157 [.int (nI i), .int (nI N), .ref t] 0 0 n h (Ret (some (.int (nI i))) n h) := by
  refine Con.of (by decide +kernel) (Nat.le_of_ble_eq_true rfl) ?_
  refine mj_iload_n 0 dJ3_checkIndex_8e157_0 rfl ?_
  refine mj_if_lt 9 dJ3_checkIndex_8e157_1 (by decide) (fun c_1 => ?_) (fun c_1 => ?_)
  · exact absurd (Int32.lt_iff_toInt_lt.mp c_1) (by rw [ixn (by omega)]; show ¬ _ < (0 : Int32).toInt; have : (0 : Int32).toInt = 0 := rfl; omega)
  · refine mj_iload_n 0 dJ3_checkIndex_8e157_4 rfl ?_
    refine mj_iload_n 1 dJ3_checkIndex_8e157_5 rfl ?_
    refine mj_icmp_lt 16 dJ3_checkIndex_8e157_6 (by decide) (fun c_6 => ?_) (fun c_6 => ?_)
    · refine mj_iload_n 0 dJ3_checkIndex_8e157_16 rfl ?_
      exact mj_iret dJ3_checkIndex_8e157_17 rfl (Nat.le_of_ble_eq_true rfl) (Nat.le_of_ble_eq_true rfl) ⟨rfl, rfl, rfl⟩
    · exact absurd (Int32.lt_iff_toInt_lt.mpr (by rw [ixn (by omega), ixn (by omega)]; omega)) c_6
set_option maxRecDepth 100000 in
set_option maxHeartbeats 4000000 in
theorem cn_J0_checkIndex_df160 {K : KX} {n : Nat} {h : MH} {i N : Nat} (hi : i < N) (hN : N < 1000) : Con K mJ0_checkIndex_df160 [.int (nI i), .int (nI N)] 0 0 n h (Ret none n h) := by
  refine Con.of (by decide +kernel) (Nat.le_of_ble_eq_true rfl) ?_
  refine mj_iload_n 0 dJ0_checkIndex_df160_0 rfl ?_
  refine mj_iload_n 1 dJ0_checkIndex_df160_1 rfl ?_
  refine mj_getSI dJ0_checkIndex_df160_2 wSioobe ?_ (fun t => ?_)
  · skip
    refine mj_cS1 [_, _, _] dJ0_checkIndex_df160_5 cwJ3_checkIndex_8e157 lkJ0_1059 rfl (cn_J3_checkIndex_8e157_n hi hN) ⟨Nat.le_of_ble_eq_true rfl, Nat.le_of_ble_eq_true rfl, Nat.le_of_ble_eq_true rfl, Nat.le_of_ble_eq_true rfl, Nat.le_of_ble_eq_true rfl⟩ (fun h' e' => ?_)
    subst e'
    refine mj_pop dJ0_checkIndex_df160_8 rfl ?_
    exact mj_vret dJ0_checkIndex_df160_9 rfl (Nat.le_of_ble_eq_true rfl) (Nat.le_of_ble_eq_true rfl) ⟨rfl, rfl, rfl⟩
  · skip
    refine mj_cS1 [_, _, _] dJ0_checkIndex_df160_5 cwJ3_checkIndex_8e157 lkJ0_1059 rfl (cn_J3_checkIndex_8e157_r hi hN) ⟨Nat.le_of_ble_eq_true rfl, Nat.le_of_ble_eq_true rfl, Nat.le_of_ble_eq_true rfl, Nat.le_of_ble_eq_true rfl, Nat.le_of_ble_eq_true rfl⟩ (fun h' e' => ?_)
    subst e'
    refine mj_pop dJ0_checkIndex_df160_8 rfl ?_
    exact mj_vret dJ0_checkIndex_df160_9 rfl (Nat.le_of_ble_eq_true rfl) (Nat.le_of_ble_eq_true rfl) ⟨rfl, rfl, rfl⟩
set_option maxRecDepth 100000 in
set_option maxHeartbeats 4000000 in
theorem cn_J1_charAt_3b067 {K : KX} {n : Nat} {h : MH} {q : Nat} (hq : q < 3) {j : Nat} (hj : j < swL.getD q 0) : Con K mJ1_charAt_3b067 [.ref (kv K q), .int (nI j)] 0 0 n h (Ret (some (.int ((swB.getD q []).getD j 0))) n h) := by
  refine Con.of (by decide +kernel) (Nat.le_of_ble_eq_true rfl) ?_
  refine mj_iload_n 1 dJ1_charAt_3b067_0 rfl ?_
  refine mj_aload_n 0 dJ1_charAt_3b067_1 rfl ?_
  refine mj_klen hq dJ1_charAt_3b067_2 ?_
  refine mj_cS0 [_, _] dJ1_charAt_3b067_3 cwJ0_checkIndex_df160 lkJ1_9 rfl (cn_J0_checkIndex_df160 hj (by have := sw_le q hq; omega)) ⟨Nat.le_of_ble_eq_true rfl, Nat.le_of_ble_eq_true rfl, Nat.le_of_ble_eq_true rfl, Nat.le_of_ble_eq_true rfl, Nat.le_of_ble_eq_true rfl⟩ (fun h' e' => ?_)
  subst e'
  refine mj_aload_n 0 dJ1_charAt_3b067_6 rfl ?_
  refine mj_iload_n 1 dJ1_charAt_3b067_7 rfl ?_
  refine mj_kbld hq (ixn (by have := sw_le q hq; omega)) hj dJ1_charAt_3b067_8 ?_
  refine mj_sipush (v := (255)) dJ1_charAt_3b067_9 rfl ?_
  refine mj_iand dJ1_charAt_3b067_12 ?_
  refine mj_i2c dJ1_charAt_3b067_13 (sw_ch q hq j hj).1 ?_
  exact mj_nret dJ1_charAt_3b067_14 rfl (sw_ch q hq j hj).2 (Nat.le_of_ble_eq_true rfl) (Nat.le_of_ble_eq_true rfl) ⟨rfl, rfl, rfl⟩
set_option maxRecDepth 100000 in
set_option maxHeartbeats 4000000 in
theorem cn_J0_charAt_5068e {K : KX} {n : Nat} {h : MH} {q : Nat} (hq : q < 3) {j : Nat} (hj : j < swL.getD q 0) : Con K mJ0_charAt_5068e [.ref (ks K q), .int (nI j)] 0 0 n h (Ret (some (.int ((swB.getD q []).getD j 0))) n h) := by
  refine Con.of (by decide +kernel) (Nat.le_of_ble_eq_true rfl) ?_
  refine mj_aload_n 0 dJ0_charAt_5068e_0 rfl ?_
  refine mj_cK1 [] dJ0_charAt_5068e_1 cwJ0_isLatin1_aae02 lkJ0_492 hq rfl rfl rfl (cn_J0_isLatin1_aae02 hq) ⟨Nat.le_of_ble_eq_true rfl, Nat.le_of_ble_eq_true rfl, Nat.le_of_ble_eq_true rfl, Nat.le_of_ble_eq_true rfl, Nat.le_of_ble_eq_true rfl⟩ (fun h' e' => ?_)
  subst e'
  refine mj_if_eq 16 dJ0_charAt_5068e_4 (by decide) (fun c_4 => ?_) (fun c_4 => ?_)
  · exact absurd c_4 (by decide)
  · refine mj_aload_n 0 dJ0_charAt_5068e_7 rfl ?_
    refine mj_kval hq dJ0_charAt_5068e_8 wSval ?_
    refine mj_iload_n 1 dJ0_charAt_5068e_11 rfl ?_
    refine mj_cS1 [_, _] dJ0_charAt_5068e_12 cwJ1_charAt_3b067 lkJ0_495 rfl (cn_J1_charAt_3b067 hq hj) ⟨Nat.le_of_ble_eq_true rfl, Nat.le_of_ble_eq_true rfl, Nat.le_of_ble_eq_true rfl, Nat.le_of_ble_eq_true rfl, Nat.le_of_ble_eq_true rfl⟩ (fun h' e' => ?_)
    subst e'
    exact mj_nret dJ0_charAt_5068e_15 rfl (sw_ch q hq j hj).2 (Nat.le_of_ble_eq_true rfl) (Nat.le_of_ble_eq_true rfl) ⟨rfl, rfl, rfl⟩
