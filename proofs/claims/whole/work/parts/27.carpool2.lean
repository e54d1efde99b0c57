def b_pl (x y : Int32) : Bool := b_in x 0 99 && b_in y 0 99
def CpE (h h' : MH) (n c : Nat) (P : CS) : Prop := Cp h' n c P ∧ OffC c h h' 
set_option maxRecDepth 100000 in
set_option maxHeartbeats 4000000 in
theorem cn_X10_isPlace {K : KX} {n : Nat} {h : MH} {u v : Int32} : Con K mX10_isPlace [.int u, .int v] 0 0 n h (Ret (some (.int (bI (b_pl u v)))) n h) := by
  refine Con.of (by decide +kernel) (Nat.le_of_ble_eq_true rfl) ?_
  refine mj_iload_n 0 dX10_isPlace_0 rfl ?_
  refine mj_iconst (v := 0) dX10_isPlace_1 rfl ?_
  refine mj_bipush (v := (99)) dX10_isPlace_2 rfl ?_
  refine mj_cS1 [_, _, _] dX10_isPlace_4 cwX10_isWithin lkX10_65 rfl (cn_X10_isWithin _ _ _) ⟨Nat.le_of_ble_eq_true rfl, Nat.le_of_ble_eq_true rfl, Nat.le_of_ble_eq_true rfl, Nat.le_of_ble_eq_true rfl, Nat.le_of_ble_eq_true rfl⟩ (fun h' e' => ?_)
  subst h'
  refine mj_if_eq 24 dX10_isPlace_7 (by decide) (fun c_7 => ?_) (fun c_7 => ?_)
  · have z1 := bI_0.mp c_7
    refine mj_iconst (v := 0) dX10_isPlace_24 rfl ?_
    exact mj_zret dX10_isPlace_25 rfl (by first | exact Or.inl rfl | exact Or.inr rfl) (Nat.le_of_ble_eq_true rfl) (Nat.le_of_ble_eq_true rfl) ⟨(by unfold b_pl; simp [bI, *]), rfl, rfl⟩
  · have z1 := bI_n0.mp c_7
    refine mj_iload_n 1 dX10_isPlace_10 rfl ?_
    refine mj_iconst (v := 0) dX10_isPlace_11 rfl ?_
    refine mj_bipush (v := (99)) dX10_isPlace_12 rfl ?_
    refine mj_cS1 [_, _, _] dX10_isPlace_14 cwX10_isWithin lkX10_65 rfl (cn_X10_isWithin _ _ _) ⟨Nat.le_of_ble_eq_true rfl, Nat.le_of_ble_eq_true rfl, Nat.le_of_ble_eq_true rfl, Nat.le_of_ble_eq_true rfl, Nat.le_of_ble_eq_true rfl⟩ (fun h' e' => ?_)
    subst h'
    refine mj_if_eq 24 dX10_isPlace_17 (by decide) (fun c_17 => ?_) (fun c_17 => ?_)
    · have z2 := bI_0.mp c_17
      refine mj_iconst (v := 0) dX10_isPlace_24 rfl ?_
      exact mj_zret dX10_isPlace_25 rfl (by first | exact Or.inl rfl | exact Or.inr rfl) (Nat.le_of_ble_eq_true rfl) (Nat.le_of_ble_eq_true rfl) ⟨(by unfold b_pl; simp [bI, *]), rfl, rfl⟩
    · have z2 := bI_n0.mp c_17
      refine mj_iconst (v := 1) dX10_isPlace_20 rfl ?_
      refine mj_goto 25 dX10_isPlace_21 (by decide) ?_
      exact mj_zret dX10_isPlace_25 rfl (by first | exact Or.inl rfl | exact Or.inr rfl) (Nat.le_of_ble_eq_true rfl) (Nat.le_of_ble_eq_true rfl) ⟨(by unfold b_pl; simp [bI, *]), rfl, rfl⟩
set_option maxRecDepth 100000 in
set_option maxHeartbeats 4000000 in
theorem cn_X10_addDriver_arg {K : KX} {n : Nat} {h : MH} {c : Nat} {P : CS} (x : Cp h n c P) {se de li ra : Int32} (hb : (b_in se 1 4 && b_in de 0 1439 && b_in li 0 400 && b_in ra 1 99) = false) : Con K mX10_addDriver [.ref c, .int se, .int de, .int li, .int ra] 1 6 n h (Thr "java/lang/IllegalArgumentException" n h) := by
  obtain ⟨ba, sa, Sp, S, H, A, V, Kx, x, xfc, xfp⟩ := x
  obtain ⟨c0, bd, sp, sv, ins, pf, mt, sh, tx, rd, ad, nn⟩ := id x
  have b0 := bd.1
  have b5 := bd.2.2.2.2.2.1
  have b6 := bd.2.2.2.2.2.2
  have adr := x.adr
  refine Con.of (by decide +kernel) (Nat.le_of_ble_eq_true rfl) ?_
  refine mj_iload_n 1 dX10_addDriver_0 rfl ?_
  refine mj_iconst (v := 1) dX10_addDriver_1 rfl ?_
  refine mj_iconst (v := 4) dX10_addDriver_2 rfl ?_
  refine mj_cS1 [_, _, _] dX10_addDriver_3 cwX10_isWithin lkX10_65 rfl (cn_X10_isWithin _ _ _) ⟨Nat.le_of_ble_eq_true rfl, Nat.le_of_ble_eq_true rfl, Nat.le_of_ble_eq_true rfl, Nat.le_of_ble_eq_true rfl, Nat.le_of_ble_eq_true rfl⟩ (fun h' e' => ?_)
  subst h'
  refine mj_if_eq 42 dX10_addDriver_6 (by decide) (fun c_6 => ?_) (fun c_6 => ?_)
  · have z1 := bI_0.mp c_6
    exact mj_throwS (text := "an argument is out of range") dX10_addDriver_42 dX10_addDriver_45 dX10_addDriver_46 dX10_addDriver_48 dX10_addDriver_51 thX10_69_73 (show (("Carpool", 71, "an argument is out of range") : String × Nat × String) ∈ strK by decide +kernel) rfl (Nat.le_of_ble_eq_true rfl) (Nat.le_of_ble_eq_true rfl) (Nat.le_of_ble_eq_true rfl) (Nat.le_of_ble_eq_true rfl) (fun n9 h9 => ⟨rfl, h9, rfl⟩)
  · have z1 := bI_n0.mp c_6
    refine mj_iload_n 2 dX10_addDriver_9 rfl ?_
    refine mj_iconst (v := 0) dX10_addDriver_10 rfl ?_
    refine mj_sipush (v := (1439)) dX10_addDriver_11 rfl ?_
    refine mj_cS1 [_, _, _] dX10_addDriver_14 cwX10_isWithin lkX10_65 rfl (cn_X10_isWithin _ _ _) ⟨Nat.le_of_ble_eq_true rfl, Nat.le_of_ble_eq_true rfl, Nat.le_of_ble_eq_true rfl, Nat.le_of_ble_eq_true rfl, Nat.le_of_ble_eq_true rfl⟩ (fun h' e' => ?_)
    subst h'
    refine mj_if_eq 42 dX10_addDriver_17 (by decide) (fun c_17 => ?_) (fun c_17 => ?_)
    · have z2 := bI_0.mp c_17
      exact mj_throwS (text := "an argument is out of range") dX10_addDriver_42 dX10_addDriver_45 dX10_addDriver_46 dX10_addDriver_48 dX10_addDriver_51 thX10_69_73 (show (("Carpool", 71, "an argument is out of range") : String × Nat × String) ∈ strK by decide +kernel) rfl (Nat.le_of_ble_eq_true rfl) (Nat.le_of_ble_eq_true rfl) (Nat.le_of_ble_eq_true rfl) (Nat.le_of_ble_eq_true rfl) (fun n9 h9 => ⟨rfl, h9, rfl⟩)
    · have z2 := bI_n0.mp c_17
      refine mj_iload_n 3 dX10_addDriver_20 rfl ?_
      refine mj_iconst (v := 0) dX10_addDriver_21 rfl ?_
      refine mj_sipush (v := (400)) dX10_addDriver_22 rfl ?_
      refine mj_cS1 [_, _, _] dX10_addDriver_25 cwX10_isWithin lkX10_65 rfl (cn_X10_isWithin _ _ _) ⟨Nat.le_of_ble_eq_true rfl, Nat.le_of_ble_eq_true rfl, Nat.le_of_ble_eq_true rfl, Nat.le_of_ble_eq_true rfl, Nat.le_of_ble_eq_true rfl⟩ (fun h' e' => ?_)
      subst h'
      refine mj_if_eq 42 dX10_addDriver_28 (by decide) (fun c_28 => ?_) (fun c_28 => ?_)
      · have z3 := bI_0.mp c_28
        exact mj_throwS (text := "an argument is out of range") dX10_addDriver_42 dX10_addDriver_45 dX10_addDriver_46 dX10_addDriver_48 dX10_addDriver_51 thX10_69_73 (show (("Carpool", 71, "an argument is out of range") : String × Nat × String) ∈ strK by decide +kernel) rfl (Nat.le_of_ble_eq_true rfl) (Nat.le_of_ble_eq_true rfl) (Nat.le_of_ble_eq_true rfl) (Nat.le_of_ble_eq_true rfl) (fun n9 h9 => ⟨rfl, h9, rfl⟩)
      · have z3 := bI_n0.mp c_28
        refine mj_iload 4 dX10_addDriver_31 rfl ?_
        refine mj_iconst (v := 1) dX10_addDriver_33 rfl ?_
        refine mj_bipush (v := (99)) dX10_addDriver_34 rfl ?_
        refine mj_cS1 [_, _, _] dX10_addDriver_36 cwX10_isWithin lkX10_65 rfl (cn_X10_isWithin _ _ _) ⟨Nat.le_of_ble_eq_true rfl, Nat.le_of_ble_eq_true rfl, Nat.le_of_ble_eq_true rfl, Nat.le_of_ble_eq_true rfl, Nat.le_of_ble_eq_true rfl⟩ (fun h' e' => ?_)
        subst h'
        refine mj_if_ne 52 dX10_addDriver_39 (by decide) (fun c_39 => ?_) (fun c_39 => ?_)
        · have z4 := bI_n0.mp c_39
          exact absurd hb (by simp [*])
        · have z4 := bI_0.mp c_39
          exact mj_throwS (text := "an argument is out of range") dX10_addDriver_42 dX10_addDriver_45 dX10_addDriver_46 dX10_addDriver_48 dX10_addDriver_51 thX10_69_73 (show (("Carpool", 71, "an argument is out of range") : String × Nat × String) ∈ strK by decide +kernel) rfl (Nat.le_of_ble_eq_true rfl) (Nat.le_of_ble_eq_true rfl) (Nat.le_of_ble_eq_true rfl) (Nat.le_of_ble_eq_true rfl) (fun n9 h9 => ⟨rfl, h9, rfl⟩)
set_option maxRecDepth 100000 in
set_option maxHeartbeats 4000000 in
theorem cn_X10_addDriver_full {K : KX} {n : Nat} {h : MH} {c : Nat} {P : CS} (x : Cp h n c P) {se de li ra : Int32} (hb : (b_in se 1 4 && b_in de 0 1439 && b_in li 0 400 && b_in ra 1 99) = true) (hf : 8 ≤ bnd (pB P)) : Con K mX10_addDriver [.ref c, .int se, .int de, .int li, .int ra] 1 6 n h (Thr "java/lang/IllegalStateException" n h) := by
  obtain ⟨ba, sa, Sp, S, H, A, V, Kx, x, xfc, xfp⟩ := x
  obtain ⟨c0, bd, sp, sv, ins, pf, mt, sh, tx, rd, ad, nn⟩ := id x
  have b0 := bd.1
  have b5 := bd.2.2.2.2.2.1
  have b6 := bd.2.2.2.2.2.2
  have adr := x.adr
  refine Con.of (by decide +kernel) (Nat.le_of_ble_eq_true rfl) ?_
  refine mj_iload_n 1 dX10_addDriver_0 rfl ?_
  refine mj_iconst (v := 1) dX10_addDriver_1 rfl ?_
  refine mj_iconst (v := 4) dX10_addDriver_2 rfl ?_
  refine mj_cS1 [_, _, _] dX10_addDriver_3 cwX10_isWithin lkX10_65 rfl (cn_X10_isWithin _ _ _) ⟨Nat.le_of_ble_eq_true rfl, Nat.le_of_ble_eq_true rfl, Nat.le_of_ble_eq_true rfl, Nat.le_of_ble_eq_true rfl, Nat.le_of_ble_eq_true rfl⟩ (fun h' e' => ?_)
  subst h'
  refine mj_if_eq 42 dX10_addDriver_6 (by decide) (fun c_6 => ?_) (fun c_6 => ?_)
  · have z1 := bI_0.mp c_6
    exact absurd hb (by simp [*])
  · have z1 := bI_n0.mp c_6
    refine mj_iload_n 2 dX10_addDriver_9 rfl ?_
    refine mj_iconst (v := 0) dX10_addDriver_10 rfl ?_
    refine mj_sipush (v := (1439)) dX10_addDriver_11 rfl ?_
    refine mj_cS1 [_, _, _] dX10_addDriver_14 cwX10_isWithin lkX10_65 rfl (cn_X10_isWithin _ _ _) ⟨Nat.le_of_ble_eq_true rfl, Nat.le_of_ble_eq_true rfl, Nat.le_of_ble_eq_true rfl, Nat.le_of_ble_eq_true rfl, Nat.le_of_ble_eq_true rfl⟩ (fun h' e' => ?_)
    subst h'
    refine mj_if_eq 42 dX10_addDriver_17 (by decide) (fun c_17 => ?_) (fun c_17 => ?_)
    · have z2 := bI_0.mp c_17
      exact absurd hb (by simp [*])
    · have z2 := bI_n0.mp c_17
      refine mj_iload_n 3 dX10_addDriver_20 rfl ?_
      refine mj_iconst (v := 0) dX10_addDriver_21 rfl ?_
      refine mj_sipush (v := (400)) dX10_addDriver_22 rfl ?_
      refine mj_cS1 [_, _, _] dX10_addDriver_25 cwX10_isWithin lkX10_65 rfl (cn_X10_isWithin _ _ _) ⟨Nat.le_of_ble_eq_true rfl, Nat.le_of_ble_eq_true rfl, Nat.le_of_ble_eq_true rfl, Nat.le_of_ble_eq_true rfl, Nat.le_of_ble_eq_true rfl⟩ (fun h' e' => ?_)
      subst h'
      refine mj_if_eq 42 dX10_addDriver_28 (by decide) (fun c_28 => ?_) (fun c_28 => ?_)
      · have z3 := bI_0.mp c_28
        exact absurd hb (by simp [*])
      · have z3 := bI_n0.mp c_28
        refine mj_iload 4 dX10_addDriver_31 rfl ?_
        refine mj_iconst (v := 1) dX10_addDriver_33 rfl ?_
        refine mj_bipush (v := (99)) dX10_addDriver_34 rfl ?_
        refine mj_cS1 [_, _, _] dX10_addDriver_36 cwX10_isWithin lkX10_65 rfl (cn_X10_isWithin _ _ _) ⟨Nat.le_of_ble_eq_true rfl, Nat.le_of_ble_eq_true rfl, Nat.le_of_ble_eq_true rfl, Nat.le_of_ble_eq_true rfl, Nat.le_of_ble_eq_true rfl⟩ (fun h' e' => ?_)
        subst h'
        refine mj_if_ne 52 dX10_addDriver_39 (by decide) (fun c_39 => ?_) (fun c_39 => ?_)
        · have z4 := bI_n0.mp c_39
          refine mj_aload_n 0 dX10_addDriver_52 rfl ?_
          refine mj_getf dX10_addDriver_53 fgX10_12 (by repeat (first | assumption | exact mup_s _ _ _ | rw [mup_n _ _ (by omega)])) rfl ?_
          refine mj_cV1 [] (RX0, TX0, 5) dX10_addDriver_56 cwX0_hasAllDrivers lkX10_76 b0 rfl rfl rfl rfl (cn_X0_hasAllDrivers bd) ⟨Nat.le_of_ble_eq_true rfl, Nat.le_of_ble_eq_true rfl, Nat.le_of_ble_eq_true rfl, Nat.le_of_ble_eq_true rfl, Nat.le_of_ble_eq_true rfl⟩ (fun h' e' => ?_)
          subst h'
          refine mj_if_eq 72 dX10_addDriver_59 (by decide) (fun c_59 => ?_) (fun c_59 => ?_)
          · have z5 := of_decide_eq_false (bI_0.mp c_59)
            exact absurd hf z5
          · have z5 := of_decide_eq_true (bI_n0.mp c_59)
            exact mj_throwS (text := "there are 8 drivers") dX10_addDriver_62 dX10_addDriver_65 dX10_addDriver_66 dX10_addDriver_68 dX10_addDriver_71 thX10_80_84 (show (("Carpool", 82, "there are 8 drivers") : String × Nat × String) ∈ strK by decide +kernel) rfl (Nat.le_of_ble_eq_true rfl) (Nat.le_of_ble_eq_true rfl) (Nat.le_of_ble_eq_true rfl) (Nat.le_of_ble_eq_true rfl) (fun n9 h9 => ⟨rfl, h9, rfl⟩)
        · have z4 := bI_0.mp c_39
          exact absurd hb (by simp [*])
def b_addD (B : BS) (se de li ra : Int32) : BS := b_setT (b_setD (b_head B (bnd B + 1) (bnr B) (bpe B)) (bnd B) (se, de, li, ra, false, 0)) (bnd B) (r_begin (bT B (bnd B)) 0 0 0 0)
def b_addR (B : BS) (fx fy tx ty rd dl : Int32) : BS := b_setX (b_head B (bnd B) (bnr B + 1) (bpe B)) (bnr B) (fx, fy, tx, ty, rd, dl, 0, -1, 0)
set_option maxRecDepth 100000 in
set_option maxHeartbeats 4000000 in
theorem cn_X10_addDriver {K : KX} {n : Nat} {h : MH} {c : Nat} {P : CS} (x : Cp h n c P) {se de li ra : Int32} (hb : (b_in se 1 4 && b_in de 0 1439 && b_in li 0 400 && b_in ra 1 99) = true) (hf : bnd (pB P) < 8) : Con K mX10_addDriver [.ref c, .int se, .int de, .int li, .int ra] 0 0 n h (RetP (some (.int (nI (bnd (pB P))))) n (fun h' => CpE h h' n c (p_setB P (b_addD (pB P) se de li ra)))) := by
  obtain ⟨ba, sa, Sp, S, H, A, V, Kx, x, xfc, xfp⟩ := x
  obtain ⟨c0, bd, sp, sv, ins, pf, mt, sh, tx, rd, ad, nn⟩ := id x
  have b0 := bd.1
  have b5 := bd.2.2.2.2.2.1
  have b6 := bd.2.2.2.2.2.2
  have adr := x.adr
  refine Con.of (by decide +kernel) (Nat.le_of_ble_eq_true rfl) ?_
  refine mj_iload_n 1 dX10_addDriver_0 rfl ?_
  refine mj_iconst (v := 1) dX10_addDriver_1 rfl ?_
  refine mj_iconst (v := 4) dX10_addDriver_2 rfl ?_
  refine mj_cS1 [_, _, _] dX10_addDriver_3 cwX10_isWithin lkX10_65 rfl (cn_X10_isWithin _ _ _) ⟨Nat.le_of_ble_eq_true rfl, Nat.le_of_ble_eq_true rfl, Nat.le_of_ble_eq_true rfl, Nat.le_of_ble_eq_true rfl, Nat.le_of_ble_eq_true rfl⟩ (fun h' e' => ?_)
  subst h'
  refine mj_if_eq 42 dX10_addDriver_6 (by decide) (fun c_6 => ?_) (fun c_6 => ?_)
  · have z1 := bI_0.mp c_6
    exact absurd hb (by simp [*])
  · have z1 := bI_n0.mp c_6
    refine mj_iload_n 2 dX10_addDriver_9 rfl ?_
    refine mj_iconst (v := 0) dX10_addDriver_10 rfl ?_
    refine mj_sipush (v := (1439)) dX10_addDriver_11 rfl ?_
    refine mj_cS1 [_, _, _] dX10_addDriver_14 cwX10_isWithin lkX10_65 rfl (cn_X10_isWithin _ _ _) ⟨Nat.le_of_ble_eq_true rfl, Nat.le_of_ble_eq_true rfl, Nat.le_of_ble_eq_true rfl, Nat.le_of_ble_eq_true rfl, Nat.le_of_ble_eq_true rfl⟩ (fun h' e' => ?_)
    subst h'
    refine mj_if_eq 42 dX10_addDriver_17 (by decide) (fun c_17 => ?_) (fun c_17 => ?_)
    · have z2 := bI_0.mp c_17
      exact absurd hb (by simp [*])
    · have z2 := bI_n0.mp c_17
      refine mj_iload_n 3 dX10_addDriver_20 rfl ?_
      refine mj_iconst (v := 0) dX10_addDriver_21 rfl ?_
      refine mj_sipush (v := (400)) dX10_addDriver_22 rfl ?_
      refine mj_cS1 [_, _, _] dX10_addDriver_25 cwX10_isWithin lkX10_65 rfl (cn_X10_isWithin _ _ _) ⟨Nat.le_of_ble_eq_true rfl, Nat.le_of_ble_eq_true rfl, Nat.le_of_ble_eq_true rfl, Nat.le_of_ble_eq_true rfl, Nat.le_of_ble_eq_true rfl⟩ (fun h' e' => ?_)
      subst h'
      refine mj_if_eq 42 dX10_addDriver_28 (by decide) (fun c_28 => ?_) (fun c_28 => ?_)
      · have z3 := bI_0.mp c_28
        exact absurd hb (by simp [*])
      · have z3 := bI_n0.mp c_28
        refine mj_iload 4 dX10_addDriver_31 rfl ?_
        refine mj_iconst (v := 1) dX10_addDriver_33 rfl ?_
        refine mj_bipush (v := (99)) dX10_addDriver_34 rfl ?_
        refine mj_cS1 [_, _, _] dX10_addDriver_36 cwX10_isWithin lkX10_65 rfl (cn_X10_isWithin _ _ _) ⟨Nat.le_of_ble_eq_true rfl, Nat.le_of_ble_eq_true rfl, Nat.le_of_ble_eq_true rfl, Nat.le_of_ble_eq_true rfl, Nat.le_of_ble_eq_true rfl⟩ (fun h' e' => ?_)
        subst h'
        refine mj_if_ne 52 dX10_addDriver_39 (by decide) (fun c_39 => ?_) (fun c_39 => ?_)
        · have z4 := bI_n0.mp c_39
          refine mj_aload_n 0 dX10_addDriver_52 rfl ?_
          refine mj_getf dX10_addDriver_53 fgX10_12 (by repeat (first | assumption | exact mup_s _ _ _ | rw [mup_n _ _ (by omega)])) rfl ?_
          refine mj_cV1 [] (RX0, TX0, 5) dX10_addDriver_56 cwX0_hasAllDrivers lkX10_76 b0 rfl rfl rfl rfl (cn_X0_hasAllDrivers bd) ⟨Nat.le_of_ble_eq_true rfl, Nat.le_of_ble_eq_true rfl, Nat.le_of_ble_eq_true rfl, Nat.le_of_ble_eq_true rfl, Nat.le_of_ble_eq_true rfl⟩ (fun h' e' => ?_)
          subst h'
          refine mj_if_eq 72 dX10_addDriver_59 (by decide) (fun c_59 => ?_) (fun c_59 => ?_)
          · have z5 := of_decide_eq_false (bI_0.mp c_59)
            refine mj_aload_n 0 dX10_addDriver_72 rfl ?_
            refine mj_getf dX10_addDriver_73 fgX10_12 (by repeat (first | assumption | exact mup_s _ _ _ | rw [mup_n _ _ (by omega)])) rfl ?_
            refine mj_cV1 [] (RX0, TX0, 5) dX10_addDriver_76 cwX0_nextDriver lkX10_85 b0 rfl rfl rfl rfl (cn_X0_nextDriver bd (by omega)) ⟨Nat.le_of_ble_eq_true rfl, Nat.le_of_ble_eq_true rfl, Nat.le_of_ble_eq_true rfl, Nat.le_of_ble_eq_true rfl, Nat.le_of_ble_eq_true rfl⟩ (fun h' e' => ?_)
            obtain ⟨bd7, o7⟩ := e'
            have D7 := bd7.2.2.2.1 (bnd (pB P)) (by omega)
            have D70 := D7.1
            refine mj_astore (ls' := [(5, _), (0, _), (1, _), (2, _), (3, _), (4, _)]) dX10_addDriver_79 (Nat.le_of_ble_eq_true rfl) rfl ?_
            refine mj_aload 0 dX10_addDriver_81 rfl ?_
            refine mj_iload_n 2 dX10_addDriver_83 rfl ?_
            refine mj_iload_n 3 dX10_addDriver_84 rfl ?_
            refine mj_iload_n 4 dX10_addDriver_85 rfl ?_
            refine mj_iload 5 dX10_addDriver_86 rfl ?_
            refine mj_cV0 [_, _, _, _] (RX1, TX1, 8) dX10_addDriver_88 cwX1_begin lkX10_89 D70 rfl rfl rfl rfl (cn_X1_begin D7) ⟨Nat.le_of_ble_eq_true rfl, Nat.le_of_ble_eq_true rfl, Nat.le_of_ble_eq_true rfl, Nat.le_of_ble_eq_true rfl, Nat.le_of_ble_eq_true rfl⟩ (fun h' e' => ?_)
            obtain ⟨D6, o6⟩ := e'
            have D60 := D6.1
            have bd6 := bd7.setDT (d := bnd (pB P)) (by omega) D6 (o6.up (by omega) (by omega))
            have o9 : Off ba (ba + 71) h h' := (o7.up (by omega) (by omega)).tr (o6.up (by omega) (by omega))
            refine mj_aload 0 dX10_addDriver_91 rfl ?_
            refine mj_getf dX10_addDriver_93 fgX10_95 (by repeat (first | assumption | exact mup_s _ _ _ | rw [mup_n _ _ (by omega)])) rfl ?_
            exact mj_iret dX10_addDriver_96 rfl (Nat.le_of_ble_eq_true rfl) (Nat.le_of_ble_eq_true rfl) ⟨rfl, rfl, ⟨(⟨ba, sa, Sp, S, H, A, V, Kx, x.bd bd6 (ins.at fun q h1 h2 => o9 q (by omega)) (pf.at fun q h1 h2 => o9 q (by omega)) (mt.at fun q h1 h2 => o9 q (by omega)) (sh.at fun q h1 h2 => o9 q (by omega)) (Off.to1 (o9.up (by omega) (by omega))), xfc, xfp⟩ : Cp _ n c (p_setB P (b_addD (pB P) se de li ra))), o9.toC (by omega) (by omega)⟩⟩
          · have z5 := of_decide_eq_true (bI_n0.mp c_59)
            exact absurd hf (Nat.not_lt.mpr z5)
        · have z4 := bI_0.mp c_39
          exact absurd hb (by simp [*])
set_option maxRecDepth 100000 in
set_option maxHeartbeats 4000000 in
theorem cn_X10_addRider_arg {K : KX} {n : Nat} {h : MH} {c : Nat} {P : CS} (x : Cp h n c P) {fx fy tx ty rdy dl : Int32} (hb : (b_pl fx fy && b_pl tx ty && b_in rdy 0 1439 && b_in dl 0 9999) = false) : Con K mX10_addRider [.ref c, .int fx, .int fy, .int tx, .int ty, .int rdy, .int dl] 1 6 n h (Thr "java/lang/IllegalArgumentException" n h) := by
  obtain ⟨ba, sa, Sp, S, H, A, V, Kx, x, xfc, xfp⟩ := x
  obtain ⟨c0, bd, sp, sv, ins, pf, mt, sh, ttx, rd, ad, nn⟩ := id x
  have b0 := bd.1
  have b5 := bd.2.2.2.2.2.1
  have b6 := bd.2.2.2.2.2.2
  have adr := x.adr
  refine Con.of (by decide +kernel) (Nat.le_of_ble_eq_true rfl) ?_
  refine mj_iload_n 1 dX10_addRider_0 rfl ?_
  refine mj_iload_n 2 dX10_addRider_1 rfl ?_
  refine mj_cS1 [_, _] dX10_addRider_2 cwX10_isPlace lkX10_103 rfl (cn_X10_isPlace) ⟨Nat.le_of_ble_eq_true rfl, Nat.le_of_ble_eq_true rfl, Nat.le_of_ble_eq_true rfl, Nat.le_of_ble_eq_true rfl, Nat.le_of_ble_eq_true rfl⟩ (fun h' e' => ?_)
  subst h'
  refine mj_if_eq 41 dX10_addRider_5 (by decide) (fun c_5 => ?_) (fun c_5 => ?_)
  · have z1 := bI_0.mp c_5
    exact mj_throwS (text := "an argument is out of range") dX10_addRider_41 dX10_addRider_44 dX10_addRider_45 dX10_addRider_47 dX10_addRider_50 thX10_69_73 (show (("Carpool", 71, "an argument is out of range") : String × Nat × String) ∈ strK by decide +kernel) rfl (Nat.le_of_ble_eq_true rfl) (Nat.le_of_ble_eq_true rfl) (Nat.le_of_ble_eq_true rfl) (Nat.le_of_ble_eq_true rfl) (fun n9 h9 => ⟨rfl, h9, rfl⟩)
  · have z1 := bI_n0.mp c_5
    refine mj_iload_n 3 dX10_addRider_8 rfl ?_
    refine mj_iload 4 dX10_addRider_9 rfl ?_
    refine mj_cS1 [_, _] dX10_addRider_11 cwX10_isPlace lkX10_103 rfl (cn_X10_isPlace) ⟨Nat.le_of_ble_eq_true rfl, Nat.le_of_ble_eq_true rfl, Nat.le_of_ble_eq_true rfl, Nat.le_of_ble_eq_true rfl, Nat.le_of_ble_eq_true rfl⟩ (fun h' e' => ?_)
    subst h'
    refine mj_if_eq 41 dX10_addRider_14 (by decide) (fun c_14 => ?_) (fun c_14 => ?_)
    · have z2 := bI_0.mp c_14
      exact mj_throwS (text := "an argument is out of range") dX10_addRider_41 dX10_addRider_44 dX10_addRider_45 dX10_addRider_47 dX10_addRider_50 thX10_69_73 (show (("Carpool", 71, "an argument is out of range") : String × Nat × String) ∈ strK by decide +kernel) rfl (Nat.le_of_ble_eq_true rfl) (Nat.le_of_ble_eq_true rfl) (Nat.le_of_ble_eq_true rfl) (Nat.le_of_ble_eq_true rfl) (fun n9 h9 => ⟨rfl, h9, rfl⟩)
    · have z2 := bI_n0.mp c_14
      refine mj_iload 5 dX10_addRider_17 rfl ?_
      refine mj_iconst (v := 0) dX10_addRider_19 rfl ?_
      refine mj_sipush (v := (1439)) dX10_addRider_20 rfl ?_
      refine mj_cS1 [_, _, _] dX10_addRider_23 cwX10_isWithin lkX10_65 rfl (cn_X10_isWithin _ _ _) ⟨Nat.le_of_ble_eq_true rfl, Nat.le_of_ble_eq_true rfl, Nat.le_of_ble_eq_true rfl, Nat.le_of_ble_eq_true rfl, Nat.le_of_ble_eq_true rfl⟩ (fun h' e' => ?_)
      subst h'
      refine mj_if_eq 41 dX10_addRider_26 (by decide) (fun c_26 => ?_) (fun c_26 => ?_)
      · have z3 := bI_0.mp c_26
        exact mj_throwS (text := "an argument is out of range") dX10_addRider_41 dX10_addRider_44 dX10_addRider_45 dX10_addRider_47 dX10_addRider_50 thX10_69_73 (show (("Carpool", 71, "an argument is out of range") : String × Nat × String) ∈ strK by decide +kernel) rfl (Nat.le_of_ble_eq_true rfl) (Nat.le_of_ble_eq_true rfl) (Nat.le_of_ble_eq_true rfl) (Nat.le_of_ble_eq_true rfl) (fun n9 h9 => ⟨rfl, h9, rfl⟩)
      · have z3 := bI_n0.mp c_26
        refine mj_iload 6 dX10_addRider_29 rfl ?_
        refine mj_iconst (v := 0) dX10_addRider_31 rfl ?_
        refine mj_sipush (v := (9999)) dX10_addRider_32 rfl ?_
        refine mj_cS1 [_, _, _] dX10_addRider_35 cwX10_isWithin lkX10_65 rfl (cn_X10_isWithin _ _ _) ⟨Nat.le_of_ble_eq_true rfl, Nat.le_of_ble_eq_true rfl, Nat.le_of_ble_eq_true rfl, Nat.le_of_ble_eq_true rfl, Nat.le_of_ble_eq_true rfl⟩ (fun h' e' => ?_)
        subst h'
        refine mj_if_ne 51 dX10_addRider_38 (by decide) (fun c_38 => ?_) (fun c_38 => ?_)
        · have z4 := bI_n0.mp c_38
          exact absurd hb (by simp [*])
        · have z4 := bI_0.mp c_38
          exact mj_throwS (text := "an argument is out of range") dX10_addRider_41 dX10_addRider_44 dX10_addRider_45 dX10_addRider_47 dX10_addRider_50 thX10_69_73 (show (("Carpool", 71, "an argument is out of range") : String × Nat × String) ∈ strK by decide +kernel) rfl (Nat.le_of_ble_eq_true rfl) (Nat.le_of_ble_eq_true rfl) (Nat.le_of_ble_eq_true rfl) (Nat.le_of_ble_eq_true rfl) (fun n9 h9 => ⟨rfl, h9, rfl⟩)
set_option maxRecDepth 100000 in
set_option maxHeartbeats 4000000 in
theorem cn_X10_addRider_full {K : KX} {n : Nat} {h : MH} {c : Nat} {P : CS} (x : Cp h n c P) {fx fy tx ty rdy dl : Int32} (hb : (b_pl fx fy && b_pl tx ty && b_in rdy 0 1439 && b_in dl 0 9999) = true) (hf : 20 ≤ bnr (pB P)) : Con K mX10_addRider [.ref c, .int fx, .int fy, .int tx, .int ty, .int rdy, .int dl] 1 6 n h (Thr "java/lang/IllegalStateException" n h) := by
  obtain ⟨ba, sa, Sp, S, H, A, V, Kx, x, xfc, xfp⟩ := x
  obtain ⟨c0, bd, sp, sv, ins, pf, mt, sh, ttx, rd, ad, nn⟩ := id x
  have b0 := bd.1
  have b5 := bd.2.2.2.2.2.1
  have b6 := bd.2.2.2.2.2.2
  have adr := x.adr
  refine Con.of (by decide +kernel) (Nat.le_of_ble_eq_true rfl) ?_
  refine mj_iload_n 1 dX10_addRider_0 rfl ?_
  refine mj_iload_n 2 dX10_addRider_1 rfl ?_
  refine mj_cS1 [_, _] dX10_addRider_2 cwX10_isPlace lkX10_103 rfl (cn_X10_isPlace) ⟨Nat.le_of_ble_eq_true rfl, Nat.le_of_ble_eq_true rfl, Nat.le_of_ble_eq_true rfl, Nat.le_of_ble_eq_true rfl, Nat.le_of_ble_eq_true rfl⟩ (fun h' e' => ?_)
  subst h'
  refine mj_if_eq 41 dX10_addRider_5 (by decide) (fun c_5 => ?_) (fun c_5 => ?_)
  · have z1 := bI_0.mp c_5
    exact absurd hb (by simp [*])
  · have z1 := bI_n0.mp c_5
    refine mj_iload_n 3 dX10_addRider_8 rfl ?_
    refine mj_iload 4 dX10_addRider_9 rfl ?_
    refine mj_cS1 [_, _] dX10_addRider_11 cwX10_isPlace lkX10_103 rfl (cn_X10_isPlace) ⟨Nat.le_of_ble_eq_true rfl, Nat.le_of_ble_eq_true rfl, Nat.le_of_ble_eq_true rfl, Nat.le_of_ble_eq_true rfl, Nat.le_of_ble_eq_true rfl⟩ (fun h' e' => ?_)
    subst h'
    refine mj_if_eq 41 dX10_addRider_14 (by decide) (fun c_14 => ?_) (fun c_14 => ?_)
    · have z2 := bI_0.mp c_14
      exact absurd hb (by simp [*])
    · have z2 := bI_n0.mp c_14
      refine mj_iload 5 dX10_addRider_17 rfl ?_
      refine mj_iconst (v := 0) dX10_addRider_19 rfl ?_
      refine mj_sipush (v := (1439)) dX10_addRider_20 rfl ?_
      refine mj_cS1 [_, _, _] dX10_addRider_23 cwX10_isWithin lkX10_65 rfl (cn_X10_isWithin _ _ _) ⟨Nat.le_of_ble_eq_true rfl, Nat.le_of_ble_eq_true rfl, Nat.le_of_ble_eq_true rfl, Nat.le_of_ble_eq_true rfl, Nat.le_of_ble_eq_true rfl⟩ (fun h' e' => ?_)
      subst h'
      refine mj_if_eq 41 dX10_addRider_26 (by decide) (fun c_26 => ?_) (fun c_26 => ?_)
      · have z3 := bI_0.mp c_26
        exact absurd hb (by simp [*])
      · have z3 := bI_n0.mp c_26
        refine mj_iload 6 dX10_addRider_29 rfl ?_
        refine mj_iconst (v := 0) dX10_addRider_31 rfl ?_
        refine mj_sipush (v := (9999)) dX10_addRider_32 rfl ?_
        refine mj_cS1 [_, _, _] dX10_addRider_35 cwX10_isWithin lkX10_65 rfl (cn_X10_isWithin _ _ _) ⟨Nat.le_of_ble_eq_true rfl, Nat.le_of_ble_eq_true rfl, Nat.le_of_ble_eq_true rfl, Nat.le_of_ble_eq_true rfl, Nat.le_of_ble_eq_true rfl⟩ (fun h' e' => ?_)
        subst h'
        refine mj_if_ne 51 dX10_addRider_38 (by decide) (fun c_38 => ?_) (fun c_38 => ?_)
        · have z4 := bI_n0.mp c_38
          refine mj_aload_n 0 dX10_addRider_51 rfl ?_
          refine mj_getf dX10_addRider_52 fgX10_12 (by repeat (first | assumption | exact mup_s _ _ _ | rw [mup_n _ _ (by omega)])) rfl ?_
          refine mj_cV1 [] (RX0, TX0, 5) dX10_addRider_55 cwX0_hasAllRiders lkX10_129 b0 rfl rfl rfl rfl (cn_X0_hasAllRiders bd) ⟨Nat.le_of_ble_eq_true rfl, Nat.le_of_ble_eq_true rfl, Nat.le_of_ble_eq_true rfl, Nat.le_of_ble_eq_true rfl, Nat.le_of_ble_eq_true rfl⟩ (fun h' e' => ?_)
          subst h'
          refine mj_if_eq 71 dX10_addRider_58 (by decide) (fun c_58 => ?_) (fun c_58 => ?_)
          · have z5 := of_decide_eq_false (bI_0.mp c_58)
            exact absurd hf z5
          · have z5 := of_decide_eq_true (bI_n0.mp c_58)
            exact mj_throwS (text := "there are 20 riders") dX10_addRider_61 dX10_addRider_64 dX10_addRider_65 dX10_addRider_67 dX10_addRider_70 thX10_80_84 (show (("Carpool", 132, "there are 20 riders") : String × Nat × String) ∈ strK by decide +kernel) rfl (Nat.le_of_ble_eq_true rfl) (Nat.le_of_ble_eq_true rfl) (Nat.le_of_ble_eq_true rfl) (Nat.le_of_ble_eq_true rfl) (fun n9 h9 => ⟨rfl, h9, rfl⟩)
        · have z4 := bI_0.mp c_38
          exact absurd hb (by simp [*])
set_option maxRecDepth 100000 in
set_option maxHeartbeats 4000000 in
theorem cn_X10_addRider {K : KX} {n : Nat} {h : MH} {c : Nat} {P : CS} (x : Cp h n c P) {fx fy tx ty rdy dl : Int32} (hb : (b_pl fx fy && b_pl tx ty && b_in rdy 0 1439 && b_in dl 0 9999) = true) (hf : bnr (pB P) < 20) : Con K mX10_addRider [.ref c, .int fx, .int fy, .int tx, .int ty, .int rdy, .int dl] 0 0 n h (RetP (some (.int (nI (bnr (pB P))))) n (fun h' => CpE h h' n c (p_setB P (b_addR (pB P) fx fy tx ty rdy dl)))) := by
  obtain ⟨ba, sa, Sp, S, H, A, V, Kx, x, xfc, xfp⟩ := x
  obtain ⟨c0, bd, sp, sv, ins, pf, mt, sh, ttx, rd, ad, nn⟩ := id x
  have b0 := bd.1
  have b5 := bd.2.2.2.2.2.1
  have b6 := bd.2.2.2.2.2.2
  have adr := x.adr
  refine Con.of (by decide +kernel) (Nat.le_of_ble_eq_true rfl) ?_
  refine mj_iload_n 1 dX10_addRider_0 rfl ?_
  refine mj_iload_n 2 dX10_addRider_1 rfl ?_
  refine mj_cS1 [_, _] dX10_addRider_2 cwX10_isPlace lkX10_103 rfl (cn_X10_isPlace) ⟨Nat.le_of_ble_eq_true rfl, Nat.le_of_ble_eq_true rfl, Nat.le_of_ble_eq_true rfl, Nat.le_of_ble_eq_true rfl, Nat.le_of_ble_eq_true rfl⟩ (fun h' e' => ?_)
  subst h'
  refine mj_if_eq 41 dX10_addRider_5 (by decide) (fun c_5 => ?_) (fun c_5 => ?_)
  · have z1 := bI_0.mp c_5
    exact absurd hb (by simp [*])
  · have z1 := bI_n0.mp c_5
    refine mj_iload_n 3 dX10_addRider_8 rfl ?_
    refine mj_iload 4 dX10_addRider_9 rfl ?_
    refine mj_cS1 [_, _] dX10_addRider_11 cwX10_isPlace lkX10_103 rfl (cn_X10_isPlace) ⟨Nat.le_of_ble_eq_true rfl, Nat.le_of_ble_eq_true rfl, Nat.le_of_ble_eq_true rfl, Nat.le_of_ble_eq_true rfl, Nat.le_of_ble_eq_true rfl⟩ (fun h' e' => ?_)
    subst h'
    refine mj_if_eq 41 dX10_addRider_14 (by decide) (fun c_14 => ?_) (fun c_14 => ?_)
    · have z2 := bI_0.mp c_14
      exact absurd hb (by simp [*])
    · have z2 := bI_n0.mp c_14
      refine mj_iload 5 dX10_addRider_17 rfl ?_
      refine mj_iconst (v := 0) dX10_addRider_19 rfl ?_
      refine mj_sipush (v := (1439)) dX10_addRider_20 rfl ?_
      refine mj_cS1 [_, _, _] dX10_addRider_23 cwX10_isWithin lkX10_65 rfl (cn_X10_isWithin _ _ _) ⟨Nat.le_of_ble_eq_true rfl, Nat.le_of_ble_eq_true rfl, Nat.le_of_ble_eq_true rfl, Nat.le_of_ble_eq_true rfl, Nat.le_of_ble_eq_true rfl⟩ (fun h' e' => ?_)
      subst h'
      refine mj_if_eq 41 dX10_addRider_26 (by decide) (fun c_26 => ?_) (fun c_26 => ?_)
      · have z3 := bI_0.mp c_26
        exact absurd hb (by simp [*])
      · have z3 := bI_n0.mp c_26
        refine mj_iload 6 dX10_addRider_29 rfl ?_
        refine mj_iconst (v := 0) dX10_addRider_31 rfl ?_
        refine mj_sipush (v := (9999)) dX10_addRider_32 rfl ?_
        refine mj_cS1 [_, _, _] dX10_addRider_35 cwX10_isWithin lkX10_65 rfl (cn_X10_isWithin _ _ _) ⟨Nat.le_of_ble_eq_true rfl, Nat.le_of_ble_eq_true rfl, Nat.le_of_ble_eq_true rfl, Nat.le_of_ble_eq_true rfl, Nat.le_of_ble_eq_true rfl⟩ (fun h' e' => ?_)
        subst h'
        refine mj_if_ne 51 dX10_addRider_38 (by decide) (fun c_38 => ?_) (fun c_38 => ?_)
        · have z4 := bI_n0.mp c_38
          refine mj_aload_n 0 dX10_addRider_51 rfl ?_
          refine mj_getf dX10_addRider_52 fgX10_12 (by repeat (first | assumption | exact mup_s _ _ _ | rw [mup_n _ _ (by omega)])) rfl ?_
          refine mj_cV1 [] (RX0, TX0, 5) dX10_addRider_55 cwX0_hasAllRiders lkX10_129 b0 rfl rfl rfl rfl (cn_X0_hasAllRiders bd) ⟨Nat.le_of_ble_eq_true rfl, Nat.le_of_ble_eq_true rfl, Nat.le_of_ble_eq_true rfl, Nat.le_of_ble_eq_true rfl, Nat.le_of_ble_eq_true rfl⟩ (fun h' e' => ?_)
          subst h'
          refine mj_if_eq 71 dX10_addRider_58 (by decide) (fun c_58 => ?_) (fun c_58 => ?_)
          · have z5 := of_decide_eq_false (bI_0.mp c_58)
            refine mj_aload_n 0 dX10_addRider_71 rfl ?_
            refine mj_getf dX10_addRider_72 fgX10_12 (by repeat (first | assumption | exact mup_s _ _ _ | rw [mup_n _ _ (by omega)])) rfl ?_
            refine mj_cV1 [] (RX0, TX0, 5) dX10_addRider_75 cwX0_nextRider lkX10_134 b0 rfl rfl rfl rfl (cn_X0_nextRider bd (by omega)) ⟨Nat.le_of_ble_eq_true rfl, Nat.le_of_ble_eq_true rfl, Nat.le_of_ble_eq_true rfl, Nat.le_of_ble_eq_true rfl, Nat.le_of_ble_eq_true rfl⟩ (fun h' e' => ?_)
            obtain ⟨bd7, o7⟩ := e'
            have X7 := bd7.2.2.2.2.1 (bnr (pB P)) (by omega)
            refine mj_astore (ls' := [(7, _), (0, _), (1, _), (2, _), (3, _), (4, _), (5, _), (6, _)]) dX10_addRider_78 (Nat.le_of_ble_eq_true rfl) rfl ?_
            refine mj_aload 0 dX10_addRider_80 rfl ?_
            refine mj_iload 6 dX10_addRider_82 rfl ?_
            refine mj_iload 7 dX10_addRider_84 rfl ?_
            refine mj_cV0 [_, _] (RX5, TX5, 10) dX10_addRider_86 cwX5_begin lkX10_138 X7 rfl rfl rfl rfl (cn_X5_begin X7) ⟨Nat.le_of_ble_eq_true rfl, Nat.le_of_ble_eq_true rfl, Nat.le_of_ble_eq_true rfl, Nat.le_of_ble_eq_true rfl, Nat.le_of_ble_eq_true rfl⟩ (fun h' e' => ?_)
            obtain ⟨X6, o6⟩ := e'
            refine mj_aload 0 dX10_addRider_89 rfl ?_
            refine mj_iload_n 2 dX10_addRider_91 rfl ?_
            refine mj_iload_n 3 dX10_addRider_92 rfl ?_
            refine mj_iload_n 4 dX10_addRider_93 rfl ?_
            refine mj_iload 5 dX10_addRider_94 rfl ?_
            refine mj_cV0 [_, _, _, _] (RX5, TX5, 10) dX10_addRider_96 cwX5_setPlaces lkX10_143 X6 rfl rfl rfl rfl (cn_X5_setPlaces X6) ⟨Nat.le_of_ble_eq_true rfl, Nat.le_of_ble_eq_true rfl, Nat.le_of_ble_eq_true rfl, Nat.le_of_ble_eq_true rfl, Nat.le_of_ble_eq_true rfl⟩ (fun h' e' => ?_)
            obtain ⟨X5, o5⟩ := e'
            have o65 := o6.tr o5
            have bd6 := bd7.setX (r := bnr (pB P)) (by omega) X5 (o65.up (by omega) (by omega))
            have o9 : Off ba (ba + 71) h h' := (o7.up (by omega) (by omega)).tr (o65.up (by omega) (by omega))
            refine mj_aload 0 dX10_addRider_99 rfl ?_
            refine mj_getf dX10_addRider_101 fgX10_146 (by repeat (first | assumption | exact mup_s _ _ _ | rw [mup_n _ _ (by omega)])) rfl ?_
            exact mj_iret dX10_addRider_104 rfl (Nat.le_of_ble_eq_true rfl) (Nat.le_of_ble_eq_true rfl) ⟨rfl, rfl, ⟨(⟨ba, sa, Sp, S, H, A, V, Kx, x.bd bd6 (ins.at fun q h1 h2 => o9 q (by omega)) (pf.at fun q h1 h2 => o9 q (by omega)) (mt.at fun q h1 h2 => o9 q (by omega)) (sh.at fun q h1 h2 => o9 q (by omega)) (Off.to1 (o9.up (by omega) (by omega))), xfc, xfp⟩ : Cp _ n c (p_setB P (b_addR (pB P) fx fy tx ty rdy dl))), o9.toC (by omega) (by omega)⟩⟩
          · have z5 := of_decide_eq_true (bI_n0.mp c_58)
            exact absurd hf (Nat.not_lt.mpr z5)
        · have z4 := bI_0.mp c_38
          exact absurd hb (by simp [*])
set_option maxRecDepth 100000 in
set_option maxHeartbeats 4000000 in
theorem cn_X10_setTrip_no {K : KX} {n : Nat} {h : MH} {c : Nat} {P : CS} (x : Cp h n c P) {i : Int32} (hi : b_in i 0 (nI (bnd (pB P)) - 1) = false) {sx sy ex ey : Int32} : Con K mX10_setTrip [.ref c, .int i, .int sx, .int sy, .int ex, .int ey] 1 6 n h (Thr "java/lang/IndexOutOfBoundsException" n h) := by
  obtain ⟨ba, sa, Sp, S, H, A, V, Kx, x, xfc, xfp⟩ := x
  obtain ⟨c0, bd, sp, sv, ins, pf, mt, sh, tx, rd, ad, nn⟩ := id x
  have b0 := bd.1
  have b5 := bd.2.2.2.2.2.1
  have b6 := bd.2.2.2.2.2.2
  have adr := x.adr
  refine Con.of (by decide +kernel) (Nat.le_of_ble_eq_true rfl) ?_
  refine mj_aload_n 0 dX10_setTrip_0 rfl ?_
  refine mj_getf dX10_setTrip_1 fgX10_12 (by repeat (first | assumption | exact mup_s _ _ _ | rw [mup_n _ _ (by omega)])) rfl ?_
  refine mj_iload_n 1 dX10_setTrip_4 rfl ?_
  exact mj_tV [_] (RX0, TX0, 5) dX10_setTrip_5 cwX0_driver lkX10_99 b0 rfl rfl rfl rfl rfl (cn_X0_driver_no bd hi) ⟨Nat.le_of_ble_eq_true rfl, Nat.le_of_ble_eq_true rfl, Nat.le_of_ble_eq_true rfl, Nat.le_of_ble_eq_true rfl, Nat.le_of_ble_eq_true rfl⟩ (fun n9 h9 q1 q2 => ⟨rfl, q1, q2⟩)
set_option maxRecDepth 100000 in
set_option maxHeartbeats 4000000 in
theorem cn_X10_setTrip_arg {K : KX} {n : Nat} {h : MH} {c : Nat} {P : CS} (x : Cp h n c P) {i : Int32} {d : Nat} (hi : i = nI d) (hd : d < bnd (pB P)) {sx sy ex ey : Int32} (hb : (b_pl sx sy && b_pl ex ey) = false) : Con K mX10_setTrip [.ref c, .int i, .int sx, .int sy, .int ex, .int ey] 1 6 n h (Thr "java/lang/IllegalArgumentException" n h) := by
  obtain ⟨ba, sa, Sp, S, H, A, V, Kx, x, xfc, xfp⟩ := x
  obtain ⟨c0, bd, sp, sv, ins, pf, mt, sh, tx, rd, ad, nn⟩ := id x
  have b0 := bd.1
  have b5 := bd.2.2.2.2.2.1
  have b6 := bd.2.2.2.2.2.2
  have adr := x.adr
  obtain ⟨de, dt⟩ := bd.2.2.2.1 d (by omega)
  have dt0 := dt.1
  refine Con.of (by decide +kernel) (Nat.le_of_ble_eq_true rfl) ?_
  refine mj_aload_n 0 dX10_setTrip_0 rfl ?_
  refine mj_getf dX10_setTrip_1 fgX10_12 (by repeat (first | assumption | exact mup_s _ _ _ | rw [mup_n _ _ (by omega)])) rfl ?_
  refine mj_iload_n 1 dX10_setTrip_4 rfl ?_
  refine mj_cV1 [_] (RX0, TX0, 5) dX10_setTrip_5 cwX0_driver lkX10_99 (bd.1) rfl rfl rfl rfl (cn_X0_driver bd (j := d) hi hd) ⟨Nat.le_of_ble_eq_true rfl, Nat.le_of_ble_eq_true rfl, Nat.le_of_ble_eq_true rfl, Nat.le_of_ble_eq_true rfl, Nat.le_of_ble_eq_true rfl⟩ (fun h' e' => ?_)
  subst h'
  refine mj_astore (ls' := [(6, _), (0, _), (1, _), (2, _), (3, _), (4, _), (5, _)]) dX10_setTrip_8 (Nat.le_of_ble_eq_true rfl) rfl ?_
  refine mj_iload_n 3 dX10_setTrip_10 rfl ?_
  refine mj_iload_n 4 dX10_setTrip_11 rfl ?_
  refine mj_cS1 [_, _] dX10_setTrip_12 cwX10_isPlace lkX10_103 rfl (cn_X10_isPlace) ⟨Nat.le_of_ble_eq_true rfl, Nat.le_of_ble_eq_true rfl, Nat.le_of_ble_eq_true rfl, Nat.le_of_ble_eq_true rfl, Nat.le_of_ble_eq_true rfl⟩ (fun h' e' => ?_)
  subst h'
  refine mj_if_eq 28 dX10_setTrip_15 (by decide) (fun c_15 => ?_) (fun c_15 => ?_)
  · have z1 := bI_0.mp c_15
    exact mj_throwS (text := "a coordinate is out of range") dX10_setTrip_28 dX10_setTrip_31 dX10_setTrip_32 dX10_setTrip_34 dX10_setTrip_37 thX10_69_73 (show (("Carpool", 107, "a coordinate is out of range") : String × Nat × String) ∈ strK by decide +kernel) rfl (Nat.le_of_ble_eq_true rfl) (Nat.le_of_ble_eq_true rfl) (Nat.le_of_ble_eq_true rfl) (Nat.le_of_ble_eq_true rfl) (fun n9 h9 => ⟨rfl, h9, rfl⟩)
  · have z1 := bI_n0.mp c_15
    refine mj_iload 5 dX10_setTrip_18 rfl ?_
    refine mj_iload 6 dX10_setTrip_20 rfl ?_
    refine mj_cS1 [_, _] dX10_setTrip_22 cwX10_isPlace lkX10_103 rfl (cn_X10_isPlace) ⟨Nat.le_of_ble_eq_true rfl, Nat.le_of_ble_eq_true rfl, Nat.le_of_ble_eq_true rfl, Nat.le_of_ble_eq_true rfl, Nat.le_of_ble_eq_true rfl⟩ (fun h' e' => ?_)
    subst h'
    refine mj_if_ne 38 dX10_setTrip_25 (by decide) (fun c_25 => ?_) (fun c_25 => ?_)
    · have z2 := bI_n0.mp c_25
      exact absurd hb (by simp [*])
    · have z2 := bI_0.mp c_25
      exact mj_throwS (text := "a coordinate is out of range") dX10_setTrip_28 dX10_setTrip_31 dX10_setTrip_32 dX10_setTrip_34 dX10_setTrip_37 thX10_69_73 (show (("Carpool", 107, "a coordinate is out of range") : String × Nat × String) ∈ strK by decide +kernel) rfl (Nat.le_of_ble_eq_true rfl) (Nat.le_of_ble_eq_true rfl) (Nat.le_of_ble_eq_true rfl) (Nat.le_of_ble_eq_true rfl) (fun n9 h9 => ⟨rfl, h9, rfl⟩)
set_option maxRecDepth 100000 in
set_option maxHeartbeats 4000000 in
theorem cn_X10_setTrip_state {K : KX} {n : Nat} {h : MH} {c : Nat} {P : CS} (x : Cp h n c P) {i : Int32} {d : Nat} (hi : i = nI d) (hd : d < bnd (pB P)) {sx sy ex ey : Int32} (hb : (b_pl sx sy && b_pl ex ey) = true) (hs : ddo (bD (pB P) d) = true ∨ 0 < (nI (rn (bT (pB P) d)) - 2) / 2) : Con K mX10_setTrip [.ref c, .int i, .int sx, .int sy, .int ex, .int ey] 1 6 n h (Thr "java/lang/IllegalStateException" n h) := by
  obtain ⟨ba, sa, Sp, S, H, A, V, Kx, x, xfc, xfp⟩ := x
  obtain ⟨c0, bd, sp, sv, ins, pf, mt, sh, tx, rd, ad, nn⟩ := id x
  have b0 := bd.1
  have b5 := bd.2.2.2.2.2.1
  have b6 := bd.2.2.2.2.2.2
  have adr := x.adr
  obtain ⟨de, dt⟩ := bd.2.2.2.1 d (by omega)
  have dt0 := dt.1
  refine Con.of (by decide +kernel) (Nat.le_of_ble_eq_true rfl) ?_
  refine mj_aload_n 0 dX10_setTrip_0 rfl ?_
  refine mj_getf dX10_setTrip_1 fgX10_12 (by repeat (first | assumption | exact mup_s _ _ _ | rw [mup_n _ _ (by omega)])) rfl ?_
  refine mj_iload_n 1 dX10_setTrip_4 rfl ?_
  refine mj_cV1 [_] (RX0, TX0, 5) dX10_setTrip_5 cwX0_driver lkX10_99 (bd.1) rfl rfl rfl rfl (cn_X0_driver bd (j := d) hi hd) ⟨Nat.le_of_ble_eq_true rfl, Nat.le_of_ble_eq_true rfl, Nat.le_of_ble_eq_true rfl, Nat.le_of_ble_eq_true rfl, Nat.le_of_ble_eq_true rfl⟩ (fun h' e' => ?_)
  subst h'
  refine mj_astore (ls' := [(6, _), (0, _), (1, _), (2, _), (3, _), (4, _), (5, _)]) dX10_setTrip_8 (Nat.le_of_ble_eq_true rfl) rfl ?_
  refine mj_iload_n 3 dX10_setTrip_10 rfl ?_
  refine mj_iload_n 4 dX10_setTrip_11 rfl ?_
  refine mj_cS1 [_, _] dX10_setTrip_12 cwX10_isPlace lkX10_103 rfl (cn_X10_isPlace) ⟨Nat.le_of_ble_eq_true rfl, Nat.le_of_ble_eq_true rfl, Nat.le_of_ble_eq_true rfl, Nat.le_of_ble_eq_true rfl, Nat.le_of_ble_eq_true rfl⟩ (fun h' e' => ?_)
  subst h'
  refine mj_if_eq 28 dX10_setTrip_15 (by decide) (fun c_15 => ?_) (fun c_15 => ?_)
  · have z1 := bI_0.mp c_15
    exact absurd hb (by simp [*])
  · have z1 := bI_n0.mp c_15
    refine mj_iload 5 dX10_setTrip_18 rfl ?_
    refine mj_iload 6 dX10_setTrip_20 rfl ?_
    refine mj_cS1 [_, _] dX10_setTrip_22 cwX10_isPlace lkX10_103 rfl (cn_X10_isPlace) ⟨Nat.le_of_ble_eq_true rfl, Nat.le_of_ble_eq_true rfl, Nat.le_of_ble_eq_true rfl, Nat.le_of_ble_eq_true rfl, Nat.le_of_ble_eq_true rfl⟩ (fun h' e' => ?_)
    subst h'
    refine mj_if_ne 38 dX10_setTrip_25 (by decide) (fun c_25 => ?_) (fun c_25 => ?_)
    · have z2 := bI_n0.mp c_25
      refine mj_aload 0 dX10_setTrip_38 rfl ?_
      refine mj_getf dX10_setTrip_40 fgX10_109 (by repeat (first | assumption | exact mup_s _ _ _ | rw [mup_n _ _ (by omega)])) rfl ?_
      refine mj_if_ne 57 dX10_setTrip_43 (by decide) (fun c_43 => ?_) (fun c_43 => ?_)
      · have z3 := bI_n0.mp c_43
        exact mj_throwS (text := "the driver is done or has riders") dX10_setTrip_57 dX10_setTrip_60 dX10_setTrip_61 dX10_setTrip_63 dX10_setTrip_66 thX10_80_84 (show (("Carpool", 123, "the driver is done or has riders") : String × Nat × String) ∈ strK by decide +kernel) rfl (Nat.le_of_ble_eq_true rfl) (Nat.le_of_ble_eq_true rfl) (Nat.le_of_ble_eq_true rfl) (Nat.le_of_ble_eq_true rfl) (fun n9 h9 => ⟨rfl, h9, rfl⟩)
      · have z3 := bI_0.mp c_43
        refine mj_aload 0 dX10_setTrip_46 rfl ?_
        refine mj_getf dX10_setTrip_48 fgX10_113 (by repeat (first | assumption | exact mup_s _ _ _ | rw [mup_n _ _ (by omega)])) rfl ?_
        refine mj_cV1 [] (RX6, TX6, 5) dX10_setTrip_51 cwX6_riderTotal lkX10_117 (dt.1) rfl rfl rfl rfl (cn_X6_riderTotal dt) ⟨Nat.le_of_ble_eq_true rfl, Nat.le_of_ble_eq_true rfl, Nat.le_of_ble_eq_true rfl, Nat.le_of_ble_eq_true rfl, Nat.le_of_ble_eq_true rfl⟩ (fun h' e' => ?_)
        subst h'
        refine mj_if_le 67 dX10_setTrip_54 (by decide) (fun c_54 => ?_) (fun c_54 => ?_)
        · exact absurd c_54 (Int32.not_le.mpr (hs.resolve_left (by rw [z3]; decide)))
        · exact mj_throwS (text := "the driver is done or has riders") dX10_setTrip_57 dX10_setTrip_60 dX10_setTrip_61 dX10_setTrip_63 dX10_setTrip_66 thX10_80_84 (show (("Carpool", 123, "the driver is done or has riders") : String × Nat × String) ∈ strK by decide +kernel) rfl (Nat.le_of_ble_eq_true rfl) (Nat.le_of_ble_eq_true rfl) (Nat.le_of_ble_eq_true rfl) (Nat.le_of_ble_eq_true rfl) (fun n9 h9 => ⟨rfl, h9, rfl⟩)
    · have z2 := bI_0.mp c_25
      exact absurd hb (by simp [*])
set_option maxRecDepth 100000 in
set_option maxHeartbeats 4000000 in
theorem cn_X10_setTrip {K : KX} {n : Nat} {h : MH} {c : Nat} {P : CS} (x : Cp h n c P) {i : Int32} {d : Nat} (hi : i = nI d) (hd : d < bnd (pB P)) {sx sy ex ey : Int32} (hb : (b_pl sx sy && b_pl ex ey) = true) (hs : ddo (bD (pB P) d) = false) (hs2 : (nI (rn (bT (pB P) d)) - 2) / 2 ≤ 0) : Con K mX10_setTrip [.ref c, .int i, .int sx, .int sy, .int ex, .int ey] 0 0 n h (RetP (some (.int (r_dir (r_begin (bT (pB P) d) sx sy ex ey)))) n (fun h' => CpE h h' n c (p_setB P (b_setT (pB P) d (r_begin (bT (pB P) d) sx sy ex ey))))) := by
  obtain ⟨ba, sa, Sp, S, H, A, V, Kx, x, xfc, xfp⟩ := x
  obtain ⟨c0, bd, sp, sv, ins, pf, mt, sh, tx, rd, ad, nn⟩ := id x
  have b0 := bd.1
  have b5 := bd.2.2.2.2.2.1
  have b6 := bd.2.2.2.2.2.2
  have adr := x.adr
  obtain ⟨de, dt⟩ := bd.2.2.2.1 d (by omega)
  have dt0 := dt.1
  refine Con.of (by decide +kernel) (Nat.le_of_ble_eq_true rfl) ?_
  refine mj_aload_n 0 dX10_setTrip_0 rfl ?_
  refine mj_getf dX10_setTrip_1 fgX10_12 (by repeat (first | assumption | exact mup_s _ _ _ | rw [mup_n _ _ (by omega)])) rfl ?_
  refine mj_iload_n 1 dX10_setTrip_4 rfl ?_
  refine mj_cV1 [_] (RX0, TX0, 5) dX10_setTrip_5 cwX0_driver lkX10_99 (bd.1) rfl rfl rfl rfl (cn_X0_driver bd (j := d) hi hd) ⟨Nat.le_of_ble_eq_true rfl, Nat.le_of_ble_eq_true rfl, Nat.le_of_ble_eq_true rfl, Nat.le_of_ble_eq_true rfl, Nat.le_of_ble_eq_true rfl⟩ (fun h' e' => ?_)
  subst h'
  refine mj_astore (ls' := [(6, _), (0, _), (1, _), (2, _), (3, _), (4, _), (5, _)]) dX10_setTrip_8 (Nat.le_of_ble_eq_true rfl) rfl ?_
  refine mj_iload_n 3 dX10_setTrip_10 rfl ?_
  refine mj_iload_n 4 dX10_setTrip_11 rfl ?_
  refine mj_cS1 [_, _] dX10_setTrip_12 cwX10_isPlace lkX10_103 rfl (cn_X10_isPlace) ⟨Nat.le_of_ble_eq_true rfl, Nat.le_of_ble_eq_true rfl, Nat.le_of_ble_eq_true rfl, Nat.le_of_ble_eq_true rfl, Nat.le_of_ble_eq_true rfl⟩ (fun h' e' => ?_)
  subst h'
  refine mj_if_eq 28 dX10_setTrip_15 (by decide) (fun c_15 => ?_) (fun c_15 => ?_)
  · have z1 := bI_0.mp c_15
    exact absurd hb (by simp [*])
  · have z1 := bI_n0.mp c_15
    refine mj_iload 5 dX10_setTrip_18 rfl ?_
    refine mj_iload 6 dX10_setTrip_20 rfl ?_
    refine mj_cS1 [_, _] dX10_setTrip_22 cwX10_isPlace lkX10_103 rfl (cn_X10_isPlace) ⟨Nat.le_of_ble_eq_true rfl, Nat.le_of_ble_eq_true rfl, Nat.le_of_ble_eq_true rfl, Nat.le_of_ble_eq_true rfl, Nat.le_of_ble_eq_true rfl⟩ (fun h' e' => ?_)
    subst h'
    refine mj_if_ne 38 dX10_setTrip_25 (by decide) (fun c_25 => ?_) (fun c_25 => ?_)
    · have z2 := bI_n0.mp c_25
      refine mj_aload 0 dX10_setTrip_38 rfl ?_
      refine mj_getf dX10_setTrip_40 fgX10_109 (by repeat (first | assumption | exact mup_s _ _ _ | rw [mup_n _ _ (by omega)])) rfl ?_
      refine mj_if_ne 57 dX10_setTrip_43 (by decide) (fun c_43 => ?_) (fun c_43 => ?_)
      · exact absurd (hs.symm.trans (bI_n0.mp c_43)) (by decide)
      · have z3 := bI_0.mp c_43
        refine mj_aload 0 dX10_setTrip_46 rfl ?_
        refine mj_getf dX10_setTrip_48 fgX10_113 (by repeat (first | assumption | exact mup_s _ _ _ | rw [mup_n _ _ (by omega)])) rfl ?_
        refine mj_cV1 [] (RX6, TX6, 5) dX10_setTrip_51 cwX6_riderTotal lkX10_117 (dt.1) rfl rfl rfl rfl (cn_X6_riderTotal dt) ⟨Nat.le_of_ble_eq_true rfl, Nat.le_of_ble_eq_true rfl, Nat.le_of_ble_eq_true rfl, Nat.le_of_ble_eq_true rfl, Nat.le_of_ble_eq_true rfl⟩ (fun h' e' => ?_)
        subst h'
        refine mj_if_le 67 dX10_setTrip_54 (by decide) (fun c_54 => ?_) (fun c_54 => ?_)
        · refine mj_aload 0 dX10_setTrip_67 rfl ?_
          refine mj_getf dX10_setTrip_69 fgX10_113 (by repeat (first | assumption | exact mup_s _ _ _ | rw [mup_n _ _ (by omega)])) rfl ?_
          refine mj_iload_n 3 dX10_setTrip_72 rfl ?_
          refine mj_iload_n 4 dX10_setTrip_73 rfl ?_
          refine mj_iload 5 dX10_setTrip_74 rfl ?_
          refine mj_iload 6 dX10_setTrip_76 rfl ?_
          refine mj_cV0 [_, _, _, _] (RX6, TX6, 5) dX10_setTrip_78 cwX6_begin lkX10_125 dt0 rfl rfl rfl rfl (cn_X6_begin dt) ⟨Nat.le_of_ble_eq_true rfl, Nat.le_of_ble_eq_true rfl, Nat.le_of_ble_eq_true rfl, Nat.le_of_ble_eq_true rfl, Nat.le_of_ble_eq_true rfl⟩ (fun h' e' => ?_)
          obtain ⟨t6, o6⟩ := e'
          have de := o6.at de (by omega)
          have t60 := t6.1
          have bd6 := bd.setT (d := d) (by omega) (by rw [show ba + 4 + 6 * d = ba + 3 + 6 * d + 1 by omega]; exact t6) (o6.up (by omega) (by omega))
          have o9 : Off ba (ba + 71) h h' := o6.up (by omega) (by omega)
          refine mj_aload 0 dX10_setTrip_81 rfl ?_
          refine mj_getf dX10_setTrip_83 fgX10_113 (by repeat (first | assumption | exact mup_s _ _ _ | rw [mup_n _ _ (by omega)])) rfl ?_
          refine mj_cV1 [] (RX6, TX6, 5) dX10_setTrip_86 cwX6_directLength lkX10_126 t60 rfl rfl rfl rfl (cn_X6_directLength t6 (show 1 ≤ 2 by decide)) ⟨Nat.le_of_ble_eq_true rfl, Nat.le_of_ble_eq_true rfl, Nat.le_of_ble_eq_true rfl, Nat.le_of_ble_eq_true rfl, Nat.le_of_ble_eq_true rfl⟩ (fun h9 e9 => ?_)
          subst h9
          exact mj_iret dX10_setTrip_89 rfl (Nat.le_of_ble_eq_true rfl) (Nat.le_of_ble_eq_true rfl) ⟨rfl, rfl, ⟨(⟨ba, sa, Sp, S, H, A, V, Kx, x.bd bd6 (ins.at fun q h1 h2 => o9 q (by omega)) (pf.at fun q h1 h2 => o9 q (by omega)) (mt.at fun q h1 h2 => o9 q (by omega)) (sh.at fun q h1 h2 => o9 q (by omega)) (Off.to1 (o9.up (by omega) (by omega))), xfc, xfp⟩ : Cp _ n c (p_setB P (b_setT (pB P) d (r_begin (bT (pB P) d) sx sy ex ey)))), o9.toC (by omega) (by omega)⟩⟩
        · exact absurd hs2 c_54
    · have z2 := bI_0.mp c_25
      exact absurd hb (by simp [*])
set_option maxRecDepth 100000 in
set_option maxHeartbeats 4000000 in
theorem cn_X10_setPenalty_arg {K : KX} {n : Nat} {h : MH} {c : Nat} {P : CS} (x : Cp h n c P) {v : Int32} (hb : b_in v 0 9999 = false) : Con K mX10_setPenalty [.ref c, .int v] 1 6 n h (Thr "java/lang/IllegalArgumentException" n h) := by
  obtain ⟨ba, sa, Sp, S, H, A, V, Kx, x, xfc, xfp⟩ := x
  obtain ⟨c0, bd, sp, sv, ins, pf, mt, sh, tx, rd, ad, nn⟩ := id x
  have b0 := bd.1
  have b5 := bd.2.2.2.2.2.1
  have b6 := bd.2.2.2.2.2.2
  have adr := x.adr
  refine Con.of (by decide +kernel) (Nat.le_of_ble_eq_true rfl) ?_
  refine mj_iload_n 1 dX10_setPenalty_0 rfl ?_
  refine mj_iconst (v := 0) dX10_setPenalty_1 rfl ?_
  refine mj_sipush (v := (9999)) dX10_setPenalty_2 rfl ?_
  refine mj_cS1 [_, _, _] dX10_setPenalty_5 cwX10_isWithin lkX10_65 rfl (cn_X10_isWithin _ _ _) ⟨Nat.le_of_ble_eq_true rfl, Nat.le_of_ble_eq_true rfl, Nat.le_of_ble_eq_true rfl, Nat.le_of_ble_eq_true rfl, Nat.le_of_ble_eq_true rfl⟩ (fun h' e' => ?_)
  subst h'
  refine mj_if_ne 21 dX10_setPenalty_8 (by decide) (fun c_8 => ?_) (fun c_8 => ?_)
  · exact absurd (hb.symm.trans (bI_n0.mp c_8)) (by decide)
  · have z1 := bI_0.mp c_8
    exact mj_throwS (text := "the penalty is out of range") dX10_setPenalty_11 dX10_setPenalty_14 dX10_setPenalty_15 dX10_setPenalty_17 dX10_setPenalty_20 thX10_69_73 (show (("Carpool", 164, "the penalty is out of range") : String × Nat × String) ∈ strK by decide +kernel) rfl (Nat.le_of_ble_eq_true rfl) (Nat.le_of_ble_eq_true rfl) (Nat.le_of_ble_eq_true rfl) (Nat.le_of_ble_eq_true rfl) (fun n9 h9 => ⟨rfl, h9, rfl⟩)
set_option maxRecDepth 100000 in
set_option maxHeartbeats 4000000 in
theorem cn_X10_setPenalty {K : KX} {n : Nat} {h : MH} {c : Nat} {P : CS} (x : Cp h n c P) {v : Int32} (hb : b_in v 0 9999 = true) : Con K mX10_setPenalty [.ref c, .int v] 0 0 n h (RetP (some (.int (bpe (pB P)))) n (fun h' => CpE h h' n c (p_setB P (b_head (pB P) (bnd (pB P)) (bnr (pB P)) v)))) := by
  obtain ⟨ba, sa, Sp, S, H, A, V, Kx, x, xfc, xfp⟩ := x
  obtain ⟨c0, bd, sp, sv, ins, pf, mt, sh, tx, rd, ad, nn⟩ := id x
  have b0 := bd.1
  have b5 := bd.2.2.2.2.2.1
  have b6 := bd.2.2.2.2.2.2
  have adr := x.adr
  refine Con.of (by decide +kernel) (Nat.le_of_ble_eq_true rfl) ?_
  refine mj_iload_n 1 dX10_setPenalty_0 rfl ?_
  refine mj_iconst (v := 0) dX10_setPenalty_1 rfl ?_
  refine mj_sipush (v := (9999)) dX10_setPenalty_2 rfl ?_
  refine mj_cS1 [_, _, _] dX10_setPenalty_5 cwX10_isWithin lkX10_65 rfl (cn_X10_isWithin _ _ _) ⟨Nat.le_of_ble_eq_true rfl, Nat.le_of_ble_eq_true rfl, Nat.le_of_ble_eq_true rfl, Nat.le_of_ble_eq_true rfl, Nat.le_of_ble_eq_true rfl⟩ (fun h' e' => ?_)
  subst h'
  refine mj_if_ne 21 dX10_setPenalty_8 (by decide) (fun c_8 => ?_) (fun c_8 => ?_)
  · have z1 := bI_n0.mp c_8
    refine mj_aload_n 0 dX10_setPenalty_21 rfl ?_
    refine mj_getf dX10_setPenalty_22 fgX10_12 (by repeat (first | assumption | exact mup_s _ _ _ | rw [mup_n _ _ (by omega)])) rfl ?_
    refine mj_getf dX10_setPenalty_25 fgX10_166 (by repeat (first | assumption | exact mup_s _ _ _ | rw [mup_n _ _ (by omega)])) rfl ?_
    refine mj_istore_n (ls' := [(2, _), (0, _), (1, _)]) dX10_setPenalty_28 (Nat.le_of_ble_eq_true rfl) rfl ?_
    refine mj_aload_n 1 dX10_setPenalty_29 rfl ?_
    refine mj_getf dX10_setPenalty_30 fgX10_12 (by repeat (first | assumption | exact mup_s _ _ _ | rw [mup_n _ _ (by omega)])) rfl ?_
    refine mj_iload_n 2 dX10_setPenalty_33 rfl ?_
    refine mj_putf dX10_setPenalty_34 fgX10_166 (by repeat (first | assumption | exact mup_s _ _ _ | rw [mup_n _ _ (by omega)])) rfl rfl rfl (Nat.le_of_ble_eq_true rfl) rfl ?_
    have o9 : Off ba (ba + 71) h (mup h ba (bdC ba (bnd (pB P)) (bnr (pB P)) v)) := Off.m0 _ (by omega) (by omega)
    have bd6 : Bd (mup h ba (bdC ba (bnd (pB P)) (bnr (pB P)) v)) ba (b_head (pB P) (bnd (pB P)) (bnr (pB P)) v) := bd.head (mup_s _ _ _) (Off.m0 _ (by omega) (by omega)) b5 b6
    refine mj_iload_n 0 dX10_setPenalty_37 rfl ?_
    exact mj_iret dX10_setPenalty_38 rfl (Nat.le_of_ble_eq_true rfl) (Nat.le_of_ble_eq_true rfl) ⟨rfl, rfl, (⟨ba, sa, Sp, S, H, A, V, Kx, x.bd bd6 (ins.at fun q h1 h2 => o9 q (by omega)) (pf.at fun q h1 h2 => o9 q (by omega)) (mt.at fun q h1 h2 => o9 q (by omega)) (sh.at fun q h1 h2 => o9 q (by omega)) (Off.to1 (o9.up (by omega) (by omega))), xfc, xfp⟩ : Cp _ n c (p_setB P (b_head (pB P) (bnd (pB P)) (bnr (pB P)) v))), o9.toC (by omega) (by omega)⟩
  · exact absurd (hb.symm.trans (bI_0.mp c_8)) (by decide)
set_option maxRecDepth 100000 in
set_option maxHeartbeats 4000000 in
theorem cn_X10_extra_nor {K : KX} {n : Nat} {h : MH} {c : Nat} {P : CS} (x : Cp h n c P) {i : Int32} (hi : b_in i 0 (nI (bnr (pB P)) - 1) = false) {j : Int32} : Con K mX10_extra [.ref c, .int i, .int j] 1 6 n h (Thr "java/lang/IndexOutOfBoundsException" n h) := by
  obtain ⟨ba, sa, Sp, S, H, A, V, Kx, x, xfc, xfp⟩ := x
  obtain ⟨c0, bd, sp, sv, ins, pf, mt, sh, tx, rd, ad, nn⟩ := id x
  have b0 := bd.1
  have b5 := bd.2.2.2.2.2.1
  have b6 := bd.2.2.2.2.2.2
  have adr := x.adr
  refine Con.of (by decide +kernel) (Nat.le_of_ble_eq_true rfl) ?_
  refine mj_aload_n 0 dX10_extra_0 rfl ?_
  refine mj_getf dX10_extra_1 fgX10_12 (by repeat (first | assumption | exact mup_s _ _ _ | rw [mup_n _ _ (by omega)])) rfl ?_
  refine mj_iload_n 1 dX10_extra_4 rfl ?_
  exact mj_tV [_] (RX0, TX0, 5) dX10_extra_5 cwX0_rider lkX10_152 b0 rfl rfl rfl rfl rfl (cn_X0_rider_no bd hi) ⟨Nat.le_of_ble_eq_true rfl, Nat.le_of_ble_eq_true rfl, Nat.le_of_ble_eq_true rfl, Nat.le_of_ble_eq_true rfl, Nat.le_of_ble_eq_true rfl⟩ (fun n9 h9 q1 q2 => ⟨rfl, q1, q2⟩)
set_option maxRecDepth 100000 in
set_option maxHeartbeats 4000000 in
theorem cn_X10_extra_nod {K : KX} {n : Nat} {h : MH} {c : Nat} {P : CS} (x : Cp h n c P) {i : Int32} {r : Nat} (hi : i = nI r) (hr : r < bnr (pB P)) {j : Int32} (hj : b_in j 0 (nI (bnd (pB P)) - 1) = false) : Con K mX10_extra [.ref c, .int i, .int j] 1 6 n h (Thr "java/lang/IndexOutOfBoundsException" n h) := by
  obtain ⟨ba, sa, Sp, S, H, A, V, Kx, x, xfc, xfp⟩ := x
  obtain ⟨c0, bd, sp, sv, ins, pf, mt, sh, tx, rd, ad, nn⟩ := id x
  have b0 := bd.1
  have b5 := bd.2.2.2.2.2.1
  have b6 := bd.2.2.2.2.2.2
  have adr := x.adr
  refine Con.of (by decide +kernel) (Nat.le_of_ble_eq_true rfl) ?_
  refine mj_aload_n 0 dX10_extra_0 rfl ?_
  refine mj_getf dX10_extra_1 fgX10_12 (by repeat (first | assumption | exact mup_s _ _ _ | rw [mup_n _ _ (by omega)])) rfl ?_
  refine mj_iload_n 1 dX10_extra_4 rfl ?_
  refine mj_cV1 [_] (RX0, TX0, 5) dX10_extra_5 cwX0_rider lkX10_152 (bd.1) rfl rfl rfl rfl (cn_X0_rider bd (j := r) hi hr) ⟨Nat.le_of_ble_eq_true rfl, Nat.le_of_ble_eq_true rfl, Nat.le_of_ble_eq_true rfl, Nat.le_of_ble_eq_true rfl, Nat.le_of_ble_eq_true rfl⟩ (fun h' e' => ?_)
  subst h'
  refine mj_astore_n (ls' := [(3, _), (0, _), (1, _), (2, _)]) dX10_extra_8 (Nat.le_of_ble_eq_true rfl) rfl ?_
  refine mj_aload_n 1 dX10_extra_9 rfl ?_
  refine mj_getf dX10_extra_10 fgX10_26 (by repeat (first | assumption | exact mup_s _ _ _ | rw [mup_n _ _ (by omega)])) rfl ?_
  refine mj_aload_n 0 dX10_extra_13 rfl ?_
  refine mj_aload_n 1 dX10_extra_14 rfl ?_
  refine mj_getf dX10_extra_15 fgX10_12 (by repeat (first | assumption | exact mup_s _ _ _ | rw [mup_n _ _ (by omega)])) rfl ?_
  refine mj_iload_n 3 dX10_extra_18 rfl ?_
  exact mj_tV [_] (RX0, TX0, 5) dX10_extra_19 cwX0_driver lkX10_99 b0 rfl rfl rfl rfl rfl (cn_X0_driver_no bd hj) ⟨Nat.le_of_ble_eq_true rfl, Nat.le_of_ble_eq_true rfl, Nat.le_of_ble_eq_true rfl, Nat.le_of_ble_eq_true rfl, Nat.le_of_ble_eq_true rfl⟩ (fun n9 h9 q1 q2 => ⟨rfl, q1, q2⟩)
set_option maxRecDepth 100000 in
set_option maxHeartbeats 4000000 in
theorem cn_X10_extra {K : KX} {n : Nat} {h : MH} {c : Nat} {P : CS} (x : Cp h n c P) {i : Int32} {r : Nat} (hi : i = nI r) (hr : r < bnr (pB P)) {j : Int32} {d : Nat} (hj : j = nI d) (hd : d < bnd (pB P)) (ht : 2 ≤ rn (bT (pB P) d)) : Con K mX10_extra [.ref c, .int i, .int j] 0 0 n h (RetP (some (.int (s_inr (pB P) r d))) n (fun h' => CpE h h' n c P)) := by
  obtain ⟨ba, sa, Sp, S, H, A, V, Kx, x, xfc, xfp⟩ := x
  obtain ⟨c0, bd, sp, sv, ins, pf, mt, sh, tx, rd, ad, nn⟩ := id x
  have b0 := bd.1
  have b5 := bd.2.2.2.2.2.1
  have b6 := bd.2.2.2.2.2.2
  have adr := x.adr
  refine Con.of (by decide +kernel) (Nat.le_of_ble_eq_true rfl) ?_
  refine mj_aload_n 0 dX10_extra_0 rfl ?_
  refine mj_getf dX10_extra_1 fgX10_12 (by repeat (first | assumption | exact mup_s _ _ _ | rw [mup_n _ _ (by omega)])) rfl ?_
  refine mj_iload_n 1 dX10_extra_4 rfl ?_
  refine mj_cV1 [_] (RX0, TX0, 5) dX10_extra_5 cwX0_rider lkX10_152 (bd.1) rfl rfl rfl rfl (cn_X0_rider bd (j := r) hi hr) ⟨Nat.le_of_ble_eq_true rfl, Nat.le_of_ble_eq_true rfl, Nat.le_of_ble_eq_true rfl, Nat.le_of_ble_eq_true rfl, Nat.le_of_ble_eq_true rfl⟩ (fun h' e' => ?_)
  subst h'
  refine mj_astore_n (ls' := [(3, _), (0, _), (1, _), (2, _)]) dX10_extra_8 (Nat.le_of_ble_eq_true rfl) rfl ?_
  refine mj_aload_n 1 dX10_extra_9 rfl ?_
  refine mj_getf dX10_extra_10 fgX10_26 (by repeat (first | assumption | exact mup_s _ _ _ | rw [mup_n _ _ (by omega)])) rfl ?_
  refine mj_aload_n 0 dX10_extra_13 rfl ?_
  refine mj_aload_n 1 dX10_extra_14 rfl ?_
  refine mj_getf dX10_extra_15 fgX10_12 (by repeat (first | assumption | exact mup_s _ _ _ | rw [mup_n _ _ (by omega)])) rfl ?_
  refine mj_iload_n 3 dX10_extra_18 rfl ?_
  refine mj_cV1 [_] (RX0, TX0, 5) dX10_extra_19 cwX0_driver lkX10_99 (bd.1) rfl rfl rfl rfl (cn_X0_driver bd (j := d) hj hd) ⟨Nat.le_of_ble_eq_true rfl, Nat.le_of_ble_eq_true rfl, Nat.le_of_ble_eq_true rfl, Nat.le_of_ble_eq_true rfl, Nat.le_of_ble_eq_true rfl⟩ (fun h' e' => ?_)
  subst h'
  obtain ⟨U2, upa, uda, ui⟩ := id ins
  refine mj_cV1 [_, _] (RX2, TX2, 4) dX10_extra_22 cwX2_extraInRoute lkX10_193 (ui.1) rfl rfl rfl rfl (cn_X2_extraInRoute ins bd (by omega) (by omega) ht (by omega)) ⟨Nat.le_of_ble_eq_true rfl, Nat.le_of_ble_eq_true rfl, Nat.le_of_ble_eq_true rfl, Nat.le_of_ble_eq_true rfl, Nat.le_of_ble_eq_true rfl⟩ (fun h' e' => ?_)
  obtain ⟨i8, o8⟩ := e'
  exact mj_iret dX10_extra_25 rfl (Nat.le_of_ble_eq_true rfl) (Nat.le_of_ble_eq_true rfl) ⟨rfl, rfl, ⟨⟨ba, sa, Sp, S, H, A, V, Kx, x.bd (bd.off o8 (by omega)) i8 (pf.off o8 (by omega)) (mt.off o8 (by omega)) (sh.off o8 (by omega)) (o8.up (by omega) (by omega)).to2, xfc, xfp⟩, o8.toC (by omega) (by omega)⟩⟩
set_option maxRecDepth 100000 in
set_option maxHeartbeats 4000000 in
theorem cn_X10_soloExtra_nor {K : KX} {n : Nat} {h : MH} {c : Nat} {P : CS} (x : Cp h n c P) {i : Int32} (hi : b_in i 0 (nI (bnr (pB P)) - 1) = false) {j : Int32} : Con K mX10_soloExtra [.ref c, .int i, .int j] 1 6 n h (Thr "java/lang/IndexOutOfBoundsException" n h) := by
  obtain ⟨ba, sa, Sp, S, H, A, V, Kx, x, xfc, xfp⟩ := x
  obtain ⟨c0, bd, sp, sv, ins, pf, mt, sh, tx, rd, ad, nn⟩ := id x
  have b0 := bd.1
  have b5 := bd.2.2.2.2.2.1
  have b6 := bd.2.2.2.2.2.2
  have adr := x.adr
  refine Con.of (by decide +kernel) (Nat.le_of_ble_eq_true rfl) ?_
  refine mj_aload_n 0 dX10_soloExtra_0 rfl ?_
  refine mj_getf dX10_soloExtra_1 fgX10_12 (by repeat (first | assumption | exact mup_s _ _ _ | rw [mup_n _ _ (by omega)])) rfl ?_
  refine mj_iload_n 1 dX10_soloExtra_4 rfl ?_
  exact mj_tV [_] (RX0, TX0, 5) dX10_soloExtra_5 cwX0_rider lkX10_152 b0 rfl rfl rfl rfl rfl (cn_X0_rider_no bd hi) ⟨Nat.le_of_ble_eq_true rfl, Nat.le_of_ble_eq_true rfl, Nat.le_of_ble_eq_true rfl, Nat.le_of_ble_eq_true rfl, Nat.le_of_ble_eq_true rfl⟩ (fun n9 h9 q1 q2 => ⟨rfl, q1, q2⟩)
set_option maxRecDepth 100000 in
set_option maxHeartbeats 4000000 in
theorem cn_X10_soloExtra_nod {K : KX} {n : Nat} {h : MH} {c : Nat} {P : CS} (x : Cp h n c P) {i : Int32} {r : Nat} (hi : i = nI r) (hr : r < bnr (pB P)) {j : Int32} (hj : b_in j 0 (nI (bnd (pB P)) - 1) = false) : Con K mX10_soloExtra [.ref c, .int i, .int j] 1 6 n h (Thr "java/lang/IndexOutOfBoundsException" n h) := by
  obtain ⟨ba, sa, Sp, S, H, A, V, Kx, x, xfc, xfp⟩ := x
  obtain ⟨c0, bd, sp, sv, ins, pf, mt, sh, tx, rd, ad, nn⟩ := id x
  have b0 := bd.1
  have b5 := bd.2.2.2.2.2.1
  have b6 := bd.2.2.2.2.2.2
  have adr := x.adr
  refine Con.of (by decide +kernel) (Nat.le_of_ble_eq_true rfl) ?_
  refine mj_aload_n 0 dX10_soloExtra_0 rfl ?_
  refine mj_getf dX10_soloExtra_1 fgX10_12 (by repeat (first | assumption | exact mup_s _ _ _ | rw [mup_n _ _ (by omega)])) rfl ?_
  refine mj_iload_n 1 dX10_soloExtra_4 rfl ?_
  refine mj_cV1 [_] (RX0, TX0, 5) dX10_soloExtra_5 cwX0_rider lkX10_152 (bd.1) rfl rfl rfl rfl (cn_X0_rider bd (j := r) hi hr) ⟨Nat.le_of_ble_eq_true rfl, Nat.le_of_ble_eq_true rfl, Nat.le_of_ble_eq_true rfl, Nat.le_of_ble_eq_true rfl, Nat.le_of_ble_eq_true rfl⟩ (fun h' e' => ?_)
  subst h'
  refine mj_astore_n (ls' := [(3, _), (0, _), (1, _), (2, _)]) dX10_soloExtra_8 (Nat.le_of_ble_eq_true rfl) rfl ?_
  refine mj_aload_n 1 dX10_soloExtra_9 rfl ?_
  refine mj_getf dX10_soloExtra_10 fgX10_26 (by repeat (first | assumption | exact mup_s _ _ _ | rw [mup_n _ _ (by omega)])) rfl ?_
  refine mj_aload_n 0 dX10_soloExtra_13 rfl ?_
  refine mj_aload_n 1 dX10_soloExtra_14 rfl ?_
  refine mj_getf dX10_soloExtra_15 fgX10_12 (by repeat (first | assumption | exact mup_s _ _ _ | rw [mup_n _ _ (by omega)])) rfl ?_
  refine mj_iload_n 3 dX10_soloExtra_18 rfl ?_
  exact mj_tV [_] (RX0, TX0, 5) dX10_soloExtra_19 cwX0_driver lkX10_99 b0 rfl rfl rfl rfl rfl (cn_X0_driver_no bd hj) ⟨Nat.le_of_ble_eq_true rfl, Nat.le_of_ble_eq_true rfl, Nat.le_of_ble_eq_true rfl, Nat.le_of_ble_eq_true rfl, Nat.le_of_ble_eq_true rfl⟩ (fun n9 h9 q1 q2 => ⟨rfl, q1, q2⟩)
set_option maxRecDepth 100000 in
set_option maxHeartbeats 4000000 in
theorem cn_X10_soloExtra {K : KX} {n : Nat} {h : MH} {c : Nat} {P : CS} (x : Cp h n c P) {i : Int32} {r : Nat} (hi : i = nI r) (hr : r < bnr (pB P)) {j : Int32} {d : Nat} (hj : j = nI d) (hd : d < bnd (pB P)) (ht : 2 ≤ rn (bT (pB P) d)) : Con K mX10_soloExtra [.ref c, .int i, .int j] 0 0 n h (RetP (some (.int (s_alone (pB P) r d))) n (fun h' => CpE h h' n c P)) := by
  obtain ⟨ba, sa, Sp, S, H, A, V, Kx, x, xfc, xfp⟩ := x
  obtain ⟨c0, bd, sp, sv, ins, pf, mt, sh, tx, rd, ad, nn⟩ := id x
  have b0 := bd.1
  have b5 := bd.2.2.2.2.2.1
  have b6 := bd.2.2.2.2.2.2
  have adr := x.adr
  refine Con.of (by decide +kernel) (Nat.le_of_ble_eq_true rfl) ?_
  refine mj_aload_n 0 dX10_soloExtra_0 rfl ?_
  refine mj_getf dX10_soloExtra_1 fgX10_12 (by repeat (first | assumption | exact mup_s _ _ _ | rw [mup_n _ _ (by omega)])) rfl ?_
  refine mj_iload_n 1 dX10_soloExtra_4 rfl ?_
  refine mj_cV1 [_] (RX0, TX0, 5) dX10_soloExtra_5 cwX0_rider lkX10_152 (bd.1) rfl rfl rfl rfl (cn_X0_rider bd (j := r) hi hr) ⟨Nat.le_of_ble_eq_true rfl, Nat.le_of_ble_eq_true rfl, Nat.le_of_ble_eq_true rfl, Nat.le_of_ble_eq_true rfl, Nat.le_of_ble_eq_true rfl⟩ (fun h' e' => ?_)
  subst h'
  refine mj_astore_n (ls' := [(3, _), (0, _), (1, _), (2, _)]) dX10_soloExtra_8 (Nat.le_of_ble_eq_true rfl) rfl ?_
  refine mj_aload_n 1 dX10_soloExtra_9 rfl ?_
  refine mj_getf dX10_soloExtra_10 fgX10_26 (by repeat (first | assumption | exact mup_s _ _ _ | rw [mup_n _ _ (by omega)])) rfl ?_
  refine mj_aload_n 0 dX10_soloExtra_13 rfl ?_
  refine mj_aload_n 1 dX10_soloExtra_14 rfl ?_
  refine mj_getf dX10_soloExtra_15 fgX10_12 (by repeat (first | assumption | exact mup_s _ _ _ | rw [mup_n _ _ (by omega)])) rfl ?_
  refine mj_iload_n 3 dX10_soloExtra_18 rfl ?_
  refine mj_cV1 [_] (RX0, TX0, 5) dX10_soloExtra_19 cwX0_driver lkX10_99 (bd.1) rfl rfl rfl rfl (cn_X0_driver bd (j := d) hj hd) ⟨Nat.le_of_ble_eq_true rfl, Nat.le_of_ble_eq_true rfl, Nat.le_of_ble_eq_true rfl, Nat.le_of_ble_eq_true rfl, Nat.le_of_ble_eq_true rfl⟩ (fun h' e' => ?_)
  subst h'
  obtain ⟨U2, upa, uda, ui⟩ := id ins
  refine mj_cV1 [_, _] (RX2, TX2, 4) dX10_soloExtra_22 cwX2_extraAlone lkX10_197 (ui.1) rfl rfl rfl rfl (cn_X2_extraAlone ins bd (by omega) (by omega) ht (by omega)) ⟨Nat.le_of_ble_eq_true rfl, Nat.le_of_ble_eq_true rfl, Nat.le_of_ble_eq_true rfl, Nat.le_of_ble_eq_true rfl, Nat.le_of_ble_eq_true rfl⟩ (fun h' e' => ?_)
  obtain ⟨i8, o8⟩ := e'
  exact mj_iret dX10_soloExtra_25 rfl (Nat.le_of_ble_eq_true rfl) (Nat.le_of_ble_eq_true rfl) ⟨rfl, rfl, ⟨⟨ba, sa, Sp, S, H, A, V, Kx, x.bd (bd.off o8 (by omega)) i8 (pf.off o8 (by omega)) (mt.off o8 (by omega)) (sh.off o8 (by omega)) (o8.up (by omega) (by omega)).to2, xfc, xfp⟩, o8.toC (by omega) (by omega)⟩⟩
