def oI (o : Option Nat) : Int32 := match o with
  | none => -1
  | some b => nI b
def u_best (g S A : Nat → Int32) (r : Nat) : Nat → Option Nat
  | 0 => none
  | k + 1 => if ((A r >>> (nI k &&& 31)) &&& 1) = 0 ∧ u_fit S r k = true then (match u_best g S A r k with
      | none => some k
      | some b => if u_ld g S r k b then some k else some b) else u_best g S A r k
theorem u_best_s (g S A : Nat → Int32) (r k : Nat) : u_best g S A r (k + 1) = if ((A r >>> (nI k &&& 31)) &&& 1) = 0 ∧ u_fit S r k = true then (match u_best g S A r k with
      | none => some k
      | some b => if u_ld g S r k b then some k else some b) else u_best g S A r k := rfl
theorem u_best_lt (g S A : Nat → Int32) (r : Nat) : ∀ k b, u_best g S A r k = some b → b < k
  | 0, b, h => by cases h
  | k + 1, b, h => by
    rw [u_best_s] at h
    have ih := u_best_lt g S A r k
    split at h
    · cases hq : u_best g S A r k with
      | none => rw [hq] at h; cases h; omega
      | some b' =>
        rw [hq] at h
        have := ih b' hq
        dsimp only at h
        split at h <;> cases h <;> omega
    · have := ih b h; omega
set_option maxRecDepth 100000 in
set_option maxHeartbeats 4000000 in
theorem cs_bestUnasked {K : KX} {n : Nat} {h : MH} {h0 : MH} {m : Nat} {M : MS} (x : Ms h0 m M h) {r : Nat} (hr : r < 20) {nd : Nat} (hnd : gbrd M 1 = nI nd) (h8 : nd ≤ 8) : Con K mX11_bestUnasked [.ref m, .int (nI r)] 0 0 n h (RetP (some (.int (oI (u_best (gbrd M) (gsol M) (gask M) r nd)))) n (Ms h0 m M)) := by
  refine Con.of (by decide +kernel) (Nat.le_of_ble_eq_true rfl) ?_
  have loop : ∀ (f : Nat) (k : Nat) (o : Option Nat) (h1 : MH), k + f = nd → u_best (gbrd M) (gsol M) (gask M) r k = o → Ms h0 m M h1 → GG (K, mX11_bestUnasked, 0, 0, RetP (some (.int (oI (u_best (gbrd M) (gsol M) (gask M) r nd)))) n (Ms h0 m M)) 0 0 4 [(3, .int (nI k)), (2, .int (oI o)), (0, .ref m), (1, .int (nI r))] [] n h1 := by
    intro f
    induction f with
    | zero =>
      intro k o h1 hk ho x
      refine mj_iload_n 0 dX11_bestUnasked_4 rfl ?_
      refine mj_aload_n 2 dX11_bestUnasked_5 rfl ?_
      refine mS_gbrd dX11_bestUnasked_6 fgX11_7 x ?_
      refine mj_iconst (v := 1) dX11_bestUnasked_9 rfl ?_
      refine mS_lbrd x ((show (1 : Int32).toInt = ((1 : Nat) : Int) from rfl)) (by first | assumption | omega | decide) dX11_bestUnasked_10 ?_
      refine mj_eq (hnd) ?_
      refine mj_icmp_ge 71 dX11_bestUnasked_11 (by decide) (fun c_11 => ?_) (fun c_11 => ?_)
      · refine mj_iload_n 1 dX11_bestUnasked_71 rfl ?_
        obtain rfl : k = nd := by omega
        exact mj_iret dX11_bestUnasked_72 rfl (Nat.le_of_ble_eq_true rfl) (Nat.le_of_ble_eq_true rfl) ⟨(by rw [ho]), rfl, x⟩
      · exact absurd (nI_le (by omega) (by omega)) c_11
    | succ f ih =>
      intro k o h1 hk hs x
      have ho : ∀ b, o = some b → b < k := fun b e => u_best_lt (gbrd M) (gsol M) (gask M) r k b (hs.trans e)
      refine mj_iload_n 0 dX11_bestUnasked_4 rfl ?_
      refine mj_aload_n 2 dX11_bestUnasked_5 rfl ?_
      refine mS_gbrd dX11_bestUnasked_6 fgX11_7 x ?_
      refine mj_iconst (v := 1) dX11_bestUnasked_9 rfl ?_
      refine mS_lbrd x ((show (1 : Int32).toInt = ((1 : Nat) : Int) from rfl)) (by first | assumption | omega | decide) dX11_bestUnasked_10 ?_
      refine mj_eq (hnd) ?_
      refine mj_icmp_ge 71 dX11_bestUnasked_11 (by decide) (fun c_11 => ?_) (fun c_11 => ?_)
      · exact absurd c_11 (nI_ge (by omega) (by omega))
      · refine mj_aload_n 2 dX11_bestUnasked_14 rfl ?_
        refine mS_gask dX11_bestUnasked_15 fgX11_45 x ?_
        refine mj_iload_n 3 dX11_bestUnasked_18 rfl ?_
        refine mS_lask x ((by first | assumption | exact ixn (by omega))) (by first | assumption | omega | decide) dX11_bestUnasked_19 ?_
        refine mj_iload_n 0 dX11_bestUnasked_20 rfl ?_
        refine mj_ishr dX11_bestUnasked_21 ?_
        refine mj_iconst (v := 1) dX11_bestUnasked_22 rfl ?_
        refine mj_iand dX11_bestUnasked_23 ?_
        refine mj_if_ne 40 dX11_bestUnasked_24 (by decide) (fun c_24 => ?_) (fun c_24 => ?_)
        · have y1 : ¬ ((gask M r >>> (nI k &&& 31)) &&& 1) = 0 := c_24
          refine mj_iconst (v := 0) dX11_bestUnasked_40 rfl ?_
          refine mj_istore (ls' := [(4, _), (3, _), (2, _), (0, _), (1, _)]) dX11_bestUnasked_41 (Nat.le_of_ble_eq_true rfl) rfl ?_
          refine mj_iload 0 dX11_bestUnasked_43 rfl ?_
          refine mj_if_eq 65 dX11_bestUnasked_45 (by decide) (fun c_45 => ?_) (fun c_45 => ?_)
          · refine mj_iinc (ls' := [(3, _), (4, _), (2, _), (0, _), (1, _)]) 1 dX11_bestUnasked_65 rfl (nI_s _) (Nat.le_of_ble_eq_true rfl) rfl ?_
            refine mj_goto 4 dX11_bestUnasked_68 (by decide) ?_
            exact mj_ls [0, 2, 3, 4] rfl (ih (k + 1) o _ (by omega) (by rw [u_best_s, if_neg (fun z => y1 z.1), hs]) x)
          · exact absurd (show (0 : Int32) = 0 from rfl) c_45
        · have y1 : ((gask M r >>> (nI k &&& 31)) &&& 1) = 0 := c_24
          refine mj_aload_n 2 dX11_bestUnasked_27 rfl ?_
          refine mj_iload_n 3 dX11_bestUnasked_28 rfl ?_
          refine mj_iload_n 0 dX11_bestUnasked_29 rfl ?_
          refine mS_cV1 x [_, _] dX11_bestUnasked_30 cwX11_doFit lkX11_209 rfl rfl rfl (cs_doFit x (r := r) (d := k) hr (by omega)) ⟨Nat.le_of_ble_eq_true rfl, Nat.le_of_ble_eq_true rfl, Nat.le_of_ble_eq_true rfl, Nat.le_of_ble_eq_true rfl, Nat.le_of_ble_eq_true rfl⟩ (fun h x => ?_)
          refine mj_if_eq 40 dX11_bestUnasked_33 (by decide) (fun c_33 => ?_) (fun c_33 => ?_)
          · have y2 : u_fit (gsol M) r k = false := bI_0.mp c_33
            refine mj_iconst (v := 0) dX11_bestUnasked_40 rfl ?_
            refine mj_istore (ls' := [(4, _), (3, _), (2, _), (0, _), (1, _)]) dX11_bestUnasked_41 (Nat.le_of_ble_eq_true rfl) rfl ?_
            refine mj_iload 0 dX11_bestUnasked_43 rfl ?_
            refine mj_if_eq 65 dX11_bestUnasked_45 (by decide) (fun c_45 => ?_) (fun c_45 => ?_)
            · refine mj_iinc (ls' := [(3, _), (4, _), (2, _), (0, _), (1, _)]) 1 dX11_bestUnasked_65 rfl (nI_s _) (Nat.le_of_ble_eq_true rfl) rfl ?_
              refine mj_goto 4 dX11_bestUnasked_68 (by decide) ?_
              exact mj_ls [0, 2, 3, 4] rfl (ih (k + 1) o _ (by omega) (by rw [u_best_s, if_neg (fun z => absurd (y2.symm.trans z.2) (by decide)), hs]) x)
            · exact absurd (show (0 : Int32) = 0 from rfl) c_45
          · have y2 : u_fit (gsol M) r k = true := bI_n0.mp c_33
            refine mj_iconst (v := 1) dX11_bestUnasked_36 rfl ?_
            refine mj_goto 41 dX11_bestUnasked_37 (by decide) ?_
            refine mj_istore (ls' := [(4, _), (3, _), (2, _), (0, _), (1, _)]) dX11_bestUnasked_41 (Nat.le_of_ble_eq_true rfl) rfl ?_
            refine mj_iload 0 dX11_bestUnasked_43 rfl ?_
            refine mj_if_eq 65 dX11_bestUnasked_45 (by decide) (fun c_45 => ?_) (fun c_45 => ?_)
            · exact absurd (show (1 : Int32) = 0 from c_45) (by decide)
            · refine mj_iload_n 2 dX11_bestUnasked_48 rfl ?_
              refine mj_iconst (v := (-1)) dX11_bestUnasked_49 rfl ?_
              refine mj_icmp_eq 63 dX11_bestUnasked_50 (by decide) (fun c_50 => ?_) (fun c_50 => ?_)
              · have y3 : o = none := by
                  cases o with
                  | none => rfl
                  | some b => exact absurd c_50 (nI_ne_m1 (by have := ho b rfl; omega))
                refine mj_iload_n 1 dX11_bestUnasked_63 rfl ?_
                refine mj_istore_n (ls' := [(2, _), (4, _), (3, _), (0, _), (1, _)]) dX11_bestUnasked_64 (Nat.le_of_ble_eq_true rfl) rfl ?_
                refine mj_iinc (ls' := [(3, _), (2, _), (4, _), (0, _), (1, _)]) 2 dX11_bestUnasked_65 rfl (nI_s _) (Nat.le_of_ble_eq_true rfl) rfl ?_
                refine mj_goto 4 dX11_bestUnasked_68 (by decide) ?_
                exact mj_ls [0, 1, 3, 4] rfl (ih (k + 1) (some k) _ (by omega) (by rw [u_best_s, if_pos ⟨y1, y2⟩, hs, y3]) x)
              · obtain ⟨b, hob⟩ : ∃ b, o = some b := by
                  cases o with
                  | none => exact absurd rfl c_50
                  | some b => exact ⟨b, rfl⟩
                subst hob
                have hbk := ho b rfl
                refine mj_aload_n 3 dX11_bestUnasked_53 rfl ?_
                refine mj_iload_n 4 dX11_bestUnasked_54 rfl ?_
                refine mj_iload_n 1 dX11_bestUnasked_55 rfl ?_
                refine mj_iload_n 2 dX11_bestUnasked_56 rfl ?_
                refine mj_eq (y := nI b) rfl ?_
                refine mS_cV1 x [_, _, _] dX11_bestUnasked_57 cwX11_likesDriver lkX11_212 rfl rfl rfl (cs_likesDriver x (r := r) (d := k) (e := b) hr (by omega) (by omega)) ⟨Nat.le_of_ble_eq_true rfl, Nat.le_of_ble_eq_true rfl, Nat.le_of_ble_eq_true rfl, Nat.le_of_ble_eq_true rfl, Nat.le_of_ble_eq_true rfl⟩ (fun h x => ?_)
                refine mj_if_eq 65 dX11_bestUnasked_60 (by decide) (fun c_60 => ?_) (fun c_60 => ?_)
                · have y4 : u_ld (gbrd M) (gsol M) r k b = false := bI_0.mp c_60
                  refine mj_iinc (ls' := [(3, _), (4, _), (2, _), (0, _), (1, _)]) 1 dX11_bestUnasked_65 rfl (nI_s _) (Nat.le_of_ble_eq_true rfl) rfl ?_
                  refine mj_goto 4 dX11_bestUnasked_68 (by decide) ?_
                  exact mj_ls [0, 2, 3, 4] rfl (ih (k + 1) (some b) _ (by omega) (by rw [u_best_s, if_pos ⟨y1, y2⟩, hs]; dsimp only; rw [if_neg (by rw [y4]; decide)]) x)
                · have y4 : u_ld (gbrd M) (gsol M) r k b = true := bI_n0.mp c_60
                  refine mj_iload_n 1 dX11_bestUnasked_63 rfl ?_
                  refine mj_istore_n (ls' := [(2, _), (4, _), (3, _), (0, _), (1, _)]) dX11_bestUnasked_64 (Nat.le_of_ble_eq_true rfl) rfl ?_
                  refine mj_iinc (ls' := [(3, _), (2, _), (4, _), (0, _), (1, _)]) 2 dX11_bestUnasked_65 rfl (nI_s _) (Nat.le_of_ble_eq_true rfl) rfl ?_
                  refine mj_goto 4 dX11_bestUnasked_68 (by decide) ?_
                  exact mj_ls [0, 1, 3, 4] rfl (ih (k + 1) (some k) _ (by omega) (by rw [u_best_s, if_pos ⟨y1, y2⟩, hs]; dsimp only; rw [if_pos y4]) x)
  refine mj_iconst (v := (-1)) dX11_bestUnasked_0 rfl ?_
  refine mj_istore_n (ls' := [(2, _), (0, _), (1, _)]) dX11_bestUnasked_1 (Nat.le_of_ble_eq_true rfl) rfl ?_
  refine mj_iconst (v := 0) dX11_bestUnasked_2 rfl ?_
  refine mj_istore_n (ls' := [(3, _), (2, _), (0, _), (1, _)]) dX11_bestUnasked_3 (Nat.le_of_ble_eq_true rfl) rfl ?_
  exact mj_ls [0, 1, 2, 3] rfl (loop nd 0 none h (by omega) rfl x)
def u_hold (c : Nat → Int64) (S H : Nat → Int32) (d r : Nat) : Nat → Nat × Nat
  | 0 => (0, r)
  | k + 1 => if H k = nI d then ((u_hold c S H d r k).1 + 1, if u_lr c S d (u_hold c S H d r k).2 k then k else (u_hold c S H d r k).2) else u_hold c S H d r k
theorem u_hold_s (c : Nat → Int64) (S H : Nat → Int32) (d r k : Nat) : u_hold c S H d r (k + 1) = if H k = nI d then ((u_hold c S H d r k).1 + 1, if u_lr c S d (u_hold c S H d r k).2 k then k else (u_hold c S H d r k).2) else u_hold c S H d r k := rfl
theorem u_hold_lt (c : Nat → Int64) (S H : Nat → Int32) (d : Nat) {r : Nat} (hr : r < 20) : ∀ k, k ≤ 20 → (u_hold c S H d r k).1 ≤ k ∧ (u_hold c S H d r k).2 < 20
  | 0, _ => ⟨Nat.le_refl 0, hr⟩
  | k + 1, hk => by
    have ih := u_hold_lt c S H d hr k (by omega)
    rw [u_hold_s]
    split
    · refine ⟨by dsimp only; omega, ?_⟩
      dsimp only
      split
      · omega
      · exact ih.2
    · exact ⟨by omega, ih.2⟩
def u_held (g : Nat → Int32) (c : Nat → Int64) (S H : Nat → Int32) (d r nr : Nat) : Nat → Int32 :=
  if gd g d 4 < nI (u_hold c S (upd H r (nI d)) d r nr).1 then upd (upd H r (nI d)) (u_hold c S (upd H r (nI d)) d r nr).2 (-1) else upd H r (nI d)
theorem shol_ss (M : MS) (S S' : Nat → Int32) : shol (shol M S) S' = shol M S' := by
  show (_, _, vf_upd (vf_upd (mA M) 11 S) 11 S', _) = (_, _, vf_upd (mA M) 11 S', _)
  rw [vf_ss]
  rfl
set_option maxRecDepth 100000 in
set_option maxHeartbeats 4000000 in
theorem cs_hold {K : KX} {n : Nat} {h : MH} {h0 : MH} {m : Nat} {M : MS} (x : Ms h0 m M h) {d r : Nat} (hd : d < 8) (hr : r < 20) {nr : Nat} (hnr : gbrd M 2 = nI nr) (h20 : nr ≤ 20) : Con K mX11_hold [.ref m, .int (nI d), .int (nI r)] 0 0 n h (RetP none n (Ms h0 m (shol M (u_held (gbrd M) (gcrd M) (gsol M) (ghol M) d r nr)))) := by
  refine Con.of (by decide +kernel) (Nat.le_of_ble_eq_true rfl) ?_
  have loop : ∀ (f : Nat) (k e w : Nat) (h1 : MH), k + f = nr → u_hold (gcrd M) (gsol M) (upd (ghol M) r (nI d)) d r k = (e, w) → Ms h0 m (shol M (upd (ghol M) r (nI d))) h1 → GG (K, mX11_hold, 0, 0, RetP none n (Ms h0 m (shol M (u_held (gbrd M) (gcrd M) (gsol M) (ghol M) d r nr)))) 0 0 15 [(5, .int (nI k)), (4, .int (nI w)), (3, .int (nI e)), (0, .ref m), (1, .int (nI d)), (2, .int (nI r))] [] n h1 := by
    intro f
    induction f with
    | zero =>
      intro k e w h1 hk hs x
      obtain rfl : k = nr := by omega
      have hlt := u_hold_lt (gcrd M) (gsol M) (upd (ghol M) r (nI d)) d hr k (by omega)
      rw [hs] at hlt
      dsimp only at hlt
      refine mj_iload 0 dX11_hold_15 rfl ?_
      refine mj_aload_n 3 dX11_hold_17 rfl ?_
      refine mS_gbrd dX11_hold_18 fgX11_7 x ?_
      refine mj_iconst (v := 2) dX11_hold_21 rfl ?_
      refine mS_lbrd x ((show (2 : Int32).toInt = ((2 : Nat) : Int) from rfl)) (by first | assumption | omega | decide) dX11_hold_22 ?_
      refine mj_eq (hnr) ?_
      refine mj_icmp_ge 67 dX11_hold_23 (by decide) (fun c_23 => ?_) (fun c_23 => ?_)
      · refine mj_iload_n 2 dX11_hold_67 rfl ?_
        refine mj_aload_n 3 dX11_hold_68 rfl ?_
        refine mj_iload_n 4 dX11_hold_69 rfl ?_
        refine mj_iconst (v := 4) dX11_hold_70 rfl ?_
        refine mS_cV1 x [_, _] dX11_hold_71 cwX11_driver lkX11_68 rfl rfl rfl (cs_driver x (d := d) (f := 4) hd (by decide)) ⟨Nat.le_of_ble_eq_true rfl, Nat.le_of_ble_eq_true rfl, Nat.le_of_ble_eq_true rfl, Nat.le_of_ble_eq_true rfl, Nat.le_of_ble_eq_true rfl⟩ (fun h x => ?_)
        refine mj_icmp_le 85 dX11_hold_74 (by decide) (fun c_74 => ?_) (fun c_74 => ?_)
        · exact mj_vret dX11_hold_85 rfl (Nat.le_of_ble_eq_true rfl) (Nat.le_of_ble_eq_true rfl) ⟨rfl, rfl, (by unfold u_held; rw [hs, if_neg (show ¬ gd (gbrd M) d 4 < nI (e, w).1 from Int32.not_lt.mpr c_74)]; exact x)⟩
        · refine mj_aload_n 3 dX11_hold_77 rfl ?_
          refine mS_ghol dX11_hold_78 fgX11_42 x ?_
          refine mj_iload 1 dX11_hold_81 rfl ?_
          refine mj_iconst (v := (-1)) dX11_hold_83 rfl ?_
          refine mS_ahol x ((by first | assumption | exact ixn (by omega))) (by first | assumption | omega | decide) dX11_hold_84 (fun h x => ?_)
          rw [shol_ss] at x
          exact mj_vret dX11_hold_85 rfl (Nat.le_of_ble_eq_true rfl) (Nat.le_of_ble_eq_true rfl) ⟨rfl, rfl, (by unfold u_held; rw [hs, if_pos (show gd (gbrd M) d 4 < nI (e, w).1 from Int32.not_le.mp c_74)]; exact x)⟩
      · exact absurd (nI_le (by omega) (by omega)) c_23
    | succ f ih =>
      intro k e w h1 hk hs x
      have hlt := u_hold_lt (gcrd M) (gsol M) (upd (ghol M) r (nI d)) d hr k (by omega)
      rw [hs] at hlt
      dsimp only at hlt
      refine mj_iload 0 dX11_hold_15 rfl ?_
      refine mj_aload_n 3 dX11_hold_17 rfl ?_
      refine mS_gbrd dX11_hold_18 fgX11_7 x ?_
      refine mj_iconst (v := 2) dX11_hold_21 rfl ?_
      refine mS_lbrd x ((show (2 : Int32).toInt = ((2 : Nat) : Int) from rfl)) (by first | assumption | omega | decide) dX11_hold_22 ?_
      refine mj_eq (hnr) ?_
      refine mj_icmp_ge 67 dX11_hold_23 (by decide) (fun c_23 => ?_) (fun c_23 => ?_)
      · exact absurd c_23 (nI_ge (by omega) (by omega))
      · refine mj_aload_n 3 dX11_hold_26 rfl ?_
        refine mS_ghol dX11_hold_27 fgX11_42 x ?_
        refine mj_iload 0 dX11_hold_30 rfl ?_
        refine mS_lhol x ((by first | assumption | exact ixn (by omega))) (by first | assumption | omega | decide) dX11_hold_32 ?_
        refine mj_iload_n 4 dX11_hold_33 rfl ?_
        refine mj_icmp_ne 61 dX11_hold_34 (by decide) (fun c_34 => ?_) (fun c_34 => ?_)
        · refine mj_iinc (ls' := [(5, _), (4, _), (3, _), (0, _), (1, _), (2, _)]) 0 dX11_hold_61 rfl (nI_s _) (Nat.le_of_ble_eq_true rfl) rfl ?_
          refine mj_goto 15 dX11_hold_64 (by decide) ?_
          exact mj_ls [0, 1, 2, 3, 4, 5] rfl (ih (k + 1) e w _ (by omega) (by rw [u_hold_s, hs]; exact if_neg c_34) x)
        · refine mj_iinc (ls' := [(3, _), (5, _), (4, _), (0, _), (1, _), (2, _)]) 2 dX11_hold_37 rfl (nI_s _) (Nat.le_of_ble_eq_true rfl) rfl ?_
          refine mj_aload_n 3 dX11_hold_40 rfl ?_
          refine mj_iload_n 4 dX11_hold_41 rfl ?_
          refine mj_iload 2 dX11_hold_42 rfl ?_
          refine mj_iload 1 dX11_hold_44 rfl ?_
          refine mS_cV1 x [_, _, _] dX11_hold_46 cwX11_likesRider lkX11_218 rfl rfl rfl (cs_likesRider x (d := d) (r := w) (q := k) hd hlt.2 (by omega)) ⟨Nat.le_of_ble_eq_true rfl, Nat.le_of_ble_eq_true rfl, Nat.le_of_ble_eq_true rfl, Nat.le_of_ble_eq_true rfl, Nat.le_of_ble_eq_true rfl⟩ (fun h x => ?_)
          refine mj_if_eq 57 dX11_hold_49 (by decide) (fun c_49 => ?_) (fun c_49 => ?_)
          · have y1 : u_lr (gcrd M) (gsol M) d w k = false := bI_0.mp c_49
            refine mj_iload 2 dX11_hold_57 rfl ?_
            refine mj_istore (ls' := [(4, _), (3, _), (5, _), (0, _), (1, _), (2, _)]) dX11_hold_59 (Nat.le_of_ble_eq_true rfl) rfl ?_
            refine mj_iinc (ls' := [(5, _), (4, _), (3, _), (0, _), (1, _), (2, _)]) 2 dX11_hold_61 rfl (nI_s _) (Nat.le_of_ble_eq_true rfl) rfl ?_
            refine mj_goto 15 dX11_hold_64 (by decide) ?_
            exact mj_ls [0, 1, 2, 3, 4, 5] rfl (ih (k + 1) (e + 1) w _ (by omega) (by rw [u_hold_s, hs]; rw [if_pos (show (upd (ghol M) r (nI d)) k = nI d from c_34)]; dsimp only; rw [if_neg (by rw [y1]; decide)]) x)
          · have y1 : u_lr (gcrd M) (gsol M) d w k = true := bI_n0.mp c_49
            refine mj_iload 1 dX11_hold_52 rfl ?_
            refine mj_goto 59 dX11_hold_54 (by decide) ?_
            refine mj_istore (ls' := [(4, _), (3, _), (5, _), (0, _), (1, _), (2, _)]) dX11_hold_59 (Nat.le_of_ble_eq_true rfl) rfl ?_
            refine mj_iinc (ls' := [(5, _), (4, _), (3, _), (0, _), (1, _), (2, _)]) 2 dX11_hold_61 rfl (nI_s _) (Nat.le_of_ble_eq_true rfl) rfl ?_
            refine mj_goto 15 dX11_hold_64 (by decide) ?_
            exact mj_ls [0, 1, 2, 3, 4, 5] rfl (ih (k + 1) (e + 1) k _ (by omega) (by rw [u_hold_s, hs]; rw [if_pos (show (upd (ghol M) r (nI d)) k = nI d from c_34)]; dsimp only; rw [if_pos y1]) x)
  refine mj_aload_n 0 dX11_hold_0 rfl ?_
  refine mS_ghol dX11_hold_1 fgX11_42 x ?_
  refine mj_iload_n 2 dX11_hold_4 rfl ?_
  refine mj_iload_n 1 dX11_hold_5 rfl ?_
  refine mS_ahol x ((by first | assumption | exact ixn (by omega))) (by first | assumption | omega | decide) dX11_hold_6 (fun h x => ?_)
  refine mj_iconst (v := 0) dX11_hold_7 rfl ?_
  refine mj_istore_n (ls' := [(3, _), (0, _), (1, _), (2, _)]) dX11_hold_8 (Nat.le_of_ble_eq_true rfl) rfl ?_
  refine mj_iload_n 3 dX11_hold_9 rfl ?_
  refine mj_istore (ls' := [(4, _), (3, _), (0, _), (1, _), (2, _)]) dX11_hold_10 (Nat.le_of_ble_eq_true rfl) rfl ?_
  refine mj_iconst (v := 0) dX11_hold_12 rfl ?_
  refine mj_istore (ls' := [(5, _), (4, _), (3, _), (0, _), (1, _), (2, _)]) dX11_hold_13 (Nat.le_of_ble_eq_true rfl) rfl ?_
  exact mj_ls [0, 1, 2, 3, 4, 5] rfl (loop nr 0 0 r h (by omega) rfl x)
def u_top (c : Nat → Int64) (S H : Nat → Int32) (d : Nat) : Nat → Option Nat
  | 0 => none
  | k + 1 => if H k = nI d then (match u_top c S H d k with
      | none => some k
      | some b => if u_lr c S d k b then some k else some b) else u_top c S H d k
theorem u_top_s (c : Nat → Int64) (S H : Nat → Int32) (d k : Nat) : u_top c S H d (k + 1) = if H k = nI d then (match u_top c S H d k with
      | none => some k
      | some b => if u_lr c S d k b then some k else some b) else u_top c S H d k := rfl
theorem u_top_lt (c : Nat → Int64) (S H : Nat → Int32) (d : Nat) : ∀ k b, u_top c S H d k = some b → b < k
  | 0, b, h => by cases h
  | k + 1, b, h => by
    rw [u_top_s] at h
    have ih := u_top_lt c S H d k
    split at h
    · cases hq : u_top c S H d k with
      | none => rw [hq] at h; cases h; omega
      | some b' =>
        rw [hq] at h
        have := ih b' hq
        dsimp only at h
        split at h <;> cases h <;> omega
    · have := ih b h; omega
set_option maxRecDepth 100000 in
set_option maxHeartbeats 4000000 in
theorem cs_bestHeld {K : KX} {n : Nat} {h : MH} {h0 : MH} {m : Nat} {M : MS} (x : Ms h0 m M h) {d : Nat} (hd : d < 8) {nr : Nat} (hnr : gbrd M 2 = nI nr) (h20 : nr ≤ 20) : Con K mX11_bestHeld [.ref m, .int (nI d)] 0 0 n h (RetP (some (.int (oI (u_top (gcrd M) (gsol M) (ghol M) d nr)))) n (Ms h0 m M)) := by
  refine Con.of (by decide +kernel) (Nat.le_of_ble_eq_true rfl) ?_
  have loop : ∀ (f : Nat) (k : Nat) (o : Option Nat) (h1 : MH), k + f = nr → u_top (gcrd M) (gsol M) (ghol M) d k = o → Ms h0 m M h1 → GG (K, mX11_bestHeld, 0, 0, RetP (some (.int (oI (u_top (gcrd M) (gsol M) (ghol M) d nr)))) n (Ms h0 m M)) 0 0 4 [(3, .int (nI k)), (2, .int (oI o)), (0, .ref m), (1, .int (nI d))] [] n h1 := by
    intro f
    induction f with
    | zero =>
      intro k o h1 hk ho x
      refine mj_iload_n 0 dX11_bestHeld_4 rfl ?_
      refine mj_aload_n 2 dX11_bestHeld_5 rfl ?_
      refine mS_gbrd dX11_bestHeld_6 fgX11_7 x ?_
      refine mj_iconst (v := 2) dX11_bestHeld_9 rfl ?_
      refine mS_lbrd x ((show (2 : Int32).toInt = ((2 : Nat) : Int) from rfl)) (by first | assumption | omega | decide) dX11_bestHeld_10 ?_
      refine mj_eq (hnr) ?_
      refine mj_icmp_ge 47 dX11_bestHeld_11 (by decide) (fun c_11 => ?_) (fun c_11 => ?_)
      · refine mj_iload_n 1 dX11_bestHeld_47 rfl ?_
        obtain rfl : k = nr := by omega
        exact mj_iret dX11_bestHeld_48 rfl (Nat.le_of_ble_eq_true rfl) (Nat.le_of_ble_eq_true rfl) ⟨(by rw [ho]), rfl, x⟩
      · exact absurd (nI_le (by omega) (by omega)) c_11
    | succ f ih =>
      intro k o h1 hk hs x
      have ho : ∀ b, o = some b → b < k := fun b e => u_top_lt (gcrd M) (gsol M) (ghol M) d k b (hs.trans e)
      refine mj_iload_n 0 dX11_bestHeld_4 rfl ?_
      refine mj_aload_n 2 dX11_bestHeld_5 rfl ?_
      refine mS_gbrd dX11_bestHeld_6 fgX11_7 x ?_
      refine mj_iconst (v := 2) dX11_bestHeld_9 rfl ?_
      refine mS_lbrd x ((show (2 : Int32).toInt = ((2 : Nat) : Int) from rfl)) (by first | assumption | omega | decide) dX11_bestHeld_10 ?_
      refine mj_eq (hnr) ?_
      refine mj_icmp_ge 47 dX11_bestHeld_11 (by decide) (fun c_11 => ?_) (fun c_11 => ?_)
      · exact absurd c_11 (nI_ge (by omega) (by omega))
      · refine mj_aload_n 2 dX11_bestHeld_14 rfl ?_
        refine mS_ghol dX11_bestHeld_15 fgX11_42 x ?_
        refine mj_iload_n 0 dX11_bestHeld_18 rfl ?_
        refine mS_lhol x ((by first | assumption | exact ixn (by omega))) (by first | assumption | omega | decide) dX11_bestHeld_19 ?_
        refine mj_iload_n 3 dX11_bestHeld_20 rfl ?_
        refine mj_icmp_ne 41 dX11_bestHeld_21 (by decide) (fun c_21 => ?_) (fun c_21 => ?_)
        · refine mj_iinc (ls' := [(3, _), (2, _), (0, _), (1, _)]) 0 dX11_bestHeld_41 rfl (nI_s _) (Nat.le_of_ble_eq_true rfl) rfl ?_
          refine mj_goto 4 dX11_bestHeld_44 (by decide) ?_
          exact mj_ls [0, 1, 2, 3] rfl (ih (k + 1) o _ (by omega) (by rw [u_top_s, if_neg c_21, hs]) x)
        · refine mj_iload_n 1 dX11_bestHeld_24 rfl ?_
          refine mj_iconst (v := (-1)) dX11_bestHeld_25 rfl ?_
          refine mj_icmp_eq 39 dX11_bestHeld_26 (by decide) (fun c_26 => ?_) (fun c_26 => ?_)
          · have y3 : o = none := by
              cases o with
              | none => rfl
              | some b => exact absurd c_26 (nI_ne_m1 (by have := ho b rfl; omega))
            refine mj_iload_n 0 dX11_bestHeld_39 rfl ?_
            refine mj_istore_n (ls' := [(2, _), (3, _), (0, _), (1, _)]) dX11_bestHeld_40 (Nat.le_of_ble_eq_true rfl) rfl ?_
            refine mj_iinc (ls' := [(3, _), (2, _), (0, _), (1, _)]) 1 dX11_bestHeld_41 rfl (nI_s _) (Nat.le_of_ble_eq_true rfl) rfl ?_
            refine mj_goto 4 dX11_bestHeld_44 (by decide) ?_
            exact mj_ls [0, 1, 2, 3] rfl (ih (k + 1) (some k) _ (by omega) (by rw [u_top_s, if_pos c_21, hs, y3]) x)
          · obtain ⟨b, hob⟩ : ∃ b, o = some b := by
              cases o with
              | none => exact absurd rfl c_26
              | some b => exact ⟨b, rfl⟩
            subst hob
            have hbk := ho b rfl
            refine mj_aload_n 2 dX11_bestHeld_29 rfl ?_
            refine mj_iload_n 3 dX11_bestHeld_30 rfl ?_
            refine mj_iload_n 0 dX11_bestHeld_31 rfl ?_
            refine mj_iload_n 1 dX11_bestHeld_32 rfl ?_
            refine mj_eq (y := nI b) rfl ?_
            refine mS_cV1 x [_, _, _] dX11_bestHeld_33 cwX11_likesRider lkX11_218 rfl rfl rfl (cs_likesRider x (d := d) (r := k) (q := b) hd (by omega) (by omega)) ⟨Nat.le_of_ble_eq_true rfl, Nat.le_of_ble_eq_true rfl, Nat.le_of_ble_eq_true rfl, Nat.le_of_ble_eq_true rfl, Nat.le_of_ble_eq_true rfl⟩ (fun h x => ?_)
            refine mj_if_eq 41 dX11_bestHeld_36 (by decide) (fun c_36 => ?_) (fun c_36 => ?_)
            · have y4 : u_lr (gcrd M) (gsol M) d k b = false := bI_0.mp c_36
              refine mj_iinc (ls' := [(3, _), (2, _), (0, _), (1, _)]) 0 dX11_bestHeld_41 rfl (nI_s _) (Nat.le_of_ble_eq_true rfl) rfl ?_
              refine mj_goto 4 dX11_bestHeld_44 (by decide) ?_
              exact mj_ls [0, 1, 2, 3] rfl (ih (k + 1) (some b) _ (by omega) (by rw [u_top_s, if_pos c_21, hs]; dsimp only; rw [if_neg (by rw [y4]; decide)]) x)
            · have y4 : u_lr (gcrd M) (gsol M) d k b = true := bI_n0.mp c_36
              refine mj_iload_n 0 dX11_bestHeld_39 rfl ?_
              refine mj_istore_n (ls' := [(2, _), (3, _), (0, _), (1, _)]) dX11_bestHeld_40 (Nat.le_of_ble_eq_true rfl) rfl ?_
              refine mj_iinc (ls' := [(3, _), (2, _), (0, _), (1, _)]) 1 dX11_bestHeld_41 rfl (nI_s _) (Nat.le_of_ble_eq_true rfl) rfl ?_
              refine mj_goto 4 dX11_bestHeld_44 (by decide) ?_
              exact mj_ls [0, 1, 2, 3] rfl (ih (k + 1) (some k) _ (by omega) (by rw [u_top_s, if_pos c_21, hs]; dsimp only; rw [if_pos y4]) x)
  refine mj_iconst (v := (-1)) dX11_bestHeld_0 rfl ?_
  refine mj_istore_n (ls' := [(2, _), (0, _), (1, _)]) dX11_bestHeld_1 (Nat.le_of_ble_eq_true rfl) rfl ?_
  refine mj_iconst (v := 0) dX11_bestHeld_2 rfl ?_
  refine mj_istore_n (ls' := [(3, _), (2, _), (0, _), (1, _)]) dX11_bestHeld_3 (Nat.le_of_ble_eq_true rfl) rfl ?_
  exact mj_ls [0, 1, 2, 3] rfl (loop nr 0 none h (by omega) rfl x)
