def mtS (M : MS) (g S H A : Nat → Int32) : MS := sask (shol (ssol (sbrd M g) S) H) A
theorem mtS_b (M : MS) (g S H A g' : Nat → Int32) : sbrd (mtS M g S H A) g' = mtS M g' S H A := by
  show (_, _, vf_upd (vf_upd (vf_upd (vf_upd (vf_upd (mA M) 1 g) 10 S) 11 H) 12 A) 1 g', _) = (_, _, vf_upd (vf_upd (vf_upd (vf_upd (mA M) 1 g') 10 S) 11 H) 12 A, _)
  rw [vf_cc _ _ _ (show 12 ≠ 1 by decide), vf_cc _ _ _ (show 11 ≠ 1 by decide), vf_cc _ _ _ (show 10 ≠ 1 by decide), vf_ss]
  rfl
theorem mtS_s (M : MS) (g S H A S' : Nat → Int32) : ssol (mtS M g S H A) S' = mtS M g S' H A := by
  show (_, _, vf_upd (vf_upd (vf_upd (vf_upd (vf_upd (mA M) 1 g) 10 S) 11 H) 12 A) 10 S', _) = (_, _, vf_upd (vf_upd (vf_upd (vf_upd (mA M) 1 g) 10 S') 11 H) 12 A, _)
  rw [vf_cc _ _ _ (show 12 ≠ 10 by decide), vf_cc _ _ _ (show 11 ≠ 10 by decide), vf_ss]
  rfl
theorem mtS_h (M : MS) (g S H A H' : Nat → Int32) : shol (mtS M g S H A) H' = mtS M g S H' A := by
  show (_, _, vf_upd (vf_upd (vf_upd (vf_upd (vf_upd (mA M) 1 g) 10 S) 11 H) 12 A) 11 H', _) = (_, _, vf_upd (vf_upd (vf_upd (vf_upd (mA M) 1 g) 10 S) 11 H') 12 A, _)
  rw [vf_cc _ _ _ (show 12 ≠ 11 by decide), vf_ss]
  rfl
theorem mtS_a (M : MS) (g S H A A' : Nat → Int32) : sask (mtS M g S H A) A' = mtS M g S H A' := by
  show (_, _, vf_upd (vf_upd (vf_upd (vf_upd (vf_upd (mA M) 1 g) 10 S) 11 H) 12 A) 12 A', _) = (_, _, vf_upd (vf_upd (vf_upd (vf_upd (mA M) 1 g) 10 S) 11 H) 12 A', _)
  rw [vf_ss]
  rfl
theorem mtS_id (M : MS) : mtS M (gbrd M) (gsol M) (ghol M) (gask M) = M := by
  show (_, _, vf_upd (vf_upd (vf_upd (vf_upd (mA M) 1 (mA M 1)) 10 (mA M 10)) 11 (mA M 11)) 12 (mA M 12), _) = M
  rw [vf_id, vf_id, vf_id, vf_id]
  rfl
def tp (g : Nat → Int32) (k : Nat) : Bool := decide (gr g k 6 = 0) || decide (gr g k 6 = 1)
abbrev HA : Type := (Nat → Int32) × (Nat → Int32)
def a_st (g : Nat → Int32) (c : Nat → Int64) (S : Nat → Int32) (nr nd : Nat) (p : HA × Bool) (k : Nat) : HA × Bool :=
  if (tp g k && decide (p.1.1 k = -1)) = true then (match u_best g S p.1.2 k nd with
    | none => p
    | some d => ((u_held g c S p.1.1 d k nr, upd p.1.2 k (p.1.2 k ||| ((1 : Int32) <<< (nI d &&& 31)))), true)) else p
def a_turn (g : Nat → Int32) (c : Nat → Int64) (S : Nat → Int32) (nr nd : Nat) (s : HA) : Nat → HA × Bool
  | 0 => (s, false)
  | k + 1 => a_st g c S nr nd (a_turn g c S nr nd s k) k
def a_run (g : Nat → Int32) (c : Nat → Int64) (S : Nat → Int32) (nr nd : Nat) : Nat → HA → HA
  | 0, s => s
  | f + 1, s => if (a_turn g c S nr nd s nr).2 then a_run g c S nr nd f (a_turn g c S nr nd s nr).1 else (a_turn g c S nr nd s nr).1
def AskE (g : Nat → Int32) (c : Nat → Int64) (S : Nat → Int32) (nr nd : Nat) : Nat → HA → Prop
  | 0, _ => False
  | f + 1, s => (a_turn g c S nr nd s nr).2 = false ∨ AskE g c S nr nd f (a_turn g c S nr nd s nr).1
theorem a_run_s (g : Nat → Int32) (c : Nat → Int64) (S : Nat → Int32) (nr nd f : Nat) (s : HA) : a_run g c S nr nd (f + 1) s = if (a_turn g c S nr nd s nr).2 then a_run g c S nr nd f (a_turn g c S nr nd s nr).1 else (a_turn g c S nr nd s nr).1 := rfl
theorem a_turn_s (g : Nat → Int32) (c : Nat → Int64) (S : Nat → Int32) (nr nd : Nat) (s : HA) (k : Nat) : a_turn g c S nr nd s (k + 1) = a_st g c S nr nd (a_turn g c S nr nd s k) k := rfl
def MsH (h0 : MH) (m : Nat) (M : MS) (s : HA) (h : MH) : Prop := Ms h0 m (mtS M (gbrd M) (gsol M) s.1 s.2) h
set_option maxRecDepth 100000 in
set_option maxHeartbeats 4000000 in
theorem cs_ask {K : KX} {n : Nat} {h : MH} {h0 : MH} {m : Nat} {M : MS} (x : Ms h0 m M h) {nr : Nat} (hnr : gbrd M 2 = nI nr) (h20 : nr ≤ 20) {nd : Nat} (hnd : gbrd M 1 = nI nd) (h8 : nd ≤ 8) {F : Nat} (hE : AskE (gbrd M) (gcrd M) (gsol M) nr nd F (ghol M, gask M)) {R : HA} (hR : R = a_run (gbrd M) (gcrd M) (gsol M) nr nd F (ghol M, gask M)) : Con K mX11_ask [.ref m] 0 0 n h (RetP none n (MsH h0 m M R)) := by
  refine Con.of (by decide +kernel) (Nat.le_of_ble_eq_true rfl) ?_
  have outer : ∀ (f : Nat) (s : HA) (h1 : MH), AskE (gbrd M) (gcrd M) (gsol M) nr nd f s → R = a_run (gbrd M) (gcrd M) (gsol M) nr nd f s → Ms h0 m (mtS M (gbrd M) (gsol M) s.1 s.2) h1 → GG (K, mX11_ask, 0, 0, RetP none n (MsH h0 m M R)) 0 0 2 [(1, .int 1), (0, .ref m)] [] n h1 := by
    intro f
    induction f with
    | zero => intro s h1 hE; exact absurd hE id
    | succ f ihf =>
      intro s h1 hE hR x
      have ihO : ∀ (s : HA) (h1 : MH), AskE (gbrd M) (gcrd M) (gsol M) nr nd f s → R = a_run (gbrd M) (gcrd M) (gsol M) nr nd f s → Ms h0 m (mtS M (gbrd M) (gsol M) s.1 s.2) h1 → GG (K, mX11_ask, 0, 0, RetP none n (MsH h0 m M R)) 0 0 2 [(1, .int 1), (0, .ref m)] [] n h1 := ihf
      have inner : ∀ (f : Nat) (k : Nat) (H A : Nat → Int32) (b : Bool) (h1 : MH), k + f = nr → a_turn (gbrd M) (gcrd M) (gsol M) nr nd s k = ((H, A), b) → Ms h0 m (mtS M (gbrd M) (gsol M) H A) h1 → GG (K, mX11_ask, 0, 0, RetP none n (MsH h0 m M R)) 0 0 10 [(2, .int (nI k)), (1, .int (bI b)), (0, .ref m)] [] n h1 := by
        intro f
        induction f with
        | zero =>
          intro k H A b h1 hk hs x
          obtain rfl : k = nr := by omega
          cases b with
          | false =>
            refine mj_iload_n 0 dX11_ask_10 rfl ?_
            refine mj_aload_n 2 dX11_ask_11 rfl ?_
            refine mS_gbrd dX11_ask_12 fgX11_7 x ?_
            refine mj_iconst (v := 2) dX11_ask_15 rfl ?_
            refine mS_lbrd x ((show (2 : Int32).toInt = ((2 : Nat) : Int) from rfl)) (by first | assumption | omega | decide) dX11_ask_16 ?_
            refine mj_eq (hnr) ?_
            refine mj_icmp_ge 79 dX11_ask_17 (by decide) (fun c_17 => ?_) (fun c_17 => ?_)
            · refine mj_goto 2 dX11_ask_79 (by decide) ?_
              refine mj_iload_n 1 dX11_ask_2 rfl ?_
              refine mj_if_eq 82 dX11_ask_3 (by decide) (fun c_3 => ?_) (fun c_3 => ?_)
              · exact mj_vret dX11_ask_82 rfl (Nat.le_of_ble_eq_true rfl) (Nat.le_of_ble_eq_true rfl) ⟨rfl, rfl, (by
              rw [hR, a_run_s, hs, if_neg (show ¬ false = true by decide)]
              exact x)⟩
              · exact absurd (show bI false = 0 from rfl) c_3
            · exact absurd (nI_le (by omega) (by omega)) c_17
          | true =>
            refine mj_iload_n 0 dX11_ask_10 rfl ?_
            refine mj_aload_n 2 dX11_ask_11 rfl ?_
            refine mS_gbrd dX11_ask_12 fgX11_7 x ?_
            refine mj_iconst (v := 2) dX11_ask_15 rfl ?_
            refine mS_lbrd x ((show (2 : Int32).toInt = ((2 : Nat) : Int) from rfl)) (by first | assumption | omega | decide) dX11_ask_16 ?_
            refine mj_eq (hnr) ?_
            refine mj_icmp_ge 79 dX11_ask_17 (by decide) (fun c_17 => ?_) (fun c_17 => ?_)
            · refine mj_goto 2 dX11_ask_79 (by decide) ?_
              exact mj_ls [1, 2] rfl (ihO (H, A) _ (by have q9 := hE; unfold AskE at q9; rw [hs] at q9; exact q9.resolve_left (show ¬ true = false by decide)) (by rw [hR, a_run_s, hs]; rfl) x)
            · exact absurd (nI_le (by omega) (by omega)) c_17
        | succ f ih =>
          intro k H A b h1 hk hs x
          refine mj_iload_n 0 dX11_ask_10 rfl ?_
          refine mj_aload_n 2 dX11_ask_11 rfl ?_
          refine mS_gbrd dX11_ask_12 fgX11_7 x ?_
          refine mj_iconst (v := 2) dX11_ask_15 rfl ?_
          refine mS_lbrd x ((show (2 : Int32).toInt = ((2 : Nat) : Int) from rfl)) (by first | assumption | omega | decide) dX11_ask_16 ?_
          refine mj_eq (hnr) ?_
          refine mj_icmp_ge 79 dX11_ask_17 (by decide) (fun c_17 => ?_) (fun c_17 => ?_)
          · exact absurd c_17 (nI_ge (by omega) (by omega))
          · refine mj_aload_n 2 dX11_ask_20 rfl ?_
            refine mj_iload_n 0 dX11_ask_21 rfl ?_
            refine mS_cV1 x [_] dX11_ask_22 cwX11_takesPart lkX11_221 rfl rfl rfl (cs_takesPart x (r := k) (by omega)) ⟨Nat.le_of_ble_eq_true rfl, Nat.le_of_ble_eq_true rfl, Nat.le_of_ble_eq_true rfl, Nat.le_of_ble_eq_true rfl, Nat.le_of_ble_eq_true rfl⟩ (fun h x => ?_)
            refine mj_if_eq 46 dX11_ask_25 (by decide) (fun c_25 => ?_) (fun c_25 => ?_)
            · have y1 : tp (gbrd M) k = false := bI_0.mp c_25
              refine mj_iconst (v := (-1)) dX11_ask_46 rfl ?_
              refine mj_istore_n (ls' := [(3, _), (2, _), (1, _), (0, _)]) dX11_ask_47 (Nat.le_of_ble_eq_true rfl) rfl ?_
              refine mj_iload_n 0 dX11_ask_48 rfl ?_
              refine mj_iconst (v := (-1)) dX11_ask_49 rfl ?_
              refine mj_icmp_eq 73 dX11_ask_50 (by decide) (fun c_50 => ?_) (fun c_50 => ?_)
              · first | skip
                refine mj_iinc (ls' := [(2, _), (3, _), (1, _), (0, _)]) 1 dX11_ask_73 rfl (nI_s _) (Nat.le_of_ble_eq_true rfl) rfl ?_
                refine mj_goto 10 dX11_ask_76 (by decide) ?_
                exact mj_ls [0, 2, 3] rfl (ih (k + 1) H A b _ (by omega) (by rw [a_turn_s, hs]; exact if_neg (by rw [y1, Bool.false_and]; decide)) x)
              · exact absurd rfl c_50
            · have y1 : tp (gbrd M) k = true := bI_n0.mp c_25
              refine mj_aload_n 2 dX11_ask_28 rfl ?_
              refine mS_ghol dX11_ask_29 fgX11_42 x ?_
              refine mj_iload_n 0 dX11_ask_32 rfl ?_
              refine mS_lhol x ((by first | assumption | exact ixn (by omega))) (by first | assumption | omega | decide) dX11_ask_33 ?_
              refine mj_iconst (v := (-1)) dX11_ask_34 rfl ?_
              refine mj_icmp_ne 46 dX11_ask_35 (by decide) (fun c_35 => ?_) (fun c_35 => ?_)
              · have y2 : ¬ H k = -1 := c_35
                refine mj_iconst (v := (-1)) dX11_ask_46 rfl ?_
                refine mj_istore_n (ls' := [(3, _), (2, _), (1, _), (0, _)]) dX11_ask_47 (Nat.le_of_ble_eq_true rfl) rfl ?_
                refine mj_iload_n 0 dX11_ask_48 rfl ?_
                refine mj_iconst (v := (-1)) dX11_ask_49 rfl ?_
                refine mj_icmp_eq 73 dX11_ask_50 (by decide) (fun c_50 => ?_) (fun c_50 => ?_)
                · first | skip
                  refine mj_iinc (ls' := [(2, _), (3, _), (1, _), (0, _)]) 1 dX11_ask_73 rfl (nI_s _) (Nat.le_of_ble_eq_true rfl) rfl ?_
                  refine mj_goto 10 dX11_ask_76 (by decide) ?_
                  exact mj_ls [0, 2, 3] rfl (ih (k + 1) H A b _ (by omega) (by rw [a_turn_s, hs]; exact if_neg (by rw [decide_eq_false y2, Bool.and_false]; decide)) x)
                · exact absurd rfl c_50
              · have y2 : H k = -1 := c_35
                refine mj_aload_n 2 dX11_ask_38 rfl ?_
                refine mj_iload_n 0 dX11_ask_39 rfl ?_
                refine mS_cV1 x [_] dX11_ask_40 cwX11_bestUnasked lkX11_233 rfl rfl rfl (cs_bestUnasked x (r := k) (by omega) hnd h8) ⟨Nat.le_of_ble_eq_true rfl, Nat.le_of_ble_eq_true rfl, Nat.le_of_ble_eq_true rfl, Nat.le_of_ble_eq_true rfl, Nat.le_of_ble_eq_true rfl⟩ (fun h x => ?_)
                refine mj_goto 47 dX11_ask_43 (by decide) ?_
                refine mj_istore_n (ls' := [(3, _), (2, _), (1, _), (0, _)]) dX11_ask_47 (Nat.le_of_ble_eq_true rfl) rfl ?_
                refine mj_iload_n 0 dX11_ask_48 rfl ?_
                refine mj_iconst (v := (-1)) dX11_ask_49 rfl ?_
                refine mj_icmp_eq 73 dX11_ask_50 (by decide) (fun c_50 => ?_) (fun c_50 => ?_)
                · first | skip
                  refine mj_iinc (ls' := [(2, _), (3, _), (1, _), (0, _)]) 1 dX11_ask_73 rfl (nI_s _) (Nat.le_of_ble_eq_true rfl) rfl ?_
                  refine mj_goto 10 dX11_ask_76 (by decide) ?_
                  have hod : u_best (gbrd M) (gsol M) A k nd = none := by
                    cases hq : u_best (gbrd M) (gsol M) A k nd with
                    | none => rfl
                    | some d =>
                      have hdl := u_best_lt (gbrd M) (gsol M) A k nd d hq
                      exact absurd ((show oI (u_best (gbrd M) (gsol M) A k nd) = nI d by rw [hq]; rfl).symm.trans c_50) (nI_ne_m1 (by omega))
                  exact mj_ls [0, 2, 3] rfl (ih (k + 1) H A b _ (by omega) (by rw [a_turn_s, hs]; unfold a_st; rw [if_pos (by rw [y1, decide_eq_true y2]; rfl)]; dsimp only; rw [hod]) x)
                · obtain ⟨d, hod⟩ : ∃ d, u_best (gbrd M) (gsol M) A k nd = some d := by
                    cases hq : u_best (gbrd M) (gsol M) A k nd with
                    | none => exact absurd (show oI (u_best (gbrd M) (gsol M) A k nd) = -1 by rw [hq]; rfl) c_50
                    | some d => exact ⟨d, rfl⟩
                  have hdl := u_best_lt (gbrd M) (gsol M) A k nd d hod
                  have hoi : oI (u_best (gbrd M) (gsol M) A k nd) = nI d := by rw [hod]; rfl
                  refine mj_aload_n 3 dX11_ask_53 rfl ?_
                  refine mS_gask dX11_ask_54 fgX11_45 x ?_
                  refine mj_iload_n 1 dX11_ask_57 rfl ?_
                  refine mj_dup2 dX11_ask_58 rfl rfl ?_
                  refine mS_lask x ((by first | assumption | exact ixn (by omega))) (by first | assumption | omega | decide) dX11_ask_59 ?_
                  refine mj_iconst (v := 1) dX11_ask_60 rfl ?_
                  refine mj_iload_n 0 dX11_ask_61 rfl ?_
                  refine mj_eq (hoi) ?_
                  refine mj_ishl dX11_ask_62 ?_
                  refine mj_ior dX11_ask_63 ?_
                  refine mS_aask x ((by first | assumption | exact ixn (by omega))) (by first | assumption | omega | decide) dX11_ask_64 (fun h x => ?_)
                  have x : Ms h0 m (mtS M (gbrd M) (gsol M) H (upd A k (A k ||| ((1 : Int32) <<< (nI d &&& 31))))) h := by rw [mtS_a] at x; exact x
                  refine mj_aload_n 3 dX11_ask_65 rfl ?_
                  refine mj_iload_n 0 dX11_ask_66 rfl ?_
                  refine mj_eq (hoi) ?_
                  refine mj_iload_n 1 dX11_ask_67 rfl ?_
                  refine mS_cV0 x [_, _] dX11_ask_68 cwX11_hold lkX11_236 rfl rfl rfl (cs_hold x (d := d) (r := k) (by omega) (by omega) hnr h20) ⟨Nat.le_of_ble_eq_true rfl, Nat.le_of_ble_eq_true rfl, Nat.le_of_ble_eq_true rfl, Nat.le_of_ble_eq_true rfl, Nat.le_of_ble_eq_true rfl⟩ (fun h x => ?_)
                  rw [mtS_h] at x
                  refine mj_iconst (v := 1) dX11_ask_71 rfl ?_
                  refine mj_istore_n (ls' := [(1, _), (3, _), (2, _), (0, _)]) dX11_ask_72 (Nat.le_of_ble_eq_true rfl) rfl ?_
                  refine mj_iinc (ls' := [(2, _), (1, _), (3, _), (0, _)]) 2 dX11_ask_73 rfl (nI_s _) (Nat.le_of_ble_eq_true rfl) rfl ?_
                  refine mj_goto 10 dX11_ask_76 (by decide) ?_
                  exact mj_ls [0, 1, 3] rfl (ih (k + 1) _ _ true _ (by omega) (by rw [a_turn_s, hs]; unfold a_st; rw [if_pos (by rw [y1, decide_eq_true y2]; rfl)]; dsimp only; rw [hod]; rfl) x)
      refine mj_iload_n 0 dX11_ask_2 rfl ?_
      refine mj_if_eq 82 dX11_ask_3 (by decide) (fun c_3 => ?_) (fun c_3 => ?_)
      · exact absurd (show (1 : Int32) = 0 from c_3) (by decide)
      · refine mj_iconst (v := 0) dX11_ask_6 rfl ?_
        refine mj_istore_n (ls' := [(1, _), (0, _)]) dX11_ask_7 (Nat.le_of_ble_eq_true rfl) rfl ?_
        refine mj_iconst (v := 0) dX11_ask_8 rfl ?_
        refine mj_istore_n (ls' := [(2, _), (1, _), (0, _)]) dX11_ask_9 (Nat.le_of_ble_eq_true rfl) rfl ?_
        exact mj_ls [0, 1, 2] rfl (inner nr 0 s.1 s.2 false _ (by omega) rfl x)
  refine mj_iconst (v := 1) dX11_ask_0 rfl ?_
  refine mj_istore_n (ls' := [(1, _), (0, _)]) dX11_ask_1 (Nat.le_of_ble_eq_true rfl) rfl ?_
  exact mj_ls [0, 1] rfl (outer F (ghol M, gask M) h hE hR (by rw [mtS_id]; exact x))
theorem w_joinG_lo {g : Nat → Int32} {r d : Nat} {l : List Int32} {j : Nat} (h : j < 8) : w_joinG g r d l j = g j := by
  unfold w_joinG
  split
  · rfl
  · show (if j = _ then _ else (if j = _ then _ else w_put g d (w_ins l r (f_find g d r l).2.1 (f_find g d r l).2.2) j)) = g j
    rw [if_neg (by omega), if_neg (by omega)]
    exact w_put_n (by omega) (by omega)
def ah (c : Nat → Int64) (S : Nat → Int32) (d nr : Nat) : Nat → HA → HA
  | 0, p => p
  | f + 1, p => match u_top c S p.2 d nr with
    | none => p
    | some r => ah c S d nr f (w_joinG p.1 r d (rl p.1 d), upd p.2 r (-1))
def HeldT (c : Nat → Int64) (S : Nat → Int32) (d nr : Nat) : Nat → HA → Prop
  | 0, p => u_top c S p.2 d nr = none
  | f + 1, p => match u_top c S p.2 d nr with
    | none => True
    | some r => Rok p.1 d (rl p.1 d) ∧ (rl p.1 d).length ≤ 38 ∧ HeldT c S d nr f (w_joinG p.1 r d (rl p.1 d), upd p.2 r (-1))
theorem ah_lo (c : Nat → Int64) (S : Nat → Int32) (d nr : Nat) {j : Nat} (hj : j < 8) : ∀ f p, (ah c S d nr f p).1 j = p.1 j
  | 0, _ => rfl
  | f + 1, p => by
    show (match u_top c S p.2 d nr with | none => p | some r => ah c S d nr f (w_joinG p.1 r d (rl p.1 d), upd p.2 r (-1))).1 j = p.1 j
    cases u_top c S p.2 d nr with
    | none => rfl
    | some r => exact (ah_lo c S d nr hj f _).trans (w_joinG_lo hj)
set_option maxRecDepth 100000 in
set_option maxHeartbeats 4000000 in
theorem cs_assignHeld {K : KX} {n : Nat} {h : MH} {h0 : MH} {m : Nat} {M : MS} (x : Ms h0 m M h) {d : Nat} (hd : d < 8) {nr : Nat} (hnr : gbrd M 2 = nI nr) (h20 : nr ≤ 20) {F : Nat} (hT : HeldT (gcrd M) (gsol M) d nr F (gbrd M, ghol M)) {R : HA} (hR : R = ah (gcrd M) (gsol M) d nr F (gbrd M, ghol M)) : Con K mX11_assignHeld [.ref m, .int (nI d)] 0 0 n h (RetP none n (fun h9 => Ms h0 m (mtS M R.1 (gsol M) R.2 (gask M)) h9)) := by
  refine Con.of (by decide +kernel) (Nat.le_of_ble_eq_true rfl) ?_
  have loop : ∀ (f : Nat) (p : HA) (h1 : MH), p.1 2 = nI nr → HeldT (gcrd M) (gsol M) d nr f p → R = ah (gcrd M) (gsol M) d nr f p → Ms h0 m (mtS M p.1 (gsol M) p.2 (gask M)) h1 → GG (K, mX11_assignHeld, 0, 0, RetP none n (fun h9 => Ms h0 m (mtS M R.1 (gsol M) R.2 (gask M)) h9)) 0 0 6 [(2, .int (oI (u_top (gcrd M) (gsol M) p.2 d nr))), (0, .ref m), (1, .int (nI d))] [] n h1 := by
    intro f
    induction f with
    | zero =>
      intro p h1 h2 hT hR x
      have hz : u_top (gcrd M) (gsol M) p.2 d nr = none := hT
      refine mj_iload_n 0 dX11_assignHeld_6 rfl ?_
      refine mj_iconst (v := (-1)) dX11_assignHeld_7 rfl ?_
      refine mj_icmp_eq 34 dX11_assignHeld_8 (by decide) (fun c_8 => ?_) (fun c_8 => ?_)
      · exact mj_vret dX11_assignHeld_34 rfl (Nat.le_of_ble_eq_true rfl) (Nat.le_of_ble_eq_true rfl) ⟨rfl, rfl, (by rw [hR]; exact x)⟩
      · exact absurd (show oI (u_top (gcrd M) (gsol M) p.2 d nr) = -1 by rw [hz]; rfl) c_8
    | succ f ih =>
      intro p h1 h2 hT hR x
      cases hz : u_top (gcrd M) (gsol M) p.2 d nr with
      | none =>
        refine mj_iload_n 0 dX11_assignHeld_6 rfl ?_
        refine mj_iconst (v := (-1)) dX11_assignHeld_7 rfl ?_
        refine mj_icmp_eq 34 dX11_assignHeld_8 (by decide) (fun c_8 => ?_) (fun c_8 => ?_)
        · exact mj_vret dX11_assignHeld_34 rfl (Nat.le_of_ble_eq_true rfl) (Nat.le_of_ble_eq_true rfl) ⟨rfl, rfl, (by
          rw [hR]; unfold ah; rw [hz]
          exact x)⟩
        · exact absurd rfl c_8
      | some r =>
        have hT : Rok p.1 d (rl p.1 d) ∧ (rl p.1 d).length ≤ 38 ∧ HeldT (gcrd M) (gsol M) d nr f (w_joinG p.1 r d (rl p.1 d), upd p.2 r (-1)) := by
          have q9 : (match u_top (gcrd M) (gsol M) p.2 d nr with | none => True | some r => Rok p.1 d (rl p.1 d) ∧ (rl p.1 d).length ≤ 38 ∧ HeldT (gcrd M) (gsol M) d nr f (w_joinG p.1 r d (rl p.1 d), upd p.2 r (-1))) := hT
          rw [hz] at q9
          exact q9
        have hrl := u_top_lt (gcrd M) (gsol M) p.2 d nr r hz
        refine mj_iload_n 0 dX11_assignHeld_6 rfl ?_
        refine mj_iconst (v := (-1)) dX11_assignHeld_7 rfl ?_
        refine mj_icmp_eq 34 dX11_assignHeld_8 (by decide) (fun c_8 => ?_) (fun c_8 => ?_)
        · exact absurd (show nI r = -1 from c_8) (nI_ne_m1 (by omega))
        · refine mj_aload_n 1 dX11_assignHeld_11 rfl ?_
          refine mS_ghol dX11_assignHeld_12 fgX11_42 x ?_
          refine mj_iload_n 0 dX11_assignHeld_15 rfl ?_
          refine mj_eq (y := nI r) rfl ?_
          refine mj_iconst (v := (-1)) dX11_assignHeld_16 rfl ?_
          refine mS_ahol x ((by first | assumption | exact ixn (by omega))) (by first | assumption | omega | decide) dX11_assignHeld_17 (fun h x => ?_)
          rw [mtS_h] at x
          refine mj_aload_n 1 dX11_assignHeld_18 rfl ?_
          refine mj_iload_n 0 dX11_assignHeld_19 rfl ?_
          refine mj_eq (y := nI r) rfl ?_
          refine mj_iload_n 2 dX11_assignHeld_20 rfl ?_
          refine mS_cV1 x [_, _] dX11_assignHeld_21 cwX11_join lkX11_194 rfl rfl rfl (cs_join x (r := r) (by omega) hd hT.1 hT.2.1) ⟨Nat.le_of_ble_eq_true rfl, Nat.le_of_ble_eq_true rfl, Nat.le_of_ble_eq_true rfl, Nat.le_of_ble_eq_true rfl, Nat.le_of_ble_eq_true rfl⟩ (fun h x => ?_)
          rw [mtS_b] at x
          refine mj_istore_n (ls' := [(3, _), (2, _), (0, _), (1, _)]) dX11_assignHeld_24 (Nat.le_of_ble_eq_true rfl) rfl ?_
          refine mj_aload_n 2 dX11_assignHeld_25 rfl ?_
          refine mj_iload_n 3 dX11_assignHeld_26 rfl ?_
          refine mS_cV1 x [_] dX11_assignHeld_27 cwX11_bestHeld lkX11_239 rfl rfl rfl (cs_bestHeld x hd ((w_joinG_lo (by omega)).trans h2) h20) ⟨Nat.le_of_ble_eq_true rfl, Nat.le_of_ble_eq_true rfl, Nat.le_of_ble_eq_true rfl, Nat.le_of_ble_eq_true rfl, Nat.le_of_ble_eq_true rfl⟩ (fun h x => ?_)
          refine mj_istore_n (ls' := [(2, _), (3, _), (0, _), (1, _)]) dX11_assignHeld_30 (Nat.le_of_ble_eq_true rfl) rfl ?_
          refine mj_goto 6 dX11_assignHeld_31 (by decide) ?_
          exact mj_ls [0, 2, 3] rfl (ih (w_joinG p.1 r d (rl p.1 d), upd p.2 r (-1)) _ ((w_joinG_lo (by omega)).trans h2) hT.2.2 (by rw [hR]; show (match u_top (gcrd M) (gsol M) p.2 d nr with | none => p | some r => ah (gcrd M) (gsol M) d nr f (w_joinG p.1 r d (rl p.1 d), upd p.2 r (-1))) = _; rw [hz]) x)
  refine mj_aload_n 0 dX11_assignHeld_0 rfl ?_
  refine mj_iload_n 1 dX11_assignHeld_1 rfl ?_
  refine mS_cV1 x [_] dX11_assignHeld_2 cwX11_bestHeld lkX11_239 rfl rfl rfl (cs_bestHeld x hd hnr h20) ⟨Nat.le_of_ble_eq_true rfl, Nat.le_of_ble_eq_true rfl, Nat.le_of_ble_eq_true rfl, Nat.le_of_ble_eq_true rfl, Nat.le_of_ble_eq_true rfl⟩ (fun h x => ?_)
  refine mj_istore_n (ls' := [(2, _), (0, _), (1, _)]) dX11_assignHeld_5 (Nat.le_of_ble_eq_true rfl) rfl ?_
  exact mj_ls [0, 1, 2] rfl (loop F (gbrd M, ghol M) h hnr hT hR (by rw [mtS_id]; exact x))
