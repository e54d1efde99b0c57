theorem tkS_ec' (M : MS) (Z : ZS) (v : Int32) : sec (tkS M Z) v = tkS M (zpos Z, ztst Z, ztok Z, zlet Z, znum Z, zwrd Z, v, zep Z) := tkS_ec M _ _ _ _ _ _ _ _ v
theorem tkS_ep' (M : MS) (Z : ZS) (v : Int32) : sep (tkS M Z) v = tkS M (zpos Z, ztst Z, ztok Z, zlet Z, znum Z, zwrd Z, zec Z, v) := tkS_ep M _ _ _ _ _ _ _ _ v
def z_req (Z : ZS) (b : Bool) (c : Int32) : ZS := if b = false ∧ zec Z = 0 then (zpos Z, ztst Z, ztok Z, zlet Z, znum Z, zwrd Z, c, nI (ztst Z)) else Z
def z_adv (T : Nat → Int32) (m : Nat) (Z : ZS) : ZS := if zec Z = 0 then z_next T m Z else Z
/-- a number, of this range -/
def z_pn (T : Nat → Int32) (m : Nat) (Z : ZS) (lo hi : Int32) : ZS := z_adv T m (z_req (z_req Z (decide (ztok Z = 3)) 1) (b_in (znum Z) lo hi) 2)
theorem z_req_num (Z : ZS) (b : Bool) (c : Int32) : znum (z_req Z b c) = znum Z := by unfold z_req; split <;> rfl
theorem z_req_pos (Z : ZS) (b : Bool) (c : Int32) : zpos (z_req Z b c) = zpos Z := by unfold z_req; split <;> rfl
theorem z_req_ec {Z : ZS} {b : Bool} {c : Int32} (h : ¬ zec Z = 0) : z_req Z b c = Z := if_neg fun z => h z.2
theorem z_adv_ec {T : Nat → Int32} {m : Nat} {Z : ZS} (h : ¬ zec Z = 0) : z_adv T m Z = Z := if_neg h
theorem z_pn_ec {T : Nat → Int32} {m : Nat} {Z : ZS} {lo hi : Int32} (h : ¬ zec Z = 0) : z_pn T m Z lo hi = Z := by
  unfold z_pn
  rw [z_req_ec h, z_req_ec h, z_adv_ec h]
theorem z_adv_ok {T : Nat → Int32} {m : Nat} {Z : ZS} (h : zpos Z ≤ m) : zpos (z_adv T m Z) ≤ m := by
  unfold z_adv
  split
  · exact z_next_ok h
  · exact h
theorem z_pn_ok {T : Nat → Int32} {m : Nat} {Z : ZS} {lo hi : Int32} (h : zpos Z ≤ m) : zpos (z_pn T m Z lo hi) ≤ m := z_adv_ok (by rw [z_req_pos, z_req_pos]; exact h)
def z_pp (T : Nat → Int32) (m : Nat) (P : Nat → Int32) (Z : ZS) : Nat → (Nat → Int32) × ZS
  | 0 => (P, Z)
  | k + 1 => (upd (z_pp T m P Z k).1 k (znum (z_pp T m P Z k).2), z_pn T m (z_pp T m P Z k).2 0 99)
theorem z_pp_s (T : Nat → Int32) (m : Nat) (P : Nat → Int32) (Z : ZS) (k : Nat) : z_pp T m P Z (k + 1) = (upd (z_pp T m P Z k).1 k (znum (z_pp T m P Z k).2), z_pn T m (z_pp T m P Z k).2 0 99) := rfl
theorem z_pp_ok {T : Nat → Int32} {m : Nat} {P : Nat → Int32} {Z : ZS} (h : zpos Z ≤ m) : ∀ k, zpos (z_pp T m P Z k).2 ≤ m
  | 0 => h
  | k + 1 => z_pn_ok (z_pp_ok h k)
theorem z_pp_ec {T : Nat → Int32} {m : Nat} {P : Nat → Int32} {Z : ZS} (h : ¬ zec Z = 0) : ∀ k, (z_pp T m P Z k).2 = Z
  | 0 => rfl
  | k + 1 => by
    rw [z_pp_s]
    show z_pn T m (z_pp T m P Z k).2 0 99 = Z
    rw [z_pp_ec h k]
    exact z_pn_ec h
set_option maxRecDepth 100000 in
set_option maxHeartbeats 4000000 in
theorem cs_require {K : KX} {n : Nat} {h : MH} {h0 : MH} {m : Nat} {M : MS} {Z : ZS} (x : Ms h0 m (tkS M Z) h) {v code : Int32} {b : Bool} (hv : v = bI b) : Con K mX11_require [.ref m, .int v, .int code] 0 0 n h (RetP (none) n (Ms h0 m (tkS M (z_req Z b code)))) := by
  refine Con.of (by decide +kernel) (Nat.le_of_ble_eq_true rfl) ?_
  refine mj_iload_n 1 dX11_require_0 rfl ?_
  refine mj_if_ne 24 dX11_require_1 (by decide) (fun c_1 => ?_) (fun c_1 => ?_)
  · have y1 : b = true := by rw [hv] at c_1; exact bI_n0.mp c_1
    exact mj_vret dX11_require_24 rfl (Nat.le_of_ble_eq_true rfl) (Nat.le_of_ble_eq_true rfl) ⟨rfl, rfl, (by unfold z_req; rw [if_neg (fun z => absurd (y1.symm.trans z.1) (by decide))]; exact x)⟩
  · have y1 : b = false := by rw [hv] at c_1; exact bI_0.mp c_1
    refine mj_aload_n 0 dX11_require_4 rfl ?_
    refine mS_gec dX11_require_5 fgX11_322 x ?_
    refine mj_eq (y := zec Z) rfl ?_
    refine mj_if_ne 24 dX11_require_8 (by decide) (fun c_8 => ?_) (fun c_8 => ?_)
    · exact mj_vret dX11_require_24 rfl (Nat.le_of_ble_eq_true rfl) (Nat.le_of_ble_eq_true rfl) ⟨rfl, rfl, (by unfold z_req; rw [if_neg (fun z => c_8 z.2)]; exact x)⟩
    · refine mj_aload_n 0 dX11_require_11 rfl ?_
      refine mj_iload_n 2 dX11_require_12 rfl ?_
      refine mS_pec dX11_require_13 fgX11_322 x (fun h x => ?_)
      rw [tkS_ec'] at x
      refine mj_aload_n 0 dX11_require_16 rfl ?_
      refine mj_aload_n 0 dX11_require_17 rfl ?_
      refine mS_gtst dX11_require_18 fgX11_286 x ?_
      refine mj_eq (y := nI (ztst Z)) rfl ?_
      refine mS_pep dX11_require_21 fgX11_54 x (fun h x => ?_)
      rw [tkS_ep'] at x
      exact mj_vret dX11_require_24 rfl (Nat.le_of_ble_eq_true rfl) (Nat.le_of_ble_eq_true rfl) ⟨rfl, rfl, (by unfold z_req; rw [if_pos ⟨y1, c_8⟩]; exact x)⟩
set_option maxRecDepth 100000 in
set_option maxHeartbeats 4000000 in
theorem cs_advance {K : KX} {n : Nat} {h : MH} {h0 : MH} {m : Nat} {M : MS} {Z : ZS} (x : Ms h0 m (tkS M Z) h) {t : Nat} (ht : gtl M = nI t) (h6 : t ≤ 600) (hp : zpos Z ≤ t) : Con K mX11_advance [.ref m] 0 0 n h (RetP (none) n (Ms h0 m (tkS M (z_adv (gtxt M) t Z)))) := by
  refine Con.of (by decide +kernel) (Nat.le_of_ble_eq_true rfl) ?_
  refine mj_aload_n 0 dX11_advance_0 rfl ?_
  refine mS_gec dX11_advance_1 fgX11_322 x ?_
  refine mj_eq (y := zec Z) rfl ?_
  refine mj_if_ne 11 dX11_advance_4 (by decide) (fun c_4 => ?_) (fun c_4 => ?_)
  · exact mj_vret dX11_advance_11 rfl (Nat.le_of_ble_eq_true rfl) (Nat.le_of_ble_eq_true rfl) ⟨rfl, rfl, (by unfold z_adv; rw [if_neg c_4]; exact x)⟩
  · refine mj_aload_n 0 dX11_advance_7 rfl ?_
    refine mS_cV0 x [] dX11_advance_8 cwX11_nextToken lkX11_325 rfl rfl rfl (cs_nextToken x ht h6 hp) ⟨Nat.le_of_ble_eq_true rfl, Nat.le_of_ble_eq_true rfl, Nat.le_of_ble_eq_true rfl, Nat.le_of_ble_eq_true rfl, Nat.le_of_ble_eq_true rfl⟩ (fun h x => ?_)
    exact mj_vret dX11_advance_11 rfl (Nat.le_of_ble_eq_true rfl) (Nat.le_of_ble_eq_true rfl) ⟨rfl, rfl, (by unfold z_adv; rw [if_pos c_4]; exact x)⟩
set_option maxRecDepth 100000 in
set_option maxHeartbeats 4000000 in
theorem cs_parseNumber {K : KX} {n : Nat} {h : MH} {h0 : MH} {m : Nat} {M : MS} {Z : ZS} (x : Ms h0 m (tkS M Z) h) {lo hi : Int32} {t : Nat} (ht : gtl M = nI t) (h6 : t ≤ 600) (hp : zpos Z ≤ t) : Con K mX11_parseNumber [.ref m, .int lo, .int hi] 0 0 n h (RetP (some (.int (znum Z))) n (Ms h0 m (tkS M (z_pn (gtxt M) t Z lo hi)))) := by
  refine Con.of (by decide +kernel) (Nat.le_of_ble_eq_true rfl) ?_
  refine mj_aload_n 0 dX11_parseNumber_0 rfl ?_
  refine mj_aload_n 0 dX11_parseNumber_1 rfl ?_
  refine mS_gtok dX11_parseNumber_2 fgX11_299 x ?_
  refine mj_eq (y := ztok Z) rfl ?_
  refine mj_iconst (v := 3) dX11_parseNumber_5 rfl ?_
  refine mj_icmp_ne 13 dX11_parseNumber_6 (by decide) (fun c_6 => ?_) (fun c_6 => ?_)
  · refine mj_iconst (v := 0) dX11_parseNumber_13 rfl ?_
    refine mj_iconst (v := 1) dX11_parseNumber_14 rfl ?_
    refine mS_cV0 x [_, _] dX11_parseNumber_15 cwX11_require lkX11_328 rfl rfl rfl (cs_require x (b := decide (ztok Z = 3)) (code := 1) (by first | (rw [decide_eq_true (show ztok Z = 3 from c_6)]; rfl) | (rw [decide_eq_false (show ¬ ztok Z = 3 from c_6)]; rfl))) ⟨Nat.le_of_ble_eq_true rfl, Nat.le_of_ble_eq_true rfl, Nat.le_of_ble_eq_true rfl, Nat.le_of_ble_eq_true rfl, Nat.le_of_ble_eq_true rfl⟩ (fun h x => ?_)
    refine mj_aload_n 0 dX11_parseNumber_18 rfl ?_
    refine mj_aload_n 0 dX11_parseNumber_19 rfl ?_
    refine mS_gnum dX11_parseNumber_20 fgX11_296 x ?_
    refine mj_eq (z_req_num Z (decide (ztok Z = 3)) 1) ?_
    refine mj_iload_n 1 dX11_parseNumber_23 rfl ?_
    refine mj_iload_n 2 dX11_parseNumber_24 rfl ?_
    refine mj_cS1 [_, _, _] dX11_parseNumber_25 cwX11_isBetween lkX11_64 rfl (cn_X11_isBetween _ _ _) ⟨Nat.le_of_ble_eq_true rfl, Nat.le_of_ble_eq_true rfl, Nat.le_of_ble_eq_true rfl, Nat.le_of_ble_eq_true rfl, Nat.le_of_ble_eq_true rfl⟩ (fun h' e' => ?_)
    subst h'
    refine mj_iconst (v := 2) dX11_parseNumber_28 rfl ?_
    refine mS_cV0 x [_, _] dX11_parseNumber_29 cwX11_require lkX11_328 rfl rfl rfl (cs_require x (b := b_in (znum Z) lo hi) (code := 2) rfl) ⟨Nat.le_of_ble_eq_true rfl, Nat.le_of_ble_eq_true rfl, Nat.le_of_ble_eq_true rfl, Nat.le_of_ble_eq_true rfl, Nat.le_of_ble_eq_true rfl⟩ (fun h x => ?_)
    refine mj_aload_n 0 dX11_parseNumber_32 rfl ?_
    refine mS_gnum dX11_parseNumber_33 fgX11_296 x ?_
    refine mj_eq ((z_req_num _ _ _).trans (z_req_num Z (decide (ztok Z = 3)) 1)) ?_
    refine mj_istore_n (ls' := [(3, _), (0, _), (1, _), (2, _)]) dX11_parseNumber_36 (Nat.le_of_ble_eq_true rfl) rfl ?_
    refine mj_aload_n 1 dX11_parseNumber_37 rfl ?_
    refine mS_cV0 x [] dX11_parseNumber_38 cwX11_advance lkX11_332 rfl rfl rfl (cs_advance x ht h6 (by rw [z_req_pos, z_req_pos]; exact hp)) ⟨Nat.le_of_ble_eq_true rfl, Nat.le_of_ble_eq_true rfl, Nat.le_of_ble_eq_true rfl, Nat.le_of_ble_eq_true rfl, Nat.le_of_ble_eq_true rfl⟩ (fun h x => ?_)
    refine mj_iload_n 0 dX11_parseNumber_41 rfl ?_
    exact mj_iret dX11_parseNumber_42 rfl (Nat.le_of_ble_eq_true rfl) (Nat.le_of_ble_eq_true rfl) ⟨rfl, rfl, x⟩
  · refine mj_iconst (v := 1) dX11_parseNumber_9 rfl ?_
    refine mj_goto 14 dX11_parseNumber_10 (by decide) ?_
    refine mj_iconst (v := 1) dX11_parseNumber_14 rfl ?_
    refine mS_cV0 x [_, _] dX11_parseNumber_15 cwX11_require lkX11_328 rfl rfl rfl (cs_require x (b := decide (ztok Z = 3)) (code := 1) (by first | (rw [decide_eq_true (show ztok Z = 3 from c_6)]; rfl) | (rw [decide_eq_false (show ¬ ztok Z = 3 from c_6)]; rfl))) ⟨Nat.le_of_ble_eq_true rfl, Nat.le_of_ble_eq_true rfl, Nat.le_of_ble_eq_true rfl, Nat.le_of_ble_eq_true rfl, Nat.le_of_ble_eq_true rfl⟩ (fun h x => ?_)
    refine mj_aload_n 0 dX11_parseNumber_18 rfl ?_
    refine mj_aload_n 0 dX11_parseNumber_19 rfl ?_
    refine mS_gnum dX11_parseNumber_20 fgX11_296 x ?_
    refine mj_eq (z_req_num Z (decide (ztok Z = 3)) 1) ?_
    refine mj_iload_n 1 dX11_parseNumber_23 rfl ?_
    refine mj_iload_n 2 dX11_parseNumber_24 rfl ?_
    refine mj_cS1 [_, _, _] dX11_parseNumber_25 cwX11_isBetween lkX11_64 rfl (cn_X11_isBetween _ _ _) ⟨Nat.le_of_ble_eq_true rfl, Nat.le_of_ble_eq_true rfl, Nat.le_of_ble_eq_true rfl, Nat.le_of_ble_eq_true rfl, Nat.le_of_ble_eq_true rfl⟩ (fun h' e' => ?_)
    subst h'
    refine mj_iconst (v := 2) dX11_parseNumber_28 rfl ?_
    refine mS_cV0 x [_, _] dX11_parseNumber_29 cwX11_require lkX11_328 rfl rfl rfl (cs_require x (b := b_in (znum Z) lo hi) (code := 2) rfl) ⟨Nat.le_of_ble_eq_true rfl, Nat.le_of_ble_eq_true rfl, Nat.le_of_ble_eq_true rfl, Nat.le_of_ble_eq_true rfl, Nat.le_of_ble_eq_true rfl⟩ (fun h x => ?_)
    refine mj_aload_n 0 dX11_parseNumber_32 rfl ?_
    refine mS_gnum dX11_parseNumber_33 fgX11_296 x ?_
    refine mj_eq ((z_req_num _ _ _).trans (z_req_num Z (decide (ztok Z = 3)) 1)) ?_
    refine mj_istore_n (ls' := [(3, _), (0, _), (1, _), (2, _)]) dX11_parseNumber_36 (Nat.le_of_ble_eq_true rfl) rfl ?_
    refine mj_aload_n 1 dX11_parseNumber_37 rfl ?_
    refine mS_cV0 x [] dX11_parseNumber_38 cwX11_advance lkX11_332 rfl rfl rfl (cs_advance x ht h6 (by rw [z_req_pos, z_req_pos]; exact hp)) ⟨Nat.le_of_ble_eq_true rfl, Nat.le_of_ble_eq_true rfl, Nat.le_of_ble_eq_true rfl, Nat.le_of_ble_eq_true rfl, Nat.le_of_ble_eq_true rfl⟩ (fun h x => ?_)
    refine mj_iload_n 0 dX11_parseNumber_41 rfl ?_
    exact mj_iret dX11_parseNumber_42 rfl (Nat.le_of_ble_eq_true rfl) (Nat.le_of_ble_eq_true rfl) ⟨rfl, rfl, x⟩
theorem splc_ss (M : MS) (S S' : Nat → Int32) : splc (splc M S) S' = splc M S' := by
  show (_, _, vf_upd (vf_upd (mA M) 15 S) 15 S', _) = (_, _, vf_upd (mA M) 15 S', _)
  rw [vf_ss]
  rfl
theorem splc_id (M : MS) : splc M (gplc M) = M := by
  show (_, _, vf_upd (mA M) 15 (mA M 15), _) = M
  rw [vf_id]
theorem tkS_plc (M : MS) (Z : ZS) (P : Nat → Int32) : splc (tkS M Z) P = tkS (splc M P) Z := rfl
theorem tkS_brd (M : MS) (Z : ZS) (P : Nat → Int32) : sbrd (tkS M Z) P = tkS (sbrd M P) Z := rfl
set_option maxRecDepth 100000 in
set_option maxHeartbeats 4000000 in
theorem cs_parsePlaces {K : KX} {n : Nat} {h : MH} {h0 : MH} {m : Nat} {M : MS} {Z : ZS} (x : Ms h0 m (tkS M Z) h) {t : Nat} (ht : gtl M = nI t) (h6 : t ≤ 600) (hp : zpos Z ≤ t) : Con K mX11_parsePlaces [.ref m] 0 0 n h (RetP none n (Ms h0 m (tkS (splc M (z_pp (gtxt M) t (gplc M) Z 4).1) (z_pp (gtxt M) t (gplc M) Z 4).2))) := by
  refine Con.of (by decide +kernel) (Nat.le_of_ble_eq_true rfl) ?_
  have loop : ∀ (f : Nat) (k : Nat) (h1 : MH), k + f = 4 → Ms h0 m (tkS (splc M (z_pp (gtxt M) t (gplc M) Z k).1) (z_pp (gtxt M) t (gplc M) Z k).2) h1 → GG (K, mX11_parsePlaces, 0, 0, RetP none n (Ms h0 m (tkS (splc M (z_pp (gtxt M) t (gplc M) Z 4).1) (z_pp (gtxt M) t (gplc M) Z 4).2))) 0 0 2 [(1, .int (nI k)), (0, .ref m)] [] n h1 := by
    intro f
    induction f with
    | zero =>
      intro k h1 hk x
      obtain rfl : k = 4 := by omega
      refine mj_iload_n 0 dX11_parsePlaces_2 rfl ?_
      refine mj_iconst (v := 4) dX11_parsePlaces_3 rfl ?_
      refine mj_icmp_ge 26 dX11_parsePlaces_4 (by decide) (fun c_4 => ?_) (fun c_4 => ?_)
      · exact mj_vret dX11_parsePlaces_26 rfl (Nat.le_of_ble_eq_true rfl) (Nat.le_of_ble_eq_true rfl) ⟨rfl, rfl, x⟩
      · exact absurd (show nI 4 ≤ nI 4 from Int32.le_refl _) c_4
    | succ f ih =>
      intro k h1 hk x
      refine mj_iload_n 0 dX11_parsePlaces_2 rfl ?_
      refine mj_iconst (v := 4) dX11_parsePlaces_3 rfl ?_
      refine mj_icmp_ge 26 dX11_parsePlaces_4 (by decide) (fun c_4 => ?_) (fun c_4 => ?_)
      · exact absurd (show nI 4 ≤ nI k from c_4) (nI_ge (by omega) (by omega))
      · refine mj_aload_n 1 dX11_parsePlaces_7 rfl ?_
        refine mS_gplc dX11_parsePlaces_8 fgX11_58 x ?_
        refine mj_iload_n 0 dX11_parsePlaces_11 rfl ?_
        refine mj_aload_n 1 dX11_parsePlaces_12 rfl ?_
        refine mj_iconst (v := 0) dX11_parsePlaces_13 rfl ?_
        refine mj_bipush (v := (99)) dX11_parsePlaces_14 rfl ?_
        refine mS_cV1 x [_, _] dX11_parsePlaces_16 cwX11_parseNumber lkX11_335 rfl rfl rfl (cs_parseNumber (M := splc M (z_pp (gtxt M) t (gplc M) Z k).1) (Z := (z_pp (gtxt M) t (gplc M) Z k).2) x (t := t) ht h6 (z_pp_ok hp k)) ⟨Nat.le_of_ble_eq_true rfl, Nat.le_of_ble_eq_true rfl, Nat.le_of_ble_eq_true rfl, Nat.le_of_ble_eq_true rfl, Nat.le_of_ble_eq_true rfl⟩ (fun h x => ?_)
        refine mS_aplc x (ixn (by omega)) (by first | assumption | omega | decide) dX11_parsePlaces_19 (fun h x => ?_)
        rw [tkS_plc, splc_ss] at x
        refine mj_iinc (ls' := [(1, _), (0, _)]) 0 dX11_parsePlaces_20 rfl (nI_s _) (Nat.le_of_ble_eq_true rfl) rfl ?_
        refine mj_goto 2 dX11_parsePlaces_23 (by decide) ?_
        exact mj_ls [0, 1] rfl (ih (k + 1) _ (by omega) x)
  refine mj_iconst (v := 0) dX11_parsePlaces_0 rfl ?_
  refine mj_istore_n (ls' := [(1, _), (0, _)]) dX11_parsePlaces_1 (Nat.le_of_ble_eq_true rfl) rfl ?_
  exact mj_ls [0, 1] rfl (loop 4 0 _ (by omega) (by rw [show (z_pp (gtxt M) t (gplc M) Z 0).1 = gplc M from rfl, splc_id]; exact x))
def r_pack (q : Nat) : Nat → Int64
  | 0 => 0
  | k + 1 => 27 * r_pack q k + ((swB.getD q []).getD k 0).toInt64 - 96
def z_isw (Z : ZS) (q : Nat) : Bool := decide (ztok Z = 2) && (decide (zlet Z = swL.getD q 0) && decide (zwrd Z = r_pack q (swL.getD q 0)))
set_option maxRecDepth 100000 in
set_option maxHeartbeats 4000000 in
theorem cs_isWord {K : KX} {n : Nat} {h : MH} {h0 : MH} {m : Nat} {M : MS} {Z : ZS} (x : Ms h0 m (tkS M Z) h) {q : Nat} (hq : q < 3) (hl : zlet Z ≤ 1000) : Con K mX11_isWord [.ref m, .ref (ks K q)] 0 0 n h (RetP (some (.int (bI (z_isw Z q)))) n (Ms h0 m (tkS M Z))) := by
  refine Con.of (by decide +kernel) (Nat.le_of_ble_eq_true rfl) ?_
  have hs := sw_le q hq
  have loop : ∀ (f : Nat) (k : Nat), k + f = swL.getD q 0 → ztok Z = 2 → zlet Z = swL.getD q 0 → GG (K, mX11_isWord, 0, 0, RetP (some (.int (bI (z_isw Z q)))) n (Ms h0 m (tkS M Z))) 0 0 26 [(4, .int (nI k)), (2, .long (r_pack q k)), (0, .ref m), (1, .ref (ks K q))] [] n h := by
    intro f
    induction f with
    | zero =>
      intro k hk y0 y1
      obtain rfl : k = swL.getD q 0 := by omega
      refine mj_iload 0 dX11_isWord_26 rfl ?_
      refine mj_aload_n 3 dX11_isWord_28 rfl ?_
      refine mj_cK1 [] dX11_isWord_29 cwJ0_length_8abf5 lkX11_312 hq rfl rfl rfl (cn_J0_length_8abf5 hq) ⟨Nat.le_of_ble_eq_true rfl, Nat.le_of_ble_eq_true rfl, Nat.le_of_ble_eq_true rfl, Nat.le_of_ble_eq_true rfl, Nat.le_of_ble_eq_true rfl⟩ (fun h' e' => ?_)
      subst e'
      refine mj_icmp_ge 59 dX11_isWord_32 (by decide) (fun c_32 => ?_) (fun c_32 => ?_)
      · refine mj_aload_n 2 dX11_isWord_59 rfl ?_
        refine mS_gwrd dX11_isWord_60 fgX11_292 x ?_
        refine mj_eql (y := zwrd Z) rfl ?_
        refine mj_lload_n 1 dX11_isWord_63 rfl ?_
        refine mj_lcmp dX11_isWord_64 ?_
        refine mj_if_ne 72 dX11_isWord_65 (by decide) (fun c_65 => ?_) (fun c_65 => ?_)
        · have y2 : ¬ zwrd Z = r_pack q (swL.getD q 0) := fun z => c_65 (lgc_eq.mpr z)
          refine mj_iconst (v := 0) dX11_isWord_72 rfl ?_
          exact mj_zret dX11_isWord_73 rfl (by first | exact Or.inl rfl | exact Or.inr rfl) (Nat.le_of_ble_eq_true rfl) (Nat.le_of_ble_eq_true rfl) ⟨(by unfold z_isw; rw [decide_eq_true y0, decide_eq_true y1]; first | (rw [decide_eq_true y2]; rfl) | (rw [decide_eq_false y2]; rfl)), rfl, x⟩
        · have y2 : zwrd Z = r_pack q (swL.getD q 0) := lgc_eq.mp c_65
          refine mj_iconst (v := 1) dX11_isWord_68 rfl ?_
          refine mj_goto 73 dX11_isWord_69 (by decide) ?_
          exact mj_zret dX11_isWord_73 rfl (by first | exact Or.inl rfl | exact Or.inr rfl) (Nat.le_of_ble_eq_true rfl) (Nat.le_of_ble_eq_true rfl) ⟨(by unfold z_isw; rw [decide_eq_true y0, decide_eq_true y1]; first | (rw [decide_eq_true y2]; rfl) | (rw [decide_eq_false y2]; rfl)), rfl, x⟩
      · exact absurd (nI_le (by omega) (by omega)) c_32
    | succ f ih =>
      intro k hk y0 y1
      refine mj_iload 0 dX11_isWord_26 rfl ?_
      refine mj_aload_n 3 dX11_isWord_28 rfl ?_
      refine mj_cK1 [] dX11_isWord_29 cwJ0_length_8abf5 lkX11_312 hq rfl rfl rfl (cn_J0_length_8abf5 hq) ⟨Nat.le_of_ble_eq_true rfl, Nat.le_of_ble_eq_true rfl, Nat.le_of_ble_eq_true rfl, Nat.le_of_ble_eq_true rfl, Nat.le_of_ble_eq_true rfl⟩ (fun h' e' => ?_)
      subst e'
      refine mj_icmp_ge 59 dX11_isWord_32 (by decide) (fun c_32 => ?_) (fun c_32 => ?_)
      · exact absurd c_32 (nI_ge (by omega) (by omega))
      · refine mj_ldc2 dX11_isWord_35 ctX11_305 ?_
        refine mj_lload_n 1 dX11_isWord_38 rfl ?_
        refine mj_lmul dX11_isWord_39 ?_
        refine mj_aload_n 3 dX11_isWord_40 rfl ?_
        refine mj_iload 0 dX11_isWord_41 rfl ?_
        refine mj_cK1 [_] dX11_isWord_43 cwJ0_charAt_5068e lkX11_318 hq rfl rfl rfl (cn_J0_charAt_5068e hq (j := k) (by omega)) ⟨Nat.le_of_ble_eq_true rfl, Nat.le_of_ble_eq_true rfl, Nat.le_of_ble_eq_true rfl, Nat.le_of_ble_eq_true rfl, Nat.le_of_ble_eq_true rfl⟩ (fun h' e' => ?_)
        subst e'
        refine mj_i2l dX11_isWord_46 rfl ?_
        refine mj_ladd dX11_isWord_47 ?_
        refine mj_ldc2 dX11_isWord_48 ctX11_307 ?_
        refine mj_lsub dX11_isWord_51 ?_
        refine mj_lstore_n (ls' := [(2, _), (4, _), (0, _), (1, _)]) dX11_isWord_52 (Nat.le_of_ble_eq_true rfl) rfl ?_
        refine mj_iinc (ls' := [(4, _), (2, _), (0, _), (1, _)]) 1 dX11_isWord_53 rfl (nI_s _) (Nat.le_of_ble_eq_true rfl) rfl ?_
        refine mj_goto 26 dX11_isWord_56 (by decide) ?_
        exact mj_ls [0, 1, 2, 3] rfl (ih (k + 1) (by omega) y0 y1)
  refine mj_aload_n 0 dX11_isWord_0 rfl ?_
  refine mS_gtok dX11_isWord_1 fgX11_299 x ?_
  refine mj_eq (y := ztok Z) rfl ?_
  refine mj_iconst (v := 2) dX11_isWord_4 rfl ?_
  refine mj_icmp_ne 19 dX11_isWord_5 (by decide) (fun c_5 => ?_) (fun c_5 => ?_)
  · refine mj_iconst (v := 0) dX11_isWord_19 rfl ?_
    exact mj_zret dX11_isWord_20 rfl (by first | exact Or.inl rfl | exact Or.inr rfl) (Nat.le_of_ble_eq_true rfl) (Nat.le_of_ble_eq_true rfl) ⟨(by unfold z_isw; first | (rw [decide_eq_false (show ¬ ztok Z = 2 from c_5)]; rfl) | (rw [decide_eq_false y1, Bool.false_and, Bool.and_false]; rfl)), rfl, x⟩
  · refine mj_aload_n 0 dX11_isWord_8 rfl ?_
    refine mS_glet dX11_isWord_9 fgX11_289 x ?_
    refine mj_eq (y := nI (zlet Z)) rfl ?_
    refine mj_aload_n 1 dX11_isWord_12 rfl ?_
    refine mj_cK1 [] dX11_isWord_13 cwJ0_length_8abf5 lkX11_312 hq rfl rfl rfl (cn_J0_length_8abf5 hq) ⟨Nat.le_of_ble_eq_true rfl, Nat.le_of_ble_eq_true rfl, Nat.le_of_ble_eq_true rfl, Nat.le_of_ble_eq_true rfl, Nat.le_of_ble_eq_true rfl⟩ (fun h' e' => ?_)
    subst e'
    refine mj_icmp_eq 21 dX11_isWord_16 (by decide) (fun c_16 => ?_) (fun c_16 => ?_)
    · have y1 : zlet Z = swL.getD q 0 := (nI_inj (by omega) (by omega)).mp c_16
      refine mj_lconst (v := 0) dX11_isWord_21 rfl ?_
      refine mj_lstore_n (ls' := [(2, _), (0, _), (1, _)]) dX11_isWord_22 (Nat.le_of_ble_eq_true rfl) rfl ?_
      refine mj_iconst (v := 0) dX11_isWord_23 rfl ?_
      refine mj_istore (ls' := [(4, _), (2, _), (0, _), (1, _)]) dX11_isWord_24 (Nat.le_of_ble_eq_true rfl) rfl ?_
      exact mj_ls [0, 1, 2, 3] rfl (loop (swL.getD q 0) 0 (by omega) c_5 y1)
    · have y1 : ¬ zlet Z = swL.getD q 0 := fun z => c_16 (by rw [z])
      refine mj_iconst (v := 0) dX11_isWord_19 rfl ?_
      exact mj_zret dX11_isWord_20 rfl (by first | exact Or.inl rfl | exact Or.inr rfl) (Nat.le_of_ble_eq_true rfl) (Nat.le_of_ble_eq_true rfl) ⟨(by unfold z_isw; first | (rw [decide_eq_false (show ¬ ztok Z = 2 from c_5)]; rfl) | (rw [decide_eq_false y1, Bool.false_and, Bool.and_false]; rfl)), rfl, x⟩
