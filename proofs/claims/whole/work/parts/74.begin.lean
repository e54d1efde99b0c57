set_option maxRecDepth 100000 in
set_option maxHeartbeats 4000000 in
theorem lw_begin {K : KX} {b c L : Nat} {xs : Nat → Int32} {J : Nat → MH → Prop} (hL : L ≤ 3584) (HA : AllS K c (c + 176) (c + 192) J)
    (hJ : ∀ (h1 h3 : MH) (B : BS), BZ B → Cp h1 (c + 176) c (p_new B) → Md (mup h1 (c + 176) (cO 11 [.null, .null, .null, .null, .null, .null, .null, .int 0, .null, .int 0, .int 0, .int 0, .null, .int 0, .int 0, .int 0, .null, .null, .null, .null, .int 0, .null, .int 0, .int 0, .int 0, .int 0, .int 0, .int 0, .int 0, .int 0, .long 0, .null])) (c + 176) M0 h3 → J (c + 193) (mup h3 (c + 192) (cJ 1 (fun _ => 0)))) :
    GL (lawG K) (XSc K b L xs) 0 0 0 [(0, .ref b)] [] c (fun _ => none) := by
  refine ml_new (fs := [.null, .null, .null, .null, .null, .null, .null, .null, .null]) dL_law_0 nfL_8 (fun j hj => by match j, hj with | 0, _ => rfl | 1, _ => rfl | 2, _ => rfl | 3, _ => rfl | 4, _ => rfl | 5, _ => rfl | 6, _ => rfl | 7, _ => rfl | 8, _ => rfl | j + 9, h9 => exact absurd h9 (by omega)) (Nat.le_of_ble_eq_true rfl) (Nat.le_of_ble_eq_true rfl) ?_
  refine ml_dup dL_law_3 rfl ?_
  refine ml_cI0 [] dL_law_4 cwX10_init lkL_132 rfl rfl (cn_X10_init rfl (mup_s _ _ _)) ⟨Nat.le_of_ble_eq_true rfl, Nat.le_of_ble_eq_true rfl, Nat.le_of_ble_eq_true rfl, Nat.le_of_ble_eq_true rfl, Nat.le_of_ble_eq_true rfl⟩ (fun h1 q1 => ?_)
  obtain ⟨B, hB, hCp, -⟩ := q1
  refine ml_astore_n (ls' := [(1, _), (0, _)]) dL_law_7 (Nat.le_of_ble_eq_true rfl) rfl ?_
  refine ml_new (fs := [.null, .null, .null, .null, .null, .null, .null, .int 0, .null, .int 0, .int 0, .int 0, .null, .int 0, .int 0, .int 0, .null, .null, .null, .null, .int 0, .null, .int 0, .int 0, .int 0, .int 0, .int 0, .int 0, .int 0, .int 0, .long 0, .null]) dL_law_8 nfL_133 (fun j hj => by match j, hj with | 0, _ => rfl | 1, _ => rfl | 2, _ => rfl | 3, _ => rfl | 4, _ => rfl | 5, _ => rfl | 6, _ => rfl | 7, _ => rfl | 8, _ => rfl | 9, _ => rfl | 10, _ => rfl | 11, _ => rfl | 12, _ => rfl | 13, _ => rfl | 14, _ => rfl | 15, _ => rfl | 16, _ => rfl | 17, _ => rfl | 18, _ => rfl | 19, _ => rfl | 20, _ => rfl | 21, _ => rfl | 22, _ => rfl | 23, _ => rfl | 24, _ => rfl | 25, _ => rfl | 26, _ => rfl | 27, _ => rfl | 28, _ => rfl | 29, _ => rfl | 30, _ => rfl | 31, _ => rfl | j + 32, h9 => exact absurd h9 (by omega)) (Nat.le_of_ble_eq_true rfl) (Nat.le_of_ble_eq_true rfl) ?_
  refine ml_dup dL_law_11 rfl ?_
  refine ml_cI0 [] dL_law_12 cwX11_init lkL_135 rfl rfl (cn_X11_init rfl (mup_s _ _ _)) ⟨Nat.le_of_ble_eq_true rfl, Nat.le_of_ble_eq_true rfl, Nat.le_of_ble_eq_true rfl, Nat.le_of_ble_eq_true rfl, Nat.le_of_ble_eq_true rfl⟩ (fun h3 q3 => ?_)
  refine ml_astore_n (ls' := [(2, _), (1, _), (0, _)]) dL_law_15 (Nat.le_of_ble_eq_true rfl) rfl ?_
  refine ml_iconst (v := 1) dL_law_16 rfl ?_
  refine ml_newaJ (N := 1) dL_law_17 ac_long rfl (by omega) (Nat.le_of_ble_eq_true rfl) (Nat.le_of_ble_eq_true rfl) ?_
  refine ml_astore_n (ls' := [(3, _), (2, _), (1, _), (0, _)]) dL_law_19 (Nat.le_of_ble_eq_true rfl) rfl ?_
  refine ml_iconst (v := 0) dL_law_20 rfl ?_
  refine ml_istore (ls' := [(4, _), (3, _), (2, _), (1, _), (0, _)]) dL_law_21 (Nat.le_of_ble_eq_true rfl) rfl ?_
  refine ml_ls [4, 3, 2, 1, 0] rfl ?_
  exact lw_loop hL HA (L / 7 + 1) 0 _ _ _ _ (by omega) (by omega) (Nat.le_of_ble_eq_true rfl) (Nat.le_of_ble_eq_true rfl) (hJ h1 h3 B hB hCp q3)
