theorem dJ6_bitCount_0f7a4_0 : decode cJ6_bitCount_0f7a4 0 = .ok (.iload_n 0, 1) := by decide +kernel
theorem dJ6_bitCount_0f7a4_1 : decode cJ6_bitCount_0f7a4 1 = .ok (.iload_n 0, 1) := by decide +kernel
theorem dJ6_bitCount_0f7a4_2 : decode cJ6_bitCount_0f7a4 2 = .ok (.iconst 1, 1) := by decide +kernel
theorem dJ6_bitCount_0f7a4_3 : decode cJ6_bitCount_0f7a4 3 = .ok (.iushr, 1) := by decide +kernel
theorem dJ6_bitCount_0f7a4_4 : decode cJ6_bitCount_0f7a4 4 = .ok (.ldc_w 265, 3) := by decide +kernel
theorem dJ6_bitCount_0f7a4_7 : decode cJ6_bitCount_0f7a4 7 = .ok (.iand, 1) := by decide +kernel
theorem dJ6_bitCount_0f7a4_8 : decode cJ6_bitCount_0f7a4 8 = .ok (.isub, 1) := by decide +kernel
theorem dJ6_bitCount_0f7a4_9 : decode cJ6_bitCount_0f7a4 9 = .ok (.istore_n 0, 1) := by decide +kernel
theorem dJ6_bitCount_0f7a4_10 : decode cJ6_bitCount_0f7a4 10 = .ok (.iload_n 0, 1) := by decide +kernel
theorem dJ6_bitCount_0f7a4_11 : decode cJ6_bitCount_0f7a4 11 = .ok (.ldc_w 266, 3) := by decide +kernel
theorem dJ6_bitCount_0f7a4_14 : decode cJ6_bitCount_0f7a4 14 = .ok (.iand, 1) := by decide +kernel
theorem dJ6_bitCount_0f7a4_15 : decode cJ6_bitCount_0f7a4 15 = .ok (.iload_n 0, 1) := by decide +kernel
theorem dJ6_bitCount_0f7a4_16 : decode cJ6_bitCount_0f7a4 16 = .ok (.iconst 2, 1) := by decide +kernel
theorem dJ6_bitCount_0f7a4_17 : decode cJ6_bitCount_0f7a4 17 = .ok (.iushr, 1) := by decide +kernel
theorem dJ6_bitCount_0f7a4_18 : decode cJ6_bitCount_0f7a4 18 = .ok (.ldc_w 266, 3) := by decide +kernel
theorem dJ6_bitCount_0f7a4_21 : decode cJ6_bitCount_0f7a4 21 = .ok (.iand, 1) := by decide +kernel
theorem dJ6_bitCount_0f7a4_22 : decode cJ6_bitCount_0f7a4 22 = .ok (.iadd, 1) := by decide +kernel
theorem dJ6_bitCount_0f7a4_23 : decode cJ6_bitCount_0f7a4 23 = .ok (.istore_n 0, 1) := by decide +kernel
theorem dJ6_bitCount_0f7a4_24 : decode cJ6_bitCount_0f7a4 24 = .ok (.iload_n 0, 1) := by decide +kernel
theorem dJ6_bitCount_0f7a4_25 : decode cJ6_bitCount_0f7a4 25 = .ok (.iload_n 0, 1) := by decide +kernel
theorem dJ6_bitCount_0f7a4_26 : decode cJ6_bitCount_0f7a4 26 = .ok (.iconst 4, 1) := by decide +kernel
theorem dJ6_bitCount_0f7a4_27 : decode cJ6_bitCount_0f7a4 27 = .ok (.iushr, 1) := by decide +kernel
theorem dJ6_bitCount_0f7a4_28 : decode cJ6_bitCount_0f7a4 28 = .ok (.iadd, 1) := by decide +kernel
theorem dJ6_bitCount_0f7a4_29 : decode cJ6_bitCount_0f7a4 29 = .ok (.ldc_w 267, 3) := by decide +kernel
theorem dJ6_bitCount_0f7a4_32 : decode cJ6_bitCount_0f7a4 32 = .ok (.iand, 1) := by decide +kernel
theorem dJ6_bitCount_0f7a4_33 : decode cJ6_bitCount_0f7a4 33 = .ok (.istore_n 0, 1) := by decide +kernel
theorem dJ6_bitCount_0f7a4_34 : decode cJ6_bitCount_0f7a4 34 = .ok (.iload_n 0, 1) := by decide +kernel
theorem dJ6_bitCount_0f7a4_35 : decode cJ6_bitCount_0f7a4 35 = .ok (.iload_n 0, 1) := by decide +kernel
theorem dJ6_bitCount_0f7a4_36 : decode cJ6_bitCount_0f7a4 36 = .ok (.bipush 8, 2) := by decide +kernel
theorem dJ6_bitCount_0f7a4_38 : decode cJ6_bitCount_0f7a4 38 = .ok (.iushr, 1) := by decide +kernel
theorem dJ6_bitCount_0f7a4_39 : decode cJ6_bitCount_0f7a4 39 = .ok (.iadd, 1) := by decide +kernel
theorem dJ6_bitCount_0f7a4_40 : decode cJ6_bitCount_0f7a4 40 = .ok (.istore_n 0, 1) := by decide +kernel
theorem dJ6_bitCount_0f7a4_41 : decode cJ6_bitCount_0f7a4 41 = .ok (.iload_n 0, 1) := by decide +kernel
theorem dJ6_bitCount_0f7a4_42 : decode cJ6_bitCount_0f7a4 42 = .ok (.iload_n 0, 1) := by decide +kernel
theorem dJ6_bitCount_0f7a4_43 : decode cJ6_bitCount_0f7a4 43 = .ok (.bipush 16, 2) := by decide +kernel
theorem dJ6_bitCount_0f7a4_45 : decode cJ6_bitCount_0f7a4 45 = .ok (.iushr, 1) := by decide +kernel
theorem dJ6_bitCount_0f7a4_46 : decode cJ6_bitCount_0f7a4 46 = .ok (.iadd, 1) := by decide +kernel
theorem dJ6_bitCount_0f7a4_47 : decode cJ6_bitCount_0f7a4 47 = .ok (.istore_n 0, 1) := by decide +kernel
theorem dJ6_bitCount_0f7a4_48 : decode cJ6_bitCount_0f7a4 48 = .ok (.iload_n 0, 1) := by decide +kernel
theorem dJ6_bitCount_0f7a4_49 : decode cJ6_bitCount_0f7a4 49 = .ok (.bipush 63, 2) := by decide +kernel
theorem dJ6_bitCount_0f7a4_51 : decode cJ6_bitCount_0f7a4 51 = .ok (.iand, 1) := by decide +kernel
theorem dJ6_bitCount_0f7a4_52 : decode cJ6_bitCount_0f7a4 52 = .ok (.ireturn, 1) := by decide +kernel
theorem dJ7_fill_53178_0 : decode cJ7_fill_53178 0 = .ok (.iconst 0, 1) := by decide +kernel
theorem dJ7_fill_53178_1 : decode cJ7_fill_53178 1 = .ok (.istore_n 2, 1) := by decide +kernel
theorem dJ7_fill_53178_2 : decode cJ7_fill_53178 2 = .ok (.aload_n 0, 1) := by decide +kernel
theorem dJ7_fill_53178_3 : decode cJ7_fill_53178 3 = .ok (.arraylength, 1) := by decide +kernel
theorem dJ7_fill_53178_4 : decode cJ7_fill_53178 4 = .ok (.istore_n 3, 1) := by decide +kernel
theorem dJ7_fill_53178_5 : decode cJ7_fill_53178 5 = .ok (.iload_n 2, 1) := by decide +kernel
theorem dJ7_fill_53178_6 : decode cJ7_fill_53178 6 = .ok (.iload_n 3, 1) := by decide +kernel
theorem dJ7_fill_53178_7 : decode cJ7_fill_53178 7 = .ok (.if_icmp .ge 13, 3) := by decide +kernel
theorem dJ7_fill_53178_10 : decode cJ7_fill_53178 10 = .ok (.aload_n 0, 1) := by decide +kernel
theorem dJ7_fill_53178_11 : decode cJ7_fill_53178 11 = .ok (.iload_n 2, 1) := by decide +kernel
theorem dJ7_fill_53178_12 : decode cJ7_fill_53178 12 = .ok (.iload_n 1, 1) := by decide +kernel
theorem dJ7_fill_53178_13 : decode cJ7_fill_53178 13 = .ok (.iastore, 1) := by decide +kernel
theorem dJ7_fill_53178_14 : decode cJ7_fill_53178 14 = .ok (.iinc 2 1, 3) := by decide +kernel
theorem dJ7_fill_53178_17 : decode cJ7_fill_53178 17 = .ok (.goto (-12), 3) := by decide +kernel
theorem dJ7_fill_53178_20 : decode cJ7_fill_53178 20 = .ok (.return_, 1) := by decide +kernel
/-- an array's cell may be said otherwise beyond its end -/
theorem RelH.extI {K : KX} {n : Nat} {h : MH} {H : Heap} (R : RelH K n h H) {a N : Nat} {f g : Nat → Int32} (hh : h a = some (cI N f)) (e : ∀ j, j < N → f j = g j) : RelH K n (mup h a (cI N g)) H := by
  refine ⟨R.1, R.2.1, fun b c hb => ?_⟩
  by_cases q : b = a
  · subst q
    rw [mup_s] at hb
    cases hb
    have h1 := R.2.2 b _ hh
    refine ⟨h1.1, ?_⟩
    have h2 : H[b]? = some (arrV (kcy K 0) N (fun j => .int (f j))) := h1.2
    show H[b]? = some (arrV (kcy K 0) N (fun j => .int (g j)))
    rw [h2]
    unfold arrV
    congr 2
    apply congrArg
    funext j
    show Value.int (f j.val) = Value.int (g j.val)
    rw [e j.val j.isLt]
  · rw [mup_n _ _ q] at hb
    exact R.2.2 b c hb
theorem mj_extI {Γ : GX} {k sl pc n : Nat} {ls : List (Nat × Value)} {st : List Value} {h : MH} {a N : Nat} {f : Nat → Int32} (g : Nat → Int32) (hh : h a = some (cI N f)) (e : ∀ j, j < N → f j = g j) (G : GG Γ k sl pc ls st n (mup h a (cI N g))) : GG Γ k sl pc ls st n h := by
  intro p e' s m args below meth c H locs lsr C S R L
  exact G p e' s m args below meth c H locs lsr C S (R.extI hh e) L
theorem mup_mup (h : MH) (a : Nat) (c c' : MC) : mup (mup h a c) a c' = mup h a c' := by
  funext q
  by_cases e : q = a
  · rw [e, mup_s, mup_s]
  · rw [mup_n _ _ e, mup_n _ _ e, mup_n _ _ e]
def i_pop1 (v : Int32) : Int32 := v - (i_ushr v 1 &&& 1431655765)
def i_pop2 (v : Int32) : Int32 := (v &&& 858993459) + (i_ushr v 2 &&& 858993459)
def i_pop3 (v : Int32) : Int32 := (v + i_ushr v 4) &&& 252645135
def i_pop4 (v : Int32) : Int32 := v + i_ushr v 8
def i_pop5 (v : Int32) : Int32 := v + i_ushr v 16
def i_pop (v : Int32) : Int32 := i_pop5 (i_pop4 (i_pop3 (i_pop2 (i_pop1 v)))) &&& 63
def fil (f : Nat → Int32) (v : Int32) (k : Nat) : Nat → Int32 := fun j => if j < k then v else f j
theorem fil_go (f : Nat → Int32) (v : Int32) (k : Nat) : upd (fil f v k) k v = fil f v (k + 1) := by
  funext j
  unfold upd fil
  by_cases e : j = k
  · rw [if_pos e, if_pos (by omega)]
  · rw [if_neg e]
    by_cases h : j < k
    · rw [if_pos h, if_pos (by omega)]
    · rw [if_neg h, if_neg (by omega)]
set_option maxRecDepth 100000 in
set_option maxHeartbeats 4000000 in
theorem cn_J6_bitCount_0f7a4 {K : KX} {n : Nat} {h : MH} {v : Int32} : Con K mJ6_bitCount_0f7a4 [.int v] 0 0 n h (Ret (some (.int (i_pop v))) n h) := by
  refine Con.of (by decide +kernel) (Nat.le_of_ble_eq_true rfl) ?_
  refine mj_iload_n 0 dJ6_bitCount_0f7a4_0 rfl ?_
  refine mj_iload_n 0 dJ6_bitCount_0f7a4_1 rfl ?_
  refine mj_iconst (v := 1) dJ6_bitCount_0f7a4_2 rfl ?_
  refine mj_iushr dJ6_bitCount_0f7a4_3 rfl ?_
  refine mj_ldc_w dJ6_bitCount_0f7a4_4 ctJ6_265 ?_
  refine mj_iand dJ6_bitCount_0f7a4_7 ?_
  refine mj_isub dJ6_bitCount_0f7a4_8 ?_
  refine mj_istore_n (ls' := [(0, _)]) dJ6_bitCount_0f7a4_9 (Nat.le_of_ble_eq_true rfl) rfl ?_
  refine mj_iload_n 0 dJ6_bitCount_0f7a4_10 rfl ?_
  refine mj_ldc_w dJ6_bitCount_0f7a4_11 ctJ6_266 ?_
  refine mj_iand dJ6_bitCount_0f7a4_14 ?_
  refine mj_iload_n 0 dJ6_bitCount_0f7a4_15 rfl ?_
  refine mj_iconst (v := 2) dJ6_bitCount_0f7a4_16 rfl ?_
  refine mj_iushr dJ6_bitCount_0f7a4_17 rfl ?_
  refine mj_ldc_w dJ6_bitCount_0f7a4_18 ctJ6_266 ?_
  refine mj_iand dJ6_bitCount_0f7a4_21 ?_
  refine mj_iadd dJ6_bitCount_0f7a4_22 ?_
  refine mj_istore_n (ls' := [(0, _)]) dJ6_bitCount_0f7a4_23 (Nat.le_of_ble_eq_true rfl) rfl ?_
  refine mj_iload_n 0 dJ6_bitCount_0f7a4_24 rfl ?_
  refine mj_iload_n 0 dJ6_bitCount_0f7a4_25 rfl ?_
  refine mj_iconst (v := 4) dJ6_bitCount_0f7a4_26 rfl ?_
  refine mj_iushr dJ6_bitCount_0f7a4_27 rfl ?_
  refine mj_iadd dJ6_bitCount_0f7a4_28 ?_
  refine mj_ldc_w dJ6_bitCount_0f7a4_29 ctJ6_267 ?_
  refine mj_iand dJ6_bitCount_0f7a4_32 ?_
  refine mj_istore_n (ls' := [(0, _)]) dJ6_bitCount_0f7a4_33 (Nat.le_of_ble_eq_true rfl) rfl ?_
  refine mj_iload_n 0 dJ6_bitCount_0f7a4_34 rfl ?_
  refine mj_iload_n 0 dJ6_bitCount_0f7a4_35 rfl ?_
  refine mj_bipush (v := (8)) dJ6_bitCount_0f7a4_36 rfl ?_
  refine mj_iushr dJ6_bitCount_0f7a4_38 rfl ?_
  refine mj_iadd dJ6_bitCount_0f7a4_39 ?_
  refine mj_istore_n (ls' := [(0, _)]) dJ6_bitCount_0f7a4_40 (Nat.le_of_ble_eq_true rfl) rfl ?_
  refine mj_iload_n 0 dJ6_bitCount_0f7a4_41 rfl ?_
  refine mj_iload_n 0 dJ6_bitCount_0f7a4_42 rfl ?_
  refine mj_bipush (v := (16)) dJ6_bitCount_0f7a4_43 rfl ?_
  refine mj_iushr dJ6_bitCount_0f7a4_45 rfl ?_
  refine mj_iadd dJ6_bitCount_0f7a4_46 ?_
  refine mj_istore_n (ls' := [(0, _)]) dJ6_bitCount_0f7a4_47 (Nat.le_of_ble_eq_true rfl) rfl ?_
  refine mj_iload_n 0 dJ6_bitCount_0f7a4_48 rfl ?_
  refine mj_bipush (v := (63)) dJ6_bitCount_0f7a4_49 rfl ?_
  refine mj_iand dJ6_bitCount_0f7a4_51 ?_
  exact mj_iret dJ6_bitCount_0f7a4_52 rfl (Nat.le_of_ble_eq_true rfl) (Nat.le_of_ble_eq_true rfl) ⟨rfl, rfl, rfl⟩
set_option maxRecDepth 100000 in
set_option maxHeartbeats 4000000 in
theorem cn_J7_fill_53178 {K : KX} {n : Nat} {h : MH} {a N : Nat} {f : Nat → Int32} {v : Int32} (hh : h a = some (cI N f)) (hN : N < 60000) : Con K mJ7_fill_53178 [.ref a, .int v] 0 0 n h (RetP none n (fun h' => h' = mup h a (cI N (fun _ => v)))) := by
  refine Con.of (by decide +kernel) (Nat.le_of_ble_eq_true rfl) ?_
  have loop : ∀ (f' : Nat) (k : Nat) (h1 : MH), k + f' = N → h1 = mup h a (cI N (fil f v k)) → GG (K, mJ7_fill_53178, 0, 0, RetP none n (fun h' => h' = mup h a (cI N (fun _ => v)))) 0 0 5 [(2, .int (nI k)), (3, .int (nI N)), (0, .ref a), (1, .int v)] [] n h1 := by
    intro f2
    induction f2 with
    | zero =>
      intro k h1 hk e1
      subst e1
      refine mj_iload_n 0 dJ7_fill_53178_5 rfl ?_
      refine mj_iload_n 1 dJ7_fill_53178_6 rfl ?_
      refine mj_icmp_ge 20 dJ7_fill_53178_7 (by decide) (fun c_7 => ?_) (fun c_7 => ?_)
      · refine mj_extI (fun _ => v) (mup_s _ _ _) (fun j hj => if_pos (by omega)) ?_
        rw [mup_mup]
        exact mj_vret dJ7_fill_53178_20 rfl (Nat.le_of_ble_eq_true rfl) (Nat.le_of_ble_eq_true rfl) ⟨rfl, rfl, rfl⟩
      · exact absurd (nI_le (by omega) (by omega)) c_7
    | succ f ih =>
      intro k h1 hk e1
      subst e1
      refine mj_iload_n 0 dJ7_fill_53178_5 rfl ?_
      refine mj_iload_n 1 dJ7_fill_53178_6 rfl ?_
      refine mj_icmp_ge 20 dJ7_fill_53178_7 (by decide) (fun c_7 => ?_) (fun c_7 => ?_)
      · exact absurd c_7 (nI_ge (by omega) (by omega))
      · refine mj_aload_n 2 dJ7_fill_53178_10 rfl ?_
        refine mj_iload_n 0 dJ7_fill_53178_11 rfl ?_
        refine mj_iload_n 3 dJ7_fill_53178_12 rfl ?_
        refine mj_iast (by repeat (first | assumption | exact mup_s _ _ _ | rw [mup_n _ _ (by omega)])) (by first | assumption | rfl | exact ixn (by omega)) (by first | assumption | decide | omega) dJ7_fill_53178_13 ?_
        refine mj_iinc (ls' := [(2, _), (3, _), (0, _), (1, _)]) 0 dJ7_fill_53178_14 rfl (nI_s _) (Nat.le_of_ble_eq_true rfl) rfl ?_
        refine mj_goto 5 dJ7_fill_53178_17 (by decide) ?_
        exact mj_ls [0, 1, 2, 3] rfl (ih (k + 1) _ (by omega) (by rw [mup_mup, fil_go]))
  refine mj_iconst (v := 0) dJ7_fill_53178_0 rfl ?_
  refine mj_istore_n (ls' := [(2, _), (0, _), (1, _)]) dJ7_fill_53178_1 (Nat.le_of_ble_eq_true rfl) rfl ?_
  refine mj_aload_n 1 dJ7_fill_53178_2 rfl ?_
  refine mj_alen hh (show 0 < 7 by omega) rfl dJ7_fill_53178_3 ?_
  refine mj_istore_n (ls' := [(3, _), (2, _), (0, _), (1, _)]) dJ7_fill_53178_4 (Nat.le_of_ble_eq_true rfl) rfl ?_
  exact mj_ls [1, 0, 2, 3] rfl (loop N 0 h (by omega) (by rw [show fil f v 0 = f from rfl]; funext q; by_cases e : q = a; (rw [e, mup_s, hh]); (rw [mup_n _ _ e])))
