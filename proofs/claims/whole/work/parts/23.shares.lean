-- SHARES: object at s, ofRider s + 1, weight s + 2, fraction s + 3
abbrev VS : Type := (Nat → Int32) × (Nat → Int32) × (Nat → Int32) × Int32
abbrev vo (V : VS) : Nat → Int32 := V.1
abbrev vw (V : VS) : Nat → Int32 := V.2.1
abbrev vf (V : VS) : Nat → Int32 := V.2.2.1
abbrev vd (V : VS) : Int32 := V.2.2.2
def Sh (h : MH) (s : Nat) (V : VS) : Prop := h s = some (cO 9 [.ref (s + 1), .ref (s + 2), .ref (s + 3), .int (vd V)]) ∧ h (s + 1) = some (cI 20 (vo V)) ∧ h (s + 2) = some (cI 20 (vw V)) ∧ h (s + 3) = some (cI 20 (vf V))
theorem Sh.at {h h' : MH} {s : Nat} {V : VS} (x : Sh h s V) (e : ∀ q, s ≤ q → q < s + 4 → h' q = h q) : Sh h' s V := ⟨(e _ (by omega) (by omega)).trans x.1, (e _ (by omega) (by omega)).trans x.2.1, (e _ (by omega) (by omega)).trans x.2.2.1, (e _ (by omega) (by omega)).trans x.2.2.2⟩
theorem Sh.off {h h' : MH} {s c d : Nat} {V : VS} (x : Sh h s V) (o : Off c d h h') (e : s + 4 ≤ c ∨ d ≤ s) : Sh h' s V := x.at fun q h1 h2 => o q (by omega)
def v_up (each l : Int32) : Int32 := if 0 < l then each + 1 else each
def v_bs (m each l0 : Int32) (O : Nat → Int32) : Nat → (Nat → Int32) × Int32
  | 0 => (O, l0)
  | k + 1 => if i_bit m (nI k) then (upd (upd (v_bs m each l0 O k).1 k 0) k (v_up each (v_bs m each l0 O k).2), (v_bs m each l0 O k).2 + -1) else (upd (v_bs m each l0 O k).1 k 0, (v_bs m each l0 O k).2)
def v_each (m base : Int32) : Int32 := base / (i_pop m + 1)
def v_left (m base : Int32) : Int32 := base - v_each m base * (i_pop m + 1)
def v_base (V : VS) (m base : Int32) : VS := ((v_bs m (v_each m base) (v_left m base + -1) (vo V) 20).1, vw V, vf V, v_up (v_each m base) (v_left m base))
def v_ws (m : Int32) (R : RS) (W : Nat → Int32) : Nat → (Nat → Int32) × Int32
  | 0 => (W, 0)
  | k + 1 => (upd (v_ws m R W k).1 k (if i_bit m (nI k) then r_marg R (nI k) else 0), (v_ws m R W k).2 + (if i_bit m (nI k) then r_marg R (nI k) else 0))
def v_w1 (m : Int32) (W : Nat → Int32) : Nat → Nat → Int32
  | 0 => W
  | k + 1 => upd (v_w1 m W k) k (if i_bit m (nI k) then 1 else 0)
def v_wgt (m : Int32) (R : RS) (W : Nat → Int32) : (Nat → Int32) × Int32 := if 0 < (v_ws m R W 20).2 then v_ws m R W 20 else (v_w1 m (v_ws m R W 20).1 20, i_pop m)
/-- the parts of the rest: shares, fractions, what is left -/
def v_rs (m rest sum : Int32) (W O F : Nat → Int32) : Nat → (Nat → Int32) × (Nat → Int32) × Int32
  | 0 => (O, F, rest)
  | k + 1 => (upd (v_rs m rest sum W O F k).1 k ((v_rs m rest sum W O F k).1 k + rest * W k / sum), upd (v_rs m rest sum W O F k).2.1 k (if i_bit m (nI k) then rest * W k - rest * W k / sum * sum else -1), (v_rs m rest sum W O F k).2.2 - rest * W k / sum)
def v_am (F : Nat → Int32) : Nat → Nat
  | 0 => 0
  | k + 1 => if F (v_am F k) < F (k + 1) then k + 1 else v_am F k
theorem v_am_le (F : Nat → Int32) : ∀ k, v_am F k ≤ k
  | 0 => Nat.le_refl 0
  | k + 1 => by
    have := v_am_le F k
    unfold v_am
    split <;> omega
def v_cent (s : (Nat → Int32) × (Nat → Int32)) : (Nat → Int32) × (Nat → Int32) := (upd s.1 (v_am s.2 19) (s.1 (v_am s.2 19) + 1), upd s.2 (v_am s.2 19) (-1))
def v_cents (s : (Nat → Int32) × (Nat → Int32)) : Nat → (Nat → Int32) × (Nat → Int32)
  | 0 => s
  | k + 1 => v_cent (v_cents s k)
def v_rest (V : VS) (m rest sum : Int32) : VS := if 0 < sum then ((v_cents ((v_rs m rest sum (vw V) (vo V) (vf V) 20).1, (v_rs m rest sum (vw V) (vo V) (vf V) 20).2.1) (v_rs m rest sum (vw V) (vo V) (vf V) 20).2.2.toInt.toNat).1, vw V, (v_cents ((v_rs m rest sum (vw V) (vo V) (vf V) 20).1, (v_rs m rest sum (vw V) (vo V) (vf V) 20).2.1) (v_rs m rest sum (vw V) (vo V) (vf V) 20).2.2.toInt.toNat).2, vd V) else V
def v_div (V : VS) (R : RS) (ra : Int32) : VS := v_rest (vo (v_base V (r_mask R) (r_dir R * ra)), (v_wgt (r_mask R) R (vw V)).1, vf V, vd (v_base V (r_mask R) (r_dir R * ra))) (r_mask R) (r_det R * ra) (v_wgt (r_mask R) R (vw V)).2
theorem i_pop_ok (m : Int32) : ¬ i_pop m + 1 = 0 := by
  unfold i_pop
  generalize i_pop5 _ = x
  intro h
  have h2 : (x &&& 63) = -1 := by
    have := congrArg (fun z => z - 1) h
    simp only [Int32.add_sub_cancel] at this
    exact this
  have h3 : (x &&& 63) &&& 64 = (-1 : Int32) &&& 64 := by rw [h2]
  rw [Int32.and_assoc, show (63 : Int32) &&& 64 = 0 by decide, Int32.and_zero] at h3
  exact absurd h3 (by decide)
set_option maxRecDepth 100000 in
set_option maxHeartbeats 4000000 in
theorem cn_X9_isIn {K : KX} {n : Nat} {h : MH} {m q : Int32} : Con K mX9_isIn [.int m, .int q] 0 0 n h (Ret (some (.int (bI (i_bit m q)))) n h) := by
  refine Con.of (by decide +kernel) (Nat.le_of_ble_eq_true rfl) ?_
  refine mj_iload_n 0 dX9_isIn_0 rfl ?_
  refine mj_iload_n 1 dX9_isIn_1 rfl ?_
  refine mj_iushr dX9_isIn_2 rfl ?_
  refine mj_iconst (v := 1) dX9_isIn_3 rfl ?_
  refine mj_iand dX9_isIn_4 ?_
  refine mj_if_eq 12 dX9_isIn_5 (by decide) (fun c_5 => ?_) (fun c_5 => ?_)
  · refine mj_iconst (v := 0) dX9_isIn_12 rfl ?_
    exact mj_zret dX9_isIn_13 rfl (by first | exact Or.inl rfl | exact Or.inr rfl) (Nat.le_of_ble_eq_true rfl) (Nat.le_of_ble_eq_true rfl) ⟨(by first | (rw [show i_bit m q = true from decide_eq_true c_5]; rfl) | (rw [show i_bit m q = false from decide_eq_false (fun z => z c_5)]; rfl)), rfl, rfl⟩
  · refine mj_iconst (v := 1) dX9_isIn_8 rfl ?_
    refine mj_goto 13 dX9_isIn_9 (by decide) ?_
    exact mj_zret dX9_isIn_13 rfl (by first | exact Or.inl rfl | exact Or.inr rfl) (Nat.le_of_ble_eq_true rfl) (Nat.le_of_ble_eq_true rfl) ⟨(by first | (rw [show i_bit m q = true from decide_eq_true c_5]; rfl) | (rw [show i_bit m q = false from decide_eq_false (fun z => z c_5)]; rfl)), rfl, rfl⟩
set_option maxRecDepth 100000 in
set_option maxHeartbeats 4000000 in
theorem cn_X9_divideBase {K : KX} {n : Nat} {h : MH} {s : Nat} {V : VS} (x : Sh h s V) {m base : Int32} : Con K mX9_divideBase [.ref s, .int m, .int base] 0 0 n h (RetP none n (fun h' => Sh h' s (v_base V m base) ∧ Off s (s + 4) h h')) := by
  refine Con.of (by decide +kernel) (Nat.le_of_ble_eq_true rfl) ?_
  have x9 := x
  obtain ⟨x0, x1, x2, x3⟩ := x
  have loop : ∀ (f : Nat) (k : Nat) (O : Nat → Int32) (l : Int32) (g : MH), k + f = 20 → (v_bs m (v_each m base) (v_left m base + -1) (vo V) k) = (O, l) → Sh g s (O, vw V, vf V, v_up (v_each m base) (v_left m base)) → Off s (s + 4) h g → GG (K, mX9_divideBase, 0, 0, RetP none n (fun h' => Sh h' s (v_base V m base) ∧ Off s (s + 4) h h')) 0 0 44 [(6, .int (nI k)), (5, .int l), (4, .int (v_each m base)), (3, .int (i_pop m + 1)), (0, .ref s), (1, .int m), (2, .int base)] [] n g := by
    intro f
    induction f with
    | zero =>
      intro k O l g hk hs x o
      obtain ⟨x0, x1, x2, x3⟩ := id x
      obtain rfl : k = 20 := (by omega)
      refine mj_iload 0 dX9_divideBase_44 rfl ?_
      refine mj_bipush (v := (20)) dX9_divideBase_46 rfl ?_
      refine mj_icmp_ge 98 dX9_divideBase_48 (by decide) (fun c_48 => ?_) (fun c_48 => ?_)
      · exact mj_vret dX9_divideBase_98 rfl (Nat.le_of_ble_eq_true rfl) (Nat.le_of_ble_eq_true rfl) ⟨rfl, rfl, ⟨by unfold v_base; rw [hs]; exact x, o⟩⟩
      · exact absurd (nI_le (show 20 ≤ 20 by omega) (by omega)) c_48
    | succ f ih =>
      intro k O l g hk hs x o
      obtain ⟨x0, x1, x2, x3⟩ := id x
      refine mj_iload 0 dX9_divideBase_44 rfl ?_
      refine mj_bipush (v := (20)) dX9_divideBase_46 rfl ?_
      refine mj_icmp_ge 98 dX9_divideBase_48 (by decide) (fun c_48 => ?_) (fun c_48 => ?_)
      · exact absurd c_48 (nI_ge (show k < 20 by omega) (by decide))
      · refine mj_aload_n 4 dX9_divideBase_51 rfl ?_
        refine mj_getf dX9_divideBase_52 fgX9_9 (by repeat (first | assumption | exact mup_s _ _ _ | rw [mup_n _ _ (by omega)])) rfl ?_
        refine mj_iload 0 dX9_divideBase_55 rfl ?_
        refine mj_iconst (v := 0) dX9_divideBase_57 rfl ?_
        refine mj_iast (by repeat (first | assumption | exact mup_s _ _ _ | rw [mup_n _ _ (by omega)])) (by first | assumption | rfl | exact ixn (by omega)) (by first | assumption | decide | omega) dX9_divideBase_58 ?_
        refine mj_iload_n 5 dX9_divideBase_59 rfl ?_
        refine mj_iload 0 dX9_divideBase_60 rfl ?_
        refine mj_cS1 [_, _] dX9_divideBase_62 cwX9_isIn lkX9_64 rfl (cn_X9_isIn) ⟨Nat.le_of_ble_eq_true rfl, Nat.le_of_ble_eq_true rfl, Nat.le_of_ble_eq_true rfl, Nat.le_of_ble_eq_true rfl, Nat.le_of_ble_eq_true rfl⟩ (fun h' e' => ?_)
        subst e'
        refine mj_if_eq 92 dX9_divideBase_65 (by decide) (fun c_65 => ?_) (fun c_65 => ?_)
        · have z1 := bI_0.mp c_65
          refine mj_iinc (ls' := [(6, _), (5, _), (4, _), (3, _), (0, _), (1, _), (2, _)]) 0 dX9_divideBase_92 rfl (nI_s _) (Nat.le_of_ble_eq_true rfl) rfl ?_
          refine mj_goto 44 dX9_divideBase_95 (by decide) ?_
          exact mj_ls [0, 1, 2, 3, 4, 5, 6] rfl (ih (k + 1) (upd O k 0) l _ (by omega) (by simp [v_bs, *]) ⟨(by repeat (first | assumption | exact mup_s _ _ _ | rw [mup_n _ _ (by omega)])), (by repeat (first | assumption | exact mup_s _ _ _ | rw [mup_n _ _ (by omega)])), (by repeat (first | assumption | exact mup_s _ _ _ | rw [mup_n _ _ (by omega)])), (by repeat (first | assumption | exact mup_s _ _ _ | rw [mup_n _ _ (by omega)]))⟩ (o.tr (by repeat (first | exact Off.rf | assumption | refine Off.m ?_ _ (by omega) (by omega)))))
        · have z1 := bI_n0.mp c_65
          refine mj_aload_n 4 dX9_divideBase_68 rfl ?_
          refine mj_getf dX9_divideBase_69 fgX9_9 (by repeat (first | assumption | exact mup_s _ _ _ | rw [mup_n _ _ (by omega)])) rfl ?_
          refine mj_iload 0 dX9_divideBase_72 rfl ?_
          refine mj_iload 1 dX9_divideBase_74 rfl ?_
          refine mj_if_le 86 dX9_divideBase_76 (by decide) (fun c_76 => ?_) (fun c_76 => ?_)
          · refine mj_iload 2 dX9_divideBase_86 rfl ?_
            refine mj_iast (by repeat (first | assumption | exact mup_s _ _ _ | rw [mup_n _ _ (by omega)])) (by first | assumption | rfl | exact ixn (by omega)) (by first | assumption | decide | omega) dX9_divideBase_88 ?_
            refine mj_iinc (ls' := [(5, _), (6, _), (4, _), (3, _), (0, _), (1, _), (2, _)]) 1 dX9_divideBase_89 rfl rfl (Nat.le_of_ble_eq_true rfl) rfl ?_
            refine mj_iinc (ls' := [(6, _), (5, _), (4, _), (3, _), (0, _), (1, _), (2, _)]) 1 dX9_divideBase_92 rfl (nI_s _) (Nat.le_of_ble_eq_true rfl) rfl ?_
            refine mj_goto 44 dX9_divideBase_95 (by decide) ?_
            exact mj_ls [0, 1, 2, 3, 4, 5, 6] rfl (ih (k + 1) (upd (upd O k 0) k (v_up (v_each m base) l)) (l + -1) _ (by omega) (by simp [v_bs, *]) ⟨(by repeat (first | assumption | exact mup_s _ _ _ | rw [mup_n _ _ (by omega)])), (by rw [show v_up (v_each m base) l = v_each m base from if_neg (Int32.not_lt.mpr c_76)]; exact mup_s _ _ _), (by repeat (first | assumption | exact mup_s _ _ _ | rw [mup_n _ _ (by omega)])), (by repeat (first | assumption | exact mup_s _ _ _ | rw [mup_n _ _ (by omega)]))⟩ (o.tr (by repeat (first | exact Off.rf | assumption | refine Off.m ?_ _ (by omega) (by omega)))))
          · refine mj_iload 2 dX9_divideBase_79 rfl ?_
            refine mj_iconst (v := 1) dX9_divideBase_81 rfl ?_
            refine mj_iadd dX9_divideBase_82 ?_
            refine mj_goto 88 dX9_divideBase_83 (by decide) ?_
            refine mj_iast (by repeat (first | assumption | exact mup_s _ _ _ | rw [mup_n _ _ (by omega)])) (by first | assumption | rfl | exact ixn (by omega)) (by first | assumption | decide | omega) dX9_divideBase_88 ?_
            refine mj_iinc (ls' := [(5, _), (6, _), (4, _), (3, _), (0, _), (1, _), (2, _)]) 1 dX9_divideBase_89 rfl rfl (Nat.le_of_ble_eq_true rfl) rfl ?_
            refine mj_iinc (ls' := [(6, _), (5, _), (4, _), (3, _), (0, _), (1, _), (2, _)]) 1 dX9_divideBase_92 rfl (nI_s _) (Nat.le_of_ble_eq_true rfl) rfl ?_
            refine mj_goto 44 dX9_divideBase_95 (by decide) ?_
            exact mj_ls [0, 1, 2, 3, 4, 5, 6] rfl (ih (k + 1) (upd (upd O k 0) k (v_up (v_each m base) l)) (l + -1) _ (by omega) (by simp [v_bs, *]) ⟨(by repeat (first | assumption | exact mup_s _ _ _ | rw [mup_n _ _ (by omega)])), (by rw [show v_up (v_each m base) l = v_each m base + 1 from if_pos (Int32.not_le.mp c_76)]; exact mup_s _ _ _), (by repeat (first | assumption | exact mup_s _ _ _ | rw [mup_n _ _ (by omega)])), (by repeat (first | assumption | exact mup_s _ _ _ | rw [mup_n _ _ (by omega)]))⟩ (o.tr (by repeat (first | exact Off.rf | assumption | refine Off.m ?_ _ (by omega) (by omega)))))
  refine mj_iload_n 1 dX9_divideBase_0 rfl ?_
  refine mj_cS1 [_] dX9_divideBase_1 cwJ6_bitCount_0f7a4 lkX9_55 rfl (cn_J6_bitCount_0f7a4) ⟨Nat.le_of_ble_eq_true rfl, Nat.le_of_ble_eq_true rfl, Nat.le_of_ble_eq_true rfl, Nat.le_of_ble_eq_true rfl, Nat.le_of_ble_eq_true rfl⟩ (fun h' e' => ?_)
  subst e'
  refine mj_iconst (v := 1) dX9_divideBase_4 rfl ?_
  refine mj_iadd dX9_divideBase_5 ?_
  refine mj_istore_n (ls' := [(3, _), (0, _), (1, _), (2, _)]) dX9_divideBase_6 (Nat.le_of_ble_eq_true rfl) rfl ?_
  refine mj_iload_n 3 dX9_divideBase_7 rfl ?_
  refine mj_iload_n 0 dX9_divideBase_8 rfl ?_
  refine mj_idiv dX9_divideBase_9 (i_pop_ok m) ?_
  refine mj_istore (ls' := [(4, _), (3, _), (0, _), (1, _), (2, _)]) dX9_divideBase_10 (Nat.le_of_ble_eq_true rfl) rfl ?_
  refine mj_iload_n 4 dX9_divideBase_12 rfl ?_
  refine mj_iload 0 dX9_divideBase_13 rfl ?_
  refine mj_iload_n 1 dX9_divideBase_15 rfl ?_
  refine mj_imul dX9_divideBase_16 ?_
  refine mj_isub dX9_divideBase_17 ?_
  refine mj_istore (ls' := [(5, _), (4, _), (3, _), (0, _), (1, _), (2, _)]) dX9_divideBase_18 (Nat.le_of_ble_eq_true rfl) rfl ?_
  refine mj_aload_n 3 dX9_divideBase_20 rfl ?_
  refine mj_iload 0 dX9_divideBase_21 rfl ?_
  refine mj_if_le 33 dX9_divideBase_23 (by decide) (fun c_23 => ?_) (fun c_23 => ?_)
  · refine mj_iload 1 dX9_divideBase_33 rfl ?_
    refine mj_putf dX9_divideBase_35 fgX9_61 (by repeat (first | assumption | exact mup_s _ _ _ | rw [mup_n _ _ (by omega)])) rfl rfl rfl (Nat.le_of_ble_eq_true rfl) rfl ?_
    refine mj_iinc (ls' := [(5, _), (4, _), (3, _), (0, _), (1, _), (2, _)]) 0 dX9_divideBase_38 rfl rfl (Nat.le_of_ble_eq_true rfl) rfl ?_
    refine mj_iconst (v := 0) dX9_divideBase_41 rfl ?_
    refine mj_istore (ls' := [(6, _), (5, _), (4, _), (3, _), (0, _), (1, _), (2, _)]) dX9_divideBase_42 (Nat.le_of_ble_eq_true rfl) rfl ?_
    exact mj_ls [0, 1, 2, 3, 4, 5, 6] rfl (loop 20 0 (vo V) _ _ (by omega) rfl ⟨(by rw [show v_up (v_each m base) (v_left m base) = v_each m base from if_neg (Int32.not_lt.mpr c_23)]; exact mup_s _ _ _), (by repeat (first | assumption | exact mup_s _ _ _ | rw [mup_n _ _ (by omega)])), (by repeat (first | assumption | exact mup_s _ _ _ | rw [mup_n _ _ (by omega)])), (by repeat (first | assumption | exact mup_s _ _ _ | rw [mup_n _ _ (by omega)]))⟩ (by repeat (first | exact Off.rf | assumption | refine Off.m ?_ _ (by omega) (by omega))))
  · refine mj_iload 1 dX9_divideBase_26 rfl ?_
    refine mj_iconst (v := 1) dX9_divideBase_28 rfl ?_
    refine mj_iadd dX9_divideBase_29 ?_
    refine mj_goto 35 dX9_divideBase_30 (by decide) ?_
    refine mj_putf dX9_divideBase_35 fgX9_61 (by repeat (first | assumption | exact mup_s _ _ _ | rw [mup_n _ _ (by omega)])) rfl rfl rfl (Nat.le_of_ble_eq_true rfl) rfl ?_
    refine mj_iinc (ls' := [(5, _), (4, _), (3, _), (0, _), (1, _), (2, _)]) 0 dX9_divideBase_38 rfl rfl (Nat.le_of_ble_eq_true rfl) rfl ?_
    refine mj_iconst (v := 0) dX9_divideBase_41 rfl ?_
    refine mj_istore (ls' := [(6, _), (5, _), (4, _), (3, _), (0, _), (1, _), (2, _)]) dX9_divideBase_42 (Nat.le_of_ble_eq_true rfl) rfl ?_
    exact mj_ls [0, 1, 2, 3, 4, 5, 6] rfl (loop 20 0 (vo V) _ _ (by omega) rfl ⟨(by rw [show v_up (v_each m base) (v_left m base) = v_each m base + 1 from if_pos (Int32.not_le.mp c_23)]; exact mup_s _ _ _), (by repeat (first | assumption | exact mup_s _ _ _ | rw [mup_n _ _ (by omega)])), (by repeat (first | assumption | exact mup_s _ _ _ | rw [mup_n _ _ (by omega)])), (by repeat (first | assumption | exact mup_s _ _ _ | rw [mup_n _ _ (by omega)]))⟩ (by repeat (first | exact Off.rf | assumption | refine Off.m ?_ _ (by omega) (by omega))))
set_option maxRecDepth 100000 in
set_option maxHeartbeats 4000000 in
theorem cn_X9_weigh {K : KX} {n : Nat} {h : MH} {s : Nat} {V : VS} (x : Sh h s V) {c : Nat} {R : RS} (r : Rt h c R) (h2 : 1 ≤ rn R) (hc : c + 5 ≤ s ∨ s + 4 ≤ c) {m : Int32} : Con K mX9_weigh [.ref s, .int m, .ref c] 0 0 n h (RetP (some (.int (v_wgt m R (vw V)).2)) n (fun h' => Sh h' s (vo V, (v_wgt m R (vw V)).1, vf V, vd V) ∧ Off s (s + 4) h h')) := by
  refine Con.of (by decide +kernel) (Nat.le_of_ble_eq_true rfl) ?_
  have x9 := x
  obtain ⟨x0, x1, x2, x3⟩ := x
  have loop2 : ∀ (f : Nat) (k : Nat) (W : Nat → Int32) (g : MH) (u : Int32), k + f = 20 → ¬ 0 < (v_ws m R (vw V) 20).2 → v_w1 m (v_ws m R (vw V) 20).1 k = W → Sh g s (vo V, W, vf V, vd V) → Off s (s + 4) h g → GG (K, mX9_weigh, 0, 0, RetP (some (.int (v_wgt m R (vw V)).2)) n (fun h' => Sh h' s (vo V, (v_wgt m R (vw V)).1, vf V, vd V) ∧ Off s (s + 4) h h')) 0 0 63 [(4, .int (nI k)), (3, .int u), (0, .ref s), (1, .int m), (2, .ref c)] [] n g := by
    intro f
    induction f with
    | zero =>
      intro k W g u hk hz hs x o
      obtain ⟨x0, x1, x2, x3⟩ := id x
      have r1 := r.off o hc
      have r0 := r1.1
      obtain rfl : k = 20 := (by omega)
      have hw : v_wgt m R (vw V) = (W, i_pop m) := by unfold v_wgt; rw [if_neg hz, hs]
      refine mj_iload 0 dX9_weigh_63 rfl ?_
      refine mj_bipush (v := (20)) dX9_weigh_65 rfl ?_
      refine mj_icmp_ge 97 dX9_weigh_67 (by decide) (fun c_67 => ?_) (fun c_67 => ?_)
      · refine mj_iload_n 3 dX9_weigh_97 rfl ?_
        refine mj_cS1 [_] dX9_weigh_98 cwJ6_bitCount_0f7a4 lkX9_55 rfl (cn_J6_bitCount_0f7a4) ⟨Nat.le_of_ble_eq_true rfl, Nat.le_of_ble_eq_true rfl, Nat.le_of_ble_eq_true rfl, Nat.le_of_ble_eq_true rfl, Nat.le_of_ble_eq_true rfl⟩ (fun h' e' => ?_)
        subst e'
        exact mj_iret dX9_weigh_101 rfl (Nat.le_of_ble_eq_true rfl) (Nat.le_of_ble_eq_true rfl) ⟨(by rw [hw]), rfl, (by rw [hw]; exact ⟨x, o⟩)⟩
      · exact absurd (nI_le (show 20 ≤ 20 by omega) (by omega)) c_67
    | succ f ih =>
      intro k W g u hk hz hs x o
      obtain ⟨x0, x1, x2, x3⟩ := id x
      have r1 := r.off o hc
      have r0 := r1.1
      refine mj_iload 0 dX9_weigh_63 rfl ?_
      refine mj_bipush (v := (20)) dX9_weigh_65 rfl ?_
      refine mj_icmp_ge 97 dX9_weigh_67 (by decide) (fun c_67 => ?_) (fun c_67 => ?_)
      · exact absurd c_67 (nI_ge (show k < 20 by omega) (by decide))
      · refine mj_aload_n 2 dX9_weigh_70 rfl ?_
        refine mj_getf dX9_weigh_71 fgX9_15 (by repeat (first | assumption | exact mup_s _ _ _ | rw [mup_n _ _ (by omega)])) rfl ?_
        refine mj_iload 0 dX9_weigh_74 rfl ?_
        refine mj_iload_n 3 dX9_weigh_76 rfl ?_
        refine mj_iload 0 dX9_weigh_77 rfl ?_
        refine mj_cS1 [_, _] dX9_weigh_79 cwX9_isIn lkX9_64 rfl (cn_X9_isIn) ⟨Nat.le_of_ble_eq_true rfl, Nat.le_of_ble_eq_true rfl, Nat.le_of_ble_eq_true rfl, Nat.le_of_ble_eq_true rfl, Nat.le_of_ble_eq_true rfl⟩ (fun h' e' => ?_)
        subst e'
        refine mj_if_eq 89 dX9_weigh_82 (by decide) (fun c_82 => ?_) (fun c_82 => ?_)
        · have z1 := bI_0.mp c_82
          refine mj_iconst (v := 0) dX9_weigh_89 rfl ?_
          refine mj_iast (by repeat (first | assumption | exact mup_s _ _ _ | rw [mup_n _ _ (by omega)])) (by first | assumption | rfl | exact ixn (by omega)) (by first | assumption | decide | omega) dX9_weigh_90 ?_
          refine mj_iinc (ls' := [(4, _), (3, _), (0, _), (1, _), (2, _)]) 0 dX9_weigh_91 rfl (nI_s _) (Nat.le_of_ble_eq_true rfl) rfl ?_
          refine mj_goto 63 dX9_weigh_94 (by decide) ?_
          exact mj_ls [0, 1, 2, 3, 4] rfl (ih (k + 1) _ _ u (by omega) hz (by simp [v_w1, *]; rfl) ⟨(by repeat (first | assumption | exact mup_s _ _ _ | rw [mup_n _ _ (by omega)])), (by repeat (first | assumption | exact mup_s _ _ _ | rw [mup_n _ _ (by omega)])), (by repeat (first | assumption | exact mup_s _ _ _ | rw [mup_n _ _ (by omega)])), (by repeat (first | assumption | exact mup_s _ _ _ | rw [mup_n _ _ (by omega)]))⟩ (o.tr (by repeat (first | exact Off.rf | assumption | refine Off.m ?_ _ (by omega) (by omega)))))
        · have z1 := bI_n0.mp c_82
          refine mj_iconst (v := 1) dX9_weigh_85 rfl ?_
          refine mj_goto 90 dX9_weigh_86 (by decide) ?_
          refine mj_iast (by repeat (first | assumption | exact mup_s _ _ _ | rw [mup_n _ _ (by omega)])) (by first | assumption | rfl | exact ixn (by omega)) (by first | assumption | decide | omega) dX9_weigh_90 ?_
          refine mj_iinc (ls' := [(4, _), (3, _), (0, _), (1, _), (2, _)]) 0 dX9_weigh_91 rfl (nI_s _) (Nat.le_of_ble_eq_true rfl) rfl ?_
          refine mj_goto 63 dX9_weigh_94 (by decide) ?_
          exact mj_ls [0, 1, 2, 3, 4] rfl (ih (k + 1) _ _ u (by omega) hz (by simp [v_w1, *]; rfl) ⟨(by repeat (first | assumption | exact mup_s _ _ _ | rw [mup_n _ _ (by omega)])), (by repeat (first | assumption | exact mup_s _ _ _ | rw [mup_n _ _ (by omega)])), (by repeat (first | assumption | exact mup_s _ _ _ | rw [mup_n _ _ (by omega)])), (by repeat (first | assumption | exact mup_s _ _ _ | rw [mup_n _ _ (by omega)]))⟩ (o.tr (by repeat (first | exact Off.rf | assumption | refine Off.m ?_ _ (by omega) (by omega)))))
  have loop1 : ∀ (f : Nat) (k : Nat) (W : Nat → Int32) (u : Int32) (g : MH), k + f = 20 → v_ws m R (vw V) k = (W, u) → Sh g s (vo V, W, vf V, vd V) → Off s (s + 4) h g → GG (K, mX9_weigh, 0, 0, RetP (some (.int (v_wgt m R (vw V)).2)) n (fun h' => Sh h' s (vo V, (v_wgt m R (vw V)).1, vf V, vd V) ∧ Off s (s + 4) h h')) 0 0 5 [(4, .int (nI k)), (3, .int u), (0, .ref s), (1, .int m), (2, .ref c)] [] n g := by
    intro f
    induction f with
    | zero =>
      intro k W u g hk hs x o
      obtain ⟨x0, x1, x2, x3⟩ := id x
      have r1 := r.off o hc
      have r0 := r1.1
      obtain rfl : k = 20 := (by omega)
      refine mj_iload 0 dX9_weigh_5 rfl ?_
      refine mj_bipush (v := (20)) dX9_weigh_7 rfl ?_
      refine mj_icmp_ge 54 dX9_weigh_9 (by decide) (fun c_9 => ?_) (fun c_9 => ?_)
      · refine mj_iload_n 1 dX9_weigh_54 rfl ?_
        refine mj_if_le 60 dX9_weigh_55 (by decide) (fun c_55 => ?_) (fun c_55 => ?_)
        · refine mj_iconst (v := 0) dX9_weigh_60 rfl ?_
          refine mj_istore (ls' := [(4, _), (3, _), (0, _), (1, _), (2, _)]) dX9_weigh_61 (Nat.le_of_ble_eq_true rfl) rfl ?_
          exact mj_ls [0, 1, 2, 3, 4] rfl (loop2 20 0 W g u (by omega) (by rw [hs]; exact Int32.not_lt.mpr c_55) (by rw [hs]; rfl) x o)
        · refine mj_iload_n 1 dX9_weigh_58 rfl ?_
          exact mj_iret dX9_weigh_59 rfl (Nat.le_of_ble_eq_true rfl) (Nat.le_of_ble_eq_true rfl) ⟨(by unfold v_wgt; rw [if_pos (by rw [hs]; exact Int32.not_le.mp c_55), hs]), rfl, (by unfold v_wgt; rw [if_pos (by rw [hs]; exact Int32.not_le.mp c_55), hs]; exact ⟨x, o⟩)⟩
      · exact absurd (nI_le (show 20 ≤ 20 by omega) (by omega)) c_9
    | succ f ih =>
      intro k W u g hk hs x o
      obtain ⟨x0, x1, x2, x3⟩ := id x
      have r1 := r.off o hc
      have r0 := r1.1
      refine mj_iload 0 dX9_weigh_5 rfl ?_
      refine mj_bipush (v := (20)) dX9_weigh_7 rfl ?_
      refine mj_icmp_ge 54 dX9_weigh_9 (by decide) (fun c_9 => ?_) (fun c_9 => ?_)
      · exact absurd c_9 (nI_ge (show k < 20 by omega) (by decide))
      · refine mj_aload_n 2 dX9_weigh_12 rfl ?_
        refine mj_getf dX9_weigh_13 fgX9_15 (by repeat (first | assumption | exact mup_s _ _ _ | rw [mup_n _ _ (by omega)])) rfl ?_
        refine mj_iload 0 dX9_weigh_16 rfl ?_
        refine mj_iload_n 3 dX9_weigh_18 rfl ?_
        refine mj_iload 0 dX9_weigh_19 rfl ?_
        refine mj_cS1 [_, _] dX9_weigh_21 cwX9_isIn lkX9_64 rfl (cn_X9_isIn) ⟨Nat.le_of_ble_eq_true rfl, Nat.le_of_ble_eq_true rfl, Nat.le_of_ble_eq_true rfl, Nat.le_of_ble_eq_true rfl, Nat.le_of_ble_eq_true rfl⟩ (fun h' e' => ?_)
        subst e'
        refine mj_if_eq 36 dX9_weigh_24 (by decide) (fun c_24 => ?_) (fun c_24 => ?_)
        · have z1 := bI_0.mp c_24
          refine mj_iconst (v := 0) dX9_weigh_36 rfl ?_
          refine mj_iast (by repeat (first | assumption | exact mup_s _ _ _ | rw [mup_n _ _ (by omega)])) (by first | assumption | rfl | exact ixn (by omega)) (by first | assumption | decide | omega) dX9_weigh_37 ?_
          refine mj_iload_n 1 dX9_weigh_38 rfl ?_
          refine mj_aload_n 2 dX9_weigh_39 rfl ?_
          refine mj_getf dX9_weigh_40 fgX9_15 (by repeat (first | assumption | exact mup_s _ _ _ | rw [mup_n _ _ (by omega)])) rfl ?_
          refine mj_iload 0 dX9_weigh_43 rfl ?_
          refine mj_iald (by repeat (first | assumption | exact mup_s _ _ _ | rw [mup_n _ _ (by omega)])) (by first | assumption | rfl | exact ixn (by omega)) (by first | assumption | decide | omega) dX9_weigh_45 ?_
          rw [show upd W k _ k = _ from if_pos rfl]
          refine mj_iadd dX9_weigh_46 ?_
          refine mj_istore_n (ls' := [(3, _), (4, _), (0, _), (1, _), (2, _)]) dX9_weigh_47 (Nat.le_of_ble_eq_true rfl) rfl ?_
          refine mj_iinc (ls' := [(4, _), (3, _), (0, _), (1, _), (2, _)]) 1 dX9_weigh_48 rfl (nI_s _) (Nat.le_of_ble_eq_true rfl) rfl ?_
          refine mj_goto 5 dX9_weigh_51 (by decide) ?_
          exact mj_ls [0, 1, 2, 3, 4] rfl (ih (k + 1) _ _ _ (by omega) (by simp only [v_ws, hs, z1]; rfl) ⟨(by repeat (first | assumption | exact mup_s _ _ _ | rw [mup_n _ _ (by omega)])), (by repeat (first | assumption | exact mup_s _ _ _ | rw [mup_n _ _ (by omega)])), (by repeat (first | assumption | exact mup_s _ _ _ | rw [mup_n _ _ (by omega)])), (by repeat (first | assumption | exact mup_s _ _ _ | rw [mup_n _ _ (by omega)]))⟩ (o.tr (by repeat (first | exact Off.rf | assumption | refine Off.m ?_ _ (by omega) (by omega)))))
        · have z1 := bI_n0.mp c_24
          refine mj_aload_n 4 dX9_weigh_27 rfl ?_
          refine mj_iload 0 dX9_weigh_28 rfl ?_
          refine mj_cV1 [_] (RX6, TX6, 5) dX9_weigh_30 cwX6_marginalLength lkX9_68 r0 rfl rfl rfl rfl (cn_X6_marginalLength r1 h2) ⟨Nat.le_of_ble_eq_true rfl, Nat.le_of_ble_eq_true rfl, Nat.le_of_ble_eq_true rfl, Nat.le_of_ble_eq_true rfl, Nat.le_of_ble_eq_true rfl⟩ (fun h' e' => ?_)
          subst e'
          refine mj_goto 37 dX9_weigh_33 (by decide) ?_
          refine mj_iast (by repeat (first | assumption | exact mup_s _ _ _ | rw [mup_n _ _ (by omega)])) (by first | assumption | rfl | exact ixn (by omega)) (by first | assumption | decide | omega) dX9_weigh_37 ?_
          refine mj_iload_n 1 dX9_weigh_38 rfl ?_
          refine mj_aload_n 2 dX9_weigh_39 rfl ?_
          refine mj_getf dX9_weigh_40 fgX9_15 (by repeat (first | assumption | exact mup_s _ _ _ | rw [mup_n _ _ (by omega)])) rfl ?_
          refine mj_iload 0 dX9_weigh_43 rfl ?_
          refine mj_iald (by repeat (first | assumption | exact mup_s _ _ _ | rw [mup_n _ _ (by omega)])) (by first | assumption | rfl | exact ixn (by omega)) (by first | assumption | decide | omega) dX9_weigh_45 ?_
          rw [show upd W k _ k = _ from if_pos rfl]
          refine mj_iadd dX9_weigh_46 ?_
          refine mj_istore_n (ls' := [(3, _), (4, _), (0, _), (1, _), (2, _)]) dX9_weigh_47 (Nat.le_of_ble_eq_true rfl) rfl ?_
          refine mj_iinc (ls' := [(4, _), (3, _), (0, _), (1, _), (2, _)]) 1 dX9_weigh_48 rfl (nI_s _) (Nat.le_of_ble_eq_true rfl) rfl ?_
          refine mj_goto 5 dX9_weigh_51 (by decide) ?_
          exact mj_ls [0, 1, 2, 3, 4] rfl (ih (k + 1) _ _ _ (by omega) (by simp only [v_ws, hs, z1]; rfl) ⟨(by repeat (first | assumption | exact mup_s _ _ _ | rw [mup_n _ _ (by omega)])), (by repeat (first | assumption | exact mup_s _ _ _ | rw [mup_n _ _ (by omega)])), (by repeat (first | assumption | exact mup_s _ _ _ | rw [mup_n _ _ (by omega)])), (by repeat (first | assumption | exact mup_s _ _ _ | rw [mup_n _ _ (by omega)]))⟩ (o.tr (by repeat (first | exact Off.rf | assumption | refine Off.m ?_ _ (by omega) (by omega)))))
  refine mj_iconst (v := 0) dX9_weigh_0 rfl ?_
  refine mj_istore_n (ls' := [(3, _), (0, _), (1, _), (2, _)]) dX9_weigh_1 (Nat.le_of_ble_eq_true rfl) rfl ?_
  refine mj_iconst (v := 0) dX9_weigh_2 rfl ?_
  refine mj_istore (ls' := [(4, _), (3, _), (0, _), (1, _), (2, _)]) dX9_weigh_3 (Nat.le_of_ble_eq_true rfl) rfl ?_
  exact mj_ls [0, 1, 2, 3, 4] rfl (loop1 20 0 (vw V) 0 h (by omega) rfl x9 Off.rf)
set_option maxRecDepth 100000 in
set_option maxHeartbeats 4000000 in
theorem cn_X9_giveCent {K : KX} {n : Nat} {h : MH} {s : Nat} {V : VS} (x : Sh h s V) : Con K mX9_giveCent [.ref s] 0 0 n h (RetP none n (fun h' => Sh h' s ((v_cent (vo V, vf V)).1, vw V, (v_cent (vo V, vf V)).2, vd V) ∧ Off s (s + 4) h h')) := by
  refine Con.of (by decide +kernel) (Nat.le_of_ble_eq_true rfl) ?_
  have x9 := x
  obtain ⟨x0, x1, x2, x3⟩ := x
  have loop : ∀ (f : Nat) (k b : Nat), k + f = 19 → v_am (vf V) k = b → GG (K, mX9_giveCent, 0, 0, RetP none n (fun h' => Sh h' s ((v_cent (vo V, vf V)).1, vw V, (v_cent (vo V, vf V)).2, vd V) ∧ Off s (s + 4) h h')) 0 0 4 [(2, .int (nI (k + 1))), (1, .int (nI b)), (0, .ref s)] [] n h := by
    intro f
    induction f with
    | zero =>
      intro k b hk hb
      have hl := v_am_le (vf V) k
      obtain rfl : k = 19 := (by omega)
      refine mj_iload_n 0 dX9_giveCent_4 rfl ?_
      refine mj_bipush (v := (20)) dX9_giveCent_5 rfl ?_
      refine mj_icmp_ge 33 dX9_giveCent_7 (by decide) (fun c_7 => ?_) (fun c_7 => ?_)
      · refine mj_aload_n 2 dX9_giveCent_33 rfl ?_
        refine mj_getf dX9_giveCent_34 fgX9_9 (by repeat (first | assumption | exact mup_s _ _ _ | rw [mup_n _ _ (by omega)])) rfl ?_
        refine mj_iload_n 1 dX9_giveCent_37 rfl ?_
        refine mj_dup2 dX9_giveCent_38 rfl rfl ?_
        refine mj_iald (by repeat (first | assumption | exact mup_s _ _ _ | rw [mup_n _ _ (by omega)])) (by first | assumption | rfl | exact ixn (by omega)) (by first | assumption | decide | omega) dX9_giveCent_39 ?_
        refine mj_iconst (v := 1) dX9_giveCent_40 rfl ?_
        refine mj_iadd dX9_giveCent_41 ?_
        refine mj_iast (by repeat (first | assumption | exact mup_s _ _ _ | rw [mup_n _ _ (by omega)])) (by first | assumption | rfl | exact ixn (by omega)) (by first | assumption | decide | omega) dX9_giveCent_42 ?_
        refine mj_aload_n 2 dX9_giveCent_43 rfl ?_
        refine mj_getf dX9_giveCent_44 fgX9_18 (by repeat (first | assumption | exact mup_s _ _ _ | rw [mup_n _ _ (by omega)])) rfl ?_
        refine mj_iload_n 1 dX9_giveCent_47 rfl ?_
        refine mj_iconst (v := (-1)) dX9_giveCent_48 rfl ?_
        refine mj_iast (by repeat (first | assumption | exact mup_s _ _ _ | rw [mup_n _ _ (by omega)])) (by first | assumption | rfl | exact ixn (by omega)) (by first | assumption | decide | omega) dX9_giveCent_49 ?_
        exact mj_vret dX9_giveCent_50 rfl (Nat.le_of_ble_eq_true rfl) (Nat.le_of_ble_eq_true rfl) ⟨rfl, rfl, (by unfold v_cent; dsimp only; rw [hb]; exact ⟨⟨(by repeat (first | assumption | exact mup_s _ _ _ | rw [mup_n _ _ (by omega)])), (by repeat (first | assumption | exact mup_s _ _ _ | rw [mup_n _ _ (by omega)])), (by repeat (first | assumption | exact mup_s _ _ _ | rw [mup_n _ _ (by omega)])), (by repeat (first | assumption | exact mup_s _ _ _ | rw [mup_n _ _ (by omega)]))⟩, (by repeat (first | exact Off.rf | assumption | refine Off.m ?_ _ (by omega) (by omega)))⟩)⟩
      · exact absurd (nI_le (show 20 ≤ 19 + 1 by omega) (by omega)) c_7
    | succ f ih =>
      intro k b hk hb
      have hl := v_am_le (vf V) k
      refine mj_iload_n 0 dX9_giveCent_4 rfl ?_
      refine mj_bipush (v := (20)) dX9_giveCent_5 rfl ?_
      refine mj_icmp_ge 33 dX9_giveCent_7 (by decide) (fun c_7 => ?_) (fun c_7 => ?_)
      · exact absurd c_7 (nI_ge (show k + 1 < 20 by omega) (by decide))
      · refine mj_aload_n 2 dX9_giveCent_10 rfl ?_
        refine mj_getf dX9_giveCent_11 fgX9_18 (by repeat (first | assumption | exact mup_s _ _ _ | rw [mup_n _ _ (by omega)])) rfl ?_
        refine mj_iload_n 0 dX9_giveCent_14 rfl ?_
        refine mj_iald (by repeat (first | assumption | exact mup_s _ _ _ | rw [mup_n _ _ (by omega)])) (by first | assumption | rfl | exact ixn (by omega)) (by first | assumption | decide | omega) dX9_giveCent_15 ?_
        refine mj_aload_n 2 dX9_giveCent_16 rfl ?_
        refine mj_getf dX9_giveCent_17 fgX9_18 (by repeat (first | assumption | exact mup_s _ _ _ | rw [mup_n _ _ (by omega)])) rfl ?_
        refine mj_iload_n 1 dX9_giveCent_20 rfl ?_
        refine mj_iald (by repeat (first | assumption | exact mup_s _ _ _ | rw [mup_n _ _ (by omega)])) (by first | assumption | rfl | exact ixn (by omega)) (by first | assumption | decide | omega) dX9_giveCent_21 ?_
        refine mj_icmp_le 27 dX9_giveCent_22 (by decide) (fun c_22 => ?_) (fun c_22 => ?_)
        · refine mj_iinc (ls' := [(2, _), (1, _), (0, _)]) 0 dX9_giveCent_27 rfl (nI_s _) (Nat.le_of_ble_eq_true rfl) rfl ?_
          refine mj_goto 4 dX9_giveCent_30 (by decide) ?_
          exact mj_ls [0, 1, 2] rfl (ih (k + 1) b (by omega) (by unfold v_am; rw [hb, if_neg (Int32.not_lt.mpr c_22)]))
        · refine mj_iload_n 0 dX9_giveCent_25 rfl ?_
          refine mj_istore_n (ls' := [(1, _), (2, _), (0, _)]) dX9_giveCent_26 (Nat.le_of_ble_eq_true rfl) rfl ?_
          refine mj_iinc (ls' := [(2, _), (1, _), (0, _)]) 1 dX9_giveCent_27 rfl (nI_s _) (Nat.le_of_ble_eq_true rfl) rfl ?_
          refine mj_goto 4 dX9_giveCent_30 (by decide) ?_
          exact mj_ls [0, 1, 2] rfl (ih (k + 1) (k + 1) (by omega) (by unfold v_am; rw [hb, if_pos (Int32.not_le.mp c_22)]))
  refine mj_iconst (v := 0) dX9_giveCent_0 rfl ?_
  refine mj_istore_n (ls' := [(1, _), (0, _)]) dX9_giveCent_1 (Nat.le_of_ble_eq_true rfl) rfl ?_
  refine mj_iconst (v := 1) dX9_giveCent_2 rfl ?_
  refine mj_istore_n (ls' := [(2, _), (1, _), (0, _)]) dX9_giveCent_3 (Nat.le_of_ble_eq_true rfl) rfl ?_
  exact mj_ls [0, 1, 2] rfl (loop 19 0 0 (by omega) rfl)
set_option maxRecDepth 100000 in
set_option maxHeartbeats 4000000 in
theorem cn_X9_divideRest {K : KX} {n : Nat} {h : MH} {s : Nat} {V : VS} (x : Sh h s V) {m rest sum : Int32} : Con K mX9_divideRest [.ref s, .int m, .int rest, .int sum] 0 0 n h (RetP none n (fun h' => Sh h' s (v_rest V m rest sum) ∧ Off s (s + 4) h h')) := by
  refine Con.of (by decide +kernel) (Nat.le_of_ble_eq_true rfl) ?_
  have x9 := x
  obtain ⟨x0, x1, x2, x3⟩ := x
  by_cases hs0 : 0 < sum
  · have hne : ¬ sum = 0 := fun z => by rw [z] at hs0; exact absurd hs0 (by decide)
    have loop2 : ∀ (f : Nat) (k : Nat) (O F : Nat → Int32) (g : MH), k + f = (v_rs m rest sum (vw V) (vo V) (vf V) 20).2.2.toInt.toNat → v_cents ((v_rs m rest sum (vw V) (vo V) (vf V) 20).1, (v_rs m rest sum (vw V) (vo V) (vf V) 20).2.1) k = (O, F) → Sh g s (O, vw V, F, vd V) → Off s (s + 4) h g → GG (K, mX9_divideRest, 0, 0, RetP none n (fun h' => Sh h' s (v_rest V m rest sum) ∧ Off s (s + 4) h h')) 0 0 93 [(5, .int (nI k)), (4, .int (v_rs m rest sum (vw V) (vo V) (vf V) 20).2.2), (0, .ref s), (1, .int m), (2, .int rest), (3, .int sum)] [] n g := by
      intro f
      induction f with
      | zero =>
        intro k O F g hk hs x o
        have hB := (v_rs m rest sum (vw V) (vo V) (vf V) 20).2.2.toInt_lt
        have x0 := x.1
        refine mj_iload 0 dX9_divideRest_93 rfl ?_
        refine mj_iload 1 dX9_divideRest_95 rfl ?_
        refine mj_icmp_ge 110 dX9_divideRest_97 (by decide) (fun c_97 => ?_) (fun c_97 => ?_)
        · exact mj_vret dX9_divideRest_110 rfl (Nat.le_of_ble_eq_true rfl) (Nat.le_of_ble_eq_true rfl) ⟨rfl, rfl, ⟨by unfold v_rest; rw [if_pos hs0, show (v_rs m rest sum (vw V) (vo V) (vf V) 20).2.2.toInt.toNat = k by omega, hs]; exact x, o⟩⟩
        · exact absurd (Int32.le_iff_toInt_le.mpr (by rw [ixn (by omega)]; omega)) c_97
      | succ f ih =>
        intro k O F g hk hs x o
        have hB := (v_rs m rest sum (vw V) (vo V) (vf V) 20).2.2.toInt_lt
        have x0 := x.1
        refine mj_iload 0 dX9_divideRest_93 rfl ?_
        refine mj_iload 1 dX9_divideRest_95 rfl ?_
        refine mj_icmp_ge 110 dX9_divideRest_97 (by decide) (fun c_97 => ?_) (fun c_97 => ?_)
        · exact absurd (Int32.le_iff_toInt_le.mp c_97) (by rw [ixn (by omega)]; omega)
        · refine mj_aload_n 2 dX9_divideRest_100 rfl ?_
          refine mj_cV0 [] (RX9, TX9, 4) dX9_divideRest_101 cwX9_giveCent lkX9_71 x0 rfl rfl rfl rfl (cn_X9_giveCent x) ⟨Nat.le_of_ble_eq_true rfl, Nat.le_of_ble_eq_true rfl, Nat.le_of_ble_eq_true rfl, Nat.le_of_ble_eq_true rfl, Nat.le_of_ble_eq_true rfl⟩ (fun h' e' => ?_)
          obtain ⟨e1, e2⟩ := e'
          refine mj_iinc (ls' := [(5, _), (4, _), (0, _), (1, _), (2, _), (3, _)]) 0 dX9_divideRest_104 rfl (nI_s _) (Nat.le_of_ble_eq_true rfl) rfl ?_
          refine mj_goto 93 dX9_divideRest_107 (by decide) ?_
          exact mj_ls [0, 1, 2, 3, 4, 5] rfl (ih (k + 1) _ _ _ (by omega) (by unfold v_cents; rw [hs]) e1 (o.tr e2))
    have loop1 : ∀ (f : Nat) (k : Nat) (O F : Nat → Int32) (l : Int32) (g : MH), k + f = 20 → v_rs m rest sum (vw V) (vo V) (vf V) k = (O, F, l) → Sh g s (O, vw V, F, vd V) → Off s (s + 4) h g → GG (K, mX9_divideRest, 0, 0, RetP none n (fun h' => Sh h' s (v_rest V m rest sum) ∧ Off s (s + 4) h h')) 0 0 11 [(5, .int (nI k)), (4, .int l), (0, .ref s), (1, .int m), (2, .int rest), (3, .int sum)] [] n g := by
      intro f
      induction f with
      | zero =>
        intro k O F l g hk hs x o
        obtain rfl : k = 20 := (by omega)
        have hl : l = (v_rs m rest sum (vw V) (vo V) (vf V) 20).2.2 := by rw [hs]
        subst hl
        refine mj_iload 0 dX9_divideRest_11 rfl ?_
        refine mj_bipush (v := (20)) dX9_divideRest_13 rfl ?_
        refine mj_icmp_ge 90 dX9_divideRest_15 (by decide) (fun c_15 => ?_) (fun c_15 => ?_)
        · refine mj_iconst (v := 0) dX9_divideRest_90 rfl ?_
          refine mj_istore (ls' := [(5, _), (4, _), (0, _), (1, _), (2, _), (3, _)]) dX9_divideRest_91 (Nat.le_of_ble_eq_true rfl) rfl ?_
          exact mj_ls [0, 1, 2, 3, 4, 5] rfl (loop2 ((v_rs m rest sum (vw V) (vo V) (vf V) 20).2.2.toInt.toNat) 0 O F g (by omega) (by rw [hs]; rfl) x o)
        · exact absurd (nI_le (show 20 ≤ 20 by omega) (by omega)) c_15
      | succ f ih =>
        intro k O F l g hk hs x o
        obtain ⟨x0, x1, x2, x3⟩ := id x
        refine mj_iload 0 dX9_divideRest_11 rfl ?_
        refine mj_bipush (v := (20)) dX9_divideRest_13 rfl ?_
        refine mj_icmp_ge 90 dX9_divideRest_15 (by decide) (fun c_15 => ?_) (fun c_15 => ?_)
        · exact absurd c_15 (nI_ge (show k < 20 by omega) (by decide))
        · refine mj_iload_n 4 dX9_divideRest_18 rfl ?_
          refine mj_aload_n 2 dX9_divideRest_19 rfl ?_
          refine mj_getf dX9_divideRest_20 fgX9_15 (by repeat (first | assumption | exact mup_s _ _ _ | rw [mup_n _ _ (by omega)])) rfl ?_
          refine mj_iload 0 dX9_divideRest_23 rfl ?_
          refine mj_iald (by repeat (first | assumption | exact mup_s _ _ _ | rw [mup_n _ _ (by omega)])) (by first | assumption | rfl | exact ixn (by omega)) (by first | assumption | decide | omega) dX9_divideRest_25 ?_
          refine mj_imul dX9_divideRest_26 ?_
          refine mj_iload_n 5 dX9_divideRest_27 rfl ?_
          refine mj_idiv dX9_divideRest_28 hne ?_
          refine mj_istore (ls' := [(6, _), (5, _), (4, _), (0, _), (1, _), (2, _), (3, _)]) dX9_divideRest_29 (Nat.le_of_ble_eq_true rfl) rfl ?_
          refine mj_aload_n 3 dX9_divideRest_31 rfl ?_
          refine mj_getf dX9_divideRest_32 fgX9_18 (by repeat (first | assumption | exact mup_s _ _ _ | rw [mup_n _ _ (by omega)])) rfl ?_
          refine mj_iload 1 dX9_divideRest_35 rfl ?_
          refine mj_iload_n 4 dX9_divideRest_37 rfl ?_
          refine mj_iload 1 dX9_divideRest_38 rfl ?_
          refine mj_cS1 [_, _] dX9_divideRest_40 cwX9_isIn lkX9_64 rfl (cn_X9_isIn) ⟨Nat.le_of_ble_eq_true rfl, Nat.le_of_ble_eq_true rfl, Nat.le_of_ble_eq_true rfl, Nat.le_of_ble_eq_true rfl, Nat.le_of_ble_eq_true rfl⟩ (fun h' e' => ?_)
          subst e'
          refine mj_if_eq 63 dX9_divideRest_43 (by decide) (fun c_43 => ?_) (fun c_43 => ?_)
          · have z1 := bI_0.mp c_43
            refine mj_iconst (v := (-1)) dX9_divideRest_63 rfl ?_
            refine mj_iast (by repeat (first | assumption | exact mup_s _ _ _ | rw [mup_n _ _ (by omega)])) (by first | assumption | rfl | exact ixn (by omega)) (by first | assumption | decide | omega) dX9_divideRest_64 ?_
            refine mj_aload_n 3 dX9_divideRest_65 rfl ?_
            refine mj_getf dX9_divideRest_66 fgX9_9 (by repeat (first | assumption | exact mup_s _ _ _ | rw [mup_n _ _ (by omega)])) rfl ?_
            refine mj_iload 1 dX9_divideRest_69 rfl ?_
            refine mj_dup2 dX9_divideRest_71 rfl rfl ?_
            refine mj_iald (by repeat (first | assumption | exact mup_s _ _ _ | rw [mup_n _ _ (by omega)])) (by first | assumption | rfl | exact ixn (by omega)) (by first | assumption | decide | omega) dX9_divideRest_72 ?_
            refine mj_iload 0 dX9_divideRest_73 rfl ?_
            refine mj_iadd dX9_divideRest_75 ?_
            refine mj_iast (by repeat (first | assumption | exact mup_s _ _ _ | rw [mup_n _ _ (by omega)])) (by first | assumption | rfl | exact ixn (by omega)) (by first | assumption | decide | omega) dX9_divideRest_76 ?_
            refine mj_iload 2 dX9_divideRest_77 rfl ?_
            refine mj_iload 0 dX9_divideRest_79 rfl ?_
            refine mj_isub dX9_divideRest_81 ?_
            refine mj_istore (ls' := [(4, _), (6, _), (5, _), (0, _), (1, _), (2, _), (3, _)]) dX9_divideRest_82 (Nat.le_of_ble_eq_true rfl) rfl ?_
            refine mj_iinc (ls' := [(5, _), (4, _), (6, _), (0, _), (1, _), (2, _), (3, _)]) 2 dX9_divideRest_84 rfl (nI_s _) (Nat.le_of_ble_eq_true rfl) rfl ?_
            refine mj_goto 11 dX9_divideRest_87 (by decide) ?_
            exact mj_ls [0, 1, 3, 4, 5, 6] rfl (ih (k + 1) _ _ _ _ (by omega) (by simp only [v_rs, hs, z1]; rfl) ⟨(by repeat (first | assumption | exact mup_s _ _ _ | rw [mup_n _ _ (by omega)])), (by repeat (first | assumption | exact mup_s _ _ _ | rw [mup_n _ _ (by omega)])), (by repeat (first | assumption | exact mup_s _ _ _ | rw [mup_n _ _ (by omega)])), (by repeat (first | assumption | exact mup_s _ _ _ | rw [mup_n _ _ (by omega)]))⟩ (o.tr (by repeat (first | exact Off.rf | assumption | refine Off.m ?_ _ (by omega) (by omega)))))
          · have z1 := bI_n0.mp c_43
            refine mj_iload_n 5 dX9_divideRest_46 rfl ?_
            refine mj_aload_n 3 dX9_divideRest_47 rfl ?_
            refine mj_getf dX9_divideRest_48 fgX9_15 (by repeat (first | assumption | exact mup_s _ _ _ | rw [mup_n _ _ (by omega)])) rfl ?_
            refine mj_iload 1 dX9_divideRest_51 rfl ?_
            refine mj_iald (by repeat (first | assumption | exact mup_s _ _ _ | rw [mup_n _ _ (by omega)])) (by first | assumption | rfl | exact ixn (by omega)) (by first | assumption | decide | omega) dX9_divideRest_53 ?_
            refine mj_imul dX9_divideRest_54 ?_
            refine mj_iload 0 dX9_divideRest_55 rfl ?_
            refine mj_iload_n 6 dX9_divideRest_57 rfl ?_
            refine mj_imul dX9_divideRest_58 ?_
            refine mj_isub dX9_divideRest_59 ?_
            refine mj_goto 64 dX9_divideRest_60 (by decide) ?_
            refine mj_iast (by repeat (first | assumption | exact mup_s _ _ _ | rw [mup_n _ _ (by omega)])) (by first | assumption | rfl | exact ixn (by omega)) (by first | assumption | decide | omega) dX9_divideRest_64 ?_
            refine mj_aload_n 3 dX9_divideRest_65 rfl ?_
            refine mj_getf dX9_divideRest_66 fgX9_9 (by repeat (first | assumption | exact mup_s _ _ _ | rw [mup_n _ _ (by omega)])) rfl ?_
            refine mj_iload 1 dX9_divideRest_69 rfl ?_
            refine mj_dup2 dX9_divideRest_71 rfl rfl ?_
            refine mj_iald (by repeat (first | assumption | exact mup_s _ _ _ | rw [mup_n _ _ (by omega)])) (by first | assumption | rfl | exact ixn (by omega)) (by first | assumption | decide | omega) dX9_divideRest_72 ?_
            refine mj_iload 0 dX9_divideRest_73 rfl ?_
            refine mj_iadd dX9_divideRest_75 ?_
            refine mj_iast (by repeat (first | assumption | exact mup_s _ _ _ | rw [mup_n _ _ (by omega)])) (by first | assumption | rfl | exact ixn (by omega)) (by first | assumption | decide | omega) dX9_divideRest_76 ?_
            refine mj_iload 2 dX9_divideRest_77 rfl ?_
            refine mj_iload 0 dX9_divideRest_79 rfl ?_
            refine mj_isub dX9_divideRest_81 ?_
            refine mj_istore (ls' := [(4, _), (6, _), (5, _), (0, _), (1, _), (2, _), (3, _)]) dX9_divideRest_82 (Nat.le_of_ble_eq_true rfl) rfl ?_
            refine mj_iinc (ls' := [(5, _), (4, _), (6, _), (0, _), (1, _), (2, _), (3, _)]) 2 dX9_divideRest_84 rfl (nI_s _) (Nat.le_of_ble_eq_true rfl) rfl ?_
            refine mj_goto 11 dX9_divideRest_87 (by decide) ?_
            exact mj_ls [0, 1, 3, 4, 5, 6] rfl (ih (k + 1) _ _ _ _ (by omega) (by simp only [v_rs, hs, z1]; rfl) ⟨(by repeat (first | assumption | exact mup_s _ _ _ | rw [mup_n _ _ (by omega)])), (by repeat (first | assumption | exact mup_s _ _ _ | rw [mup_n _ _ (by omega)])), (by repeat (first | assumption | exact mup_s _ _ _ | rw [mup_n _ _ (by omega)])), (by repeat (first | assumption | exact mup_s _ _ _ | rw [mup_n _ _ (by omega)]))⟩ (o.tr (by repeat (first | exact Off.rf | assumption | refine Off.m ?_ _ (by omega) (by omega)))))
    refine mj_iload_n 3 dX9_divideRest_0 rfl ?_
    refine mj_if_gt 5 dX9_divideRest_1 (by decide) (fun c_1 => ?_) (fun c_1 => ?_)
    · refine mj_iload_n 2 dX9_divideRest_5 rfl ?_
      refine mj_istore (ls' := [(4, _), (0, _), (1, _), (2, _), (3, _)]) dX9_divideRest_6 (Nat.le_of_ble_eq_true rfl) rfl ?_
      refine mj_iconst (v := 0) dX9_divideRest_8 rfl ?_
      refine mj_istore (ls' := [(5, _), (4, _), (0, _), (1, _), (2, _), (3, _)]) dX9_divideRest_9 (Nat.le_of_ble_eq_true rfl) rfl ?_
      exact mj_ls [0, 1, 2, 3, 4, 5] rfl (loop1 20 0 (vo V) (vf V) rest h (by omega) rfl x9 Off.rf)
    · exact absurd hs0 c_1
  · skip
    refine mj_iload_n 3 dX9_divideRest_0 rfl ?_
    refine mj_if_gt 5 dX9_divideRest_1 (by decide) (fun c_1 => ?_) (fun c_1 => ?_)
    · exact absurd c_1 hs0
    · exact mj_vret dX9_divideRest_4 rfl (Nat.le_of_ble_eq_true rfl) (Nat.le_of_ble_eq_true rfl) ⟨rfl, rfl, ⟨by unfold v_rest; rw [if_neg hs0]; exact x9, Off.rf⟩⟩
set_option maxRecDepth 100000 in
set_option maxHeartbeats 4000000 in
theorem cn_X9_divide {K : KX} {n : Nat} {h : MH} {s : Nat} {V : VS} (x : Sh h s V) {e : Nat} {num : Int32} {D : DS} {R : RS} (d : Dr h e num D R) (h2 : 1 ≤ rn R) (hc : e + 6 ≤ s ∨ s + 4 ≤ e) : Con K mX9_divide [.ref s, .ref e] 0 0 n h (RetP none n (fun h' => Sh h' s (v_div V R (dra D)) ∧ Off s (s + 4) h h')) := by
  refine Con.of (by decide +kernel) (Nat.le_of_ble_eq_true rfl) ?_
  have x9 := x
  obtain ⟨x0, x1, x2, x3⟩ := x
  obtain ⟨d0, d1⟩ := d
  refine mj_aload_n 1 dX9_divide_0 rfl ?_
  refine mj_getf dX9_divide_1 fgX9_21 (by repeat (first | assumption | exact mup_s _ _ _ | rw [mup_n _ _ (by omega)])) rfl ?_
  refine mj_cV1 [] (RX6, TX6, 5) dX9_divide_4 cwX6_riderMask lkX9_27 (d1.1) rfl rfl rfl rfl (cn_X6_riderMask d1) ⟨Nat.le_of_ble_eq_true rfl, Nat.le_of_ble_eq_true rfl, Nat.le_of_ble_eq_true rfl, Nat.le_of_ble_eq_true rfl, Nat.le_of_ble_eq_true rfl⟩ (fun h' e' => ?_)
  subst e'
  refine mj_istore_n (ls' := [(2, _), (0, _), (1, _)]) dX9_divide_7 (Nat.le_of_ble_eq_true rfl) rfl ?_
  refine mj_aload_n 1 dX9_divide_8 rfl ?_
  refine mj_iload_n 0 dX9_divide_9 rfl ?_
  refine mj_aload_n 2 dX9_divide_10 rfl ?_
  refine mj_getf dX9_divide_11 fgX9_21 (by repeat (first | assumption | exact mup_s _ _ _ | rw [mup_n _ _ (by omega)])) rfl ?_
  refine mj_cV1 [] (RX6, TX6, 5) dX9_divide_14 cwX6_directLength lkX9_33 (d1.1) rfl rfl rfl rfl (cn_X6_directLength d1 h2) ⟨Nat.le_of_ble_eq_true rfl, Nat.le_of_ble_eq_true rfl, Nat.le_of_ble_eq_true rfl, Nat.le_of_ble_eq_true rfl, Nat.le_of_ble_eq_true rfl⟩ (fun h' e' => ?_)
  subst e'
  refine mj_aload_n 2 dX9_divide_17 rfl ?_
  refine mj_getf dX9_divide_18 fgX9_36 (by repeat (first | assumption | exact mup_s _ _ _ | rw [mup_n _ _ (by omega)])) rfl ?_
  refine mj_imul dX9_divide_21 ?_
  refine mj_cV0 [_, _] (RX9, TX9, 4) dX9_divide_22 cwX9_divideBase lkX9_40 x0 rfl rfl rfl rfl (cn_X9_divideBase x9) ⟨Nat.le_of_ble_eq_true rfl, Nat.le_of_ble_eq_true rfl, Nat.le_of_ble_eq_true rfl, Nat.le_of_ble_eq_true rfl, Nat.le_of_ble_eq_true rfl⟩ (fun h' e' => ?_)
  obtain ⟨y, o1⟩ := e'
  have y0 := y.1
  have d0 := o1.at d0 (by omega)
  have d1 := d1.off o1 (by omega)
  refine mj_aload_n 1 dX9_divide_25 rfl ?_
  refine mj_iload_n 0 dX9_divide_26 rfl ?_
  refine mj_aload_n 2 dX9_divide_27 rfl ?_
  refine mj_getf dX9_divide_28 fgX9_21 (by repeat (first | assumption | exact mup_s _ _ _ | rw [mup_n _ _ (by omega)])) rfl ?_
  refine mj_cV1 [] (RX6, TX6, 5) dX9_divide_31 cwX6_detourLength lkX9_44 (d1.1) rfl rfl rfl rfl (cn_X6_detourLength d1 h2) ⟨Nat.le_of_ble_eq_true rfl, Nat.le_of_ble_eq_true rfl, Nat.le_of_ble_eq_true rfl, Nat.le_of_ble_eq_true rfl, Nat.le_of_ble_eq_true rfl⟩ (fun h' e' => ?_)
  subst e'
  refine mj_aload_n 2 dX9_divide_34 rfl ?_
  refine mj_getf dX9_divide_35 fgX9_36 (by repeat (first | assumption | exact mup_s _ _ _ | rw [mup_n _ _ (by omega)])) rfl ?_
  refine mj_imul dX9_divide_38 ?_
  refine mj_aload_n 1 dX9_divide_39 rfl ?_
  refine mj_iload_n 0 dX9_divide_40 rfl ?_
  refine mj_aload_n 2 dX9_divide_41 rfl ?_
  refine mj_getf dX9_divide_42 fgX9_21 (by repeat (first | assumption | exact mup_s _ _ _ | rw [mup_n _ _ (by omega)])) rfl ?_
  refine mj_cV1 [_, _] (RX9, TX9, 4) dX9_divide_45 cwX9_weigh lkX9_47 y0 rfl rfl rfl rfl (cn_X9_weigh y d1 h2 (by omega)) ⟨Nat.le_of_ble_eq_true rfl, Nat.le_of_ble_eq_true rfl, Nat.le_of_ble_eq_true rfl, Nat.le_of_ble_eq_true rfl, Nat.le_of_ble_eq_true rfl⟩ (fun h' e' => ?_)
  obtain ⟨z, o2⟩ := e'
  have z0 := z.1
  refine mj_cV0 [_, _, _] (RX9, TX9, 4) dX9_divide_48 cwX9_divideRest lkX9_51 z0 rfl rfl rfl rfl (cn_X9_divideRest z) ⟨Nat.le_of_ble_eq_true rfl, Nat.le_of_ble_eq_true rfl, Nat.le_of_ble_eq_true rfl, Nat.le_of_ble_eq_true rfl, Nat.le_of_ble_eq_true rfl⟩ (fun h' e' => ?_)
  obtain ⟨w, o3⟩ := e'
  exact mj_vret dX9_divide_51 rfl (Nat.le_of_ble_eq_true rfl) (Nat.le_of_ble_eq_true rfl) ⟨rfl, rfl, ⟨w, (o1.tr o2).tr o3⟩⟩
set_option maxRecDepth 100000 in
set_option maxHeartbeats 4000000 in
theorem cn_X9_init {K : KX} {n : Nat} {h : MH} {s : Nat} (hn : n = s + 1) (x : h s = some (cO 9 [.null, .null, .null, .int 0])) : Con K mX9_init [.ref s] 3 60 n h (RetP none (n + 3) (fun h' => ∃ V, Sh h' s V ∧ Off s (s + 4) h h')) := by
  refine Con.of (by decide +kernel) (Nat.le_of_ble_eq_true rfl) ?_
  subst hn
  refine mj_aload_n 0 dX9_init_0 rfl ?_
  refine mj_objInit dX9_init_1 mlX9_3 im_obj cd_obj (Nat.le_of_ble_eq_true rfl) (Nat.le_of_ble_eq_true rfl) ?_
  refine mj_aload_n 0 dX9_init_4 rfl ?_
  refine mj_bipush (v := (20)) dX9_init_5 rfl ?_
  refine mj_newaI dX9_init_7 ac_int (show (20 : Int32).toInt = ((20 : Nat) : Int) from rfl) (by omega) (Nat.le_of_ble_eq_true rfl) (Nat.le_of_ble_eq_true rfl) ?_
  refine mj_putG dX9_init_9 ffX9_9 (by repeat (first | assumption | exact mup_s _ _ _ | rw [mup_n _ _ (by omega)])) rfl rfl (by intro r h9; cases h9; rfl) rfl rfl (Nat.le_of_ble_eq_true rfl) rfl ?_
  refine mj_aload_n 0 dX9_init_12 rfl ?_
  refine mj_bipush (v := (20)) dX9_init_13 rfl ?_
  refine mj_newaI dX9_init_15 ac_int (show (20 : Int32).toInt = ((20 : Nat) : Int) from rfl) (by omega) (Nat.le_of_ble_eq_true rfl) (Nat.le_of_ble_eq_true rfl) ?_
  refine mj_putG dX9_init_17 ffX9_15 (by repeat (first | assumption | exact mup_s _ _ _ | rw [mup_n _ _ (by omega)])) rfl rfl (by intro r h9; cases h9; rfl) rfl rfl (Nat.le_of_ble_eq_true rfl) rfl ?_
  refine mj_aload_n 0 dX9_init_20 rfl ?_
  refine mj_bipush (v := (20)) dX9_init_21 rfl ?_
  refine mj_newaI dX9_init_23 ac_int (show (20 : Int32).toInt = ((20 : Nat) : Int) from rfl) (by omega) (Nat.le_of_ble_eq_true rfl) (Nat.le_of_ble_eq_true rfl) ?_
  refine mj_putG dX9_init_25 ffX9_18 (by repeat (first | assumption | exact mup_s _ _ _ | rw [mup_n _ _ (by omega)])) rfl rfl (by intro r h9; cases h9; rfl) rfl rfl (Nat.le_of_ble_eq_true rfl) rfl ?_
  exact mj_vret dX9_init_28 rfl (Nat.le_of_ble_eq_true rfl) (Nat.le_of_ble_eq_true rfl) ⟨rfl, rfl, ⟨(fun _ => 0, fun _ => 0, fun _ => 0, 0), ⟨(by repeat (first | assumption | exact mup_s _ _ _ | rw [mup_n _ _ (by omega)])), (by repeat (first | assumption | exact mup_s _ _ _ | rw [mup_n _ _ (by omega)])), (by repeat (first | assumption | exact mup_s _ _ _ | rw [mup_n _ _ (by omega)])), (by repeat (first | assumption | exact mup_s _ _ _ | rw [mup_n _ _ (by omega)]))⟩, (by repeat (first | exact Off.rf | assumption | refine Off.m ?_ _ (by omega) (by omega)))⟩⟩
