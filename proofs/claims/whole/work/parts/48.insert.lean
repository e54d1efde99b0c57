theorem len_if {α : Type} (c : Prop) [Decidable c] (a : α) : (if c then [a] else []).length = if c then 1 else 0 := by split <;> rfl
/-- the row that layInsertion lays, up to place k -/
def w_lay (l : List Int32) (r i j : Nat) : Nat → List Int32
  | 0 => []
  | k + 1 => w_lay l r i j k ++ ((if k = i then [nI r] else []) ++ ((if k = j then [nI (100 + r)] else []) ++ (if k < l.length then [l.getD k 0] else [])))
def w_ins (l : List Int32) (r i j : Nat) : List Int32 := w_lay l r i j (l.length + 1)
theorem w_lay_n (l : List Int32) (r i j : Nat) : ∀ k, k ≤ l.length + 1 → (w_lay l r i j k).length = (if k ≤ l.length then k else l.length) + ((if i < k then 1 else 0) + (if j < k then 1 else 0))
  | 0, _ => by simp [w_lay]
  | k + 1, h => by
    have ih := w_lay_n l r i j k (by omega)
    unfold w_lay
    simp only [List.length_append]
    rw [ih, len_if, len_if, len_if]
    (repeat' split) <;> omega
theorem w_lay_c (l : List Int32) {r : Nat} (hr : r < 20) (i j : Nat) (h : ∀ c, c ∈ l → SCode c) : ∀ k c, c ∈ w_lay l r i j k → SCode c
  | 0, c, q => absurd q List.not_mem_nil
  | k + 1, c, q => by
    unfold w_lay at q
    simp only [List.mem_append] at q
    rcases q with q | q | q | q
    · exact w_lay_c l hr i j h k c q
    · split at q
      · rw [List.mem_singleton.mp q]; exact ⟨r, hr, Or.inl rfl⟩
      · exact absurd q List.not_mem_nil
    · split at q
      · rw [List.mem_singleton.mp q]; exact ⟨r, hr, Or.inr rfl⟩
      · exact absurd q List.not_mem_nil
    · split at q
      · rename_i hk
        rw [List.mem_singleton.mp q, List.getD_eq_getElem?_getD, List.getElem?_eq_getElem hk]
        exact h _ (List.getElem_mem hk)
      · exact absurd q List.not_mem_nil
theorem w_ins_n (l : List Int32) (r : Nat) {i j : Nat} (hi : i ≤ l.length) (hj : j ≤ l.length) : (w_ins l r i j).length = l.length + 2 := by
  unfold w_ins
  rw [w_lay_n l r i j _ (Nat.le_refl _), if_neg (by omega), if_pos (by omega), if_pos (by omega)]
theorem Row.nil (M : MS) : Row (srcnt M 0) [] := ⟨rfl, rfl⟩
theorem Row.push {M : MS} {l : List Int32} (h : Row M l) (c : Int32) : Row (srcnt (srow M (upd (grow M) l.length c)) (nI (l.length + 1))) (l ++ [c]) := by
  refine ⟨?_, ?_⟩
  · rw [List.length_append]; rfl
  · rw [List.length_append]
    show rowL (upd (grow M) l.length c) (l.length + 1) = l ++ [c]
    rw [rowL_s, rowL_c (f' := grow M) (fun j hj => by unfold upd; rw [if_neg (by omega)]), h.2]
    unfold upd
    rw [if_pos rfl]
set_option maxRecDepth 100000 in
set_option maxHeartbeats 4000000 in
theorem cn_X11_layInsertion {K : KX} {n : Nat} {h : MH} {h0 : MH} {m : Nat} {M : MS} (x : Md h0 m M h) {r d i j : Nat} {l : List Int32} (hr : r < 20) (hd : d < 8) (hg : Rsu (gbrd M) d l) (hij : i ≤ j) (hj : j ≤ l.length) : Con K mX11_layInsertion [.ref m, .int (nI r), .int (nI d), .int (nI l.length), .int (nI i), .int (nI j)] 0 0 n h (RetP none n (MsM h0 m M d (w_ins l r i j))) := by
  refine Con.of (by decide +kernel) (Nat.le_of_ble_eq_true rfl) ?_
  have hi : i ≤ l.length := Nat.le_trans hij hj
  have hll := hg.2.1
  have loop : ∀ (f : Nat) (k : Nat) (M1 : MS) (h1 : MH), k + f = l.length + 1 → Md h0 m M1 h1 → Sr M M1 → Row M1 (w_lay l r i j k) → GG (K, mX11_layInsertion, 0, 0, RetP none n (MsM h0 m M d (w_ins l r i j))) 0 0 8 [(6, .int (nI k)), (0, .ref m), (1, .int (nI r)), (2, .int (nI d)), (3, .int (nI l.length)), (4, .int (nI i)), (5, .int (nI j))] [] n h1 := by
    intro f
    induction f with
    | zero =>
      intro k M1 h1 hk x sr hR
      have hke : k = l.length + 1 := by omega
      subst hke
      have hn := w_ins_n l r hi (show j ≤ l.length by omega)
      have hcd : ∀ c, c ∈ w_ins l r i j → SCode c := w_lay_c l hr i j hg.2.2 (l.length + 1)
      have hR : Row M1 (w_ins l r i j) := hR
      refine mj_iload 0 dX11_layInsertion_8 rfl ?_
      refine mj_iload_n 4 dX11_layInsertion_10 rfl ?_
      refine mj_icmp_gt 109 dX11_layInsertion_11 (by decide) (fun c_11 => ?_) (fun c_11 => ?_)
      · refine mj_aload_n 1 dX11_layInsertion_109 rfl ?_
        refine mj_iload_n 3 dX11_layInsertion_110 rfl ?_
        refine mj_cV0 [_] (RX11, TX11, 32) dX11_layInsertion_111 cwX11_measureRow lkX11_152 x.ko rfl rfl rfl rfl (cr_measureRow x sr hd hR (by omega) hcd) ⟨Nat.le_of_ble_eq_true rfl, Nat.le_of_ble_eq_true rfl, Nat.le_of_ble_eq_true rfl, Nat.le_of_ble_eq_true rfl, Nat.le_of_ble_eq_true rfl⟩ (fun h x => ?_)
        exact mj_vret dX11_layInsertion_114 rfl (Nat.le_of_ble_eq_true rfl) (Nat.le_of_ble_eq_true rfl) ⟨rfl, rfl, x⟩
      · exact absurd ((nI_ltI (by omega) (by omega)).mpr (by omega)) c_11
    | succ f ih =>
      intro k M1 h1 hk x sr hR
      have hk2 : k ≤ l.length := by omega
      have hE : w_lay l r i j k ++ ((if k = i then [nI r] else []) ++ ((if k = j then [nI (100 + r)] else []) ++ (if k < l.length then [l.getD k 0] else []))) = w_lay l r i j (k + 1) := rfl
      have hW := w_lay_n l r i j (k + 1) (by omega)
      have hW2 : (w_lay l r i j (k + 1)).length ≤ 42 := by rw [hW]; split <;> split <;> split <;> omega
      have ih : ∀ (M1 : MS) (h1 : MH), Md h0 m M1 h1 → Sr M M1 → Row M1 (w_lay l r i j (k + 1)) → GG (K, mX11_layInsertion, 0, 0, RetP none n (MsM h0 m M d (w_ins l r i j))) 0 0 8 [(6, .int (nI (k + 1))), (0, .ref m), (1, .int (nI r)), (2, .int (nI d)), (3, .int (nI l.length)), (4, .int (nI i)), (5, .int (nI j))] [] n h1 := fun M1 h1 x sr hR => ih (k + 1) M1 h1 (by omega) x sr hR
      generalize w_lay l r i j (k + 1) = W at hE hW2 ih
      have t71 : ∀ (M1 : MS) (L : List Int32) (h1 : MH), Md h0 m M1 h1 → Sr M M1 → Row M1 L → L ++ (if k < l.length then [l.getD k 0] else []) = W → GG (K, mX11_layInsertion, 0, 0, RetP none n (MsM h0 m M d (w_ins l r i j))) 0 0 71 [(6, .int (nI k)), (0, .ref m), (1, .int (nI r)), (2, .int (nI d)), (3, .int (nI l.length)), (4, .int (nI i)), (5, .int (nI j))] [] n h1 := by
        intro M1 L h1 x sr hR hE
        refine mj_iload 0 dX11_layInsertion_71 rfl ?_
        refine mj_iload_n 4 dX11_layInsertion_73 rfl ?_
        refine mj_icmp_ge 103 dX11_layInsertion_74 (by decide) (fun c_74 => ?_) (fun c_74 => ?_)
        · have z : ¬ k < l.length := Nat.not_lt.mpr ((nI_leI (by omega) (by omega)).mp c_74)
          rw [if_neg z, List.append_nil] at hE
          refine mj_iinc (ls' := [(6, _), (0, _), (1, _), (2, _), (3, _), (4, _), (5, _)]) 0 dX11_layInsertion_103 rfl (nI_s _) (Nat.le_of_ble_eq_true rfl) rfl ?_
          refine mj_goto 8 dX11_layInsertion_106 (by decide) ?_
          exact mj_ls [0, 1, 2, 3, 4, 5, 6] rfl (ih _ h1 x sr (hE ▸ hR))
        · have z : k < l.length := Nat.lt_of_not_le (fun q => c_74 (nI_le q (by omega)))
          rw [if_pos z] at hE
          have hl := congrArg List.length hE
          simp only [List.length_append] at hl
          simp only [List.length_singleton] at hl
          refine mj_aload_n 1 dX11_layInsertion_77 rfl ?_
          refine mj_getf dX11_layInsertion_78 fgX11_33 x.ko rfl ?_
          refine mj_aload_n 1 dX11_layInsertion_81 rfl ?_
          refine mj_getf dX11_layInsertion_82 fgX11_137 x.ko rfl ?_
          refine mj_eq (hR.1) ?_
          refine mj_aload_n 1 dX11_layInsertion_85 rfl ?_
          refine mj_iload_n 3 dX11_layInsertion_86 rfl ?_
          refine mj_iload 0 dX11_layInsertion_87 rfl ?_
          refine mj_cV1 [_, _] (RX11, TX11, 32) dX11_layInsertion_89 cwX11_stop lkX11_149 x.ko rfl rfl rfl rfl (cn_X11_stop x (d := d) (i := k) hd (by omega)) ⟨Nat.le_of_ble_eq_true rfl, Nat.le_of_ble_eq_true rfl, Nat.le_of_ble_eq_true rfl, Nat.le_of_ble_eq_true rfl, Nat.le_of_ble_eq_true rfl⟩ (fun h x => ?_)
          refine mj_eq ((congrFun sr.d _).trans (hg.g (by omega))) ?_
          refine mM_arow x (ixn (by omega)) (show L.length < 44 by omega) dX11_layInsertion_92 (fun h x => ?_)
          refine mj_aload_n 1 dX11_layInsertion_93 rfl ?_
          refine mj_dup dX11_layInsertion_94 rfl ?_
          refine mj_getf dX11_layInsertion_95 fgX11_137 x.ko rfl ?_
          refine mj_eq (hR.1) ?_
          refine mj_iconst (v := 1) dX11_layInsertion_98 rfl ?_
          refine mj_iadd dX11_layInsertion_99 ?_
          refine mj_eq (nI_1 _) ?_
          refine mM_prcnt dX11_layInsertion_100 fgX11_137 x (fun h x => ?_)
          refine mj_iinc (ls' := [(6, _), (0, _), (1, _), (2, _), (3, _), (4, _), (5, _)]) 0 dX11_layInsertion_103 rfl (nI_s _) (Nat.le_of_ble_eq_true rfl) rfl ?_
          refine mj_goto 8 dX11_layInsertion_106 (by decide) ?_
          exact mj_ls [0, 1, 2, 3, 4, 5, 6] rfl (ih _ h x ((sr.oA (k := 8) _ rfl).oF (k := 9) _ rfl) (hE ▸ hR.push (l.getD k 0)))
      have t41 : ∀ (M1 : MS) (L : List Int32) (h1 : MH), Md h0 m M1 h1 → Sr M M1 → Row M1 L → L ++ ((if k = j then [nI (100 + r)] else []) ++ (if k < l.length then [l.getD k 0] else [])) = W → GG (K, mX11_layInsertion, 0, 0, RetP none n (MsM h0 m M d (w_ins l r i j))) 0 0 41 [(6, .int (nI k)), (0, .ref m), (1, .int (nI r)), (2, .int (nI d)), (3, .int (nI l.length)), (4, .int (nI i)), (5, .int (nI j))] [] n h1 := by
        intro M1 L h1 x sr hR hE
        refine mj_iload 0 dX11_layInsertion_41 rfl ?_
        refine mj_iload 6 dX11_layInsertion_43 rfl ?_
        refine mj_icmp_ne 71 dX11_layInsertion_45 (by decide) (fun c_45 => ?_) (fun c_45 => ?_)
        · have z : ¬ k = j := fun q => c_45 (by rw [q])
          rw [if_neg z, List.nil_append] at hE
          exact mj_ls [0, 1, 2, 3, 4, 5, 6] rfl (t71 _ _ _ x sr hR hE)
        · have z : k = j := (nI_inj (by omega) (by omega)).mp c_45
          rw [if_pos z, ← List.append_assoc] at hE
          have hl := congrArg List.length hE
          simp only [List.length_append] at hl
          simp only [List.length_singleton] at hl
          refine mj_aload_n 1 dX11_layInsertion_48 rfl ?_
          refine mj_getf dX11_layInsertion_49 fgX11_33 x.ko rfl ?_
          refine mj_aload_n 1 dX11_layInsertion_52 rfl ?_
          refine mj_getf dX11_layInsertion_53 fgX11_137 x.ko rfl ?_
          refine mj_eq (hR.1) ?_
          refine mj_bipush (v := (100)) dX11_layInsertion_56 rfl ?_
          refine mj_iload_n 2 dX11_layInsertion_58 rfl ?_
          refine mj_iadd dX11_layInsertion_59 ?_
          refine mj_eq ((show (100 : Int32) + nI r = nI (100 + r) from nI_add 100 r)) ?_
          refine mM_arow x (ixn (by omega)) (show L.length < 44 by omega) dX11_layInsertion_60 (fun h x => ?_)
          refine mj_aload_n 1 dX11_layInsertion_61 rfl ?_
          refine mj_dup dX11_layInsertion_62 rfl ?_
          refine mj_getf dX11_layInsertion_63 fgX11_137 x.ko rfl ?_
          refine mj_eq (hR.1) ?_
          refine mj_iconst (v := 1) dX11_layInsertion_66 rfl ?_
          refine mj_iadd dX11_layInsertion_67 ?_
          refine mj_eq (nI_1 _) ?_
          refine mM_prcnt dX11_layInsertion_68 fgX11_137 x (fun h x => ?_)
          exact mj_ls [0, 1, 2, 3, 4, 5, 6] rfl (t71 _ _ _ x ((sr.oA (k := 8) _ rfl).oF (k := 9) _ rfl) (hR.push _) hE)
      revert hR hE
      generalize w_lay l r i j k = L
      intro hR hE
      refine mj_iload 0 dX11_layInsertion_8 rfl ?_
      refine mj_iload_n 4 dX11_layInsertion_10 rfl ?_
      refine mj_icmp_gt 109 dX11_layInsertion_11 (by decide) (fun c_11 => ?_) (fun c_11 => ?_)
      · exact absurd ((nI_ltI (by omega) (by omega)).mp c_11) (by omega)
      · refine mj_iload 0 dX11_layInsertion_14 rfl ?_
        refine mj_iload 5 dX11_layInsertion_16 rfl ?_
        refine mj_icmp_ne 41 dX11_layInsertion_18 (by decide) (fun c_18 => ?_) (fun c_18 => ?_)
        · have z : ¬ k = i := fun q => c_18 (by rw [q])
          rw [if_neg z, List.nil_append] at hE
          exact mj_ls [0, 1, 2, 3, 4, 5, 6] rfl (t41 _ _ _ x sr hR hE)
        · have z : k = i := (nI_inj (by omega) (by omega)).mp c_18
          rw [if_pos z, ← List.append_assoc] at hE
          have hl := congrArg List.length hE
          simp only [List.length_append] at hl
          simp only [List.length_singleton] at hl
          refine mj_aload_n 1 dX11_layInsertion_21 rfl ?_
          refine mj_getf dX11_layInsertion_22 fgX11_33 x.ko rfl ?_
          refine mj_aload_n 1 dX11_layInsertion_25 rfl ?_
          refine mj_getf dX11_layInsertion_26 fgX11_137 x.ko rfl ?_
          refine mj_eq (hR.1) ?_
          refine mj_iload_n 2 dX11_layInsertion_29 rfl ?_
          refine mM_arow x (ixn (by omega)) (show L.length < 44 by omega) dX11_layInsertion_30 (fun h x => ?_)
          refine mj_aload_n 1 dX11_layInsertion_31 rfl ?_
          refine mj_dup dX11_layInsertion_32 rfl ?_
          refine mj_getf dX11_layInsertion_33 fgX11_137 x.ko rfl ?_
          refine mj_eq (hR.1) ?_
          refine mj_iconst (v := 1) dX11_layInsertion_36 rfl ?_
          refine mj_iadd dX11_layInsertion_37 ?_
          refine mj_eq (nI_1 _) ?_
          refine mM_prcnt dX11_layInsertion_38 fgX11_137 x (fun h x => ?_)
          exact mj_ls [0, 1, 2, 3, 4, 5, 6] rfl (t41 _ _ _ x ((sr.oA (k := 8) _ rfl).oF (k := 9) _ rfl) (hR.push _) hE)
  refine mj_aload_n 0 dX11_layInsertion_0 rfl ?_
  refine mj_iconst (v := 0) dX11_layInsertion_1 rfl ?_
  refine mM_prcnt dX11_layInsertion_2 fgX11_137 x (fun h x => ?_)
  refine mj_iconst (v := 0) dX11_layInsertion_5 rfl ?_
  refine mj_istore (ls' := [(6, _), (0, _), (1, _), (2, _), (3, _), (4, _), (5, _)]) dX11_layInsertion_6 (Nat.le_of_ble_eq_true rfl) rfl ?_
  exact mj_ls [0, 1, 2, 3, 4, 5, 6] rfl (loop (l.length + 1) 0 _ h (by omega) x (Scg.rf.oF (k := 9) _ rfl) (Row.nil M))
