/-- the drive along the row: place, time, riders in the car, length, validity, arrivals -/
abbrev QS : Type := Int32 × Int32 × Int32 × Int32 × Int32 × Bool × (Nat → Int32)
def q_go (M : MS) (d : Nat) (s : QS) (k : Nat) : QS :=
  if grow M k < 100 then (q_sx M (grow M k), q_sy M (grow M k), i_max (s.2.2.1 + i_dist s.1 s.2.1 (q_sx M (grow M k)) (q_sy M (grow M k))) (rF M (c_num (grow M k)) 4), s.2.2.2.1 + 1, s.2.2.2.2.1 + i_dist s.1 s.2.1 (q_sx M (grow M k)) (q_sy M (grow M k)), s.2.2.2.2.2.1 && decide (s.2.2.2.1 + 1 ≤ dF M d 4), upd s.2.2.2.2.2.2 (k + 1) (s.2.2.1 + i_dist s.1 s.2.1 (q_sx M (grow M k)) (q_sy M (grow M k))))
  else (q_sx M (grow M k), q_sy M (grow M k), s.2.2.1 + i_dist s.1 s.2.1 (q_sx M (grow M k)) (q_sy M (grow M k)), s.2.2.2.1 + -1, s.2.2.2.2.1 + i_dist s.1 s.2.1 (q_sx M (grow M k)) (q_sy M (grow M k)), s.2.2.2.2.2.1 && decide (s.2.2.1 + i_dist s.1 s.2.1 (q_sx M (grow M k)) (q_sy M (grow M k)) ≤ rF M (c_num (grow M k)) 5), upd s.2.2.2.2.2.2 (k + 1) (s.2.2.1 + i_dist s.1 s.2.1 (q_sx M (grow M k)) (q_sy M (grow M k))))
def q_to (M : MS) (d : Nat) : Nat → QS
  | 0 => (dF M d 0, dF M d 1, dF M d 5, 0, 0, true, upd (garr M) 0 (dF M d 5))
  | k + 1 => q_go M d (q_to M d k) k
def q_mm (M : MS) (len : Int32) (v : Bool) (ar : Nat → Int32) : MS := srval (srlen (sarr M ar) len) (bI v)
theorem q_mm_grlen (M : MS) (l : Int32) (v : Bool) (a : Nat → Int32) : grlen (q_mm M l v a) = l := rfl
theorem q_mm_grval (M : MS) (l : Int32) (v : Bool) (a : Nat → Int32) : grval (q_mm M l v a) = bI v := rfl
theorem q_mm_garr (M : MS) (l : Int32) (v : Bool) (a : Nat → Int32) : garr (q_mm M l v a) = a := rfl
theorem q_mm_grcnt (M : MS) (l : Int32) (v : Bool) (a : Nat → Int32) : grcnt (q_mm M l v a) = grcnt M := rfl
theorem q_mm_grow (M : MS) (l : Int32) (v : Bool) (a : Nat → Int32) (k : Nat) : grow (q_mm M l v a) k = grow M k := rfl
theorem q_mm_gbrd (M : MS) (l : Int32) (v : Bool) (a : Nat → Int32) : gbrd (q_mm M l v a) = gbrd M := rfl
theorem q_mm_dF (M : MS) (l : Int32) (v : Bool) (a : Nat → Int32) (d f : Nat) : dF (q_mm M l v a) d f = dF M d f := congrFun (q_mm_gbrd M l v a) _
theorem q_mm_rF (M : MS) (l : Int32) (v : Bool) (a : Nat → Int32) (r f : Nat) : rF (q_mm M l v a) r f = rF M r f := congrFun (q_mm_gbrd M l v a) _
theorem q_mm_sx (M : MS) (l : Int32) (v : Bool) (a : Nat → Int32) (c : Int32) : q_sx (q_mm M l v a) c = q_sx M c := by unfold q_sx; rw [q_mm_rF, q_mm_rF]
theorem q_mm_sy (M : MS) (l : Int32) (v : Bool) (a : Nat → Int32) (c : Int32) : q_sy (q_mm M l v a) c = q_sy M c := by unfold q_sy; rw [q_mm_rF, q_mm_rF]
theorem q_mm_srlen (M : MS) (l : Int32) (v : Bool) (a : Nat → Int32) (l' : Int32) : srlen (q_mm M l v a) l' = q_mm M l' v a := by
  show (vf_upd (vf_upd (vf_upd (mF M) 10 l) 11 (bI v)) 10 l', _) = (vf_upd (vf_upd (mF M) 10 l') 11 (bI v), _)
  rw [vf_cc _ _ _ (show 11 ≠ 10 by decide), vf_ss]
  rfl
theorem q_mm_sarr (M : MS) (l : Int32) (v : Bool) (a : Nat → Int32) (a' : Nat → Int32) : sarr (q_mm M l v a) a' = q_mm M l v a' := by
  show (vf_upd (vf_upd (mF M) 10 l) 11 (bI v), M.2.1, vf_upd (vf_upd (mA M) 9 a) 9 a', M.2.2.2) = (vf_upd (vf_upd (mF M) 10 l) 11 (bI v), M.2.1, vf_upd (mA M) 9 a', M.2.2.2)
  rw [vf_ss]
theorem q_mm_srval (M : MS) (l : Int32) (v : Bool) (a : Nat → Int32) (w : Bool) : srval (q_mm M l v a) (bI w) = q_mm M l w a := by
  show (vf_upd (vf_upd (vf_upd (mF M) 10 l) 11 (bI v)) 11 (bI w), _) = (vf_upd (vf_upd (mF M) 10 l) 11 (bI w), _)
  rw [vf_ss]
  rfl
theorem q_mm_init (M : MS) (e : Int32) : sarr (srval (srlen M 0) 1) (upd (garr (srval (srlen M 0) 1)) 0 e) = q_mm M 0 true (upd (garr M) 0 e) := rfl
def q_fin (M : MS) (d cnt : Nat) (s : QS) : MS :=
  q_mm M (s.2.2.2.2.1 + i_dist s.1 s.2.1 (dF M d 2) (dF M d 3)) (s.2.2.2.2.2.1 && decide (s.2.2.2.2.1 + i_dist s.1 s.2.1 (dF M d 2) (dF M d 3) - i_dist (dF M d 0) (dF M d 1) (dF M d 2) (dF M d 3) ≤ dF M d 6)) (upd s.2.2.2.2.2.2 (cnt + 1) (s.2.2.1 + i_dist s.1 s.2.1 (dF M d 2) (dF M d 3)))
def q_meas (M : MS) (d cnt : Nat) : MS := q_fin M d cnt (q_to M d cnt)
set_option maxRecDepth 100000 in
set_option maxHeartbeats 4000000 in
theorem cn_X11_measureRow {K : KX} {n : Nat} {h : MH} {h0 : MH} {m : Nat} {M : MS} (x : Md h0 m M h) {d cnt : Nat} (hd : d < 8) (hc : grcnt M = nI cnt) (hcnt : cnt ≤ 42) (hcode : ∀ k, k < cnt → SCode (grow M k)) : Con K mX11_measureRow [.ref m, .int (nI d)] 0 0 n h (RetP none n (Md h0 m (q_meas M d cnt))) := by
  refine Con.of (by decide +kernel) (Nat.le_of_ble_eq_true rfl) ?_
  have loop : ∀ (f : Nat) (k : Nat) (px py t rd len : Int32) (v : Bool) (ar : Nat → Int32) (h1 : MH), k + f = cnt → q_to M d k = (px, py, t, rd, len, v, ar) → Md h0 m (q_mm M len v ar) h1 → GG (K, mX11_measureRow, 0, 0, RetP none n (Md h0 m (q_meas M d cnt))) 0 0 46 [(6, .int (nI k)), (5, .int rd), (4, .int t), (3, .int py), (2, .int px), (0, .ref m), (1, .int (nI d))] [] n h1 := by
    intro f
    induction f with
    | zero =>
      intro k px py t rd len v ar h1 hk hs x
      refine mj_iload 0 dX11_measureRow_46 rfl ?_
      refine mj_aload_n 5 dX11_measureRow_48 rfl ?_
      refine mj_getf dX11_measureRow_49 fgX11_137 x.ko rfl ?_
      refine mj_eq ((q_mm_grcnt M len v ar).trans hc) ?_
      refine mj_icmp_ge 220 dX11_measureRow_52 (by decide) (fun c_52 => ?_) (fun c_52 => ?_)
      · refine mj_iload_n 4 dX11_measureRow_220 rfl ?_
        refine mj_iload_n 3 dX11_measureRow_221 rfl ?_
        refine mj_aload_n 5 dX11_measureRow_222 rfl ?_
        refine mj_iload_n 6 dX11_measureRow_223 rfl ?_
        refine mj_iconst (v := 2) dX11_measureRow_224 rfl ?_
        refine mj_cV1 [_, _] (RX11, TX11, 32) dX11_measureRow_225 cwX11_driver lkX11_68 x.ko rfl rfl rfl rfl (cn_X11_driver x (d := d) (f := 2) hd (by decide)) ⟨Nat.le_of_ble_eq_true rfl, Nat.le_of_ble_eq_true rfl, Nat.le_of_ble_eq_true rfl, Nat.le_of_ble_eq_true rfl, Nat.le_of_ble_eq_true rfl⟩ (fun h x => ?_)
        refine mj_eq (q_mm_dF M len v ar _ _) ?_
        refine mj_aload_n 5 dX11_measureRow_228 rfl ?_
        refine mj_iload_n 6 dX11_measureRow_229 rfl ?_
        refine mj_iconst (v := 3) dX11_measureRow_230 rfl ?_
        refine mj_cV1 [_, _] (RX11, TX11, 32) dX11_measureRow_231 cwX11_driver lkX11_68 x.ko rfl rfl rfl rfl (cn_X11_driver x (d := d) (f := 3) hd (by decide)) ⟨Nat.le_of_ble_eq_true rfl, Nat.le_of_ble_eq_true rfl, Nat.le_of_ble_eq_true rfl, Nat.le_of_ble_eq_true rfl, Nat.le_of_ble_eq_true rfl⟩ (fun h x => ?_)
        refine mj_eq (q_mm_dF M len v ar _ _) ?_
        refine mj_cS1 [_, _, _, _] dX11_measureRow_234 cwX11_distance lkX11_127 rfl (cn_X11_distance _ _ _ _) ⟨Nat.le_of_ble_eq_true rfl, Nat.le_of_ble_eq_true rfl, Nat.le_of_ble_eq_true rfl, Nat.le_of_ble_eq_true rfl, Nat.le_of_ble_eq_true rfl⟩ (fun h' e' => ?_)
        subst h'
        refine mj_istore (ls' := [(6, _), (5, _), (4, _), (3, _), (2, _), (0, _), (1, _)]) dX11_measureRow_237 (Nat.le_of_ble_eq_true rfl) rfl ?_
        refine mj_aload_n 5 dX11_measureRow_239 rfl ?_
        refine mj_dup dX11_measureRow_240 rfl ?_
        refine mj_getf dX11_measureRow_241 fgX11_130 x.ko rfl ?_
        refine mj_eq (q_mm_grlen M len v ar) ?_
        refine mj_iload 0 dX11_measureRow_244 rfl ?_
        refine mj_iadd dX11_measureRow_246 ?_
        refine mM_prlen dX11_measureRow_247 fgX11_130 x (fun h x => ?_)
        rw [q_mm_srlen] at x
        refine mj_aload_n 5 dX11_measureRow_250 rfl ?_
        refine mj_getf dX11_measureRow_251 fgX11_36 x.ko rfl ?_
        refine mj_aload_n 5 dX11_measureRow_254 rfl ?_
        refine mj_getf dX11_measureRow_255 fgX11_137 x.ko rfl ?_
        refine mj_eq ((q_mm_grcnt M (len + i_dist px py (dF M d 2) (dF M d 3)) v ar).trans hc) ?_
        refine mj_iconst (v := 1) dX11_measureRow_258 rfl ?_
        refine mj_iadd dX11_measureRow_259 ?_
        refine mj_iload 2 dX11_measureRow_260 rfl ?_
        refine mj_iload 0 dX11_measureRow_262 rfl ?_
        refine mj_iadd dX11_measureRow_264 ?_
        refine mM_aarr x (show (nI cnt + 1).toInt = ((cnt + 1 : Nat) : Int) by rw [nI_1]; exact ixn (by omega)) (by first | assumption | omega | decide) dX11_measureRow_265 (fun h x => ?_)
        rw [q_mm_garr, q_mm_sarr] at x
        refine mj_aload_n 5 dX11_measureRow_266 rfl ?_
        refine mj_aload_n 5 dX11_measureRow_267 rfl ?_
        refine mj_getf dX11_measureRow_268 fgX11_133 x.ko rfl ?_
        refine mj_eq (q_mm_grval M (len + i_dist px py (dF M d 2) (dF M d 3)) v (upd ar (cnt + 1) (t + i_dist px py (dF M d 2) (dF M d 3)))) ?_
        refine mj_if_eq 298 dX11_measureRow_271 (by decide) (fun c_271 => ?_) (fun c_271 => ?_)
        · refine mj_iconst (v := 0) dX11_measureRow_298 rfl ?_
          refine mM_prval dX11_measureRow_299 fgX11_133 x (by first | exact Or.inl rfl | exact Or.inr rfl | assumption) (fun h x => ?_)
          obtain rfl : k = cnt := by omega
          have x : Md h0 m (q_mm M (len + i_dist px py (dF M d 2) (dF M d 3)) (v && decide (len + i_dist px py (dF M d 2) (dF M d 3) - i_dist (dF M d 0) (dF M d 1) (dF M d 2) (dF M d 3) ≤ dF M d 6)) (upd ar (k + 1) (t + i_dist px py (dF M d 2) (dF M d 3)))) h := by
            have q := x
            rw [← q_mm_srval M (len + i_dist px py (dF M d 2) (dF M d 3)) v (upd ar (k + 1) (t + i_dist px py (dF M d 2) (dF M d 3))) (v && decide (len + i_dist px py (dF M d 2) (dF M d 3) - i_dist (dF M d 0) (dF M d 1) (dF M d 2) (dF M d 3) ≤ dF M d 6)), show bI (v && decide (len + i_dist px py (dF M d 2) (dF M d 3) - i_dist (dF M d 0) (dF M d 1) (dF M d 2) (dF M d 3) ≤ dF M d 6)) = 0 from by rw [bI_0.mp c_271]; rfl]
            exact q
          exact mj_vret dX11_measureRow_302 rfl (Nat.le_of_ble_eq_true rfl) (Nat.le_of_ble_eq_true rfl) ⟨rfl, rfl, by unfold q_meas q_fin; rw [hs]; exact x⟩
        · refine mj_aload_n 5 dX11_measureRow_274 rfl ?_
          refine mj_getf dX11_measureRow_275 fgX11_130 x.ko rfl ?_
          refine mj_eq (q_mm_grlen M (len + i_dist px py (dF M d 2) (dF M d 3)) v (upd ar (cnt + 1) (t + i_dist px py (dF M d 2) (dF M d 3)))) ?_
          refine mj_aload_n 5 dX11_measureRow_278 rfl ?_
          refine mj_iload_n 6 dX11_measureRow_279 rfl ?_
          refine mj_cV1 [_] (RX11, TX11, 32) dX11_measureRow_280 cwX11_directLength lkX11_102 x.ko rfl rfl rfl rfl (cn_X11_directLength x hd) ⟨Nat.le_of_ble_eq_true rfl, Nat.le_of_ble_eq_true rfl, Nat.le_of_ble_eq_true rfl, Nat.le_of_ble_eq_true rfl, Nat.le_of_ble_eq_true rfl⟩ (fun h x => ?_)
          refine mj_eq (show i_dist (dF (q_mm M (len + i_dist px py (dF M d 2) (dF M d 3)) v (upd ar (cnt + 1) (t + i_dist px py (dF M d 2) (dF M d 3)))) d 0) (dF (q_mm M (len + i_dist px py (dF M d 2) (dF M d 3)) v (upd ar (cnt + 1) (t + i_dist px py (dF M d 2) (dF M d 3)))) d 1) (dF (q_mm M (len + i_dist px py (dF M d 2) (dF M d 3)) v (upd ar (cnt + 1) (t + i_dist px py (dF M d 2) (dF M d 3)))) d 2) (dF (q_mm M (len + i_dist px py (dF M d 2) (dF M d 3)) v (upd ar (cnt + 1) (t + i_dist px py (dF M d 2) (dF M d 3)))) d 3) = i_dist (dF M d 0) (dF M d 1) (dF M d 2) (dF M d 3) from by rw [q_mm_dF, q_mm_dF, q_mm_dF, q_mm_dF]) ?_
          refine mj_isub dX11_measureRow_283 ?_
          refine mj_aload_n 5 dX11_measureRow_284 rfl ?_
          refine mj_iload_n 6 dX11_measureRow_285 rfl ?_
          refine mj_bipush (v := (6)) dX11_measureRow_286 rfl ?_
          refine mj_cV1 [_, _] (RX11, TX11, 32) dX11_measureRow_288 cwX11_driver lkX11_68 x.ko rfl rfl rfl rfl (cn_X11_driver x (d := d) (f := 6) hd (by decide)) ⟨Nat.le_of_ble_eq_true rfl, Nat.le_of_ble_eq_true rfl, Nat.le_of_ble_eq_true rfl, Nat.le_of_ble_eq_true rfl, Nat.le_of_ble_eq_true rfl⟩ (fun h x => ?_)
          refine mj_eq (q_mm_dF M (len + i_dist px py (dF M d 2) (dF M d 3)) v (upd ar (cnt + 1) (t + i_dist px py (dF M d 2) (dF M d 3))) _ _) ?_
          refine mj_icmp_gt 298 dX11_measureRow_291 (by decide) (fun c_291 => ?_) (fun c_291 => ?_)
          · refine mj_iconst (v := 0) dX11_measureRow_298 rfl ?_
            refine mM_prval dX11_measureRow_299 fgX11_133 x (by first | exact Or.inl rfl | exact Or.inr rfl | assumption) (fun h x => ?_)
            obtain rfl : k = cnt := by omega
            have x : Md h0 m (q_mm M (len + i_dist px py (dF M d 2) (dF M d 3)) (v && decide (len + i_dist px py (dF M d 2) (dF M d 3) - i_dist (dF M d 0) (dF M d 1) (dF M d 2) (dF M d 3) ≤ dF M d 6)) (upd ar (k + 1) (t + i_dist px py (dF M d 2) (dF M d 3)))) h := by
              have q := x
              rw [← q_mm_srval M (len + i_dist px py (dF M d 2) (dF M d 3)) v (upd ar (k + 1) (t + i_dist px py (dF M d 2) (dF M d 3))) (v && decide (len + i_dist px py (dF M d 2) (dF M d 3) - i_dist (dF M d 0) (dF M d 1) (dF M d 2) (dF M d 3) ≤ dF M d 6)), show bI (v && decide (len + i_dist px py (dF M d 2) (dF M d 3) - i_dist (dF M d 0) (dF M d 1) (dF M d 2) (dF M d 3) ≤ dF M d 6)) = 0 from by rw [decide_eq_false (Int32.not_le.mpr c_291), Bool.and_false]; rfl]
              exact q
            exact mj_vret dX11_measureRow_302 rfl (Nat.le_of_ble_eq_true rfl) (Nat.le_of_ble_eq_true rfl) ⟨rfl, rfl, by unfold q_meas q_fin; rw [hs]; exact x⟩
          · refine mj_iconst (v := 1) dX11_measureRow_294 rfl ?_
            refine mj_goto 299 dX11_measureRow_295 (by decide) ?_
            refine mM_prval dX11_measureRow_299 fgX11_133 x (by first | exact Or.inl rfl | exact Or.inr rfl | assumption) (fun h x => ?_)
            obtain rfl : k = cnt := by omega
            have x : Md h0 m (q_mm M (len + i_dist px py (dF M d 2) (dF M d 3)) (v && decide (len + i_dist px py (dF M d 2) (dF M d 3) - i_dist (dF M d 0) (dF M d 1) (dF M d 2) (dF M d 3) ≤ dF M d 6)) (upd ar (k + 1) (t + i_dist px py (dF M d 2) (dF M d 3)))) h := by
              have q := x
              rw [← q_mm_srval M (len + i_dist px py (dF M d 2) (dF M d 3)) v (upd ar (k + 1) (t + i_dist px py (dF M d 2) (dF M d 3))) (v && decide (len + i_dist px py (dF M d 2) (dF M d 3) - i_dist (dF M d 0) (dF M d 1) (dF M d 2) (dF M d 3) ≤ dF M d 6)), show bI (v && decide (len + i_dist px py (dF M d 2) (dF M d 3) - i_dist (dF M d 0) (dF M d 1) (dF M d 2) (dF M d 3) ≤ dF M d 6)) = 1 from by rw [bI_n0.mp c_271, decide_eq_true (Int32.not_lt.mp c_291)]; rfl]
              exact q
            exact mj_vret dX11_measureRow_302 rfl (Nat.le_of_ble_eq_true rfl) (Nat.le_of_ble_eq_true rfl) ⟨rfl, rfl, by unfold q_meas q_fin; rw [hs]; exact x⟩
      · exact absurd (nI_le (by omega) (by omega)) c_52
    | succ f ih =>
      intro k px py t rd len v ar h1 hk hs x
      have hcd := hcode k (by omega)
      refine mj_iload 0 dX11_measureRow_46 rfl ?_
      refine mj_aload_n 5 dX11_measureRow_48 rfl ?_
      refine mj_getf dX11_measureRow_49 fgX11_137 x.ko rfl ?_
      refine mj_eq ((q_mm_grcnt M len v ar).trans hc) ?_
      refine mj_icmp_ge 220 dX11_measureRow_52 (by decide) (fun c_52 => ?_) (fun c_52 => ?_)
      · exact absurd c_52 (nI_ge (by omega) (by omega))
      · refine mj_aload_n 5 dX11_measureRow_55 rfl ?_
        refine mj_getf dX11_measureRow_56 fgX11_33 x.ko rfl ?_
        refine mj_iload 0 dX11_measureRow_59 rfl ?_
        refine mj_iald x.krow (ixn (by omega)) (by first | assumption | omega | decide) dX11_measureRow_61 ?_
        refine mj_eq (q_mm_grow M len v ar k) ?_
        refine mj_istore (ls' := [(7, _), (6, _), (5, _), (4, _), (3, _), (2, _), (0, _), (1, _)]) dX11_measureRow_62 (Nat.le_of_ble_eq_true rfl) rfl ?_
        refine mj_iload_n 5 dX11_measureRow_64 rfl ?_
        refine mj_iload_n 4 dX11_measureRow_65 rfl ?_
        refine mj_aload_n 6 dX11_measureRow_66 rfl ?_
        refine mj_iload 0 dX11_measureRow_67 rfl ?_
        refine mj_cV1 [_] (RX11, TX11, 32) dX11_measureRow_69 cwX11_stopX lkX11_140 x.ko rfl rfl rfl rfl (cn_X11_stopX x (c := grow M k) hcd) ⟨Nat.le_of_ble_eq_true rfl, Nat.le_of_ble_eq_true rfl, Nat.le_of_ble_eq_true rfl, Nat.le_of_ble_eq_true rfl, Nat.le_of_ble_eq_true rfl⟩ (fun h x => ?_)
        refine mj_eq (q_mm_sx M len v ar _) ?_
        refine mj_aload_n 6 dX11_measureRow_72 rfl ?_
        refine mj_iload 0 dX11_measureRow_73 rfl ?_
        refine mj_cV1 [_] (RX11, TX11, 32) dX11_measureRow_75 cwX11_stopY lkX11_143 x.ko rfl rfl rfl rfl (cn_X11_stopY x (c := grow M k) hcd) ⟨Nat.le_of_ble_eq_true rfl, Nat.le_of_ble_eq_true rfl, Nat.le_of_ble_eq_true rfl, Nat.le_of_ble_eq_true rfl, Nat.le_of_ble_eq_true rfl⟩ (fun h x => ?_)
        refine mj_eq (q_mm_sy M len v ar _) ?_
        refine mj_cS1 [_, _, _, _] dX11_measureRow_78 cwX11_distance lkX11_127 rfl (cn_X11_distance _ _ _ _) ⟨Nat.le_of_ble_eq_true rfl, Nat.le_of_ble_eq_true rfl, Nat.le_of_ble_eq_true rfl, Nat.le_of_ble_eq_true rfl, Nat.le_of_ble_eq_true rfl⟩ (fun h' e' => ?_)
        subst h'
        refine mj_istore (ls' := [(8, _), (7, _), (6, _), (5, _), (4, _), (3, _), (2, _), (0, _), (1, _)]) dX11_measureRow_81 (Nat.le_of_ble_eq_true rfl) rfl ?_
        refine mj_aload_n 7 dX11_measureRow_83 rfl ?_
        refine mj_iload 1 dX11_measureRow_84 rfl ?_
        refine mj_cV1 [_] (RX11, TX11, 32) dX11_measureRow_86 cwX11_stopX lkX11_140 x.ko rfl rfl rfl rfl (cn_X11_stopX x (c := grow M k) hcd) ⟨Nat.le_of_ble_eq_true rfl, Nat.le_of_ble_eq_true rfl, Nat.le_of_ble_eq_true rfl, Nat.le_of_ble_eq_true rfl, Nat.le_of_ble_eq_true rfl⟩ (fun h x => ?_)
        refine mj_eq (q_mm_sx M len v ar _) ?_
        refine mj_istore_n (ls' := [(2, _), (8, _), (7, _), (6, _), (5, _), (4, _), (3, _), (0, _), (1, _)]) dX11_measureRow_89 (Nat.le_of_ble_eq_true rfl) rfl ?_
        refine mj_aload_n 7 dX11_measureRow_90 rfl ?_
        refine mj_iload 2 dX11_measureRow_91 rfl ?_
        refine mj_cV1 [_] (RX11, TX11, 32) dX11_measureRow_93 cwX11_stopY lkX11_143 x.ko rfl rfl rfl rfl (cn_X11_stopY x (c := grow M k) hcd) ⟨Nat.le_of_ble_eq_true rfl, Nat.le_of_ble_eq_true rfl, Nat.le_of_ble_eq_true rfl, Nat.le_of_ble_eq_true rfl, Nat.le_of_ble_eq_true rfl⟩ (fun h x => ?_)
        refine mj_eq (q_mm_sy M len v ar _) ?_
        refine mj_istore_n (ls' := [(3, _), (2, _), (8, _), (7, _), (6, _), (5, _), (4, _), (0, _), (1, _)]) dX11_measureRow_96 (Nat.le_of_ble_eq_true rfl) rfl ?_
        refine mj_aload_n 7 dX11_measureRow_97 rfl ?_
        refine mj_dup dX11_measureRow_98 rfl ?_
        refine mj_getf dX11_measureRow_99 fgX11_130 x.ko rfl ?_
        refine mj_eq (q_mm_grlen M len v ar) ?_
        refine mj_iload 2 dX11_measureRow_102 rfl ?_
        refine mj_iadd dX11_measureRow_104 ?_
        refine mM_prlen dX11_measureRow_105 fgX11_130 x (fun h x => ?_)
        rw [q_mm_srlen] at x
        refine mj_iload 6 dX11_measureRow_108 rfl ?_
        refine mj_iload 2 dX11_measureRow_110 rfl ?_
        refine mj_iadd dX11_measureRow_112 ?_
        refine mj_istore (ls' := [(4, _), (3, _), (2, _), (8, _), (7, _), (6, _), (5, _), (0, _), (1, _)]) dX11_measureRow_113 (Nat.le_of_ble_eq_true rfl) rfl ?_
        refine mj_aload_n 7 dX11_measureRow_115 rfl ?_
        refine mj_getf dX11_measureRow_116 fgX11_36 x.ko rfl ?_
        refine mj_iload 5 dX11_measureRow_119 rfl ?_
        refine mj_iconst (v := 1) dX11_measureRow_121 rfl ?_
        refine mj_iadd dX11_measureRow_122 ?_
        refine mj_iload 0 dX11_measureRow_123 rfl ?_
        refine mM_aarr x (show (nI k + 1).toInt = ((k + 1 : Nat) : Int) by rw [nI_1]; exact ixn (by omega)) (by first | assumption | omega | decide) dX11_measureRow_125 (fun h x => ?_)
        rw [q_mm_garr, q_mm_sarr] at x
        refine mj_iload 4 dX11_measureRow_126 rfl ?_
        refine mj_bipush (v := (100)) dX11_measureRow_128 rfl ?_
        refine mj_icmp_ge 180 dX11_measureRow_130 (by decide) (fun c_130 => ?_) (fun c_130 => ?_)
        · have z1 : ¬ grow M k < 100 := Int32.not_lt.mpr c_130
          obtain ⟨y1, y2⟩ := hcd.ge z1
          refine mj_iinc (v := _ + (-1)) (ls' := [(5, _), (4, _), (3, _), (2, _), (8, _), (7, _), (6, _), (0, _), (1, _)]) 6 dX11_measureRow_180 rfl rfl (Nat.le_of_ble_eq_true rfl) rfl ?_
          refine mj_aload_n 7 dX11_measureRow_183 rfl ?_
          refine mj_aload_n 7 dX11_measureRow_184 rfl ?_
          refine mj_getf dX11_measureRow_185 fgX11_133 x.ko rfl ?_
          refine mj_eq (q_mm_grval M (len + i_dist px py (q_sx M (grow M k)) (q_sy M (grow M k))) v (upd ar (k + 1) (t + i_dist px py (q_sx M (grow M k)) (q_sy M (grow M k))))) ?_
          refine mj_if_eq 210 dX11_measureRow_188 (by decide) (fun c_188 => ?_) (fun c_188 => ?_)
          · refine mj_iconst (v := 0) dX11_measureRow_210 rfl ?_
            refine mM_prval dX11_measureRow_211 fgX11_133 x (by first | exact Or.inl rfl | exact Or.inr rfl | assumption) (fun h x => ?_)
            refine mj_iinc (ls' := [(6, _), (5, _), (4, _), (3, _), (2, _), (8, _), (7, _), (0, _), (1, _)]) 6 dX11_measureRow_214 rfl (nI_s _) (Nat.le_of_ble_eq_true rfl) rfl ?_
            refine mj_goto 46 dX11_measureRow_217 (by decide) ?_
            have x : Md h0 m (q_mm M (len + i_dist px py (q_sx M (grow M k)) (q_sy M (grow M k))) (v && decide (t + i_dist px py (q_sx M (grow M k)) (q_sy M (grow M k)) ≤ rF M (c_num (grow M k)) 5)) (upd ar (k + 1) (t + i_dist px py (q_sx M (grow M k)) (q_sy M (grow M k))))) h := by
              have q := x
              rw [← q_mm_srval M (len + i_dist px py (q_sx M (grow M k)) (q_sy M (grow M k))) v (upd ar (k + 1) (t + i_dist px py (q_sx M (grow M k)) (q_sy M (grow M k)))) (v && decide (t + i_dist px py (q_sx M (grow M k)) (q_sy M (grow M k)) ≤ rF M (c_num (grow M k)) 5)), show bI (v && decide (t + i_dist px py (q_sx M (grow M k)) (q_sy M (grow M k)) ≤ rF M (c_num (grow M k)) 5)) = 0 from by rw [bI_0.mp c_188]; rfl]
              exact q
            exact mj_ls [0, 1, 2, 3, 4, 7, 8] rfl (ih (k + 1) (q_sx M (grow M k)) (q_sy M (grow M k)) (t + i_dist px py (q_sx M (grow M k)) (q_sy M (grow M k))) (rd + -1) (len + i_dist px py (q_sx M (grow M k)) (q_sy M (grow M k))) (v && decide (t + i_dist px py (q_sx M (grow M k)) (q_sy M (grow M k)) ≤ rF M (c_num (grow M k)) 5)) (upd ar (k + 1) (t + i_dist px py (q_sx M (grow M k)) (q_sy M (grow M k)))) h (by omega) (by show q_go M d (q_to M d k) k = _; rw [hs]; exact if_neg z1) x)
          · refine mj_iload 1 dX11_measureRow_191 rfl ?_
            refine mj_aload_n 7 dX11_measureRow_193 rfl ?_
            refine mj_iload 5 dX11_measureRow_194 rfl ?_
            refine mj_bipush (v := (100)) dX11_measureRow_196 rfl ?_
            refine mj_isub dX11_measureRow_198 ?_
            refine mj_iconst (v := 5) dX11_measureRow_199 rfl ?_
            refine mj_cV1 [_, _] (RX11, TX11, 32) dX11_measureRow_200 cwX11_rider lkX11_72 x.ko rfl rfl rfl rfl (by have q := cn_X11_rider (K := K) (n := n) x (r := c_num (grow M k)) (f := 5) y1 (by decide); rw [← y2] at q; exact q) ⟨Nat.le_of_ble_eq_true rfl, Nat.le_of_ble_eq_true rfl, Nat.le_of_ble_eq_true rfl, Nat.le_of_ble_eq_true rfl, Nat.le_of_ble_eq_true rfl⟩ (fun h x => ?_)
            refine mj_eq (q_mm_rF M (len + i_dist px py (q_sx M (grow M k)) (q_sy M (grow M k))) v (upd ar (k + 1) (t + i_dist px py (q_sx M (grow M k)) (q_sy M (grow M k)))) _ _) ?_
            refine mj_icmp_gt 210 dX11_measureRow_203 (by decide) (fun c_203 => ?_) (fun c_203 => ?_)
            · refine mj_iconst (v := 0) dX11_measureRow_210 rfl ?_
              refine mM_prval dX11_measureRow_211 fgX11_133 x (by first | exact Or.inl rfl | exact Or.inr rfl | assumption) (fun h x => ?_)
              refine mj_iinc (ls' := [(6, _), (5, _), (4, _), (3, _), (2, _), (8, _), (7, _), (0, _), (1, _)]) 6 dX11_measureRow_214 rfl (nI_s _) (Nat.le_of_ble_eq_true rfl) rfl ?_
              refine mj_goto 46 dX11_measureRow_217 (by decide) ?_
              have x : Md h0 m (q_mm M (len + i_dist px py (q_sx M (grow M k)) (q_sy M (grow M k))) (v && decide (t + i_dist px py (q_sx M (grow M k)) (q_sy M (grow M k)) ≤ rF M (c_num (grow M k)) 5)) (upd ar (k + 1) (t + i_dist px py (q_sx M (grow M k)) (q_sy M (grow M k))))) h := by
                have q := x
                rw [← q_mm_srval M (len + i_dist px py (q_sx M (grow M k)) (q_sy M (grow M k))) v (upd ar (k + 1) (t + i_dist px py (q_sx M (grow M k)) (q_sy M (grow M k)))) (v && decide (t + i_dist px py (q_sx M (grow M k)) (q_sy M (grow M k)) ≤ rF M (c_num (grow M k)) 5)), show bI (v && decide (t + i_dist px py (q_sx M (grow M k)) (q_sy M (grow M k)) ≤ rF M (c_num (grow M k)) 5)) = 0 from by rw [decide_eq_false (Int32.not_le.mpr c_203), Bool.and_false]; rfl]
                exact q
              exact mj_ls [0, 1, 2, 3, 4, 7, 8] rfl (ih (k + 1) (q_sx M (grow M k)) (q_sy M (grow M k)) (t + i_dist px py (q_sx M (grow M k)) (q_sy M (grow M k))) (rd + -1) (len + i_dist px py (q_sx M (grow M k)) (q_sy M (grow M k))) (v && decide (t + i_dist px py (q_sx M (grow M k)) (q_sy M (grow M k)) ≤ rF M (c_num (grow M k)) 5)) (upd ar (k + 1) (t + i_dist px py (q_sx M (grow M k)) (q_sy M (grow M k)))) h (by omega) (by show q_go M d (q_to M d k) k = _; rw [hs]; exact if_neg z1) x)
            · refine mj_iconst (v := 1) dX11_measureRow_206 rfl ?_
              refine mj_goto 211 dX11_measureRow_207 (by decide) ?_
              refine mM_prval dX11_measureRow_211 fgX11_133 x (by first | exact Or.inl rfl | exact Or.inr rfl | assumption) (fun h x => ?_)
              refine mj_iinc (ls' := [(6, _), (5, _), (4, _), (3, _), (2, _), (8, _), (7, _), (0, _), (1, _)]) 6 dX11_measureRow_214 rfl (nI_s _) (Nat.le_of_ble_eq_true rfl) rfl ?_
              refine mj_goto 46 dX11_measureRow_217 (by decide) ?_
              have x : Md h0 m (q_mm M (len + i_dist px py (q_sx M (grow M k)) (q_sy M (grow M k))) (v && decide (t + i_dist px py (q_sx M (grow M k)) (q_sy M (grow M k)) ≤ rF M (c_num (grow M k)) 5)) (upd ar (k + 1) (t + i_dist px py (q_sx M (grow M k)) (q_sy M (grow M k))))) h := by
                have q := x
                rw [← q_mm_srval M (len + i_dist px py (q_sx M (grow M k)) (q_sy M (grow M k))) v (upd ar (k + 1) (t + i_dist px py (q_sx M (grow M k)) (q_sy M (grow M k)))) (v && decide (t + i_dist px py (q_sx M (grow M k)) (q_sy M (grow M k)) ≤ rF M (c_num (grow M k)) 5)), show bI (v && decide (t + i_dist px py (q_sx M (grow M k)) (q_sy M (grow M k)) ≤ rF M (c_num (grow M k)) 5)) = 1 from by rw [bI_n0.mp c_188, decide_eq_true (Int32.not_lt.mp c_203)]; rfl]
                exact q
              exact mj_ls [0, 1, 2, 3, 4, 7, 8] rfl (ih (k + 1) (q_sx M (grow M k)) (q_sy M (grow M k)) (t + i_dist px py (q_sx M (grow M k)) (q_sy M (grow M k))) (rd + -1) (len + i_dist px py (q_sx M (grow M k)) (q_sy M (grow M k))) (v && decide (t + i_dist px py (q_sx M (grow M k)) (q_sy M (grow M k)) ≤ rF M (c_num (grow M k)) 5)) (upd ar (k + 1) (t + i_dist px py (q_sx M (grow M k)) (q_sy M (grow M k)))) h (by omega) (by show q_go M d (q_to M d k) k = _; rw [hs]; exact if_neg z1) x)
        · have z1 : grow M k < 100 := Int32.not_le.mp c_130
          obtain ⟨y1, y2⟩ := hcd.lt z1
          refine mj_iload 0 dX11_measureRow_133 rfl ?_
          refine mj_aload_n 7 dX11_measureRow_135 rfl ?_
          refine mj_iload 4 dX11_measureRow_136 rfl ?_
          refine mj_iconst (v := 4) dX11_measureRow_138 rfl ?_
          refine mj_cV1 [_, _] (RX11, TX11, 32) dX11_measureRow_139 cwX11_rider lkX11_72 x.ko rfl rfl rfl rfl (by have q := cn_X11_rider (K := K) (n := n) x (r := c_num (grow M k)) (f := 4) y1 (by decide); rw [← y2] at q; exact q) ⟨Nat.le_of_ble_eq_true rfl, Nat.le_of_ble_eq_true rfl, Nat.le_of_ble_eq_true rfl, Nat.le_of_ble_eq_true rfl, Nat.le_of_ble_eq_true rfl⟩ (fun h x => ?_)
          refine mj_eq (q_mm_rF M (len + i_dist px py (q_sx M (grow M k)) (q_sy M (grow M k))) v (upd ar (k + 1) (t + i_dist px py (q_sx M (grow M k)) (q_sy M (grow M k)))) _ _) ?_
          refine mj_max dX11_measureRow_142 mlX11_146 st_max in_Math cd_max (Nat.le_of_ble_eq_true rfl) (Nat.le_of_ble_eq_true rfl) (Nat.le_of_ble_eq_true rfl) (Nat.le_of_ble_eq_true rfl) rfl ?_
          refine mj_istore (ls' := [(4, _), (3, _), (2, _), (8, _), (7, _), (6, _), (5, _), (0, _), (1, _)]) dX11_measureRow_145 (Nat.le_of_ble_eq_true rfl) rfl ?_
          refine mj_iinc (v := _ + (1)) (ls' := [(5, _), (4, _), (3, _), (2, _), (8, _), (7, _), (6, _), (0, _), (1, _)]) 6 dX11_measureRow_147 rfl rfl (Nat.le_of_ble_eq_true rfl) rfl ?_
          refine mj_aload_n 7 dX11_measureRow_150 rfl ?_
          refine mj_aload_n 7 dX11_measureRow_151 rfl ?_
          refine mj_getf dX11_measureRow_152 fgX11_133 x.ko rfl ?_
          refine mj_eq (q_mm_grval M (len + i_dist px py (q_sx M (grow M k)) (q_sy M (grow M k))) v (upd ar (k + 1) (t + i_dist px py (q_sx M (grow M k)) (q_sy M (grow M k))))) ?_
          refine mj_if_eq 173 dX11_measureRow_155 (by decide) (fun c_155 => ?_) (fun c_155 => ?_)
          · refine mj_iconst (v := 0) dX11_measureRow_173 rfl ?_
            refine mM_prval dX11_measureRow_174 fgX11_133 x (by first | exact Or.inl rfl | exact Or.inr rfl | assumption) (fun h x => ?_)
            refine mj_goto 214 dX11_measureRow_177 (by decide) ?_
            refine mj_iinc (ls' := [(6, _), (5, _), (4, _), (3, _), (2, _), (8, _), (7, _), (0, _), (1, _)]) 6 dX11_measureRow_214 rfl (nI_s _) (Nat.le_of_ble_eq_true rfl) rfl ?_
            refine mj_goto 46 dX11_measureRow_217 (by decide) ?_
            have x : Md h0 m (q_mm M (len + i_dist px py (q_sx M (grow M k)) (q_sy M (grow M k))) (v && decide (rd + 1 ≤ dF M d 4)) (upd ar (k + 1) (t + i_dist px py (q_sx M (grow M k)) (q_sy M (grow M k))))) h := by
              have q := x
              rw [← q_mm_srval M (len + i_dist px py (q_sx M (grow M k)) (q_sy M (grow M k))) v (upd ar (k + 1) (t + i_dist px py (q_sx M (grow M k)) (q_sy M (grow M k)))) (v && decide (rd + 1 ≤ dF M d 4)), show bI (v && decide (rd + 1 ≤ dF M d 4)) = 0 from by rw [bI_0.mp c_155]; rfl]
              exact q
            exact mj_ls [0, 1, 2, 3, 4, 7, 8] rfl (ih (k + 1) (q_sx M (grow M k)) (q_sy M (grow M k)) (i_max (t + i_dist px py (q_sx M (grow M k)) (q_sy M (grow M k))) (rF M (c_num (grow M k)) 4)) (rd + 1) (len + i_dist px py (q_sx M (grow M k)) (q_sy M (grow M k))) (v && decide (rd + 1 ≤ dF M d 4)) (upd ar (k + 1) (t + i_dist px py (q_sx M (grow M k)) (q_sy M (grow M k)))) h (by omega) (by show q_go M d (q_to M d k) k = _; rw [hs]; exact if_pos z1) x)
          · refine mj_iload 0 dX11_measureRow_158 rfl ?_
            refine mj_aload_n 7 dX11_measureRow_160 rfl ?_
            refine mj_iload_n 8 dX11_measureRow_161 rfl ?_
            refine mj_iconst (v := 4) dX11_measureRow_162 rfl ?_
            refine mj_cV1 [_, _] (RX11, TX11, 32) dX11_measureRow_163 cwX11_driver lkX11_68 x.ko rfl rfl rfl rfl (cn_X11_driver x (d := d) (f := 4) hd (by decide)) ⟨Nat.le_of_ble_eq_true rfl, Nat.le_of_ble_eq_true rfl, Nat.le_of_ble_eq_true rfl, Nat.le_of_ble_eq_true rfl, Nat.le_of_ble_eq_true rfl⟩ (fun h x => ?_)
            refine mj_eq (q_mm_dF M (len + i_dist px py (q_sx M (grow M k)) (q_sy M (grow M k))) v (upd ar (k + 1) (t + i_dist px py (q_sx M (grow M k)) (q_sy M (grow M k)))) _ _) ?_
            refine mj_icmp_gt 173 dX11_measureRow_166 (by decide) (fun c_166 => ?_) (fun c_166 => ?_)
            · refine mj_iconst (v := 0) dX11_measureRow_173 rfl ?_
              refine mM_prval dX11_measureRow_174 fgX11_133 x (by first | exact Or.inl rfl | exact Or.inr rfl | assumption) (fun h x => ?_)
              refine mj_goto 214 dX11_measureRow_177 (by decide) ?_
              refine mj_iinc (ls' := [(6, _), (5, _), (4, _), (3, _), (2, _), (8, _), (7, _), (0, _), (1, _)]) 6 dX11_measureRow_214 rfl (nI_s _) (Nat.le_of_ble_eq_true rfl) rfl ?_
              refine mj_goto 46 dX11_measureRow_217 (by decide) ?_
              have x : Md h0 m (q_mm M (len + i_dist px py (q_sx M (grow M k)) (q_sy M (grow M k))) (v && decide (rd + 1 ≤ dF M d 4)) (upd ar (k + 1) (t + i_dist px py (q_sx M (grow M k)) (q_sy M (grow M k))))) h := by
                have q := x
                rw [← q_mm_srval M (len + i_dist px py (q_sx M (grow M k)) (q_sy M (grow M k))) v (upd ar (k + 1) (t + i_dist px py (q_sx M (grow M k)) (q_sy M (grow M k)))) (v && decide (rd + 1 ≤ dF M d 4)), show bI (v && decide (rd + 1 ≤ dF M d 4)) = 0 from by rw [decide_eq_false (Int32.not_le.mpr c_166), Bool.and_false]; rfl]
                exact q
              exact mj_ls [0, 1, 2, 3, 4, 7, 8] rfl (ih (k + 1) (q_sx M (grow M k)) (q_sy M (grow M k)) (i_max (t + i_dist px py (q_sx M (grow M k)) (q_sy M (grow M k))) (rF M (c_num (grow M k)) 4)) (rd + 1) (len + i_dist px py (q_sx M (grow M k)) (q_sy M (grow M k))) (v && decide (rd + 1 ≤ dF M d 4)) (upd ar (k + 1) (t + i_dist px py (q_sx M (grow M k)) (q_sy M (grow M k)))) h (by omega) (by show q_go M d (q_to M d k) k = _; rw [hs]; exact if_pos z1) x)
            · refine mj_iconst (v := 1) dX11_measureRow_169 rfl ?_
              refine mj_goto 174 dX11_measureRow_170 (by decide) ?_
              refine mM_prval dX11_measureRow_174 fgX11_133 x (by first | exact Or.inl rfl | exact Or.inr rfl | assumption) (fun h x => ?_)
              refine mj_goto 214 dX11_measureRow_177 (by decide) ?_
              refine mj_iinc (ls' := [(6, _), (5, _), (4, _), (3, _), (2, _), (8, _), (7, _), (0, _), (1, _)]) 6 dX11_measureRow_214 rfl (nI_s _) (Nat.le_of_ble_eq_true rfl) rfl ?_
              refine mj_goto 46 dX11_measureRow_217 (by decide) ?_
              have x : Md h0 m (q_mm M (len + i_dist px py (q_sx M (grow M k)) (q_sy M (grow M k))) (v && decide (rd + 1 ≤ dF M d 4)) (upd ar (k + 1) (t + i_dist px py (q_sx M (grow M k)) (q_sy M (grow M k))))) h := by
                have q := x
                rw [← q_mm_srval M (len + i_dist px py (q_sx M (grow M k)) (q_sy M (grow M k))) v (upd ar (k + 1) (t + i_dist px py (q_sx M (grow M k)) (q_sy M (grow M k)))) (v && decide (rd + 1 ≤ dF M d 4)), show bI (v && decide (rd + 1 ≤ dF M d 4)) = 1 from by rw [bI_n0.mp c_155, decide_eq_true (Int32.not_lt.mp c_166)]; rfl]
                exact q
              exact mj_ls [0, 1, 2, 3, 4, 7, 8] rfl (ih (k + 1) (q_sx M (grow M k)) (q_sy M (grow M k)) (i_max (t + i_dist px py (q_sx M (grow M k)) (q_sy M (grow M k))) (rF M (c_num (grow M k)) 4)) (rd + 1) (len + i_dist px py (q_sx M (grow M k)) (q_sy M (grow M k))) (v && decide (rd + 1 ≤ dF M d 4)) (upd ar (k + 1) (t + i_dist px py (q_sx M (grow M k)) (q_sy M (grow M k)))) h (by omega) (by show q_go M d (q_to M d k) k = _; rw [hs]; exact if_pos z1) x)
  refine mj_aload_n 0 dX11_measureRow_0 rfl ?_
  refine mj_iload_n 1 dX11_measureRow_1 rfl ?_
  refine mj_iconst (v := 0) dX11_measureRow_2 rfl ?_
  refine mj_cV1 [_, _] (RX11, TX11, 32) dX11_measureRow_3 cwX11_driver lkX11_68 x.ko rfl rfl rfl rfl (cn_X11_driver x (d := d) (f := 0) hd (by decide)) ⟨Nat.le_of_ble_eq_true rfl, Nat.le_of_ble_eq_true rfl, Nat.le_of_ble_eq_true rfl, Nat.le_of_ble_eq_true rfl, Nat.le_of_ble_eq_true rfl⟩ (fun h x => ?_)
  refine mj_istore_n (ls' := [(2, _), (0, _), (1, _)]) dX11_measureRow_6 (Nat.le_of_ble_eq_true rfl) rfl ?_
  refine mj_aload_n 1 dX11_measureRow_7 rfl ?_
  refine mj_iload_n 2 dX11_measureRow_8 rfl ?_
  refine mj_iconst (v := 1) dX11_measureRow_9 rfl ?_
  refine mj_cV1 [_, _] (RX11, TX11, 32) dX11_measureRow_10 cwX11_driver lkX11_68 x.ko rfl rfl rfl rfl (cn_X11_driver x (d := d) (f := 1) hd (by decide)) ⟨Nat.le_of_ble_eq_true rfl, Nat.le_of_ble_eq_true rfl, Nat.le_of_ble_eq_true rfl, Nat.le_of_ble_eq_true rfl, Nat.le_of_ble_eq_true rfl⟩ (fun h x => ?_)
  refine mj_istore_n (ls' := [(3, _), (2, _), (0, _), (1, _)]) dX11_measureRow_13 (Nat.le_of_ble_eq_true rfl) rfl ?_
  refine mj_aload_n 2 dX11_measureRow_14 rfl ?_
  refine mj_iload_n 3 dX11_measureRow_15 rfl ?_
  refine mj_iconst (v := 5) dX11_measureRow_16 rfl ?_
  refine mj_cV1 [_, _] (RX11, TX11, 32) dX11_measureRow_17 cwX11_driver lkX11_68 x.ko rfl rfl rfl rfl (cn_X11_driver x (d := d) (f := 5) hd (by decide)) ⟨Nat.le_of_ble_eq_true rfl, Nat.le_of_ble_eq_true rfl, Nat.le_of_ble_eq_true rfl, Nat.le_of_ble_eq_true rfl, Nat.le_of_ble_eq_true rfl⟩ (fun h x => ?_)
  refine mj_istore (ls' := [(4, _), (3, _), (2, _), (0, _), (1, _)]) dX11_measureRow_20 (Nat.le_of_ble_eq_true rfl) rfl ?_
  refine mj_iconst (v := 0) dX11_measureRow_22 rfl ?_
  refine mj_istore (ls' := [(5, _), (4, _), (3, _), (2, _), (0, _), (1, _)]) dX11_measureRow_23 (Nat.le_of_ble_eq_true rfl) rfl ?_
  refine mj_aload_n 4 dX11_measureRow_25 rfl ?_
  refine mj_iconst (v := 0) dX11_measureRow_26 rfl ?_
  refine mM_prlen dX11_measureRow_27 fgX11_130 x (fun h x => ?_)
  refine mj_aload_n 4 dX11_measureRow_30 rfl ?_
  refine mj_iconst (v := 1) dX11_measureRow_31 rfl ?_
  refine mM_prval dX11_measureRow_32 fgX11_133 x (by first | exact Or.inl rfl | exact Or.inr rfl | assumption) (fun h x => ?_)
  refine mj_aload_n 4 dX11_measureRow_35 rfl ?_
  refine mj_getf dX11_measureRow_36 fgX11_36 x.ko rfl ?_
  refine mj_iconst (v := 0) dX11_measureRow_39 rfl ?_
  refine mj_iload 1 dX11_measureRow_40 rfl ?_
  refine mM_aarr x (show (0 : Int32).toInt = ((0 : Nat) : Int) from rfl) (by first | assumption | omega | decide) dX11_measureRow_42 (fun h x => ?_)
  refine mj_iconst (v := 0) dX11_measureRow_43 rfl ?_
  refine mj_istore (ls' := [(6, _), (5, _), (4, _), (3, _), (2, _), (0, _), (1, _)]) dX11_measureRow_44 (Nat.le_of_ble_eq_true rfl) rfl ?_
  exact mj_ls [0, 1, 2, 3, 4, 5, 6] rfl (loop cnt 0 (dF M d 0) (dF M d 1) (dF M d 5) 0 0 true (upd (garr M) 0 (dF M d 5)) h (by omega) rfl (by rw [q_mm_init] at x; exact x))
