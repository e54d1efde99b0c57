def r_word (T : Nat → Int32) : Nat → Nat → Nat → Int64 → Nat × Nat × Int64
  | 0, p, t, w => (p, t, w)
  | f + 1, p, t, w => if k_let (T p) then r_word T f (p + 1) (t + 1) (if t < 8 then 27 * w + (T p).toInt64 - 96 else w) else (p, t, w)
def r_numb (T : Nat → Int32) : Nat → Nat → Int32 → Nat × Int32
  | 0, p, v => (p, v)
  | f + 1, p, v => if k_dig (T p) then r_numb T f (p + 1) (if 9999 < v then v else 10 * v + T p - 48) else (p, v)
/-- the token at p -/
def z_at (T : Nat → Int32) (m : Nat) (Z : ZS) (p : Nat) : ZS :=
  if k_at T m p = -1 then (p, p, 0, 0, 0, 0, zec Z, zep Z)
  else if k_let (k_at T m p) then ((r_word T (m - p) p 0 0).1, p, 2, (r_word T (m - p) p 0 0).2.1, 0, (r_word T (m - p) p 0 0).2.2, zec Z, zep Z)
  else if k_dig (k_at T m p) then ((r_numb T (m - p) p 0).1, p, 3, 0, (r_numb T (m - p) p 0).2, 0, zec Z, zep Z)
  else (p + 1, p, if k_at T m p = 59 then 4 else 1, 0, 0, 0, zec Z, zep Z)
def z_next (T : Nat → Int32) (m : Nat) (Z : ZS) : ZS := z_at T m Z (k_run k_blank T m (m - zpos Z) (zpos Z))
theorem r_word_le (T : Nat → Int32) : ∀ f p t w, p ≤ (r_word T f p t w).1 ∧ (r_word T f p t w).1 ≤ p + f ∧ (r_word T f p t w).2.1 ≤ t + f
  | 0, p, t, w => ⟨Nat.le_refl p, Nat.le_refl p, Nat.le_refl t⟩
  | f + 1, p, t, w => by
    unfold r_word
    split
    · have ih := r_word_le T f (p + 1) (t + 1) (if t < 8 then 27 * w + (T p).toInt64 - 96 else w)
      omega
    · dsimp only; omega
theorem r_numb_le (T : Nat → Int32) : ∀ f p v, p ≤ (r_numb T f p v).1 ∧ (r_numb T f p v).1 ≤ p + f
  | 0, p, v => ⟨Nat.le_refl p, Nat.le_refl p⟩
  | f + 1, p, v => by
    unfold r_numb
    split
    · have ih := r_numb_le T f (p + 1) (if 9999 < v then v else 10 * v + T p - 48)
      omega
    · dsimp only; omega
theorem k_at_lt {T : Nat → Int32} {m j : Nat} (h : j < m) : k_at T m j = T j := if_pos h
theorem k_at_ge {T : Nat → Int32} {m j : Nat} (h : ¬ j < m) : k_at T m j = -1 := if_neg h
theorem z_next_ok {T : Nat → Int32} {m : Nat} {Z : ZS} (h : zpos Z ≤ m) : zpos (z_next T m Z) ≤ m := by
  have h1 := k_run_le k_blank T m (m - zpos Z) (zpos Z)
  unfold z_next z_at
  generalize k_run k_blank T m (m - zpos Z) (zpos Z) = p at h1
  have h2 := r_word_le T (m - p) p 0 0
  have h3 := r_numb_le T (m - p) p 0
  by_cases c : p < m
  · split
    · show p ≤ m; omega
    · split
      · show (r_word T (m - p) p 0 0).1 ≤ m; omega
      · split
        · show (r_numb T (m - p) p 0).1 ≤ m; omega
        · show p + 1 ≤ m; omega
  · rw [k_at_ge c, if_pos rfl]
    show p ≤ m
    omega
set_option maxRecDepth 100000 in
set_option maxHeartbeats 4000000 in
theorem cs_nextToken {K : KX} {n : Nat} {h : MH} {h0 : MH} {m : Nat} {M : MS} {t : Nat} {Z : ZS} (x : Ms h0 m (tkS M Z) h) (ht : gtl M = nI t) (h6 : t ≤ 600) (hp : zpos Z ≤ t) : Con K mX11_nextToken [.ref m] 0 0 n h (RetP none n (Ms h0 m (tkS M (z_next (gtxt M) t Z)))) := by
  refine Con.of (by decide +kernel) (Nat.le_of_ble_eq_true rfl) ?_
  have numb : ∀ (fi e ep : Int32) (q0 : Nat) (f : Nat) (p : Nat) (v : Int32) (h1 : MH), p + f = t → z_next (gtxt M) t Z = ((r_numb (gtxt M) f p v).1, q0, 3, 0, (r_numb (gtxt M) f p v).2, 0, e, ep) → Ms h0 m (tkS M (p, q0, 3, 0, v, 0, e, ep)) h1 → GG (K, mX11_nextToken, 0, 0, RetP none n (Ms h0 m (tkS M (z_next (gtxt M) t Z)))) 0 0 187 [(1, .int fi), (0, .ref m)] [] n h1 := by
    intro fi e ep q0 f
    induction f with
    | zero =>
      intro p v h1 hp hz x
      obtain rfl : p = t := by omega
      have hk : k_at (gtxt M) p p = -1 := k_at_ge (Nat.lt_irrefl p)
      refine mj_aload_n 1 dX11_nextToken_187 rfl ?_
      refine mj_aload_n 1 dX11_nextToken_188 rfl ?_
      refine mS_gpos dX11_nextToken_189 fgX11_280 x ?_
      refine mj_eq (y := nI p) rfl ?_
      refine mS_cV1 x [_] dX11_nextToken_192 cwX11_byteAt lkX11_283 rfl rfl rfl (cs_byteAt x (j := p) ht h6 (by omega)) ⟨Nat.le_of_ble_eq_true rfl, Nat.le_of_ble_eq_true rfl, Nat.le_of_ble_eq_true rfl, Nat.le_of_ble_eq_true rfl, Nat.le_of_ble_eq_true rfl⟩ (fun h x => ?_)
      refine mj_cS1 [_] dX11_nextToken_195 cwX11_isDigit lkX11_309 rfl (cn_X11_isDigit) ⟨Nat.le_of_ble_eq_true rfl, Nat.le_of_ble_eq_true rfl, Nat.le_of_ble_eq_true rfl, Nat.le_of_ble_eq_true rfl, Nat.le_of_ble_eq_true rfl⟩ (fun h' e' => ?_)
      subst h'
      refine mj_if_eq 279 dX11_nextToken_198 (by decide) (fun c_198 => ?_) (fun c_198 => ?_)
      · exact mj_vret dX11_nextToken_279 rfl (Nat.le_of_ble_eq_true rfl) (Nat.le_of_ble_eq_true rfl) ⟨rfl, rfl, (by rw [hz]; exact x)⟩
      · exact absurd (show bI (k_dig (k_at (gtxt M) p p)) = 0 by rw [hk]; rfl) c_198
    | succ f ih =>
      intro p v h1 hp hz x
      have hk : k_at (gtxt M) t p = gtxt M p := k_at_lt (by omega)
      refine mj_aload_n 1 dX11_nextToken_187 rfl ?_
      refine mj_aload_n 1 dX11_nextToken_188 rfl ?_
      refine mS_gpos dX11_nextToken_189 fgX11_280 x ?_
      refine mj_eq (y := nI p) rfl ?_
      refine mS_cV1 x [_] dX11_nextToken_192 cwX11_byteAt lkX11_283 rfl rfl rfl (cs_byteAt x (j := p) ht h6 (by omega)) ⟨Nat.le_of_ble_eq_true rfl, Nat.le_of_ble_eq_true rfl, Nat.le_of_ble_eq_true rfl, Nat.le_of_ble_eq_true rfl, Nat.le_of_ble_eq_true rfl⟩ (fun h x => ?_)
      refine mj_eq (show k_at (gtxt (tkS M (p, q0, 3, 0, v, 0, e, ep))) t p = gtxt M p from hk) ?_
      refine mj_cS1 [_] dX11_nextToken_195 cwX11_isDigit lkX11_309 rfl (cn_X11_isDigit) ⟨Nat.le_of_ble_eq_true rfl, Nat.le_of_ble_eq_true rfl, Nat.le_of_ble_eq_true rfl, Nat.le_of_ble_eq_true rfl, Nat.le_of_ble_eq_true rfl⟩ (fun h' e' => ?_)
      subst h'
      refine mj_if_eq 279 dX11_nextToken_198 (by decide) (fun c_198 => ?_) (fun c_198 => ?_)
      · have y1 : k_dig (gtxt M p) = false := bI_0.mp c_198
        exact mj_vret dX11_nextToken_279 rfl (Nat.le_of_ble_eq_true rfl) (Nat.le_of_ble_eq_true rfl) ⟨rfl, rfl, (by rw [hz]; unfold r_numb; rw [if_neg (by rw [y1]; decide)]; exact x)⟩
      · have y1 : k_dig (gtxt M p) = true := bI_n0.mp c_198
        refine mj_aload_n 1 dX11_nextToken_201 rfl ?_
        refine mj_aload_n 1 dX11_nextToken_202 rfl ?_
        refine mS_gnum dX11_nextToken_203 fgX11_296 x ?_
        refine mj_eq (y := v) rfl ?_
        refine mj_sipush (v := (9999)) dX11_nextToken_206 rfl ?_
        refine mj_icmp_le 219 dX11_nextToken_209 (by decide) (fun c_209 => ?_) (fun c_209 => ?_)
        · have y2 : ¬ (9999 : Int32) < v := Int32.not_lt.mpr c_209
          refine mj_bipush (v := (10)) dX11_nextToken_219 rfl ?_
          refine mj_aload_n 1 dX11_nextToken_221 rfl ?_
          refine mS_gnum dX11_nextToken_222 fgX11_296 x ?_
          refine mj_eq (y := v) rfl ?_
          refine mj_imul dX11_nextToken_225 ?_
          refine mj_aload_n 1 dX11_nextToken_226 rfl ?_
          refine mj_aload_n 1 dX11_nextToken_227 rfl ?_
          refine mS_gpos dX11_nextToken_228 fgX11_280 x ?_
          refine mj_eq (y := nI p) rfl ?_
          refine mS_cV1 x [_] dX11_nextToken_231 cwX11_byteAt lkX11_283 rfl rfl rfl (cs_byteAt x (j := p) ht h6 (by omega)) ⟨Nat.le_of_ble_eq_true rfl, Nat.le_of_ble_eq_true rfl, Nat.le_of_ble_eq_true rfl, Nat.le_of_ble_eq_true rfl, Nat.le_of_ble_eq_true rfl⟩ (fun h x => ?_)
          refine mj_eq (show k_at (gtxt (tkS M (p, q0, 3, 0, v, 0, e, ep))) t p = gtxt M p from hk) ?_
          refine mj_iadd dX11_nextToken_234 ?_
          refine mj_bipush (v := (48)) dX11_nextToken_235 rfl ?_
          refine mj_isub dX11_nextToken_237 ?_
          refine mS_pnum dX11_nextToken_238 fgX11_296 x (fun h x => ?_)
          rw [tkS_num] at x
          refine mj_aload_n 1 dX11_nextToken_241 rfl ?_
          refine mj_dup dX11_nextToken_242 rfl ?_
          refine mS_gpos dX11_nextToken_243 fgX11_280 x ?_
          refine mj_eq (y := nI p) rfl ?_
          refine mj_iconst (v := 1) dX11_nextToken_246 rfl ?_
          refine mj_iadd dX11_nextToken_247 ?_
          refine mj_eq (nI_1 _) ?_
          refine mS_ppos dX11_nextToken_248 fgX11_280 x (fun h x => ?_)
          rw [tkS_pos] at x
          refine mj_goto 187 dX11_nextToken_251 (by decide) ?_
          exact mj_ls [0, 1] rfl (ih (p + 1) _ _ (by omega) (by rw [hz]; conv => { lhs; unfold r_numb }; rw [if_pos y1, if_neg y2]) x)
        · have y2 : (9999 : Int32) < v := Int32.not_le.mp c_209
          refine mj_aload_n 1 dX11_nextToken_212 rfl ?_
          refine mS_gnum dX11_nextToken_213 fgX11_296 x ?_
          refine mj_eq (y := v) rfl ?_
          refine mj_goto 238 dX11_nextToken_216 (by decide) ?_
          refine mS_pnum dX11_nextToken_238 fgX11_296 x (fun h x => ?_)
          rw [tkS_num] at x
          refine mj_aload_n 1 dX11_nextToken_241 rfl ?_
          refine mj_dup dX11_nextToken_242 rfl ?_
          refine mS_gpos dX11_nextToken_243 fgX11_280 x ?_
          refine mj_eq (y := nI p) rfl ?_
          refine mj_iconst (v := 1) dX11_nextToken_246 rfl ?_
          refine mj_iadd dX11_nextToken_247 ?_
          refine mj_eq (nI_1 _) ?_
          refine mS_ppos dX11_nextToken_248 fgX11_280 x (fun h x => ?_)
          rw [tkS_pos] at x
          refine mj_goto 187 dX11_nextToken_251 (by decide) ?_
          exact mj_ls [0, 1] rfl (ih (p + 1) _ _ (by omega) (by rw [hz]; conv => { lhs; unfold r_numb }; rw [if_pos y1, if_pos y2]) x)
  have word : ∀ (fi e ep : Int32) (q0 : Nat) (f : Nat) (p l : Nat) (w : Int64) (h1 : MH), p + f = t → l ≤ p → z_next (gtxt M) t Z = ((r_word (gtxt M) f p l w).1, q0, 2, (r_word (gtxt M) f p l w).2.1, 0, (r_word (gtxt M) f p l w).2.2, e, ep) → Ms h0 m (tkS M (p, q0, 2, l, 0, w, e, ep)) h1 → GG (K, mX11_nextToken, 0, 0, RetP none n (Ms h0 m (tkS M (z_next (gtxt M) t Z)))) 0 0 96 [(1, .int fi), (0, .ref m)] [] n h1 := by
    intro fi e ep q0 f
    induction f with
    | zero =>
      intro p l w h1 hp hl hz x
      obtain rfl : p = t := by omega
      have hk : k_at (gtxt M) p p = -1 := k_at_ge (Nat.lt_irrefl p)
      refine mj_aload_n 1 dX11_nextToken_96 rfl ?_
      refine mj_aload_n 1 dX11_nextToken_97 rfl ?_
      refine mS_gpos dX11_nextToken_98 fgX11_280 x ?_
      refine mj_eq (y := nI p) rfl ?_
      refine mS_cV1 x [_] dX11_nextToken_101 cwX11_byteAt lkX11_283 rfl rfl rfl (cs_byteAt x (j := p) ht h6 (by omega)) ⟨Nat.le_of_ble_eq_true rfl, Nat.le_of_ble_eq_true rfl, Nat.le_of_ble_eq_true rfl, Nat.le_of_ble_eq_true rfl, Nat.le_of_ble_eq_true rfl⟩ (fun h x => ?_)
      refine mj_cS1 [_] dX11_nextToken_104 cwX11_isLetter lkX11_302 rfl (cn_X11_isLetter) ⟨Nat.le_of_ble_eq_true rfl, Nat.le_of_ble_eq_true rfl, Nat.le_of_ble_eq_true rfl, Nat.le_of_ble_eq_true rfl, Nat.le_of_ble_eq_true rfl⟩ (fun h' e' => ?_)
      subst h'
      refine mj_if_eq 279 dX11_nextToken_107 (by decide) (fun c_107 => ?_) (fun c_107 => ?_)
      · exact mj_vret dX11_nextToken_279 rfl (Nat.le_of_ble_eq_true rfl) (Nat.le_of_ble_eq_true rfl) ⟨rfl, rfl, (by rw [hz]; exact x)⟩
      · exact absurd (show bI (k_let (k_at (gtxt M) p p)) = 0 by rw [hk]; rfl) c_107
    | succ f ih =>
      intro p l w h1 hp hl hz x
      have hk : k_at (gtxt M) t p = gtxt M p := k_at_lt (by omega)
      refine mj_aload_n 1 dX11_nextToken_96 rfl ?_
      refine mj_aload_n 1 dX11_nextToken_97 rfl ?_
      refine mS_gpos dX11_nextToken_98 fgX11_280 x ?_
      refine mj_eq (y := nI p) rfl ?_
      refine mS_cV1 x [_] dX11_nextToken_101 cwX11_byteAt lkX11_283 rfl rfl rfl (cs_byteAt x (j := p) ht h6 (by omega)) ⟨Nat.le_of_ble_eq_true rfl, Nat.le_of_ble_eq_true rfl, Nat.le_of_ble_eq_true rfl, Nat.le_of_ble_eq_true rfl, Nat.le_of_ble_eq_true rfl⟩ (fun h x => ?_)
      refine mj_eq (show k_at (gtxt (tkS M (p, q0, 2, l, 0, w, e, ep))) t p = gtxt M p from hk) ?_
      refine mj_cS1 [_] dX11_nextToken_104 cwX11_isLetter lkX11_302 rfl (cn_X11_isLetter) ⟨Nat.le_of_ble_eq_true rfl, Nat.le_of_ble_eq_true rfl, Nat.le_of_ble_eq_true rfl, Nat.le_of_ble_eq_true rfl, Nat.le_of_ble_eq_true rfl⟩ (fun h' e' => ?_)
      subst h'
      refine mj_if_eq 279 dX11_nextToken_107 (by decide) (fun c_107 => ?_) (fun c_107 => ?_)
      · have y1 : k_let (gtxt M p) = false := bI_0.mp c_107
        exact mj_vret dX11_nextToken_279 rfl (Nat.le_of_ble_eq_true rfl) (Nat.le_of_ble_eq_true rfl) ⟨rfl, rfl, (by rw [hz]; unfold r_word; rw [if_neg (by rw [y1]; decide)]; exact x)⟩
      · have y1 : k_let (gtxt M p) = true := bI_n0.mp c_107
        refine mj_aload_n 1 dX11_nextToken_110 rfl ?_
        refine mj_aload_n 1 dX11_nextToken_111 rfl ?_
        refine mS_glet dX11_nextToken_112 fgX11_289 x ?_
        refine mj_eq (y := nI l) rfl ?_
        refine mj_bipush (v := (8)) dX11_nextToken_115 rfl ?_
        refine mj_icmp_ge 145 dX11_nextToken_117 (by decide) (fun c_117 => ?_) (fun c_117 => ?_)
        · have y2 : ¬ l < 8 := fun z => nI_ge z (by omega) (show nI 8 ≤ nI l from c_117)
          refine mj_aload_n 1 dX11_nextToken_145 rfl ?_
          refine mS_gwrd dX11_nextToken_146 fgX11_292 x ?_
          refine mj_eql (y := w) rfl ?_
          refine mS_pwrd dX11_nextToken_149 fgX11_292 x (fun h x => ?_)
          rw [tkS_wrd] at x
          refine mj_aload_n 1 dX11_nextToken_152 rfl ?_
          refine mj_dup dX11_nextToken_153 rfl ?_
          refine mS_glet dX11_nextToken_154 fgX11_289 x ?_
          refine mj_eq (y := nI l) rfl ?_
          refine mj_iconst (v := 1) dX11_nextToken_157 rfl ?_
          refine mj_iadd dX11_nextToken_158 ?_
          refine mj_eq (nI_1 _) ?_
          refine mS_plet dX11_nextToken_159 fgX11_289 x (fun h x => ?_)
          rw [tkS_let] at x
          refine mj_aload_n 1 dX11_nextToken_162 rfl ?_
          refine mj_dup dX11_nextToken_163 rfl ?_
          refine mS_gpos dX11_nextToken_164 fgX11_280 x ?_
          refine mj_eq (y := nI p) rfl ?_
          refine mj_iconst (v := 1) dX11_nextToken_167 rfl ?_
          refine mj_iadd dX11_nextToken_168 ?_
          refine mj_eq (nI_1 _) ?_
          refine mS_ppos dX11_nextToken_169 fgX11_280 x (fun h x => ?_)
          rw [tkS_pos] at x
          refine mj_goto 96 dX11_nextToken_172 (by decide) ?_
          exact mj_ls [0, 1] rfl (ih (p + 1) (l + 1) _ _ (by omega) (by omega) (by rw [hz]; conv => { lhs; unfold r_word }; rw [if_pos y1, if_neg y2]) x)
        · have y2 : l < 8 := Nat.lt_of_not_le fun z => c_117 (show nI 8 ≤ nI l from nI_le z (by omega))
          refine mj_ldc2 dX11_nextToken_120 ctX11_305 ?_
          refine mj_aload_n 1 dX11_nextToken_123 rfl ?_
          refine mS_gwrd dX11_nextToken_124 fgX11_292 x ?_
          refine mj_eql (y := w) rfl ?_
          refine mj_lmul dX11_nextToken_127 ?_
          refine mj_aload_n 1 dX11_nextToken_128 rfl ?_
          refine mj_aload_n 1 dX11_nextToken_129 rfl ?_
          refine mS_gpos dX11_nextToken_130 fgX11_280 x ?_
          refine mj_eq (y := nI p) rfl ?_
          refine mS_cV1 x [_] dX11_nextToken_133 cwX11_byteAt lkX11_283 rfl rfl rfl (cs_byteAt x (j := p) ht h6 (by omega)) ⟨Nat.le_of_ble_eq_true rfl, Nat.le_of_ble_eq_true rfl, Nat.le_of_ble_eq_true rfl, Nat.le_of_ble_eq_true rfl, Nat.le_of_ble_eq_true rfl⟩ (fun h x => ?_)
          refine mj_eq (show k_at (gtxt (tkS M (p, q0, 2, l, 0, w, e, ep))) t p = gtxt M p from hk) ?_
          refine mj_i2l dX11_nextToken_136 rfl ?_
          refine mj_ladd dX11_nextToken_137 ?_
          refine mj_ldc2 dX11_nextToken_138 ctX11_307 ?_
          refine mj_lsub dX11_nextToken_141 ?_
          refine mj_goto 149 dX11_nextToken_142 (by decide) ?_
          refine mS_pwrd dX11_nextToken_149 fgX11_292 x (fun h x => ?_)
          rw [tkS_wrd] at x
          refine mj_aload_n 1 dX11_nextToken_152 rfl ?_
          refine mj_dup dX11_nextToken_153 rfl ?_
          refine mS_glet dX11_nextToken_154 fgX11_289 x ?_
          refine mj_eq (y := nI l) rfl ?_
          refine mj_iconst (v := 1) dX11_nextToken_157 rfl ?_
          refine mj_iadd dX11_nextToken_158 ?_
          refine mj_eq (nI_1 _) ?_
          refine mS_plet dX11_nextToken_159 fgX11_289 x (fun h x => ?_)
          rw [tkS_let] at x
          refine mj_aload_n 1 dX11_nextToken_162 rfl ?_
          refine mj_dup dX11_nextToken_163 rfl ?_
          refine mS_gpos dX11_nextToken_164 fgX11_280 x ?_
          refine mj_eq (y := nI p) rfl ?_
          refine mj_iconst (v := 1) dX11_nextToken_167 rfl ?_
          refine mj_iadd dX11_nextToken_168 ?_
          refine mj_eq (nI_1 _) ?_
          refine mS_ppos dX11_nextToken_169 fgX11_280 x (fun h x => ?_)
          rw [tkS_pos] at x
          refine mj_goto 96 dX11_nextToken_172 (by decide) ?_
          exact mj_ls [0, 1] rfl (ih (p + 1) (l + 1) _ _ (by omega) (by omega) (by rw [hz]; conv => { lhs; unfold r_word }; rw [if_pos y1, if_pos y2]) x)
  have t39 : ∀ (p q0 : Nat) (k : Int32) (l : Nat) (nn : Int32) (w : Int64) (e ep : Int32) (h1 : MH), p ≤ t → z_next (gtxt M) t Z = z_at (gtxt M) t (0, 0, 0, 0, 0, 0, e, ep) p → Ms h0 m (tkS M (p, q0, k, l, nn, w, e, ep)) h1 → GG (K, mX11_nextToken, 0, 0, RetP none n (Ms h0 m (tkS M (z_next (gtxt M) t Z)))) 0 0 39 [(0, .ref m)] [] n h1 := by
    intro p q0 k l nn w e ep h1 hp hz x
    refine mj_aload_n 0 dX11_nextToken_39 rfl ?_
    refine mj_aload_n 0 dX11_nextToken_40 rfl ?_
    refine mS_gpos dX11_nextToken_41 fgX11_280 x ?_
    refine mj_eq (y := nI p) rfl ?_
    refine mS_ptst dX11_nextToken_44 fgX11_286 x (fun h x => ?_)
    rw [tkS_tst] at x
    refine mj_aload_n 0 dX11_nextToken_47 rfl ?_
    refine mj_iconst (v := 0) dX11_nextToken_48 rfl ?_
    refine mS_plet dX11_nextToken_49 fgX11_289 x (fun h x => ?_)
    rw [show slet (tkS M (p, p, k, l, nn, w, e, ep)) 0 = _ from tkS_let M p p k l nn w e ep 0] at x
    refine mj_aload_n 0 dX11_nextToken_52 rfl ?_
    refine mj_lconst (v := 0) dX11_nextToken_53 rfl ?_
    refine mS_pwrd dX11_nextToken_54 fgX11_292 x (fun h x => ?_)
    rw [tkS_wrd] at x
    refine mj_aload_n 0 dX11_nextToken_57 rfl ?_
    refine mj_iconst (v := 0) dX11_nextToken_58 rfl ?_
    refine mS_pnum dX11_nextToken_59 fgX11_296 x (fun h x => ?_)
    rw [tkS_num] at x
    refine mj_aload_n 0 dX11_nextToken_62 rfl ?_
    refine mj_aload_n 0 dX11_nextToken_63 rfl ?_
    refine mS_gpos dX11_nextToken_64 fgX11_280 x ?_
    refine mj_eq (y := nI p) rfl ?_
    refine mS_cV1 x [_] dX11_nextToken_67 cwX11_byteAt lkX11_283 rfl rfl rfl (cs_byteAt x (j := p) ht h6 (by omega)) ⟨Nat.le_of_ble_eq_true rfl, Nat.le_of_ble_eq_true rfl, Nat.le_of_ble_eq_true rfl, Nat.le_of_ble_eq_true rfl, Nat.le_of_ble_eq_true rfl⟩ (fun h x => ?_)
    refine mj_istore_n (ls' := [(1, _), (0, _)]) dX11_nextToken_70 (Nat.le_of_ble_eq_true rfl) rfl ?_
    refine mj_iload_n 0 dX11_nextToken_71 rfl ?_
    refine mj_iconst (v := (-1)) dX11_nextToken_72 rfl ?_
    refine mj_icmp_ne 84 dX11_nextToken_73 (by decide) (fun c_73 => ?_) (fun c_73 => ?_)
    · have y0 : ¬ k_at (gtxt M) t p = -1 := c_73
      refine mj_iload_n 0 dX11_nextToken_84 rfl ?_
      refine mj_cS1 [_] dX11_nextToken_85 cwX11_isLetter lkX11_302 rfl (cn_X11_isLetter) ⟨Nat.le_of_ble_eq_true rfl, Nat.le_of_ble_eq_true rfl, Nat.le_of_ble_eq_true rfl, Nat.le_of_ble_eq_true rfl, Nat.le_of_ble_eq_true rfl⟩ (fun h' e' => ?_)
      subst h'
      refine mj_if_eq 175 dX11_nextToken_88 (by decide) (fun c_88 => ?_) (fun c_88 => ?_)
      · have y1 : k_let (k_at (gtxt M) t p) = false := bI_0.mp c_88
        refine mj_iload_n 0 dX11_nextToken_175 rfl ?_
        refine mj_cS1 [_] dX11_nextToken_176 cwX11_isDigit lkX11_309 rfl (cn_X11_isDigit) ⟨Nat.le_of_ble_eq_true rfl, Nat.le_of_ble_eq_true rfl, Nat.le_of_ble_eq_true rfl, Nat.le_of_ble_eq_true rfl, Nat.le_of_ble_eq_true rfl⟩ (fun h' e' => ?_)
        subst h'
        refine mj_if_eq 254 dX11_nextToken_179 (by decide) (fun c_179 => ?_) (fun c_179 => ?_)
        · have y2 : k_dig (k_at (gtxt M) t p) = false := bI_0.mp c_179
          refine mj_aload_n 1 dX11_nextToken_254 rfl ?_
          refine mj_iload_n 0 dX11_nextToken_255 rfl ?_
          refine mj_bipush (v := (59)) dX11_nextToken_256 rfl ?_
          refine mj_icmp_ne 265 dX11_nextToken_258 (by decide) (fun c_258 => ?_) (fun c_258 => ?_)
          · have y3 : ¬ k_at (gtxt M) t p = 59 := c_258
            refine mj_iconst (v := 1) dX11_nextToken_265 rfl ?_
            refine mS_ptok dX11_nextToken_266 fgX11_299 x (fun h x => ?_)
            rw [tkS_tok] at x
            refine mj_aload_n 1 dX11_nextToken_269 rfl ?_
            refine mj_dup dX11_nextToken_270 rfl ?_
            refine mS_gpos dX11_nextToken_271 fgX11_280 x ?_
            refine mj_eq (y := nI p) rfl ?_
            refine mj_iconst (v := 1) dX11_nextToken_274 rfl ?_
            refine mj_iadd dX11_nextToken_275 ?_
            refine mj_eq (nI_1 _) ?_
            refine mS_ppos dX11_nextToken_276 fgX11_280 x (fun h x => ?_)
            rw [tkS_pos] at x
            exact mj_vret dX11_nextToken_279 rfl (Nat.le_of_ble_eq_true rfl) (Nat.le_of_ble_eq_true rfl) ⟨rfl, rfl, (by rw [hz]; unfold z_at; rw [if_neg y0, if_neg (by rw [y1]; decide), if_neg (by rw [y2]; decide), if_neg y3]; exact x)⟩
          · have y3 : k_at (gtxt M) t p = 59 := c_258
            refine mj_iconst (v := 4) dX11_nextToken_261 rfl ?_
            refine mj_goto 266 dX11_nextToken_262 (by decide) ?_
            refine mS_ptok dX11_nextToken_266 fgX11_299 x (fun h x => ?_)
            rw [tkS_tok] at x
            refine mj_aload_n 1 dX11_nextToken_269 rfl ?_
            refine mj_dup dX11_nextToken_270 rfl ?_
            refine mS_gpos dX11_nextToken_271 fgX11_280 x ?_
            refine mj_eq (y := nI p) rfl ?_
            refine mj_iconst (v := 1) dX11_nextToken_274 rfl ?_
            refine mj_iadd dX11_nextToken_275 ?_
            refine mj_eq (nI_1 _) ?_
            refine mS_ppos dX11_nextToken_276 fgX11_280 x (fun h x => ?_)
            rw [tkS_pos] at x
            exact mj_vret dX11_nextToken_279 rfl (Nat.le_of_ble_eq_true rfl) (Nat.le_of_ble_eq_true rfl) ⟨rfl, rfl, (by rw [hz]; unfold z_at; rw [if_neg y0, if_neg (by rw [y1]; decide), if_neg (by rw [y2]; decide), if_pos y3]; exact x)⟩
        · have y2 : k_dig (k_at (gtxt M) t p) = true := bI_n0.mp c_179
          refine mj_aload_n 1 dX11_nextToken_182 rfl ?_
          refine mj_iconst (v := 3) dX11_nextToken_183 rfl ?_
          refine mS_ptok dX11_nextToken_184 fgX11_299 x (fun h x => ?_)
          rw [tkS_tok] at x
          exact mj_ls [0, 1] rfl (numb _ e ep p (t - p) p 0 _ (by omega) (by rw [hz]; unfold z_at; rw [if_neg y0, if_neg (by rw [y1]; decide), if_pos y2]) x)
      · have y1 : k_let (k_at (gtxt M) t p) = true := bI_n0.mp c_88
        refine mj_aload_n 1 dX11_nextToken_91 rfl ?_
        refine mj_iconst (v := 2) dX11_nextToken_92 rfl ?_
        refine mS_ptok dX11_nextToken_93 fgX11_299 x (fun h x => ?_)
        rw [tkS_tok] at x
        exact mj_ls [0, 1] rfl (word _ e ep p (t - p) p 0 0 _ (by omega) (Nat.zero_le _) (by rw [hz]; unfold z_at; rw [if_neg y0, if_pos y1]) x)
    · have y0 : k_at (gtxt M) t p = -1 := c_73
      refine mj_aload_n 1 dX11_nextToken_76 rfl ?_
      refine mj_iconst (v := 0) dX11_nextToken_77 rfl ?_
      refine mS_ptok dX11_nextToken_78 fgX11_299 x (fun h x => ?_)
      rw [tkS_tok] at x
      refine mj_goto 279 dX11_nextToken_81 (by decide) ?_
      exact mj_vret dX11_nextToken_279 rfl (Nat.le_of_ble_eq_true rfl) (Nat.le_of_ble_eq_true rfl) ⟨rfl, rfl, (by rw [hz]; unfold z_at; rw [if_pos y0]; exact x)⟩
  have bl : ∀ (q0 : Nat) (k : Int32) (l : Nat) (nn : Int32) (w : Int64) (e ep : Int32) (f : Nat) (p : Nat) (h1 : MH), p + f = t → z_next (gtxt M) t Z = z_at (gtxt M) t (0, 0, 0, 0, 0, 0, e, ep) (k_run k_blank (gtxt M) t f p) → Ms h0 m (tkS M (p, q0, k, l, nn, w, e, ep)) h1 → GG (K, mX11_nextToken, 0, 0, RetP none n (Ms h0 m (tkS M (z_next (gtxt M) t Z)))) 0 0 0 [(0, .ref m)] [] n h1 := by
    intro q0 k l nn w e ep f
    induction f with
    | zero =>
      intro p h1 hp hz x
      obtain rfl : p = t := by omega
      have hk : k_at (gtxt M) p p = -1 := k_at_ge (Nat.lt_irrefl p)
      refine mj_aload_n 0 dX11_nextToken_0 rfl ?_
      refine mj_aload_n 0 dX11_nextToken_1 rfl ?_
      refine mS_gpos dX11_nextToken_2 fgX11_280 x ?_
      refine mj_eq (y := nI p) rfl ?_
      refine mS_cV1 x [_] dX11_nextToken_5 cwX11_byteAt lkX11_283 rfl rfl rfl (cs_byteAt x (j := p) ht h6 (by omega)) ⟨Nat.le_of_ble_eq_true rfl, Nat.le_of_ble_eq_true rfl, Nat.le_of_ble_eq_true rfl, Nat.le_of_ble_eq_true rfl, Nat.le_of_ble_eq_true rfl⟩ (fun h x => ?_)
      refine mj_bipush (v := (32)) dX11_nextToken_8 rfl ?_
      refine mj_icmp_eq 26 dX11_nextToken_10 (by decide) (fun c_10 => ?_) (fun c_10 => ?_)
      · exact absurd (hk.symm.trans c_10) (by decide)
      · refine mj_aload_n 0 dX11_nextToken_13 rfl ?_
        refine mj_aload_n 0 dX11_nextToken_14 rfl ?_
        refine mS_gpos dX11_nextToken_15 fgX11_280 x ?_
        refine mj_eq (y := nI p) rfl ?_
        refine mS_cV1 x [_] dX11_nextToken_18 cwX11_byteAt lkX11_283 rfl rfl rfl (cs_byteAt x (j := p) ht h6 (by omega)) ⟨Nat.le_of_ble_eq_true rfl, Nat.le_of_ble_eq_true rfl, Nat.le_of_ble_eq_true rfl, Nat.le_of_ble_eq_true rfl, Nat.le_of_ble_eq_true rfl⟩ (fun h x => ?_)
        refine mj_bipush (v := (10)) dX11_nextToken_21 rfl ?_
        refine mj_icmp_ne 39 dX11_nextToken_23 (by decide) (fun c_23 => ?_) (fun c_23 => ?_)
        · exact t39 p q0 k l nn w e ep _ (Nat.le_refl p) hz x
        · exact absurd (hk.symm.trans c_23) (by decide)
    | succ f ih =>
      intro p h1 hp hz x
      have hk : k_at (gtxt M) t p = gtxt M p := k_at_lt (by omega)
      refine mj_aload_n 0 dX11_nextToken_0 rfl ?_
      refine mj_aload_n 0 dX11_nextToken_1 rfl ?_
      refine mS_gpos dX11_nextToken_2 fgX11_280 x ?_
      refine mj_eq (y := nI p) rfl ?_
      refine mS_cV1 x [_] dX11_nextToken_5 cwX11_byteAt lkX11_283 rfl rfl rfl (cs_byteAt x (j := p) ht h6 (by omega)) ⟨Nat.le_of_ble_eq_true rfl, Nat.le_of_ble_eq_true rfl, Nat.le_of_ble_eq_true rfl, Nat.le_of_ble_eq_true rfl, Nat.le_of_ble_eq_true rfl⟩ (fun h x => ?_)
      refine mj_bipush (v := (32)) dX11_nextToken_8 rfl ?_
      refine mj_icmp_eq 26 dX11_nextToken_10 (by decide) (fun c_10 => ?_) (fun c_10 => ?_)
      · have y1 : k_blank (gtxt M p) = true := by rw [← hk]; unfold k_blank; rw [decide_eq_true (show k_at (gtxt M) t p = 32 from c_10)]; rfl
        refine mj_aload_n 0 dX11_nextToken_26 rfl ?_
        refine mj_dup dX11_nextToken_27 rfl ?_
        refine mS_gpos dX11_nextToken_28 fgX11_280 x ?_
        refine mj_eq (y := nI p) rfl ?_
        refine mj_iconst (v := 1) dX11_nextToken_31 rfl ?_
        refine mj_iadd dX11_nextToken_32 ?_
        refine mj_eq (nI_1 _) ?_
        refine mS_ppos dX11_nextToken_33 fgX11_280 x (fun h x => ?_)
        rw [tkS_pos] at x
        refine mj_goto 0 dX11_nextToken_36 (by decide) ?_
        exact ih (p + 1) _ (by omega) (by rw [hz]; conv => { lhs; unfold k_run }; rw [if_pos y1]) x
      · have y0 : ¬ gtxt M p = 32 := by rw [← hk]; exact c_10
        refine mj_aload_n 0 dX11_nextToken_13 rfl ?_
        refine mj_aload_n 0 dX11_nextToken_14 rfl ?_
        refine mS_gpos dX11_nextToken_15 fgX11_280 x ?_
        refine mj_eq (y := nI p) rfl ?_
        refine mS_cV1 x [_] dX11_nextToken_18 cwX11_byteAt lkX11_283 rfl rfl rfl (cs_byteAt x (j := p) ht h6 (by omega)) ⟨Nat.le_of_ble_eq_true rfl, Nat.le_of_ble_eq_true rfl, Nat.le_of_ble_eq_true rfl, Nat.le_of_ble_eq_true rfl, Nat.le_of_ble_eq_true rfl⟩ (fun h x => ?_)
        refine mj_bipush (v := (10)) dX11_nextToken_21 rfl ?_
        refine mj_icmp_ne 39 dX11_nextToken_23 (by decide) (fun c_23 => ?_) (fun c_23 => ?_)
        · have y1 : k_blank (gtxt M p) = false := by unfold k_blank; rw [decide_eq_false y0, decide_eq_false (show ¬ gtxt M p = 10 by rw [← hk]; exact c_23)]; rfl
          exact t39 p q0 k l nn w e ep _ (by omega) (by rw [hz]; conv => { lhs; unfold k_run }; rw [if_neg (by rw [y1]; decide)]) x
        · have y1 : k_blank (gtxt M p) = true := by unfold k_blank; rw [decide_eq_true (show gtxt M p = 10 by rw [← hk]; exact c_23), Bool.or_true]
          refine mj_aload_n 0 dX11_nextToken_26 rfl ?_
          refine mj_dup dX11_nextToken_27 rfl ?_
          refine mS_gpos dX11_nextToken_28 fgX11_280 x ?_
          refine mj_eq (y := nI p) rfl ?_
          refine mj_iconst (v := 1) dX11_nextToken_31 rfl ?_
          refine mj_iadd dX11_nextToken_32 ?_
          refine mj_eq (nI_1 _) ?_
          refine mS_ppos dX11_nextToken_33 fgX11_280 x (fun h x => ?_)
          rw [tkS_pos] at x
          refine mj_goto 0 dX11_nextToken_36 (by decide) ?_
          exact ih (p + 1) _ (by omega) (by rw [hz]; conv => { lhs; unfold k_run }; rw [if_pos y1]) x
  exact bl (ztst Z) (ztok Z) (zlet Z) (znum Z) (zwrd Z) (zec Z) (zep Z) (t - zpos Z) (zpos Z) h (by omega) rfl x
