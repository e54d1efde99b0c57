-- THE LAW'S CASES: one call of both, over an invariant J of the heap
/-- the wrapper's number, the reference's, the answers in the law's own row (eq: what must hold of them) -/
def StepI (K : KX) (m o : Nat) (A : MI) (AA : List Value) (B : MI) (AB : List Value) (J : Nat → MH → Prop) (n : Nat) (h : MH) : Prop :=
  ∃ mc ms QA, mc ≤ 100 ∧ ms ≤ 2000 ∧ Con K A AA mc ms n h QA ∧ ∀ r n1 h1, QA r n1 h1 → ∃ (k : Int32) (f1 : Nat → Int64) (b : Int32) (P2 : MH → Prop), r = .inl (some (.int k)) ∧ (∃ fs, h1 m = some (cO 11 fs)) ∧ Con K B AB 0 0 n1 h1 (RetP (some (.int b)) n1 P2) ∧
    ∀ h2, P2 h2 → (∃ fs, h2 m = some (cO 11 fs)) ∧ ∃ P3, Con K mX11_thrown [.ref m] 0 0 n1 h2 (RetP (some (.int k)) n1 P3) ∧ ∀ h3, P3 h3 → h3 o = some (cJ 1 f1) ∧ (k = 0 → f1 0 = b.toInt64) ∧ J n1 h3
def StepZ (K : KX) (m o : Nat) (A : MI) (AA : List Value) (B : MI) (AB : List Value) (J : Nat → MH → Prop) (n : Nat) (h : MH) : Prop :=
  ∃ mc ms QA, mc ≤ 100 ∧ ms ≤ 2000 ∧ Con K A AA mc ms n h QA ∧ ∀ r n1 h1, QA r n1 h1 → ∃ (k : Int32) (f1 : Nat → Int64) (b : Bool) (P2 : MH → Prop), r = .inl (some (.int k)) ∧ (∃ fs, h1 m = some (cO 11 fs)) ∧ Con K B AB 0 0 n1 h1 (RetP (some (.int (bI b))) n1 P2) ∧
    ∀ h2, P2 h2 → (∃ fs, h2 m = some (cO 11 fs)) ∧ ∃ P3, Con K mX11_thrown [.ref m] 0 0 n1 h2 (RetP (some (.int k)) n1 P3) ∧ ∀ h3, P3 h3 → h3 o = some (cJ 1 f1) ∧ (k = 0 → f1 0 = if b then 1 else 0) ∧ J n1 h3
def StepJ (K : KX) (m o : Nat) (A : MI) (AA : List Value) (B : MI) (AB : List Value) (J : Nat → MH → Prop) (n : Nat) (h : MH) : Prop :=
  ∃ mc ms QA, mc ≤ 100 ∧ ms ≤ 2000 ∧ Con K A AA mc ms n h QA ∧ ∀ r n1 h1, QA r n1 h1 → ∃ (k : Int32) (f1 : Nat → Int64) (b : Int64) (P2 : MH → Prop), r = .inl (some (.int k)) ∧ (∃ fs, h1 m = some (cO 11 fs)) ∧ Con K B AB 0 0 n1 h1 (RetP (some (.long b)) n1 P2) ∧
    ∀ h2, P2 h2 → (∃ fs, h2 m = some (cO 11 fs)) ∧ ∃ P3, Con K mX11_thrown [.ref m] 0 0 n1 h2 (RetP (some (.int k)) n1 P3) ∧ ∀ h3, P3 h3 → h3 o = some (cJ 1 f1) ∧ (k = 0 → f1 0 = b) ∧ J n1 h3
def StepV (K : KX) (m : Nat) (A : MI) (AA : List Value) (B : MI) (AB : List Value) (J : Nat → MH → Prop) (n : Nat) (h : MH) : Prop :=
  ∃ mc ms QA, mc ≤ 100 ∧ ms ≤ 2000 ∧ Con K A AA mc ms n h QA ∧ ∀ r n1 h1, QA r n1 h1 → ∃ (k : Int32) (P2 : MH → Prop), r = .inl (some (.int k)) ∧ (∃ fs, h1 m = some (cO 11 fs)) ∧ Con K B AB 0 0 n1 h1 (RetP none n1 P2) ∧
    ∀ h2, P2 h2 → (∃ fs, h2 m = some (cO 11 fs)) ∧ ∃ P3, Con K mX11_thrown [.ref m] 0 0 n1 h2 (RetP (some (.int k)) n1 P3) ∧ ∀ h3, P3 h3 → J n1 h3
/-- the two answers of a call that throws nothing -/
def StepD (K : KX) (c m : Nat) (A : MI) (AA : List Value) (B : MI) (AB : List Value) (J : Nat → MH → Prop) (n : Nat) (h : MH) : Prop :=
  ∃ mc ms v n1 P1, mc ≤ 100 ∧ ms ≤ 2000 ∧ (∃ fs, h c = some (cO 10 fs)) ∧ Con K A AA mc ms n h (RetP (some (.int v)) n1 P1) ∧ ∀ h1, P1 h1 → (∃ fs, h1 m = some (cO 11 fs)) ∧ ∃ P2, Con K B AB 0 0 n1 h1 (RetP (some (.int v)) n1 P2) ∧ ∀ h2, P2 h2 → J n1 h2
theorem sx_i {t j : Nat} (h : 7 * t + j < 4000) : (nI (7 * t) + nI j).toInt = ((7 * t + j : Nat) : Int) := by
  rw [nI_add]
  exact nI_toInt (by omega)
/-- the room that the statement gives -/
abbrev rmC : Nat := room_1.cells
abbrev rmS : Nat := room_1.slots
theorem rm_c : 60000 ≤ rmC := by decide
theorem rm_s : 1100000 ≤ rmS := by decide
abbrev lawQ : RQ := fun r _ _ => r = .inl (some (.int 1))
abbrev lawG (K : KX) : GX := (K, mL_law, rmC, rmS, lawQ)
abbrev lawL (b c m o t : Nat) : List (Nat × Value) := [(0, .ref b), (1, .ref c), (2, .ref m), (3, .ref o), (4, .int (nI (7 * t)))]
set_option maxRecDepth 100000 in
set_option maxHeartbeats 4000000 in
theorem lwc_0 {K : KX} {b c m o t L k sl n : Nat} {xs : Nat → Int32} {h : MH} {J : Nat → MH → Prop} (ht : 7 * t + 6 < L) (hL : L ≤ 3584) (hk : k + 400 ≤ rmC) (hs : sl + 5000 ≤ rmS) (H : StepI K m o mL_addDriver [.ref c, .int (xs (7 * t + 1)), .int (xs (7 * t + 2)), .int (xs (7 * t + 3)), .int (xs (7 * t + 4)), .ref o] mX11_addDriver [.ref m, .int (xs (7 * t + 1)), .int (xs (7 * t + 2)), .int (xs (7 * t + 3)), .int (xs (7 * t + 4))] J n h) (g : ∀ k' sl' n' h', k' ≤ k + 100 → sl' ≤ sl + 2000 → J n' h' → GL (lawG K) (XSc K b L xs) k' sl' 2603 (lawL b c m o t) [] n' h') : GL (lawG K) (XSc K b L xs) k sl 240 (lawL b c m o t) [] n h := by
  obtain ⟨mc, ms, QA, hmc, hms, hW, hA⟩ := H
  refine ml_aload_n 1 dL_law_240 rfl ?_
  refine ml_aload_n 0 dL_law_241 rfl ?_
  refine ml_iload 4 dL_law_242 rfl ?_
  refine ml_iconst (v := 1) dL_law_244 rfl ?_
  refine ml_iadd dL_law_245 ?_
  refine ml_sld (j := 7 * t + 1) rfl (sx_i (j := 1) (by omega)) (by omega) dL_law_246 ?_
  refine ml_aload_n 0 dL_law_247 rfl ?_
  refine ml_iload 4 dL_law_248 rfl ?_
  refine ml_iconst (v := 2) dL_law_250 rfl ?_
  refine ml_iadd dL_law_251 ?_
  refine ml_sld (j := 7 * t + 2) rfl (sx_i (j := 2) (by omega)) (by omega) dL_law_252 ?_
  refine ml_aload_n 0 dL_law_253 rfl ?_
  refine ml_iload 4 dL_law_254 rfl ?_
  refine ml_iconst (v := 3) dL_law_256 rfl ?_
  refine ml_iadd dL_law_257 ?_
  refine ml_sld (j := 7 * t + 3) rfl (sx_i (j := 3) (by omega)) (by omega) dL_law_258 ?_
  refine ml_aload_n 0 dL_law_259 rfl ?_
  refine ml_iload 4 dL_law_260 rfl ?_
  refine ml_iconst (v := 4) dL_law_262 rfl ?_
  refine ml_iadd dL_law_263 ?_
  refine ml_sld (j := 7 * t + 4) rfl (sx_i (j := 4) (by omega)) (by omega) dL_law_264 ?_
  refine ml_aload_n 3 dL_law_265 rfl ?_
  refine ml_cS [.ref c, .int (xs (7 * t + 1)), .int (xs (7 * t + 2)), .int (xs (7 * t + 3)), .int (xs (7 * t + 4)), .ref o] dL_law_266 cwL_addDriver lkL_136 rfl hW ⟨Nat.le_of_ble_eq_true rfl, Nat.le_of_ble_eq_true rfl, Nat.le_of_ble_eq_true rfl, (show k + mc ≤ rmC by omega), (show sl + ms ≤ rmS by omega)⟩ (fun v n1 h1 q => ?_) (fun E n1 h1 q => by obtain ⟨_, _, _, _, e1, _⟩ := hA _ _ _ q; cases e1)
  obtain ⟨k9, f1, b9, P2, e1, ⟨fs1, hm1⟩, hB, hN⟩ := hA _ _ _ q
  cases e1
  show GL _ _ _ _ _ _ [.int k9] _ _
  refine ml_istore (ls' := [(5, _), (0, _), (1, _), (2, _), (3, _), (4, _)]) dL_law_269 (Nat.le_of_ble_eq_true rfl) rfl ?_
  refine ml_aload_n 3 dL_law_271 rfl ?_
  refine ml_aload_n 1 dL_law_272 rfl ?_
  refine ml_iload 5 dL_law_273 rfl ?_
  refine ml_iconst (v := 1) dL_law_275 rfl ?_
  refine ml_iadd dL_law_276 ?_
  refine ml_sld (j := 7 * t + 1) rfl (sx_i (j := 1) (by omega)) (by omega) dL_law_277 ?_
  refine ml_aload_n 1 dL_law_278 rfl ?_
  refine ml_iload 5 dL_law_279 rfl ?_
  refine ml_iconst (v := 2) dL_law_281 rfl ?_
  refine ml_iadd dL_law_282 ?_
  refine ml_sld (j := 7 * t + 2) rfl (sx_i (j := 2) (by omega)) (by omega) dL_law_283 ?_
  refine ml_aload_n 1 dL_law_284 rfl ?_
  refine ml_iload 5 dL_law_285 rfl ?_
  refine ml_iconst (v := 3) dL_law_287 rfl ?_
  refine ml_iadd dL_law_288 ?_
  refine ml_sld (j := 7 * t + 3) rfl (sx_i (j := 3) (by omega)) (by omega) dL_law_289 ?_
  refine ml_aload_n 1 dL_law_290 rfl ?_
  refine ml_iload 5 dL_law_291 rfl ?_
  refine ml_iconst (v := 4) dL_law_293 rfl ?_
  refine ml_iadd dL_law_294 ?_
  refine ml_sld (j := 7 * t + 4) rfl (sx_i (j := 4) (by omega)) (by omega) dL_law_295 ?_
  refine ml_cV1 [.int (xs (7 * t + 1)), .int (xs (7 * t + 2)), .int (xs (7 * t + 3)), .int (xs (7 * t + 4))] (RX11, TX11, 32) dL_law_296 cwX11_addDriver lkL_141 hm1 rfl rfl rfl rfl hB ⟨Nat.le_of_ble_eq_true rfl, Nat.le_of_ble_eq_true rfl, Nat.le_of_ble_eq_true rfl, (show k + mc + 0 ≤ rmC by omega), (show sl + ms + 0 ≤ rmS by omega)⟩ (fun h2 q2 => ?_)
  obtain ⟨⟨fs2, hm2⟩, P3, hT, hN3⟩ := hN h2 q2
  refine ml_istore (ls' := [(6, _), (5, _), (0, _), (1, _), (2, _), (3, _), (4, _)]) dL_law_299 (Nat.le_of_ble_eq_true rfl) rfl ?_
  refine ml_aload_n 4 dL_law_301 rfl ?_
  refine ml_cV1 [] (RX11, TX11, 32) dL_law_302 cwX11_thrown lkL_142 hm2 rfl rfl rfl rfl hT ⟨Nat.le_of_ble_eq_true rfl, Nat.le_of_ble_eq_true rfl, Nat.le_of_ble_eq_true rfl, (show k + mc + 0 + 0 ≤ rmC by omega), (show sl + ms + 0 + 0 ≤ rmS by omega)⟩ (fun h3 q3 => ?_)
  obtain ⟨ho3, hv, J3⟩ := hN3 h3 q3
  refine ml_iload 1 dL_law_305 rfl ?_
  refine ml_icmp_eq 312 dL_law_307 (by decide) (fun c_307 => ?_) (fun c_307 => ?_)
  · refine ml_iload 1 dL_law_312 rfl ?_
    refine ml_if_ne 329 dL_law_314 (by decide) (fun c_314 => ?_) (fun c_314 => ?_)
    · refine ml_goto 2603 dL_law_329 (by decide) ?_
      exact ml_ls [2, 3, 4, 5, 6] rfl (g _ _ _ _ (by omega) (by omega) J3)
    · refine ml_aload_n 5 dL_law_317 rfl ?_
      refine ml_iconst (v := 0) dL_law_318 rfl ?_
      refine ml_lald ho3 (show (0 : Int32).toInt = ((0 : Nat) : Int) from rfl) (Nat.zero_lt_one) dL_law_319 ?_
      refine ml_iload 0 dL_law_320 rfl ?_
      refine ml_i2l dL_law_322 rfl ?_
      refine ml_lcmp dL_law_323 ?_
      refine ml_if_eq 329 dL_law_324 (by decide) (fun c_324 => ?_) (fun c_324 => ?_)
      · refine ml_goto 2603 dL_law_329 (by decide) ?_
        exact ml_ls [2, 3, 4, 5, 6] rfl (g _ _ _ _ (by omega) (by omega) J3)
      · exact (c_324 (lgc_eq.mpr (hv c_314))).elim
  · exact (c_307 rfl).elim
set_option maxRecDepth 100000 in
set_option maxHeartbeats 4000000 in
theorem lwc_1 {K : KX} {b c m o t L k sl n : Nat} {xs : Nat → Int32} {h : MH} {J : Nat → MH → Prop} (ht : 7 * t + 6 < L) (hL : L ≤ 3584) (hk : k + 400 ≤ rmC) (hs : sl + 5000 ≤ rmS) (H : StepI K m o mL_setTrip [.ref c, .int (xs (7 * t + 1)), .int (xs (7 * t + 2)), .int (xs (7 * t + 3)), .int (xs (7 * t + 4)), .int (xs (7 * t + 5)), .ref o] mX11_setTrip [.ref m, .int (xs (7 * t + 1)), .int (xs (7 * t + 2)), .int (xs (7 * t + 3)), .int (xs (7 * t + 4)), .int (xs (7 * t + 5))] J n h) (g : ∀ k' sl' n' h', k' ≤ k + 100 → sl' ≤ sl + 2000 → J n' h' → GL (lawG K) (XSc K b L xs) k' sl' 2603 (lawL b c m o t) [] n' h') : GL (lawG K) (XSc K b L xs) k sl 332 (lawL b c m o t) [] n h := by
  obtain ⟨mc, ms, QA, hmc, hms, hW, hA⟩ := H
  refine ml_aload_n 1 dL_law_332 rfl ?_
  refine ml_aload_n 0 dL_law_333 rfl ?_
  refine ml_iload 4 dL_law_334 rfl ?_
  refine ml_iconst (v := 1) dL_law_336 rfl ?_
  refine ml_iadd dL_law_337 ?_
  refine ml_sld (j := 7 * t + 1) rfl (sx_i (j := 1) (by omega)) (by omega) dL_law_338 ?_
  refine ml_aload_n 0 dL_law_339 rfl ?_
  refine ml_iload 4 dL_law_340 rfl ?_
  refine ml_iconst (v := 2) dL_law_342 rfl ?_
  refine ml_iadd dL_law_343 ?_
  refine ml_sld (j := 7 * t + 2) rfl (sx_i (j := 2) (by omega)) (by omega) dL_law_344 ?_
  refine ml_aload_n 0 dL_law_345 rfl ?_
  refine ml_iload 4 dL_law_346 rfl ?_
  refine ml_iconst (v := 3) dL_law_348 rfl ?_
  refine ml_iadd dL_law_349 ?_
  refine ml_sld (j := 7 * t + 3) rfl (sx_i (j := 3) (by omega)) (by omega) dL_law_350 ?_
  refine ml_aload_n 0 dL_law_351 rfl ?_
  refine ml_iload 4 dL_law_352 rfl ?_
  refine ml_iconst (v := 4) dL_law_354 rfl ?_
  refine ml_iadd dL_law_355 ?_
  refine ml_sld (j := 7 * t + 4) rfl (sx_i (j := 4) (by omega)) (by omega) dL_law_356 ?_
  refine ml_aload_n 0 dL_law_357 rfl ?_
  refine ml_iload 4 dL_law_358 rfl ?_
  refine ml_iconst (v := 5) dL_law_360 rfl ?_
  refine ml_iadd dL_law_361 ?_
  refine ml_sld (j := 7 * t + 5) rfl (sx_i (j := 5) (by omega)) (by omega) dL_law_362 ?_
  refine ml_aload_n 3 dL_law_363 rfl ?_
  refine ml_cS [.ref c, .int (xs (7 * t + 1)), .int (xs (7 * t + 2)), .int (xs (7 * t + 3)), .int (xs (7 * t + 4)), .int (xs (7 * t + 5)), .ref o] dL_law_364 cwL_setTrip lkL_146 rfl hW ⟨Nat.le_of_ble_eq_true rfl, Nat.le_of_ble_eq_true rfl, Nat.le_of_ble_eq_true rfl, (show k + mc ≤ rmC by omega), (show sl + ms ≤ rmS by omega)⟩ (fun v n1 h1 q => ?_) (fun E n1 h1 q => by obtain ⟨_, _, _, _, e1, _⟩ := hA _ _ _ q; cases e1)
  obtain ⟨k9, f1, b9, P2, e1, ⟨fs1, hm1⟩, hB, hN⟩ := hA _ _ _ q
  cases e1
  show GL _ _ _ _ _ _ [.int k9] _ _
  refine ml_istore (ls' := [(5, _), (0, _), (1, _), (2, _), (3, _), (4, _)]) dL_law_367 (Nat.le_of_ble_eq_true rfl) rfl ?_
  refine ml_aload_n 3 dL_law_369 rfl ?_
  refine ml_aload_n 1 dL_law_370 rfl ?_
  refine ml_iload 5 dL_law_371 rfl ?_
  refine ml_iconst (v := 1) dL_law_373 rfl ?_
  refine ml_iadd dL_law_374 ?_
  refine ml_sld (j := 7 * t + 1) rfl (sx_i (j := 1) (by omega)) (by omega) dL_law_375 ?_
  refine ml_aload_n 1 dL_law_376 rfl ?_
  refine ml_iload 5 dL_law_377 rfl ?_
  refine ml_iconst (v := 2) dL_law_379 rfl ?_
  refine ml_iadd dL_law_380 ?_
  refine ml_sld (j := 7 * t + 2) rfl (sx_i (j := 2) (by omega)) (by omega) dL_law_381 ?_
  refine ml_aload_n 1 dL_law_382 rfl ?_
  refine ml_iload 5 dL_law_383 rfl ?_
  refine ml_iconst (v := 3) dL_law_385 rfl ?_
  refine ml_iadd dL_law_386 ?_
  refine ml_sld (j := 7 * t + 3) rfl (sx_i (j := 3) (by omega)) (by omega) dL_law_387 ?_
  refine ml_aload_n 1 dL_law_388 rfl ?_
  refine ml_iload 5 dL_law_389 rfl ?_
  refine ml_iconst (v := 4) dL_law_391 rfl ?_
  refine ml_iadd dL_law_392 ?_
  refine ml_sld (j := 7 * t + 4) rfl (sx_i (j := 4) (by omega)) (by omega) dL_law_393 ?_
  refine ml_aload_n 1 dL_law_394 rfl ?_
  refine ml_iload 5 dL_law_395 rfl ?_
  refine ml_iconst (v := 5) dL_law_397 rfl ?_
  refine ml_iadd dL_law_398 ?_
  refine ml_sld (j := 7 * t + 5) rfl (sx_i (j := 5) (by omega)) (by omega) dL_law_399 ?_
  refine ml_cV1 [.int (xs (7 * t + 1)), .int (xs (7 * t + 2)), .int (xs (7 * t + 3)), .int (xs (7 * t + 4)), .int (xs (7 * t + 5))] (RX11, TX11, 32) dL_law_400 cwX11_setTrip lkL_149 hm1 rfl rfl rfl rfl hB ⟨Nat.le_of_ble_eq_true rfl, Nat.le_of_ble_eq_true rfl, Nat.le_of_ble_eq_true rfl, (show k + mc + 0 ≤ rmC by omega), (show sl + ms + 0 ≤ rmS by omega)⟩ (fun h2 q2 => ?_)
  obtain ⟨⟨fs2, hm2⟩, P3, hT, hN3⟩ := hN h2 q2
  refine ml_istore (ls' := [(6, _), (5, _), (0, _), (1, _), (2, _), (3, _), (4, _)]) dL_law_403 (Nat.le_of_ble_eq_true rfl) rfl ?_
  refine ml_aload_n 4 dL_law_405 rfl ?_
  refine ml_cV1 [] (RX11, TX11, 32) dL_law_406 cwX11_thrown lkL_142 hm2 rfl rfl rfl rfl hT ⟨Nat.le_of_ble_eq_true rfl, Nat.le_of_ble_eq_true rfl, Nat.le_of_ble_eq_true rfl, (show k + mc + 0 + 0 ≤ rmC by omega), (show sl + ms + 0 + 0 ≤ rmS by omega)⟩ (fun h3 q3 => ?_)
  obtain ⟨ho3, hv, J3⟩ := hN3 h3 q3
  refine ml_iload 1 dL_law_409 rfl ?_
  refine ml_icmp_eq 416 dL_law_411 (by decide) (fun c_411 => ?_) (fun c_411 => ?_)
  · refine ml_iload 1 dL_law_416 rfl ?_
    refine ml_if_ne 433 dL_law_418 (by decide) (fun c_418 => ?_) (fun c_418 => ?_)
    · refine ml_goto 2603 dL_law_433 (by decide) ?_
      exact ml_ls [2, 3, 4, 5, 6] rfl (g _ _ _ _ (by omega) (by omega) J3)
    · refine ml_aload_n 5 dL_law_421 rfl ?_
      refine ml_iconst (v := 0) dL_law_422 rfl ?_
      refine ml_lald ho3 (show (0 : Int32).toInt = ((0 : Nat) : Int) from rfl) (Nat.zero_lt_one) dL_law_423 ?_
      refine ml_iload 0 dL_law_424 rfl ?_
      refine ml_i2l dL_law_426 rfl ?_
      refine ml_lcmp dL_law_427 ?_
      refine ml_if_eq 433 dL_law_428 (by decide) (fun c_428 => ?_) (fun c_428 => ?_)
      · refine ml_goto 2603 dL_law_433 (by decide) ?_
        exact ml_ls [2, 3, 4, 5, 6] rfl (g _ _ _ _ (by omega) (by omega) J3)
      · exact (c_428 (lgc_eq.mpr (hv c_418))).elim
  · exact (c_411 rfl).elim
set_option maxRecDepth 100000 in
set_option maxHeartbeats 4000000 in
theorem lwc_2 {K : KX} {b c m o t L k sl n : Nat} {xs : Nat → Int32} {h : MH} {J : Nat → MH → Prop} (ht : 7 * t + 6 < L) (hL : L ≤ 3584) (hk : k + 400 ≤ rmC) (hs : sl + 5000 ≤ rmS) (H : StepI K m o mL_addRider [.ref c, .int (xs (7 * t + 1)), .int (xs (7 * t + 2)), .int (xs (7 * t + 3)), .int (xs (7 * t + 4)), .int (xs (7 * t + 5)), .int (xs (7 * t + 6)), .ref o] mX11_addRider [.ref m, .int (xs (7 * t + 1)), .int (xs (7 * t + 2)), .int (xs (7 * t + 3)), .int (xs (7 * t + 4)), .int (xs (7 * t + 5)), .int (xs (7 * t + 6))] J n h) (g : ∀ k' sl' n' h', k' ≤ k + 100 → sl' ≤ sl + 2000 → J n' h' → GL (lawG K) (XSc K b L xs) k' sl' 2603 (lawL b c m o t) [] n' h') : GL (lawG K) (XSc K b L xs) k sl 436 (lawL b c m o t) [] n h := by
  obtain ⟨mc, ms, QA, hmc, hms, hW, hA⟩ := H
  refine ml_aload_n 1 dL_law_436 rfl ?_
  refine ml_aload_n 0 dL_law_437 rfl ?_
  refine ml_iload 4 dL_law_438 rfl ?_
  refine ml_iconst (v := 1) dL_law_440 rfl ?_
  refine ml_iadd dL_law_441 ?_
  refine ml_sld (j := 7 * t + 1) rfl (sx_i (j := 1) (by omega)) (by omega) dL_law_442 ?_
  refine ml_aload_n 0 dL_law_443 rfl ?_
  refine ml_iload 4 dL_law_444 rfl ?_
  refine ml_iconst (v := 2) dL_law_446 rfl ?_
  refine ml_iadd dL_law_447 ?_
  refine ml_sld (j := 7 * t + 2) rfl (sx_i (j := 2) (by omega)) (by omega) dL_law_448 ?_
  refine ml_aload_n 0 dL_law_449 rfl ?_
  refine ml_iload 4 dL_law_450 rfl ?_
  refine ml_iconst (v := 3) dL_law_452 rfl ?_
  refine ml_iadd dL_law_453 ?_
  refine ml_sld (j := 7 * t + 3) rfl (sx_i (j := 3) (by omega)) (by omega) dL_law_454 ?_
  refine ml_aload_n 0 dL_law_455 rfl ?_
  refine ml_iload 4 dL_law_456 rfl ?_
  refine ml_iconst (v := 4) dL_law_458 rfl ?_
  refine ml_iadd dL_law_459 ?_
  refine ml_sld (j := 7 * t + 4) rfl (sx_i (j := 4) (by omega)) (by omega) dL_law_460 ?_
  refine ml_aload_n 0 dL_law_461 rfl ?_
  refine ml_iload 4 dL_law_462 rfl ?_
  refine ml_iconst (v := 5) dL_law_464 rfl ?_
  refine ml_iadd dL_law_465 ?_
  refine ml_sld (j := 7 * t + 5) rfl (sx_i (j := 5) (by omega)) (by omega) dL_law_466 ?_
  refine ml_aload_n 0 dL_law_467 rfl ?_
  refine ml_iload 4 dL_law_468 rfl ?_
  refine ml_bipush (v := (6)) dL_law_470 rfl ?_
  refine ml_iadd dL_law_472 ?_
  refine ml_sld (j := 7 * t + 6) rfl (sx_i (j := 6) (by omega)) (by omega) dL_law_473 ?_
  refine ml_aload_n 3 dL_law_474 rfl ?_
  refine ml_cS [.ref c, .int (xs (7 * t + 1)), .int (xs (7 * t + 2)), .int (xs (7 * t + 3)), .int (xs (7 * t + 4)), .int (xs (7 * t + 5)), .int (xs (7 * t + 6)), .ref o] dL_law_475 cwL_addRider lkL_150 rfl hW ⟨Nat.le_of_ble_eq_true rfl, Nat.le_of_ble_eq_true rfl, Nat.le_of_ble_eq_true rfl, (show k + mc ≤ rmC by omega), (show sl + ms ≤ rmS by omega)⟩ (fun v n1 h1 q => ?_) (fun E n1 h1 q => by obtain ⟨_, _, _, _, e1, _⟩ := hA _ _ _ q; cases e1)
  obtain ⟨k9, f1, b9, P2, e1, ⟨fs1, hm1⟩, hB, hN⟩ := hA _ _ _ q
  cases e1
  show GL _ _ _ _ _ _ [.int k9] _ _
  refine ml_istore (ls' := [(5, _), (0, _), (1, _), (2, _), (3, _), (4, _)]) dL_law_478 (Nat.le_of_ble_eq_true rfl) rfl ?_
  refine ml_aload_n 3 dL_law_480 rfl ?_
  refine ml_aload_n 1 dL_law_481 rfl ?_
  refine ml_iload 5 dL_law_482 rfl ?_
  refine ml_iconst (v := 1) dL_law_484 rfl ?_
  refine ml_iadd dL_law_485 ?_
  refine ml_sld (j := 7 * t + 1) rfl (sx_i (j := 1) (by omega)) (by omega) dL_law_486 ?_
  refine ml_aload_n 1 dL_law_487 rfl ?_
  refine ml_iload 5 dL_law_488 rfl ?_
  refine ml_iconst (v := 2) dL_law_490 rfl ?_
  refine ml_iadd dL_law_491 ?_
  refine ml_sld (j := 7 * t + 2) rfl (sx_i (j := 2) (by omega)) (by omega) dL_law_492 ?_
  refine ml_aload_n 1 dL_law_493 rfl ?_
  refine ml_iload 5 dL_law_494 rfl ?_
  refine ml_iconst (v := 3) dL_law_496 rfl ?_
  refine ml_iadd dL_law_497 ?_
  refine ml_sld (j := 7 * t + 3) rfl (sx_i (j := 3) (by omega)) (by omega) dL_law_498 ?_
  refine ml_aload_n 1 dL_law_499 rfl ?_
  refine ml_iload 5 dL_law_500 rfl ?_
  refine ml_iconst (v := 4) dL_law_502 rfl ?_
  refine ml_iadd dL_law_503 ?_
  refine ml_sld (j := 7 * t + 4) rfl (sx_i (j := 4) (by omega)) (by omega) dL_law_504 ?_
  refine ml_aload_n 1 dL_law_505 rfl ?_
  refine ml_iload 5 dL_law_506 rfl ?_
  refine ml_iconst (v := 5) dL_law_508 rfl ?_
  refine ml_iadd dL_law_509 ?_
  refine ml_sld (j := 7 * t + 5) rfl (sx_i (j := 5) (by omega)) (by omega) dL_law_510 ?_
  refine ml_aload_n 1 dL_law_511 rfl ?_
  refine ml_iload 5 dL_law_512 rfl ?_
  refine ml_bipush (v := (6)) dL_law_514 rfl ?_
  refine ml_iadd dL_law_516 ?_
  refine ml_sld (j := 7 * t + 6) rfl (sx_i (j := 6) (by omega)) (by omega) dL_law_517 ?_
  refine ml_cV1 [.int (xs (7 * t + 1)), .int (xs (7 * t + 2)), .int (xs (7 * t + 3)), .int (xs (7 * t + 4)), .int (xs (7 * t + 5)), .int (xs (7 * t + 6))] (RX11, TX11, 32) dL_law_518 cwX11_addRider lkL_153 hm1 rfl rfl rfl rfl hB ⟨Nat.le_of_ble_eq_true rfl, Nat.le_of_ble_eq_true rfl, Nat.le_of_ble_eq_true rfl, (show k + mc + 0 ≤ rmC by omega), (show sl + ms + 0 ≤ rmS by omega)⟩ (fun h2 q2 => ?_)
  obtain ⟨⟨fs2, hm2⟩, P3, hT, hN3⟩ := hN h2 q2
  refine ml_istore (ls' := [(6, _), (5, _), (0, _), (1, _), (2, _), (3, _), (4, _)]) dL_law_521 (Nat.le_of_ble_eq_true rfl) rfl ?_
  refine ml_aload_n 4 dL_law_523 rfl ?_
  refine ml_cV1 [] (RX11, TX11, 32) dL_law_524 cwX11_thrown lkL_142 hm2 rfl rfl rfl rfl hT ⟨Nat.le_of_ble_eq_true rfl, Nat.le_of_ble_eq_true rfl, Nat.le_of_ble_eq_true rfl, (show k + mc + 0 + 0 ≤ rmC by omega), (show sl + ms + 0 + 0 ≤ rmS by omega)⟩ (fun h3 q3 => ?_)
  obtain ⟨ho3, hv, J3⟩ := hN3 h3 q3
  refine ml_iload 1 dL_law_527 rfl ?_
  refine ml_icmp_eq 534 dL_law_529 (by decide) (fun c_529 => ?_) (fun c_529 => ?_)
  · refine ml_iload 1 dL_law_534 rfl ?_
    refine ml_if_ne 551 dL_law_536 (by decide) (fun c_536 => ?_) (fun c_536 => ?_)
    · refine ml_goto 2603 dL_law_551 (by decide) ?_
      exact ml_ls [2, 3, 4, 5, 6] rfl (g _ _ _ _ (by omega) (by omega) J3)
    · refine ml_aload_n 5 dL_law_539 rfl ?_
      refine ml_iconst (v := 0) dL_law_540 rfl ?_
      refine ml_lald ho3 (show (0 : Int32).toInt = ((0 : Nat) : Int) from rfl) (Nat.zero_lt_one) dL_law_541 ?_
      refine ml_iload 0 dL_law_542 rfl ?_
      refine ml_i2l dL_law_544 rfl ?_
      refine ml_lcmp dL_law_545 ?_
      refine ml_if_eq 551 dL_law_546 (by decide) (fun c_546 => ?_) (fun c_546 => ?_)
      · refine ml_goto 2603 dL_law_551 (by decide) ?_
        exact ml_ls [2, 3, 4, 5, 6] rfl (g _ _ _ _ (by omega) (by omega) J3)
      · exact (c_546 (lgc_eq.mpr (hv c_536))).elim
  · exact (c_529 rfl).elim
set_option maxRecDepth 100000 in
set_option maxHeartbeats 4000000 in
theorem lwc_3 {K : KX} {b c m o t L k sl n : Nat} {xs : Nat → Int32} {h : MH} {J : Nat → MH → Prop} (ht : 7 * t + 6 < L) (hL : L ≤ 3584) (hk : k + 400 ≤ rmC) (hs : sl + 5000 ≤ rmS) (H : StepD K c m mX10_driverCount [.ref c] mX11_driverCount [.ref m] J n h) (g : ∀ k' sl' n' h', k' ≤ k + 100 → sl' ≤ sl + 2000 → J n' h' → GL (lawG K) (XSc K b L xs) k' sl' 2603 (lawL b c m o t) [] n' h') : GL (lawG K) (XSc K b L xs) k sl 554 (lawL b c m o t) [] n h := by
  obtain ⟨mc, ms, v9, n1, P1, hmc, hms, ⟨fs0, hc1⟩, hW, hA⟩ := H
  refine ml_aload_n 1 dL_law_554 rfl ?_
  refine ml_cV1 [] (RX10, TX10, 9) dL_law_555 cwX10_driverCount lkL_154 hc1 rfl rfl rfl rfl hW ⟨Nat.le_of_ble_eq_true rfl, Nat.le_of_ble_eq_true rfl, Nat.le_of_ble_eq_true rfl, (show k + mc ≤ rmC by omega), (show sl + ms ≤ rmS by omega)⟩ (fun h1 q => ?_)
  obtain ⟨⟨fs1, hm1⟩, P2, hB, hN⟩ := hA h1 q
  refine ml_aload_n 2 dL_law_558 rfl ?_
  refine ml_cV1 [] (RX11, TX11, 32) dL_law_559 cwX11_driverCount lkL_157 hm1 rfl rfl rfl rfl hB ⟨Nat.le_of_ble_eq_true rfl, Nat.le_of_ble_eq_true rfl, Nat.le_of_ble_eq_true rfl, (show k + mc + 0 ≤ rmC by omega), (show sl + ms + 0 ≤ rmS by omega)⟩ (fun h2 q2 => ?_)
  have J3 := hN h2 q2
  refine ml_icmp_eq 2603 dL_law_562 (by decide) (fun c_562 => ?_) (fun c_562 => ?_)
  · exact ml_ls [0, 1, 2, 3, 4] rfl (g _ _ _ _ (by omega) (by omega) J3)
  · exact (c_562 rfl).elim
set_option maxRecDepth 100000 in
set_option maxHeartbeats 4000000 in
theorem lwc_4 {K : KX} {b c m o t L k sl n : Nat} {xs : Nat → Int32} {h : MH} {J : Nat → MH → Prop} (ht : 7 * t + 6 < L) (hL : L ≤ 3584) (hk : k + 400 ≤ rmC) (hs : sl + 5000 ≤ rmS) (H : StepD K c m mX10_riderCount [.ref c] mX11_riderCount [.ref m] J n h) (g : ∀ k' sl' n' h', k' ≤ k + 100 → sl' ≤ sl + 2000 → J n' h' → GL (lawG K) (XSc K b L xs) k' sl' 2603 (lawL b c m o t) [] n' h') : GL (lawG K) (XSc K b L xs) k sl 567 (lawL b c m o t) [] n h := by
  obtain ⟨mc, ms, v9, n1, P1, hmc, hms, ⟨fs0, hc1⟩, hW, hA⟩ := H
  refine ml_aload_n 1 dL_law_567 rfl ?_
  refine ml_cV1 [] (RX10, TX10, 9) dL_law_568 cwX10_riderCount lkL_158 hc1 rfl rfl rfl rfl hW ⟨Nat.le_of_ble_eq_true rfl, Nat.le_of_ble_eq_true rfl, Nat.le_of_ble_eq_true rfl, (show k + mc ≤ rmC by omega), (show sl + ms ≤ rmS by omega)⟩ (fun h1 q => ?_)
  obtain ⟨⟨fs1, hm1⟩, P2, hB, hN⟩ := hA h1 q
  refine ml_aload_n 2 dL_law_571 rfl ?_
  refine ml_cV1 [] (RX11, TX11, 32) dL_law_572 cwX11_riderCount lkL_161 hm1 rfl rfl rfl rfl hB ⟨Nat.le_of_ble_eq_true rfl, Nat.le_of_ble_eq_true rfl, Nat.le_of_ble_eq_true rfl, (show k + mc + 0 ≤ rmC by omega), (show sl + ms + 0 ≤ rmS by omega)⟩ (fun h2 q2 => ?_)
  have J3 := hN h2 q2
  refine ml_icmp_eq 2603 dL_law_575 (by decide) (fun c_575 => ?_) (fun c_575 => ?_)
  · exact ml_ls [0, 1, 2, 3, 4] rfl (g _ _ _ _ (by omega) (by omega) J3)
  · exact (c_575 rfl).elim
set_option maxRecDepth 100000 in
set_option maxHeartbeats 4000000 in
theorem lwc_5 {K : KX} {b c m o t L k sl n : Nat} {xs : Nat → Int32} {h : MH} {J : Nat → MH → Prop} (ht : 7 * t + 6 < L) (hL : L ≤ 3584) (hk : k + 400 ≤ rmC) (hs : sl + 5000 ≤ rmS) (H : StepZ K m o mL_isDone [.ref c, .int (xs (7 * t + 1)), .ref o] mX11_isDone [.ref m, .int (xs (7 * t + 1))] J n h) (g : ∀ k' sl' n' h', k' ≤ k + 100 → sl' ≤ sl + 2000 → J n' h' → GL (lawG K) (XSc K b L xs) k' sl' 2603 (lawL b c m o t) [] n' h') : GL (lawG K) (XSc K b L xs) k sl 580 (lawL b c m o t) [] n h := by
  obtain ⟨mc, ms, QA, hmc, hms, hW, hA⟩ := H
  refine ml_aload_n 1 dL_law_580 rfl ?_
  refine ml_aload_n 0 dL_law_581 rfl ?_
  refine ml_iload 4 dL_law_582 rfl ?_
  refine ml_iconst (v := 1) dL_law_584 rfl ?_
  refine ml_iadd dL_law_585 ?_
  refine ml_sld (j := 7 * t + 1) rfl (sx_i (j := 1) (by omega)) (by omega) dL_law_586 ?_
  refine ml_aload_n 3 dL_law_587 rfl ?_
  refine ml_cS [.ref c, .int (xs (7 * t + 1)), .ref o] dL_law_588 cwL_isDone lkL_162 rfl hW ⟨Nat.le_of_ble_eq_true rfl, Nat.le_of_ble_eq_true rfl, Nat.le_of_ble_eq_true rfl, (show k + mc ≤ rmC by omega), (show sl + ms ≤ rmS by omega)⟩ (fun v n1 h1 q => ?_) (fun E n1 h1 q => by obtain ⟨_, _, _, _, e1, _⟩ := hA _ _ _ q; cases e1)
  obtain ⟨k9, f1, b9, P2, e1, ⟨fs1, hm1⟩, hB, hN⟩ := hA _ _ _ q
  cases e1
  show GL _ _ _ _ _ _ [.int k9] _ _
  refine ml_istore (ls' := [(5, _), (0, _), (1, _), (2, _), (3, _), (4, _)]) dL_law_591 (Nat.le_of_ble_eq_true rfl) rfl ?_
  refine ml_aload_n 3 dL_law_593 rfl ?_
  refine ml_aload_n 1 dL_law_594 rfl ?_
  refine ml_iload 5 dL_law_595 rfl ?_
  refine ml_iconst (v := 1) dL_law_597 rfl ?_
  refine ml_iadd dL_law_598 ?_
  refine ml_sld (j := 7 * t + 1) rfl (sx_i (j := 1) (by omega)) (by omega) dL_law_599 ?_
  refine ml_cV1 [.int (xs (7 * t + 1))] (RX11, TX11, 32) dL_law_600 cwX11_isDone lkL_165 hm1 rfl rfl rfl rfl hB ⟨Nat.le_of_ble_eq_true rfl, Nat.le_of_ble_eq_true rfl, Nat.le_of_ble_eq_true rfl, (show k + mc + 0 ≤ rmC by omega), (show sl + ms + 0 ≤ rmS by omega)⟩ (fun h2 q2 => ?_)
  obtain ⟨⟨fs2, hm2⟩, P3, hT, hN3⟩ := hN h2 q2
  refine ml_istore (ls' := [(6, _), (5, _), (0, _), (1, _), (2, _), (3, _), (4, _)]) dL_law_603 (Nat.le_of_ble_eq_true rfl) rfl ?_
  refine ml_aload_n 4 dL_law_605 rfl ?_
  refine ml_cV1 [] (RX11, TX11, 32) dL_law_606 cwX11_thrown lkL_142 hm2 rfl rfl rfl rfl hT ⟨Nat.le_of_ble_eq_true rfl, Nat.le_of_ble_eq_true rfl, Nat.le_of_ble_eq_true rfl, (show k + mc + 0 + 0 ≤ rmC by omega), (show sl + ms + 0 + 0 ≤ rmS by omega)⟩ (fun h3 q3 => ?_)
  obtain ⟨ho3, hv, J3⟩ := hN3 h3 q3
  refine ml_iload 1 dL_law_609 rfl ?_
  refine ml_icmp_eq 616 dL_law_611 (by decide) (fun c_611 => ?_) (fun c_611 => ?_)
  · refine ml_iload 1 dL_law_616 rfl ?_
    refine ml_if_ne 640 dL_law_618 (by decide) (fun c_618 => ?_) (fun c_618 => ?_)
    · refine ml_goto 2603 dL_law_640 (by decide) ?_
      exact ml_ls [2, 3, 4, 5, 6] rfl (g _ _ _ _ (by omega) (by omega) J3)
    · refine ml_aload_n 5 dL_law_621 rfl ?_
      refine ml_iconst (v := 0) dL_law_622 rfl ?_
      refine ml_lald ho3 (show (0 : Int32).toInt = ((0 : Nat) : Int) from rfl) (Nat.zero_lt_one) dL_law_623 ?_
      refine ml_iload 0 dL_law_624 rfl ?_
      refine ml_if_eq 633 dL_law_626 (by decide) (fun c_626 => ?_) (fun c_626 => ?_)
      · refine ml_lconst (v := 0) dL_law_633 rfl ?_
        refine ml_lcmp dL_law_634 ?_
        refine ml_if_eq 640 dL_law_635 (by decide) (fun c_635 => ?_) (fun c_635 => ?_)
        · refine ml_goto 2603 dL_law_640 (by decide) ?_
          exact ml_ls [2, 3, 4, 5, 6] rfl (g _ _ _ _ (by omega) (by omega) J3)
        · exact (c_635 (lgc_eq.mpr (by rw [hv c_618, bI_0.mp c_626]; rfl))).elim
      · refine ml_lconst (v := 1) dL_law_629 rfl ?_
        refine ml_goto 634 dL_law_630 (by decide) ?_
        refine ml_lcmp dL_law_634 ?_
        refine ml_if_eq 640 dL_law_635 (by decide) (fun c_635 => ?_) (fun c_635 => ?_)
        · refine ml_goto 2603 dL_law_640 (by decide) ?_
          exact ml_ls [2, 3, 4, 5, 6] rfl (g _ _ _ _ (by omega) (by omega) J3)
        · exact (c_635 (lgc_eq.mpr (by rw [hv c_618, bI_n0.mp c_626]; rfl))).elim
  · exact (c_611 rfl).elim
set_option maxRecDepth 100000 in
set_option maxHeartbeats 4000000 in
theorem lwc_6 {K : KX} {b c m o t L k sl n : Nat} {xs : Nat → Int32} {h : MH} {J : Nat → MH → Prop} (ht : 7 * t + 6 < L) (hL : L ≤ 3584) (hk : k + 400 ≤ rmC) (hs : sl + 5000 ≤ rmS) (H : StepI K m o mL_riderState [.ref c, .int (xs (7 * t + 1)), .ref o] mX11_riderState [.ref m, .int (xs (7 * t + 1))] J n h) (g : ∀ k' sl' n' h', k' ≤ k + 100 → sl' ≤ sl + 2000 → J n' h' → GL (lawG K) (XSc K b L xs) k' sl' 2603 (lawL b c m o t) [] n' h') : GL (lawG K) (XSc K b L xs) k sl 643 (lawL b c m o t) [] n h := by
  obtain ⟨mc, ms, QA, hmc, hms, hW, hA⟩ := H
  refine ml_aload_n 1 dL_law_643 rfl ?_
  refine ml_aload_n 0 dL_law_644 rfl ?_
  refine ml_iload 4 dL_law_645 rfl ?_
  refine ml_iconst (v := 1) dL_law_647 rfl ?_
  refine ml_iadd dL_law_648 ?_
  refine ml_sld (j := 7 * t + 1) rfl (sx_i (j := 1) (by omega)) (by omega) dL_law_649 ?_
  refine ml_aload_n 3 dL_law_650 rfl ?_
  refine ml_cS [.ref c, .int (xs (7 * t + 1)), .ref o] dL_law_651 cwL_riderState lkL_166 rfl hW ⟨Nat.le_of_ble_eq_true rfl, Nat.le_of_ble_eq_true rfl, Nat.le_of_ble_eq_true rfl, (show k + mc ≤ rmC by omega), (show sl + ms ≤ rmS by omega)⟩ (fun v n1 h1 q => ?_) (fun E n1 h1 q => by obtain ⟨_, _, _, _, e1, _⟩ := hA _ _ _ q; cases e1)
  obtain ⟨k9, f1, b9, P2, e1, ⟨fs1, hm1⟩, hB, hN⟩ := hA _ _ _ q
  cases e1
  show GL _ _ _ _ _ _ [.int k9] _ _
  refine ml_istore (ls' := [(5, _), (0, _), (1, _), (2, _), (3, _), (4, _)]) dL_law_654 (Nat.le_of_ble_eq_true rfl) rfl ?_
  refine ml_aload_n 3 dL_law_656 rfl ?_
  refine ml_aload_n 1 dL_law_657 rfl ?_
  refine ml_iload 5 dL_law_658 rfl ?_
  refine ml_iconst (v := 1) dL_law_660 rfl ?_
  refine ml_iadd dL_law_661 ?_
  refine ml_sld (j := 7 * t + 1) rfl (sx_i (j := 1) (by omega)) (by omega) dL_law_662 ?_
  refine ml_cV1 [.int (xs (7 * t + 1))] (RX11, TX11, 32) dL_law_663 cwX11_riderState lkL_168 hm1 rfl rfl rfl rfl hB ⟨Nat.le_of_ble_eq_true rfl, Nat.le_of_ble_eq_true rfl, Nat.le_of_ble_eq_true rfl, (show k + mc + 0 ≤ rmC by omega), (show sl + ms + 0 ≤ rmS by omega)⟩ (fun h2 q2 => ?_)
  obtain ⟨⟨fs2, hm2⟩, P3, hT, hN3⟩ := hN h2 q2
  refine ml_istore (ls' := [(6, _), (5, _), (0, _), (1, _), (2, _), (3, _), (4, _)]) dL_law_666 (Nat.le_of_ble_eq_true rfl) rfl ?_
  refine ml_aload_n 4 dL_law_668 rfl ?_
  refine ml_cV1 [] (RX11, TX11, 32) dL_law_669 cwX11_thrown lkL_142 hm2 rfl rfl rfl rfl hT ⟨Nat.le_of_ble_eq_true rfl, Nat.le_of_ble_eq_true rfl, Nat.le_of_ble_eq_true rfl, (show k + mc + 0 + 0 ≤ rmC by omega), (show sl + ms + 0 + 0 ≤ rmS by omega)⟩ (fun h3 q3 => ?_)
  obtain ⟨ho3, hv, J3⟩ := hN3 h3 q3
  refine ml_iload 1 dL_law_672 rfl ?_
  refine ml_icmp_eq 679 dL_law_674 (by decide) (fun c_674 => ?_) (fun c_674 => ?_)
  · refine ml_iload 1 dL_law_679 rfl ?_
    refine ml_if_ne 696 dL_law_681 (by decide) (fun c_681 => ?_) (fun c_681 => ?_)
    · refine ml_goto 2603 dL_law_696 (by decide) ?_
      exact ml_ls [2, 3, 4, 5, 6] rfl (g _ _ _ _ (by omega) (by omega) J3)
    · refine ml_aload_n 5 dL_law_684 rfl ?_
      refine ml_iconst (v := 0) dL_law_685 rfl ?_
      refine ml_lald ho3 (show (0 : Int32).toInt = ((0 : Nat) : Int) from rfl) (Nat.zero_lt_one) dL_law_686 ?_
      refine ml_iload 0 dL_law_687 rfl ?_
      refine ml_i2l dL_law_689 rfl ?_
      refine ml_lcmp dL_law_690 ?_
      refine ml_if_eq 696 dL_law_691 (by decide) (fun c_691 => ?_) (fun c_691 => ?_)
      · refine ml_goto 2603 dL_law_696 (by decide) ?_
        exact ml_ls [2, 3, 4, 5, 6] rfl (g _ _ _ _ (by omega) (by omega) J3)
      · exact (c_691 (lgc_eq.mpr (hv c_681))).elim
  · exact (c_674 rfl).elim
set_option maxRecDepth 100000 in
set_option maxHeartbeats 4000000 in
theorem lwc_7 {K : KX} {b c m o t L k sl n : Nat} {xs : Nat → Int32} {h : MH} {J : Nat → MH → Prop} (ht : 7 * t + 6 < L) (hL : L ≤ 3584) (hk : k + 400 ≤ rmC) (hs : sl + 5000 ≤ rmS) (H : StepI K m o mL_driverOf [.ref c, .int (xs (7 * t + 1)), .ref o] mX11_driverOf [.ref m, .int (xs (7 * t + 1))] J n h) (g : ∀ k' sl' n' h', k' ≤ k + 100 → sl' ≤ sl + 2000 → J n' h' → GL (lawG K) (XSc K b L xs) k' sl' 2603 (lawL b c m o t) [] n' h') : GL (lawG K) (XSc K b L xs) k sl 699 (lawL b c m o t) [] n h := by
  obtain ⟨mc, ms, QA, hmc, hms, hW, hA⟩ := H
  refine ml_aload_n 1 dL_law_699 rfl ?_
  refine ml_aload_n 0 dL_law_700 rfl ?_
  refine ml_iload 4 dL_law_701 rfl ?_
  refine ml_iconst (v := 1) dL_law_703 rfl ?_
  refine ml_iadd dL_law_704 ?_
  refine ml_sld (j := 7 * t + 1) rfl (sx_i (j := 1) (by omega)) (by omega) dL_law_705 ?_
  refine ml_aload_n 3 dL_law_706 rfl ?_
  refine ml_cS [.ref c, .int (xs (7 * t + 1)), .ref o] dL_law_707 cwL_driverOf lkL_169 rfl hW ⟨Nat.le_of_ble_eq_true rfl, Nat.le_of_ble_eq_true rfl, Nat.le_of_ble_eq_true rfl, (show k + mc ≤ rmC by omega), (show sl + ms ≤ rmS by omega)⟩ (fun v n1 h1 q => ?_) (fun E n1 h1 q => by obtain ⟨_, _, _, _, e1, _⟩ := hA _ _ _ q; cases e1)
  obtain ⟨k9, f1, b9, P2, e1, ⟨fs1, hm1⟩, hB, hN⟩ := hA _ _ _ q
  cases e1
  show GL _ _ _ _ _ _ [.int k9] _ _
  refine ml_istore (ls' := [(5, _), (0, _), (1, _), (2, _), (3, _), (4, _)]) dL_law_710 (Nat.le_of_ble_eq_true rfl) rfl ?_
  refine ml_aload_n 3 dL_law_712 rfl ?_
  refine ml_aload_n 1 dL_law_713 rfl ?_
  refine ml_iload 5 dL_law_714 rfl ?_
  refine ml_iconst (v := 1) dL_law_716 rfl ?_
  refine ml_iadd dL_law_717 ?_
  refine ml_sld (j := 7 * t + 1) rfl (sx_i (j := 1) (by omega)) (by omega) dL_law_718 ?_
  refine ml_cV1 [.int (xs (7 * t + 1))] (RX11, TX11, 32) dL_law_719 cwX11_driverOf lkL_171 hm1 rfl rfl rfl rfl hB ⟨Nat.le_of_ble_eq_true rfl, Nat.le_of_ble_eq_true rfl, Nat.le_of_ble_eq_true rfl, (show k + mc + 0 ≤ rmC by omega), (show sl + ms + 0 ≤ rmS by omega)⟩ (fun h2 q2 => ?_)
  obtain ⟨⟨fs2, hm2⟩, P3, hT, hN3⟩ := hN h2 q2
  refine ml_istore (ls' := [(6, _), (5, _), (0, _), (1, _), (2, _), (3, _), (4, _)]) dL_law_722 (Nat.le_of_ble_eq_true rfl) rfl ?_
  refine ml_aload_n 4 dL_law_724 rfl ?_
  refine ml_cV1 [] (RX11, TX11, 32) dL_law_725 cwX11_thrown lkL_142 hm2 rfl rfl rfl rfl hT ⟨Nat.le_of_ble_eq_true rfl, Nat.le_of_ble_eq_true rfl, Nat.le_of_ble_eq_true rfl, (show k + mc + 0 + 0 ≤ rmC by omega), (show sl + ms + 0 + 0 ≤ rmS by omega)⟩ (fun h3 q3 => ?_)
  obtain ⟨ho3, hv, J3⟩ := hN3 h3 q3
  refine ml_iload 1 dL_law_728 rfl ?_
  refine ml_icmp_eq 735 dL_law_730 (by decide) (fun c_730 => ?_) (fun c_730 => ?_)
  · refine ml_iload 1 dL_law_735 rfl ?_
    refine ml_if_ne 752 dL_law_737 (by decide) (fun c_737 => ?_) (fun c_737 => ?_)
    · refine ml_goto 2603 dL_law_752 (by decide) ?_
      exact ml_ls [2, 3, 4, 5, 6] rfl (g _ _ _ _ (by omega) (by omega) J3)
    · refine ml_aload_n 5 dL_law_740 rfl ?_
      refine ml_iconst (v := 0) dL_law_741 rfl ?_
      refine ml_lald ho3 (show (0 : Int32).toInt = ((0 : Nat) : Int) from rfl) (Nat.zero_lt_one) dL_law_742 ?_
      refine ml_iload 0 dL_law_743 rfl ?_
      refine ml_i2l dL_law_745 rfl ?_
      refine ml_lcmp dL_law_746 ?_
      refine ml_if_eq 752 dL_law_747 (by decide) (fun c_747 => ?_) (fun c_747 => ?_)
      · refine ml_goto 2603 dL_law_752 (by decide) ?_
        exact ml_ls [2, 3, 4, 5, 6] rfl (g _ _ _ _ (by omega) (by omega) J3)
      · exact (c_747 (lgc_eq.mpr (hv c_737))).elim
  · exact (c_730 rfl).elim
set_option maxRecDepth 100000 in
set_option maxHeartbeats 4000000 in
theorem lwc_8 {K : KX} {b c m o t L k sl n : Nat} {xs : Nat → Int32} {h : MH} {J : Nat → MH → Prop} (ht : 7 * t + 6 < L) (hL : L ≤ 3584) (hk : k + 400 ≤ rmC) (hs : sl + 5000 ≤ rmS) (H : StepI K m o mL_ridersOf [.ref c, .int (xs (7 * t + 1)), .ref o] mX11_ridersOf [.ref m, .int (xs (7 * t + 1))] J n h) (g : ∀ k' sl' n' h', k' ≤ k + 100 → sl' ≤ sl + 2000 → J n' h' → GL (lawG K) (XSc K b L xs) k' sl' 2603 (lawL b c m o t) [] n' h') : GL (lawG K) (XSc K b L xs) k sl 755 (lawL b c m o t) [] n h := by
  obtain ⟨mc, ms, QA, hmc, hms, hW, hA⟩ := H
  refine ml_aload_n 1 dL_law_755 rfl ?_
  refine ml_aload_n 0 dL_law_756 rfl ?_
  refine ml_iload 4 dL_law_757 rfl ?_
  refine ml_iconst (v := 1) dL_law_759 rfl ?_
  refine ml_iadd dL_law_760 ?_
  refine ml_sld (j := 7 * t + 1) rfl (sx_i (j := 1) (by omega)) (by omega) dL_law_761 ?_
  refine ml_aload_n 3 dL_law_762 rfl ?_
  refine ml_cS [.ref c, .int (xs (7 * t + 1)), .ref o] dL_law_763 cwL_ridersOf lkL_172 rfl hW ⟨Nat.le_of_ble_eq_true rfl, Nat.le_of_ble_eq_true rfl, Nat.le_of_ble_eq_true rfl, (show k + mc ≤ rmC by omega), (show sl + ms ≤ rmS by omega)⟩ (fun v n1 h1 q => ?_) (fun E n1 h1 q => by obtain ⟨_, _, _, _, e1, _⟩ := hA _ _ _ q; cases e1)
  obtain ⟨k9, f1, b9, P2, e1, ⟨fs1, hm1⟩, hB, hN⟩ := hA _ _ _ q
  cases e1
  show GL _ _ _ _ _ _ [.int k9] _ _
  refine ml_istore (ls' := [(5, _), (0, _), (1, _), (2, _), (3, _), (4, _)]) dL_law_766 (Nat.le_of_ble_eq_true rfl) rfl ?_
  refine ml_aload_n 3 dL_law_768 rfl ?_
  refine ml_aload_n 1 dL_law_769 rfl ?_
  refine ml_iload 5 dL_law_770 rfl ?_
  refine ml_iconst (v := 1) dL_law_772 rfl ?_
  refine ml_iadd dL_law_773 ?_
  refine ml_sld (j := 7 * t + 1) rfl (sx_i (j := 1) (by omega)) (by omega) dL_law_774 ?_
  refine ml_cV1 [.int (xs (7 * t + 1))] (RX11, TX11, 32) dL_law_775 cwX11_ridersOf lkL_174 hm1 rfl rfl rfl rfl hB ⟨Nat.le_of_ble_eq_true rfl, Nat.le_of_ble_eq_true rfl, Nat.le_of_ble_eq_true rfl, (show k + mc + 0 ≤ rmC by omega), (show sl + ms + 0 ≤ rmS by omega)⟩ (fun h2 q2 => ?_)
  obtain ⟨⟨fs2, hm2⟩, P3, hT, hN3⟩ := hN h2 q2
  refine ml_istore (ls' := [(6, _), (5, _), (0, _), (1, _), (2, _), (3, _), (4, _)]) dL_law_778 (Nat.le_of_ble_eq_true rfl) rfl ?_
  refine ml_aload_n 4 dL_law_780 rfl ?_
  refine ml_cV1 [] (RX11, TX11, 32) dL_law_781 cwX11_thrown lkL_142 hm2 rfl rfl rfl rfl hT ⟨Nat.le_of_ble_eq_true rfl, Nat.le_of_ble_eq_true rfl, Nat.le_of_ble_eq_true rfl, (show k + mc + 0 + 0 ≤ rmC by omega), (show sl + ms + 0 + 0 ≤ rmS by omega)⟩ (fun h3 q3 => ?_)
  obtain ⟨ho3, hv, J3⟩ := hN3 h3 q3
  refine ml_iload 1 dL_law_784 rfl ?_
  refine ml_icmp_eq 791 dL_law_786 (by decide) (fun c_786 => ?_) (fun c_786 => ?_)
  · refine ml_iload 1 dL_law_791 rfl ?_
    refine ml_if_ne 808 dL_law_793 (by decide) (fun c_793 => ?_) (fun c_793 => ?_)
    · refine ml_goto 2603 dL_law_808 (by decide) ?_
      exact ml_ls [2, 3, 4, 5, 6] rfl (g _ _ _ _ (by omega) (by omega) J3)
    · refine ml_aload_n 5 dL_law_796 rfl ?_
      refine ml_iconst (v := 0) dL_law_797 rfl ?_
      refine ml_lald ho3 (show (0 : Int32).toInt = ((0 : Nat) : Int) from rfl) (Nat.zero_lt_one) dL_law_798 ?_
      refine ml_iload 0 dL_law_799 rfl ?_
      refine ml_i2l dL_law_801 rfl ?_
      refine ml_lcmp dL_law_802 ?_
      refine ml_if_eq 808 dL_law_803 (by decide) (fun c_803 => ?_) (fun c_803 => ?_)
      · refine ml_goto 2603 dL_law_808 (by decide) ?_
        exact ml_ls [2, 3, 4, 5, 6] rfl (g _ _ _ _ (by omega) (by omega) J3)
      · exact (c_803 (lgc_eq.mpr (hv c_793))).elim
  · exact (c_786 rfl).elim
set_option maxRecDepth 100000 in
set_option maxHeartbeats 4000000 in
theorem lwc_9 {K : KX} {b c m o t L k sl n : Nat} {xs : Nat → Int32} {h : MH} {J : Nat → MH → Prop} (ht : 7 * t + 6 < L) (hL : L ≤ 3584) (hk : k + 400 ≤ rmC) (hs : sl + 5000 ≤ rmS) (H : StepI K m o mL_setPenalty [.ref c, .int (xs (7 * t + 1)), .ref o] mX11_setPenalty [.ref m, .int (xs (7 * t + 1))] J n h) (g : ∀ k' sl' n' h', k' ≤ k + 100 → sl' ≤ sl + 2000 → J n' h' → GL (lawG K) (XSc K b L xs) k' sl' 2603 (lawL b c m o t) [] n' h') : GL (lawG K) (XSc K b L xs) k sl 811 (lawL b c m o t) [] n h := by
  obtain ⟨mc, ms, QA, hmc, hms, hW, hA⟩ := H
  refine ml_aload_n 1 dL_law_811 rfl ?_
  refine ml_aload_n 0 dL_law_812 rfl ?_
  refine ml_iload 4 dL_law_813 rfl ?_
  refine ml_iconst (v := 1) dL_law_815 rfl ?_
  refine ml_iadd dL_law_816 ?_
  refine ml_sld (j := 7 * t + 1) rfl (sx_i (j := 1) (by omega)) (by omega) dL_law_817 ?_
  refine ml_aload_n 3 dL_law_818 rfl ?_
  refine ml_cS [.ref c, .int (xs (7 * t + 1)), .ref o] dL_law_819 cwL_setPenalty lkL_175 rfl hW ⟨Nat.le_of_ble_eq_true rfl, Nat.le_of_ble_eq_true rfl, Nat.le_of_ble_eq_true rfl, (show k + mc ≤ rmC by omega), (show sl + ms ≤ rmS by omega)⟩ (fun v n1 h1 q => ?_) (fun E n1 h1 q => by obtain ⟨_, _, _, _, e1, _⟩ := hA _ _ _ q; cases e1)
  obtain ⟨k9, f1, b9, P2, e1, ⟨fs1, hm1⟩, hB, hN⟩ := hA _ _ _ q
  cases e1
  show GL _ _ _ _ _ _ [.int k9] _ _
  refine ml_istore (ls' := [(5, _), (0, _), (1, _), (2, _), (3, _), (4, _)]) dL_law_822 (Nat.le_of_ble_eq_true rfl) rfl ?_
  refine ml_aload_n 3 dL_law_824 rfl ?_
  refine ml_aload_n 1 dL_law_825 rfl ?_
  refine ml_iload 5 dL_law_826 rfl ?_
  refine ml_iconst (v := 1) dL_law_828 rfl ?_
  refine ml_iadd dL_law_829 ?_
  refine ml_sld (j := 7 * t + 1) rfl (sx_i (j := 1) (by omega)) (by omega) dL_law_830 ?_
  refine ml_cV1 [.int (xs (7 * t + 1))] (RX11, TX11, 32) dL_law_831 cwX11_setPenalty lkL_177 hm1 rfl rfl rfl rfl hB ⟨Nat.le_of_ble_eq_true rfl, Nat.le_of_ble_eq_true rfl, Nat.le_of_ble_eq_true rfl, (show k + mc + 0 ≤ rmC by omega), (show sl + ms + 0 ≤ rmS by omega)⟩ (fun h2 q2 => ?_)
  obtain ⟨⟨fs2, hm2⟩, P3, hT, hN3⟩ := hN h2 q2
  refine ml_istore (ls' := [(6, _), (5, _), (0, _), (1, _), (2, _), (3, _), (4, _)]) dL_law_834 (Nat.le_of_ble_eq_true rfl) rfl ?_
  refine ml_aload_n 4 dL_law_836 rfl ?_
  refine ml_cV1 [] (RX11, TX11, 32) dL_law_837 cwX11_thrown lkL_142 hm2 rfl rfl rfl rfl hT ⟨Nat.le_of_ble_eq_true rfl, Nat.le_of_ble_eq_true rfl, Nat.le_of_ble_eq_true rfl, (show k + mc + 0 + 0 ≤ rmC by omega), (show sl + ms + 0 + 0 ≤ rmS by omega)⟩ (fun h3 q3 => ?_)
  obtain ⟨ho3, hv, J3⟩ := hN3 h3 q3
  refine ml_iload 1 dL_law_840 rfl ?_
  refine ml_icmp_eq 847 dL_law_842 (by decide) (fun c_842 => ?_) (fun c_842 => ?_)
  · refine ml_iload 1 dL_law_847 rfl ?_
    refine ml_if_ne 864 dL_law_849 (by decide) (fun c_849 => ?_) (fun c_849 => ?_)
    · refine ml_goto 2603 dL_law_864 (by decide) ?_
      exact ml_ls [2, 3, 4, 5, 6] rfl (g _ _ _ _ (by omega) (by omega) J3)
    · refine ml_aload_n 5 dL_law_852 rfl ?_
      refine ml_iconst (v := 0) dL_law_853 rfl ?_
      refine ml_lald ho3 (show (0 : Int32).toInt = ((0 : Nat) : Int) from rfl) (Nat.zero_lt_one) dL_law_854 ?_
      refine ml_iload 0 dL_law_855 rfl ?_
      refine ml_i2l dL_law_857 rfl ?_
      refine ml_lcmp dL_law_858 ?_
      refine ml_if_eq 864 dL_law_859 (by decide) (fun c_859 => ?_) (fun c_859 => ?_)
      · refine ml_goto 2603 dL_law_864 (by decide) ?_
        exact ml_ls [2, 3, 4, 5, 6] rfl (g _ _ _ _ (by omega) (by omega) J3)
      · exact (c_859 (lgc_eq.mpr (hv c_849))).elim
  · exact (c_842 rfl).elim
set_option maxRecDepth 100000 in
set_option maxHeartbeats 4000000 in
theorem lwc_10 {K : KX} {b c m o t L k sl n : Nat} {xs : Nat → Int32} {h : MH} {J : Nat → MH → Prop} (ht : 7 * t + 6 < L) (hL : L ≤ 3584) (hk : k + 400 ≤ rmC) (hs : sl + 5000 ≤ rmS) (H : StepI K m o mL_stopCount [.ref c, .int (xs (7 * t + 1)), .ref o] mX11_stopCount [.ref m, .int (xs (7 * t + 1))] J n h) (g : ∀ k' sl' n' h', k' ≤ k + 100 → sl' ≤ sl + 2000 → J n' h' → GL (lawG K) (XSc K b L xs) k' sl' 2603 (lawL b c m o t) [] n' h') : GL (lawG K) (XSc K b L xs) k sl 867 (lawL b c m o t) [] n h := by
  obtain ⟨mc, ms, QA, hmc, hms, hW, hA⟩ := H
  refine ml_aload_n 1 dL_law_867 rfl ?_
  refine ml_aload_n 0 dL_law_868 rfl ?_
  refine ml_iload 4 dL_law_869 rfl ?_
  refine ml_iconst (v := 1) dL_law_871 rfl ?_
  refine ml_iadd dL_law_872 ?_
  refine ml_sld (j := 7 * t + 1) rfl (sx_i (j := 1) (by omega)) (by omega) dL_law_873 ?_
  refine ml_aload_n 3 dL_law_874 rfl ?_
  refine ml_cS [.ref c, .int (xs (7 * t + 1)), .ref o] dL_law_875 cwL_stopCount lkL_178 rfl hW ⟨Nat.le_of_ble_eq_true rfl, Nat.le_of_ble_eq_true rfl, Nat.le_of_ble_eq_true rfl, (show k + mc ≤ rmC by omega), (show sl + ms ≤ rmS by omega)⟩ (fun v n1 h1 q => ?_) (fun E n1 h1 q => by obtain ⟨_, _, _, _, e1, _⟩ := hA _ _ _ q; cases e1)
  obtain ⟨k9, f1, b9, P2, e1, ⟨fs1, hm1⟩, hB, hN⟩ := hA _ _ _ q
  cases e1
  show GL _ _ _ _ _ _ [.int k9] _ _
  refine ml_istore (ls' := [(5, _), (0, _), (1, _), (2, _), (3, _), (4, _)]) dL_law_878 (Nat.le_of_ble_eq_true rfl) rfl ?_
  refine ml_aload_n 3 dL_law_880 rfl ?_
  refine ml_aload_n 1 dL_law_881 rfl ?_
  refine ml_iload 5 dL_law_882 rfl ?_
  refine ml_iconst (v := 1) dL_law_884 rfl ?_
  refine ml_iadd dL_law_885 ?_
  refine ml_sld (j := 7 * t + 1) rfl (sx_i (j := 1) (by omega)) (by omega) dL_law_886 ?_
  refine ml_cV1 [.int (xs (7 * t + 1))] (RX11, TX11, 32) dL_law_887 cwX11_stopCount lkL_180 hm1 rfl rfl rfl rfl hB ⟨Nat.le_of_ble_eq_true rfl, Nat.le_of_ble_eq_true rfl, Nat.le_of_ble_eq_true rfl, (show k + mc + 0 ≤ rmC by omega), (show sl + ms + 0 ≤ rmS by omega)⟩ (fun h2 q2 => ?_)
  obtain ⟨⟨fs2, hm2⟩, P3, hT, hN3⟩ := hN h2 q2
  refine ml_istore (ls' := [(6, _), (5, _), (0, _), (1, _), (2, _), (3, _), (4, _)]) dL_law_890 (Nat.le_of_ble_eq_true rfl) rfl ?_
  refine ml_aload_n 4 dL_law_892 rfl ?_
  refine ml_cV1 [] (RX11, TX11, 32) dL_law_893 cwX11_thrown lkL_142 hm2 rfl rfl rfl rfl hT ⟨Nat.le_of_ble_eq_true rfl, Nat.le_of_ble_eq_true rfl, Nat.le_of_ble_eq_true rfl, (show k + mc + 0 + 0 ≤ rmC by omega), (show sl + ms + 0 + 0 ≤ rmS by omega)⟩ (fun h3 q3 => ?_)
  obtain ⟨ho3, hv, J3⟩ := hN3 h3 q3
  refine ml_iload 1 dL_law_896 rfl ?_
  refine ml_icmp_eq 903 dL_law_898 (by decide) (fun c_898 => ?_) (fun c_898 => ?_)
  · refine ml_iload 1 dL_law_903 rfl ?_
    refine ml_if_ne 920 dL_law_905 (by decide) (fun c_905 => ?_) (fun c_905 => ?_)
    · refine ml_goto 2603 dL_law_920 (by decide) ?_
      exact ml_ls [2, 3, 4, 5, 6] rfl (g _ _ _ _ (by omega) (by omega) J3)
    · refine ml_aload_n 5 dL_law_908 rfl ?_
      refine ml_iconst (v := 0) dL_law_909 rfl ?_
      refine ml_lald ho3 (show (0 : Int32).toInt = ((0 : Nat) : Int) from rfl) (Nat.zero_lt_one) dL_law_910 ?_
      refine ml_iload 0 dL_law_911 rfl ?_
      refine ml_i2l dL_law_913 rfl ?_
      refine ml_lcmp dL_law_914 ?_
      refine ml_if_eq 920 dL_law_915 (by decide) (fun c_915 => ?_) (fun c_915 => ?_)
      · refine ml_goto 2603 dL_law_920 (by decide) ?_
        exact ml_ls [2, 3, 4, 5, 6] rfl (g _ _ _ _ (by omega) (by omega) J3)
      · exact (c_915 (lgc_eq.mpr (hv c_905))).elim
  · exact (c_898 rfl).elim
set_option maxRecDepth 100000 in
set_option maxHeartbeats 4000000 in
theorem lwc_11 {K : KX} {b c m o t L k sl n : Nat} {xs : Nat → Int32} {h : MH} {J : Nat → MH → Prop} (ht : 7 * t + 6 < L) (hL : L ≤ 3584) (hk : k + 400 ≤ rmC) (hs : sl + 5000 ≤ rmS) (H : StepI K m o mL_stopRider [.ref c, .int (xs (7 * t + 1)), .int (xs (7 * t + 2)), .ref o] mX11_stopRider [.ref m, .int (xs (7 * t + 1)), .int (xs (7 * t + 2))] J n h) (g : ∀ k' sl' n' h', k' ≤ k + 100 → sl' ≤ sl + 2000 → J n' h' → GL (lawG K) (XSc K b L xs) k' sl' 2603 (lawL b c m o t) [] n' h') : GL (lawG K) (XSc K b L xs) k sl 923 (lawL b c m o t) [] n h := by
  obtain ⟨mc, ms, QA, hmc, hms, hW, hA⟩ := H
  refine ml_aload_n 1 dL_law_923 rfl ?_
  refine ml_aload_n 0 dL_law_924 rfl ?_
  refine ml_iload 4 dL_law_925 rfl ?_
  refine ml_iconst (v := 1) dL_law_927 rfl ?_
  refine ml_iadd dL_law_928 ?_
  refine ml_sld (j := 7 * t + 1) rfl (sx_i (j := 1) (by omega)) (by omega) dL_law_929 ?_
  refine ml_aload_n 0 dL_law_930 rfl ?_
  refine ml_iload 4 dL_law_931 rfl ?_
  refine ml_iconst (v := 2) dL_law_933 rfl ?_
  refine ml_iadd dL_law_934 ?_
  refine ml_sld (j := 7 * t + 2) rfl (sx_i (j := 2) (by omega)) (by omega) dL_law_935 ?_
  refine ml_aload_n 3 dL_law_936 rfl ?_
  refine ml_cS [.ref c, .int (xs (7 * t + 1)), .int (xs (7 * t + 2)), .ref o] dL_law_937 cwL_stopRider lkL_181 rfl hW ⟨Nat.le_of_ble_eq_true rfl, Nat.le_of_ble_eq_true rfl, Nat.le_of_ble_eq_true rfl, (show k + mc ≤ rmC by omega), (show sl + ms ≤ rmS by omega)⟩ (fun v n1 h1 q => ?_) (fun E n1 h1 q => by obtain ⟨_, _, _, _, e1, _⟩ := hA _ _ _ q; cases e1)
  obtain ⟨k9, f1, b9, P2, e1, ⟨fs1, hm1⟩, hB, hN⟩ := hA _ _ _ q
  cases e1
  show GL _ _ _ _ _ _ [.int k9] _ _
  refine ml_istore (ls' := [(5, _), (0, _), (1, _), (2, _), (3, _), (4, _)]) dL_law_940 (Nat.le_of_ble_eq_true rfl) rfl ?_
  refine ml_aload_n 3 dL_law_942 rfl ?_
  refine ml_aload_n 1 dL_law_943 rfl ?_
  refine ml_iload 5 dL_law_944 rfl ?_
  refine ml_iconst (v := 1) dL_law_946 rfl ?_
  refine ml_iadd dL_law_947 ?_
  refine ml_sld (j := 7 * t + 1) rfl (sx_i (j := 1) (by omega)) (by omega) dL_law_948 ?_
  refine ml_aload_n 1 dL_law_949 rfl ?_
  refine ml_iload 5 dL_law_950 rfl ?_
  refine ml_iconst (v := 2) dL_law_952 rfl ?_
  refine ml_iadd dL_law_953 ?_
  refine ml_sld (j := 7 * t + 2) rfl (sx_i (j := 2) (by omega)) (by omega) dL_law_954 ?_
  refine ml_cV1 [.int (xs (7 * t + 1)), .int (xs (7 * t + 2))] (RX11, TX11, 32) dL_law_955 cwX11_stopRider lkL_184 hm1 rfl rfl rfl rfl hB ⟨Nat.le_of_ble_eq_true rfl, Nat.le_of_ble_eq_true rfl, Nat.le_of_ble_eq_true rfl, (show k + mc + 0 ≤ rmC by omega), (show sl + ms + 0 ≤ rmS by omega)⟩ (fun h2 q2 => ?_)
  obtain ⟨⟨fs2, hm2⟩, P3, hT, hN3⟩ := hN h2 q2
  refine ml_istore (ls' := [(6, _), (5, _), (0, _), (1, _), (2, _), (3, _), (4, _)]) dL_law_958 (Nat.le_of_ble_eq_true rfl) rfl ?_
  refine ml_aload_n 4 dL_law_960 rfl ?_
  refine ml_cV1 [] (RX11, TX11, 32) dL_law_961 cwX11_thrown lkL_142 hm2 rfl rfl rfl rfl hT ⟨Nat.le_of_ble_eq_true rfl, Nat.le_of_ble_eq_true rfl, Nat.le_of_ble_eq_true rfl, (show k + mc + 0 + 0 ≤ rmC by omega), (show sl + ms + 0 + 0 ≤ rmS by omega)⟩ (fun h3 q3 => ?_)
  obtain ⟨ho3, hv, J3⟩ := hN3 h3 q3
  refine ml_iload 1 dL_law_964 rfl ?_
  refine ml_icmp_eq 971 dL_law_966 (by decide) (fun c_966 => ?_) (fun c_966 => ?_)
  · refine ml_iload 1 dL_law_971 rfl ?_
    refine ml_if_ne 988 dL_law_973 (by decide) (fun c_973 => ?_) (fun c_973 => ?_)
    · refine ml_goto 2603 dL_law_988 (by decide) ?_
      exact ml_ls [2, 3, 4, 5, 6] rfl (g _ _ _ _ (by omega) (by omega) J3)
    · refine ml_aload_n 5 dL_law_976 rfl ?_
      refine ml_iconst (v := 0) dL_law_977 rfl ?_
      refine ml_lald ho3 (show (0 : Int32).toInt = ((0 : Nat) : Int) from rfl) (Nat.zero_lt_one) dL_law_978 ?_
      refine ml_iload 0 dL_law_979 rfl ?_
      refine ml_i2l dL_law_981 rfl ?_
      refine ml_lcmp dL_law_982 ?_
      refine ml_if_eq 988 dL_law_983 (by decide) (fun c_983 => ?_) (fun c_983 => ?_)
      · refine ml_goto 2603 dL_law_988 (by decide) ?_
        exact ml_ls [2, 3, 4, 5, 6] rfl (g _ _ _ _ (by omega) (by omega) J3)
      · exact (c_983 (lgc_eq.mpr (hv c_973))).elim
  · exact (c_966 rfl).elim
set_option maxRecDepth 100000 in
set_option maxHeartbeats 4000000 in
theorem lwc_12 {K : KX} {b c m o t L k sl n : Nat} {xs : Nat → Int32} {h : MH} {J : Nat → MH → Prop} (ht : 7 * t + 6 < L) (hL : L ≤ 3584) (hk : k + 400 ≤ rmC) (hs : sl + 5000 ≤ rmS) (H : StepI K m o mL_arrival [.ref c, .int (xs (7 * t + 1)), .int (xs (7 * t + 2)), .ref o] mX11_arrival [.ref m, .int (xs (7 * t + 1)), .int (xs (7 * t + 2))] J n h) (g : ∀ k' sl' n' h', k' ≤ k + 100 → sl' ≤ sl + 2000 → J n' h' → GL (lawG K) (XSc K b L xs) k' sl' 2603 (lawL b c m o t) [] n' h') : GL (lawG K) (XSc K b L xs) k sl 991 (lawL b c m o t) [] n h := by
  obtain ⟨mc, ms, QA, hmc, hms, hW, hA⟩ := H
  refine ml_aload_n 1 dL_law_991 rfl ?_
  refine ml_aload_n 0 dL_law_992 rfl ?_
  refine ml_iload 4 dL_law_993 rfl ?_
  refine ml_iconst (v := 1) dL_law_995 rfl ?_
  refine ml_iadd dL_law_996 ?_
  refine ml_sld (j := 7 * t + 1) rfl (sx_i (j := 1) (by omega)) (by omega) dL_law_997 ?_
  refine ml_aload_n 0 dL_law_998 rfl ?_
  refine ml_iload 4 dL_law_999 rfl ?_
  refine ml_iconst (v := 2) dL_law_1001 rfl ?_
  refine ml_iadd dL_law_1002 ?_
  refine ml_sld (j := 7 * t + 2) rfl (sx_i (j := 2) (by omega)) (by omega) dL_law_1003 ?_
  refine ml_aload_n 3 dL_law_1004 rfl ?_
  refine ml_cS [.ref c, .int (xs (7 * t + 1)), .int (xs (7 * t + 2)), .ref o] dL_law_1005 cwL_arrival lkL_185 rfl hW ⟨Nat.le_of_ble_eq_true rfl, Nat.le_of_ble_eq_true rfl, Nat.le_of_ble_eq_true rfl, (show k + mc ≤ rmC by omega), (show sl + ms ≤ rmS by omega)⟩ (fun v n1 h1 q => ?_) (fun E n1 h1 q => by obtain ⟨_, _, _, _, e1, _⟩ := hA _ _ _ q; cases e1)
  obtain ⟨k9, f1, b9, P2, e1, ⟨fs1, hm1⟩, hB, hN⟩ := hA _ _ _ q
  cases e1
  show GL _ _ _ _ _ _ [.int k9] _ _
  refine ml_istore (ls' := [(5, _), (0, _), (1, _), (2, _), (3, _), (4, _)]) dL_law_1008 (Nat.le_of_ble_eq_true rfl) rfl ?_
  refine ml_aload_n 3 dL_law_1010 rfl ?_
  refine ml_aload_n 1 dL_law_1011 rfl ?_
  refine ml_iload 5 dL_law_1012 rfl ?_
  refine ml_iconst (v := 1) dL_law_1014 rfl ?_
  refine ml_iadd dL_law_1015 ?_
  refine ml_sld (j := 7 * t + 1) rfl (sx_i (j := 1) (by omega)) (by omega) dL_law_1016 ?_
  refine ml_aload_n 1 dL_law_1017 rfl ?_
  refine ml_iload 5 dL_law_1018 rfl ?_
  refine ml_iconst (v := 2) dL_law_1020 rfl ?_
  refine ml_iadd dL_law_1021 ?_
  refine ml_sld (j := 7 * t + 2) rfl (sx_i (j := 2) (by omega)) (by omega) dL_law_1022 ?_
  refine ml_cV1 [.int (xs (7 * t + 1)), .int (xs (7 * t + 2))] (RX11, TX11, 32) dL_law_1023 cwX11_arrival lkL_187 hm1 rfl rfl rfl rfl hB ⟨Nat.le_of_ble_eq_true rfl, Nat.le_of_ble_eq_true rfl, Nat.le_of_ble_eq_true rfl, (show k + mc + 0 ≤ rmC by omega), (show sl + ms + 0 ≤ rmS by omega)⟩ (fun h2 q2 => ?_)
  obtain ⟨⟨fs2, hm2⟩, P3, hT, hN3⟩ := hN h2 q2
  refine ml_istore (ls' := [(6, _), (5, _), (0, _), (1, _), (2, _), (3, _), (4, _)]) dL_law_1026 (Nat.le_of_ble_eq_true rfl) rfl ?_
  refine ml_aload_n 4 dL_law_1028 rfl ?_
  refine ml_cV1 [] (RX11, TX11, 32) dL_law_1029 cwX11_thrown lkL_142 hm2 rfl rfl rfl rfl hT ⟨Nat.le_of_ble_eq_true rfl, Nat.le_of_ble_eq_true rfl, Nat.le_of_ble_eq_true rfl, (show k + mc + 0 + 0 ≤ rmC by omega), (show sl + ms + 0 + 0 ≤ rmS by omega)⟩ (fun h3 q3 => ?_)
  obtain ⟨ho3, hv, J3⟩ := hN3 h3 q3
  refine ml_iload 1 dL_law_1032 rfl ?_
  refine ml_icmp_eq 1039 dL_law_1034 (by decide) (fun c_1034 => ?_) (fun c_1034 => ?_)
  · refine ml_iload 1 dL_law_1039 rfl ?_
    refine ml_if_ne 1056 dL_law_1041 (by decide) (fun c_1041 => ?_) (fun c_1041 => ?_)
    · refine ml_goto 2603 dL_law_1056 (by decide) ?_
      exact ml_ls [2, 3, 4, 5, 6] rfl (g _ _ _ _ (by omega) (by omega) J3)
    · refine ml_aload_n 5 dL_law_1044 rfl ?_
      refine ml_iconst (v := 0) dL_law_1045 rfl ?_
      refine ml_lald ho3 (show (0 : Int32).toInt = ((0 : Nat) : Int) from rfl) (Nat.zero_lt_one) dL_law_1046 ?_
      refine ml_iload 0 dL_law_1047 rfl ?_
      refine ml_i2l dL_law_1049 rfl ?_
      refine ml_lcmp dL_law_1050 ?_
      refine ml_if_eq 1056 dL_law_1051 (by decide) (fun c_1051 => ?_) (fun c_1051 => ?_)
      · refine ml_goto 2603 dL_law_1056 (by decide) ?_
        exact ml_ls [2, 3, 4, 5, 6] rfl (g _ _ _ _ (by omega) (by omega) J3)
      · exact (c_1051 (lgc_eq.mpr (hv c_1041))).elim
  · exact (c_1034 rfl).elim
set_option maxRecDepth 100000 in
set_option maxHeartbeats 4000000 in
theorem lwc_13 {K : KX} {b c m o t L k sl n : Nat} {xs : Nat → Int32} {h : MH} {J : Nat → MH → Prop} (ht : 7 * t + 6 < L) (hL : L ≤ 3584) (hk : k + 400 ≤ rmC) (hs : sl + 5000 ≤ rmS) (H : StepI K m o mL_routeLength [.ref c, .int (xs (7 * t + 1)), .ref o] mX11_routeLength [.ref m, .int (xs (7 * t + 1))] J n h) (g : ∀ k' sl' n' h', k' ≤ k + 100 → sl' ≤ sl + 2000 → J n' h' → GL (lawG K) (XSc K b L xs) k' sl' 2603 (lawL b c m o t) [] n' h') : GL (lawG K) (XSc K b L xs) k sl 1059 (lawL b c m o t) [] n h := by
  obtain ⟨mc, ms, QA, hmc, hms, hW, hA⟩ := H
  refine ml_aload_n 1 dL_law_1059 rfl ?_
  refine ml_aload_n 0 dL_law_1060 rfl ?_
  refine ml_iload 4 dL_law_1061 rfl ?_
  refine ml_iconst (v := 1) dL_law_1063 rfl ?_
  refine ml_iadd dL_law_1064 ?_
  refine ml_sld (j := 7 * t + 1) rfl (sx_i (j := 1) (by omega)) (by omega) dL_law_1065 ?_
  refine ml_aload_n 3 dL_law_1066 rfl ?_
  refine ml_cS [.ref c, .int (xs (7 * t + 1)), .ref o] dL_law_1067 cwL_routeLength lkL_188 rfl hW ⟨Nat.le_of_ble_eq_true rfl, Nat.le_of_ble_eq_true rfl, Nat.le_of_ble_eq_true rfl, (show k + mc ≤ rmC by omega), (show sl + ms ≤ rmS by omega)⟩ (fun v n1 h1 q => ?_) (fun E n1 h1 q => by obtain ⟨_, _, _, _, e1, _⟩ := hA _ _ _ q; cases e1)
  obtain ⟨k9, f1, b9, P2, e1, ⟨fs1, hm1⟩, hB, hN⟩ := hA _ _ _ q
  cases e1
  show GL _ _ _ _ _ _ [.int k9] _ _
  refine ml_istore (ls' := [(5, _), (0, _), (1, _), (2, _), (3, _), (4, _)]) dL_law_1070 (Nat.le_of_ble_eq_true rfl) rfl ?_
  refine ml_aload_n 3 dL_law_1072 rfl ?_
  refine ml_aload_n 1 dL_law_1073 rfl ?_
  refine ml_iload 5 dL_law_1074 rfl ?_
  refine ml_iconst (v := 1) dL_law_1076 rfl ?_
  refine ml_iadd dL_law_1077 ?_
  refine ml_sld (j := 7 * t + 1) rfl (sx_i (j := 1) (by omega)) (by omega) dL_law_1078 ?_
  refine ml_cV1 [.int (xs (7 * t + 1))] (RX11, TX11, 32) dL_law_1079 cwX11_routeLength lkL_190 hm1 rfl rfl rfl rfl hB ⟨Nat.le_of_ble_eq_true rfl, Nat.le_of_ble_eq_true rfl, Nat.le_of_ble_eq_true rfl, (show k + mc + 0 ≤ rmC by omega), (show sl + ms + 0 ≤ rmS by omega)⟩ (fun h2 q2 => ?_)
  obtain ⟨⟨fs2, hm2⟩, P3, hT, hN3⟩ := hN h2 q2
  refine ml_istore (ls' := [(6, _), (5, _), (0, _), (1, _), (2, _), (3, _), (4, _)]) dL_law_1082 (Nat.le_of_ble_eq_true rfl) rfl ?_
  refine ml_aload_n 4 dL_law_1084 rfl ?_
  refine ml_cV1 [] (RX11, TX11, 32) dL_law_1085 cwX11_thrown lkL_142 hm2 rfl rfl rfl rfl hT ⟨Nat.le_of_ble_eq_true rfl, Nat.le_of_ble_eq_true rfl, Nat.le_of_ble_eq_true rfl, (show k + mc + 0 + 0 ≤ rmC by omega), (show sl + ms + 0 + 0 ≤ rmS by omega)⟩ (fun h3 q3 => ?_)
  obtain ⟨ho3, hv, J3⟩ := hN3 h3 q3
  refine ml_iload 1 dL_law_1088 rfl ?_
  refine ml_icmp_eq 1095 dL_law_1090 (by decide) (fun c_1090 => ?_) (fun c_1090 => ?_)
  · refine ml_iload 1 dL_law_1095 rfl ?_
    refine ml_if_ne 1112 dL_law_1097 (by decide) (fun c_1097 => ?_) (fun c_1097 => ?_)
    · refine ml_goto 2603 dL_law_1112 (by decide) ?_
      exact ml_ls [2, 3, 4, 5, 6] rfl (g _ _ _ _ (by omega) (by omega) J3)
    · refine ml_aload_n 5 dL_law_1100 rfl ?_
      refine ml_iconst (v := 0) dL_law_1101 rfl ?_
      refine ml_lald ho3 (show (0 : Int32).toInt = ((0 : Nat) : Int) from rfl) (Nat.zero_lt_one) dL_law_1102 ?_
      refine ml_iload 0 dL_law_1103 rfl ?_
      refine ml_i2l dL_law_1105 rfl ?_
      refine ml_lcmp dL_law_1106 ?_
      refine ml_if_eq 1112 dL_law_1107 (by decide) (fun c_1107 => ?_) (fun c_1107 => ?_)
      · refine ml_goto 2603 dL_law_1112 (by decide) ?_
        exact ml_ls [2, 3, 4, 5, 6] rfl (g _ _ _ _ (by omega) (by omega) J3)
      · exact (c_1107 (lgc_eq.mpr (hv c_1097))).elim
  · exact (c_1090 rfl).elim
set_option maxRecDepth 100000 in
set_option maxHeartbeats 4000000 in
theorem lwc_14 {K : KX} {b c m o t L k sl n : Nat} {xs : Nat → Int32} {h : MH} {J : Nat → MH → Prop} (ht : 7 * t + 6 < L) (hL : L ≤ 3584) (hk : k + 400 ≤ rmC) (hs : sl + 5000 ≤ rmS) (H : StepI K m o mL_detour [.ref c, .int (xs (7 * t + 1)), .ref o] mX11_detour [.ref m, .int (xs (7 * t + 1))] J n h) (g : ∀ k' sl' n' h', k' ≤ k + 100 → sl' ≤ sl + 2000 → J n' h' → GL (lawG K) (XSc K b L xs) k' sl' 2603 (lawL b c m o t) [] n' h') : GL (lawG K) (XSc K b L xs) k sl 1115 (lawL b c m o t) [] n h := by
  obtain ⟨mc, ms, QA, hmc, hms, hW, hA⟩ := H
  refine ml_aload_n 1 dL_law_1115 rfl ?_
  refine ml_aload_n 0 dL_law_1116 rfl ?_
  refine ml_iload 4 dL_law_1117 rfl ?_
  refine ml_iconst (v := 1) dL_law_1119 rfl ?_
  refine ml_iadd dL_law_1120 ?_
  refine ml_sld (j := 7 * t + 1) rfl (sx_i (j := 1) (by omega)) (by omega) dL_law_1121 ?_
  refine ml_aload_n 3 dL_law_1122 rfl ?_
  refine ml_cS [.ref c, .int (xs (7 * t + 1)), .ref o] dL_law_1123 cwL_detour lkL_191 rfl hW ⟨Nat.le_of_ble_eq_true rfl, Nat.le_of_ble_eq_true rfl, Nat.le_of_ble_eq_true rfl, (show k + mc ≤ rmC by omega), (show sl + ms ≤ rmS by omega)⟩ (fun v n1 h1 q => ?_) (fun E n1 h1 q => by obtain ⟨_, _, _, _, e1, _⟩ := hA _ _ _ q; cases e1)
  obtain ⟨k9, f1, b9, P2, e1, ⟨fs1, hm1⟩, hB, hN⟩ := hA _ _ _ q
  cases e1
  show GL _ _ _ _ _ _ [.int k9] _ _
  refine ml_istore (ls' := [(5, _), (0, _), (1, _), (2, _), (3, _), (4, _)]) dL_law_1126 (Nat.le_of_ble_eq_true rfl) rfl ?_
  refine ml_aload_n 3 dL_law_1128 rfl ?_
  refine ml_aload_n 1 dL_law_1129 rfl ?_
  refine ml_iload 5 dL_law_1130 rfl ?_
  refine ml_iconst (v := 1) dL_law_1132 rfl ?_
  refine ml_iadd dL_law_1133 ?_
  refine ml_sld (j := 7 * t + 1) rfl (sx_i (j := 1) (by omega)) (by omega) dL_law_1134 ?_
  refine ml_cV1 [.int (xs (7 * t + 1))] (RX11, TX11, 32) dL_law_1135 cwX11_detour lkL_193 hm1 rfl rfl rfl rfl hB ⟨Nat.le_of_ble_eq_true rfl, Nat.le_of_ble_eq_true rfl, Nat.le_of_ble_eq_true rfl, (show k + mc + 0 ≤ rmC by omega), (show sl + ms + 0 ≤ rmS by omega)⟩ (fun h2 q2 => ?_)
  obtain ⟨⟨fs2, hm2⟩, P3, hT, hN3⟩ := hN h2 q2
  refine ml_istore (ls' := [(6, _), (5, _), (0, _), (1, _), (2, _), (3, _), (4, _)]) dL_law_1138 (Nat.le_of_ble_eq_true rfl) rfl ?_
  refine ml_aload_n 4 dL_law_1140 rfl ?_
  refine ml_cV1 [] (RX11, TX11, 32) dL_law_1141 cwX11_thrown lkL_142 hm2 rfl rfl rfl rfl hT ⟨Nat.le_of_ble_eq_true rfl, Nat.le_of_ble_eq_true rfl, Nat.le_of_ble_eq_true rfl, (show k + mc + 0 + 0 ≤ rmC by omega), (show sl + ms + 0 + 0 ≤ rmS by omega)⟩ (fun h3 q3 => ?_)
  obtain ⟨ho3, hv, J3⟩ := hN3 h3 q3
  refine ml_iload 1 dL_law_1144 rfl ?_
  refine ml_icmp_eq 1151 dL_law_1146 (by decide) (fun c_1146 => ?_) (fun c_1146 => ?_)
  · refine ml_iload 1 dL_law_1151 rfl ?_
    refine ml_if_ne 1168 dL_law_1153 (by decide) (fun c_1153 => ?_) (fun c_1153 => ?_)
    · refine ml_goto 2603 dL_law_1168 (by decide) ?_
      exact ml_ls [2, 3, 4, 5, 6] rfl (g _ _ _ _ (by omega) (by omega) J3)
    · refine ml_aload_n 5 dL_law_1156 rfl ?_
      refine ml_iconst (v := 0) dL_law_1157 rfl ?_
      refine ml_lald ho3 (show (0 : Int32).toInt = ((0 : Nat) : Int) from rfl) (Nat.zero_lt_one) dL_law_1158 ?_
      refine ml_iload 0 dL_law_1159 rfl ?_
      refine ml_i2l dL_law_1161 rfl ?_
      refine ml_lcmp dL_law_1162 ?_
      refine ml_if_eq 1168 dL_law_1163 (by decide) (fun c_1163 => ?_) (fun c_1163 => ?_)
      · refine ml_goto 2603 dL_law_1168 (by decide) ?_
        exact ml_ls [2, 3, 4, 5, 6] rfl (g _ _ _ _ (by omega) (by omega) J3)
      · exact (c_1163 (lgc_eq.mpr (hv c_1153))).elim
  · exact (c_1146 rfl).elim
set_option maxRecDepth 100000 in
set_option maxHeartbeats 4000000 in
theorem lwc_15 {K : KX} {b c m o t L k sl n : Nat} {xs : Nat → Int32} {h : MH} {J : Nat → MH → Prop} (ht : 7 * t + 6 < L) (hL : L ≤ 3584) (hk : k + 400 ≤ rmC) (hs : sl + 5000 ≤ rmS) (H : StepI K m o mL_extra [.ref c, .int (xs (7 * t + 1)), .int (xs (7 * t + 2)), .ref o] mX11_extra [.ref m, .int (xs (7 * t + 1)), .int (xs (7 * t + 2))] J n h) (g : ∀ k' sl' n' h', k' ≤ k + 100 → sl' ≤ sl + 2000 → J n' h' → GL (lawG K) (XSc K b L xs) k' sl' 2603 (lawL b c m o t) [] n' h') : GL (lawG K) (XSc K b L xs) k sl 1171 (lawL b c m o t) [] n h := by
  obtain ⟨mc, ms, QA, hmc, hms, hW, hA⟩ := H
  refine ml_aload_n 1 dL_law_1171 rfl ?_
  refine ml_aload_n 0 dL_law_1172 rfl ?_
  refine ml_iload 4 dL_law_1173 rfl ?_
  refine ml_iconst (v := 1) dL_law_1175 rfl ?_
  refine ml_iadd dL_law_1176 ?_
  refine ml_sld (j := 7 * t + 1) rfl (sx_i (j := 1) (by omega)) (by omega) dL_law_1177 ?_
  refine ml_aload_n 0 dL_law_1178 rfl ?_
  refine ml_iload 4 dL_law_1179 rfl ?_
  refine ml_iconst (v := 2) dL_law_1181 rfl ?_
  refine ml_iadd dL_law_1182 ?_
  refine ml_sld (j := 7 * t + 2) rfl (sx_i (j := 2) (by omega)) (by omega) dL_law_1183 ?_
  refine ml_aload_n 3 dL_law_1184 rfl ?_
  refine ml_cS [.ref c, .int (xs (7 * t + 1)), .int (xs (7 * t + 2)), .ref o] dL_law_1185 cwL_extra lkL_194 rfl hW ⟨Nat.le_of_ble_eq_true rfl, Nat.le_of_ble_eq_true rfl, Nat.le_of_ble_eq_true rfl, (show k + mc ≤ rmC by omega), (show sl + ms ≤ rmS by omega)⟩ (fun v n1 h1 q => ?_) (fun E n1 h1 q => by obtain ⟨_, _, _, _, e1, _⟩ := hA _ _ _ q; cases e1)
  obtain ⟨k9, f1, b9, P2, e1, ⟨fs1, hm1⟩, hB, hN⟩ := hA _ _ _ q
  cases e1
  show GL _ _ _ _ _ _ [.int k9] _ _
  refine ml_istore (ls' := [(5, _), (0, _), (1, _), (2, _), (3, _), (4, _)]) dL_law_1188 (Nat.le_of_ble_eq_true rfl) rfl ?_
  refine ml_aload_n 3 dL_law_1190 rfl ?_
  refine ml_aload_n 1 dL_law_1191 rfl ?_
  refine ml_iload 5 dL_law_1192 rfl ?_
  refine ml_iconst (v := 1) dL_law_1194 rfl ?_
  refine ml_iadd dL_law_1195 ?_
  refine ml_sld (j := 7 * t + 1) rfl (sx_i (j := 1) (by omega)) (by omega) dL_law_1196 ?_
  refine ml_aload_n 1 dL_law_1197 rfl ?_
  refine ml_iload 5 dL_law_1198 rfl ?_
  refine ml_iconst (v := 2) dL_law_1200 rfl ?_
  refine ml_iadd dL_law_1201 ?_
  refine ml_sld (j := 7 * t + 2) rfl (sx_i (j := 2) (by omega)) (by omega) dL_law_1202 ?_
  refine ml_cV1 [.int (xs (7 * t + 1)), .int (xs (7 * t + 2))] (RX11, TX11, 32) dL_law_1203 cwX11_extra lkL_196 hm1 rfl rfl rfl rfl hB ⟨Nat.le_of_ble_eq_true rfl, Nat.le_of_ble_eq_true rfl, Nat.le_of_ble_eq_true rfl, (show k + mc + 0 ≤ rmC by omega), (show sl + ms + 0 ≤ rmS by omega)⟩ (fun h2 q2 => ?_)
  obtain ⟨⟨fs2, hm2⟩, P3, hT, hN3⟩ := hN h2 q2
  refine ml_istore (ls' := [(6, _), (5, _), (0, _), (1, _), (2, _), (3, _), (4, _)]) dL_law_1206 (Nat.le_of_ble_eq_true rfl) rfl ?_
  refine ml_aload_n 4 dL_law_1208 rfl ?_
  refine ml_cV1 [] (RX11, TX11, 32) dL_law_1209 cwX11_thrown lkL_142 hm2 rfl rfl rfl rfl hT ⟨Nat.le_of_ble_eq_true rfl, Nat.le_of_ble_eq_true rfl, Nat.le_of_ble_eq_true rfl, (show k + mc + 0 + 0 ≤ rmC by omega), (show sl + ms + 0 + 0 ≤ rmS by omega)⟩ (fun h3 q3 => ?_)
  obtain ⟨ho3, hv, J3⟩ := hN3 h3 q3
  refine ml_iload 1 dL_law_1212 rfl ?_
  refine ml_icmp_eq 1219 dL_law_1214 (by decide) (fun c_1214 => ?_) (fun c_1214 => ?_)
  · refine ml_iload 1 dL_law_1219 rfl ?_
    refine ml_if_ne 1236 dL_law_1221 (by decide) (fun c_1221 => ?_) (fun c_1221 => ?_)
    · refine ml_goto 2603 dL_law_1236 (by decide) ?_
      exact ml_ls [2, 3, 4, 5, 6] rfl (g _ _ _ _ (by omega) (by omega) J3)
    · refine ml_aload_n 5 dL_law_1224 rfl ?_
      refine ml_iconst (v := 0) dL_law_1225 rfl ?_
      refine ml_lald ho3 (show (0 : Int32).toInt = ((0 : Nat) : Int) from rfl) (Nat.zero_lt_one) dL_law_1226 ?_
      refine ml_iload 0 dL_law_1227 rfl ?_
      refine ml_i2l dL_law_1229 rfl ?_
      refine ml_lcmp dL_law_1230 ?_
      refine ml_if_eq 1236 dL_law_1231 (by decide) (fun c_1231 => ?_) (fun c_1231 => ?_)
      · refine ml_goto 2603 dL_law_1236 (by decide) ?_
        exact ml_ls [2, 3, 4, 5, 6] rfl (g _ _ _ _ (by omega) (by omega) J3)
      · exact (c_1231 (lgc_eq.mpr (hv c_1221))).elim
  · exact (c_1214 rfl).elim
set_option maxRecDepth 100000 in
set_option maxHeartbeats 4000000 in
theorem lwc_16 {K : KX} {b c m o t L k sl n : Nat} {xs : Nat → Int32} {h : MH} {J : Nat → MH → Prop} (ht : 7 * t + 6 < L) (hL : L ≤ 3584) (hk : k + 400 ≤ rmC) (hs : sl + 5000 ≤ rmS) (H : StepI K m o mL_soloExtra [.ref c, .int (xs (7 * t + 1)), .int (xs (7 * t + 2)), .ref o] mX11_soloExtra [.ref m, .int (xs (7 * t + 1)), .int (xs (7 * t + 2))] J n h) (g : ∀ k' sl' n' h', k' ≤ k + 100 → sl' ≤ sl + 2000 → J n' h' → GL (lawG K) (XSc K b L xs) k' sl' 2603 (lawL b c m o t) [] n' h') : GL (lawG K) (XSc K b L xs) k sl 1239 (lawL b c m o t) [] n h := by
  obtain ⟨mc, ms, QA, hmc, hms, hW, hA⟩ := H
  refine ml_aload_n 1 dL_law_1239 rfl ?_
  refine ml_aload_n 0 dL_law_1240 rfl ?_
  refine ml_iload 4 dL_law_1241 rfl ?_
  refine ml_iconst (v := 1) dL_law_1243 rfl ?_
  refine ml_iadd dL_law_1244 ?_
  refine ml_sld (j := 7 * t + 1) rfl (sx_i (j := 1) (by omega)) (by omega) dL_law_1245 ?_
  refine ml_aload_n 0 dL_law_1246 rfl ?_
  refine ml_iload 4 dL_law_1247 rfl ?_
  refine ml_iconst (v := 2) dL_law_1249 rfl ?_
  refine ml_iadd dL_law_1250 ?_
  refine ml_sld (j := 7 * t + 2) rfl (sx_i (j := 2) (by omega)) (by omega) dL_law_1251 ?_
  refine ml_aload_n 3 dL_law_1252 rfl ?_
  refine ml_cS [.ref c, .int (xs (7 * t + 1)), .int (xs (7 * t + 2)), .ref o] dL_law_1253 cwL_soloExtra lkL_197 rfl hW ⟨Nat.le_of_ble_eq_true rfl, Nat.le_of_ble_eq_true rfl, Nat.le_of_ble_eq_true rfl, (show k + mc ≤ rmC by omega), (show sl + ms ≤ rmS by omega)⟩ (fun v n1 h1 q => ?_) (fun E n1 h1 q => by obtain ⟨_, _, _, _, e1, _⟩ := hA _ _ _ q; cases e1)
  obtain ⟨k9, f1, b9, P2, e1, ⟨fs1, hm1⟩, hB, hN⟩ := hA _ _ _ q
  cases e1
  show GL _ _ _ _ _ _ [.int k9] _ _
  refine ml_istore (ls' := [(5, _), (0, _), (1, _), (2, _), (3, _), (4, _)]) dL_law_1256 (Nat.le_of_ble_eq_true rfl) rfl ?_
  refine ml_aload_n 3 dL_law_1258 rfl ?_
  refine ml_aload_n 1 dL_law_1259 rfl ?_
  refine ml_iload 5 dL_law_1260 rfl ?_
  refine ml_iconst (v := 1) dL_law_1262 rfl ?_
  refine ml_iadd dL_law_1263 ?_
  refine ml_sld (j := 7 * t + 1) rfl (sx_i (j := 1) (by omega)) (by omega) dL_law_1264 ?_
  refine ml_aload_n 1 dL_law_1265 rfl ?_
  refine ml_iload 5 dL_law_1266 rfl ?_
  refine ml_iconst (v := 2) dL_law_1268 rfl ?_
  refine ml_iadd dL_law_1269 ?_
  refine ml_sld (j := 7 * t + 2) rfl (sx_i (j := 2) (by omega)) (by omega) dL_law_1270 ?_
  refine ml_cV1 [.int (xs (7 * t + 1)), .int (xs (7 * t + 2))] (RX11, TX11, 32) dL_law_1271 cwX11_soloExtra lkL_199 hm1 rfl rfl rfl rfl hB ⟨Nat.le_of_ble_eq_true rfl, Nat.le_of_ble_eq_true rfl, Nat.le_of_ble_eq_true rfl, (show k + mc + 0 ≤ rmC by omega), (show sl + ms + 0 ≤ rmS by omega)⟩ (fun h2 q2 => ?_)
  obtain ⟨⟨fs2, hm2⟩, P3, hT, hN3⟩ := hN h2 q2
  refine ml_istore (ls' := [(6, _), (5, _), (0, _), (1, _), (2, _), (3, _), (4, _)]) dL_law_1274 (Nat.le_of_ble_eq_true rfl) rfl ?_
  refine ml_aload_n 4 dL_law_1276 rfl ?_
  refine ml_cV1 [] (RX11, TX11, 32) dL_law_1277 cwX11_thrown lkL_142 hm2 rfl rfl rfl rfl hT ⟨Nat.le_of_ble_eq_true rfl, Nat.le_of_ble_eq_true rfl, Nat.le_of_ble_eq_true rfl, (show k + mc + 0 + 0 ≤ rmC by omega), (show sl + ms + 0 + 0 ≤ rmS by omega)⟩ (fun h3 q3 => ?_)
  obtain ⟨ho3, hv, J3⟩ := hN3 h3 q3
  refine ml_iload 1 dL_law_1280 rfl ?_
  refine ml_icmp_eq 1287 dL_law_1282 (by decide) (fun c_1282 => ?_) (fun c_1282 => ?_)
  · refine ml_iload 1 dL_law_1287 rfl ?_
    refine ml_if_ne 1304 dL_law_1289 (by decide) (fun c_1289 => ?_) (fun c_1289 => ?_)
    · refine ml_goto 2603 dL_law_1304 (by decide) ?_
      exact ml_ls [2, 3, 4, 5, 6] rfl (g _ _ _ _ (by omega) (by omega) J3)
    · refine ml_aload_n 5 dL_law_1292 rfl ?_
      refine ml_iconst (v := 0) dL_law_1293 rfl ?_
      refine ml_lald ho3 (show (0 : Int32).toInt = ((0 : Nat) : Int) from rfl) (Nat.zero_lt_one) dL_law_1294 ?_
      refine ml_iload 0 dL_law_1295 rfl ?_
      refine ml_i2l dL_law_1297 rfl ?_
      refine ml_lcmp dL_law_1298 ?_
      refine ml_if_eq 1304 dL_law_1299 (by decide) (fun c_1299 => ?_) (fun c_1299 => ?_)
      · refine ml_goto 2603 dL_law_1304 (by decide) ?_
        exact ml_ls [2, 3, 4, 5, 6] rfl (g _ _ _ _ (by omega) (by omega) J3)
      · exact (c_1299 (lgc_eq.mpr (hv c_1289))).elim
  · exact (c_1282 rfl).elim
set_option maxRecDepth 100000 in
set_option maxHeartbeats 4000000 in
theorem lwc_17 {K : KX} {b c m o t L k sl n : Nat} {xs : Nat → Int32} {h : MH} {J : Nat → MH → Prop} (ht : 7 * t + 6 < L) (hL : L ≤ 3584) (hk : k + 400 ≤ rmC) (hs : sl + 5000 ≤ rmS) (H : StepI K m o mL_bestDriver [.ref c, .int (xs (7 * t + 1)), .ref o] mX11_bestDriver [.ref m, .int (xs (7 * t + 1))] J n h) (g : ∀ k' sl' n' h', k' ≤ k + 100 → sl' ≤ sl + 2000 → J n' h' → GL (lawG K) (XSc K b L xs) k' sl' 2603 (lawL b c m o t) [] n' h') : GL (lawG K) (XSc K b L xs) k sl 1307 (lawL b c m o t) [] n h := by
  obtain ⟨mc, ms, QA, hmc, hms, hW, hA⟩ := H
  refine ml_aload_n 1 dL_law_1307 rfl ?_
  refine ml_aload_n 0 dL_law_1308 rfl ?_
  refine ml_iload 4 dL_law_1309 rfl ?_
  refine ml_iconst (v := 1) dL_law_1311 rfl ?_
  refine ml_iadd dL_law_1312 ?_
  refine ml_sld (j := 7 * t + 1) rfl (sx_i (j := 1) (by omega)) (by omega) dL_law_1313 ?_
  refine ml_aload_n 3 dL_law_1314 rfl ?_
  refine ml_cS [.ref c, .int (xs (7 * t + 1)), .ref o] dL_law_1315 cwL_bestDriver lkL_200 rfl hW ⟨Nat.le_of_ble_eq_true rfl, Nat.le_of_ble_eq_true rfl, Nat.le_of_ble_eq_true rfl, (show k + mc ≤ rmC by omega), (show sl + ms ≤ rmS by omega)⟩ (fun v n1 h1 q => ?_) (fun E n1 h1 q => by obtain ⟨_, _, _, _, e1, _⟩ := hA _ _ _ q; cases e1)
  obtain ⟨k9, f1, b9, P2, e1, ⟨fs1, hm1⟩, hB, hN⟩ := hA _ _ _ q
  cases e1
  show GL _ _ _ _ _ _ [.int k9] _ _
  refine ml_istore (ls' := [(5, _), (0, _), (1, _), (2, _), (3, _), (4, _)]) dL_law_1318 (Nat.le_of_ble_eq_true rfl) rfl ?_
  refine ml_aload_n 3 dL_law_1320 rfl ?_
  refine ml_aload_n 1 dL_law_1321 rfl ?_
  refine ml_iload 5 dL_law_1322 rfl ?_
  refine ml_iconst (v := 1) dL_law_1324 rfl ?_
  refine ml_iadd dL_law_1325 ?_
  refine ml_sld (j := 7 * t + 1) rfl (sx_i (j := 1) (by omega)) (by omega) dL_law_1326 ?_
  refine ml_cV1 [.int (xs (7 * t + 1))] (RX11, TX11, 32) dL_law_1327 cwX11_bestDriver lkL_202 hm1 rfl rfl rfl rfl hB ⟨Nat.le_of_ble_eq_true rfl, Nat.le_of_ble_eq_true rfl, Nat.le_of_ble_eq_true rfl, (show k + mc + 0 ≤ rmC by omega), (show sl + ms + 0 ≤ rmS by omega)⟩ (fun h2 q2 => ?_)
  obtain ⟨⟨fs2, hm2⟩, P3, hT, hN3⟩ := hN h2 q2
  refine ml_istore (ls' := [(6, _), (5, _), (0, _), (1, _), (2, _), (3, _), (4, _)]) dL_law_1330 (Nat.le_of_ble_eq_true rfl) rfl ?_
  refine ml_aload_n 4 dL_law_1332 rfl ?_
  refine ml_cV1 [] (RX11, TX11, 32) dL_law_1333 cwX11_thrown lkL_142 hm2 rfl rfl rfl rfl hT ⟨Nat.le_of_ble_eq_true rfl, Nat.le_of_ble_eq_true rfl, Nat.le_of_ble_eq_true rfl, (show k + mc + 0 + 0 ≤ rmC by omega), (show sl + ms + 0 + 0 ≤ rmS by omega)⟩ (fun h3 q3 => ?_)
  obtain ⟨ho3, hv, J3⟩ := hN3 h3 q3
  refine ml_iload 1 dL_law_1336 rfl ?_
  refine ml_icmp_eq 1343 dL_law_1338 (by decide) (fun c_1338 => ?_) (fun c_1338 => ?_)
  · refine ml_iload 1 dL_law_1343 rfl ?_
    refine ml_if_ne 1360 dL_law_1345 (by decide) (fun c_1345 => ?_) (fun c_1345 => ?_)
    · refine ml_goto 2603 dL_law_1360 (by decide) ?_
      exact ml_ls [2, 3, 4, 5, 6] rfl (g _ _ _ _ (by omega) (by omega) J3)
    · refine ml_aload_n 5 dL_law_1348 rfl ?_
      refine ml_iconst (v := 0) dL_law_1349 rfl ?_
      refine ml_lald ho3 (show (0 : Int32).toInt = ((0 : Nat) : Int) from rfl) (Nat.zero_lt_one) dL_law_1350 ?_
      refine ml_iload 0 dL_law_1351 rfl ?_
      refine ml_i2l dL_law_1353 rfl ?_
      refine ml_lcmp dL_law_1354 ?_
      refine ml_if_eq 1360 dL_law_1355 (by decide) (fun c_1355 => ?_) (fun c_1355 => ?_)
      · refine ml_goto 2603 dL_law_1360 (by decide) ?_
        exact ml_ls [2, 3, 4, 5, 6] rfl (g _ _ _ _ (by omega) (by omega) J3)
      · exact (c_1355 (lgc_eq.mpr (hv c_1345))).elim
  · exact (c_1338 rfl).elim
set_option maxRecDepth 100000 in
set_option maxHeartbeats 4000000 in
theorem lwc_18 {K : KX} {b c m o t L k sl n : Nat} {xs : Nat → Int32} {h : MH} {J : Nat → MH → Prop} (ht : 7 * t + 6 < L) (hL : L ≤ 3584) (hk : k + 400 ≤ rmC) (hs : sl + 5000 ≤ rmS) (H : StepI K m o mL_assign [.ref c, .int (xs (7 * t + 1)), .int (xs (7 * t + 2)), .ref o] mX11_assign [.ref m, .int (xs (7 * t + 1)), .int (xs (7 * t + 2))] J n h) (g : ∀ k' sl' n' h', k' ≤ k + 100 → sl' ≤ sl + 2000 → J n' h' → GL (lawG K) (XSc K b L xs) k' sl' 2603 (lawL b c m o t) [] n' h') : GL (lawG K) (XSc K b L xs) k sl 1363 (lawL b c m o t) [] n h := by
  obtain ⟨mc, ms, QA, hmc, hms, hW, hA⟩ := H
  refine ml_aload_n 1 dL_law_1363 rfl ?_
  refine ml_aload_n 0 dL_law_1364 rfl ?_
  refine ml_iload 4 dL_law_1365 rfl ?_
  refine ml_iconst (v := 1) dL_law_1367 rfl ?_
  refine ml_iadd dL_law_1368 ?_
  refine ml_sld (j := 7 * t + 1) rfl (sx_i (j := 1) (by omega)) (by omega) dL_law_1369 ?_
  refine ml_aload_n 0 dL_law_1370 rfl ?_
  refine ml_iload 4 dL_law_1371 rfl ?_
  refine ml_iconst (v := 2) dL_law_1373 rfl ?_
  refine ml_iadd dL_law_1374 ?_
  refine ml_sld (j := 7 * t + 2) rfl (sx_i (j := 2) (by omega)) (by omega) dL_law_1375 ?_
  refine ml_aload_n 3 dL_law_1376 rfl ?_
  refine ml_cS [.ref c, .int (xs (7 * t + 1)), .int (xs (7 * t + 2)), .ref o] dL_law_1377 cwL_assign lkL_203 rfl hW ⟨Nat.le_of_ble_eq_true rfl, Nat.le_of_ble_eq_true rfl, Nat.le_of_ble_eq_true rfl, (show k + mc ≤ rmC by omega), (show sl + ms ≤ rmS by omega)⟩ (fun v n1 h1 q => ?_) (fun E n1 h1 q => by obtain ⟨_, _, _, _, e1, _⟩ := hA _ _ _ q; cases e1)
  obtain ⟨k9, f1, b9, P2, e1, ⟨fs1, hm1⟩, hB, hN⟩ := hA _ _ _ q
  cases e1
  show GL _ _ _ _ _ _ [.int k9] _ _
  refine ml_istore (ls' := [(5, _), (0, _), (1, _), (2, _), (3, _), (4, _)]) dL_law_1380 (Nat.le_of_ble_eq_true rfl) rfl ?_
  refine ml_aload_n 3 dL_law_1382 rfl ?_
  refine ml_aload_n 1 dL_law_1383 rfl ?_
  refine ml_iload 5 dL_law_1384 rfl ?_
  refine ml_iconst (v := 1) dL_law_1386 rfl ?_
  refine ml_iadd dL_law_1387 ?_
  refine ml_sld (j := 7 * t + 1) rfl (sx_i (j := 1) (by omega)) (by omega) dL_law_1388 ?_
  refine ml_aload_n 1 dL_law_1389 rfl ?_
  refine ml_iload 5 dL_law_1390 rfl ?_
  refine ml_iconst (v := 2) dL_law_1392 rfl ?_
  refine ml_iadd dL_law_1393 ?_
  refine ml_sld (j := 7 * t + 2) rfl (sx_i (j := 2) (by omega)) (by omega) dL_law_1394 ?_
  refine ml_cV1 [.int (xs (7 * t + 1)), .int (xs (7 * t + 2))] (RX11, TX11, 32) dL_law_1395 cwX11_assign lkL_205 hm1 rfl rfl rfl rfl hB ⟨Nat.le_of_ble_eq_true rfl, Nat.le_of_ble_eq_true rfl, Nat.le_of_ble_eq_true rfl, (show k + mc + 0 ≤ rmC by omega), (show sl + ms + 0 ≤ rmS by omega)⟩ (fun h2 q2 => ?_)
  obtain ⟨⟨fs2, hm2⟩, P3, hT, hN3⟩ := hN h2 q2
  refine ml_istore (ls' := [(6, _), (5, _), (0, _), (1, _), (2, _), (3, _), (4, _)]) dL_law_1398 (Nat.le_of_ble_eq_true rfl) rfl ?_
  refine ml_aload_n 4 dL_law_1400 rfl ?_
  refine ml_cV1 [] (RX11, TX11, 32) dL_law_1401 cwX11_thrown lkL_142 hm2 rfl rfl rfl rfl hT ⟨Nat.le_of_ble_eq_true rfl, Nat.le_of_ble_eq_true rfl, Nat.le_of_ble_eq_true rfl, (show k + mc + 0 + 0 ≤ rmC by omega), (show sl + ms + 0 + 0 ≤ rmS by omega)⟩ (fun h3 q3 => ?_)
  obtain ⟨ho3, hv, J3⟩ := hN3 h3 q3
  refine ml_iload 1 dL_law_1404 rfl ?_
  refine ml_icmp_eq 1411 dL_law_1406 (by decide) (fun c_1406 => ?_) (fun c_1406 => ?_)
  · refine ml_iload 1 dL_law_1411 rfl ?_
    refine ml_if_ne 1428 dL_law_1413 (by decide) (fun c_1413 => ?_) (fun c_1413 => ?_)
    · refine ml_goto 2603 dL_law_1428 (by decide) ?_
      exact ml_ls [2, 3, 4, 5, 6] rfl (g _ _ _ _ (by omega) (by omega) J3)
    · refine ml_aload_n 5 dL_law_1416 rfl ?_
      refine ml_iconst (v := 0) dL_law_1417 rfl ?_
      refine ml_lald ho3 (show (0 : Int32).toInt = ((0 : Nat) : Int) from rfl) (Nat.zero_lt_one) dL_law_1418 ?_
      refine ml_iload 0 dL_law_1419 rfl ?_
      refine ml_i2l dL_law_1421 rfl ?_
      refine ml_lcmp dL_law_1422 ?_
      refine ml_if_eq 1428 dL_law_1423 (by decide) (fun c_1423 => ?_) (fun c_1423 => ?_)
      · refine ml_goto 2603 dL_law_1428 (by decide) ?_
        exact ml_ls [2, 3, 4, 5, 6] rfl (g _ _ _ _ (by omega) (by omega) J3)
      · exact (c_1423 (lgc_eq.mpr (hv c_1413))).elim
  · exact (c_1406 rfl).elim
set_option maxRecDepth 100000 in
set_option maxHeartbeats 4000000 in
theorem lwc_19 {K : KX} {b c m o t L k sl n : Nat} {xs : Nat → Int32} {h : MH} {J : Nat → MH → Prop} (ht : 7 * t + 6 < L) (hL : L ≤ 3584) (hk : k + 400 ≤ rmC) (hs : sl + 5000 ≤ rmS) (H : StepI K m o mL_unassign [.ref c, .int (xs (7 * t + 1)), .ref o] mX11_unassign [.ref m, .int (xs (7 * t + 1))] J n h) (g : ∀ k' sl' n' h', k' ≤ k + 100 → sl' ≤ sl + 2000 → J n' h' → GL (lawG K) (XSc K b L xs) k' sl' 2603 (lawL b c m o t) [] n' h') : GL (lawG K) (XSc K b L xs) k sl 1431 (lawL b c m o t) [] n h := by
  obtain ⟨mc, ms, QA, hmc, hms, hW, hA⟩ := H
  refine ml_aload_n 1 dL_law_1431 rfl ?_
  refine ml_aload_n 0 dL_law_1432 rfl ?_
  refine ml_iload 4 dL_law_1433 rfl ?_
  refine ml_iconst (v := 1) dL_law_1435 rfl ?_
  refine ml_iadd dL_law_1436 ?_
  refine ml_sld (j := 7 * t + 1) rfl (sx_i (j := 1) (by omega)) (by omega) dL_law_1437 ?_
  refine ml_aload_n 3 dL_law_1438 rfl ?_
  refine ml_cS [.ref c, .int (xs (7 * t + 1)), .ref o] dL_law_1439 cwL_unassign lkL_206 rfl hW ⟨Nat.le_of_ble_eq_true rfl, Nat.le_of_ble_eq_true rfl, Nat.le_of_ble_eq_true rfl, (show k + mc ≤ rmC by omega), (show sl + ms ≤ rmS by omega)⟩ (fun v n1 h1 q => ?_) (fun E n1 h1 q => by obtain ⟨_, _, _, _, e1, _⟩ := hA _ _ _ q; cases e1)
  obtain ⟨k9, f1, b9, P2, e1, ⟨fs1, hm1⟩, hB, hN⟩ := hA _ _ _ q
  cases e1
  show GL _ _ _ _ _ _ [.int k9] _ _
  refine ml_istore (ls' := [(5, _), (0, _), (1, _), (2, _), (3, _), (4, _)]) dL_law_1442 (Nat.le_of_ble_eq_true rfl) rfl ?_
  refine ml_aload_n 3 dL_law_1444 rfl ?_
  refine ml_aload_n 1 dL_law_1445 rfl ?_
  refine ml_iload 5 dL_law_1446 rfl ?_
  refine ml_iconst (v := 1) dL_law_1448 rfl ?_
  refine ml_iadd dL_law_1449 ?_
  refine ml_sld (j := 7 * t + 1) rfl (sx_i (j := 1) (by omega)) (by omega) dL_law_1450 ?_
  refine ml_cV1 [.int (xs (7 * t + 1))] (RX11, TX11, 32) dL_law_1451 cwX11_unassign lkL_208 hm1 rfl rfl rfl rfl hB ⟨Nat.le_of_ble_eq_true rfl, Nat.le_of_ble_eq_true rfl, Nat.le_of_ble_eq_true rfl, (show k + mc + 0 ≤ rmC by omega), (show sl + ms + 0 ≤ rmS by omega)⟩ (fun h2 q2 => ?_)
  obtain ⟨⟨fs2, hm2⟩, P3, hT, hN3⟩ := hN h2 q2
  refine ml_istore (ls' := [(6, _), (5, _), (0, _), (1, _), (2, _), (3, _), (4, _)]) dL_law_1454 (Nat.le_of_ble_eq_true rfl) rfl ?_
  refine ml_aload_n 4 dL_law_1456 rfl ?_
  refine ml_cV1 [] (RX11, TX11, 32) dL_law_1457 cwX11_thrown lkL_142 hm2 rfl rfl rfl rfl hT ⟨Nat.le_of_ble_eq_true rfl, Nat.le_of_ble_eq_true rfl, Nat.le_of_ble_eq_true rfl, (show k + mc + 0 + 0 ≤ rmC by omega), (show sl + ms + 0 + 0 ≤ rmS by omega)⟩ (fun h3 q3 => ?_)
  obtain ⟨ho3, hv, J3⟩ := hN3 h3 q3
  refine ml_iload 1 dL_law_1460 rfl ?_
  refine ml_icmp_eq 1467 dL_law_1462 (by decide) (fun c_1462 => ?_) (fun c_1462 => ?_)
  · refine ml_iload 1 dL_law_1467 rfl ?_
    refine ml_if_ne 1484 dL_law_1469 (by decide) (fun c_1469 => ?_) (fun c_1469 => ?_)
    · refine ml_goto 2603 dL_law_1484 (by decide) ?_
      exact ml_ls [2, 3, 4, 5, 6] rfl (g _ _ _ _ (by omega) (by omega) J3)
    · refine ml_aload_n 5 dL_law_1472 rfl ?_
      refine ml_iconst (v := 0) dL_law_1473 rfl ?_
      refine ml_lald ho3 (show (0 : Int32).toInt = ((0 : Nat) : Int) from rfl) (Nat.zero_lt_one) dL_law_1474 ?_
      refine ml_iload 0 dL_law_1475 rfl ?_
      refine ml_i2l dL_law_1477 rfl ?_
      refine ml_lcmp dL_law_1478 ?_
      refine ml_if_eq 1484 dL_law_1479 (by decide) (fun c_1479 => ?_) (fun c_1479 => ?_)
      · refine ml_goto 2603 dL_law_1484 (by decide) ?_
        exact ml_ls [2, 3, 4, 5, 6] rfl (g _ _ _ _ (by omega) (by omega) J3)
      · exact (c_1479 (lgc_eq.mpr (hv c_1469))).elim
  · exact (c_1462 rfl).elim
set_option maxRecDepth 100000 in
set_option maxHeartbeats 4000000 in
theorem lwc_20 {K : KX} {b c m o t L k sl n : Nat} {xs : Nat → Int32} {h : MH} {J : Nat → MH → Prop} (ht : 7 * t + 6 < L) (hL : L ≤ 3584) (hk : k + 400 ≤ rmC) (hs : sl + 5000 ≤ rmS) (H : StepD K c m mX10_match [.ref c] mX11_match [.ref m] J n h) (g : ∀ k' sl' n' h', k' ≤ k + 100 → sl' ≤ sl + 2000 → J n' h' → GL (lawG K) (XSc K b L xs) k' sl' 2603 (lawL b c m o t) [] n' h') : GL (lawG K) (XSc K b L xs) k sl 1487 (lawL b c m o t) [] n h := by
  obtain ⟨mc, ms, v9, n1, P1, hmc, hms, ⟨fs0, hc1⟩, hW, hA⟩ := H
  refine ml_aload_n 1 dL_law_1487 rfl ?_
  refine ml_cV1 [] (RX10, TX10, 9) dL_law_1488 cwX10_match lkL_209 hc1 rfl rfl rfl rfl hW ⟨Nat.le_of_ble_eq_true rfl, Nat.le_of_ble_eq_true rfl, Nat.le_of_ble_eq_true rfl, (show k + mc ≤ rmC by omega), (show sl + ms ≤ rmS by omega)⟩ (fun h1 q => ?_)
  obtain ⟨⟨fs1, hm1⟩, P2, hB, hN⟩ := hA h1 q
  refine ml_aload_n 2 dL_law_1491 rfl ?_
  refine ml_cV1 [] (RX11, TX11, 32) dL_law_1492 cwX11_match lkL_212 hm1 rfl rfl rfl rfl hB ⟨Nat.le_of_ble_eq_true rfl, Nat.le_of_ble_eq_true rfl, Nat.le_of_ble_eq_true rfl, (show k + mc + 0 ≤ rmC by omega), (show sl + ms + 0 ≤ rmS by omega)⟩ (fun h2 q2 => ?_)
  have J3 := hN h2 q2
  refine ml_icmp_eq 2603 dL_law_1495 (by decide) (fun c_1495 => ?_) (fun c_1495 => ?_)
  · exact ml_ls [0, 1, 2, 3, 4] rfl (g _ _ _ _ (by omega) (by omega) J3)
  · exact (c_1495 rfl).elim
set_option maxRecDepth 100000 in
set_option maxHeartbeats 4000000 in
theorem lwc_21 {K : KX} {b c m o t L k sl n : Nat} {xs : Nat → Int32} {h : MH} {J : Nat → MH → Prop} (ht : 7 * t + 6 < L) (hL : L ≤ 3584) (hk : k + 400 ≤ rmC) (hs : sl + 5000 ≤ rmS) (H : StepI K m o mL_riderChoice [.ref c, .int (xs (7 * t + 1)), .int (xs (7 * t + 2)), .ref o] mX11_riderChoice [.ref m, .int (xs (7 * t + 1)), .int (xs (7 * t + 2))] J n h) (g : ∀ k' sl' n' h', k' ≤ k + 100 → sl' ≤ sl + 2000 → J n' h' → GL (lawG K) (XSc K b L xs) k' sl' 2603 (lawL b c m o t) [] n' h') : GL (lawG K) (XSc K b L xs) k sl 1500 (lawL b c m o t) [] n h := by
  obtain ⟨mc, ms, QA, hmc, hms, hW, hA⟩ := H
  refine ml_aload_n 1 dL_law_1500 rfl ?_
  refine ml_aload_n 0 dL_law_1501 rfl ?_
  refine ml_iload 4 dL_law_1502 rfl ?_
  refine ml_iconst (v := 1) dL_law_1504 rfl ?_
  refine ml_iadd dL_law_1505 ?_
  refine ml_sld (j := 7 * t + 1) rfl (sx_i (j := 1) (by omega)) (by omega) dL_law_1506 ?_
  refine ml_aload_n 0 dL_law_1507 rfl ?_
  refine ml_iload 4 dL_law_1508 rfl ?_
  refine ml_iconst (v := 2) dL_law_1510 rfl ?_
  refine ml_iadd dL_law_1511 ?_
  refine ml_sld (j := 7 * t + 2) rfl (sx_i (j := 2) (by omega)) (by omega) dL_law_1512 ?_
  refine ml_aload_n 3 dL_law_1513 rfl ?_
  refine ml_cS [.ref c, .int (xs (7 * t + 1)), .int (xs (7 * t + 2)), .ref o] dL_law_1514 cwL_riderChoice lkL_213 rfl hW ⟨Nat.le_of_ble_eq_true rfl, Nat.le_of_ble_eq_true rfl, Nat.le_of_ble_eq_true rfl, (show k + mc ≤ rmC by omega), (show sl + ms ≤ rmS by omega)⟩ (fun v n1 h1 q => ?_) (fun E n1 h1 q => by obtain ⟨_, _, _, _, e1, _⟩ := hA _ _ _ q; cases e1)
  obtain ⟨k9, f1, b9, P2, e1, ⟨fs1, hm1⟩, hB, hN⟩ := hA _ _ _ q
  cases e1
  show GL _ _ _ _ _ _ [.int k9] _ _
  refine ml_istore (ls' := [(5, _), (0, _), (1, _), (2, _), (3, _), (4, _)]) dL_law_1517 (Nat.le_of_ble_eq_true rfl) rfl ?_
  refine ml_aload_n 3 dL_law_1519 rfl ?_
  refine ml_aload_n 1 dL_law_1520 rfl ?_
  refine ml_iload 5 dL_law_1521 rfl ?_
  refine ml_iconst (v := 1) dL_law_1523 rfl ?_
  refine ml_iadd dL_law_1524 ?_
  refine ml_sld (j := 7 * t + 1) rfl (sx_i (j := 1) (by omega)) (by omega) dL_law_1525 ?_
  refine ml_aload_n 1 dL_law_1526 rfl ?_
  refine ml_iload 5 dL_law_1527 rfl ?_
  refine ml_iconst (v := 2) dL_law_1529 rfl ?_
  refine ml_iadd dL_law_1530 ?_
  refine ml_sld (j := 7 * t + 2) rfl (sx_i (j := 2) (by omega)) (by omega) dL_law_1531 ?_
  refine ml_cV1 [.int (xs (7 * t + 1)), .int (xs (7 * t + 2))] (RX11, TX11, 32) dL_law_1532 cwX11_riderChoice lkL_215 hm1 rfl rfl rfl rfl hB ⟨Nat.le_of_ble_eq_true rfl, Nat.le_of_ble_eq_true rfl, Nat.le_of_ble_eq_true rfl, (show k + mc + 0 ≤ rmC by omega), (show sl + ms + 0 ≤ rmS by omega)⟩ (fun h2 q2 => ?_)
  obtain ⟨⟨fs2, hm2⟩, P3, hT, hN3⟩ := hN h2 q2
  refine ml_istore (ls' := [(6, _), (5, _), (0, _), (1, _), (2, _), (3, _), (4, _)]) dL_law_1535 (Nat.le_of_ble_eq_true rfl) rfl ?_
  refine ml_aload_n 4 dL_law_1537 rfl ?_
  refine ml_cV1 [] (RX11, TX11, 32) dL_law_1538 cwX11_thrown lkL_142 hm2 rfl rfl rfl rfl hT ⟨Nat.le_of_ble_eq_true rfl, Nat.le_of_ble_eq_true rfl, Nat.le_of_ble_eq_true rfl, (show k + mc + 0 + 0 ≤ rmC by omega), (show sl + ms + 0 + 0 ≤ rmS by omega)⟩ (fun h3 q3 => ?_)
  obtain ⟨ho3, hv, J3⟩ := hN3 h3 q3
  refine ml_iload 1 dL_law_1541 rfl ?_
  refine ml_icmp_eq 1548 dL_law_1543 (by decide) (fun c_1543 => ?_) (fun c_1543 => ?_)
  · refine ml_iload 1 dL_law_1548 rfl ?_
    refine ml_if_ne 1565 dL_law_1550 (by decide) (fun c_1550 => ?_) (fun c_1550 => ?_)
    · refine ml_goto 2603 dL_law_1565 (by decide) ?_
      exact ml_ls [2, 3, 4, 5, 6] rfl (g _ _ _ _ (by omega) (by omega) J3)
    · refine ml_aload_n 5 dL_law_1553 rfl ?_
      refine ml_iconst (v := 0) dL_law_1554 rfl ?_
      refine ml_lald ho3 (show (0 : Int32).toInt = ((0 : Nat) : Int) from rfl) (Nat.zero_lt_one) dL_law_1555 ?_
      refine ml_iload 0 dL_law_1556 rfl ?_
      refine ml_i2l dL_law_1558 rfl ?_
      refine ml_lcmp dL_law_1559 ?_
      refine ml_if_eq 1565 dL_law_1560 (by decide) (fun c_1560 => ?_) (fun c_1560 => ?_)
      · refine ml_goto 2603 dL_law_1565 (by decide) ?_
        exact ml_ls [2, 3, 4, 5, 6] rfl (g _ _ _ _ (by omega) (by omega) J3)
      · exact (c_1560 (lgc_eq.mpr (hv c_1550))).elim
  · exact (c_1543 rfl).elim
set_option maxRecDepth 100000 in
set_option maxHeartbeats 4000000 in
theorem lwc_22 {K : KX} {b c m o t L k sl n : Nat} {xs : Nat → Int32} {h : MH} {J : Nat → MH → Prop} (ht : 7 * t + 6 < L) (hL : L ≤ 3584) (hk : k + 400 ≤ rmC) (hs : sl + 5000 ≤ rmS) (H : StepI K m o mL_driverChoice [.ref c, .int (xs (7 * t + 1)), .int (xs (7 * t + 2)), .ref o] mX11_driverChoice [.ref m, .int (xs (7 * t + 1)), .int (xs (7 * t + 2))] J n h) (g : ∀ k' sl' n' h', k' ≤ k + 100 → sl' ≤ sl + 2000 → J n' h' → GL (lawG K) (XSc K b L xs) k' sl' 2603 (lawL b c m o t) [] n' h') : GL (lawG K) (XSc K b L xs) k sl 1568 (lawL b c m o t) [] n h := by
  obtain ⟨mc, ms, QA, hmc, hms, hW, hA⟩ := H
  refine ml_aload_n 1 dL_law_1568 rfl ?_
  refine ml_aload_n 0 dL_law_1569 rfl ?_
  refine ml_iload 4 dL_law_1570 rfl ?_
  refine ml_iconst (v := 1) dL_law_1572 rfl ?_
  refine ml_iadd dL_law_1573 ?_
  refine ml_sld (j := 7 * t + 1) rfl (sx_i (j := 1) (by omega)) (by omega) dL_law_1574 ?_
  refine ml_aload_n 0 dL_law_1575 rfl ?_
  refine ml_iload 4 dL_law_1576 rfl ?_
  refine ml_iconst (v := 2) dL_law_1578 rfl ?_
  refine ml_iadd dL_law_1579 ?_
  refine ml_sld (j := 7 * t + 2) rfl (sx_i (j := 2) (by omega)) (by omega) dL_law_1580 ?_
  refine ml_aload_n 3 dL_law_1581 rfl ?_
  refine ml_cS [.ref c, .int (xs (7 * t + 1)), .int (xs (7 * t + 2)), .ref o] dL_law_1582 cwL_driverChoice lkL_216 rfl hW ⟨Nat.le_of_ble_eq_true rfl, Nat.le_of_ble_eq_true rfl, Nat.le_of_ble_eq_true rfl, (show k + mc ≤ rmC by omega), (show sl + ms ≤ rmS by omega)⟩ (fun v n1 h1 q => ?_) (fun E n1 h1 q => by obtain ⟨_, _, _, _, e1, _⟩ := hA _ _ _ q; cases e1)
  obtain ⟨k9, f1, b9, P2, e1, ⟨fs1, hm1⟩, hB, hN⟩ := hA _ _ _ q
  cases e1
  show GL _ _ _ _ _ _ [.int k9] _ _
  refine ml_istore (ls' := [(5, _), (0, _), (1, _), (2, _), (3, _), (4, _)]) dL_law_1585 (Nat.le_of_ble_eq_true rfl) rfl ?_
  refine ml_aload_n 3 dL_law_1587 rfl ?_
  refine ml_aload_n 1 dL_law_1588 rfl ?_
  refine ml_iload 5 dL_law_1589 rfl ?_
  refine ml_iconst (v := 1) dL_law_1591 rfl ?_
  refine ml_iadd dL_law_1592 ?_
  refine ml_sld (j := 7 * t + 1) rfl (sx_i (j := 1) (by omega)) (by omega) dL_law_1593 ?_
  refine ml_aload_n 1 dL_law_1594 rfl ?_
  refine ml_iload 5 dL_law_1595 rfl ?_
  refine ml_iconst (v := 2) dL_law_1597 rfl ?_
  refine ml_iadd dL_law_1598 ?_
  refine ml_sld (j := 7 * t + 2) rfl (sx_i (j := 2) (by omega)) (by omega) dL_law_1599 ?_
  refine ml_cV1 [.int (xs (7 * t + 1)), .int (xs (7 * t + 2))] (RX11, TX11, 32) dL_law_1600 cwX11_driverChoice lkL_218 hm1 rfl rfl rfl rfl hB ⟨Nat.le_of_ble_eq_true rfl, Nat.le_of_ble_eq_true rfl, Nat.le_of_ble_eq_true rfl, (show k + mc + 0 ≤ rmC by omega), (show sl + ms + 0 ≤ rmS by omega)⟩ (fun h2 q2 => ?_)
  obtain ⟨⟨fs2, hm2⟩, P3, hT, hN3⟩ := hN h2 q2
  refine ml_istore (ls' := [(6, _), (5, _), (0, _), (1, _), (2, _), (3, _), (4, _)]) dL_law_1603 (Nat.le_of_ble_eq_true rfl) rfl ?_
  refine ml_aload_n 4 dL_law_1605 rfl ?_
  refine ml_cV1 [] (RX11, TX11, 32) dL_law_1606 cwX11_thrown lkL_142 hm2 rfl rfl rfl rfl hT ⟨Nat.le_of_ble_eq_true rfl, Nat.le_of_ble_eq_true rfl, Nat.le_of_ble_eq_true rfl, (show k + mc + 0 + 0 ≤ rmC by omega), (show sl + ms + 0 + 0 ≤ rmS by omega)⟩ (fun h3 q3 => ?_)
  obtain ⟨ho3, hv, J3⟩ := hN3 h3 q3
  refine ml_iload 1 dL_law_1609 rfl ?_
  refine ml_icmp_eq 1616 dL_law_1611 (by decide) (fun c_1611 => ?_) (fun c_1611 => ?_)
  · refine ml_iload 1 dL_law_1616 rfl ?_
    refine ml_if_ne 1633 dL_law_1618 (by decide) (fun c_1618 => ?_) (fun c_1618 => ?_)
    · refine ml_goto 2603 dL_law_1633 (by decide) ?_
      exact ml_ls [2, 3, 4, 5, 6] rfl (g _ _ _ _ (by omega) (by omega) J3)
    · refine ml_aload_n 5 dL_law_1621 rfl ?_
      refine ml_iconst (v := 0) dL_law_1622 rfl ?_
      refine ml_lald ho3 (show (0 : Int32).toInt = ((0 : Nat) : Int) from rfl) (Nat.zero_lt_one) dL_law_1623 ?_
      refine ml_iload 0 dL_law_1624 rfl ?_
      refine ml_i2l dL_law_1626 rfl ?_
      refine ml_lcmp dL_law_1627 ?_
      refine ml_if_eq 1633 dL_law_1628 (by decide) (fun c_1628 => ?_) (fun c_1628 => ?_)
      · refine ml_goto 2603 dL_law_1633 (by decide) ?_
        exact ml_ls [2, 3, 4, 5, 6] rfl (g _ _ _ _ (by omega) (by omega) J3)
      · exact (c_1628 (lgc_eq.mpr (hv c_1618))).elim
  · exact (c_1611 rfl).elim
set_option maxRecDepth 100000 in
set_option maxHeartbeats 4000000 in
theorem lwc_23 {K : KX} {b c m o t L k sl n : Nat} {xs : Nat → Int32} {h : MH} {J : Nat → MH → Prop} (ht : 7 * t + 6 < L) (hL : L ≤ 3584) (hk : k + 400 ≤ rmC) (hs : sl + 5000 ≤ rmS) (H : StepD K c m mX10_blockingPairs [.ref c] mX11_blockingPairs [.ref m] J n h) (g : ∀ k' sl' n' h', k' ≤ k + 100 → sl' ≤ sl + 2000 → J n' h' → GL (lawG K) (XSc K b L xs) k' sl' 2603 (lawL b c m o t) [] n' h') : GL (lawG K) (XSc K b L xs) k sl 1636 (lawL b c m o t) [] n h := by
  obtain ⟨mc, ms, v9, n1, P1, hmc, hms, ⟨fs0, hc1⟩, hW, hA⟩ := H
  refine ml_aload_n 1 dL_law_1636 rfl ?_
  refine ml_cV1 [] (RX10, TX10, 9) dL_law_1637 cwX10_blockingPairs lkL_219 hc1 rfl rfl rfl rfl hW ⟨Nat.le_of_ble_eq_true rfl, Nat.le_of_ble_eq_true rfl, Nat.le_of_ble_eq_true rfl, (show k + mc ≤ rmC by omega), (show sl + ms ≤ rmS by omega)⟩ (fun h1 q => ?_)
  obtain ⟨⟨fs1, hm1⟩, P2, hB, hN⟩ := hA h1 q
  refine ml_aload_n 2 dL_law_1640 rfl ?_
  refine ml_cV1 [] (RX11, TX11, 32) dL_law_1641 cwX11_blockingPairs lkL_222 hm1 rfl rfl rfl rfl hB ⟨Nat.le_of_ble_eq_true rfl, Nat.le_of_ble_eq_true rfl, Nat.le_of_ble_eq_true rfl, (show k + mc + 0 ≤ rmC by omega), (show sl + ms + 0 ≤ rmS by omega)⟩ (fun h2 q2 => ?_)
  have J3 := hN h2 q2
  refine ml_icmp_eq 2603 dL_law_1644 (by decide) (fun c_1644 => ?_) (fun c_1644 => ?_)
  · exact ml_ls [0, 1, 2, 3, 4] rfl (g _ _ _ _ (by omega) (by omega) J3)
  · exact (c_1644 rfl).elim
set_option maxRecDepth 100000 in
set_option maxHeartbeats 4000000 in
theorem lwc_24 {K : KX} {b c m o t L k sl n : Nat} {xs : Nat → Int32} {h : MH} {J : Nat → MH → Prop} (ht : 7 * t + 6 < L) (hL : L ≤ 3584) (hk : k + 400 ≤ rmC) (hs : sl + 5000 ≤ rmS) (H : StepI K m o mL_noShow [.ref c, .int (xs (7 * t + 1)), .ref o] mX11_noShow [.ref m, .int (xs (7 * t + 1))] J n h) (g : ∀ k' sl' n' h', k' ≤ k + 100 → sl' ≤ sl + 2000 → J n' h' → GL (lawG K) (XSc K b L xs) k' sl' 2603 (lawL b c m o t) [] n' h') : GL (lawG K) (XSc K b L xs) k sl 1649 (lawL b c m o t) [] n h := by
  obtain ⟨mc, ms, QA, hmc, hms, hW, hA⟩ := H
  refine ml_aload_n 1 dL_law_1649 rfl ?_
  refine ml_aload_n 0 dL_law_1650 rfl ?_
  refine ml_iload 4 dL_law_1651 rfl ?_
  refine ml_iconst (v := 1) dL_law_1653 rfl ?_
  refine ml_iadd dL_law_1654 ?_
  refine ml_sld (j := 7 * t + 1) rfl (sx_i (j := 1) (by omega)) (by omega) dL_law_1655 ?_
  refine ml_aload_n 3 dL_law_1656 rfl ?_
  refine ml_cS [.ref c, .int (xs (7 * t + 1)), .ref o] dL_law_1657 cwL_noShow lkL_223 rfl hW ⟨Nat.le_of_ble_eq_true rfl, Nat.le_of_ble_eq_true rfl, Nat.le_of_ble_eq_true rfl, (show k + mc ≤ rmC by omega), (show sl + ms ≤ rmS by omega)⟩ (fun v n1 h1 q => ?_) (fun E n1 h1 q => by obtain ⟨_, _, _, _, e1, _⟩ := hA _ _ _ q; cases e1)
  obtain ⟨k9, f1, b9, P2, e1, ⟨fs1, hm1⟩, hB, hN⟩ := hA _ _ _ q
  cases e1
  show GL _ _ _ _ _ _ [.int k9] _ _
  refine ml_istore (ls' := [(5, _), (0, _), (1, _), (2, _), (3, _), (4, _)]) dL_law_1660 (Nat.le_of_ble_eq_true rfl) rfl ?_
  refine ml_aload_n 3 dL_law_1662 rfl ?_
  refine ml_aload_n 1 dL_law_1663 rfl ?_
  refine ml_iload 5 dL_law_1664 rfl ?_
  refine ml_iconst (v := 1) dL_law_1666 rfl ?_
  refine ml_iadd dL_law_1667 ?_
  refine ml_sld (j := 7 * t + 1) rfl (sx_i (j := 1) (by omega)) (by omega) dL_law_1668 ?_
  refine ml_cV1 [.int (xs (7 * t + 1))] (RX11, TX11, 32) dL_law_1669 cwX11_noShow lkL_225 hm1 rfl rfl rfl rfl hB ⟨Nat.le_of_ble_eq_true rfl, Nat.le_of_ble_eq_true rfl, Nat.le_of_ble_eq_true rfl, (show k + mc + 0 ≤ rmC by omega), (show sl + ms + 0 ≤ rmS by omega)⟩ (fun h2 q2 => ?_)
  obtain ⟨⟨fs2, hm2⟩, P3, hT, hN3⟩ := hN h2 q2
  refine ml_istore (ls' := [(6, _), (5, _), (0, _), (1, _), (2, _), (3, _), (4, _)]) dL_law_1672 (Nat.le_of_ble_eq_true rfl) rfl ?_
  refine ml_aload_n 4 dL_law_1674 rfl ?_
  refine ml_cV1 [] (RX11, TX11, 32) dL_law_1675 cwX11_thrown lkL_142 hm2 rfl rfl rfl rfl hT ⟨Nat.le_of_ble_eq_true rfl, Nat.le_of_ble_eq_true rfl, Nat.le_of_ble_eq_true rfl, (show k + mc + 0 + 0 ≤ rmC by omega), (show sl + ms + 0 + 0 ≤ rmS by omega)⟩ (fun h3 q3 => ?_)
  obtain ⟨ho3, hv, J3⟩ := hN3 h3 q3
  refine ml_iload 1 dL_law_1678 rfl ?_
  refine ml_icmp_eq 1685 dL_law_1680 (by decide) (fun c_1680 => ?_) (fun c_1680 => ?_)
  · refine ml_iload 1 dL_law_1685 rfl ?_
    refine ml_if_ne 1702 dL_law_1687 (by decide) (fun c_1687 => ?_) (fun c_1687 => ?_)
    · refine ml_goto 2603 dL_law_1702 (by decide) ?_
      exact ml_ls [2, 3, 4, 5, 6] rfl (g _ _ _ _ (by omega) (by omega) J3)
    · refine ml_aload_n 5 dL_law_1690 rfl ?_
      refine ml_iconst (v := 0) dL_law_1691 rfl ?_
      refine ml_lald ho3 (show (0 : Int32).toInt = ((0 : Nat) : Int) from rfl) (Nat.zero_lt_one) dL_law_1692 ?_
      refine ml_iload 0 dL_law_1693 rfl ?_
      refine ml_i2l dL_law_1695 rfl ?_
      refine ml_lcmp dL_law_1696 ?_
      refine ml_if_eq 1702 dL_law_1697 (by decide) (fun c_1697 => ?_) (fun c_1697 => ?_)
      · refine ml_goto 2603 dL_law_1702 (by decide) ?_
        exact ml_ls [2, 3, 4, 5, 6] rfl (g _ _ _ _ (by omega) (by omega) J3)
      · exact (c_1697 (lgc_eq.mpr (hv c_1687))).elim
  · exact (c_1680 rfl).elim
set_option maxRecDepth 100000 in
set_option maxHeartbeats 4000000 in
theorem lwc_25 {K : KX} {b c m o t L k sl n : Nat} {xs : Nat → Int32} {h : MH} {J : Nat → MH → Prop} (ht : 7 * t + 6 < L) (hL : L ≤ 3584) (hk : k + 400 ≤ rmC) (hs : sl + 5000 ≤ rmS) (H : StepJ K m o mL_comeBack [.ref c, .int (xs (7 * t + 1)), .ref o] mX11_comeBack [.ref m, .int (xs (7 * t + 1))] J n h) (g : ∀ k' sl' n' h', k' ≤ k + 100 → sl' ≤ sl + 2000 → J n' h' → GL (lawG K) (XSc K b L xs) k' sl' 2603 (lawL b c m o t) [] n' h') : GL (lawG K) (XSc K b L xs) k sl 1705 (lawL b c m o t) [] n h := by
  obtain ⟨mc, ms, QA, hmc, hms, hW, hA⟩ := H
  refine ml_aload_n 1 dL_law_1705 rfl ?_
  refine ml_aload_n 0 dL_law_1706 rfl ?_
  refine ml_iload 4 dL_law_1707 rfl ?_
  refine ml_iconst (v := 1) dL_law_1709 rfl ?_
  refine ml_iadd dL_law_1710 ?_
  refine ml_sld (j := 7 * t + 1) rfl (sx_i (j := 1) (by omega)) (by omega) dL_law_1711 ?_
  refine ml_aload_n 3 dL_law_1712 rfl ?_
  refine ml_cS [.ref c, .int (xs (7 * t + 1)), .ref o] dL_law_1713 cwL_comeBack lkL_226 rfl hW ⟨Nat.le_of_ble_eq_true rfl, Nat.le_of_ble_eq_true rfl, Nat.le_of_ble_eq_true rfl, (show k + mc ≤ rmC by omega), (show sl + ms ≤ rmS by omega)⟩ (fun v n1 h1 q => ?_) (fun E n1 h1 q => by obtain ⟨_, _, _, _, e1, _⟩ := hA _ _ _ q; cases e1)
  obtain ⟨k9, f1, b9, P2, e1, ⟨fs1, hm1⟩, hB, hN⟩ := hA _ _ _ q
  cases e1
  show GL _ _ _ _ _ _ [.int k9] _ _
  refine ml_istore (ls' := [(5, _), (0, _), (1, _), (2, _), (3, _), (4, _)]) dL_law_1716 (Nat.le_of_ble_eq_true rfl) rfl ?_
  refine ml_aload_n 3 dL_law_1718 rfl ?_
  refine ml_aload_n 1 dL_law_1719 rfl ?_
  refine ml_iload 5 dL_law_1720 rfl ?_
  refine ml_iconst (v := 1) dL_law_1722 rfl ?_
  refine ml_iadd dL_law_1723 ?_
  refine ml_sld (j := 7 * t + 1) rfl (sx_i (j := 1) (by omega)) (by omega) dL_law_1724 ?_
  refine ml_cV1 [.int (xs (7 * t + 1))] (RX11, TX11, 32) dL_law_1725 cwX11_comeBack lkL_228 hm1 rfl rfl rfl rfl hB ⟨Nat.le_of_ble_eq_true rfl, Nat.le_of_ble_eq_true rfl, Nat.le_of_ble_eq_true rfl, (show k + mc + 0 ≤ rmC by omega), (show sl + ms + 0 ≤ rmS by omega)⟩ (fun h2 q2 => ?_)
  obtain ⟨⟨fs2, hm2⟩, P3, hT, hN3⟩ := hN h2 q2
  refine ml_lstore (ls' := [(6, _), (5, _), (0, _), (1, _), (2, _), (3, _), (4, _)]) dL_law_1728 (Nat.le_of_ble_eq_true rfl) rfl ?_
  refine ml_aload_n 4 dL_law_1730 rfl ?_
  refine ml_cV1 [] (RX11, TX11, 32) dL_law_1731 cwX11_thrown lkL_142 hm2 rfl rfl rfl rfl hT ⟨Nat.le_of_ble_eq_true rfl, Nat.le_of_ble_eq_true rfl, Nat.le_of_ble_eq_true rfl, (show k + mc + 0 + 0 ≤ rmC by omega), (show sl + ms + 0 + 0 ≤ rmS by omega)⟩ (fun h3 q3 => ?_)
  obtain ⟨ho3, hv, J3⟩ := hN3 h3 q3
  refine ml_iload 1 dL_law_1734 rfl ?_
  refine ml_icmp_eq 1741 dL_law_1736 (by decide) (fun c_1736 => ?_) (fun c_1736 => ?_)
  · refine ml_iload 1 dL_law_1741 rfl ?_
    refine ml_if_ne 1757 dL_law_1743 (by decide) (fun c_1743 => ?_) (fun c_1743 => ?_)
    · refine ml_goto 2603 dL_law_1757 (by decide) ?_
      exact ml_ls [2, 3, 4, 5, 6] rfl (g _ _ _ _ (by omega) (by omega) J3)
    · refine ml_aload_n 5 dL_law_1746 rfl ?_
      refine ml_iconst (v := 0) dL_law_1747 rfl ?_
      refine ml_lald ho3 (show (0 : Int32).toInt = ((0 : Nat) : Int) from rfl) (Nat.zero_lt_one) dL_law_1748 ?_
      refine ml_lload 0 dL_law_1749 rfl ?_
      refine ml_lcmp dL_law_1751 ?_
      refine ml_if_eq 1757 dL_law_1752 (by decide) (fun c_1752 => ?_) (fun c_1752 => ?_)
      · refine ml_goto 2603 dL_law_1757 (by decide) ?_
        exact ml_ls [2, 3, 4, 5, 6] rfl (g _ _ _ _ (by omega) (by omega) J3)
      · exact (c_1752 (lgc_eq.mpr (hv c_1743))).elim
  · exact (c_1736 rfl).elim
set_option maxRecDepth 100000 in
set_option maxHeartbeats 4000000 in
theorem lwc_26 {K : KX} {b c m o t L k sl n : Nat} {xs : Nat → Int32} {h : MH} {J : Nat → MH → Prop} (ht : 7 * t + 6 < L) (hL : L ≤ 3584) (hk : k + 400 ≤ rmC) (hs : sl + 5000 ≤ rmS) (H : StepI K m o mL_replacement [.ref c, .int (xs (7 * t + 1)), .ref o] mX11_replacement [.ref m, .int (xs (7 * t + 1))] J n h) (g : ∀ k' sl' n' h', k' ≤ k + 100 → sl' ≤ sl + 2000 → J n' h' → GL (lawG K) (XSc K b L xs) k' sl' 2603 (lawL b c m o t) [] n' h') : GL (lawG K) (XSc K b L xs) k sl 1760 (lawL b c m o t) [] n h := by
  obtain ⟨mc, ms, QA, hmc, hms, hW, hA⟩ := H
  refine ml_aload_n 1 dL_law_1760 rfl ?_
  refine ml_aload_n 0 dL_law_1761 rfl ?_
  refine ml_iload 4 dL_law_1762 rfl ?_
  refine ml_iconst (v := 1) dL_law_1764 rfl ?_
  refine ml_iadd dL_law_1765 ?_
  refine ml_sld (j := 7 * t + 1) rfl (sx_i (j := 1) (by omega)) (by omega) dL_law_1766 ?_
  refine ml_aload_n 3 dL_law_1767 rfl ?_
  refine ml_cS [.ref c, .int (xs (7 * t + 1)), .ref o] dL_law_1768 cwL_replacement lkL_229 rfl hW ⟨Nat.le_of_ble_eq_true rfl, Nat.le_of_ble_eq_true rfl, Nat.le_of_ble_eq_true rfl, (show k + mc ≤ rmC by omega), (show sl + ms ≤ rmS by omega)⟩ (fun v n1 h1 q => ?_) (fun E n1 h1 q => by obtain ⟨_, _, _, _, e1, _⟩ := hA _ _ _ q; cases e1)
  obtain ⟨k9, f1, b9, P2, e1, ⟨fs1, hm1⟩, hB, hN⟩ := hA _ _ _ q
  cases e1
  show GL _ _ _ _ _ _ [.int k9] _ _
  refine ml_istore (ls' := [(5, _), (0, _), (1, _), (2, _), (3, _), (4, _)]) dL_law_1771 (Nat.le_of_ble_eq_true rfl) rfl ?_
  refine ml_aload_n 3 dL_law_1773 rfl ?_
  refine ml_aload_n 1 dL_law_1774 rfl ?_
  refine ml_iload 5 dL_law_1775 rfl ?_
  refine ml_iconst (v := 1) dL_law_1777 rfl ?_
  refine ml_iadd dL_law_1778 ?_
  refine ml_sld (j := 7 * t + 1) rfl (sx_i (j := 1) (by omega)) (by omega) dL_law_1779 ?_
  refine ml_cV1 [.int (xs (7 * t + 1))] (RX11, TX11, 32) dL_law_1780 cwX11_replacement lkL_231 hm1 rfl rfl rfl rfl hB ⟨Nat.le_of_ble_eq_true rfl, Nat.le_of_ble_eq_true rfl, Nat.le_of_ble_eq_true rfl, (show k + mc + 0 ≤ rmC by omega), (show sl + ms + 0 ≤ rmS by omega)⟩ (fun h2 q2 => ?_)
  obtain ⟨⟨fs2, hm2⟩, P3, hT, hN3⟩ := hN h2 q2
  refine ml_istore (ls' := [(6, _), (5, _), (0, _), (1, _), (2, _), (3, _), (4, _)]) dL_law_1783 (Nat.le_of_ble_eq_true rfl) rfl ?_
  refine ml_aload_n 4 dL_law_1785 rfl ?_
  refine ml_cV1 [] (RX11, TX11, 32) dL_law_1786 cwX11_thrown lkL_142 hm2 rfl rfl rfl rfl hT ⟨Nat.le_of_ble_eq_true rfl, Nat.le_of_ble_eq_true rfl, Nat.le_of_ble_eq_true rfl, (show k + mc + 0 + 0 ≤ rmC by omega), (show sl + ms + 0 + 0 ≤ rmS by omega)⟩ (fun h3 q3 => ?_)
  obtain ⟨ho3, hv, J3⟩ := hN3 h3 q3
  refine ml_iload 1 dL_law_1789 rfl ?_
  refine ml_icmp_eq 1796 dL_law_1791 (by decide) (fun c_1791 => ?_) (fun c_1791 => ?_)
  · refine ml_iload 1 dL_law_1796 rfl ?_
    refine ml_if_ne 1813 dL_law_1798 (by decide) (fun c_1798 => ?_) (fun c_1798 => ?_)
    · refine ml_goto 2603 dL_law_1813 (by decide) ?_
      exact ml_ls [2, 3, 4, 5, 6] rfl (g _ _ _ _ (by omega) (by omega) J3)
    · refine ml_aload_n 5 dL_law_1801 rfl ?_
      refine ml_iconst (v := 0) dL_law_1802 rfl ?_
      refine ml_lald ho3 (show (0 : Int32).toInt = ((0 : Nat) : Int) from rfl) (Nat.zero_lt_one) dL_law_1803 ?_
      refine ml_iload 0 dL_law_1804 rfl ?_
      refine ml_i2l dL_law_1806 rfl ?_
      refine ml_lcmp dL_law_1807 ?_
      refine ml_if_eq 1813 dL_law_1808 (by decide) (fun c_1808 => ?_) (fun c_1808 => ?_)
      · refine ml_goto 2603 dL_law_1813 (by decide) ?_
        exact ml_ls [2, 3, 4, 5, 6] rfl (g _ _ _ _ (by omega) (by omega) J3)
      · exact (c_1808 (lgc_eq.mpr (hv c_1798))).elim
  · exact (c_1791 rfl).elim
set_option maxRecDepth 100000 in
set_option maxHeartbeats 4000000 in
theorem lwc_27 {K : KX} {b c m o t L k sl n : Nat} {xs : Nat → Int32} {h : MH} {J : Nat → MH → Prop} (ht : 7 * t + 6 < L) (hL : L ≤ 3584) (hk : k + 400 ≤ rmC) (hs : sl + 5000 ≤ rmS) (H : StepI K m o mL_fill [.ref c, .int (xs (7 * t + 1)), .ref o] mX11_fill [.ref m, .int (xs (7 * t + 1))] J n h) (g : ∀ k' sl' n' h', k' ≤ k + 100 → sl' ≤ sl + 2000 → J n' h' → GL (lawG K) (XSc K b L xs) k' sl' 2603 (lawL b c m o t) [] n' h') : GL (lawG K) (XSc K b L xs) k sl 1816 (lawL b c m o t) [] n h := by
  obtain ⟨mc, ms, QA, hmc, hms, hW, hA⟩ := H
  refine ml_aload_n 1 dL_law_1816 rfl ?_
  refine ml_aload_n 0 dL_law_1817 rfl ?_
  refine ml_iload 4 dL_law_1818 rfl ?_
  refine ml_iconst (v := 1) dL_law_1820 rfl ?_
  refine ml_iadd dL_law_1821 ?_
  refine ml_sld (j := 7 * t + 1) rfl (sx_i (j := 1) (by omega)) (by omega) dL_law_1822 ?_
  refine ml_aload_n 3 dL_law_1823 rfl ?_
  refine ml_cS [.ref c, .int (xs (7 * t + 1)), .ref o] dL_law_1824 cwL_fill lkL_232 rfl hW ⟨Nat.le_of_ble_eq_true rfl, Nat.le_of_ble_eq_true rfl, Nat.le_of_ble_eq_true rfl, (show k + mc ≤ rmC by omega), (show sl + ms ≤ rmS by omega)⟩ (fun v n1 h1 q => ?_) (fun E n1 h1 q => by obtain ⟨_, _, _, _, e1, _⟩ := hA _ _ _ q; cases e1)
  obtain ⟨k9, f1, b9, P2, e1, ⟨fs1, hm1⟩, hB, hN⟩ := hA _ _ _ q
  cases e1
  show GL _ _ _ _ _ _ [.int k9] _ _
  refine ml_istore (ls' := [(5, _), (0, _), (1, _), (2, _), (3, _), (4, _)]) dL_law_1827 (Nat.le_of_ble_eq_true rfl) rfl ?_
  refine ml_aload_n 3 dL_law_1829 rfl ?_
  refine ml_aload_n 1 dL_law_1830 rfl ?_
  refine ml_iload 5 dL_law_1831 rfl ?_
  refine ml_iconst (v := 1) dL_law_1833 rfl ?_
  refine ml_iadd dL_law_1834 ?_
  refine ml_sld (j := 7 * t + 1) rfl (sx_i (j := 1) (by omega)) (by omega) dL_law_1835 ?_
  refine ml_cV1 [.int (xs (7 * t + 1))] (RX11, TX11, 32) dL_law_1836 cwX11_fill lkL_234 hm1 rfl rfl rfl rfl hB ⟨Nat.le_of_ble_eq_true rfl, Nat.le_of_ble_eq_true rfl, Nat.le_of_ble_eq_true rfl, (show k + mc + 0 ≤ rmC by omega), (show sl + ms + 0 ≤ rmS by omega)⟩ (fun h2 q2 => ?_)
  obtain ⟨⟨fs2, hm2⟩, P3, hT, hN3⟩ := hN h2 q2
  refine ml_istore (ls' := [(6, _), (5, _), (0, _), (1, _), (2, _), (3, _), (4, _)]) dL_law_1839 (Nat.le_of_ble_eq_true rfl) rfl ?_
  refine ml_aload_n 4 dL_law_1841 rfl ?_
  refine ml_cV1 [] (RX11, TX11, 32) dL_law_1842 cwX11_thrown lkL_142 hm2 rfl rfl rfl rfl hT ⟨Nat.le_of_ble_eq_true rfl, Nat.le_of_ble_eq_true rfl, Nat.le_of_ble_eq_true rfl, (show k + mc + 0 + 0 ≤ rmC by omega), (show sl + ms + 0 + 0 ≤ rmS by omega)⟩ (fun h3 q3 => ?_)
  obtain ⟨ho3, hv, J3⟩ := hN3 h3 q3
  refine ml_iload 1 dL_law_1845 rfl ?_
  refine ml_icmp_eq 1852 dL_law_1847 (by decide) (fun c_1847 => ?_) (fun c_1847 => ?_)
  · refine ml_iload 1 dL_law_1852 rfl ?_
    refine ml_if_ne 1869 dL_law_1854 (by decide) (fun c_1854 => ?_) (fun c_1854 => ?_)
    · refine ml_goto 2603 dL_law_1869 (by decide) ?_
      exact ml_ls [2, 3, 4, 5, 6] rfl (g _ _ _ _ (by omega) (by omega) J3)
    · refine ml_aload_n 5 dL_law_1857 rfl ?_
      refine ml_iconst (v := 0) dL_law_1858 rfl ?_
      refine ml_lald ho3 (show (0 : Int32).toInt = ((0 : Nat) : Int) from rfl) (Nat.zero_lt_one) dL_law_1859 ?_
      refine ml_iload 0 dL_law_1860 rfl ?_
      refine ml_i2l dL_law_1862 rfl ?_
      refine ml_lcmp dL_law_1863 ?_
      refine ml_if_eq 1869 dL_law_1864 (by decide) (fun c_1864 => ?_) (fun c_1864 => ?_)
      · refine ml_goto 2603 dL_law_1869 (by decide) ?_
        exact ml_ls [2, 3, 4, 5, 6] rfl (g _ _ _ _ (by omega) (by omega) J3)
      · exact (c_1864 (lgc_eq.mpr (hv c_1854))).elim
  · exact (c_1847 rfl).elim
set_option maxRecDepth 100000 in
set_option maxHeartbeats 4000000 in
theorem lwc_28 {K : KX} {b c m o t L k sl n : Nat} {xs : Nat → Int32} {h : MH} {J : Nat → MH → Prop} (ht : 7 * t + 6 < L) (hL : L ≤ 3584) (hk : k + 400 ≤ rmC) (hs : sl + 5000 ≤ rmS) (H : StepI K m o mL_tripCost [.ref c, .int (xs (7 * t + 1)), .ref o] mX11_tripCost [.ref m, .int (xs (7 * t + 1))] J n h) (g : ∀ k' sl' n' h', k' ≤ k + 100 → sl' ≤ sl + 2000 → J n' h' → GL (lawG K) (XSc K b L xs) k' sl' 2603 (lawL b c m o t) [] n' h') : GL (lawG K) (XSc K b L xs) k sl 1872 (lawL b c m o t) [] n h := by
  obtain ⟨mc, ms, QA, hmc, hms, hW, hA⟩ := H
  refine ml_aload_n 1 dL_law_1872 rfl ?_
  refine ml_aload_n 0 dL_law_1873 rfl ?_
  refine ml_iload 4 dL_law_1874 rfl ?_
  refine ml_iconst (v := 1) dL_law_1876 rfl ?_
  refine ml_iadd dL_law_1877 ?_
  refine ml_sld (j := 7 * t + 1) rfl (sx_i (j := 1) (by omega)) (by omega) dL_law_1878 ?_
  refine ml_aload_n 3 dL_law_1879 rfl ?_
  refine ml_cS [.ref c, .int (xs (7 * t + 1)), .ref o] dL_law_1880 cwL_tripCost lkL_235 rfl hW ⟨Nat.le_of_ble_eq_true rfl, Nat.le_of_ble_eq_true rfl, Nat.le_of_ble_eq_true rfl, (show k + mc ≤ rmC by omega), (show sl + ms ≤ rmS by omega)⟩ (fun v n1 h1 q => ?_) (fun E n1 h1 q => by obtain ⟨_, _, _, _, e1, _⟩ := hA _ _ _ q; cases e1)
  obtain ⟨k9, f1, b9, P2, e1, ⟨fs1, hm1⟩, hB, hN⟩ := hA _ _ _ q
  cases e1
  show GL _ _ _ _ _ _ [.int k9] _ _
  refine ml_istore (ls' := [(5, _), (0, _), (1, _), (2, _), (3, _), (4, _)]) dL_law_1883 (Nat.le_of_ble_eq_true rfl) rfl ?_
  refine ml_aload_n 3 dL_law_1885 rfl ?_
  refine ml_aload_n 1 dL_law_1886 rfl ?_
  refine ml_iload 5 dL_law_1887 rfl ?_
  refine ml_iconst (v := 1) dL_law_1889 rfl ?_
  refine ml_iadd dL_law_1890 ?_
  refine ml_sld (j := 7 * t + 1) rfl (sx_i (j := 1) (by omega)) (by omega) dL_law_1891 ?_
  refine ml_cV1 [.int (xs (7 * t + 1))] (RX11, TX11, 32) dL_law_1892 cwX11_tripCost lkL_237 hm1 rfl rfl rfl rfl hB ⟨Nat.le_of_ble_eq_true rfl, Nat.le_of_ble_eq_true rfl, Nat.le_of_ble_eq_true rfl, (show k + mc + 0 ≤ rmC by omega), (show sl + ms + 0 ≤ rmS by omega)⟩ (fun h2 q2 => ?_)
  obtain ⟨⟨fs2, hm2⟩, P3, hT, hN3⟩ := hN h2 q2
  refine ml_istore (ls' := [(6, _), (5, _), (0, _), (1, _), (2, _), (3, _), (4, _)]) dL_law_1895 (Nat.le_of_ble_eq_true rfl) rfl ?_
  refine ml_aload_n 4 dL_law_1897 rfl ?_
  refine ml_cV1 [] (RX11, TX11, 32) dL_law_1898 cwX11_thrown lkL_142 hm2 rfl rfl rfl rfl hT ⟨Nat.le_of_ble_eq_true rfl, Nat.le_of_ble_eq_true rfl, Nat.le_of_ble_eq_true rfl, (show k + mc + 0 + 0 ≤ rmC by omega), (show sl + ms + 0 + 0 ≤ rmS by omega)⟩ (fun h3 q3 => ?_)
  obtain ⟨ho3, hv, J3⟩ := hN3 h3 q3
  refine ml_iload 1 dL_law_1901 rfl ?_
  refine ml_icmp_eq 1908 dL_law_1903 (by decide) (fun c_1903 => ?_) (fun c_1903 => ?_)
  · refine ml_iload 1 dL_law_1908 rfl ?_
    refine ml_if_ne 1925 dL_law_1910 (by decide) (fun c_1910 => ?_) (fun c_1910 => ?_)
    · refine ml_goto 2603 dL_law_1925 (by decide) ?_
      exact ml_ls [2, 3, 4, 5, 6] rfl (g _ _ _ _ (by omega) (by omega) J3)
    · refine ml_aload_n 5 dL_law_1913 rfl ?_
      refine ml_iconst (v := 0) dL_law_1914 rfl ?_
      refine ml_lald ho3 (show (0 : Int32).toInt = ((0 : Nat) : Int) from rfl) (Nat.zero_lt_one) dL_law_1915 ?_
      refine ml_iload 0 dL_law_1916 rfl ?_
      refine ml_i2l dL_law_1918 rfl ?_
      refine ml_lcmp dL_law_1919 ?_
      refine ml_if_eq 1925 dL_law_1920 (by decide) (fun c_1920 => ?_) (fun c_1920 => ?_)
      · refine ml_goto 2603 dL_law_1925 (by decide) ?_
        exact ml_ls [2, 3, 4, 5, 6] rfl (g _ _ _ _ (by omega) (by omega) J3)
      · exact (c_1920 (lgc_eq.mpr (hv c_1910))).elim
  · exact (c_1903 rfl).elim
set_option maxRecDepth 100000 in
set_option maxHeartbeats 4000000 in
theorem lwc_29 {K : KX} {b c m o t L k sl n : Nat} {xs : Nat → Int32} {h : MH} {J : Nat → MH → Prop} (ht : 7 * t + 6 < L) (hL : L ≤ 3584) (hk : k + 400 ≤ rmC) (hs : sl + 5000 ≤ rmS) (H : StepI K m o mL_marginal [.ref c, .int (xs (7 * t + 1)), .ref o] mX11_marginal [.ref m, .int (xs (7 * t + 1))] J n h) (g : ∀ k' sl' n' h', k' ≤ k + 100 → sl' ≤ sl + 2000 → J n' h' → GL (lawG K) (XSc K b L xs) k' sl' 2603 (lawL b c m o t) [] n' h') : GL (lawG K) (XSc K b L xs) k sl 1928 (lawL b c m o t) [] n h := by
  obtain ⟨mc, ms, QA, hmc, hms, hW, hA⟩ := H
  refine ml_aload_n 1 dL_law_1928 rfl ?_
  refine ml_aload_n 0 dL_law_1929 rfl ?_
  refine ml_iload 4 dL_law_1930 rfl ?_
  refine ml_iconst (v := 1) dL_law_1932 rfl ?_
  refine ml_iadd dL_law_1933 ?_
  refine ml_sld (j := 7 * t + 1) rfl (sx_i (j := 1) (by omega)) (by omega) dL_law_1934 ?_
  refine ml_aload_n 3 dL_law_1935 rfl ?_
  refine ml_cS [.ref c, .int (xs (7 * t + 1)), .ref o] dL_law_1936 cwL_marginal lkL_238 rfl hW ⟨Nat.le_of_ble_eq_true rfl, Nat.le_of_ble_eq_true rfl, Nat.le_of_ble_eq_true rfl, (show k + mc ≤ rmC by omega), (show sl + ms ≤ rmS by omega)⟩ (fun v n1 h1 q => ?_) (fun E n1 h1 q => by obtain ⟨_, _, _, _, e1, _⟩ := hA _ _ _ q; cases e1)
  obtain ⟨k9, f1, b9, P2, e1, ⟨fs1, hm1⟩, hB, hN⟩ := hA _ _ _ q
  cases e1
  show GL _ _ _ _ _ _ [.int k9] _ _
  refine ml_istore (ls' := [(5, _), (0, _), (1, _), (2, _), (3, _), (4, _)]) dL_law_1939 (Nat.le_of_ble_eq_true rfl) rfl ?_
  refine ml_aload_n 3 dL_law_1941 rfl ?_
  refine ml_aload_n 1 dL_law_1942 rfl ?_
  refine ml_iload 5 dL_law_1943 rfl ?_
  refine ml_iconst (v := 1) dL_law_1945 rfl ?_
  refine ml_iadd dL_law_1946 ?_
  refine ml_sld (j := 7 * t + 1) rfl (sx_i (j := 1) (by omega)) (by omega) dL_law_1947 ?_
  refine ml_cV1 [.int (xs (7 * t + 1))] (RX11, TX11, 32) dL_law_1948 cwX11_marginal lkL_240 hm1 rfl rfl rfl rfl hB ⟨Nat.le_of_ble_eq_true rfl, Nat.le_of_ble_eq_true rfl, Nat.le_of_ble_eq_true rfl, (show k + mc + 0 ≤ rmC by omega), (show sl + ms + 0 ≤ rmS by omega)⟩ (fun h2 q2 => ?_)
  obtain ⟨⟨fs2, hm2⟩, P3, hT, hN3⟩ := hN h2 q2
  refine ml_istore (ls' := [(6, _), (5, _), (0, _), (1, _), (2, _), (3, _), (4, _)]) dL_law_1951 (Nat.le_of_ble_eq_true rfl) rfl ?_
  refine ml_aload_n 4 dL_law_1953 rfl ?_
  refine ml_cV1 [] (RX11, TX11, 32) dL_law_1954 cwX11_thrown lkL_142 hm2 rfl rfl rfl rfl hT ⟨Nat.le_of_ble_eq_true rfl, Nat.le_of_ble_eq_true rfl, Nat.le_of_ble_eq_true rfl, (show k + mc + 0 + 0 ≤ rmC by omega), (show sl + ms + 0 + 0 ≤ rmS by omega)⟩ (fun h3 q3 => ?_)
  obtain ⟨ho3, hv, J3⟩ := hN3 h3 q3
  refine ml_iload 1 dL_law_1957 rfl ?_
  refine ml_icmp_eq 1964 dL_law_1959 (by decide) (fun c_1959 => ?_) (fun c_1959 => ?_)
  · refine ml_iload 1 dL_law_1964 rfl ?_
    refine ml_if_ne 1981 dL_law_1966 (by decide) (fun c_1966 => ?_) (fun c_1966 => ?_)
    · refine ml_goto 2603 dL_law_1981 (by decide) ?_
      exact ml_ls [2, 3, 4, 5, 6] rfl (g _ _ _ _ (by omega) (by omega) J3)
    · refine ml_aload_n 5 dL_law_1969 rfl ?_
      refine ml_iconst (v := 0) dL_law_1970 rfl ?_
      refine ml_lald ho3 (show (0 : Int32).toInt = ((0 : Nat) : Int) from rfl) (Nat.zero_lt_one) dL_law_1971 ?_
      refine ml_iload 0 dL_law_1972 rfl ?_
      refine ml_i2l dL_law_1974 rfl ?_
      refine ml_lcmp dL_law_1975 ?_
      refine ml_if_eq 1981 dL_law_1976 (by decide) (fun c_1976 => ?_) (fun c_1976 => ?_)
      · refine ml_goto 2603 dL_law_1981 (by decide) ?_
        exact ml_ls [2, 3, 4, 5, 6] rfl (g _ _ _ _ (by omega) (by omega) J3)
      · exact (c_1976 (lgc_eq.mpr (hv c_1966))).elim
  · exact (c_1959 rfl).elim
set_option maxRecDepth 100000 in
set_option maxHeartbeats 4000000 in
theorem lwc_30 {K : KX} {b c m o t L k sl n : Nat} {xs : Nat → Int32} {h : MH} {J : Nat → MH → Prop} (ht : 7 * t + 6 < L) (hL : L ≤ 3584) (hk : k + 400 ≤ rmC) (hs : sl + 5000 ≤ rmS) (H : StepI K m o mL_share [.ref c, .int (xs (7 * t + 1)), .ref o] mX11_share [.ref m, .int (xs (7 * t + 1))] J n h) (g : ∀ k' sl' n' h', k' ≤ k + 100 → sl' ≤ sl + 2000 → J n' h' → GL (lawG K) (XSc K b L xs) k' sl' 2603 (lawL b c m o t) [] n' h') : GL (lawG K) (XSc K b L xs) k sl 1984 (lawL b c m o t) [] n h := by
  obtain ⟨mc, ms, QA, hmc, hms, hW, hA⟩ := H
  refine ml_aload_n 1 dL_law_1984 rfl ?_
  refine ml_aload_n 0 dL_law_1985 rfl ?_
  refine ml_iload 4 dL_law_1986 rfl ?_
  refine ml_iconst (v := 1) dL_law_1988 rfl ?_
  refine ml_iadd dL_law_1989 ?_
  refine ml_sld (j := 7 * t + 1) rfl (sx_i (j := 1) (by omega)) (by omega) dL_law_1990 ?_
  refine ml_aload_n 3 dL_law_1991 rfl ?_
  refine ml_cS [.ref c, .int (xs (7 * t + 1)), .ref o] dL_law_1992 cwL_share lkL_241 rfl hW ⟨Nat.le_of_ble_eq_true rfl, Nat.le_of_ble_eq_true rfl, Nat.le_of_ble_eq_true rfl, (show k + mc ≤ rmC by omega), (show sl + ms ≤ rmS by omega)⟩ (fun v n1 h1 q => ?_) (fun E n1 h1 q => by obtain ⟨_, _, _, _, e1, _⟩ := hA _ _ _ q; cases e1)
  obtain ⟨k9, f1, b9, P2, e1, ⟨fs1, hm1⟩, hB, hN⟩ := hA _ _ _ q
  cases e1
  show GL _ _ _ _ _ _ [.int k9] _ _
  refine ml_istore (ls' := [(5, _), (0, _), (1, _), (2, _), (3, _), (4, _)]) dL_law_1995 (Nat.le_of_ble_eq_true rfl) rfl ?_
  refine ml_aload_n 3 dL_law_1997 rfl ?_
  refine ml_aload_n 1 dL_law_1998 rfl ?_
  refine ml_iload 5 dL_law_1999 rfl ?_
  refine ml_iconst (v := 1) dL_law_2001 rfl ?_
  refine ml_iadd dL_law_2002 ?_
  refine ml_sld (j := 7 * t + 1) rfl (sx_i (j := 1) (by omega)) (by omega) dL_law_2003 ?_
  refine ml_cV1 [.int (xs (7 * t + 1))] (RX11, TX11, 32) dL_law_2004 cwX11_share lkL_243 hm1 rfl rfl rfl rfl hB ⟨Nat.le_of_ble_eq_true rfl, Nat.le_of_ble_eq_true rfl, Nat.le_of_ble_eq_true rfl, (show k + mc + 0 ≤ rmC by omega), (show sl + ms + 0 ≤ rmS by omega)⟩ (fun h2 q2 => ?_)
  obtain ⟨⟨fs2, hm2⟩, P3, hT, hN3⟩ := hN h2 q2
  refine ml_istore (ls' := [(6, _), (5, _), (0, _), (1, _), (2, _), (3, _), (4, _)]) dL_law_2007 (Nat.le_of_ble_eq_true rfl) rfl ?_
  refine ml_aload_n 4 dL_law_2009 rfl ?_
  refine ml_cV1 [] (RX11, TX11, 32) dL_law_2010 cwX11_thrown lkL_142 hm2 rfl rfl rfl rfl hT ⟨Nat.le_of_ble_eq_true rfl, Nat.le_of_ble_eq_true rfl, Nat.le_of_ble_eq_true rfl, (show k + mc + 0 + 0 ≤ rmC by omega), (show sl + ms + 0 + 0 ≤ rmS by omega)⟩ (fun h3 q3 => ?_)
  obtain ⟨ho3, hv, J3⟩ := hN3 h3 q3
  refine ml_iload 1 dL_law_2013 rfl ?_
  refine ml_icmp_eq 2020 dL_law_2015 (by decide) (fun c_2015 => ?_) (fun c_2015 => ?_)
  · refine ml_iload 1 dL_law_2020 rfl ?_
    refine ml_if_ne 2037 dL_law_2022 (by decide) (fun c_2022 => ?_) (fun c_2022 => ?_)
    · refine ml_goto 2603 dL_law_2037 (by decide) ?_
      exact ml_ls [2, 3, 4, 5, 6] rfl (g _ _ _ _ (by omega) (by omega) J3)
    · refine ml_aload_n 5 dL_law_2025 rfl ?_
      refine ml_iconst (v := 0) dL_law_2026 rfl ?_
      refine ml_lald ho3 (show (0 : Int32).toInt = ((0 : Nat) : Int) from rfl) (Nat.zero_lt_one) dL_law_2027 ?_
      refine ml_iload 0 dL_law_2028 rfl ?_
      refine ml_i2l dL_law_2030 rfl ?_
      refine ml_lcmp dL_law_2031 ?_
      refine ml_if_eq 2037 dL_law_2032 (by decide) (fun c_2032 => ?_) (fun c_2032 => ?_)
      · refine ml_goto 2603 dL_law_2037 (by decide) ?_
        exact ml_ls [2, 3, 4, 5, 6] rfl (g _ _ _ _ (by omega) (by omega) J3)
      · exact (c_2032 (lgc_eq.mpr (hv c_2022))).elim
  · exact (c_2015 rfl).elim
set_option maxRecDepth 100000 in
set_option maxHeartbeats 4000000 in
theorem lwc_31 {K : KX} {b c m o t L k sl n : Nat} {xs : Nat → Int32} {h : MH} {J : Nat → MH → Prop} (ht : 7 * t + 6 < L) (hL : L ≤ 3584) (hk : k + 400 ≤ rmC) (hs : sl + 5000 ≤ rmS) (H : StepI K m o mL_driverShare [.ref c, .int (xs (7 * t + 1)), .ref o] mX11_driverShare [.ref m, .int (xs (7 * t + 1))] J n h) (g : ∀ k' sl' n' h', k' ≤ k + 100 → sl' ≤ sl + 2000 → J n' h' → GL (lawG K) (XSc K b L xs) k' sl' 2603 (lawL b c m o t) [] n' h') : GL (lawG K) (XSc K b L xs) k sl 2040 (lawL b c m o t) [] n h := by
  obtain ⟨mc, ms, QA, hmc, hms, hW, hA⟩ := H
  refine ml_aload_n 1 dL_law_2040 rfl ?_
  refine ml_aload_n 0 dL_law_2041 rfl ?_
  refine ml_iload 4 dL_law_2042 rfl ?_
  refine ml_iconst (v := 1) dL_law_2044 rfl ?_
  refine ml_iadd dL_law_2045 ?_
  refine ml_sld (j := 7 * t + 1) rfl (sx_i (j := 1) (by omega)) (by omega) dL_law_2046 ?_
  refine ml_aload_n 3 dL_law_2047 rfl ?_
  refine ml_cS [.ref c, .int (xs (7 * t + 1)), .ref o] dL_law_2048 cwL_driverShare lkL_244 rfl hW ⟨Nat.le_of_ble_eq_true rfl, Nat.le_of_ble_eq_true rfl, Nat.le_of_ble_eq_true rfl, (show k + mc ≤ rmC by omega), (show sl + ms ≤ rmS by omega)⟩ (fun v n1 h1 q => ?_) (fun E n1 h1 q => by obtain ⟨_, _, _, _, e1, _⟩ := hA _ _ _ q; cases e1)
  obtain ⟨k9, f1, b9, P2, e1, ⟨fs1, hm1⟩, hB, hN⟩ := hA _ _ _ q
  cases e1
  show GL _ _ _ _ _ _ [.int k9] _ _
  refine ml_istore (ls' := [(5, _), (0, _), (1, _), (2, _), (3, _), (4, _)]) dL_law_2051 (Nat.le_of_ble_eq_true rfl) rfl ?_
  refine ml_aload_n 3 dL_law_2053 rfl ?_
  refine ml_aload_n 1 dL_law_2054 rfl ?_
  refine ml_iload 5 dL_law_2055 rfl ?_
  refine ml_iconst (v := 1) dL_law_2057 rfl ?_
  refine ml_iadd dL_law_2058 ?_
  refine ml_sld (j := 7 * t + 1) rfl (sx_i (j := 1) (by omega)) (by omega) dL_law_2059 ?_
  refine ml_cV1 [.int (xs (7 * t + 1))] (RX11, TX11, 32) dL_law_2060 cwX11_driverShare lkL_246 hm1 rfl rfl rfl rfl hB ⟨Nat.le_of_ble_eq_true rfl, Nat.le_of_ble_eq_true rfl, Nat.le_of_ble_eq_true rfl, (show k + mc + 0 ≤ rmC by omega), (show sl + ms + 0 ≤ rmS by omega)⟩ (fun h2 q2 => ?_)
  obtain ⟨⟨fs2, hm2⟩, P3, hT, hN3⟩ := hN h2 q2
  refine ml_istore (ls' := [(6, _), (5, _), (0, _), (1, _), (2, _), (3, _), (4, _)]) dL_law_2063 (Nat.le_of_ble_eq_true rfl) rfl ?_
  refine ml_aload_n 4 dL_law_2065 rfl ?_
  refine ml_cV1 [] (RX11, TX11, 32) dL_law_2066 cwX11_thrown lkL_142 hm2 rfl rfl rfl rfl hT ⟨Nat.le_of_ble_eq_true rfl, Nat.le_of_ble_eq_true rfl, Nat.le_of_ble_eq_true rfl, (show k + mc + 0 + 0 ≤ rmC by omega), (show sl + ms + 0 + 0 ≤ rmS by omega)⟩ (fun h3 q3 => ?_)
  obtain ⟨ho3, hv, J3⟩ := hN3 h3 q3
  refine ml_iload 1 dL_law_2069 rfl ?_
  refine ml_icmp_eq 2076 dL_law_2071 (by decide) (fun c_2071 => ?_) (fun c_2071 => ?_)
  · refine ml_iload 1 dL_law_2076 rfl ?_
    refine ml_if_ne 2093 dL_law_2078 (by decide) (fun c_2078 => ?_) (fun c_2078 => ?_)
    · refine ml_goto 2603 dL_law_2093 (by decide) ?_
      exact ml_ls [2, 3, 4, 5, 6] rfl (g _ _ _ _ (by omega) (by omega) J3)
    · refine ml_aload_n 5 dL_law_2081 rfl ?_
      refine ml_iconst (v := 0) dL_law_2082 rfl ?_
      refine ml_lald ho3 (show (0 : Int32).toInt = ((0 : Nat) : Int) from rfl) (Nat.zero_lt_one) dL_law_2083 ?_
      refine ml_iload 0 dL_law_2084 rfl ?_
      refine ml_i2l dL_law_2086 rfl ?_
      refine ml_lcmp dL_law_2087 ?_
      refine ml_if_eq 2093 dL_law_2088 (by decide) (fun c_2088 => ?_) (fun c_2088 => ?_)
      · refine ml_goto 2603 dL_law_2093 (by decide) ?_
        exact ml_ls [2, 3, 4, 5, 6] rfl (g _ _ _ _ (by omega) (by omega) J3)
      · exact (c_2088 (lgc_eq.mpr (hv c_2078))).elim
  · exact (c_2071 rfl).elim
set_option maxRecDepth 100000 in
set_option maxHeartbeats 4000000 in
theorem lwc_32 {K : KX} {b c m o t L k sl n : Nat} {xs : Nat → Int32} {h : MH} {J : Nat → MH → Prop} (ht : 7 * t + 6 < L) (hL : L ≤ 3584) (hk : k + 400 ≤ rmC) (hs : sl + 5000 ≤ rmS) (H : StepI K m o mL_complete [.ref c, .int (xs (7 * t + 1)), .ref o] mX11_complete [.ref m, .int (xs (7 * t + 1))] J n h) (g : ∀ k' sl' n' h', k' ≤ k + 100 → sl' ≤ sl + 2000 → J n' h' → GL (lawG K) (XSc K b L xs) k' sl' 2603 (lawL b c m o t) [] n' h') : GL (lawG K) (XSc K b L xs) k sl 2096 (lawL b c m o t) [] n h := by
  obtain ⟨mc, ms, QA, hmc, hms, hW, hA⟩ := H
  refine ml_aload_n 1 dL_law_2096 rfl ?_
  refine ml_aload_n 0 dL_law_2097 rfl ?_
  refine ml_iload 4 dL_law_2098 rfl ?_
  refine ml_iconst (v := 1) dL_law_2100 rfl ?_
  refine ml_iadd dL_law_2101 ?_
  refine ml_sld (j := 7 * t + 1) rfl (sx_i (j := 1) (by omega)) (by omega) dL_law_2102 ?_
  refine ml_aload_n 3 dL_law_2103 rfl ?_
  refine ml_cS [.ref c, .int (xs (7 * t + 1)), .ref o] dL_law_2104 cwL_complete lkL_247 rfl hW ⟨Nat.le_of_ble_eq_true rfl, Nat.le_of_ble_eq_true rfl, Nat.le_of_ble_eq_true rfl, (show k + mc ≤ rmC by omega), (show sl + ms ≤ rmS by omega)⟩ (fun v n1 h1 q => ?_) (fun E n1 h1 q => by obtain ⟨_, _, _, _, e1, _⟩ := hA _ _ _ q; cases e1)
  obtain ⟨k9, f1, b9, P2, e1, ⟨fs1, hm1⟩, hB, hN⟩ := hA _ _ _ q
  cases e1
  show GL _ _ _ _ _ _ [.int k9] _ _
  refine ml_istore (ls' := [(5, _), (0, _), (1, _), (2, _), (3, _), (4, _)]) dL_law_2107 (Nat.le_of_ble_eq_true rfl) rfl ?_
  refine ml_aload_n 3 dL_law_2109 rfl ?_
  refine ml_aload_n 1 dL_law_2110 rfl ?_
  refine ml_iload 5 dL_law_2111 rfl ?_
  refine ml_iconst (v := 1) dL_law_2113 rfl ?_
  refine ml_iadd dL_law_2114 ?_
  refine ml_sld (j := 7 * t + 1) rfl (sx_i (j := 1) (by omega)) (by omega) dL_law_2115 ?_
  refine ml_cV1 [.int (xs (7 * t + 1))] (RX11, TX11, 32) dL_law_2116 cwX11_complete lkL_249 hm1 rfl rfl rfl rfl hB ⟨Nat.le_of_ble_eq_true rfl, Nat.le_of_ble_eq_true rfl, Nat.le_of_ble_eq_true rfl, (show k + mc + 0 ≤ rmC by omega), (show sl + ms + 0 ≤ rmS by omega)⟩ (fun h2 q2 => ?_)
  obtain ⟨⟨fs2, hm2⟩, P3, hT, hN3⟩ := hN h2 q2
  refine ml_istore (ls' := [(6, _), (5, _), (0, _), (1, _), (2, _), (3, _), (4, _)]) dL_law_2119 (Nat.le_of_ble_eq_true rfl) rfl ?_
  refine ml_aload_n 4 dL_law_2121 rfl ?_
  refine ml_cV1 [] (RX11, TX11, 32) dL_law_2122 cwX11_thrown lkL_142 hm2 rfl rfl rfl rfl hT ⟨Nat.le_of_ble_eq_true rfl, Nat.le_of_ble_eq_true rfl, Nat.le_of_ble_eq_true rfl, (show k + mc + 0 + 0 ≤ rmC by omega), (show sl + ms + 0 + 0 ≤ rmS by omega)⟩ (fun h3 q3 => ?_)
  obtain ⟨ho3, hv, J3⟩ := hN3 h3 q3
  refine ml_iload 1 dL_law_2125 rfl ?_
  refine ml_icmp_eq 2132 dL_law_2127 (by decide) (fun c_2127 => ?_) (fun c_2127 => ?_)
  · refine ml_iload 1 dL_law_2132 rfl ?_
    refine ml_if_ne 2149 dL_law_2134 (by decide) (fun c_2134 => ?_) (fun c_2134 => ?_)
    · refine ml_goto 2603 dL_law_2149 (by decide) ?_
      exact ml_ls [2, 3, 4, 5, 6] rfl (g _ _ _ _ (by omega) (by omega) J3)
    · refine ml_aload_n 5 dL_law_2137 rfl ?_
      refine ml_iconst (v := 0) dL_law_2138 rfl ?_
      refine ml_lald ho3 (show (0 : Int32).toInt = ((0 : Nat) : Int) from rfl) (Nat.zero_lt_one) dL_law_2139 ?_
      refine ml_iload 0 dL_law_2140 rfl ?_
      refine ml_i2l dL_law_2142 rfl ?_
      refine ml_lcmp dL_law_2143 ?_
      refine ml_if_eq 2149 dL_law_2144 (by decide) (fun c_2144 => ?_) (fun c_2144 => ?_)
      · refine ml_goto 2603 dL_law_2149 (by decide) ?_
        exact ml_ls [2, 3, 4, 5, 6] rfl (g _ _ _ _ (by omega) (by omega) J3)
      · exact (c_2144 (lgc_eq.mpr (hv c_2134))).elim
  · exact (c_2127 rfl).elim
set_option maxRecDepth 100000 in
set_option maxHeartbeats 4000000 in
theorem lwc_33 {K : KX} {b c m o t L k sl n : Nat} {xs : Nat → Int32} {h : MH} {J : Nat → MH → Prop} (ht : 7 * t + 6 < L) (hL : L ≤ 3584) (hk : k + 400 ≤ rmC) (hs : sl + 5000 ≤ rmS) (H : StepJ K m o mL_riderCredit [.ref c, .int (xs (7 * t + 1)), .ref o] mX11_riderCredit [.ref m, .int (xs (7 * t + 1))] J n h) (g : ∀ k' sl' n' h', k' ≤ k + 100 → sl' ≤ sl + 2000 → J n' h' → GL (lawG K) (XSc K b L xs) k' sl' 2603 (lawL b c m o t) [] n' h') : GL (lawG K) (XSc K b L xs) k sl 2152 (lawL b c m o t) [] n h := by
  obtain ⟨mc, ms, QA, hmc, hms, hW, hA⟩ := H
  refine ml_aload_n 1 dL_law_2152 rfl ?_
  refine ml_aload_n 0 dL_law_2153 rfl ?_
  refine ml_iload 4 dL_law_2154 rfl ?_
  refine ml_iconst (v := 1) dL_law_2156 rfl ?_
  refine ml_iadd dL_law_2157 ?_
  refine ml_sld (j := 7 * t + 1) rfl (sx_i (j := 1) (by omega)) (by omega) dL_law_2158 ?_
  refine ml_aload_n 3 dL_law_2159 rfl ?_
  refine ml_cS [.ref c, .int (xs (7 * t + 1)), .ref o] dL_law_2160 cwL_riderCredit lkL_250 rfl hW ⟨Nat.le_of_ble_eq_true rfl, Nat.le_of_ble_eq_true rfl, Nat.le_of_ble_eq_true rfl, (show k + mc ≤ rmC by omega), (show sl + ms ≤ rmS by omega)⟩ (fun v n1 h1 q => ?_) (fun E n1 h1 q => by obtain ⟨_, _, _, _, e1, _⟩ := hA _ _ _ q; cases e1)
  obtain ⟨k9, f1, b9, P2, e1, ⟨fs1, hm1⟩, hB, hN⟩ := hA _ _ _ q
  cases e1
  show GL _ _ _ _ _ _ [.int k9] _ _
  refine ml_istore (ls' := [(5, _), (0, _), (1, _), (2, _), (3, _), (4, _)]) dL_law_2163 (Nat.le_of_ble_eq_true rfl) rfl ?_
  refine ml_aload_n 3 dL_law_2165 rfl ?_
  refine ml_aload_n 1 dL_law_2166 rfl ?_
  refine ml_iload 5 dL_law_2167 rfl ?_
  refine ml_iconst (v := 1) dL_law_2169 rfl ?_
  refine ml_iadd dL_law_2170 ?_
  refine ml_sld (j := 7 * t + 1) rfl (sx_i (j := 1) (by omega)) (by omega) dL_law_2171 ?_
  refine ml_cV1 [.int (xs (7 * t + 1))] (RX11, TX11, 32) dL_law_2172 cwX11_riderCredit lkL_252 hm1 rfl rfl rfl rfl hB ⟨Nat.le_of_ble_eq_true rfl, Nat.le_of_ble_eq_true rfl, Nat.le_of_ble_eq_true rfl, (show k + mc + 0 ≤ rmC by omega), (show sl + ms + 0 ≤ rmS by omega)⟩ (fun h2 q2 => ?_)
  obtain ⟨⟨fs2, hm2⟩, P3, hT, hN3⟩ := hN h2 q2
  refine ml_lstore (ls' := [(6, _), (5, _), (0, _), (1, _), (2, _), (3, _), (4, _)]) dL_law_2175 (Nat.le_of_ble_eq_true rfl) rfl ?_
  refine ml_aload_n 4 dL_law_2177 rfl ?_
  refine ml_cV1 [] (RX11, TX11, 32) dL_law_2178 cwX11_thrown lkL_142 hm2 rfl rfl rfl rfl hT ⟨Nat.le_of_ble_eq_true rfl, Nat.le_of_ble_eq_true rfl, Nat.le_of_ble_eq_true rfl, (show k + mc + 0 + 0 ≤ rmC by omega), (show sl + ms + 0 + 0 ≤ rmS by omega)⟩ (fun h3 q3 => ?_)
  obtain ⟨ho3, hv, J3⟩ := hN3 h3 q3
  refine ml_iload 1 dL_law_2181 rfl ?_
  refine ml_icmp_eq 2188 dL_law_2183 (by decide) (fun c_2183 => ?_) (fun c_2183 => ?_)
  · refine ml_iload 1 dL_law_2188 rfl ?_
    refine ml_if_ne 2204 dL_law_2190 (by decide) (fun c_2190 => ?_) (fun c_2190 => ?_)
    · refine ml_goto 2603 dL_law_2204 (by decide) ?_
      exact ml_ls [2, 3, 4, 5, 6] rfl (g _ _ _ _ (by omega) (by omega) J3)
    · refine ml_aload_n 5 dL_law_2193 rfl ?_
      refine ml_iconst (v := 0) dL_law_2194 rfl ?_
      refine ml_lald ho3 (show (0 : Int32).toInt = ((0 : Nat) : Int) from rfl) (Nat.zero_lt_one) dL_law_2195 ?_
      refine ml_lload 0 dL_law_2196 rfl ?_
      refine ml_lcmp dL_law_2198 ?_
      refine ml_if_eq 2204 dL_law_2199 (by decide) (fun c_2199 => ?_) (fun c_2199 => ?_)
      · refine ml_goto 2603 dL_law_2204 (by decide) ?_
        exact ml_ls [2, 3, 4, 5, 6] rfl (g _ _ _ _ (by omega) (by omega) J3)
      · exact (c_2199 (lgc_eq.mpr (hv c_2190))).elim
  · exact (c_2183 rfl).elim
set_option maxRecDepth 100000 in
set_option maxHeartbeats 4000000 in
theorem lwc_34 {K : KX} {b c m o t L k sl n : Nat} {xs : Nat → Int32} {h : MH} {J : Nat → MH → Prop} (ht : 7 * t + 6 < L) (hL : L ≤ 3584) (hk : k + 400 ≤ rmC) (hs : sl + 5000 ≤ rmS) (H : StepJ K m o mL_driverCredit [.ref c, .int (xs (7 * t + 1)), .ref o] mX11_driverCredit [.ref m, .int (xs (7 * t + 1))] J n h) (g : ∀ k' sl' n' h', k' ≤ k + 100 → sl' ≤ sl + 2000 → J n' h' → GL (lawG K) (XSc K b L xs) k' sl' 2603 (lawL b c m o t) [] n' h') : GL (lawG K) (XSc K b L xs) k sl 2207 (lawL b c m o t) [] n h := by
  obtain ⟨mc, ms, QA, hmc, hms, hW, hA⟩ := H
  refine ml_aload_n 1 dL_law_2207 rfl ?_
  refine ml_aload_n 0 dL_law_2208 rfl ?_
  refine ml_iload 4 dL_law_2209 rfl ?_
  refine ml_iconst (v := 1) dL_law_2211 rfl ?_
  refine ml_iadd dL_law_2212 ?_
  refine ml_sld (j := 7 * t + 1) rfl (sx_i (j := 1) (by omega)) (by omega) dL_law_2213 ?_
  refine ml_aload_n 3 dL_law_2214 rfl ?_
  refine ml_cS [.ref c, .int (xs (7 * t + 1)), .ref o] dL_law_2215 cwL_driverCredit lkL_253 rfl hW ⟨Nat.le_of_ble_eq_true rfl, Nat.le_of_ble_eq_true rfl, Nat.le_of_ble_eq_true rfl, (show k + mc ≤ rmC by omega), (show sl + ms ≤ rmS by omega)⟩ (fun v n1 h1 q => ?_) (fun E n1 h1 q => by obtain ⟨_, _, _, _, e1, _⟩ := hA _ _ _ q; cases e1)
  obtain ⟨k9, f1, b9, P2, e1, ⟨fs1, hm1⟩, hB, hN⟩ := hA _ _ _ q
  cases e1
  show GL _ _ _ _ _ _ [.int k9] _ _
  refine ml_istore (ls' := [(5, _), (0, _), (1, _), (2, _), (3, _), (4, _)]) dL_law_2218 (Nat.le_of_ble_eq_true rfl) rfl ?_
  refine ml_aload_n 3 dL_law_2220 rfl ?_
  refine ml_aload_n 1 dL_law_2221 rfl ?_
  refine ml_iload 5 dL_law_2222 rfl ?_
  refine ml_iconst (v := 1) dL_law_2224 rfl ?_
  refine ml_iadd dL_law_2225 ?_
  refine ml_sld (j := 7 * t + 1) rfl (sx_i (j := 1) (by omega)) (by omega) dL_law_2226 ?_
  refine ml_cV1 [.int (xs (7 * t + 1))] (RX11, TX11, 32) dL_law_2227 cwX11_driverCredit lkL_255 hm1 rfl rfl rfl rfl hB ⟨Nat.le_of_ble_eq_true rfl, Nat.le_of_ble_eq_true rfl, Nat.le_of_ble_eq_true rfl, (show k + mc + 0 ≤ rmC by omega), (show sl + ms + 0 ≤ rmS by omega)⟩ (fun h2 q2 => ?_)
  obtain ⟨⟨fs2, hm2⟩, P3, hT, hN3⟩ := hN h2 q2
  refine ml_lstore (ls' := [(6, _), (5, _), (0, _), (1, _), (2, _), (3, _), (4, _)]) dL_law_2230 (Nat.le_of_ble_eq_true rfl) rfl ?_
  refine ml_aload_n 4 dL_law_2232 rfl ?_
  refine ml_cV1 [] (RX11, TX11, 32) dL_law_2233 cwX11_thrown lkL_142 hm2 rfl rfl rfl rfl hT ⟨Nat.le_of_ble_eq_true rfl, Nat.le_of_ble_eq_true rfl, Nat.le_of_ble_eq_true rfl, (show k + mc + 0 + 0 ≤ rmC by omega), (show sl + ms + 0 + 0 ≤ rmS by omega)⟩ (fun h3 q3 => ?_)
  obtain ⟨ho3, hv, J3⟩ := hN3 h3 q3
  refine ml_iload 1 dL_law_2236 rfl ?_
  refine ml_icmp_eq 2243 dL_law_2238 (by decide) (fun c_2238 => ?_) (fun c_2238 => ?_)
  · refine ml_iload 1 dL_law_2243 rfl ?_
    refine ml_if_ne 2259 dL_law_2245 (by decide) (fun c_2245 => ?_) (fun c_2245 => ?_)
    · refine ml_goto 2603 dL_law_2259 (by decide) ?_
      exact ml_ls [2, 3, 4, 5, 6] rfl (g _ _ _ _ (by omega) (by omega) J3)
    · refine ml_aload_n 5 dL_law_2248 rfl ?_
      refine ml_iconst (v := 0) dL_law_2249 rfl ?_
      refine ml_lald ho3 (show (0 : Int32).toInt = ((0 : Nat) : Int) from rfl) (Nat.zero_lt_one) dL_law_2250 ?_
      refine ml_lload 0 dL_law_2251 rfl ?_
      refine ml_lcmp dL_law_2253 ?_
      refine ml_if_eq 2259 dL_law_2254 (by decide) (fun c_2254 => ?_) (fun c_2254 => ?_)
      · refine ml_goto 2603 dL_law_2259 (by decide) ?_
        exact ml_ls [2, 3, 4, 5, 6] rfl (g _ _ _ _ (by omega) (by omega) J3)
      · exact (c_2254 (lgc_eq.mpr (hv c_2245))).elim
  · exact (c_2238 rfl).elim
set_option maxRecDepth 100000 in
set_option maxHeartbeats 4000000 in
theorem lwc_35 {K : KX} {b c m o t L k sl n : Nat} {xs : Nat → Int32} {h : MH} {J : Nat → MH → Prop} (ht : 7 * t + 6 < L) (hL : L ≤ 3584) (hk : k + 400 ≤ rmC) (hs : sl + 5000 ≤ rmS) (H : StepJ K m o mL_pay [.ref c, .int (xs (7 * t + 1)), .int (xs (7 * t + 2)), .ref o] mX11_pay [.ref m, .int (xs (7 * t + 1)), .int (xs (7 * t + 2))] J n h) (g : ∀ k' sl' n' h', k' ≤ k + 100 → sl' ≤ sl + 2000 → J n' h' → GL (lawG K) (XSc K b L xs) k' sl' 2603 (lawL b c m o t) [] n' h') : GL (lawG K) (XSc K b L xs) k sl 2262 (lawL b c m o t) [] n h := by
  obtain ⟨mc, ms, QA, hmc, hms, hW, hA⟩ := H
  refine ml_aload_n 1 dL_law_2262 rfl ?_
  refine ml_aload_n 0 dL_law_2263 rfl ?_
  refine ml_iload 4 dL_law_2264 rfl ?_
  refine ml_iconst (v := 1) dL_law_2266 rfl ?_
  refine ml_iadd dL_law_2267 ?_
  refine ml_sld (j := 7 * t + 1) rfl (sx_i (j := 1) (by omega)) (by omega) dL_law_2268 ?_
  refine ml_aload_n 0 dL_law_2269 rfl ?_
  refine ml_iload 4 dL_law_2270 rfl ?_
  refine ml_iconst (v := 2) dL_law_2272 rfl ?_
  refine ml_iadd dL_law_2273 ?_
  refine ml_sld (j := 7 * t + 2) rfl (sx_i (j := 2) (by omega)) (by omega) dL_law_2274 ?_
  refine ml_aload_n 3 dL_law_2275 rfl ?_
  refine ml_cS [.ref c, .int (xs (7 * t + 1)), .int (xs (7 * t + 2)), .ref o] dL_law_2276 cwL_pay lkL_256 rfl hW ⟨Nat.le_of_ble_eq_true rfl, Nat.le_of_ble_eq_true rfl, Nat.le_of_ble_eq_true rfl, (show k + mc ≤ rmC by omega), (show sl + ms ≤ rmS by omega)⟩ (fun v n1 h1 q => ?_) (fun E n1 h1 q => by obtain ⟨_, _, _, _, e1, _⟩ := hA _ _ _ q; cases e1)
  obtain ⟨k9, f1, b9, P2, e1, ⟨fs1, hm1⟩, hB, hN⟩ := hA _ _ _ q
  cases e1
  show GL _ _ _ _ _ _ [.int k9] _ _
  refine ml_istore (ls' := [(5, _), (0, _), (1, _), (2, _), (3, _), (4, _)]) dL_law_2279 (Nat.le_of_ble_eq_true rfl) rfl ?_
  refine ml_aload_n 3 dL_law_2281 rfl ?_
  refine ml_aload_n 1 dL_law_2282 rfl ?_
  refine ml_iload 5 dL_law_2283 rfl ?_
  refine ml_iconst (v := 1) dL_law_2285 rfl ?_
  refine ml_iadd dL_law_2286 ?_
  refine ml_sld (j := 7 * t + 1) rfl (sx_i (j := 1) (by omega)) (by omega) dL_law_2287 ?_
  refine ml_aload_n 1 dL_law_2288 rfl ?_
  refine ml_iload 5 dL_law_2289 rfl ?_
  refine ml_iconst (v := 2) dL_law_2291 rfl ?_
  refine ml_iadd dL_law_2292 ?_
  refine ml_sld (j := 7 * t + 2) rfl (sx_i (j := 2) (by omega)) (by omega) dL_law_2293 ?_
  refine ml_cV1 [.int (xs (7 * t + 1)), .int (xs (7 * t + 2))] (RX11, TX11, 32) dL_law_2294 cwX11_pay lkL_258 hm1 rfl rfl rfl rfl hB ⟨Nat.le_of_ble_eq_true rfl, Nat.le_of_ble_eq_true rfl, Nat.le_of_ble_eq_true rfl, (show k + mc + 0 ≤ rmC by omega), (show sl + ms + 0 ≤ rmS by omega)⟩ (fun h2 q2 => ?_)
  obtain ⟨⟨fs2, hm2⟩, P3, hT, hN3⟩ := hN h2 q2
  refine ml_lstore (ls' := [(6, _), (5, _), (0, _), (1, _), (2, _), (3, _), (4, _)]) dL_law_2297 (Nat.le_of_ble_eq_true rfl) rfl ?_
  refine ml_aload_n 4 dL_law_2299 rfl ?_
  refine ml_cV1 [] (RX11, TX11, 32) dL_law_2300 cwX11_thrown lkL_142 hm2 rfl rfl rfl rfl hT ⟨Nat.le_of_ble_eq_true rfl, Nat.le_of_ble_eq_true rfl, Nat.le_of_ble_eq_true rfl, (show k + mc + 0 + 0 ≤ rmC by omega), (show sl + ms + 0 + 0 ≤ rmS by omega)⟩ (fun h3 q3 => ?_)
  obtain ⟨ho3, hv, J3⟩ := hN3 h3 q3
  refine ml_iload 1 dL_law_2303 rfl ?_
  refine ml_icmp_eq 2310 dL_law_2305 (by decide) (fun c_2305 => ?_) (fun c_2305 => ?_)
  · refine ml_iload 1 dL_law_2310 rfl ?_
    refine ml_if_ne 2326 dL_law_2312 (by decide) (fun c_2312 => ?_) (fun c_2312 => ?_)
    · refine ml_goto 2603 dL_law_2326 (by decide) ?_
      exact ml_ls [2, 3, 4, 5, 6] rfl (g _ _ _ _ (by omega) (by omega) J3)
    · refine ml_aload_n 5 dL_law_2315 rfl ?_
      refine ml_iconst (v := 0) dL_law_2316 rfl ?_
      refine ml_lald ho3 (show (0 : Int32).toInt = ((0 : Nat) : Int) from rfl) (Nat.zero_lt_one) dL_law_2317 ?_
      refine ml_lload 0 dL_law_2318 rfl ?_
      refine ml_lcmp dL_law_2320 ?_
      refine ml_if_eq 2326 dL_law_2321 (by decide) (fun c_2321 => ?_) (fun c_2321 => ?_)
      · refine ml_goto 2603 dL_law_2326 (by decide) ?_
        exact ml_ls [2, 3, 4, 5, 6] rfl (g _ _ _ _ (by omega) (by omega) J3)
      · exact (c_2321 (lgc_eq.mpr (hv c_2312))).elim
  · exact (c_2305 rfl).elim
set_option maxRecDepth 100000 in
set_option maxHeartbeats 4000000 in
theorem lwc_36 {K : KX} {b c m o t L k sl n : Nat} {xs : Nat → Int32} {h : MH} {J : Nat → MH → Prop} (ht : 7 * t + 6 < L) (hL : L ≤ 3584) (hk : k + 400 ≤ rmC) (hs : sl + 5000 ≤ rmS) (H : StepD K c m mX10_debtor [.ref c, .int (xs (7 * t + 1))] mX11_debtor [.ref m, .int (xs (7 * t + 1))] J n h) (g : ∀ k' sl' n' h', k' ≤ k + 100 → sl' ≤ sl + 2000 → J n' h' → GL (lawG K) (XSc K b L xs) k' sl' 2603 (lawL b c m o t) [] n' h') : GL (lawG K) (XSc K b L xs) k sl 2329 (lawL b c m o t) [] n h := by
  obtain ⟨mc, ms, v9, n1, P1, hmc, hms, ⟨fs0, hc1⟩, hW, hA⟩ := H
  refine ml_aload_n 1 dL_law_2329 rfl ?_
  refine ml_aload_n 0 dL_law_2330 rfl ?_
  refine ml_iload 4 dL_law_2331 rfl ?_
  refine ml_iconst (v := 1) dL_law_2333 rfl ?_
  refine ml_iadd dL_law_2334 ?_
  refine ml_sld (j := 7 * t + 1) rfl (sx_i (j := 1) (by omega)) (by omega) dL_law_2335 ?_
  refine ml_cV1 [.int (xs (7 * t + 1))] (RX10, TX10, 9) dL_law_2336 cwX10_debtor lkL_259 hc1 rfl rfl rfl rfl hW ⟨Nat.le_of_ble_eq_true rfl, Nat.le_of_ble_eq_true rfl, Nat.le_of_ble_eq_true rfl, (show k + mc ≤ rmC by omega), (show sl + ms ≤ rmS by omega)⟩ (fun h1 q => ?_)
  obtain ⟨⟨fs1, hm1⟩, P2, hB, hN⟩ := hA h1 q
  refine ml_aload_n 2 dL_law_2339 rfl ?_
  refine ml_aload_n 0 dL_law_2340 rfl ?_
  refine ml_iload 4 dL_law_2341 rfl ?_
  refine ml_iconst (v := 1) dL_law_2343 rfl ?_
  refine ml_iadd dL_law_2344 ?_
  refine ml_sld (j := 7 * t + 1) rfl (sx_i (j := 1) (by omega)) (by omega) dL_law_2345 ?_
  refine ml_cV1 [.int (xs (7 * t + 1))] (RX11, TX11, 32) dL_law_2346 cwX11_debtor lkL_262 hm1 rfl rfl rfl rfl hB ⟨Nat.le_of_ble_eq_true rfl, Nat.le_of_ble_eq_true rfl, Nat.le_of_ble_eq_true rfl, (show k + mc + 0 ≤ rmC by omega), (show sl + ms + 0 ≤ rmS by omega)⟩ (fun h2 q2 => ?_)
  have J3 := hN h2 q2
  refine ml_icmp_eq 2603 dL_law_2349 (by decide) (fun c_2349 => ?_) (fun c_2349 => ?_)
  · exact ml_ls [0, 1, 2, 3, 4] rfl (g _ _ _ _ (by omega) (by omega) J3)
  · exact (c_2349 rfl).elim
set_option maxRecDepth 100000 in
set_option maxHeartbeats 4000000 in
theorem lwc_37 {K : KX} {b c m o t L k sl n : Nat} {xs : Nat → Int32} {h : MH} {J : Nat → MH → Prop} (ht : 7 * t + 6 < L) (hL : L ≤ 3584) (hk : k + 400 ≤ rmC) (hs : sl + 5000 ≤ rmS) (H : StepD K c m mX10_meanDetourNumerator [.ref c] mX11_meanDetourNumerator [.ref m] J n h) (g : ∀ k' sl' n' h', k' ≤ k + 100 → sl' ≤ sl + 2000 → J n' h' → GL (lawG K) (XSc K b L xs) k' sl' 2603 (lawL b c m o t) [] n' h') : GL (lawG K) (XSc K b L xs) k sl 2354 (lawL b c m o t) [] n h := by
  obtain ⟨mc, ms, v9, n1, P1, hmc, hms, ⟨fs0, hc1⟩, hW, hA⟩ := H
  refine ml_aload_n 1 dL_law_2354 rfl ?_
  refine ml_cV1 [] (RX10, TX10, 9) dL_law_2355 cwX10_meanDetourNumerator lkL_263 hc1 rfl rfl rfl rfl hW ⟨Nat.le_of_ble_eq_true rfl, Nat.le_of_ble_eq_true rfl, Nat.le_of_ble_eq_true rfl, (show k + mc ≤ rmC by omega), (show sl + ms ≤ rmS by omega)⟩ (fun h1 q => ?_)
  obtain ⟨⟨fs1, hm1⟩, P2, hB, hN⟩ := hA h1 q
  refine ml_aload_n 2 dL_law_2358 rfl ?_
  refine ml_cV1 [] (RX11, TX11, 32) dL_law_2359 cwX11_meanDetourNumerator lkL_266 hm1 rfl rfl rfl rfl hB ⟨Nat.le_of_ble_eq_true rfl, Nat.le_of_ble_eq_true rfl, Nat.le_of_ble_eq_true rfl, (show k + mc + 0 ≤ rmC by omega), (show sl + ms + 0 ≤ rmS by omega)⟩ (fun h2 q2 => ?_)
  have J3 := hN h2 q2
  refine ml_icmp_eq 2603 dL_law_2362 (by decide) (fun c_2362 => ?_) (fun c_2362 => ?_)
  · exact ml_ls [0, 1, 2, 3, 4] rfl (g _ _ _ _ (by omega) (by omega) J3)
  · exact (c_2362 rfl).elim
set_option maxRecDepth 100000 in
set_option maxHeartbeats 4000000 in
theorem lwc_38 {K : KX} {b c m o t L k sl n : Nat} {xs : Nat → Int32} {h : MH} {J : Nat → MH → Prop} (ht : 7 * t + 6 < L) (hL : L ≤ 3584) (hk : k + 400 ≤ rmC) (hs : sl + 5000 ≤ rmS) (H : StepD K c m mX10_meanDetourDenominator [.ref c] mX11_meanDetourDenominator [.ref m] J n h) (g : ∀ k' sl' n' h', k' ≤ k + 100 → sl' ≤ sl + 2000 → J n' h' → GL (lawG K) (XSc K b L xs) k' sl' 2603 (lawL b c m o t) [] n' h') : GL (lawG K) (XSc K b L xs) k sl 2367 (lawL b c m o t) [] n h := by
  obtain ⟨mc, ms, v9, n1, P1, hmc, hms, ⟨fs0, hc1⟩, hW, hA⟩ := H
  refine ml_aload_n 1 dL_law_2367 rfl ?_
  refine ml_cV1 [] (RX10, TX10, 9) dL_law_2368 cwX10_meanDetourDenominator lkL_267 hc1 rfl rfl rfl rfl hW ⟨Nat.le_of_ble_eq_true rfl, Nat.le_of_ble_eq_true rfl, Nat.le_of_ble_eq_true rfl, (show k + mc ≤ rmC by omega), (show sl + ms ≤ rmS by omega)⟩ (fun h1 q => ?_)
  obtain ⟨⟨fs1, hm1⟩, P2, hB, hN⟩ := hA h1 q
  refine ml_aload_n 2 dL_law_2371 rfl ?_
  refine ml_cV1 [] (RX11, TX11, 32) dL_law_2372 cwX11_meanDetourDenominator lkL_270 hm1 rfl rfl rfl rfl hB ⟨Nat.le_of_ble_eq_true rfl, Nat.le_of_ble_eq_true rfl, Nat.le_of_ble_eq_true rfl, (show k + mc + 0 ≤ rmC by omega), (show sl + ms + 0 ≤ rmS by omega)⟩ (fun h2 q2 => ?_)
  have J3 := hN h2 q2
  refine ml_icmp_eq 2603 dL_law_2375 (by decide) (fun c_2375 => ?_) (fun c_2375 => ?_)
  · exact ml_ls [0, 1, 2, 3, 4] rfl (g _ _ _ _ (by omega) (by omega) J3)
  · exact (c_2375 rfl).elim
set_option maxRecDepth 100000 in
set_option maxHeartbeats 4000000 in
theorem lwc_39 {K : KX} {b c m o t L k sl n : Nat} {xs : Nat → Int32} {h : MH} {J : Nat → MH → Prop} (ht : 7 * t + 6 < L) (hL : L ≤ 3584) (hk : k + 400 ≤ rmC) (hs : sl + 5000 ≤ rmS) (H : StepI K m o mL_appendText [.ref c, .int (xs (7 * t + 1)), .ref o] mX11_appendText [.ref m, .int (xs (7 * t + 1))] J n h) (g : ∀ k' sl' n' h', k' ≤ k + 100 → sl' ≤ sl + 2000 → J n' h' → GL (lawG K) (XSc K b L xs) k' sl' 2603 (lawL b c m o t) [] n' h') : GL (lawG K) (XSc K b L xs) k sl 2380 (lawL b c m o t) [] n h := by
  obtain ⟨mc, ms, QA, hmc, hms, hW, hA⟩ := H
  refine ml_aload_n 1 dL_law_2380 rfl ?_
  refine ml_aload_n 0 dL_law_2381 rfl ?_
  refine ml_iload 4 dL_law_2382 rfl ?_
  refine ml_iconst (v := 1) dL_law_2384 rfl ?_
  refine ml_iadd dL_law_2385 ?_
  refine ml_sld (j := 7 * t + 1) rfl (sx_i (j := 1) (by omega)) (by omega) dL_law_2386 ?_
  refine ml_aload_n 3 dL_law_2387 rfl ?_
  refine ml_cS [.ref c, .int (xs (7 * t + 1)), .ref o] dL_law_2388 cwL_appendText lkL_271 rfl hW ⟨Nat.le_of_ble_eq_true rfl, Nat.le_of_ble_eq_true rfl, Nat.le_of_ble_eq_true rfl, (show k + mc ≤ rmC by omega), (show sl + ms ≤ rmS by omega)⟩ (fun v n1 h1 q => ?_) (fun E n1 h1 q => by obtain ⟨_, _, _, _, e1, _⟩ := hA _ _ _ q; cases e1)
  obtain ⟨k9, f1, b9, P2, e1, ⟨fs1, hm1⟩, hB, hN⟩ := hA _ _ _ q
  cases e1
  show GL _ _ _ _ _ _ [.int k9] _ _
  refine ml_istore (ls' := [(5, _), (0, _), (1, _), (2, _), (3, _), (4, _)]) dL_law_2391 (Nat.le_of_ble_eq_true rfl) rfl ?_
  refine ml_aload_n 3 dL_law_2393 rfl ?_
  refine ml_aload_n 1 dL_law_2394 rfl ?_
  refine ml_iload 5 dL_law_2395 rfl ?_
  refine ml_iconst (v := 1) dL_law_2397 rfl ?_
  refine ml_iadd dL_law_2398 ?_
  refine ml_sld (j := 7 * t + 1) rfl (sx_i (j := 1) (by omega)) (by omega) dL_law_2399 ?_
  refine ml_cV1 [.int (xs (7 * t + 1))] (RX11, TX11, 32) dL_law_2400 cwX11_appendText lkL_273 hm1 rfl rfl rfl rfl hB ⟨Nat.le_of_ble_eq_true rfl, Nat.le_of_ble_eq_true rfl, Nat.le_of_ble_eq_true rfl, (show k + mc + 0 ≤ rmC by omega), (show sl + ms + 0 ≤ rmS by omega)⟩ (fun h2 q2 => ?_)
  obtain ⟨⟨fs2, hm2⟩, P3, hT, hN3⟩ := hN h2 q2
  refine ml_istore (ls' := [(6, _), (5, _), (0, _), (1, _), (2, _), (3, _), (4, _)]) dL_law_2403 (Nat.le_of_ble_eq_true rfl) rfl ?_
  refine ml_aload_n 4 dL_law_2405 rfl ?_
  refine ml_cV1 [] (RX11, TX11, 32) dL_law_2406 cwX11_thrown lkL_142 hm2 rfl rfl rfl rfl hT ⟨Nat.le_of_ble_eq_true rfl, Nat.le_of_ble_eq_true rfl, Nat.le_of_ble_eq_true rfl, (show k + mc + 0 + 0 ≤ rmC by omega), (show sl + ms + 0 + 0 ≤ rmS by omega)⟩ (fun h3 q3 => ?_)
  obtain ⟨ho3, hv, J3⟩ := hN3 h3 q3
  refine ml_iload 1 dL_law_2409 rfl ?_
  refine ml_icmp_eq 2416 dL_law_2411 (by decide) (fun c_2411 => ?_) (fun c_2411 => ?_)
  · refine ml_iload 1 dL_law_2416 rfl ?_
    refine ml_if_ne 2433 dL_law_2418 (by decide) (fun c_2418 => ?_) (fun c_2418 => ?_)
    · refine ml_goto 2603 dL_law_2433 (by decide) ?_
      exact ml_ls [2, 3, 4, 5, 6] rfl (g _ _ _ _ (by omega) (by omega) J3)
    · refine ml_aload_n 5 dL_law_2421 rfl ?_
      refine ml_iconst (v := 0) dL_law_2422 rfl ?_
      refine ml_lald ho3 (show (0 : Int32).toInt = ((0 : Nat) : Int) from rfl) (Nat.zero_lt_one) dL_law_2423 ?_
      refine ml_iload 0 dL_law_2424 rfl ?_
      refine ml_i2l dL_law_2426 rfl ?_
      refine ml_lcmp dL_law_2427 ?_
      refine ml_if_eq 2433 dL_law_2428 (by decide) (fun c_2428 => ?_) (fun c_2428 => ?_)
      · refine ml_goto 2603 dL_law_2433 (by decide) ?_
        exact ml_ls [2, 3, 4, 5, 6] rfl (g _ _ _ _ (by omega) (by omega) J3)
      · exact (c_2428 (lgc_eq.mpr (hv c_2418))).elim
  · exact (c_2411 rfl).elim
set_option maxRecDepth 100000 in
set_option maxHeartbeats 4000000 in
theorem lwc_40 {K : KX} {b c m o t L k sl n : Nat} {xs : Nat → Int32} {h : MH} {J : Nat → MH → Prop} (ht : 7 * t + 6 < L) (hL : L ≤ 3584) (hk : k + 400 ≤ rmC) (hs : sl + 5000 ≤ rmS) (H : StepI K m o mL_truncateText [.ref c, .int (xs (7 * t + 1)), .ref o] mX11_truncateText [.ref m, .int (xs (7 * t + 1))] J n h) (g : ∀ k' sl' n' h', k' ≤ k + 100 → sl' ≤ sl + 2000 → J n' h' → GL (lawG K) (XSc K b L xs) k' sl' 2603 (lawL b c m o t) [] n' h') : GL (lawG K) (XSc K b L xs) k sl 2436 (lawL b c m o t) [] n h := by
  obtain ⟨mc, ms, QA, hmc, hms, hW, hA⟩ := H
  refine ml_aload_n 1 dL_law_2436 rfl ?_
  refine ml_aload_n 0 dL_law_2437 rfl ?_
  refine ml_iload 4 dL_law_2438 rfl ?_
  refine ml_iconst (v := 1) dL_law_2440 rfl ?_
  refine ml_iadd dL_law_2441 ?_
  refine ml_sld (j := 7 * t + 1) rfl (sx_i (j := 1) (by omega)) (by omega) dL_law_2442 ?_
  refine ml_aload_n 3 dL_law_2443 rfl ?_
  refine ml_cS [.ref c, .int (xs (7 * t + 1)), .ref o] dL_law_2444 cwL_truncateText lkL_274 rfl hW ⟨Nat.le_of_ble_eq_true rfl, Nat.le_of_ble_eq_true rfl, Nat.le_of_ble_eq_true rfl, (show k + mc ≤ rmC by omega), (show sl + ms ≤ rmS by omega)⟩ (fun v n1 h1 q => ?_) (fun E n1 h1 q => by obtain ⟨_, _, _, _, e1, _⟩ := hA _ _ _ q; cases e1)
  obtain ⟨k9, f1, b9, P2, e1, ⟨fs1, hm1⟩, hB, hN⟩ := hA _ _ _ q
  cases e1
  show GL _ _ _ _ _ _ [.int k9] _ _
  refine ml_istore (ls' := [(5, _), (0, _), (1, _), (2, _), (3, _), (4, _)]) dL_law_2447 (Nat.le_of_ble_eq_true rfl) rfl ?_
  refine ml_aload_n 3 dL_law_2449 rfl ?_
  refine ml_aload_n 1 dL_law_2450 rfl ?_
  refine ml_iload 5 dL_law_2451 rfl ?_
  refine ml_iconst (v := 1) dL_law_2453 rfl ?_
  refine ml_iadd dL_law_2454 ?_
  refine ml_sld (j := 7 * t + 1) rfl (sx_i (j := 1) (by omega)) (by omega) dL_law_2455 ?_
  refine ml_cV1 [.int (xs (7 * t + 1))] (RX11, TX11, 32) dL_law_2456 cwX11_truncateText lkL_276 hm1 rfl rfl rfl rfl hB ⟨Nat.le_of_ble_eq_true rfl, Nat.le_of_ble_eq_true rfl, Nat.le_of_ble_eq_true rfl, (show k + mc + 0 ≤ rmC by omega), (show sl + ms + 0 ≤ rmS by omega)⟩ (fun h2 q2 => ?_)
  obtain ⟨⟨fs2, hm2⟩, P3, hT, hN3⟩ := hN h2 q2
  refine ml_istore (ls' := [(6, _), (5, _), (0, _), (1, _), (2, _), (3, _), (4, _)]) dL_law_2459 (Nat.le_of_ble_eq_true rfl) rfl ?_
  refine ml_aload_n 4 dL_law_2461 rfl ?_
  refine ml_cV1 [] (RX11, TX11, 32) dL_law_2462 cwX11_thrown lkL_142 hm2 rfl rfl rfl rfl hT ⟨Nat.le_of_ble_eq_true rfl, Nat.le_of_ble_eq_true rfl, Nat.le_of_ble_eq_true rfl, (show k + mc + 0 + 0 ≤ rmC by omega), (show sl + ms + 0 + 0 ≤ rmS by omega)⟩ (fun h3 q3 => ?_)
  obtain ⟨ho3, hv, J3⟩ := hN3 h3 q3
  refine ml_iload 1 dL_law_2465 rfl ?_
  refine ml_icmp_eq 2472 dL_law_2467 (by decide) (fun c_2467 => ?_) (fun c_2467 => ?_)
  · refine ml_iload 1 dL_law_2472 rfl ?_
    refine ml_if_ne 2489 dL_law_2474 (by decide) (fun c_2474 => ?_) (fun c_2474 => ?_)
    · refine ml_goto 2603 dL_law_2489 (by decide) ?_
      exact ml_ls [2, 3, 4, 5, 6] rfl (g _ _ _ _ (by omega) (by omega) J3)
    · refine ml_aload_n 5 dL_law_2477 rfl ?_
      refine ml_iconst (v := 0) dL_law_2478 rfl ?_
      refine ml_lald ho3 (show (0 : Int32).toInt = ((0 : Nat) : Int) from rfl) (Nat.zero_lt_one) dL_law_2479 ?_
      refine ml_iload 0 dL_law_2480 rfl ?_
      refine ml_i2l dL_law_2482 rfl ?_
      refine ml_lcmp dL_law_2483 ?_
      refine ml_if_eq 2489 dL_law_2484 (by decide) (fun c_2484 => ?_) (fun c_2484 => ?_)
      · refine ml_goto 2603 dL_law_2489 (by decide) ?_
        exact ml_ls [2, 3, 4, 5, 6] rfl (g _ _ _ _ (by omega) (by omega) J3)
      · exact (c_2484 (lgc_eq.mpr (hv c_2474))).elim
  · exact (c_2467 rfl).elim
set_option maxRecDepth 100000 in
set_option maxHeartbeats 4000000 in
theorem lwc_41 {K : KX} {b c m o t L k sl n : Nat} {xs : Nat → Int32} {h : MH} {J : Nat → MH → Prop} (ht : 7 * t + 6 < L) (hL : L ≤ 3584) (hk : k + 400 ≤ rmC) (hs : sl + 5000 ≤ rmS) (H : StepD K c m mX10_load [.ref c] mX11_load [.ref m] J n h) (g : ∀ k' sl' n' h', k' ≤ k + 100 → sl' ≤ sl + 2000 → J n' h' → GL (lawG K) (XSc K b L xs) k' sl' 2603 (lawL b c m o t) [] n' h') : GL (lawG K) (XSc K b L xs) k sl 2492 (lawL b c m o t) [] n h := by
  obtain ⟨mc, ms, v9, n1, P1, hmc, hms, ⟨fs0, hc1⟩, hW, hA⟩ := H
  refine ml_aload_n 1 dL_law_2492 rfl ?_
  refine ml_cV1 [] (RX10, TX10, 9) dL_law_2493 cwX10_load lkL_277 hc1 rfl rfl rfl rfl hW ⟨Nat.le_of_ble_eq_true rfl, Nat.le_of_ble_eq_true rfl, Nat.le_of_ble_eq_true rfl, (show k + mc ≤ rmC by omega), (show sl + ms ≤ rmS by omega)⟩ (fun h1 q => ?_)
  obtain ⟨⟨fs1, hm1⟩, P2, hB, hN⟩ := hA h1 q
  refine ml_aload_n 2 dL_law_2496 rfl ?_
  refine ml_cV1 [] (RX11, TX11, 32) dL_law_2497 cwX11_load lkL_280 hm1 rfl rfl rfl rfl hB ⟨Nat.le_of_ble_eq_true rfl, Nat.le_of_ble_eq_true rfl, Nat.le_of_ble_eq_true rfl, (show k + mc + 0 ≤ rmC by omega), (show sl + ms + 0 ≤ rmS by omega)⟩ (fun h2 q2 => ?_)
  have J3 := hN h2 q2
  refine ml_icmp_eq 2603 dL_law_2500 (by decide) (fun c_2500 => ?_) (fun c_2500 => ?_)
  · exact ml_ls [0, 1, 2, 3, 4] rfl (g _ _ _ _ (by omega) (by omega) J3)
  · exact (c_2500 rfl).elim
set_option maxRecDepth 100000 in
set_option maxHeartbeats 4000000 in
theorem lwc_42 {K : KX} {b c m o t L k sl n : Nat} {xs : Nat → Int32} {h : MH} {J : Nat → MH → Prop} (ht : 7 * t + 6 < L) (hL : L ≤ 3584) (hk : k + 400 ≤ rmC) (hs : sl + 5000 ≤ rmS) (H : StepD K c m mX10_errorCode [.ref c] mX11_errorCode [.ref m] J n h) (g : ∀ k' sl' n' h', k' ≤ k + 100 → sl' ≤ sl + 2000 → J n' h' → GL (lawG K) (XSc K b L xs) k' sl' 2603 (lawL b c m o t) [] n' h') : GL (lawG K) (XSc K b L xs) k sl 2505 (lawL b c m o t) [] n h := by
  obtain ⟨mc, ms, v9, n1, P1, hmc, hms, ⟨fs0, hc1⟩, hW, hA⟩ := H
  refine ml_aload_n 1 dL_law_2505 rfl ?_
  refine ml_cV1 [] (RX10, TX10, 9) dL_law_2506 cwX10_errorCode lkL_281 hc1 rfl rfl rfl rfl hW ⟨Nat.le_of_ble_eq_true rfl, Nat.le_of_ble_eq_true rfl, Nat.le_of_ble_eq_true rfl, (show k + mc ≤ rmC by omega), (show sl + ms ≤ rmS by omega)⟩ (fun h1 q => ?_)
  obtain ⟨⟨fs1, hm1⟩, P2, hB, hN⟩ := hA h1 q
  refine ml_aload_n 2 dL_law_2509 rfl ?_
  refine ml_cV1 [] (RX11, TX11, 32) dL_law_2510 cwX11_errorCode lkL_284 hm1 rfl rfl rfl rfl hB ⟨Nat.le_of_ble_eq_true rfl, Nat.le_of_ble_eq_true rfl, Nat.le_of_ble_eq_true rfl, (show k + mc + 0 ≤ rmC by omega), (show sl + ms + 0 ≤ rmS by omega)⟩ (fun h2 q2 => ?_)
  have J3 := hN h2 q2
  refine ml_icmp_eq 2603 dL_law_2513 (by decide) (fun c_2513 => ?_) (fun c_2513 => ?_)
  · exact ml_ls [0, 1, 2, 3, 4] rfl (g _ _ _ _ (by omega) (by omega) J3)
  · exact (c_2513 rfl).elim
set_option maxRecDepth 100000 in
set_option maxHeartbeats 4000000 in
theorem lwc_43 {K : KX} {b c m o t L k sl n : Nat} {xs : Nat → Int32} {h : MH} {J : Nat → MH → Prop} (ht : 7 * t + 6 < L) (hL : L ≤ 3584) (hk : k + 400 ≤ rmC) (hs : sl + 5000 ≤ rmS) (H : StepD K c m mX10_errorPosition [.ref c] mX11_errorPosition [.ref m] J n h) (g : ∀ k' sl' n' h', k' ≤ k + 100 → sl' ≤ sl + 2000 → J n' h' → GL (lawG K) (XSc K b L xs) k' sl' 2603 (lawL b c m o t) [] n' h') : GL (lawG K) (XSc K b L xs) k sl 2518 (lawL b c m o t) [] n h := by
  obtain ⟨mc, ms, v9, n1, P1, hmc, hms, ⟨fs0, hc1⟩, hW, hA⟩ := H
  refine ml_aload_n 1 dL_law_2518 rfl ?_
  refine ml_cV1 [] (RX10, TX10, 9) dL_law_2519 cwX10_errorPosition lkL_285 hc1 rfl rfl rfl rfl hW ⟨Nat.le_of_ble_eq_true rfl, Nat.le_of_ble_eq_true rfl, Nat.le_of_ble_eq_true rfl, (show k + mc ≤ rmC by omega), (show sl + ms ≤ rmS by omega)⟩ (fun h1 q => ?_)
  obtain ⟨⟨fs1, hm1⟩, P2, hB, hN⟩ := hA h1 q
  refine ml_aload_n 2 dL_law_2522 rfl ?_
  refine ml_cV1 [] (RX11, TX11, 32) dL_law_2523 cwX11_errorPosition lkL_288 hm1 rfl rfl rfl rfl hB ⟨Nat.le_of_ble_eq_true rfl, Nat.le_of_ble_eq_true rfl, Nat.le_of_ble_eq_true rfl, (show k + mc + 0 ≤ rmC by omega), (show sl + ms + 0 ≤ rmS by omega)⟩ (fun h2 q2 => ?_)
  have J3 := hN h2 q2
  refine ml_icmp_eq 2603 dL_law_2526 (by decide) (fun c_2526 => ?_) (fun c_2526 => ?_)
  · exact ml_ls [0, 1, 2, 3, 4] rfl (g _ _ _ _ (by omega) (by omega) J3)
  · exact (c_2526 rfl).elim
set_option maxRecDepth 100000 in
set_option maxHeartbeats 4000000 in
theorem lwc_44 {K : KX} {b c m o t L k sl n : Nat} {xs : Nat → Int32} {h : MH} {J : Nat → MH → Prop} (ht : 7 * t + 6 < L) (hL : L ≤ 3584) (hk : k + 400 ≤ rmC) (hs : sl + 5000 ≤ rmS) (H : StepV K m mL_save [.ref c, .int (xs (7 * t + 1))] mX11_save [.ref m, .int (xs (7 * t + 1))] J n h) (g : ∀ k' sl' n' h', k' ≤ k + 100 → sl' ≤ sl + 2000 → J n' h' → GL (lawG K) (XSc K b L xs) k' sl' 2603 (lawL b c m o t) [] n' h') : GL (lawG K) (XSc K b L xs) k sl 2531 (lawL b c m o t) [] n h := by
  obtain ⟨mc, ms, QA, hmc, hms, hW, hA⟩ := H
  refine ml_aload_n 1 dL_law_2531 rfl ?_
  refine ml_aload_n 0 dL_law_2532 rfl ?_
  refine ml_iload 4 dL_law_2533 rfl ?_
  refine ml_iconst (v := 1) dL_law_2535 rfl ?_
  refine ml_iadd dL_law_2536 ?_
  refine ml_sld (j := 7 * t + 1) rfl (sx_i (j := 1) (by omega)) (by omega) dL_law_2537 ?_
  refine ml_cS [.ref c, .int (xs (7 * t + 1))] dL_law_2538 cwL_save lkL_289 rfl hW ⟨Nat.le_of_ble_eq_true rfl, Nat.le_of_ble_eq_true rfl, Nat.le_of_ble_eq_true rfl, (show k + mc ≤ rmC by omega), (show sl + ms ≤ rmS by omega)⟩ (fun v n1 h1 q => ?_) (fun E n1 h1 q => by obtain ⟨_, _, e1, _⟩ := hA _ _ _ q; cases e1)
  obtain ⟨k9, P2, e1, ⟨fs1, hm1⟩, hB, hN⟩ := hA _ _ _ q
  cases e1
  show GL _ _ _ _ _ _ [.int k9] _ _
  refine ml_istore (ls' := [(5, _), (0, _), (1, _), (2, _), (3, _), (4, _)]) dL_law_2541 (Nat.le_of_ble_eq_true rfl) rfl ?_
  refine ml_aload_n 3 dL_law_2543 rfl ?_
  refine ml_aload_n 1 dL_law_2544 rfl ?_
  refine ml_iload 5 dL_law_2545 rfl ?_
  refine ml_iconst (v := 1) dL_law_2547 rfl ?_
  refine ml_iadd dL_law_2548 ?_
  refine ml_sld (j := 7 * t + 1) rfl (sx_i (j := 1) (by omega)) (by omega) dL_law_2549 ?_
  refine ml_cV0 [.int (xs (7 * t + 1))] (RX11, TX11, 32) dL_law_2550 cwX11_save lkL_292 hm1 rfl rfl rfl rfl hB ⟨Nat.le_of_ble_eq_true rfl, Nat.le_of_ble_eq_true rfl, Nat.le_of_ble_eq_true rfl, (show k + mc + 0 ≤ rmC by omega), (show sl + ms + 0 ≤ rmS by omega)⟩ (fun h2 q2 => ?_)
  obtain ⟨⟨fs2, hm2⟩, P3, hT, hN3⟩ := hN h2 q2
  refine ml_aload_n 3 dL_law_2553 rfl ?_
  refine ml_cV1 [] (RX11, TX11, 32) dL_law_2554 cwX11_thrown lkL_142 hm2 rfl rfl rfl rfl hT ⟨Nat.le_of_ble_eq_true rfl, Nat.le_of_ble_eq_true rfl, Nat.le_of_ble_eq_true rfl, (show k + mc + 0 + 0 ≤ rmC by omega), (show sl + ms + 0 + 0 ≤ rmS by omega)⟩ (fun h3 q3 => ?_)
  obtain J3 := hN3 h3 q3
  refine ml_iload 0 dL_law_2557 rfl ?_
  refine ml_icmp_eq 2564 dL_law_2559 (by decide) (fun c_2559 => ?_) (fun c_2559 => ?_)
  · refine ml_goto 2603 dL_law_2564 (by decide) ?_
    exact ml_ls [1, 2, 3, 4, 5] rfl (g _ _ _ _ (by omega) (by omega) J3)
  · exact (c_2559 rfl).elim
set_option maxRecDepth 100000 in
set_option maxHeartbeats 4000000 in
theorem lwc_45 {K : KX} {b c m o t L k sl n : Nat} {xs : Nat → Int32} {h : MH} {J : Nat → MH → Prop} (ht : 7 * t + 6 < L) (hL : L ≤ 3584) (hk : k + 400 ≤ rmC) (hs : sl + 5000 ≤ rmS) (H : StepV K m mL_restore [.ref c, .int (xs (7 * t + 1))] mX11_restore [.ref m, .int (xs (7 * t + 1))] J n h) (g : ∀ k' sl' n' h', k' ≤ k + 100 → sl' ≤ sl + 2000 → J n' h' → GL (lawG K) (XSc K b L xs) k' sl' 2603 (lawL b c m o t) [] n' h') : GL (lawG K) (XSc K b L xs) k sl 2567 (lawL b c m o t) [] n h := by
  obtain ⟨mc, ms, QA, hmc, hms, hW, hA⟩ := H
  refine ml_aload_n 1 dL_law_2567 rfl ?_
  refine ml_aload_n 0 dL_law_2568 rfl ?_
  refine ml_iload 4 dL_law_2569 rfl ?_
  refine ml_iconst (v := 1) dL_law_2571 rfl ?_
  refine ml_iadd dL_law_2572 ?_
  refine ml_sld (j := 7 * t + 1) rfl (sx_i (j := 1) (by omega)) (by omega) dL_law_2573 ?_
  refine ml_cS [.ref c, .int (xs (7 * t + 1))] dL_law_2574 cwL_restore lkL_293 rfl hW ⟨Nat.le_of_ble_eq_true rfl, Nat.le_of_ble_eq_true rfl, Nat.le_of_ble_eq_true rfl, (show k + mc ≤ rmC by omega), (show sl + ms ≤ rmS by omega)⟩ (fun v n1 h1 q => ?_) (fun E n1 h1 q => by obtain ⟨_, _, e1, _⟩ := hA _ _ _ q; cases e1)
  obtain ⟨k9, P2, e1, ⟨fs1, hm1⟩, hB, hN⟩ := hA _ _ _ q
  cases e1
  show GL _ _ _ _ _ _ [.int k9] _ _
  refine ml_istore (ls' := [(5, _), (0, _), (1, _), (2, _), (3, _), (4, _)]) dL_law_2577 (Nat.le_of_ble_eq_true rfl) rfl ?_
  refine ml_aload_n 3 dL_law_2579 rfl ?_
  refine ml_aload_n 1 dL_law_2580 rfl ?_
  refine ml_iload 5 dL_law_2581 rfl ?_
  refine ml_iconst (v := 1) dL_law_2583 rfl ?_
  refine ml_iadd dL_law_2584 ?_
  refine ml_sld (j := 7 * t + 1) rfl (sx_i (j := 1) (by omega)) (by omega) dL_law_2585 ?_
  refine ml_cV0 [.int (xs (7 * t + 1))] (RX11, TX11, 32) dL_law_2586 cwX11_restore lkL_295 hm1 rfl rfl rfl rfl hB ⟨Nat.le_of_ble_eq_true rfl, Nat.le_of_ble_eq_true rfl, Nat.le_of_ble_eq_true rfl, (show k + mc + 0 ≤ rmC by omega), (show sl + ms + 0 ≤ rmS by omega)⟩ (fun h2 q2 => ?_)
  obtain ⟨⟨fs2, hm2⟩, P3, hT, hN3⟩ := hN h2 q2
  refine ml_aload_n 3 dL_law_2589 rfl ?_
  refine ml_cV1 [] (RX11, TX11, 32) dL_law_2590 cwX11_thrown lkL_142 hm2 rfl rfl rfl rfl hT ⟨Nat.le_of_ble_eq_true rfl, Nat.le_of_ble_eq_true rfl, Nat.le_of_ble_eq_true rfl, (show k + mc + 0 + 0 ≤ rmC by omega), (show sl + ms + 0 + 0 ≤ rmS by omega)⟩ (fun h3 q3 => ?_)
  obtain J3 := hN3 h3 q3
  refine ml_iload 0 dL_law_2593 rfl ?_
  refine ml_icmp_eq 2600 dL_law_2595 (by decide) (fun c_2595 => ?_) (fun c_2595 => ?_)
  · refine ml_goto 2603 dL_law_2600 (by decide) ?_
    exact ml_ls [1, 2, 3, 4, 5] rfl (g _ _ _ _ (by omega) (by omega) J3)
  · exact (c_2595 rfl).elim
