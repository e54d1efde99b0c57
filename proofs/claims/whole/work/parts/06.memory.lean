-- the classes' fields, by number
def tyC (ci : Nat) : Nat → FieldType := match ci with
  | 0 => tyX0
  | 1 => tyX1
  | 2 => tyX2
  | 3 => tyX3
  | 4 => tyX4
  | 5 => tyX5
  | 6 => tyX6
  | 7 => tyX7
  | 8 => tyX8
  | 9 => tyX9
  | 10 => tyX10
  | _ => tyX11
theorem tyC_ok {ci : Nat} {r : vw_C} (h : vwCl[ci]? = some r) : ∀ k, k < r.2.2 → parseFieldDescriptor (r.2.1 k).2.2.1 = some (tyC ci k) := by
  match ci, h with
  | 0, h => cases h; exact tyX0_ok
  | 1, h => cases h; exact tyX1_ok
  | 2, h => cases h; exact tyX2_ok
  | 3, h => cases h; exact tyX3_ok
  | 4, h => cases h; exact tyX4_ok
  | 5, h => cases h; exact tyX5_ok
  | 6, h => cases h; exact tyX6_ok
  | 7, h => cases h; exact tyX7_ok
  | 8, h => cases h; exact tyX8_ok
  | 9, h => cases h; exact tyX9_ok
  | 10, h => cases h; exact tyX10_ok
  | 11, h => cases h; exact tyX11_ok
  | i + 12, h => simp [vwCl] at h
theorem nmC_ok {ci : Nat} {r : vw_C} (h : vwCl[ci]? = some r) : ∀ a, a < r.2.2 → ∀ b, b < r.2.2 → a ≠ b → (r.2.1 a).2.1 ≠ (r.2.1 b).2.1 := by
  match ci, h with
  | 0, h => cases h; exact nmX0
  | 1, h => cases h; exact nmX1
  | 2, h => cases h; exact nmX2
  | 3, h => cases h; exact nmX3
  | 4, h => cases h; exact nmX4
  | 5, h => cases h; exact nmX5
  | 6, h => cases h; exact nmX6
  | 7, h => cases h; exact nmX7
  | 8, h => cases h; exact nmX8
  | 9, h => cases h; exact nmX9
  | 10, h => cases h; exact nmX10
  | 11, h => cases h; exact nmX11
  | i + 12, h => simp [vwCl] at h
theorem uwX0 : ∀ w ∈ u_ws RX0 TX0 5, w ∈ TG := by
  intro w hw
  obtain ⟨k, hk, rfl⟩ := List.mem_map.mp hw
  have hk := List.mem_range.mp hk
  match k, hk with
  | 0, _ => exact tg_of 353 (by decide +kernel) (by decide +kernel)
  | 1, _ => exact tg_of 355 (by decide +kernel) (by decide +kernel)
  | 2, _ => exact tg_of 357 (by decide +kernel) (by decide +kernel)
  | 3, _ => exact tg_of 359 (by decide +kernel) (by decide +kernel)
  | 4, _ => exact tg_of 361 (by decide +kernel) (by decide +kernel)
  | k + 5, hk => exact absurd hk (by omega)
theorem uwX1 : ∀ w ∈ u_ws RX1 TX1 8, w ∈ TG := by
  intro w hw
  obtain ⟨k, hk, rfl⟩ := List.mem_map.mp hw
  have hk := List.mem_range.mp hk
  match k, hk with
  | 0, _ => exact tg_of 263 (by decide +kernel) (by decide +kernel)
  | 1, _ => exact tg_of 265 (by decide +kernel) (by decide +kernel)
  | 2, _ => exact tg_of 267 (by decide +kernel) (by decide +kernel)
  | 3, _ => exact tg_of 269 (by decide +kernel) (by decide +kernel)
  | 4, _ => exact tg_of 271 (by decide +kernel) (by decide +kernel)
  | 5, _ => exact tg_of 273 (by decide +kernel) (by decide +kernel)
  | 6, _ => exact tg_of 275 (by decide +kernel) (by decide +kernel)
  | 7, _ => exact tg_of 277 (by decide +kernel) (by decide +kernel)
  | k + 8, hk => exact absurd hk (by omega)
theorem uwX2 : ∀ w ∈ u_ws RX2 TX2 4, w ∈ TG := by
  intro w hw
  obtain ⟨k, hk, rfl⟩ := List.mem_map.mp hw
  have hk := List.mem_range.mp hk
  match k, hk with
  | 0, _ => exact tg_of 377 (by decide +kernel) (by decide +kernel)
  | 1, _ => exact tg_of 379 (by decide +kernel) (by decide +kernel)
  | 2, _ => exact tg_of 381 (by decide +kernel) (by decide +kernel)
  | 3, _ => exact tg_of 383 (by decide +kernel) (by decide +kernel)
  | k + 4, hk => exact absurd hk (by omega)
theorem uwX3 : ∀ w ∈ u_ws RX3 TX3 2, w ∈ TG := by
  intro w hw
  obtain ⟨k, hk, rfl⟩ := List.mem_map.mp hw
  have hk := List.mem_range.mp hk
  match k, hk with
  | 0, _ => exact tg_of 406 (by decide +kernel) (by decide +kernel)
  | 1, _ => exact tg_of 408 (by decide +kernel) (by decide +kernel)
  | k + 2, hk => exact absurd hk (by omega)
theorem uwX4 : ∀ w ∈ u_ws RX4 TX4 1, w ∈ TG := by
  intro w hw
  obtain ⟨k, hk, rfl⟩ := List.mem_map.mp hw
  have hk := List.mem_range.mp hk
  match k, hk with
  | 0, _ => exact tg_of 395 (by decide +kernel) (by decide +kernel)
  | k + 1, hk => exact absurd hk (by omega)
theorem uwX5 : ∀ w ∈ u_ws RX5 TX5 10, w ∈ TG := by
  intro w hw
  obtain ⟨k, hk, rfl⟩ := List.mem_map.mp hw
  have hk := List.mem_range.mp hk
  match k, hk with
  | 0, _ => exact tg_of 319 (by decide +kernel) (by decide +kernel)
  | 1, _ => exact tg_of 321 (by decide +kernel) (by decide +kernel)
  | 2, _ => exact tg_of 323 (by decide +kernel) (by decide +kernel)
  | 3, _ => exact tg_of 325 (by decide +kernel) (by decide +kernel)
  | 4, _ => exact tg_of 327 (by decide +kernel) (by decide +kernel)
  | 5, _ => exact tg_of 329 (by decide +kernel) (by decide +kernel)
  | 6, _ => exact tg_of 331 (by decide +kernel) (by decide +kernel)
  | 7, _ => exact tg_of 333 (by decide +kernel) (by decide +kernel)
  | 8, _ => exact tg_of 335 (by decide +kernel) (by decide +kernel)
  | 9, _ => exact tg_of 337 (by decide +kernel) (by decide +kernel)
  | k + 10, hk => exact absurd hk (by omega)
theorem uwX6 : ∀ w ∈ u_ws RX6 TX6 5, w ∈ TG := by
  intro w hw
  obtain ⟨k, hk, rfl⟩ := List.mem_map.mp hw
  have hk := List.mem_range.mp hk
  match k, hk with
  | 0, _ => exact tg_of 219 (by decide +kernel) (by decide +kernel)
  | 1, _ => exact tg_of 221 (by decide +kernel) (by decide +kernel)
  | 2, _ => exact tg_of 223 (by decide +kernel) (by decide +kernel)
  | 3, _ => exact tg_of 225 (by decide +kernel) (by decide +kernel)
  | 4, _ => exact tg_of 227 (by decide +kernel) (by decide +kernel)
  | k + 5, hk => exact absurd hk (by omega)
theorem uwX7 : ∀ w ∈ u_ws RX7 TX7 7, w ∈ TG := by
  intro w hw
  obtain ⟨k, hk, rfl⟩ := List.mem_map.mp hw
  have hk := List.mem_range.mp hk
  match k, hk with
  | 0, _ => exact tg_of 462 (by decide +kernel) (by decide +kernel)
  | 1, _ => exact tg_of 464 (by decide +kernel) (by decide +kernel)
  | 2, _ => exact tg_of 466 (by decide +kernel) (by decide +kernel)
  | 3, _ => exact tg_of 468 (by decide +kernel) (by decide +kernel)
  | 4, _ => exact tg_of 470 (by decide +kernel) (by decide +kernel)
  | 5, _ => exact tg_of 472 (by decide +kernel) (by decide +kernel)
  | 6, _ => exact tg_of 474 (by decide +kernel) (by decide +kernel)
  | k + 7, hk => exact absurd hk (by omega)
theorem uwX8 : ∀ w ∈ u_ws RX8 TX8 2, w ∈ TG := by
  intro w hw
  obtain ⟨k, hk, rfl⟩ := List.mem_map.mp hw
  have hk := List.mem_range.mp hk
  match k, hk with
  | 0, _ => exact tg_of 442 (by decide +kernel) (by decide +kernel)
  | 1, _ => exact tg_of 444 (by decide +kernel) (by decide +kernel)
  | k + 2, hk => exact absurd hk (by omega)
theorem uwX9 : ∀ w ∈ u_ws RX9 TX9 4, w ∈ TG := by
  intro w hw
  obtain ⟨k, hk, rfl⟩ := List.mem_map.mp hw
  have hk := List.mem_range.mp hk
  match k, hk with
  | 0, _ => exact tg_of 423 (by decide +kernel) (by decide +kernel)
  | 1, _ => exact tg_of 425 (by decide +kernel) (by decide +kernel)
  | 2, _ => exact tg_of 427 (by decide +kernel) (by decide +kernel)
  | 3, _ => exact tg_of 429 (by decide +kernel) (by decide +kernel)
  | k + 4, hk => exact absurd hk (by omega)
theorem uwX10 : ∀ w ∈ u_ws RX10 TX10 9, w ∈ TG := by
  intro w hw
  obtain ⟨k, hk, rfl⟩ := List.mem_map.mp hw
  have hk := List.mem_range.mp hk
  match k, hk with
  | 0, _ => exact tg_of 486 (by decide +kernel) (by decide +kernel)
  | 1, _ => exact tg_of 488 (by decide +kernel) (by decide +kernel)
  | 2, _ => exact tg_of 490 (by decide +kernel) (by decide +kernel)
  | 3, _ => exact tg_of 492 (by decide +kernel) (by decide +kernel)
  | 4, _ => exact tg_of 494 (by decide +kernel) (by decide +kernel)
  | 5, _ => exact tg_of 496 (by decide +kernel) (by decide +kernel)
  | 6, _ => exact tg_of 498 (by decide +kernel) (by decide +kernel)
  | 7, _ => exact tg_of 500 (by decide +kernel) (by decide +kernel)
  | 8, _ => exact tg_of 502 (by decide +kernel) (by decide +kernel)
  | k + 9, hk => exact absurd hk (by omega)
theorem uwX11 : ∀ w ∈ u_ws RX11 TX11 32, w ∈ TG := by
  intro w hw
  obtain ⟨k, hk, rfl⟩ := List.mem_map.mp hw
  have hk := List.mem_range.mp hk
  match k, hk with
  | 0, _ => exact tg_of 1434 (by decide +kernel) (by decide +kernel)
  | 1, _ => exact tg_of 1436 (by decide +kernel) (by decide +kernel)
  | 2, _ => exact tg_of 1438 (by decide +kernel) (by decide +kernel)
  | 3, _ => exact tg_of 1440 (by decide +kernel) (by decide +kernel)
  | 4, _ => exact tg_of 1442 (by decide +kernel) (by decide +kernel)
  | 5, _ => exact tg_of 1444 (by decide +kernel) (by decide +kernel)
  | 6, _ => exact tg_of 1446 (by decide +kernel) (by decide +kernel)
  | 7, _ => exact tg_of 1448 (by decide +kernel) (by decide +kernel)
  | 8, _ => exact tg_of 1450 (by decide +kernel) (by decide +kernel)
  | 9, _ => exact tg_of 1452 (by decide +kernel) (by decide +kernel)
  | 10, _ => exact tg_of 1454 (by decide +kernel) (by decide +kernel)
  | 11, _ => exact tg_of 1456 (by decide +kernel) (by decide +kernel)
  | 12, _ => exact tg_of 1458 (by decide +kernel) (by decide +kernel)
  | 13, _ => exact tg_of 1460 (by decide +kernel) (by decide +kernel)
  | 14, _ => exact tg_of 1462 (by decide +kernel) (by decide +kernel)
  | 15, _ => exact tg_of 1464 (by decide +kernel) (by decide +kernel)
  | 16, _ => exact tg_of 1466 (by decide +kernel) (by decide +kernel)
  | 17, _ => exact tg_of 1468 (by decide +kernel) (by decide +kernel)
  | 18, _ => exact tg_of 1470 (by decide +kernel) (by decide +kernel)
  | 19, _ => exact tg_of 1472 (by decide +kernel) (by decide +kernel)
  | 20, _ => exact tg_of 1474 (by decide +kernel) (by decide +kernel)
  | 21, _ => exact tg_of 1476 (by decide +kernel) (by decide +kernel)
  | 22, _ => exact tg_of 1478 (by decide +kernel) (by decide +kernel)
  | 23, _ => exact tg_of 1480 (by decide +kernel) (by decide +kernel)
  | 24, _ => exact tg_of 1482 (by decide +kernel) (by decide +kernel)
  | 25, _ => exact tg_of 1484 (by decide +kernel) (by decide +kernel)
  | 26, _ => exact tg_of 1486 (by decide +kernel) (by decide +kernel)
  | 27, _ => exact tg_of 1488 (by decide +kernel) (by decide +kernel)
  | 28, _ => exact tg_of 1490 (by decide +kernel) (by decide +kernel)
  | 29, _ => exact tg_of 1492 (by decide +kernel) (by decide +kernel)
  | 30, _ => exact tg_of 1494 (by decide +kernel) (by decide +kernel)
  | 31, _ => exact tg_of 1496 (by decide +kernel) (by decide +kernel)
  | k + 32, hk => exact absurd hk (by omega)
theorem uwC {ci : Nat} {r : vw_C} (h : vwCl[ci]? = some r) : ∀ w ∈ u_ws r.1 r.2.1 r.2.2, w ∈ TG := by
  match ci, h with
  | 0, h => cases h; exact uwX0
  | 1, h => cases h; exact uwX1
  | 2, h => cases h; exact uwX2
  | 3, h => cases h; exact uwX3
  | 4, h => cases h; exact uwX4
  | 5, h => cases h; exact uwX5
  | 6, h => cases h; exact uwX6
  | 7, h => cases h; exact uwX7
  | 8, h => cases h; exact uwX8
  | 9, h => cases h; exact uwX9
  | 10, h => cases h; exact uwX10
  | 11, h => cases h; exact uwX11
  | i + 12, h => simp [vwCl] at h
/-- entry i of class own's pool is the field k0 of class ci -/
def FG (own : String) (i ci k0 : Nat) : Prop := ∃ r : vw_C, vwCl[ci]? = some r ∧ k0 < r.2.2 ∧ (Cond.fieldLink own i (r.2.1 k0).1 (r.2.1 k0).2.1 (r.2.1 k0).2.2.1 ∈ TG ∨ ∃ host, Cond.fieldLinkNest own i (r.2.1 k0).1 (r.2.1 k0).2.1 (r.2.1 k0).2.2.1 host ∈ TN)
def finC (ci k0 : Nat) : Bool := match vwCl[ci]? with
  | some r => (r.2.1 k0).2.2.2
  | none => false
def NF (own : String) (i ci N : Nat) : Prop := ∃ r : vw_C, vwCl[ci]? = some r ∧ r.2.2 = N ∧ Cond.classLink own i r.1 ∈ TG ∧ Cond.instantiable r.1 r.2.2 ∈ TG ∧ Cond.initialized r.1 ∈ TG
theorem ix_in {i : Int32} {j N : Nat} (hi : i.toInt = (j : Int)) (hj : j < N) : vp_in i N := vp_in_iff.mpr ⟨by omega, by omega⟩
theorem ix_cl {i : Int32} {j : Nat} (hi : i.toInt = (j : Int)) : i.toNatClampNeg = j := by
  show i.toInt.toNat = j
  omega
section MJ2
variable {Γ : GX} {k sl pc n : Nat} {ls : List (Nat × Value)} {st : List Value} {h : MH}
theorem mj_getf {i ci k0 a : Nat} {fs : List Value} {v : Value} (hd : decode (mcode Γ.2.1) pc = .ok (.getfield i, 3)) (hf : FG (my Γ.2.1).cls i ci k0) (hh : h a = some (cO ci fs)) (hv : fs[k0]? = some v) (g : GG Γ k sl (pc + 3) ls (v :: st) n h) : GG Γ k sl pc ls (.ref a :: st) n h := by
  intro p e s m args below meth c H locs lsr C S R L
  obtain ⟨r, hc, hk, hl⟩ := hf
  have hts : ∀ w ∈ TG, w.before args s = true := C.2.2.2.2.2.1
  rcases hl with hl | ⟨host, hl⟩
  · exact va_get C.1 C.2.1 hts (uwC hc) C.2.2.2.2.1 C.2.2.2.2.2.2.2.2.2.1 (R.at hh) 0 rfl hc k0 hk (hts _ hl) (fun _ x => x) hv hd (g p e s m args below meth c H locs lsr C S R L)
  · exact va_getN C.1 C.2.1 hts (uwC hc) C.2.2.2.2.1 C.2.2.2.2.2.2.2.2.2.1 (R.at hh) 0 rfl hc k0 hk (va_Nw.use rfl (C.2.2.2.2.2.2.2.2.2.2.2.1 _ hl)) (fun _ x => x) hv hd (g p e s m args below meth c H locs lsr C S R L)
theorem mj_putf {i ci k0 a : Nat} {fs fs' : List Value} {v : Value} (hd : decode (mcode Γ.2.1) pc = .ok (.putfield i, 3)) (hf : FG (my Γ.2.1).cls i ci k0) (hh : h a = some (cO ci fs)) (hfin : finC ci k0 = false) (hn : narrow (tyC ci k0) v = v) (hfit : fits (tyC ci k0) v = true) (hl : k0 < fs.length) (hs : fs.set k0 v = fs') (g : GG Γ k sl (pc + 3) ls st n (mup h a (cO ci fs'))) : GG Γ k sl pc ls (v :: .ref a :: st) n h := by
  intro p e s m args below meth c H locs lsr C S R L
  obtain ⟨r, hc, hk, hlk⟩ := hf
  have hts : ∀ w ∈ TG, w.before args s = true := C.2.2.2.2.2.1
  have hK : va_K (kD Γ.1) vwCl (ktys Γ.1) s := C.2.2.2.2.2.2.2.2.2.1
  have hin := uwC hc
  have hap := va_apart (own := (my Γ.2.1).cls) hts hin (tyC ci) (tyC_ok hc) (nmC_ok hc) hK hc
  have hfin : (r.2.1 k0).2.2.2 = false := by
    unfold finC at hfin
    rw [hc] at hfin
    exact hfin
  obtain ⟨hba, r', h1, cell, q1, q2, q3, q4⟩ := R.2.2 a _ hh
  have hr : r' = r := Option.some.inj (h1.symm.trans hc)
  subst hr
  obtain ⟨hS, hfc, kC, hkC, hkind⟩ := hK.1 ci _ hc
  obtain ⟨cf, kf, fi, f, hi, hsl⟩ := hS k0 hk
  have hlay := hts _ (hin _ (u_in_lay hk))
  unfold u_lay at hlay
  rw [if_neg (by rw [hfin]; decide)] at hlay
  have hst := (u_facts hfc hkC (u_lays hts hin hk) hi).1
  have h6 := u_store hfc hkC hkind hlay hi (tyC_ok hc k0 hk) hn hfit
  have done : ∀ H' : Heap, H'[a]? = some (cell.setSlot f.slot v) → H'.size = H.size → (∀ q, q ≠ a → H'[q]? = H[q]?) → W p (kl Γ.1) e { frames := mfr Γ.2.1, cells := Γ.2.2.1, slots := Γ.2.2.2.1, locals := mlo Γ.2.1 } s m args below meth c H' (locs ++ [⟨a, f.slot⟩]) k sl (vx_MQ below (QcM Γ.1 Γ.2.2.2.2) (XcM Γ.1 Γ.2.2.2.2) args s Γ.2.2.1 Γ.2.2.2.1 (kA Γ.1)) (F0 m (pc + 3) lsr st) := by
    intro H' e1 e2 e3
    rw [hsl] at e1
    subst hs
    exact g p e s m args below meth c H' _ lsr C (S.put e2 e3 hba) (R.set hh e2 e3 ⟨_, hc, t_OB.to (V := updV (vp_V fs) k0 v) ⟨_, e1, q2, q3, t_set q4 hap hk v⟩ (fun j _ => vp_updV_set hl v j)⟩) L
  rcases hlk with hlk | ⟨host, hlk⟩
  · exact W.putK C.1 C.2.1 (f := f) ⟨C.2.2.2.2.1, hts _ hlk, ⟨_, _, _, hi⟩, hst⟩ (by rw [q2]; exact h6) q1 q3 (by rw [hsl]; exact k2_hasslot (q4 k0 hk)) rfl rfl hd done
  · exact va_WputK C.1 C.2.1 (f := f) C.2.2.2.2.1 (va_Nw.use rfl (C.2.2.2.2.2.2.2.2.2.2.2.1 _ hlk)) hi hst (by rw [q2]; exact h6) q1 q3 (by rw [hsl]; exact k2_hasslot (q4 k0 hk)) rfl rfl hd done
/-- a final field, in its class's own constructor -/
theorem mj_putF {i ci k0 a : Nat} {fs fs' : List Value} {v : Value} (hd : decode (mcode Γ.2.1) pc = .ok (.putfield i, 3)) (hf : FG (my Γ.2.1).cls i ci k0) (hh : h a = some (cO ci fs)) (hfin : finC ci k0 = true) (hin2 : (my Γ.2.1).name = "<init>") (hdecl : ∀ r, vwCl[ci]? = some r → (r.2.1 k0).1 = (my Γ.2.1).cls) (hn : narrow (tyC ci k0) v = v) (hfit : fits (tyC ci k0) v = true) (hl : k0 < fs.length) (hnn : ∀ host r, vwCl[ci]? = some r → Cond.fieldLinkNest (my Γ.2.1).cls i (r.2.1 k0).1 (r.2.1 k0).2.1 (r.2.1 k0).2.2.1 host ∉ TN) (hs : fs.set k0 v = fs') (g : GG Γ k sl (pc + 3) ls st n (mup h a (cO ci fs'))) : GG Γ k sl pc ls (v :: .ref a :: st) n h := by
  intro p e s m args below meth c H locs lsr C S R L
  obtain ⟨r, hc, hk, hlk⟩ := hf
  have hts : ∀ w ∈ TG, w.before args s = true := C.2.2.2.2.2.1
  have hK : va_K (kD Γ.1) vwCl (ktys Γ.1) s := C.2.2.2.2.2.2.2.2.2.1
  have hin := uwC hc
  have hap := va_apart (own := (my Γ.2.1).cls) hts hin (tyC ci) (tyC_ok hc) (nmC_ok hc) hK hc
  have hfin : (r.2.1 k0).2.2.2 = true := by
    unfold finC at hfin
    rw [hc] at hfin
    exact hfin
  obtain ⟨hba, r', h1, cell, q1, q2, q3, q4⟩ := R.2.2 a _ hh
  have hr : r' = r := Option.some.inj (h1.symm.trans hc)
  subst hr
  obtain ⟨hS, hfc, kC, hkC, hkind⟩ := hK.1 ci _ hc
  obtain ⟨cf, kf, fi, f, hi, hsl⟩ := hS k0 hk
  have hlay := hts _ (hin _ (u_in_lay hk))
  unfold u_lay at hlay
  rw [if_pos hfin] at hlay
  have hst := (u_facts hfc hkC (u_lays hts hin hk) hi).1
  have hcf : m.cls = cf := by
    obtain ⟨_, _, c', _, _, _, -, -, hf', -, -, -, hown2, -⟩ := Cond.laysFinal_spec hlay
    have e1 : c' = cf := by have := hi.symm.trans hf'; simp at this; exact this.1.symm
    rw [hdecl r' hc] at hown2
    rw [← e1]; exact Option.some.inj (C.2.2.2.2.1.symm.trans hown2)
  have h6 := u_fits hfc hkC hkind (Or.inr hlay) hi (tyC_ok hc k0 hk) hn hfit
  have hlk : Cond.fieldLink (my Γ.2.1).cls i (r'.2.1 k0).1 (r'.2.1 k0).2.1 (r'.2.1 k0).2.2.1 ∈ TG := by
    rcases hlk with x | ⟨host, x⟩
    · exact x
    · exact absurd x (hnn host r' hc)
  refine W.putFinK C.1 C.2.1 C.2.2.2.2.1 (hts _ hlk) hi hst hcf (C.2.2.2.2.2.2.2.1.trans hin2) (by rw [q2]; exact h6) q1 q3 (by rw [hsl]; exact k2_hasslot (q4 k0 hk)) rfl rfl hd fun H' e1 e2 e3 => ?_
  rw [hsl] at e1 ⊢
  subst hs
  exact g p e s m args below meth c H' _ lsr C (S.put e2 e3 hba) (R.set hh e2 e3 ⟨_, hc, t_OB.to (V := updV (vp_V fs) k0 v) ⟨_, e1, q2, q3, t_set q4 hap hk v⟩ (fun j _ => vp_updV_set hl v j)⟩) L
theorem mj_gets {i q : Nat} (hq : q < 6) (hd : decode (mcode Γ.2.1) pc = .ok (.getstatic i, 3)) (hw : Cond.fieldLink (my Γ.2.1).cls i "Carpool$SetupReader" (saN q) "[I" ∈ TG) (g : GG Γ k sl (pc + 3) ls (.ref (kt Γ.1 q) :: st) n h) : GG Γ k sl pc ls st n h := by
  intro p e s m args below meth c H locs lsr C S R L
  have hSt := C.2.2.2.2.2.2.2.2.2.2
  exact va_gets C.1 C.2.1 (hSt.2.2.2.2.2.2.1 q hq).1 S C.2.2.2.2.1 (C.2.2.2.2.2.1 _ hw) (fun _ x => x) hd (g p e s m args below meth c H locs lsr C S R L)
theorem mj_stld {q j : Nat} {i : Int32} (hq : q < 6) (hi : i.toInt = (j : Int)) (hj : j < (saV q).length) (hd : decode (mcode Γ.2.1) pc = .ok (.iaload, 1)) (g : GG Γ k sl (pc + 1) ls (.int ((saV q).getD j 0) :: st) n h) : GG Γ k sl pc ls (.int i :: .ref (kt Γ.1 q) :: st) n h := by
  intro p e s m args below meth c H locs lsr C S R L
  have hSt := C.2.2.2.2.2.2.2.2.2.2
  exact va_ti C.1 C.2.1 (hSt.2.2.2.2.2.2.1 q hq).2 S (ix_in hi hj) (by rw [ix_cl hi]) hd (g p e s m args below meth c H locs lsr C S R L)
theorem mj_stlen {q : Nat} {v : Int32} (hq : q < 6) (hv : Int32.ofNat (saV q).length = v) (hd : decode (mcode Γ.2.1) pc = .ok (.arraylength, 1)) (g : GG Γ k sl (pc + 1) ls (.int v :: st) n h) : GG Γ k sl pc ls (.ref (kt Γ.1 q) :: st) n h := by
  intro p e s m args below meth c H locs lsr C S R L
  have hSt := C.2.2.2.2.2.2.2.2.2.2
  exact va_tlen C.1 C.2.1 (hSt.2.2.2.2.2.2.1 q hq).2 S hv hd (g p e s m args below meth c H locs lsr C S R L)
theorem mj_iald {a N j : Nat} {f : Nat → Int32} {i : Int32} (hh : h a = some (cI N f)) (hi : i.toInt = (j : Int)) (hj : j < N) (hd : decode (mcode Γ.2.1) pc = .ok (.iaload, 1)) (g : GG Γ k sl (pc + 1) ls (.int (f j) :: st) n h) : GG Γ k sl pc ls (.int i :: .ref a :: st) n h := by
  intro p e s m args below meth c H locs lsr C S R L
  have e1 := ix_cl hi
  subst e1
  exact va_iald C.1 C.2.1 C.2.2.2.2.2.2.2.2.2.1 (R.at hh) 0 0 rfl rfl (ix_in hi hj) hd (g p e s m args below meth c H locs lsr C S R L)
theorem mj_lald {a N j : Nat} {f : Nat → Int64} {i : Int32} (hh : h a = some (cJ N f)) (hi : i.toInt = (j : Int)) (hj : j < N) (hd : decode (mcode Γ.2.1) pc = .ok (.laload, 1)) (g : GG Γ k sl (pc + 1) ls (.long (f j) :: st) n h) : GG Γ k sl pc ls (.int i :: .ref a :: st) n h := by
  intro p e s m args below meth c H locs lsr C S R L
  have e1 := ix_cl hi
  subst e1
  exact va_lald C.1 C.2.1 C.2.2.2.2.2.2.2.2.2.1 (R.at hh) 0 1 rfl rfl (ix_in hi hj) hd (g p e s m args below meth c H locs lsr C S R L)
theorem mj_zald {a N j : Nat} {f : Nat → Int32} {i : Int32} (hh : h a = some (cZ N f)) (hi : i.toInt = (j : Int)) (hj : j < N) (hd : decode (mcode Γ.2.1) pc = .ok (.baload, 1)) (g : GG Γ k sl (pc + 1) ls (.int (f j) :: st) n h) : GG Γ k sl pc ls (.int i :: .ref a :: st) n h := by
  intro p e s m args below meth c H locs lsr C S R L
  have e1 := ix_cl hi
  subst e1
  exact va_zald C.1 C.2.1 C.2.2.2.2.2.2.2.2.2.1 (R.at hh) 0 2 rfl rfl (ix_in hi hj) hd (g p e s m args below meth c H locs lsr C S R L)
theorem mj_aaldB {a N j : Nat} {f : Nat → Option Nat} {i : Int32} (hh : h a = some (cQ 3 N f)) (hi : i.toInt = (j : Int)) (hj : j < N) (hd : decode (mcode Γ.2.1) pc = .ok (.aaload, 1)) (g : GG Γ k sl (pc + 1) ls (va_rf (f j) :: st) n h) : GG Γ k sl pc ls (.int i :: .ref a :: st) n h := by
  intro p e s m args below meth c H locs lsr C S R L
  have e1 := ix_cl hi
  subst e1
  exact va_aldq (C := "Carpool$Board") C.1 C.2.1 C.2.2.2.2.2.2.2.2.2.1 (R.at hh) 0 3 rfl rfl (ix_in hi hj) hd (g p e s m args below meth c H locs lsr C S R L)
theorem mj_aaldD {a N j : Nat} {f : Nat → Option Nat} {i : Int32} (hh : h a = some (cQ 4 N f)) (hi : i.toInt = (j : Int)) (hj : j < N) (hd : decode (mcode Γ.2.1) pc = .ok (.aaload, 1)) (g : GG Γ k sl (pc + 1) ls (va_rf (f j) :: st) n h) : GG Γ k sl pc ls (.int i :: .ref a :: st) n h := by
  intro p e s m args below meth c H locs lsr C S R L
  have e1 := ix_cl hi
  subst e1
  exact va_aldq (C := "Carpool$Driver") C.1 C.2.1 C.2.2.2.2.2.2.2.2.2.1 (R.at hh) 0 4 rfl rfl (ix_in hi hj) hd (g p e s m args below meth c H locs lsr C S R L)
theorem mj_aaldR {a N j : Nat} {f : Nat → Option Nat} {i : Int32} (hh : h a = some (cQ 5 N f)) (hi : i.toInt = (j : Int)) (hj : j < N) (hd : decode (mcode Γ.2.1) pc = .ok (.aaload, 1)) (g : GG Γ k sl (pc + 1) ls (va_rf (f j) :: st) n h) : GG Γ k sl pc ls (.int i :: .ref a :: st) n h := by
  intro p e s m args below meth c H locs lsr C S R L
  have e1 := ix_cl hi
  subst e1
  exact va_aldq (C := "Carpool$Rider") C.1 C.2.1 C.2.2.2.2.2.2.2.2.2.1 (R.at hh) 0 5 rfl rfl (ix_in hi hj) hd (g p e s m args below meth c H locs lsr C S R L)
theorem mj_aaldI {a N j : Nat} {f : Nat → Option Nat} {i : Int32} (hh : h a = some (cQ 6 N f)) (hi : i.toInt = (j : Int)) (hj : j < N) (hd : decode (mcode Γ.2.1) pc = .ok (.aaload, 1)) (g : GG Γ k sl (pc + 1) ls (va_rf (f j) :: st) n h) : GG Γ k sl pc ls (.int i :: .ref a :: st) n h := by
  intro p e s m args below meth c H locs lsr C S R L
  have e1 := ix_cl hi
  subst e1
  have hK : va_K (kD Γ.1) vwCl (ktys Γ.1) s := C.2.2.2.2.2.2.2.2.2.1
  exact W.aald (v := va_rf (f i.toNatClampNeg)) (ty := .array .int) C.1 C.2.1 (R.at hh 0 _ rfl) ((hK.2 6 _ rfl).1 N (fun j => va_rf (f j))) rfl (fun q => by cases q) (by show ¬ (i < 0 ∨ (arrV _ _ _).slots.size ≤ _); rw [arrV_size]; exact ix_in hi hj) (by show (arrV _ _ _).slots[_]? = _; rw [arrV_read _ _ hj]) rfl rfl hd (g p e s m args below meth c H locs lsr C S R L)
theorem mj_alen {a : Nat} {x : Nat × vp_A} {v : Int32} (hh : h a = some (.inl x)) (hx : x.1 < 7) (hv : Int32.ofNat x.2.1 = v) (hd : decode (mcode Γ.2.1) pc = .ok (.arraylength, 1)) (g : GG Γ k sl (pc + 1) ls (.int v :: st) n h) : GG Γ k sl pc ls (.ref a :: st) n h := by
  intro p e s m args below meth c H locs lsr C S R L
  obtain ⟨t, x⟩ := x
  have ht : (ktys Γ.1)[t]? = some (kcy Γ.1 t, kTy t) := by
    match t, hx with
    | 0, _ => rfl
    | 1, _ => rfl
    | 2, _ => rfl
    | 3, _ => rfl
    | 4, _ => rfl
    | 5, _ => rfl
    | 6, _ => rfl
    | t + 7, q => exact absurd q (by omega)
  exact va_alen C.1 C.2.1 C.2.2.2.2.2.2.2.2.2.1 (R.at hh) 0 t rfl ht hv hd (g p e s m args below meth c H locs lsr C S R L)
theorem mj_iast {a N j : Nat} {f : Nat → Int32} {i : Int32} {x : Int32} (hh : h a = some (cI N f)) (hi : i.toInt = (j : Int)) (hj : j < N) (hd : decode (mcode Γ.2.1) pc = .ok (.iastore, 1)) (g : GG Γ k sl (pc + 1) ls st n (mup h a (cI N (upd f j x)))) : GG Γ k sl pc ls (.int x :: .int i :: .ref a :: st) n h := by
  intro p e s m args below meth c H locs lsr C S R L
  have e1 := ix_cl hi
  subst e1
  have hK : va_K (kD Γ.1) vwCl (ktys Γ.1) s := C.2.2.2.2.2.2.2.2.2.1
  refine W.iast C.1 C.2.1 (R.at hh 0 _ rfl) ((hK.2 0 _ rfl).1 N (fun j => .int (f j))) (fun q => by cases q) (by show ¬ (i < 0 ∨ (arrV _ _ _).slots.size ≤ _); rw [arrV_size]; exact ix_in hi hj) rfl rfl hd fun H1 e z oq => ?_
  refine g p _ s m args below meth c H1 _ lsr C (S.put z oq (R.2.2 a _ hh).1) (R.set hh z oq ?_) L
  show H1[a]? = some (vp_cell _ _)
  rw [e]
  show some ((vp_cell _ _).setSlot _ _) = _
  rw [vp_cell_i, vp_cell_i, arrV_store]
  congr 2
  funext q
  by_cases hq : q = i.toNatClampNeg
  · subst hq
    simp [updV, upd]
  · simp [updV, upd, hq]
theorem mj_last {a N j : Nat} {f : Nat → Int64} {i : Int32} {x : Int64} (hh : h a = some (cJ N f)) (hi : i.toInt = (j : Int)) (hj : j < N) (hd : decode (mcode Γ.2.1) pc = .ok (.lastore, 1)) (g : GG Γ k sl (pc + 1) ls st n (mup h a (cJ N (vp_updL f j x)))) : GG Γ k sl pc ls (.long x :: .int i :: .ref a :: st) n h := by
  intro p e s m args below meth c H locs lsr C S R L
  have e1 := ix_cl hi
  subst e1
  have hK : va_K (kD Γ.1) vwCl (ktys Γ.1) s := C.2.2.2.2.2.2.2.2.2.1
  refine W.last C.1 C.2.1 (R.at hh 0 _ rfl) ((hK.2 1 _ rfl).1 N (fun j => .long (f j))) (fun q => by cases q) (by show ¬ (i < 0 ∨ (arrV _ _ _).slots.size ≤ _); rw [arrV_size]; exact ix_in hi hj) rfl rfl hd fun H1 e z oq => ?_
  refine g p _ s m args below meth c H1 _ lsr C (S.put z oq (R.2.2 a _ hh).1) (R.set hh z oq ?_) L
  show H1[a]? = some (vp_cell _ _)
  rw [e]
  show some ((vp_cell _ _).setSlot _ _) = _
  rw [vp_cell_l, vp_cell_l, arrV_store]
  congr 2
  funext q
  by_cases hq : q = i.toNatClampNeg
  · subst hq
    simp [updV, vp_updL]
  · simp [updV, vp_updL, hq]
theorem mj_zast {a N j : Nat} {f : Nat → Int32} {i : Int32} {x : Int32} (hh : h a = some (cZ N f)) (hi : i.toInt = (j : Int)) (hj : j < N) (hx : narrow .boolean (.int x) = .int x) (hd : decode (mcode Γ.2.1) pc = .ok (.bastore, 1)) (g : GG Γ k sl (pc + 1) ls st n (mup h a (cZ N (upd f j x)))) : GG Γ k sl pc ls (.int x :: .int i :: .ref a :: st) n h := by
  intro p e s m args below meth c H locs lsr C S R L
  have e1 := ix_cl hi
  subst e1
  have hK : va_K (kD Γ.1) vwCl (ktys Γ.1) s := C.2.2.2.2.2.2.2.2.2.1
  refine W.zast C.1 C.2.1 (R.at hh 0 _ rfl) ((hK.2 2 _ rfl).1 N (fun j => .int (f j))) (fun q => by cases q) (by show ¬ (i < 0 ∨ (arrV _ _ _).slots.size ≤ _); rw [arrV_size]; exact ix_in hi hj) rfl rfl hd fun H1 e z oq => ?_
  refine g p _ s m args below meth c H1 _ lsr C (S.put z oq (R.2.2 a _ hh).1) (R.set hh z oq ?_) L
  show H1[a]? = some (vp_cell _ _)
  rw [e]
  show some ((vp_cell _ _).setSlot _ _) = _
  rw [vp_cell_i, vp_cell_i, arrV_store]
  congr 2
  funext q
  by_cases hq : q = i.toNatClampNeg
  · subst hq
    simp [updV, upd, hx]
  · simp [updV, upd, hx, hq]
theorem mj_aastB {a N j v : Nat} {f : Nat → Option Nat} {i : Int32} {vs : List Value} (hh : h a = some (cQ 3 N f)) (hv : h v = some (cO 0 vs)) (hi : i.toInt = (j : Int)) (hj : j < N) (hd : decode (mcode Γ.2.1) pc = .ok (.aastore, 1)) (g : GG Γ k sl (pc + 1) ls st n (mup h a (cQ 3 N (va_up f j (some v))))) : GG Γ k sl pc ls (.ref v :: .int i :: .ref a :: st) n h := by
  intro p e s m args below meth c H locs lsr C S R L
  have e1 := ix_cl hi
  subst e1
  have hK : va_K (kD Γ.1) vwCl (ktys Γ.1) s := C.2.2.2.2.2.2.2.2.2.1
  have h0 : ¬ i < 0 := fun q => ix_in hi hj (Or.inl q)
  obtain ⟨-, r', hr', cellV, g1, g2, g3, -⟩ := R.2.2 v _ hv
  have hcls := (hK.1 0 _ rfl).2
  obtain ⟨kA9, comp, k1, k2, k3, -⟩ := (hK.2 3 _ rfl).2
  have hcomp : comp = (kD Γ.1).1 0 := Option.some.inj (k3.symm.trans hcls.1)
  subst hcomp
  obtain ⟨kC, hkC, -⟩ := hcls.2
  refine W.aast C.1 C.2.1 (R.at hh 0 _ rfl) (fun q h => by cases h) (fun h => by cases h) k1 k2 rfl hkC ⟨h0, by show _ < (arrV _ _ _).slots.size; rw [arrV_size]; exact hj⟩ g1 (fun q h => by rw [g3] at h; cases h) (by rw [g2]; exact hkC) (by rw [g2]; exact va_assign hcls) rfl rfl hd fun H1 e z oq => ?_
  refine g p _ s m args below meth c H1 _ lsr C (S.put z oq (R.2.2 a _ hh).1) (R.set hh z oq ?_) L
  show H1[a]? = some (vp_cell _ _)
  rw [e]
  show some ((vp_cell _ _).setSlot _ _) = _
  rw [vp_cell_q, vp_cell_q, arrV_store]
  congr 2
  funext q
  by_cases hq : q = i.toNatClampNeg
  · subst hq
    simp [updV, va_up, va_rf]
  · simp [updV, va_up, hq]
theorem mj_aastD {a N j v : Nat} {f : Nat → Option Nat} {i : Int32} {vs : List Value} (hh : h a = some (cQ 4 N f)) (hv : h v = some (cO 1 vs)) (hi : i.toInt = (j : Int)) (hj : j < N) (hd : decode (mcode Γ.2.1) pc = .ok (.aastore, 1)) (g : GG Γ k sl (pc + 1) ls st n (mup h a (cQ 4 N (va_up f j (some v))))) : GG Γ k sl pc ls (.ref v :: .int i :: .ref a :: st) n h := by
  intro p e s m args below meth c H locs lsr C S R L
  have e1 := ix_cl hi
  subst e1
  have hK : va_K (kD Γ.1) vwCl (ktys Γ.1) s := C.2.2.2.2.2.2.2.2.2.1
  have h0 : ¬ i < 0 := fun q => ix_in hi hj (Or.inl q)
  obtain ⟨-, r', hr', cellV, g1, g2, g3, -⟩ := R.2.2 v _ hv
  have hcls := (hK.1 1 _ rfl).2
  obtain ⟨kA9, comp, k1, k2, k3, -⟩ := (hK.2 4 _ rfl).2
  have hcomp : comp = (kD Γ.1).1 1 := Option.some.inj (k3.symm.trans hcls.1)
  subst hcomp
  obtain ⟨kC, hkC, -⟩ := hcls.2
  refine W.aast C.1 C.2.1 (R.at hh 0 _ rfl) (fun q h => by cases h) (fun h => by cases h) k1 k2 rfl hkC ⟨h0, by show _ < (arrV _ _ _).slots.size; rw [arrV_size]; exact hj⟩ g1 (fun q h => by rw [g3] at h; cases h) (by rw [g2]; exact hkC) (by rw [g2]; exact va_assign hcls) rfl rfl hd fun H1 e z oq => ?_
  refine g p _ s m args below meth c H1 _ lsr C (S.put z oq (R.2.2 a _ hh).1) (R.set hh z oq ?_) L
  show H1[a]? = some (vp_cell _ _)
  rw [e]
  show some ((vp_cell _ _).setSlot _ _) = _
  rw [vp_cell_q, vp_cell_q, arrV_store]
  congr 2
  funext q
  by_cases hq : q = i.toNatClampNeg
  · subst hq
    simp [updV, va_up, va_rf]
  · simp [updV, va_up, hq]
theorem mj_aastR {a N j v : Nat} {f : Nat → Option Nat} {i : Int32} {vs : List Value} (hh : h a = some (cQ 5 N f)) (hv : h v = some (cO 5 vs)) (hi : i.toInt = (j : Int)) (hj : j < N) (hd : decode (mcode Γ.2.1) pc = .ok (.aastore, 1)) (g : GG Γ k sl (pc + 1) ls st n (mup h a (cQ 5 N (va_up f j (some v))))) : GG Γ k sl pc ls (.ref v :: .int i :: .ref a :: st) n h := by
  intro p e s m args below meth c H locs lsr C S R L
  have e1 := ix_cl hi
  subst e1
  have hK : va_K (kD Γ.1) vwCl (ktys Γ.1) s := C.2.2.2.2.2.2.2.2.2.1
  have h0 : ¬ i < 0 := fun q => ix_in hi hj (Or.inl q)
  obtain ⟨-, r', hr', cellV, g1, g2, g3, -⟩ := R.2.2 v _ hv
  have hcls := (hK.1 5 _ rfl).2
  obtain ⟨kA9, comp, k1, k2, k3, -⟩ := (hK.2 5 _ rfl).2
  have hcomp : comp = (kD Γ.1).1 5 := Option.some.inj (k3.symm.trans hcls.1)
  subst hcomp
  obtain ⟨kC, hkC, -⟩ := hcls.2
  refine W.aast C.1 C.2.1 (R.at hh 0 _ rfl) (fun q h => by cases h) (fun h => by cases h) k1 k2 rfl hkC ⟨h0, by show _ < (arrV _ _ _).slots.size; rw [arrV_size]; exact hj⟩ g1 (fun q h => by rw [g3] at h; cases h) (by rw [g2]; exact hkC) (by rw [g2]; exact va_assign hcls) rfl rfl hd fun H1 e z oq => ?_
  refine g p _ s m args below meth c H1 _ lsr C (S.put z oq (R.2.2 a _ hh).1) (R.set hh z oq ?_) L
  show H1[a]? = some (vp_cell _ _)
  rw [e]
  show some ((vp_cell _ _).setSlot _ _) = _
  rw [vp_cell_q, vp_cell_q, arrV_store]
  congr 2
  funext q
  by_cases hq : q = i.toNatClampNeg
  · subst hq
    simp [updV, va_up, va_rf]
  · simp [updV, va_up, hq]
end MJ2
