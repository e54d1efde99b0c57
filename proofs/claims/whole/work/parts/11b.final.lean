/-- a link of the class itself -/
def FGF (own : String) (i ci k0 : Nat) : Prop := ∃ r : vw_C, vwCl[ci]? = some r ∧ k0 < r.2.2 ∧ Cond.fieldLink own i (r.2.1 k0).1 (r.2.1 k0).2.1 (r.2.1 k0).2.2.1 ∈ TG
section MJ7
variable {Γ : GX} {k sl pc n : Nat} {ls : List (Nat × Value)} {st : List Value} {h : MH}
/-- a final field, in its class's own constructor -/
theorem mj_putG {i ci k0 a : Nat} {fs fs' : List Value} {v : Value} (hd : decode (mcode Γ.2.1) pc = .ok (.putfield i, 3)) (hf : FGF (my Γ.2.1).cls i ci k0) (hh : h a = some (cO ci fs)) (hfin : finC ci k0 = true) (hin2 : (my Γ.2.1).name = "<init>") (hdecl : ∀ r, vwCl[ci]? = some r → (r.2.1 k0).1 = (my Γ.2.1).cls) (hn : narrow (tyC ci k0) v = v) (hfit : fits (tyC ci k0) v = true) (hl : k0 < fs.length) (hs : fs.set k0 v = fs') (g : GG Γ k sl (pc + 3) ls st n (mup h a (cO ci fs'))) : GG Γ k sl pc ls (v :: .ref a :: st) n h := by
  intro p e s m args below meth c H locs lsr C S R L
  obtain ⟨r, hc, hk, hlk⟩ := hf
  have hts : ∀ w ∈ TG, w.before args s = true := C.2.2.2.2.2.1
  have hK : va_K (kD Γ.1) vwCl (ktys Γ.1) s := C.2.2.2.2.2.2.2.2.2.1
  have hin := uwC hc
  have hap := va_apart (own := (my Γ.2.1).cls) hts hin (tyC ci) (tyC_ok hc) (nmC_ok hc) hK hc
  have hfin : (r.2.1 k0).2.2.2 = true := by
    unfold finC at hfin
    rw [hc] at hfin
    exact hfin
  obtain ⟨hba, r', h1, cell, q1, q2, q3, q4⟩ := R.2.2 a _ hh
  have hr : r' = r := Option.some.inj (h1.symm.trans hc)
  subst hr
  obtain ⟨hS, hfc, kC, hkC, hkind⟩ := hK.1 ci _ hc
  obtain ⟨cf, kf, fi, f, hi, hsl⟩ := hS k0 hk
  have hlay := hts _ (hin _ (u_in_lay hk))
  unfold u_lay at hlay
  rw [if_pos hfin] at hlay
  have hst := (u_facts hfc hkC (u_lays hts hin hk) hi).1
  have hcf : m.cls = cf := by
    obtain ⟨_, _, c', _, _, _, -, -, hf', -, -, -, hown2, -⟩ := Cond.laysFinal_spec hlay
    have e1 : c' = cf := by have := hi.symm.trans hf'; simp at this; exact this.1.symm
    rw [hdecl r' hc] at hown2
    rw [← e1]; exact Option.some.inj (C.2.2.2.2.1.symm.trans hown2)
  have h6 := u_fits hfc hkC hkind (Or.inr hlay) hi (tyC_ok hc k0 hk) hn hfit
  refine W.putFinK C.1 C.2.1 C.2.2.2.2.1 (hts _ hlk) hi hst hcf (C.2.2.2.2.2.2.2.1.trans hin2) (by rw [q2]; exact h6) q1 q3 (by rw [hsl]; exact k2_hasslot (q4 k0 hk)) rfl rfl hd fun H' e1 e2 e3 => ?_
  rw [hsl] at e1 ⊢
  subst hs
  exact g p e s m args below meth c H' _ lsr C (S.put e2 e3 hba) (R.set hh e2 e3 ⟨_, hc, t_OB.to (V := updV (vp_V fs) k0 v) ⟨_, e1, q2, q3, t_set q4 hap hk v⟩ (fun j _ => vp_updV_set hl v j)⟩) L
end MJ7
theorem ffX6_9 : FGF RX6 9 6 0 := ⟨(RX6, TX6, 5), rfl, by decide, (tg_m (tb1 64 (by decide +kernel)) (by decide +kernel))⟩
theorem ffX6_15 : FGF RX6 15 6 1 := ⟨(RX6, TX6, 5), rfl, by decide, (tg_m (tb1 66 (by decide +kernel)) (by decide +kernel))⟩
theorem ffX6_18 : FGF RX6 18 6 2 := ⟨(RX6, TX6, 5), rfl, by decide, (tg_m (tb1 67 (by decide +kernel)) (by decide +kernel))⟩
theorem ffX6_21 : FGF RX6 21 6 3 := ⟨(RX6, TX6, 5), rfl, by decide, (tg_m (tb1 68 (by decide +kernel)) (by decide +kernel))⟩
theorem ffX1_16 : FGF RX1 16 1 0 := ⟨(RX1, TX1, 8), rfl, by decide, (tg_m (tb1 84 (by decide +kernel)) (by decide +kernel))⟩
theorem ffX1_10 : FGF RX1 10 1 1 := ⟨(RX1, TX1, 8), rfl, by decide, (tg_m (tb1 89 (by decide +kernel)) (by decide +kernel))⟩
theorem ffX5_15 : FGF RX5 15 5 0 := ⟨(RX5, TX5, 10), rfl, by decide, (tg_m (tb1 138 (by decide +kernel)) (by decide +kernel))⟩
theorem ffX0_11 : FGF RX0 11 0 0 := ⟨(RX0, TX0, 5), rfl, by decide, (tg_m (tb1 193 (by decide +kernel)) (by decide +kernel))⟩
theorem ffX0_19 : FGF RX0 19 0 1 := ⟨(RX0, TX0, 5), rfl, by decide, (tg_m (tb1 194 (by decide +kernel)) (by decide +kernel))⟩
theorem ffX2_12 : FGF RX2 12 2 0 := ⟨(RX2, TX2, 4), rfl, by decide, (tg_m (tb1 226 (by decide +kernel)) (by decide +kernel))⟩
theorem ffX2_18 : FGF RX2 18 2 1 := ⟨(RX2, TX2, 4), rfl, by decide, (tg_m (tb1 227 (by decide +kernel)) (by decide +kernel))⟩
theorem ffX4_11 : FGF RX4 11 4 0 := ⟨(RX4, TX4, 1), rfl, by decide, (tg_m (tb2 7 (by decide +kernel)) (by decide +kernel))⟩
theorem ffX3_9 : FGF RX3 9 3 0 := ⟨(RX3, TX3, 2), rfl, by decide, (tg_m (tb2 17 (by decide +kernel)) (by decide +kernel))⟩
theorem ffX3_15 : FGF RX3 15 3 1 := ⟨(RX3, TX3, 2), rfl, by decide, (tg_m (tb2 18 (by decide +kernel)) (by decide +kernel))⟩
theorem ffX9_9 : FGF RX9 9 9 0 := ⟨(RX9, TX9, 4), rfl, by decide, (tg_m (tb2 30 (by decide +kernel)) (by decide +kernel))⟩
theorem ffX9_15 : FGF RX9 15 9 1 := ⟨(RX9, TX9, 4), rfl, by decide, (tg_m (tb2 32 (by decide +kernel)) (by decide +kernel))⟩
theorem ffX9_18 : FGF RX9 18 9 2 := ⟨(RX9, TX9, 4), rfl, by decide, (tg_m (tb2 33 (by decide +kernel)) (by decide +kernel))⟩
theorem ffX8_9 : FGF RX8 9 8 0 := ⟨(RX8, TX8, 2), rfl, by decide, (tg_m (tb2 51 (by decide +kernel)) (by decide +kernel))⟩
theorem ffX7_9 : FGF RX7 9 7 0 := ⟨(RX7, TX7, 7), rfl, by decide, (tg_m (tb2 66 (by decide +kernel)) (by decide +kernel))⟩
theorem ffX10_19 : FGF RX10 19 10 2 := ⟨(RX10, TX10, 9), rfl, by decide, (tg_m (tb2 92 (by decide +kernel)) (by decide +kernel))⟩
theorem ffX10_26 : FGF RX10 26 10 3 := ⟨(RX10, TX10, 9), rfl, by decide, (tg_m (tb2 93 (by decide +kernel)) (by decide +kernel))⟩
theorem ffX10_33 : FGF RX10 33 10 4 := ⟨(RX10, TX10, 9), rfl, by decide, (tg_m (tb2 94 (by decide +kernel)) (by decide +kernel))⟩
theorem ffX10_40 : FGF RX10 40 10 5 := ⟨(RX10, TX10, 9), rfl, by decide, (tg_m (tb2 95 (by decide +kernel)) (by decide +kernel))⟩
theorem ffX10_47 : FGF RX10 47 10 6 := ⟨(RX10, TX10, 9), rfl, by decide, (tg_m (tb2 96 (by decide +kernel)) (by decide +kernel))⟩
theorem ffX10_54 : FGF RX10 54 10 7 := ⟨(RX10, TX10, 9), rfl, by decide, (tg_m (tb2 97 (by decide +kernel)) (by decide +kernel))⟩
theorem ffX10_61 : FGF RX10 61 10 8 := ⟨(RX10, TX10, 9), rfl, by decide, (tg_m (tb2 98 (by decide +kernel)) (by decide +kernel))⟩
theorem ffX11_7 : FGF RX11 7 11 0 := ⟨(RX11, TX11, 32), rfl, by decide, (tg_m (tb6 55 (by decide +kernel)) (by decide +kernel))⟩
theorem ffX11_13 : FGF RX11 13 11 1 := ⟨(RX11, TX11, 32), rfl, by decide, (tg_m (tb6 56 (by decide +kernel)) (by decide +kernel))⟩
theorem ffX11_16 : FGF RX11 16 11 2 := ⟨(RX11, TX11, 32), rfl, by decide, (tg_m (tb6 57 (by decide +kernel)) (by decide +kernel))⟩
theorem ffX11_19 : FGF RX11 19 11 3 := ⟨(RX11, TX11, 32), rfl, by decide, (tg_m (tb6 58 (by decide +kernel)) (by decide +kernel))⟩
theorem ffX11_23 : FGF RX11 23 11 4 := ⟨(RX11, TX11, 32), rfl, by decide, (tg_m (tb6 59 (by decide +kernel)) (by decide +kernel))⟩
theorem ffX11_26 : FGF RX11 26 11 5 := ⟨(RX11, TX11, 32), rfl, by decide, (tg_m (tb6 60 (by decide +kernel)) (by decide +kernel))⟩
theorem ffX11_29 : FGF RX11 29 11 6 := ⟨(RX11, TX11, 32), rfl, by decide, (tg_m (tb6 61 (by decide +kernel)) (by decide +kernel))⟩
theorem ffX11_33 : FGF RX11 33 11 8 := ⟨(RX11, TX11, 32), rfl, by decide, (tg_m (tb6 63 (by decide +kernel)) (by decide +kernel))⟩
theorem ffX11_36 : FGF RX11 36 11 12 := ⟨(RX11, TX11, 32), rfl, by decide, (tg_m (tb6 67 (by decide +kernel)) (by decide +kernel))⟩
theorem ffX11_39 : FGF RX11 39 11 16 := ⟨(RX11, TX11, 32), rfl, by decide, (tg_m (tb6 71 (by decide +kernel)) (by decide +kernel))⟩
theorem ffX11_42 : FGF RX11 42 11 17 := ⟨(RX11, TX11, 32), rfl, by decide, (tg_m (tb6 72 (by decide +kernel)) (by decide +kernel))⟩
theorem ffX11_45 : FGF RX11 45 11 18 := ⟨(RX11, TX11, 32), rfl, by decide, (tg_m (tb6 73 (by decide +kernel)) (by decide +kernel))⟩
theorem ffX11_48 : FGF RX11 48 11 19 := ⟨(RX11, TX11, 32), rfl, by decide, (tg_m (tb6 74 (by decide +kernel)) (by decide +kernel))⟩
theorem ffX11_51 : FGF RX11 51 11 21 := ⟨(RX11, TX11, 32), rfl, by decide, (tg_m (tb6 76 (by decide +kernel)) (by decide +kernel))⟩
theorem ffX11_58 : FGF RX11 58 11 31 := ⟨(RX11, TX11, 32), rfl, by decide, (tg_m (tb6 86 (by decide +kernel)) (by decide +kernel))⟩
