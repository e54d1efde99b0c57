theorem sub_2 (x a b : Int32) : x - a - b = x - (a + b) := by grind
theorem vrs_s (m rest sum : Int32) (W O F : Nat → Int32) (k : Nat) : v_rs m rest sum W O F (k + 1) = (upd (v_rs m rest sum W O F k).1 k ((v_rs m rest sum W O F k).1 k + rest * W k / sum), upd (v_rs m rest sum W O F k).2.1 k (if i_bit m (nI k) then rest * W k - rest * W k / sum * sum else -1), (v_rs m rest sum W O F k).2.2 - rest * W k / sum) := rfl
theorem vrs_v {m rest sum : Int32} {W O F : Nat → Int32} {P : Nat → Bool} {ω : Nat → Nat} {ρ σ : Nat} (hP : ∀ r, r < 20 → i_bit m (nI r) = P r) (hr : rest = nI ρ) (hs : sum = nI σ) (s0 : 0 < σ) (s1 : σ < 2147483648) (hW : ∀ q, q < 20 → W q = nI (ω q)) (hb : ∀ q, q < 20 → ρ * ω q < 2147483648) : ∀ k, k ≤ 20 →
    (v_rs m rest sum W O F k).2.2 = rest - nI (sumN (fun q => ρ * ω q / σ) k) ∧ (∀ r, r < k → (v_rs m rest sum W O F k).1 r = O r + nI (ρ * ω r / σ)) ∧ (∀ r, k ≤ r → (v_rs m rest sum W O F k).1 r = O r) ∧ ∀ r, r < k → (v_rs m rest sum W O F k).2.1 r = if P r then nI (ρ * ω r % σ) else -1
  | 0, _ => ⟨(Int32.sub_zero _).symm, fun r h => absurd h (by omega), fun _ _ => rfl, fun r h => absurd h (by omega)⟩
  | k + 1, hk => by
    obtain ⟨a, b, c, e⟩ := vrs_v (O := O) (F := F) hP hr hs s0 s1 hW hb k (by omega)
    have h1 := hb k (by omega)
    have hm : rest * W k = nI (ρ * ω k) := by rw [hr, hW k (by omega), nI_mul]
    have hd : rest * W k / sum = nI (ρ * ω k / σ) := by
      rw [hm, hs]
      exact pk_div (by omega) s0 (by omega)
    have hf : rest * W k - rest * W k / sum * sum = nI (ρ * ω k % σ) := by
      rw [hm, hs]
      exact pk_rem (by omega) s0 (by omega)
    rw [vrs_s, hP k (by omega), hf, hd]
    refine ⟨?_, fun r hr9 => ?_, fun r hr9 => ?_, fun r hr9 => ?_⟩
    · show (v_rs m rest sum W O F k).2.2 - nI (ρ * ω k / σ) = rest - nI (sumN (fun q => ρ * ω q / σ) k + ρ * ω k / σ)
      rw [a, sub_2, nI_add]
    · by_cases z : r = k
      · subst z
        refine ux_s.trans ?_
        rw [c r (Nat.le_refl _)]
      · exact (ux_n z).trans (b r (by omega))
    · exact (ux_n (by omega)).trans (c r (by omega))
    · by_cases z : r = k
      · subst z
        exact ux_s
      · exact (ux_n z).trans (e r (by omega))
theorem sumN_mul (a : Nat) (f : Nat → Nat) : ∀ k, sumN (fun q => a * f q) k = a * sumN f k
  | 0 => rfl
  | k + 1 => by
    show sumN (fun q => a * f q) k + a * f k = a * (sumN f k + f k)
    rw [sumN_mul a f k, Nat.mul_add]
theorem sumN_dm (a σ : Nat) (f : Nat → Nat) : ∀ k, sumN (fun q => a * f q) k = σ * sumN (fun q => a * f q / σ) k + sumN (fun q => a * f q % σ) k
  | 0 => rfl
  | k + 1 => by
    show sumN (fun q => a * f q) k + a * f k = σ * (sumN (fun q => a * f q / σ) k + a * f k / σ) + (sumN (fun q => a * f q % σ) k + a * f k % σ)
    have := Nat.div_add_mod (a * f k) σ
    rw [sumN_dm a σ f k, Nat.mul_add]
    omega
theorem sumN_ct {P : Nat → Bool} {f : Nat → Nat} {b : Nat} : ∀ k, (∀ q, q < k → P q = true → f q ≤ b) → (∀ q, P q = false → f q = 0) → sumN f k ≤ b * i_count P k
  | 0, _, _ => Nat.zero_le _
  | k + 1, h, h0 => by
    have ih := sumN_ct k (fun q hq => h q (by omega)) h0
    rw [i_count_s]
    show sumN f k + f k ≤ _
    cases p : P k
    · rw [if_neg (by decide), h0 k p]
      exact ih
    · have := h k (by omega) p
      rw [if_pos rfl, Nat.mul_succ]
      omega
/-- what is left behind the whole parts: one cent for each at most -/
theorem left_le {P : Nat → Bool} {ω : Nat → Nat} {ρ σ : Nat} (hσ : σ = sumN ω 20) (s0 : 0 < σ) (h0 : ∀ q, P q = false → ω q = 0) : sumN (fun q => ρ * ω q / σ) 20 ≤ ρ ∧ ρ - sumN (fun q => ρ * ω q / σ) 20 ≤ i_count P 20 := by
  have e1 := sumN_dm ρ σ ω 20
  rw [sumN_mul, ← hσ] at e1
  have e2 := sumN_ct (P := P) (f := fun q => ρ * ω q % σ) (b := σ) 20 (fun q _ _ => Nat.le_of_lt (Nat.mod_lt _ s0)) fun q hq => by
    show ρ * ω q % σ = 0
    rw [h0 q hq, Nat.mul_zero, Nat.zero_mod]
  generalize sumN (fun q => ρ * ω q / σ) 20 = X at *
  generalize sumN (fun q => ρ * ω q % σ) 20 = F at *
  have h1 : σ * X ≤ σ * ρ := by
    rw [Nat.mul_comm σ ρ]
    omega
  have h2 : X ≤ ρ := Nat.le_of_mul_le_mul_left h1 s0
  refine ⟨h2, Nat.le_of_mul_le_mul_left ?_ s0⟩
  rw [Nat.mul_sub, Nat.mul_comm σ ρ]
  omega
theorem dpto_v {cost S : Int32} {Wl : List Int32} {P : Nat → Bool} {ω : Nat → Nat} {ρ σ r : Nat} (hc : cost = nI ρ) (hs : S = nI σ) (s0 : 0 < σ) (s1 : σ < 2147483648) (h0 : ∀ q, P q = false → ω q = 0) (hW : ∀ q, q < 20 → P q = true → Wl.getD (i_count P q) 0 = nI (ω q)) (hb : ∀ q, q < 20 → ρ * ω q < 2147483648) (hr : r < 20) (hp : P r = true) : ∀ k, k ≤ 20 →
    dp_to cost S Wl (i_count P r) (i_count P k) = (cost - nI (sumN (fun q => ρ * ω q / σ) k), nI (i_count (fun q => P q && bef (fun q => ρ * ω q % σ) r q) k))
  | 0, _ => by
    show (cost, (0 : Int32)) = _
    rw [show sumN (fun q => ρ * ω q / σ) 0 = 0 from rfl, show nI 0 = 0 from rfl, Int32.sub_zero]
    rfl
  | k + 1, hk => by
    have ih := dpto_v hc hs s0 s1 h0 hW hb hr hp k (by omega)
    have e1 : sumN (fun q => ρ * ω q / σ) (k + 1) = sumN (fun q => ρ * ω q / σ) k + ρ * ω k / σ := rfl
    have e2 : i_count (fun q => P q && bef (fun q => ρ * ω q % σ) r q) (k + 1) = i_count (fun q => P q && bef (fun q => ρ * ω q % σ) r q) k + (if (P k && bef (fun q => ρ * ω q % σ) r k) = true then 1 else 0) := rfl
    rw [e1, e2, i_count_s]
    cases p : P k
    · rw [if_neg (by decide), h0 k p, Nat.mul_zero, Nat.zero_div, Nat.add_zero, Nat.add_zero, Bool.false_and, if_neg (by decide), Nat.add_zero]
      exact ih
    · have fx : ∀ q, q < 20 → P q = true → dp_x cost S Wl (i_count P q) = nI (ρ * ω q / σ) ∧ dp_fr cost S Wl (i_count P q) = nI (ρ * ω q % σ) := fun q hq hpq => by
        have hm : cost * Wl.getD (i_count P q) 0 = nI (ρ * ω q) := by rw [hc, hW q hq hpq, nI_mul]
        have h1 := hb q hq
        unfold dp_x dp_fr
        rw [hm, hs]
        exact ⟨pk_div (by omega) s0 (by omega), pk_rem (by omega) s0 (by omega)⟩
      obtain ⟨x1, x2⟩ := fx k (by omega) p
      obtain ⟨-, x3⟩ := fx r hr hp
      have m1 := Nat.mod_lt (ρ * ω k) s0
      have m2 := Nat.mod_lt (ρ * ω r) s0
      have eb : (nI (ρ * ω r % σ) < nI (ρ * ω k % σ) ∨ (nI (ρ * ω k % σ) = nI (ρ * ω r % σ) ∧ i_count P k < i_count P r)) ↔ bef (fun q => ρ * ω q % σ) r k = true := by
        unfold bef
        rw [decide_eq_true_iff, nI_lt2 (by omega) (by omega), nI_inj (by omega) (by omega), ic_ltm p hp]
      rw [if_pos rfl, dp_to_s, ih, x1, x2, x3, Bool.true_and]
      refine Prod.ext ?_ ?_
      · show cost - nI (sumN (fun q => ρ * ω q / σ) k) - nI (ρ * ω k / σ) = _
        rw [sub_2, nI_add]
      · show nI (i_count (fun q => P q && bef (fun q => ρ * ω q % σ) r q) k) + (if nI (ρ * ω r % σ) < nI (ρ * ω k % σ) ∨ (nI (ρ * ω k % σ) = nI (ρ * ω r % σ) ∧ i_count P k < i_count P r) then 1 else 0) = _
        by_cases y : bef (fun q => ρ * ω q % σ) r k = true
        · rw [if_pos (eb.mpr y), if_pos y]
          exact nI_1 _
        · rw [if_neg (fun w => y (eb.mp w)), if_neg y, Int32.add_zero]
          rfl
theorem RB.base {B : BS} {g : Nat → Int32} {c : Nat → Int64} (h : RB B g c) {d : Nat} (hd : d < bnd B) : r_dir (bT B d) * dra (bD B d) = w_bs g d ∧ r_det (bT B d) * dra (bD B d) = w_dc g d (rl g d) ∧ (∃ b, b ≤ 20000 ∧ w_bs g d = nI b) ∧ ∃ ρ, ρ ≤ 39600 ∧ w_dc g d (rl g d) = nI ρ := by
  obtain ⟨e1, e2, -⟩ := h.rdet hd
  have r7 := (h.1.2.2.2.2.2.1 d hd).2.2.2.1
  obtain ⟨q1, q2, q3, q4, q5⟩ := h.det hd
  have iD := (h.2.1.1 d hd).1.2.2.2.2.2.1
  obtain ⟨n1, n2⟩ := nI_of9 (x := gd g d 7) (by omega)
  obtain ⟨n3, n4⟩ := nI_of9 (x := w_dir g d) q4
  obtain ⟨n5, n6⟩ := nI_of9 (x := w_len g d (rl g d) - w_dir g d) q2
  refine ⟨by rw [e2, ← r7]; rfl, by rw [e1, ← r7]; rfl, ⟨(w_dir g d).toInt.toNat * (gd g d 7).toInt.toNat, ?_, ?_⟩, ⟨(w_len g d (rl g d) - w_dir g d).toInt.toNat * (gd g d 7).toInt.toNat, ?_, ?_⟩⟩
  · exact Nat.le_trans (Nat.mul_le_mul (show (w_dir g d).toInt.toNat ≤ 198 by omega) (show (gd g d 7).toInt.toNat ≤ 99 by omega)) (by decide)
  · rw [← nI_mul, ← n1, ← n3]
    rfl
  · exact Nat.le_trans (Nat.mul_le_mul (show (w_len g d (rl g d) - w_dir g d).toInt.toNat ≤ 400 by omega) (show (gd g d 7).toInt.toNat ≤ 99 by omega)) (by decide)
  · rw [← nI_mul, ← n1, ← n5]
    rfl
theorem vrest_o {V : VS} {m rest sum : Int32} (h : 0 < sum) {s : (Nat → Int32) × (Nat → Int32) × Int32} (hs : v_rs m rest sum (vw V) (vo V) (vf V) 20 = s) {n : Nat} (hn : s.2.2.toInt.toNat = n) {t : (Nat → Int32) × (Nat → Int32)} (ht : v_cents (s.1, s.2.1) n = t) : v_rest V m rest sum = (t.1, vw V, t.2, vd V) := by
  unfold v_rest
  rw [if_pos h, hs, hn, ht]
theorem vrest_d (V : VS) (m rest sum : Int32) : vd (v_rest V m rest sum) = vd V := by
  unfold v_rest
  by_cases z : 0 < sum
  · rw [if_pos z]
  · rw [if_neg z]
theorem up_0 (e l : Int32) : v_up e l = e + if nI 0 < l then 1 else 0 := by
  unfold v_up
  rw [show nI 0 = 0 from rfl]
  by_cases z : 0 < l
  · rw [if_pos z, if_pos z]
  · rw [if_neg z, if_neg z, Int32.add_zero]
/-- THE DRIVER'S SHARE -/
theorem RB.shd {B : BS} {g : Nat → Int32} {c : Nat → Int64} (h : RB B g c) {d : Nat} (hd : d < bnd B) : b_shd B d = w_base g d (i_count (inP g d) (bnr B)) 0 := by
  obtain ⟨e1, -⟩ := h.base hd
  have hp := (h.pop hd).1
  unfold b_shd v_div
  rw [vrest_d]
  show v_up (v_each (r_mask (bT B d)) (r_dir (bT B d) * dra (bD B d))) (v_left (r_mask (bT B d)) (r_dir (bT B d) * dra (bD B d))) = _
  unfold v_left v_each w_base
  rw [e1, hp, up_0, show nI (i_count (inP g d) (bnr B)) + 1 = nI (i_count (inP g d) (bnr B) + 1) from nI_1 _]
theorem vrest_v {V : VS} {m rest sum : Int32} {P : Nat → Bool} {ω : Nat → Nat} {ρ σ r : Nat} (bit : ∀ r, r < 20 → i_bit m (nI r) = P r) (hr : rest = nI ρ) (hs : sum = nI σ) (p1 : ρ ≤ 39600) (eσ : σ = sumN ω 20) (s0 : 0 < σ) (s1 : σ ≤ 400000) (w1 : ∀ q, q < 20 → vw V q = nI (ω q)) (w2 : ∀ q, P q = false → ω q = 0) (pw : ∀ q, q < 20 → ρ * ω q < 2147483648) (hr20 : r < 20) (hm : P r = true) :
    vo (v_rest V m rest sum) r = vo V r + nI (ρ * ω r / σ) + if i_count (fun q => P q && bef (fun q => ρ * ω q % σ) r q) 20 < ρ - sumN (fun q => ρ * ω q / σ) 20 then 1 else 0 := by
  obtain ⟨l1, l2⟩ := left_le (P := P) (ρ := ρ) (σ := σ) eσ s0 w2
  obtain ⟨r1, r2, -, r4⟩ := vrs_v (m := m) (rest := rest) (sum := sum) (W := vw V) (O := vo V) (F := vf V) bit hr hs s0 (by omega) w1 pw 20 (Nat.le_refl _)
  have sp : 0 < sum := by
    rw [hs]
    exact (nI_lt2 (a := 0) (by omega) (by omega)).mpr s0
  generalize hs9 : v_rs m rest sum (vw V) (vo V) (vf V) 20 = s at r1 r2 r4
  have fl : ∀ q, (fun q => ρ * ω q % σ) q < 1000000 := fun q => by
    have := Nat.mod_lt (ρ * ω q) s0
    show ρ * ω q % σ < 1000000
    omega
  have lm : nI ρ - nI (sumN (fun q => ρ * ω q / σ) 20) = nI (ρ - sumN (fun q => ρ * ω q / σ) 20) := pk_sub l1
  rw [hr, lm] at r1
  have lt : s.2.2.toInt.toNat = ρ - sumN (fun q => ρ * ω q / σ) 20 := by
    rw [r1, ixn (by omega)]
    omega
  have cts := Cts.all (P := P) (O0 := s.1) (F0 := s.2.1) fl r4 _ l2
  generalize ht : v_cents (s.1, s.2.1) (ρ - sumN (fun q => ρ * ω q / σ) 20) = t at cts
  rw [vrest_o sp hs9 lt ht]
  show t.1 r = _
  rw [cts.who fl hr20 hm, r2 r hr20]
theorem vbase_v {V : VS} {m base : Int32} {P : Nat → Bool} {n b r : Nat} (bit : ∀ r, r < 20 → i_bit m (nI r) = P r) (hp : i_pop m = nI n) (hn : n ≤ 20) (hb : base = nI b) (b1 : b ≤ 20000) (hr20 : r < 20) (hm : P r = true) :
    vo (v_base V m base) r = base / nI (n + 1) + if nI (i_count P r + 1) < base - base / nI (n + 1) * nI (n + 1) then 1 else 0 := by
  have ev : v_each m base = base / nI (n + 1) := by
    unfold v_each
    rw [hp, show nI n + 1 = nI (n + 1) from nI_1 _]
  have el : v_left m base = base - base / nI (n + 1) * nI (n + 1) := by
    unfold v_left
    rw [ev, hp, show nI n + 1 = nI (n + 1) from nI_1 _]
  have lf : base - base / nI (n + 1) * nI (n + 1) = nI (b % (n + 1)) := by
    rw [hb]
    exact pk_rem (by omega) (by omega) (by omega)
  have ml := Nat.mod_lt b (show 0 < n + 1 by omega)
  have rl20 := ic_le P r
  have vb := (vbs_v (m := m) (each := v_each m base) (l0 := v_left m base + -1) (O := vo V) bit 20 (Nat.le_refl _)).2 r hr20
  rw [hm, if_pos rfl, ev, el, up_pl lf (by omega) (by omega)] at vb
  show (v_bs m (v_each m base) (v_left m base + -1) (vo V) 20).1 r = _
  rw [ev, el]
  exact vb
theorem dp_v {cost S : Int32} {Wl : List Int32} {P : Nat → Bool} {ω : Nat → Nat} {ρ σ r : Nat} (hc : cost = nI ρ) (hs : S = nI σ) (p1 : ρ ≤ 39600) (eσ : σ = sumN ω 20) (s0 : 0 < σ) (s1 : σ ≤ 400000) (w2 : ∀ q, P q = false → ω q = 0) (eW : ∀ q, q < 20 → P q = true → Wl.getD (i_count P q) 0 = nI (ω q)) (pw : ∀ q, q < 20 → ρ * ω q < 2147483648) (len : Wl.length = i_count P 20) (hr20 : r < 20) (hm : P r = true) :
    dp cost S Wl (i_count P r) = nI (ρ * ω r / σ) + if i_count (fun q => P q && bef (fun q => ρ * ω q % σ) r q) 20 < ρ - sumN (fun q => ρ * ω q / σ) 20 then 1 else 0 := by
  obtain ⟨l1, l2⟩ := left_le (P := P) (ρ := ρ) (σ := σ) eσ s0 w2
  have n20 : i_count P 20 ≤ 20 := ic_le _ _
  have dt := dpto_v (cost := cost) (S := S) (Wl := Wl) (P := P) (r := r) hc hs s0 (by omega) w2 eW pw hr20 hm 20 (Nat.le_refl _)
  have lm : nI ρ - nI (sumN (fun q => ρ * ω q / σ) 20) = nI (ρ - sumN (fun q => ρ * ω q / σ) 20) := pk_sub l1
  have p9 := pw r hr20
  have dx : dp_x cost S Wl (i_count P r) = nI (ρ * ω r / σ) := by
    unfold dp_x
    rw [eW r hr20 hm, hc, nI_mul, hs]
    exact pk_div (by omega) s0 (by omega)
  have al := ic_le (fun q => P q && bef (fun q => ρ * ω q % σ) r q) 20
  unfold dp
  rw [len, dt, dx]
  show _ + (if nI (i_count (fun q => P q && bef (fun q => ρ * ω q % σ) r q) 20) < cost - nI (sumN (fun q => ρ * ω q / σ) 20) then 1 else 0) = _
  rw [hc, lm]
  have ec : (nI (i_count (fun q => P q && bef (fun q => ρ * ω q % σ) r q) 20) < nI (ρ - sumN (fun q => ρ * ω q / σ) 20)) ↔ i_count (fun q => P q && bef (fun q => ρ * ω q % σ) r q) 20 < ρ - sumN (fun q => ρ * ω q / σ) 20 := nI_lt2 (by omega) (by omega)
  by_cases z : i_count (fun q => P q && bef (fun q => ρ * ω q % σ) r q) 20 < ρ - sumN (fun q => ρ * ω q / σ) 20
  · rw [if_pos z, if_pos (ec.mpr z)]
  · rw [if_neg z, if_neg (fun y => z (ec.mp y))]
/-- A RIDER'S SHARE -/
theorem RB.shr {B : BS} {g : Nat → Int32} {c : Nat → Int64} (h : RB B g c) {d r : Nat} (hd : d < bnd B) (hr : r < bnr B) (h7 : gr g r 7 = nI d) : b_shr B d r = w_share g r d (rl g d) (bnr B) := by
  have h20 := h.1.2.1
  obtain ⟨e1, e2, ⟨b, b1, b2⟩, ⟨ρ, p1, p2⟩⟩ := h.base hd
  obtain ⟨hp, hcn⟩ := h.pop hd
  obtain ⟨ω, w1, w2, w3, w4, w5, w6, w7⟩ := h.wgt hd (fun _ => 0)
  have bit : ∀ r, r < 20 → i_bit (r_mask (bT B d)) (nI r) = mb B g d r := fun r hr => by
    rw [ib_bt (by omega), h.maskb hd (by omega)]
    rfl
  have hm : mb B g d r = true := decide_eq_true ⟨hr, h7⟩
  have hn : 0 < i_count (mb B g d) 20 := ic_pos _ hm 20 (by omega)
  have s0 := w7 hn
  have sle : sumN ω 20 ≤ 19998 * 20 := sumN_le 20 w3
  have pw : ∀ q, q < 20 → ρ * ω q < 2147483648 := fun q hq => Nat.lt_of_le_of_lt (Nat.mul_le_mul p1 (w3 q hq)) (by decide)
  have eP : ∀ r, r < bnr B → inP g d r = mb B g d r := fun k hk => decide_eq_decide.mpr ⟨fun z => ⟨hk, z⟩, fun z => z.2⟩
  have icq : ∀ q, q ≤ bnr B → i_count (inP g d) q = i_count (mb B g d) q := fun q hq => ic_c q fun p hp => eP p (by omega)
  have n20 : i_count (mb B g d) 20 ≤ 20 := ic_le _ _
  rw [← hcn] at hp
  have eb : b_shr B d r = vo (v_rest (vo (v_base (fun _ => 0, fun _ => 0, fun _ => 0, 0) (r_mask (bT B d)) (r_dir (bT B d) * dra (bD B d))), (v_wgt (r_mask (bT B d)) (bT B d) (fun _ => 0)).1, (fun _ => 0), vd (v_base (fun _ => 0, fun _ => 0, fun _ => 0, 0) (r_mask (bT B d)) (r_dir (bT B d) * dra (bD B d)))) (r_mask (bT B d)) (r_det (bT B d) * dra (bD B d)) (v_wgt (r_mask (bT B d)) (bT B d) (fun _ => 0)).2) r := rfl
  rw [eb, e1, e2]
  generalize v_wgt (r_mask (bT B d)) (bT B d) (fun _ => 0) = VW at w1 w4 ⊢
  rw [vrest_v (P := mb B g d) (σ := sumN ω 20) bit p2 w4 p1 rfl s0 (by omega) w1 w2 pw (by omega) hm]
  have vb := vbase_v (V := (fun _ => 0, fun _ => 0, fun _ => 0, 0)) (P := mb B g d) bit hp n20 b2 b1 (show r < 20 by omega) hm
  show vo (v_base (fun _ => 0, fun _ => 0, fun _ => 0, 0) (r_mask (bT B d)) (w_bs g d)) r + _ + _ = _
  rw [vb]
  have epl : fw_pl g d r (bnr B) = i_count (mb B g d) r := (fpl_v h7 (bnr B) hr).trans (icq r (by omega))
  have eW : ∀ q, q < 20 → mb B g d q = true → (fw_fin g d (rl g d) (bnr B)).1.getD (i_count (mb B g d) q) 0 = nI (ω q) := fun q hq hmq => by
    have q1 : q < bnr B ∧ gr g q 7 = nI d := of_decide_eq_true hmq
    rw [← icq q (by omega)]
    exact w6 q hq hmq
  have len := (fw_fin_n g d (rl g d) (bnr B)).trans hcn.symm
  have dv := dp_v (P := mb B g d) p2 w5 p1 rfl s0 (by omega) w2 eW pw len (show r < 20 by omega) hm
  unfold w_share w_base
  rw [epl, dv, ← hcn, ← Int32.add_assoc]
