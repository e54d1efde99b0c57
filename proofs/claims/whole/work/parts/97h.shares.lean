theorem nI_of9 {x : Int32} (h : 0 ≤ x.toInt) : x = nI x.toInt.toNat ∧ x.toInt.toNat < 2147483648 := by
  have l := (fb_rng x).2
  refine ⟨Int32.toInt_inj.mp ?_, by omega⟩
  rw [ixn (by omega)]
  omega
theorem nI_lt2 {a b : Nat} (ha : a < 2147483648) (hb : b < 2147483648) : nI a < nI b ↔ a < b := by
  rw [Int32.lt_iff_toInt_lt, ixn ha, ixn hb]
  omega
theorem sub_1 (x y : Int32) : x - y + -1 = x - (y + 1) := by grind
theorem vbs_s (m each l0 : Int32) (O : Nat → Int32) (k : Nat) : v_bs m each l0 O (k + 1) = if i_bit m (nI k) then (upd (upd (v_bs m each l0 O k).1 k 0) k (v_up each (v_bs m each l0 O k).2), (v_bs m each l0 O k).2 + -1) else (upd (v_bs m each l0 O k).1 k 0, (v_bs m each l0 O k).2) := rfl
theorem vbs_v {m each l0 : Int32} {O : Nat → Int32} {P : Nat → Bool} (hP : ∀ r, r < 20 → i_bit m (nI r) = P r) : ∀ k, k ≤ 20 → (v_bs m each l0 O k).2 = l0 - nI (i_count P k) ∧ ∀ r, r < k → (v_bs m each l0 O k).1 r = if P r then v_up each (l0 - nI (i_count P r)) else 0
  | 0, _ => ⟨(Int32.sub_zero _).symm, fun r h => absurd h (by omega)⟩
  | k + 1, hk => by
    obtain ⟨a, b⟩ := vbs_v hP k (by omega)
    rw [vbs_s, hP k (by omega)]
    cases p : P k
    · rw [if_neg (by decide)]
      refine ⟨?_, fun r hr => ?_⟩
      · rw [a, i_count_s, p, if_neg (by decide), Nat.add_zero]
      · by_cases z : r = k
        · subst z
          rw [p]
          exact ux_s
        · exact (ux_n z).trans (b r (by omega))
    · rw [if_pos rfl]
      refine ⟨?_, fun r hr => ?_⟩
      · show (v_bs m each l0 O k).2 + -1 = _
        rw [a, i_count_s, p, if_pos rfl, sub_1, ← nI_1]
        first | rfl | done
      · by_cases z : r = k
        · subst z
          rw [p, if_pos rfl, ← a]
          exact ux_s
        · exact (ux_n z).trans ((ux_n z).trans (b r (by omega)))
/-- one cent more for the first of the places -/
theorem up_pl {e left : Int32} {lam j : Nat} (hl : left = nI lam) (h1 : lam ≤ 1000) (h2 : j ≤ 1000) : v_up e (left + -1 - nI j) = e + if nI (j + 1) < left then 1 else 0 := by
  have o2 : (-1 : Int32).toInt = -1 := rfl
  have e0 : (0 : Int32).toInt = 0 := rfl
  have a1 := (sb_i (x := nI lam) (y := -1) (by rw [ixn (by omega)]; omega) (by rw [ixn (by omega)]; omega) (by omega) (by omega)).2
  have a2 := (sb_i (x := nI lam + -1) (y := nI j) (by rw [a1, ixn (by omega)]; omega) (by rw [a1, ixn (by omega)]; omega) (by rw [ixn (by omega)]; omega) (by rw [ixn (by omega)]; omega)).1
  rw [a1, ixn (by omega), ixn (by omega)] at a2
  unfold v_up
  rw [hl]
  by_cases z : j + 1 < lam
  · rw [if_pos ((nI_lt2 (by omega) (by omega)).mpr z), if_pos]
    rw [Int32.lt_iff_toInt_lt, a2]
    omega
  · rw [if_neg (fun y => z ((nI_lt2 (by omega) (by omega)).mp y)), if_neg]
    · exact (Int32.add_zero e).symm
    · rw [Int32.lt_iff_toInt_lt, a2]
      omega
theorem vws_s (m : Int32) (R : RS) (W : Nat → Int32) (k : Nat) : v_ws m R W (k + 1) = (upd (v_ws m R W k).1 k (if i_bit m (nI k) then r_marg R (nI k) else 0), (v_ws m R W k).2 + (if i_bit m (nI k) then r_marg R (nI k) else 0)) := rfl
theorem vws_v {m : Int32} {R : RS} {W : Nat → Int32} {ω : Nat → Nat} (hw : ∀ r, r < 20 → (if i_bit m (nI r) then r_marg R (nI r) else 0) = nI (ω r)) : ∀ k, k ≤ 20 → (v_ws m R W k).2 = nI (sumN ω k) ∧ ∀ r, r < k → (v_ws m R W k).1 r = nI (ω r)
  | 0, _ => ⟨rfl, fun r h => absurd h (by omega)⟩
  | k + 1, hk => by
    obtain ⟨a, b⟩ := vws_v (W := W) hw k (by omega)
    rw [vws_s, hw k (by omega)]
    refine ⟨?_, fun r hr => ?_⟩
    · show (v_ws m R W k).2 + nI (ω k) = nI (sumN ω k + ω k)
      rw [a, nI_add]
    · by_cases z : r = k
      · subst z
        exact ux_s
      · exact (ux_n z).trans (b r (by omega))
theorem vw1_v {m : Int32} {W : Nat → Int32} {P : Nat → Bool} (hP : ∀ r, r < 20 → i_bit m (nI r) = P r) : ∀ k, k ≤ 20 → ∀ r, r < k → v_w1 m W k r = nI (if P r then 1 else 0)
  | 0, _, r, h => absurd h (by omega)
  | k + 1, hk, r, hr => by
    show upd (v_w1 m W k) k (if i_bit m (nI k) then 1 else 0) r = _
    by_cases z : r = k
    · subst z
      rw [ux_s, hP r (by omega)]
      cases P r <;> rfl
    · exact (ux_n z).trans (vw1_v hP k (by omega) r (by omega))
theorem sumN_if (P : Nat → Bool) : ∀ k, sumN (fun r => if P r then 1 else 0) k = i_count P k
  | 0 => rfl
  | k + 1 => by
    show sumN (fun r => if P r then 1 else 0) k + (if P k then 1 else 0) = _
    rw [sumN_if P k]
    rfl
theorem sumN_z {f : Nat → Nat} {n : Nat} : ∀ m, n ≤ m → (∀ k, n ≤ k → f k = 0) → sumN f m = sumN f n
  | 0, h, _ => by rw [show n = 0 by omega]
  | m + 1, h, hp => by
    by_cases z : n = m + 1
    · rw [z]
    · show sumN f m + f m = _
      rw [sumN_z m (by omega) hp, hp m (by omega)]
      rfl
theorem sumN_le {f : Nat → Nat} {b : Nat} : ∀ k, (∀ r, r < k → f r ≤ b) → sumN f k ≤ b * k
  | 0, _ => Nat.zero_le _
  | k + 1, h => by
    have := sumN_le k fun r hr => h r (by omega)
    have := h k (by omega)
    show sumN f k + f k ≤ b * (k + 1)
    rw [Nat.mul_succ]
    omega
theorem fsum_v {g : Nat → Int32} {d : Nat} {l : List Int32} {μ : Nat → Nat} : ∀ k, (∀ r, r < k → gr g r 7 = nI d → w_marg g r d l = nI (μ r)) → fw_sum g d l k = nI (sumN (fun r => if inP g d r then μ r else 0) k)
  | 0, _ => rfl
  | k + 1, h => by
    rw [fw_sum_s, fsum_v k fun r hr => h r (by omega)]
    show _ = nI (sumN (fun r => if inP g d r then μ r else 0) k + (if inP g d k then μ k else 0))
    unfold inP
    by_cases z : gr g k 7 = nI d
    · rw [if_pos z, h k (by omega) z, nI_add, decide_eq_true z, if_pos rfl]
    · rw [if_neg z, decide_eq_false z, if_neg (by decide)]
      rfl
theorem fwl_v {g : Nat → Int32} {d : Nat} {l : List Int32} : ∀ k q, q < k → gr g q 7 = nI d → (fw_wl g d l k).getD (i_count (inP g d) q) 0 = w_marg g q d l
  | 0, _, h, _ => absurd h (by omega)
  | k + 1, q, h, hq => by
    rw [fw_wl_s]
    have n := fw_wl_n g d l k
    by_cases e : q = k
    · subst e
      rw [if_pos hq, gD_r (by omega), n, Nat.sub_self]
      rfl
    · have ih := fwl_v (l := l) k q (by omega) hq
      by_cases z : gr g k 7 = nI d
      · have lt : i_count (inP g d) q < i_count (inP g d) k := by
          have h1 : i_count (inP g d) (q + 1) = i_count (inP g d) q + 1 := by
            rw [i_count_s, if_pos (show inP g d q = true from decide_eq_true hq)]
          have h2 : ∀ m, i_count (inP g d) (q + 1) ≤ i_count (inP g d) (q + 1 + m) := fun m => by
            induction m with
            | zero => exact Nat.le_refl _
            | succ m ih2 =>
              have : i_count (inP g d) (q + 1 + (m + 1)) = i_count (inP g d) (q + 1 + m) + (if inP g d (q + 1 + m) then 1 else 0) := rfl
              omega
          have h3 := h2 (k - (q + 1))
          rw [show q + 1 + (k - (q + 1)) = k by omega] at h3
          omega
        rw [if_pos z, gD_l (by omega)]
        exact ih
      · rw [if_neg z]
        exact ih
theorem ic_mono (P : Nat → Bool) (a : Nat) : ∀ m, i_count P a ≤ i_count P (a + m)
  | 0 => Nat.le_refl _
  | m + 1 => by
    have := ic_mono P a m
    have e : i_count P (a + (m + 1)) = i_count P (a + m) + (if P (a + m) then 1 else 0) := rfl
    omega
/-- places go as numbers -/
theorem ic_ltm {P : Nat → Bool} {q r : Nat} (hq : P q = true) (hr : P r = true) : i_count P q < i_count P r ↔ q < r := by
  have st : ∀ a b, P a = true → a < b → i_count P a < i_count P b := fun a b ha h => by
    have h1 : i_count P (a + 1) = i_count P a + 1 := by rw [i_count_s, if_pos ha]
    have h2 := ic_mono P (a + 1) (b - (a + 1))
    rw [show a + 1 + (b - (a + 1)) = b by omega] at h2
    omega
  constructor
  · intro h
    rcases Nat.lt_trichotomy q r with z | z | z
    · exact z
    · subst z
      omega
    · have := st r q hr z
      omega
  · exact st q r hq
theorem fpl_v {g : Nat → Int32} {d q : Nat} (hq : gr g q 7 = nI d) : ∀ k, q < k → fw_pl g d q k = i_count (inP g d) q
  | 0, h => absurd h (by omega)
  | k + 1, h => by
    have e : fw_pl g d q (k + 1) = if gr g k 7 = nI d ∧ k = q then i_count (inP g d) k else fw_pl g d q k := rfl
    rw [e]
    by_cases z : k = q
    · subst z
      rw [if_pos ⟨hq, rfl⟩]
    · rw [if_neg (fun y => z y.2)]
      exact fpl_v hq k (by omega)
/-- THE WEIGHTS of both sides -/
theorem RB.wgt {B : BS} {g : Nat → Int32} {c : Nat → Int64} (h : RB B g c) {d : Nat} (hd : d < bnd B) (W : Nat → Int32) : ∃ ω : Nat → Nat, (∀ q, q < 20 → (v_wgt (r_mask (bT B d)) (bT B d) W).1 q = nI (ω q)) ∧ (∀ q, mb B g d q = false → ω q = 0) ∧ (∀ q, q < 20 → ω q ≤ 19998) ∧ (v_wgt (r_mask (bT B d)) (bT B d) W).2 = nI (sumN ω 20) ∧ (fw_fin g d (rl g d) (bnr B)).2 = nI (sumN ω 20) ∧ (∀ q, q < 20 → mb B g d q = true → (fw_fin g d (rl g d) (bnr B)).1.getD (i_count (inP g d) q) 0 = nI (ω q)) ∧ (0 < i_count (mb B g d) 20 → 0 < sumN ω 20) := by
  have h20 := h.1.2.1
  have bit : ∀ r, r < 20 → i_bit (r_mask (bT B d)) (nI r) = mb B g d r := fun r hr => by
    rw [ib_bt (by omega), h.maskb hd (by omega)]
    rfl
  have mr : ∀ r, r < 20 → w_marg g r d (rl g d) = nI ((w_marg g r d (rl g d)).toInt.toNat) ∧ (w_marg g r d (rl g d)).toInt.toNat ≤ 19998 := fun r hr => by
    obtain ⟨⟨a, b, e⟩, -⟩ := h.lmarg hd hr
    have q := (sb_i (x := w_len g d (rl g d)) (y := w_len g d (w_wo (nI r) (rl g d))) (by omega) (by omega) (by omega) (by omega)).1
    have q2 : (w_marg g r d (rl g d)).toInt = (w_len g d (rl g d)).toInt - (w_len g d (w_wo (nI r) (rl g d))).toInt := q
    exact ⟨(nI_of9 (by omega)).1, by omega⟩
  have hw1 : ∀ r, r < 20 → (if i_bit (r_mask (bT B d)) (nI r) then r_marg (bT B d) (nI r) else 0) = nI (if mb B g d r then (w_marg g r d (rl g d)).toInt.toNat else 0) := fun r hr => by
    rw [bit r hr, h.marg hd hr]
    cases mb B g d r
    · rfl
    · rw [if_pos rfl, if_pos rfl]
      exact (mr r hr).1
  obtain ⟨s1, s2⟩ := vws_v (W := W) hw1 20 (Nat.le_refl _)
  have eP : ∀ r, r < bnr B → inP g d r = mb B g d r := fun k hk => decide_eq_decide.mpr ⟨fun z => ⟨hk, z⟩, fun z => z.2⟩
  have z0 : ∀ k, bnr B ≤ k → mb B g d k = false := fun k hk => decide_eq_false fun z => by omega
  have fs : fw_sum g d (rl g d) (bnr B) = nI (sumN (fun r => if mb B g d r then (w_marg g r d (rl g d)).toInt.toNat else 0) 20) := by
    rw [fsum_v (μ := fun r => (w_marg g r d (rl g d)).toInt.toNat) (bnr B) fun r hr _ => (mr r (by omega)).1, sumN_z (n := bnr B) 20 h20 fun k hk => by rw [z0 k hk]; rfl]
    rw [sumN_c (bnr B) fun r hr => by rw [eP r hr]]
  have icq : ∀ q, mb B g d q = true → q < bnr B ∧ gr g q 7 = nI d := fun q hq => of_decide_eq_true hq
  have hpop := (h.pop hd)
  have sle := sumN_le (f := fun r => if mb B g d r then (w_marg g r d (rl g d)).toInt.toNat else 0) (b := 19998) 20 fun r hr => by
    show (if mb B g d r then (w_marg g r d (rl g d)).toInt.toNat else 0) ≤ 19998
    cases mb B g d r
    · rw [if_neg (by decide)]
      omega
    · rw [if_pos rfl]
      exact (mr r hr).2
  by_cases S : 0 < sumN (fun r => if mb B g d r then (w_marg g r d (rl g d)).toInt.toNat else 0) 20
  · have e1 : v_wgt (r_mask (bT B d)) (bT B d) W = v_ws (r_mask (bT B d)) (bT B d) W 20 := if_pos (by
      rw [s1]
      exact (nI_lt2 (a := 0) (by omega) (by omega)).mpr S)
    have e2 : fw_fin g d (rl g d) (bnr B) = (fw_wl g d (rl g d) (bnr B), fw_sum g d (rl g d) (bnr B)) := if_neg (by
      rw [fs]
      intro y
      have := (nI_inj (b := 0) (by omega) (by omega)).mp y
      omega)
    refine ⟨fun r => if mb B g d r then (w_marg g r d (rl g d)).toInt.toNat else 0, fun q hq => by rw [e1]; exact s2 q hq, fun q hq => by show (if mb B g d q then _ else 0) = 0; rw [hq]; rfl, fun q hq => ?_, by rw [e1]; exact s1, by rw [e2]; exact fs, fun q hq hm => ?_, fun _ => S⟩
    · show (if mb B g d q then (w_marg g q d (rl g d)).toInt.toNat else 0) ≤ 19998
      cases mb B g d q
      · rw [if_neg (by decide)]
        omega
      · rw [if_pos rfl]
        exact (mr q hq).2
    · obtain ⟨i1, i2⟩ := icq q hm
      rw [e2]
      show (fw_wl g d (rl g d) (bnr B)).getD _ 0 = nI (if mb B g d q then _ else 0)
      rw [fwl_v _ q i1 i2, hm, if_pos rfl]
      exact (mr q hq).1
  · have S0 : sumN (fun r => if mb B g d r then (w_marg g r d (rl g d)).toInt.toNat else 0) 20 = 0 := by omega
    have e1 : v_wgt (r_mask (bT B d)) (bT B d) W = (v_w1 (r_mask (bT B d)) (v_ws (r_mask (bT B d)) (bT B d) W 20).1 20, i_pop (r_mask (bT B d))) := if_neg (by
      rw [s1, S0]
      decide)
    have e2 : fw_fin g d (rl g d) (bnr B) = (List.replicate (i_count (inP g d) (bnr B)) 1, nI (i_count (inP g d) (bnr B))) := if_pos (by
      rw [fs, S0]
      rfl)
    refine ⟨fun r => if mb B g d r then 1 else 0, fun q hq => by rw [e1]; exact vw1_v bit 20 (Nat.le_refl _) q hq, fun q hq => by show (if mb B g d q then 1 else 0) = 0; rw [hq]; rfl, fun q hq => ?_, ?_, ?_, fun q hq hm => ?_, fun y => by rw [sumN_if]; exact y⟩
    · show (if mb B g d q then 1 else 0) ≤ 19998
      cases mb B g d q <;> decide
    · rw [e1, sumN_if, hpop.2]
      exact hpop.1
    · rw [e2, sumN_if, hpop.2]
    · obtain ⟨i1, i2⟩ := icq q hm
      rw [e2]
      show (List.replicate (i_count (inP g d) (bnr B)) (1 : Int32)).getD _ 0 = nI (if mb B g d q then 1 else 0)
      rw [hm, if_pos rfl, List.getD_eq_getElem?_getD, List.getElem?_replicate, if_pos]
      · rfl
      · have h1 : i_count (inP g d) (q + 1) = i_count (inP g d) q + 1 := by rw [i_count_s, if_pos (show inP g d q = true from decide_eq_true i2)]
        have h2 := ic_mono (inP g d) (q + 1) (bnr B - (q + 1))
        rw [show q + 1 + (bnr B - (q + 1)) = bnr B by omega] at h2
        omega
theorem am_max (F : Nat → Int32) : ∀ k j, j ≤ k → (F j).toInt ≤ (F (v_am F k)).toInt ∧ (j < v_am F k → (F j).toInt < (F (v_am F k)).toInt)
  | 0, j, h => by
    have e : v_am F 0 = 0 := rfl
    rw [e, show j = 0 by omega]
    exact ⟨Int.le_refl _, fun z => absurd z (by omega)⟩
  | k + 1, j, h => by
    have e : v_am F (k + 1) = if F (v_am F k) < F (k + 1) then k + 1 else v_am F k := rfl
    have l := v_am_le F k
    rw [e]
    by_cases z : F (v_am F k) < F (k + 1)
    · rw [if_pos z]
      rw [Int32.lt_iff_toInt_lt] at z
      by_cases y : j = k + 1
      · subst y
        exact ⟨Int.le_refl _, fun w => absurd w (by omega)⟩
      · have := (am_max F k j (by omega)).1
        exact ⟨by omega, fun _ => by omega⟩
    · rw [if_neg z]
      rw [Int32.lt_iff_toInt_lt] at z
      by_cases y : j = k + 1
      · subst y
        exact ⟨by omega, fun w => absurd w (by omega)⟩
      · exact am_max F k j (by omega)
/-- who gets a cent of the rest before whom -/
def bef (f : Nat → Nat) (r q : Nat) : Bool := decide (f r < f q ∨ (f q = f r ∧ q < r))
/-- behind k cents -/
def Cts (P : Nat → Bool) (f : Nat → Nat) (O0 : Nat → Int32) (s : (Nat → Int32) × (Nat → Int32)) (k : Nat) : Prop :=
  (∀ r, r < 20 → P r = false → s.2 r = -1 ∧ s.1 r = O0 r) ∧ (∀ r, r < 20 → P r = true → (s.2 r = -1 ∧ s.1 r = O0 r + 1) ∨ (s.2 r = nI (f r) ∧ s.1 r = O0 r)) ∧
  i_count (fun r => P r && decide (s.2 r = -1)) 20 = k ∧ ∀ r q, r < 20 → q < 20 → P r = true → s.2 r = -1 → P q = true → bef f r q = true → s.2 q = -1
theorem ic_0 {P : Nat → Bool} : ∀ k, (∀ q, q < k → P q = false) → i_count P k = 0
  | 0, _ => rfl
  | k + 1, h => by
    rw [i_count_s, ic_0 k fun q hq => h q (by omega), h k (by omega)]
    rfl
theorem ic_ex {P Q : Nat → Bool} : ∀ k, i_count P k < i_count Q k → ∃ q, q < k ∧ Q q = true ∧ P q = false
  | 0, h => absurd h (by show ¬ 0 < 0; omega)
  | k + 1, h => by
    rw [i_count_s, i_count_s] at h
    by_cases z : i_count P k < i_count Q k
    · obtain ⟨q, a, b⟩ := ic_ex k z
      exact ⟨q, by omega, b⟩
    · refine ⟨k, by omega, ?_⟩
      cases p : P k <;> cases q : Q k <;> simp_all
      omega
theorem Cts.zero {P : Nat → Bool} {f : Nat → Nat} {O0 F0 : Nat → Int32} (hf : ∀ r, f r < 1000000) (hF : ∀ r, r < 20 → F0 r = if P r then nI (f r) else -1) : Cts P f O0 (O0, F0) 0 := by
  refine ⟨fun r hr hp => ⟨by show F0 r = -1; rw [hF r hr, hp]; rfl, rfl⟩, fun r hr hp => Or.inr ⟨by show F0 r = _; rw [hF r hr, hp]; rfl, rfl⟩, ic_0 20 fun r hr => ?_, fun r q hr hq hp hm => ?_⟩
  · show (P r && decide (F0 r = -1)) = false
    rw [hF r hr]
    cases P r
    · rfl
    · rw [if_pos rfl, decide_eq_false (nI_ne_m1 (by have := hf r; omega))]
      rfl
  · have hm : F0 r = -1 := hm
    rw [hF r hr, hp] at hm
    exact absurd hm (nI_ne_m1 (a := f r) (by have := hf r; omega))
theorem Cts.step {P : Nat → Bool} {f : Nat → Nat} {O0 : Nat → Int32} {s : (Nat → Int32) × (Nat → Int32)} {k : Nat} (hf : ∀ r, f r < 1000000) (x : Cts P f O0 s k) (hk : k < i_count P 20) : Cts P f O0 (v_cent s) (k + 1) := by
  obtain ⟨x1, x2, x3, x4⟩ := x
  obtain ⟨u, u1, u2, u3⟩ := ic_ex (P := fun r => P r && decide (s.2 r = -1)) (Q := P) 20 (by omega)
  have u4 : s.2 u = nI (f u) := by
    rcases x2 u u1 u2 with ⟨a, -⟩ | ⟨a, -⟩
    · have u3 : (P u && decide (s.2 u = -1)) = false := u3
      rw [u2, a] at u3
      exact absurd u3 (by decide)
    · exact a
  have lb := v_am_le s.2 19
  have mx := am_max s.2 19
  have eb : v_cent s = (upd s.1 (v_am s.2 19) (s.1 (v_am s.2 19) + 1), upd s.2 (v_am s.2 19) (-1)) := rfl
  rw [eb]
  generalize v_am s.2 19 = b at lb mx
  have o1 : (-1 : Int32).toInt = -1 := rfl
  have fu := ixn (j := f u) (by have := hf u; omega)
  have mu := (mx u (by omega)).1
  rw [u4, fu] at mu
  have nb : ¬ s.2 b = -1 := fun z => by
    rw [z] at mu
    omega
  have pb : P b = true := by
    cases p : P b
    · exact absurd (x1 b (by omega) p).1 nb
    · rfl
  obtain ⟨b1, b2⟩ : s.2 b = nI (f b) ∧ s.1 b = O0 b := by
    rcases x2 b (by omega) pb with ⟨a, -⟩ | a
    · exact absurd a nb
    · exact a
  have fb := ixn (j := f b) (by have := hf b; omega)
  refine ⟨fun r hr hp => ?_, fun r hr hp => ?_, ?_, fun r q hr hq hp hm hpq hbf => ?_⟩
  · have ne : ¬ r = b := fun z => by
      rw [z, pb] at hp
      cases hp
    show upd s.2 b (-1) r = -1 ∧ upd s.1 b (s.1 b + 1) r = O0 r
    rw [ux_n ne, ux_n ne]
    exact x1 r hr hp
  · show (upd s.2 b (-1) r = -1 ∧ upd s.1 b (s.1 b + 1) r = O0 r + 1) ∨ (upd s.2 b (-1) r = nI (f r) ∧ upd s.1 b (s.1 b + 1) r = O0 r)
    by_cases ne : r = b
    · subst ne
      rw [ux_s, ux_s, b2]
      exact Or.inl ⟨rfl, rfl⟩
    · rw [ux_n ne, ux_n ne]
      exact x2 r hr hp
  · have q := ic_drop (P := fun r => P r && decide (s.2 r = -1)) (Q := fun r => P r && decide (upd s.2 b (-1) r = -1)) (r := b) (fun q ne => by
      show (P q && decide (s.2 q = -1)) = (P q && decide (upd s.2 b (-1) q = -1))
      rw [ux_n ne]) (by
      show (P b && decide (s.2 b = -1)) = false
      rw [decide_eq_false nb, Bool.and_false]) (by
      show (P b && decide (upd s.2 b (-1) b = -1)) = true
      rw [ux_s, pb]
      decide) 20 (by omega)
    show i_count (fun r => P r && decide (upd s.2 b (-1) r = -1)) 20 = k + 1
    omega
  · have hm : upd s.2 b (-1) r = -1 := hm
    show upd s.2 b (-1) q = -1
    by_cases nq : q = b
    · subst nq
      exact ux_s
    · rw [ux_n nq]
      by_cases ne : r = b
      · subst ne
        rcases x2 q hq hpq with ⟨a, -⟩ | ⟨a, -⟩
        · exact a
        · exfalso
          have fq := ixn (j := f q) (by have := hf q; omega)
          obtain ⟨m1, m2⟩ := mx q (by omega)
          rw [a, fq, b1, fb] at m1 m2
          have w := of_decide_eq_true hbf
          omega
      · rw [ux_n ne] at hm
        exact x4 r q hr hq hp hm hpq hbf
theorem Cts.all {P : Nat → Bool} {f : Nat → Nat} {O0 F0 : Nat → Int32} (hf : ∀ r, f r < 1000000) (hF : ∀ r, r < 20 → F0 r = if P r then nI (f r) else -1) : ∀ k, k ≤ i_count P 20 → Cts P f O0 (v_cents (O0, F0) k) k
  | 0, _ => Cts.zero hf hF
  | k + 1, h => Cts.step hf (Cts.all hf hF k (by omega)) (by omega)
theorem ic_sub {A B : Nat → Bool} : ∀ n, (∀ q, q < n → A q = true → B q = true) → i_count A n ≤ i_count B n
  | 0, _ => Nat.le_refl _
  | n + 1, h => by
    have ih := ic_sub n fun q hq => h q (by omega)
    rw [i_count_s, i_count_s]
    by_cases z : A n = true
    · rw [if_pos z, if_pos (h n (by omega) z)]
      omega
    · rw [if_neg z]
      omega
theorem ic_sub1 {A B : Nat → Bool} {r : Nat} (hr : A r = false) (hb : B r = true) : ∀ n, r < n → (∀ q, q < n → A q = true → B q = true) → i_count A n + 1 ≤ i_count B n
  | 0, h, _ => absurd h (by omega)
  | n + 1, h, hs => by
    rw [i_count_s, i_count_s]
    by_cases e : r = n
    · subst e
      have := ic_sub (A := A) (B := B) r fun q hq => hs q (by omega)
      rw [hr, hb, if_neg (by decide), if_pos rfl]
      omega
    · have ih := ic_sub1 hr hb n (by omega) fun q hq => hs q (by omega)
      by_cases z : A n = true
      · rw [if_pos z, if_pos (hs n (by omega) z)]
        omega
      · rw [if_neg z]
        omega
/-- who gets a cent: those with fewer than k before them -/
theorem Cts.who {P : Nat → Bool} {f : Nat → Nat} {O0 : Nat → Int32} {s : (Nat → Int32) × (Nat → Int32)} {k r : Nat} (hf : ∀ r, f r < 1000000) (x : Cts P f O0 s k) (hr : r < 20) (hp : P r = true) : s.1 r = O0 r + if i_count (fun q => P q && bef f r q) 20 < k then 1 else 0 := by
  obtain ⟨x1, x2, x3, x4⟩ := x
  rcases x2 r hr hp with ⟨a, b⟩ | ⟨a, b⟩
  · have q := ic_sub1 (A := fun q => P q && bef f r q) (B := fun r => P r && decide (s.2 r = -1)) (r := r) (by
      show (P r && bef f r r) = false
      have : bef f r r = false := decide_eq_false (by omega)
      rw [this, Bool.and_false]) (by
      show (P r && decide (s.2 r = -1)) = true
      rw [hp, decide_eq_true a]
      rfl) 20 hr fun q hq w => by
      have w : (P q && bef f r q) = true := w
      rw [Bool.and_eq_true] at w
      show (P q && decide (s.2 q = -1)) = true
      rw [w.1, decide_eq_true (x4 r q hr hq hp a w.1 w.2)]
      rfl
    rw [b, if_pos (by omega)]
  · have q := ic_sub (A := fun r => P r && decide (s.2 r = -1)) (B := fun q => P q && bef f r q) 20 fun q hq w => by
      have w : (P q && decide (s.2 q = -1)) = true := w
      rw [Bool.and_eq_true, decide_eq_true_iff] at w
      have nr : ¬ s.2 r = -1 := by
        rw [a]
        exact nI_ne_m1 (by have := hf r; omega)
      have nb : ¬ bef f q r = true := fun y => nr (x4 q r hq hr w.1 w.2 hp y)
      have ne : ¬ q = r := fun y => by
        rw [y] at w
        exact nr w.2
      have nb2 : ¬ (f q < f r ∨ (f r = f q ∧ r < q)) := fun y => nb (decide_eq_true y)
      have y : bef f r q = true := decide_eq_true (by omega)
      show (P q && bef f r q) = true
      rw [w.1, y]
      rfl
    rw [b, if_neg (by omega)]
    exact (Int32.add_zero _).symm
