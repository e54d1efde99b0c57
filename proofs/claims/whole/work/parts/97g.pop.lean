def pq1 (x : Nat) : Nat := x - ((x / 2) &&& 85)
def pq2 (x : Nat) : Nat := (x &&& 51) + ((x / 4) &&& 51)
def pq3 (x : Nat) : Nat := (x + x / 16) &&& 15
def pB1 (n : Nat) : Nat := n - ((n / 2) &&& 1431655765)
def pB2 (n : Nat) : Nat := (n &&& 858993459) + ((n / 4) &&& 858993459)
def pB3 (n : Nat) : Nat := (n + n / 16) &&& 252645135
def pB4 (n : Nat) : Nat := n + n / 256
def pB5 (n : Nat) : Nat := n + n / 65536
theorem and8 {a c x y : Nat} (ha : a < 256) (hc : c < 256) : (a + 256 * x) &&& (c + 256 * y) = (a &&& c) + 256 * (x &&& y) := by
  apply Nat.eq_of_testBit_eq
  intro i
  have t : ∀ u z, u < 256 → (u + 256 * z).testBit i = if i < 8 then u.testBit i else z.testBit (i - 8) := fun u z hu => by
    rw [Nat.add_comm, show 256 = 2 ^ 8 from rfl, Nat.testBit_two_pow_mul_add _ (show u < 2 ^ 8 from hu)]
  rw [Nat.testBit_and, t a x ha, t c y hc, t (a &&& c) (x &&& y) (Nat.lt_of_le_of_lt Nat.and_le_left ha)]
  by_cases h : i < 8
  · rw [if_pos h, if_pos h, if_pos h, Nat.testBit_and]
  · rw [if_neg h, if_neg h, if_neg h, Nat.testBit_and]
theorem pk1 : ∀ a, a < 256 → ∀ t, t < 2 → (a / 2 + 128 * t) &&& 85 = (a / 2) &&& 85 ∧ (a / 2) &&& 85 ≤ a := by decide +kernel
theorem pk1c : ∀ c, c < 256 → (c / 2) &&& 21845 = (c / 2) &&& 85 := by decide +kernel
theorem pk2 : ∀ a, a < 256 → ∀ t, t < 4 → (a / 4 + 64 * t) &&& 51 = (a / 4) &&& 51 := by decide +kernel
theorem pk2c : ∀ c, c < 256 → c &&& 13107 = c &&& 51 ∧ (c / 4) &&& 13107 = (c / 4) &&& 51 := by decide +kernel
theorem pk3 : ∀ a, a < 69 → ∀ t, t < 5 → (a + a / 16 + 16 * t) &&& 15 = (a + a / 16) &&& 15 := by decide +kernel
theorem pk3c : ∀ c, c < 256 → c &&& 3855 = c &&& 15 := by decide +kernel
theorem ps1' {a b c : Nat} (ha : a < 256) (hb : b < 256) (hc : c < 256) : pB1 (a + 256 * (b + 256 * c)) = pq1 a + 256 * (pq1 b + 256 * pq1 c) := by
  have e : (a + 256 * (b + 256 * c)) / 2 = (a / 2 + 128 * (b % 2)) + 256 * ((b / 2 + 128 * (c % 2)) + 256 * (c / 2)) := by omega
  obtain ⟨a1, a2⟩ := pk1 a ha (b % 2) (by omega)
  obtain ⟨b1, b2⟩ := pk1 b hb (c % 2) (by omega)
  have c2 := (pk1 c hc 0 (by omega)).2
  unfold pB1 pq1
  rw [e, show 1431655765 = 85 + 256 * (85 + 256 * 21845) from rfl, and8 (by omega) (by omega), and8 (by omega) (by omega), a1, b1, pk1c c hc]
  generalize (a / 2) &&& 85 = A at *
  generalize (b / 2) &&& 85 = B at *
  generalize (c / 2) &&& 85 = C at *
  omega
theorem ps2' {a b c : Nat} (ha : a < 256) (hb : b < 256) (hc : c < 256) : pB2 (a + 256 * (b + 256 * c)) = pq2 a + 256 * (pq2 b + 256 * pq2 c) := by
  have e : (a + 256 * (b + 256 * c)) / 4 = (a / 4 + 64 * (b % 4)) + 256 * ((b / 4 + 64 * (c % 4)) + 256 * (c / 4)) := by omega
  unfold pB2 pq2
  rw [e, show 858993459 = 51 + 256 * (51 + 256 * 13107) from rfl, and8 ha (by omega), and8 hb (by omega), and8 (by omega) (by omega), and8 (by omega) (by omega), pk2 a ha (b % 4) (by omega), pk2 b hb (c % 4) (by omega), (pk2c c hc).1, (pk2c c hc).2]
  omega
theorem ps3' {a b c : Nat} (ha : a < 69) (hb : b < 69) (hc : c < 69) (hb2 : b % 16 < 5) (hc2 : c % 16 < 5) : pB3 (a + 256 * (b + 256 * c)) = pq3 a + 256 * (pq3 b + 256 * pq3 c) := by
  have e : a + 256 * (b + 256 * c) + (a + 256 * (b + 256 * c)) / 16 = (a + a / 16 + 16 * (b % 16)) + 256 * ((b + b / 16 + 16 * (c % 16)) + 256 * (c + c / 16)) := by omega
  unfold pB3 pq3
  rw [e, show 252645135 = 15 + 256 * (15 + 256 * 3855) from rfl, and8 (by omega) (by omega), and8 (by omega) (by omega), pk3 a ha _ hb2, pk3 b hb _ hc2, pk3c _ (by omega)]
theorem ps5' {a b c : Nat} (ha : a < 16) (hb : b < 16) (hc : c < 16) : (pB5 (pB4 (a + 256 * (b + 256 * c)))) &&& 63 = a + b + c := by
  have e : pB5 (pB4 (a + 256 * (b + 256 * c))) = (a + b + c) + 256 * ((b + c) + 256 * c) := by
    unfold pB5 pB4
    omega
  rw [e, show 63 = 2 ^ 6 - 1 from rfl, Nat.and_two_pow_sub_one_eq_mod]
  omega
theorem pby : ∀ a, a < 256 → pq1 a < 256 ∧ pq2 (pq1 a) < 69 ∧ pq2 (pq1 a) % 16 < 5 ∧ pq3 (pq2 (pq1 a)) < 16 := by decide +kernel
theorem pop_n {a b c : Nat} (ha : a < 256) (hb : b < 256) (hc : c < 256) : (pB5 (pB4 (pB3 (pB2 (pB1 (a + 256 * (b + 256 * c))))))) &&& 63 = pq3 (pq2 (pq1 a)) + pq3 (pq2 (pq1 b)) + pq3 (pq2 (pq1 c)) := by
  obtain ⟨a1, a2, a3, a4⟩ := pby a ha
  obtain ⟨b1, b2, b3, b4⟩ := pby b hb
  obtain ⟨c1, c2, c3, c4⟩ := pby c hc
  rw [ps1' ha hb hc, ps2' a1 b1 c1, ps3' a2 b2 c2 b3 c3, ps5' a4 b4 c4]
theorem i_ush {n : Nat} (hn : n < 2 ^ 32) (k : Nat) (hk : k < 32) : i_ushr (nI n) (nI k) = nI (n / 2 ^ k) := pk_ushrN hn (nI k) k (s_u k hk)
theorem pop_i {n : Nat} (hn : n < 2 ^ 24) : i_pop (nI n) = nI ((pB5 (pB4 (pB3 (pB2 (pB1 n))))) &&& 63) := by
  have h1 : i_pop1 (nI n) = nI (pB1 n) := by
    have e : i_pop1 (nI n) = nI n - (i_ushr (nI n) (nI 1) &&& nI 1431655765) := rfl
    rw [e, i_ush (by omega) 1 (by omega), nI_and2 (by omega) (by omega), pk_sub (Nat.le_trans Nat.and_le_left (by omega))]
    rfl
  have b1 : pB1 n ≤ n := Nat.sub_le _ _
  generalize pB1 n = m1 at *
  have h2 : i_pop2 (nI m1) = nI (pB2 m1) := by
    have e : i_pop2 (nI m1) = (nI m1 &&& nI 858993459) + (i_ushr (nI m1) (nI 2) &&& nI 858993459) := rfl
    rw [e, i_ush (by omega) 2 (by omega), nI_and2 (by omega) (by omega), nI_and2 (by omega) (by omega), nI_add]
    rfl
  have b2 : pB2 m1 ≤ m1 + m1 := Nat.add_le_add Nat.and_le_left (Nat.le_trans Nat.and_le_left (by omega))
  generalize pB2 m1 = m2 at *
  have h3 : i_pop3 (nI m2) = nI (pB3 m2) := by
    have e : i_pop3 (nI m2) = (nI m2 + i_ushr (nI m2) (nI 4)) &&& nI 252645135 := rfl
    rw [e, i_ush (by omega) 4 (by omega), nI_add, nI_and2 (by omega) (by omega)]
    rfl
  have b3 : pB3 m2 ≤ m2 + m2 := Nat.le_trans Nat.and_le_left (by omega)
  generalize pB3 m2 = m3 at *
  have h4 : i_pop4 (nI m3) = nI (pB4 m3) := by
    have e : i_pop4 (nI m3) = nI m3 + i_ushr (nI m3) (nI 8) := rfl
    rw [e, i_ush (by omega) 8 (by omega), nI_add]
    rfl
  have b4 : pB4 m3 ≤ m3 + m3 := by
    unfold pB4
    omega
  generalize pB4 m3 = m4 at *
  have h5 : i_pop5 (nI m4) = nI (pB5 m4) := by
    have e : i_pop5 (nI m4) = nI m4 + i_ushr (nI m4) (nI 16) := rfl
    rw [e, i_ush (by omega) 16 (by omega), nI_add]
    rfl
  have b5 : pB5 m4 ≤ m4 + m4 := by
    unfold pB5
    omega
  have e : i_pop (nI n) = i_pop5 (i_pop4 (i_pop3 (i_pop2 (i_pop1 (nI n))))) &&& nI 63 := rfl
  rw [e, h1, h2, h3, h4, h5, nI_and2 (by omega) (by omega)]
def bn (b : Bool) : Nat := if b then 1 else 0
theorem pby8 : ∀ b0 b1 b2 b3 b4 b5 b6 b7 : Bool, pq3 (pq2 (pq1 (bn b0 + 2 * bn b1 + 4 * bn b2 + 8 * bn b3 + 16 * bn b4 + 32 * bn b5 + 64 * bn b6 + 128 * bn b7))) = bn b0 + bn b1 + bn b2 + bn b3 + bn b4 + bn b5 + bn b6 + bn b7 := by decide +kernel
theorem bn_le (b : Bool) : bn b ≤ 1 := by cases b <;> decide
theorem vN_c {P Q : Nat → Bool} : ∀ n, (∀ k, k < n → P k = Q k) → vN P 0 n = vN Q 0 n
  | 0, _ => rfl
  | n + 1, h => by
    show vN P 0 n + (if P (0 + n) then 2 ^ (0 + n) else 0) = vN Q 0 n + (if Q (0 + n) then 2 ^ (0 + n) else 0)
    rw [vN_c n fun k hk => h k (by omega), Nat.zero_add, h n (by omega)]
theorem vN_0 {P : Nat → Bool} {n : Nat} : ∀ m, n ≤ m → (∀ k, n ≤ k → P k = false) → vN P 0 m = vN P 0 n ∧ i_count P m = i_count P n
  | 0, h, _ => by
    rw [show n = 0 by omega]
    exact ⟨rfl, rfl⟩
  | m + 1, h, hp => by
    by_cases z : n = m + 1
    · rw [z]
      exact ⟨rfl, rfl⟩
    · obtain ⟨a, b⟩ := vN_0 m (by omega) hp
      constructor
      · show vN P 0 m + (if P (0 + m) then 2 ^ (0 + m) else 0) = _
        rw [Nat.zero_add, hp m (by omega), a]
        rfl
      · show i_count P m + (if P m then 1 else 0) = _
        rw [hp m (by omega), b]
        rfl
theorem vN_s (P : Nat → Bool) (n : Nat) : vN P 0 (n + 1) = vN P 0 n + 2 ^ n * bn (P n) := by
  show vN P 0 n + (if P (0 + n) then 2 ^ (0 + n) else 0) = _
  rw [Nat.zero_add]
  unfold bn
  cases P n
  · rw [if_neg (by decide), if_neg (by decide), Nat.mul_zero]
  · rw [if_pos rfl, if_pos rfl, Nat.mul_one]
theorem ic_bn (P : Nat → Bool) (n : Nat) : i_count P (n + 1) = i_count P n + bn (P n) := rfl
/-- the JDK's count of bits -/
theorem pop_20 (P : Nat → Bool) : i_pop (nI (vN P 0 20)) = nI (i_count P 20) := by
  have hv : vN P 0 20 = (bn (P 0) + 2 * bn (P 1) + 4 * bn (P 2) + 8 * bn (P 3) + 16 * bn (P 4) + 32 * bn (P 5) + 64 * bn (P 6) + 128 * bn (P 7)) + 256 * ((bn (P 8) + 2 * bn (P 9) + 4 * bn (P 10) + 8 * bn (P 11) + 16 * bn (P 12) + 32 * bn (P 13) + 64 * bn (P 14) + 128 * bn (P 15)) + 256 * (bn (P 16) + 2 * bn (P 17) + 4 * bn (P 18) + 8 * bn (P 19) + 16 * bn false + 32 * bn false + 64 * bn false + 128 * bn false)) := by
    have z : bn false = 0 := rfl
    have v0 : vN P 0 0 = 0 := rfl
    rw [z]
    simp only [vN_s, v0]
    omega
  have hc : i_count P 20 = (bn (P 0) + bn (P 1) + bn (P 2) + bn (P 3) + bn (P 4) + bn (P 5) + bn (P 6) + bn (P 7)) + (bn (P 8) + bn (P 9) + bn (P 10) + bn (P 11) + bn (P 12) + bn (P 13) + bn (P 14) + bn (P 15)) + (bn (P 16) + bn (P 17) + bn (P 18) + bn (P 19) + bn false + bn false + bn false + bn false) := by
    have z : bn false = 0 := rfl
    have v0 : i_count P 0 = 0 := rfl
    rw [z]
    simp only [ic_bn, v0]
    omega
  have l : ∀ b, bn b ≤ 1 := bn_le
  have lt : ∀ b0 b1 b2 b3 b4 b5 b6 b7 : Bool, bn b0 + 2 * bn b1 + 4 * bn b2 + 8 * bn b3 + 16 * bn b4 + 32 * bn b5 + 64 * bn b6 + 128 * bn b7 < 256 := fun b0 b1 b2 b3 b4 b5 b6 b7 => by
    have := l b0
    have := l b1
    have := l b2
    have := l b3
    have := l b4
    have := l b5
    have := l b6
    have := l b7
    omega
  have hlt : vN P 0 20 < 2 ^ 24 := Nat.lt_trans (vN_lt P 0 20) (by decide)
  rw [pop_i hlt, hv, pop_n (lt _ _ _ _ _ _ _ _) (lt _ _ _ _ _ _ _ _) (lt _ _ _ _ _ _ _ _), pby8, pby8, pby8, hc]
/-- the riders of a driver's route, as the class counts them -/
def mb (B : BS) (g : Nat → Int32) (d k : Nat) : Bool := decide (k < bnr B ∧ gr g k 7 = nI d)
theorem RB.pop {B : BS} {g : Nat → Int32} {c : Nat → Int64} (h : RB B g c) {d : Nat} (hd : d < bnd B) : i_pop (r_mask (bT B d)) = nI (i_count (inP g d) (bnr B)) ∧ i_count (mb B g d) 20 = i_count (inP g d) (bnr B) := by
  have h20 := h.1.2.1
  have e1 : ∀ k, k < bnr B → inP g d k = mb B g d k := fun k hk => decide_eq_decide.mpr ⟨fun z => ⟨hk, z⟩, fun z => z.2⟩
  obtain ⟨a, b⟩ := vN_0 (P := mb B g d) (n := bnr B) 20 h20 fun k hk => decide_eq_false fun z => by omega
  have e2 : i_count (mb B g d) 20 = i_count (inP g d) (bnr B) := b.trans (ic_c _ e1).symm
  refine ⟨?_, e2⟩
  rw [h.mask hd, w_mask_v g d _ h20, vN_c _ e1, ← a, pop_20, e2]
