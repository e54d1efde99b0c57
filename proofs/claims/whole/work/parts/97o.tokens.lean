/-- two readings of a number: equal, or both beyond every range -/
def Nv (v w : Int32) : Prop := (v = w ∧ 0 ≤ v.toInt ∧ v.toInt ≤ 9999) ∨ (v = 10000 ∧ 9999 < w.toInt)
theorem dig_r {c : Int32} (h : k_dig c = true) : 48 ≤ c.toInt ∧ c.toInt ≤ 57 := by
  unfold k_dig at h
  rw [Bool.and_eq_true, decide_eq_true_iff, decide_eq_true_iff, Int32.le_iff_toInt_le, Int32.le_iff_toInt_le] at h
  exact h
theorem let_r {c : Int32} (h : k_let c = true) : 97 ≤ c.toInt ∧ c.toInt ≤ 122 := by
  unfold k_let at h
  rw [Bool.and_eq_true, decide_eq_true_iff, decide_eq_true_iff, Int32.le_iff_toInt_le, Int32.le_iff_toInt_le] at h
  exact h
theorem Nv.step {v w c : Int32} (h : Nv v w) (hc : k_dig c = true) : Nv (i_min (v * 10 + c - 48) 10000) (if 9999 < w then w else 10 * w + c - 48) := by
  obtain ⟨c1, c2⟩ := dig_r hc
  have e10 : (10 : Int32).toInt = 10 := rfl
  have e48 : (48 : Int32).toInt = 48 := rfl
  have e99 : (9999 : Int32).toInt = 9999 := rfl
  have e00 : (10000 : Int32).toInt = 10000 := rfl
  have b0 : 0 ≤ v.toInt ∧ v.toInt ≤ 10000 := by
    rcases h with ⟨-, a, b⟩ | ⟨a, -⟩
    · omega
    · rw [a, e00]
      omega
  have m1 : (v * 10).toInt = v.toInt * 10 := fb_mulI (by rw [e10]; omega) (by rw [e10]; omega)
  have m2 : (v * 10 + c).toInt = v.toInt * 10 + c.toInt := by
    rw [fb_addI (by omega) (by omega), m1]
  have m3 : (v * 10 + c - 48).toInt = v.toInt * 10 + c.toInt - 48 := by
    rw [fb_subI (by omega) (by omega), m2]
    rfl
  unfold i_min
  have L1 : 10000 < v * 10 + c - 48 ↔ 10000 < v.toInt * 10 + c.toInt - 48 := by rw [Int32.lt_iff_toInt_lt, m3, e00]
  have L2 : 9999 < w ↔ 9999 < w.toInt := by rw [Int32.lt_iff_toInt_lt, e99]
  rcases h with ⟨a, b1, b2⟩ | ⟨a, b⟩
  · subst a
    have ec : 10 * v + c - 48 = v * 10 + c - 48 := by rw [Int32.mul_comm]
    rw [if_neg (show ¬ 9999 < v from fun y => by have := L2.mp y; omega), ec]
    by_cases z : 10000 < v.toInt * 10 + c.toInt - 48
    · rw [if_pos (L1.mpr z)]
      exact Or.inr ⟨rfl, by rw [m3]; omega⟩
    · rw [if_neg (fun y => z (L1.mp y))]
      by_cases y : v.toInt * 10 + c.toInt - 48 ≤ 9999
      · exact Or.inl ⟨rfl, by rw [m3]; omega, by rw [m3]; exact y⟩
      · exact Or.inr ⟨Int32.toInt_inj.mp (by rw [m3, e00]; omega), by rw [m3]; omega⟩
  · have av : v.toInt = 10000 := by
      rw [a]
      rfl
    rw [if_pos (L1.mpr (by omega)), if_pos (L2.mpr b)]
    exact Or.inr ⟨rfl, b⟩
theorem knum_s (T : Nat → Int32) (n f p : Nat) (v : Int32) : k_num T n (f + 1) p v = if k_dig (T p) then k_num T n f (p + 1) (i_min (v * 10 + T p - 48) 10000) else (p, v) := rfl
theorem rnumb_s (T : Nat → Int32) (f p : Nat) (v : Int32) : r_numb T (f + 1) p v = if k_dig (T p) then r_numb T f (p + 1) (if 9999 < v then v else 10 * v + T p - 48) else (p, v) := rfl
theorem num_v (T : Nat → Int32) (n : Nat) : ∀ f p v w, Nv v w → (k_num T n f p v).1 = (r_numb T f p w).1 ∧ Nv (k_num T n f p v).2 (r_numb T f p w).2
  | 0, p, v, w, h => ⟨rfl, h⟩
  | f + 1, p, v, w, h => by
    rw [knum_s, rnumb_s]
    by_cases z : k_dig (T p) = true
    · rw [if_pos z, if_pos z]
      exact num_v T n f (p + 1) _ _ (h.step z)
    · rw [if_neg z, if_neg z]
      exact ⟨rfl, h⟩
/-- letters packed -/
def pkL (a : Nat → Int32) : Nat → Int64
  | 0 => 0
  | k + 1 => 27 * pkL a k + (a k).toInt64 - 96
def pkI (a : Nat → Int32) : Nat → Int
  | 0 => 0
  | k + 1 => 27 * pkI a k + (a k).toInt - 96
theorem pkI_b {a : Nat → Int32} : ∀ k, k ≤ 8 → (∀ j, j < k → 97 ≤ (a j).toInt ∧ (a j).toInt ≤ 122) → 0 ≤ pkI a k ∧ pkI a k < 27 ^ k ∧ (pkL a k).toInt = pkI a k
  | 0, _, _ => ⟨Int.le_refl _, show (0 : Int) < 27 ^ 0 by decide, rfl⟩
  | k + 1, hk, h => by
    obtain ⟨i1, i2, i3⟩ := pkI_b k (by omega) fun j hj => h j (by omega)
    obtain ⟨h1, h2⟩ := h k (by omega)
    have e : pkI a (k + 1) = 27 * pkI a k + (a k).toInt - 96 := rfl
    have eL : pkL a (k + 1) = 27 * pkL a k + (a k).toInt64 - 96 := rfl
    have pw : (27 : Int) ^ (k + 1) = 27 * 27 ^ k := by rw [Int.pow_succ, Int.mul_comm]
    have p8 : (27 : Int) ^ k ≤ 282429536481 := (by decide : ∀ k, k < 9 → (27 : Int) ^ k ≤ 282429536481) k (by omega)
    have e27 : (27 : Int64).toInt = 27 := rfl
    have e96 : (96 : Int64).toInt = 96 := rfl
    have ea : ((a k).toInt64).toInt = (a k).toInt := Int32.toInt_toInt64 _
    generalize (27 : Int) ^ k = Q at *
    have m1 : (27 * pkL a k).toInt = 27 * pkI a k := by
      rw [fb_mulL (by rw [e27, i3]; omega) (by rw [e27, i3]; omega), e27, i3]
    have m2 : (27 * pkL a k + (a k).toInt64).toInt = 27 * pkI a k + (a k).toInt := by
      rw [fb_addL (by rw [m1, ea]; omega) (by rw [m1, ea]; omega), m1, ea]
    have m3 : (27 * pkL a k + (a k).toInt64 - 96).toInt = 27 * pkI a k + (a k).toInt - 96 := by
      rw [fb_subL (by rw [m2, e96]; omega) (by rw [m2, e96]; omega), m2, e96]
    rw [e, eL, pw, m3]
    omega
theorem pkI_inj {a b : Nat → Int32} : ∀ k, (∀ j, j < k → 97 ≤ (a j).toInt ∧ (a j).toInt ≤ 122) → (∀ j, j < k → 97 ≤ (b j).toInt ∧ (b j).toInt ≤ 122) → pkI a k = pkI b k → ∀ j, j < k → a j = b j
  | 0, _, _, _, j, hj => absurd hj (by omega)
  | k + 1, ha, hb, e, j, hj => by
    have e1 : 27 * pkI a k + (a k).toInt - 96 = 27 * pkI b k + (b k).toInt - 96 := e
    have a1 := ha k (by omega)
    have b1 := hb k (by omega)
    have e2 : pkI a k = pkI b k := by omega
    have e3 : (a k).toInt = (b k).toInt := by omega
    by_cases z : j = k
    · rw [z]
      exact Int32.toInt_inj.mp e3
    · exact pkI_inj k (fun j hj => ha j (by omega)) (fun j hj => hb j (by omega)) e2 j (by omega)
theorem pkL_eq {a b : Nat → Int32} {k : Nat} (hk : k ≤ 8) (ha : ∀ j, j < k → 97 ≤ (a j).toInt ∧ (a j).toInt ≤ 122) (hb : ∀ j, j < k → 97 ≤ (b j).toInt ∧ (b j).toInt ≤ 122) : pkL a k = pkL b k ↔ ∀ j, j < k → a j = b j := by
  constructor
  · intro e
    have e2 := congrArg Int64.toInt e
    rw [(pkI_b k hk ha).2.2, (pkI_b k hk hb).2.2] at e2
    exact pkI_inj k ha hb e2
  · intro e
    have : ∀ n, n ≤ k → pkL a n = pkL b n := fun n => by
      induction n with
      | zero => intro _; rfl
      | succ n ih =>
        intro hn
        show 27 * pkL a n + (a n).toInt64 - 96 = 27 * pkL b n + (b n).toInt64 - 96
        rw [ih (by omega), e n (by omega)]
    exact this k (Nat.le_refl _)
theorem rpack_e (q : Nat) : ∀ k, r_pack q k = pkL (fun j => (swB.getD q []).getD j 0) k
  | 0 => rfl
  | k + 1 => by
    show 27 * r_pack q k + ((swB.getD q []).getD k 0).toInt64 - 96 = 27 * pkL (fun j => (swB.getD q []).getD j 0) k + ((swB.getD q []).getD k 0).toInt64 - 96
    rw [rpack_e q k]
theorem krun_s (P : Int32 → Bool) (T : Nat → Int32) (n f p : Nat) : k_run P T n (f + 1) p = if P (T p) then k_run P T n f (p + 1) else p := rfl
theorem rword_s (T : Nat → Int32) (f p t : Nat) (w : Int64) : r_word T (f + 1) p t w = if k_let (T p) then r_word T f (p + 1) (t + 1) (if t < 8 then 27 * w + (T p).toInt64 - 96 else w) else (p, t, w) := rfl
theorem word_v (T : Nat → Int32) (m p0 : Nat) : ∀ f t, (r_word T f (p0 + t) t (pkL (fun j => T (p0 + j)) (if t < 8 then t else 8))).1 = k_run k_let T m f (p0 + t) ∧ (r_word T f (p0 + t) t (pkL (fun j => T (p0 + j)) (if t < 8 then t else 8))).2.1 = k_run k_let T m f (p0 + t) - p0 ∧ (r_word T f (p0 + t) t (pkL (fun j => T (p0 + j)) (if t < 8 then t else 8))).2.2 = pkL (fun j => T (p0 + j)) (if k_run k_let T m f (p0 + t) - p0 < 8 then k_run k_let T m f (p0 + t) - p0 else 8) ∧ ∀ j, p0 + t ≤ j → j < k_run k_let T m f (p0 + t) → k_let (T j) = true
  | 0, t => by
    have e : k_run k_let T m 0 (p0 + t) = p0 + t := rfl
    have e2 : ∀ w, r_word T 0 (p0 + t) t w = (p0 + t, t, w) := fun _ => rfl
    rw [e, e2, show p0 + t - p0 = t by omega]
    exact ⟨rfl, rfl, rfl, fun j h1 h2 => absurd h1 (by omega)⟩
  | f + 1, t => by
    rw [krun_s, rword_s]
    by_cases z : k_let (T (p0 + t)) = true
    · rw [if_pos z, if_pos z]
      have ew : (if t < 8 then 27 * pkL (fun j => T (p0 + j)) (if t < 8 then t else 8) + (T (p0 + t)).toInt64 - 96 else pkL (fun j => T (p0 + j)) (if t < 8 then t else 8)) = pkL (fun j => T (p0 + j)) (if t + 1 < 8 then t + 1 else 8) := by
        by_cases y : t < 8
        · rw [if_pos y, if_pos y]
          have : (if t + 1 < 8 then t + 1 else 8) = t + 1 := by
            by_cases w : t + 1 < 8
            · rw [if_pos w]
            · rw [if_neg w]
              omega
          rw [this]
          rfl
        · rw [if_neg y, if_neg y, if_neg (by omega)]
      rw [ew, show p0 + t + 1 = p0 + (t + 1) by omega]
      obtain ⟨i1, i2, i3, i4⟩ := word_v T m p0 f (t + 1)
      refine ⟨i1, i2, i3, fun j h1 h2 => ?_⟩
      by_cases y : j = p0 + t
      · rw [y]
        exact z
      · exact i4 j (by omega) h2
    · rw [if_neg z, if_neg z, show p0 + t - p0 = t by omega]
      exact ⟨rfl, rfl, rfl, fun j h1 h2 => absurd h1 (by omega)⟩
/-- THE SAME TOKEN -/
def Tk (T : Nat → Int32) (m : Nat) (S : KS) (Z : ZS) : Prop := ken S = zpos Z ∧ kst S = ztst Z ∧ kfc S = zec Z ∧ kfp S = zep Z ∧ kst S ≤ ken S ∧ ken S ≤ m ∧
  ((kkd S = 0 ∧ ztok Z = 0) ∨
   (kkd S = 1 ∧ ztok Z = 2 ∧ kst S < ken S ∧ zlet Z = ken S - kst S ∧ zwrd Z = pkL (fun j => T (kst S + j)) (if ken S - kst S < 8 then ken S - kst S else 8) ∧ ∀ j, kst S ≤ j → j < ken S → k_let (T j) = true) ∨
   (kkd S = 2 ∧ ztok Z = 3 ∧ kst S < ken S ∧ Nv (kva S) (znum Z)) ∨ (kkd S = 3 ∧ ztok Z = 4 ∧ kst S < ken S) ∨ (kkd S = 4 ∧ ztok Z = 1 ∧ kst S < ken S))
theorem k_next_e (T : Nat → Int32) (m : Nat) (S : KS) : k_next T m S = k_tok T m S (k_run k_blank T m (m - ken S) (ken S)) := rfl
theorem z_next_e (T : Nat → Int32) (m : Nat) (Z : ZS) : z_next T m Z = z_at T m Z (k_run k_blank T m (m - zpos Z) (zpos Z)) := rfl
theorem k_tok_e (T : Nat → Int32) (m : Nat) (S : KS) (p : Nat) : k_tok T m S p = if k_at T m p = -1 then (kV S, kfc S, kfp S, 0, p, p, kva S)
  else if k_let (k_at T m p) then k_word T m (kV S, kfc S, kfp S, kkd S, p, p, kva S)
  else if k_dig (k_at T m p) then k_numb T m (kV S, kfc S, kfp S, kkd S, p, p, kva S)
  else (kV S, kfc S, kfp S, if k_at T m p = 59 then 3 else 4, p, p + 1, kva S) := rfl
theorem z_at_e (T : Nat → Int32) (m : Nat) (Z : ZS) (p : Nat) : z_at T m Z p = if k_at T m p = -1 then (p, p, 0, 0, 0, 0, zec Z, zep Z)
  else if k_let (k_at T m p) then ((r_word T (m - p) p 0 0).1, p, 2, (r_word T (m - p) p 0 0).2.1, 0, (r_word T (m - p) p 0 0).2.2, zec Z, zep Z)
  else if k_dig (k_at T m p) then ((r_numb T (m - p) p 0).1, p, 3, 0, (r_numb T (m - p) p 0).2, 0, zec Z, zep Z)
  else (p + 1, p, if k_at T m p = 59 then 4 else 1, 0, 0, 0, zec Z, zep Z) := rfl
theorem tok_v {T : Nat → Int32} {m p : Nat} {S : KS} {Z : ZS} (hp : p ≤ m) (h3 : kfc S = zec Z) (h4 : kfp S = zep Z) : Tk T m (k_tok T m S p) (z_at T m Z p) ∧ kst (k_tok T m S p) = p ∧ kV (k_tok T m S p) = kV S := by
  rw [k_tok_e, z_at_e]
  by_cases a : k_at T m p = -1
  · rw [if_pos a, if_pos a]
    exact ⟨⟨rfl, rfl, h3, h4, Nat.le_refl _, hp, Or.inl ⟨rfl, rfl⟩⟩, rfl, rfl⟩
  · have pm : p < m := by
      rcases Nat.lt_or_ge p m with y | y
      · exact y
      · exact absurd (k_at_ge (by omega)) a
    rw [if_neg a, if_neg a]
    have et := k_at_lt (T := T) pm
    by_cases b : k_let (k_at T m p) = true
    · rw [if_pos b, if_pos b]
      rw [et] at b
      obtain ⟨w1, w2, w3, w4⟩ := word_v T m p (m - p) 0
      have e0 : pkL (fun j => T (p + j)) (if 0 < 8 then 0 else 8) = 0 := rfl
      rw [e0, Nat.add_zero] at w1 w2 w3
      rw [Nat.add_zero] at w4
      have le := (k_run_le k_let T m (m - p) p).2
      have lt : p < k_run k_let T m (m - p) p := by
        obtain ⟨f, hf⟩ : ∃ f, m - p = f + 1 := ⟨m - p - 1, by omega⟩
        rw [hf, krun_s, if_pos b]
        have := (k_run_le k_let T m f (p + 1)).1
        omega
      have ek : k_word T m (kV S, kfc S, kfp S, kkd S, p, p, kva S) = (kV S, kfc S, kfp S, 1, p, k_run k_let T m (m - p) p, kva S) := rfl
      rw [ek]
      generalize r_word T (m - p) p 0 0 = rw9 at w1 w2 w3
      generalize k_run k_let T m (m - p) p = e9 at *
      refine ⟨⟨w1.symm, rfl, h3, h4, Nat.le_of_lt lt, ?_, Or.inr (Or.inl ⟨rfl, rfl, lt, w2, w3, w4⟩)⟩, rfl, rfl⟩
      show e9 ≤ m
      omega
    · rw [if_neg b, if_neg b]
      by_cases c : k_dig (k_at T m p) = true
      · rw [if_pos c, if_pos c]
        rw [et] at c
        obtain ⟨n1, n2⟩ := num_v T m (m - p) p 0 0 (Or.inl ⟨rfl, by decide, by decide⟩)
        have le := (k_num_le T m (m - p) p 0).2
        have lt : p < (k_num T m (m - p) p 0).1 := by
          obtain ⟨f, hf⟩ : ∃ f, m - p = f + 1 := ⟨m - p - 1, by omega⟩
          rw [hf, knum_s, if_pos c]
          have := (k_num_le T m f (p + 1) (i_min (0 * 10 + T p - 48) 10000)).1
          omega
        have ek : k_numb T m (kV S, kfc S, kfp S, kkd S, p, p, kva S) = (kV S, kfc S, kfp S, 2, p, (k_num T m (m - p) p 0).1, (k_num T m (m - p) p 0).2) := rfl
        rw [ek]
        generalize r_numb T (m - p) p 0 = rn9 at n1 n2
        generalize k_num T m (m - p) p 0 = e9 at *
        refine ⟨⟨n1, rfl, h3, h4, Nat.le_of_lt lt, ?_, Or.inr (Or.inr (Or.inl ⟨rfl, rfl, lt, n2⟩))⟩, rfl, rfl⟩
        show e9.1 ≤ m
        omega
      · rw [if_neg c, if_neg c]
        by_cases y : k_at T m p = 59
        · rw [if_pos y, if_pos y]
          exact ⟨⟨rfl, rfl, h3, h4, Nat.le_succ _, pm, Or.inr (Or.inr (Or.inr (Or.inl ⟨rfl, rfl, Nat.lt_succ_self _⟩)))⟩, rfl, rfl⟩
        · rw [if_neg y, if_neg y]
          exact ⟨⟨rfl, rfl, h3, h4, Nat.le_succ _, pm, Or.inr (Or.inr (Or.inr (Or.inr ⟨rfl, rfl, Nat.lt_succ_self _⟩)))⟩, rfl, rfl⟩
/-- THE NEXT TOKEN -/
theorem next_v {T : Nat → Int32} {m : Nat} {S : KS} {Z : ZS} (h1 : ken S = zpos Z) (h2 : ken S ≤ m) (h3 : kfc S = zec Z) (h4 : kfp S = zep Z) : Tk T m (k_next T m S) (z_next T m Z) ∧ ken S ≤ kst (k_next T m S) ∧ kV (k_next T m S) = kV S := by
  rw [k_next_e, z_next_e, ← h1]
  obtain ⟨r1, r2⟩ := k_run_le k_blank T m (m - ken S) (ken S)
  obtain ⟨a, b, c⟩ := tok_v (T := T) (m := m) (p := k_run k_blank T m (m - ken S) (ken S)) (by omega) h3 h4
  exact ⟨a, by rw [b]; exact r1, c⟩
theorem Tk.next {T : Nat → Int32} {m : Nat} {S : KS} {Z : ZS} (h : Tk T m S Z) : Tk T m (k_next T m S) (z_next T m Z) ∧ ken S ≤ kst (k_next T m S) ∧ kV (k_next T m S) = kV S := next_v h.1 h.2.2.2.2.2.1 h.2.2.1 h.2.2.2.1
theorem Tk.kind {T : Nat → Int32} {m : Nat} {S : KS} {Z : ZS} (h : Tk T m S Z) : (kkd S = 0 ↔ ztok Z = 0) ∧ (kkd S = 2 ↔ ztok Z = 3) ∧ (kkd S = 3 ↔ ztok Z = 4) ∧ (kkd S = 1 ↔ ztok Z = 2) := by
  rcases h.2.2.2.2.2.2 with ⟨a, b⟩ | ⟨a, b, -⟩ | ⟨a, b, -⟩ | ⟨a, b, -⟩ | ⟨a, b, -⟩ <;> rw [a, b] <;> decide
theorem sw_let : ∀ q, q < 3 → ∀ j, j < swL.getD q 0 → 97 ≤ ((swB.getD q []).getD j 0).toInt ∧ ((swB.getD q []).getD j 0).toInt ≤ 122 := by decide
/-- the same word -/
theorem Tk.isw {T : Nat → Int32} {m : Nat} {S : KS} {Z : ZS} (h : Tk T m S Z) {q : Nat} (hq : q < 3) : k_isw T m S q = z_isw Z q := by
  obtain ⟨h1, h2, h3, h4, h5, h6, h7⟩ := h
  have sl := sw_le q hq
  unfold k_isw z_isw
  rcases h7 with ⟨a, b⟩ | ⟨a, b, lt, w1, w2, w3⟩ | ⟨a, b, -⟩ | ⟨a, b, -⟩ | ⟨a, b, -⟩
  · rw [a, b, show decide ((0 : Int32) = 1) = false by decide, show decide ((0 : Int32) = 2) = false by decide, Bool.false_and, Bool.false_and, Bool.false_and]
  · rw [a, b, decide_eq_true (show (1 : Int32) = 1 from rfl), decide_eq_true (show (2 : Int32) = 2 from rfl), Bool.true_and, Bool.true_and, w1, w2, rpack_e]
    by_cases z : ken S - kst S = swL.getD q 0
    · rw [decide_eq_true z, Bool.true_and, Bool.true_and, z, if_pos (by omega)]
      have pe := pkL_eq (a := fun j => T (kst S + j)) (b := fun j => (swB.getD q []).getD j 0) (k := swL.getD q 0) (by omega) (fun j hj => let_r (w3 _ (by omega) (by omega))) (sw_let q hq)
      refine b_iff ?_
      rw [decide_eq_true_iff, pe, Bool.not_eq_true', ← Bool.not_eq_true, any_e]
      constructor
      · intro w j hj
        have hn : ¬ (!decide (k_at T m (kst S + j) = (swB.getD q []).getD j 0)) = true := fun y => w ⟨j, Nat.zero_le _, by omega, y⟩
        rw [k_at_lt (show kst S + j < m by omega)] at hn
        show T (kst S + j) = (swB.getD q []).getD j 0
        by_cases y : T (kst S + j) = (swB.getD q []).getD j 0
        · exact y
        · rw [decide_eq_false y] at hn
          exact absurd rfl hn
      · rintro w ⟨j, -, hj, y⟩
        have hj : j < swL.getD q 0 := by omega
        have e : T (kst S + j) = (swB.getD q []).getD j 0 := w j hj
        rw [k_at_lt (show kst S + j < m by omega), decide_eq_true e] at y
        exact absurd y (by decide)
    · rw [decide_eq_false z, Bool.false_and, Bool.false_and]
  · rw [a, b, show decide ((2 : Int32) = 1) = false by decide, show decide ((3 : Int32) = 2) = false by decide, Bool.false_and, Bool.false_and, Bool.false_and]
  · rw [a, b, show decide ((3 : Int32) = 1) = false by decide, show decide ((4 : Int32) = 2) = false by decide, Bool.false_and, Bool.false_and, Bool.false_and]
  · rw [a, b, show decide ((4 : Int32) = 1) = false by decide, show decide ((1 : Int32) = 2) = false by decide, Bool.false_and, Bool.false_and, Bool.false_and]
