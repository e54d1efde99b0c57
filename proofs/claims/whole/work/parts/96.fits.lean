/-- all riders but one are taken out -/
def wo_k (r : Nat) (l : List Int32) : Nat → List Int32
  | 0 => l
  | k + 1 => if k = r then wo_k r l k else w_wo (nI k) (wo_k r l k)
theorem wo_k_ok {g : Nat → Int32} {d nr r : Nat} {l : List Int32} (hD : IvD g d) (h : IvL g d nr l) (h3 : ∀ r, r < nr → IvR g r) : ∀ k, k ≤ 20 → (∀ c, c ∈ wo_k r l k → c ∈ l) ∧ (wo_k r l k).length ≤ l.length ∧ w_val g d (wo_k r l k) = true ∧ ∀ q, q < 20 → (wo_k r l k).filter (ofr q) = if q < k ∧ ¬ q = r then [] else l.filter (ofr q)
  | 0, _ => ⟨fun c m => m, Nat.le_refl _, h.2.1, fun q _ => by rw [if_neg (by omega)]; rfl⟩
  | k + 1, hk => by
    obtain ⟨a, b, v, f⟩ := wo_k_ok (r := r) hD h h3 k (by omega)
    by_cases z : k = r
    · have e : wo_k r l (k + 1) = wo_k r l k := if_pos z
      rw [e]
      refine ⟨a, b, v, fun q hq => ?_⟩
      rw [f q hq]
      by_cases y : q < k ∧ ¬ q = r
      · rw [if_pos y, if_pos ⟨by omega, y.2⟩]
      · rw [if_neg y, if_neg (by omega)]
    · have e : wo_k r l (k + 1) = w_wo (nI k) (wo_k r l k) := if_neg z
      have hc : ∀ c, c ∈ wo_k r l k → SCode c := fun c m => h.1.2.2.2 c (a c m)
      rw [e]
      refine ⟨fun c m => a c (wo_mem m), Nat.le_trans (w_wo_n _ _) b, ?_, fun q hq => ?_⟩
      · refine (wo_val hD (by omega) (by have := h.1.2.2.1; omega) (fun c m => h.cok h3 c (a c m)) ?_).2 v
        rw [f k (by omega), if_neg (by omega)]
        exact h.2.2.two (by omega)
      · rw [wo_fq hc (by omega) hq]
        by_cases y : q = k
        · rw [if_pos y, if_pos (by omega)]
        · rw [if_neg y, f q hq]
          by_cases x : q < k ∧ ¬ q = r
          · rw [if_pos x, if_pos (by omega)]
          · rw [if_neg x, if_neg (by omega)]
/-- a rider of a valid route would fit alone -/
theorem alone_val {g : Nat → Int32} {d nr r : Nat} {l : List Int32} (hD : IvD g d) (h : IvL g d nr l) (h3 : ∀ r, r < nr → IvR g r) (h20 : nr ≤ 20) (hr : r < nr) (h7 : gr g r 7 = nI d) : w_val g d [nI r, nI (100 + r)] = true := by
  obtain ⟨a, b, v, f⟩ := wo_k_ok (r := r) hD h h3 20 (Nat.le_refl _)
  have fr := f r (by omega)
  rw [if_neg (by omega), h.2.2 r (by omega), if_pos ⟨hr, h7⟩] at fr
  have e : (wo_k r l 20).filter (ofr r) = wo_k r l 20 := by
    refine List.filter_eq_self.mpr fun c m => ?_
    obtain ⟨hq, e⟩ := (h.1.2.2.2 c (a c m)).num
    by_cases z : c_num c = r
    · rw [ofr_c (by omega) hq e]
      exact decide_eq_true z
    · have m2 : c ∈ (wo_k r l 20).filter (ofr (c_num c)) := List.mem_filter.mpr ⟨m, by rw [ofr_c hq hq e]; exact decide_eq_true rfl⟩
      rw [f _ hq, if_pos ⟨hq, z⟩] at m2
      exact absurd m2 List.not_mem_nil
  rw [← fr, e]
  exact v
/-- two solo extras: -1 or 1000000000 for none -/
def Sx (x y : Int32) : Prop := (x = -1 ∧ y = 1000000000) ∨ (0 ≤ x.toInt ∧ x.toInt ≤ 1000 ∧ y = x)
theorem SHyp.sx {g : Nat → Int32} {d r : Nat} {R : RS} {l : List Int32} {X : RdS} {D : DS} (H : SHyp g d r R l X D) : Sx (s_best (r_like R R) (nI r) X D).1 (w_solo g r d) := by
  have H2 := H.like
  have q := H2.best (Nat.zero_le _)
  have hR := H2.2.2.2.2.2.2.1
  obtain ⟨b1, b2⟩ := len_b hR (show 2 ≤ 2 by omega) (show 2 ≤ 100 by omega)
  obtain ⟨n1, n2⟩ := q.none b1 b2
  have e : r_len (r_like R R) = w_dir g d := by
    rw [H2.1.dir hR]
    show (0 : Int32) + r_step (r_like R R) 0 1 = r_step (r_like R R) 0 1
    exact Int32.zero_add _
  rw [e] at n2
  unfold w_solo
  rcases q with ⟨q1, q2⟩ | ⟨q1, q2, q3, q4⟩
  · exact Or.inl ⟨q1, by rw [if_pos q2]⟩
  · have ht : ¬ (f_find g d r []).1 = 1000000000 := fun z => m1_ne q1 (n1.mp z)
    exact Or.inr ⟨q1, q2, by rw [if_neg ht]; exact n2 ht⟩
/-- THE SOLO EXTRA -/
theorem RB.sx {B : BS} {g : Nat → Int32} {c : Nat → Int64} (h : RB B g c) {d r : Nat} (hd : d < bnd B) (hr : r < bnr B) : Sx (b_solo B d r) (w_sol g r d) := by
  have o := h.op hd
  unfold b_solo w_sol s_alone
  rw [o]
  cases ddo (bD B d)
  · rw [if_neg (by decide), if_pos (show bI false = 0 by decide)]
    exact (h.shyp hd hr).sx
  · rw [if_pos rfl, if_neg (show ¬ bI true = 0 by decide)]
    exact Or.inl ⟨rfl, rfl⟩
theorem w_solo_fit {g : Nat → Int32} {d r : Nat} (hv : w_val g d [nI r, nI (100 + r)] = true) (hl : (w_len g d [nI r, nI (100 + r)]).toInt ≤ 19998) : ¬ (f_find g d r []).1 = 1000000000 := by
  have e : f_find g d r [] = if w_val g d [nI r, nI (100 + r)] && decide (w_len g d [nI r, nI (100 + r)] < 1000000000) then (w_len g d [nI r, nI (100 + r)], 0, 0) else (1000000000, 0, 0) := rfl
  have hlt : w_len g d [nI r, nI (100 + r)] < 1000000000 := by
    rw [Int32.lt_iff_toInt_lt, big9]
    omega
  rw [e, hv, decide_eq_true hlt, if_pos (by decide)]
  intro z
  have z : w_len g d [nI r, nI (100 + r)] = 1000000000 := z
  rw [z, big9] at hl
  omega
/-- a rider in an open driver's route fits -/
theorem RB.fits {B : BS} {g : Nat → Int32} {c : Nat → Int64} (h : RB B g c) {d r : Nat} (hd : d < bnd B) (hr : r < bnr B) (h7 : gr g r 7 = nI d) (hop : gd g d 8 = 0) : 0 ≤ (b_solo B d r).toInt ∧ (b_solo B d r).toInt ≤ 1000 ∧ w_sol g r d = b_solo B d r := by
  rcases h.sx hd hr with ⟨-, b⟩ | x
  · exfalso
    have h20 := h.1.2.1
    obtain ⟨iD, iL⟩ := h.2.1.1 d hd
    have h3 := fun q hq => (h.2.1.2 q hq).1
    have v := alone_val iD iL h3 h20 hr h7
    have iR := h3 r hr
    have hr2 : r < 20 := by omega
    have cok : ∀ c, c ∈ [nI r, nI (100 + r)] → Cok g c := fun c m => by
      have e : c_num c = r := by
        rcases List.mem_cons.mp m with rfl | m
        · exact (c_of r hr2).2.2.1
        · rw [List.mem_singleton.mp m]
          exact (c_of r hr2).2.2.2
      have iR2 : IvR g (c_num c) := by
        rw [e]
        exact iR
      exact ⟨iR2.pt, iR2.2.2.1⟩
    have q := wo_val (r := r) iD hr2 (l := [nI r, nI (100 + r)]) (by show 2 ≤ 100; omega) cok (Or.inl (by
      rw [List.filter_cons, ofr_c hr2 hr2 (Or.inl rfl), decide_eq_true rfl, if_pos rfl, List.filter_cons, ofr_c hr2 hr2 (Or.inr rfl), decide_eq_true rfl, if_pos rfl]
      rfl))
    have hf := w_solo_fit v q.1.2.2
    unfold w_sol at b
    rw [if_pos hop] at b
    have sx := (h.shyp hd hr).sx
    rcases sx with ⟨x0, -⟩ | ⟨y1, y2, y3⟩
    · rcases (h.shyp hd hr).like.best (Nat.zero_le _) with ⟨-, y4⟩ | ⟨z1, -⟩
      · exact hf y4
      · exact m1_ne z1 x0
    · rw [y3] at b
      exact big_ne y2 b
  · exact x
