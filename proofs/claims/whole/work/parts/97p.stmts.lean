theorem zreq_t (Z : ZS) (c : Int32) : z_req Z true c = Z := if_neg fun z => absurd z.1 (by decide)
theorem zreq_0 {Z : ZS} {c : Int32} (h : zec Z = 0) : z_req Z false c = (zpos Z, ztst Z, ztok Z, zlet Z, znum Z, zwrd Z, c, nI (ztst Z)) := if_pos ⟨rfl, h⟩
theorem zadv_0 {T : Nat → Int32} {m : Nat} {Z : ZS} (h : zec Z = 0) : z_adv T m Z = z_next T m Z := if_pos h
theorem znext_ec (T : Nat → Int32) (m : Nat) (Z : ZS) : zec (z_next T m Z) = zec Z := by
  rw [z_next_e, z_at_e]
  generalize k_run k_blank T m (m - zpos Z) (zpos Z) = p
  by_cases a : k_at T m p = -1
  · rw [if_pos a]
  · rw [if_neg a]
    by_cases b : k_let (k_at T m p) = true
    · rw [if_pos b]
    · rw [if_neg b]
      by_cases c : k_dig (k_at T m p) = true
      · rw [if_pos c]
      · rw [if_neg c]
theorem knext_le {T : Nat → Int32} {m : Nat} {S : KS} (h : ken S ≤ m) : ken S ≤ kst (k_next T m S) ∧ kst (k_next T m S) ≤ ken (k_next T m S) ∧ ken (k_next T m S) ≤ m ∧ kV (k_next T m S) = kV S := by
  obtain ⟨a, b, c⟩ := next_v (T := T) (m := m) (S := S) (Z := (ken S, 0, 0, 0, 0, 0, kfc S, kfp S)) rfl h rfl rfl
  exact ⟨b, a.2.2.2.2.1, a.2.2.2.2.2.1, c⟩
theorem z_pn_e (T : Nat → Int32) (m : Nat) (Z : ZS) (lo hi : Int32) : z_pn T m Z lo hi = z_adv T m (z_req (z_req Z (decide (ztok Z = 3)) 1) (b_in (znum Z) lo hi) 2) := rfl
theorem Nv.bin {v w lo hi : Int32} (h : Nv v w) (hh : hi.toInt ≤ 9999) : b_in v lo hi = b_in w lo hi ∧ (b_in v lo hi = true → v = w) := by
  rcases h with ⟨a, -⟩ | ⟨a, b⟩
  · rw [a]
    exact ⟨rfl, fun _ => rfl⟩
  · have e1 : b_in v lo hi = false := by
      cases z : b_in v lo hi
      · rfl
      · have := (b_in_i.mp z).2
        have e00 : (10000 : Int32).toInt = 10000 := rfl
        rw [a, e00] at this
        omega
    have e2 : b_in w lo hi = false := by
      cases z : b_in w lo hi
      · rfl
      · have := (b_in_i.mp z).2
        omega
    rw [e1, e2]
    exact ⟨rfl, fun y => absurd y (by decide)⟩
/-- ONE NUMBER -/
theorem pn_v {T : Nat → Int32} {m : Nat} {S : KS} {Z : ZS} {lo hi : Int32} (tk : Tk T m S Z) (e0 : zec Z = 0) (hh : hi.toInt ≤ 9999) :
    (kkd S = 2 ∧ b_in (kva S) lo hi = true ∧ kva S = znum Z ∧ z_pn T m Z lo hi = z_next T m Z) ∨ (¬ kkd S = 2 ∧ zec (z_pn T m Z lo hi) = 1 ∧ zep (z_pn T m Z lo hi) = nI (kst S)) ∨ (kkd S = 2 ∧ b_in (kva S) lo hi = false ∧ zec (z_pn T m Z lo hi) = 2 ∧ zep (z_pn T m Z lo hi) = nI (kst S)) := by
  rw [z_pn_e]
  have kd := tk.kind.2.1
  have es := tk.2.1
  by_cases z : kkd S = 2
  · rw [decide_eq_true (kd.mp z), zreq_t]
    have nv : Nv (kva S) (znum Z) := by
      rcases tk.2.2.2.2.2.2 with ⟨a, -⟩ | ⟨a, -⟩ | ⟨-, -, -, a⟩ | ⟨a, -⟩ | ⟨a, -⟩
      · rw [z] at a
        exact absurd a (by decide)
      · rw [z] at a
        exact absurd a (by decide)
      · exact a
      · rw [z] at a
        exact absurd a (by decide)
      · rw [z] at a
        exact absurd a (by decide)
    obtain ⟨b1, b2⟩ := nv.bin (lo := lo) hh
    cases b : b_in (kva S) lo hi
    · rw [← b1, b, zreq_0 e0, z_adv_ec (show ¬ (2 : Int32) = 0 by decide)]
      exact Or.inr (Or.inr ⟨z, rfl, rfl, by rw [es]⟩)
    · rw [← b1, b, zreq_t, zadv_0 e0]
      exact Or.inl ⟨z, rfl, b2 b, rfl⟩
  · rw [decide_eq_false (fun y => z (kd.mpr y)), zreq_0 e0, z_req_ec (show ¬ (1 : Int32) = 0 by decide), z_adv_ec (show ¬ (1 : Int32) = 0 by decide)]
    exact Or.inr (Or.inl ⟨z, rfl, by rw [es]⟩)
/-- the reference's numbers, one after another -/
def zsq (T : Nat → Int32) (m : Nat) (lo hi : Nat → Int32) (Z : ZS) : Nat → ZS
  | 0 => Z
  | i + 1 => z_pn T m (zsq T m lo hi Z i) (lo i) (hi i)
theorem zsq_s (T : Nat → Int32) (m : Nat) (lo hi : Nat → Int32) (Z : ZS) (i : Nat) : zsq T m lo hi Z (i + 1) = z_pn T m (zsq T m lo hi Z i) (lo i) (hi i) := rfl
theorem zsq_err {T : Nat → Int32} {m : Nat} {lo hi : Nat → Int32} {Z : ZS} {k : Nat} (h : ¬ zec (zsq T m lo hi Z k) = 0) : ∀ j, zsq T m lo hi Z (k + j) = zsq T m lo hi Z k
  | 0 => rfl
  | j + 1 => by
    have ih := zsq_err h j
    have e : zsq T m lo hi Z (k + (j + 1)) = z_pn T m (zsq T m lo hi Z (k + j)) (lo (k + j)) (hi (k + j)) := rfl
    rw [e, ih, z_pn_ec h]
theorem k_nums_e (T : Nat → Int32) (m ql qh f k : Nat) (S : KS) : k_nums T m ql qh (f + 1) k S = if ¬ kkd (k_next T m S) = 2 then (false, k_fail (k_next T m S) 1)
    else if b_in (kva (k_next T m S)) ((saV ql).getD k 0) ((saV qh).getD k 0) then k_nums T m ql qh f (k + 1) (k_setV (k_next T m S) k (kva (k_next T m S)))
    else (false, k_fail (k_next T m S) 2) := rfl
/-- THE NUMBERS of a statement -/
theorem nums_v {T : Nat → Int32} {m ql qh N : Nat} {lo hi : Nat → Int32} {Z0 : ZS} (hlo : ∀ i, i < N → (saV ql).getD i 0 = lo i ∧ (saV qh).getD i 0 = hi i ∧ (hi i).toInt ≤ 9999) : ∀ f k S, k + f = N → ken S ≤ m → Tk T m (k_next T m S) (zsq T m lo hi Z0 k) → zec (zsq T m lo hi Z0 k) = 0 →
    ((k_nums T m ql qh f k S).1 = true ∧ zec (zsq T m lo hi Z0 N) = 0 ∧ Tk T m (k_next T m (k_nums T m ql qh f k S).2) (zsq T m lo hi Z0 N) ∧ (∀ i, k ≤ i → i < N → kV (k_nums T m ql qh f k S).2 i = znum (zsq T m lo hi Z0 i) ∧ b_in (znum (zsq T m lo hi Z0 i)) (lo i) (hi i) = true) ∧ (∀ i, i < k → kV (k_nums T m ql qh f k S).2 i = kV S i) ∧ ken S ≤ ken (k_nums T m ql qh f k S).2 ∧ ken (k_nums T m ql qh f k S).2 ≤ m) ∨
    ((k_nums T m ql qh f k S).1 = false ∧ ¬ zec (zsq T m lo hi Z0 N) = 0 ∧ kfc (k_nums T m ql qh f k S).2 = zec (zsq T m lo hi Z0 N) ∧ kfp (k_nums T m ql qh f k S).2 = zep (zsq T m lo hi Z0 N))
  | 0, k, S, e, hm, tk, e0 => by
    have ek : k = N := by omega
    subst ek
    have e1 : k_nums T m ql qh 0 k S = (true, S) := rfl
    rw [e1]
    exact Or.inl ⟨rfl, e0, tk, fun i h1 h2 => absurd h1 (by omega), fun _ _ => rfl, Nat.le_refl _, hm⟩
  | f + 1, k, S, e, hm, tk, e0 => by
    obtain ⟨l1, l2, l3⟩ := hlo k (by omega)
    obtain ⟨q1, q2, q3, q4⟩ := knext_le (T := T) hm
    rw [k_nums_e, l1, l2]
    have pn := pn_v (lo := lo k) tk e0 l3
    rw [← zsq_s] at pn
    generalize hS1 : k_next T m S = S1 at *
    have fin : ∀ c : Int32, ¬ c = 0 → zec (zsq T m lo hi Z0 (k + 1)) = c → zep (zsq T m lo hi Z0 (k + 1)) = nI (kst S1) → ¬ zec (zsq T m lo hi Z0 N) = 0 ∧ kfc (k_fail S1 c) = zec (zsq T m lo hi Z0 N) ∧ kfp (k_fail S1 c) = zep (zsq T m lo hi Z0 N) := fun c hc a b => by
      have := zsq_err (T := T) (m := m) (lo := lo) (hi := hi) (Z := Z0) (k := k + 1) (by rw [a]; exact hc) f
      rw [show k + 1 + f = N by omega] at this
      rw [this, a, b]
      exact ⟨hc, rfl, rfl⟩
    rcases pn with ⟨a, b, c, d⟩ | ⟨a, b, c⟩ | ⟨a, b, c, d⟩
    · rw [if_neg (fun y => y a), if_pos b]
      have es : ken (k_setV S1 k (kva S1)) = ken S1 := rfl
      have nx := next_v (T := T) (m := m) (S := k_setV S1 k (kva S1)) (Z := zsq T m lo hi Z0 k) tk.1 q3 tk.2.2.1 tk.2.2.2.1
      have ih := nums_v hlo f (k + 1) (k_setV S1 k (kva S1)) (by omega) q3 (by rw [d]; exact nx.1) (by rw [d, znext_ec]; exact e0)
      rcases ih with ⟨i1, i2, i3, i4, i5, i6, i7⟩ | ih
      · refine Or.inl ⟨i1, i2, i3, fun i h1 h2 => ?_, fun i hi9 => ?_, ?_, i7⟩
        · by_cases y : i = k
          · subst y
            rw [i5 i (by omega), ← c]
            exact ⟨ux_s, b⟩
          · exact i4 i (by omega) h2
        · rw [i5 i (by omega)]
          show upd (kV S1) k (kva S1) i = kV S i
          rw [ux_n (by omega), q4]
        · rw [es] at i6
          omega
      · exact Or.inr ih
    · rw [if_pos a]
      exact Or.inr ⟨rfl, fin 1 (by decide) b c⟩
    · rw [if_neg (fun y => y a), if_neg (by rw [b]; decide)]
      exact Or.inr ⟨rfl, fin 2 (by decide) c d⟩
theorem zpp_sq {T : Nat → Int32} {m : Nat} {lo hi : Nat → Int32} {P : Nat → Int32} {Z : ZS} : ∀ k, (∀ i, i < k → lo i = 0 ∧ hi i = 99) → (z_pp T m P Z k).2 = zsq T m lo hi Z k ∧ ∀ i, i < k → (z_pp T m P Z k).1 i = znum (zsq T m lo hi Z i)
  | 0, _ => ⟨rfl, fun i h => absurd h (by omega)⟩
  | k + 1, h => by
    obtain ⟨a, b⟩ := zpp_sq (T := T) (m := m) (P := P) (Z := Z) k fun i hi9 => h i (by omega)
    rw [z_pp_s, zsq_s, (h k (by omega)).1, (h k (by omega)).2, a]
    refine ⟨rfl, fun i hi9 => ?_⟩
    show upd (z_pp T m P Z k).1 k (znum (zsq T m lo hi Z k)) i = _
    by_cases y : i = k
    · rw [y]
      exact ux_s
    · rw [ux_n y]
      exact b i (by omega)
/-- a statement read by both -/
def StR (T : Nat → Int32) (m e : Nat) (s : Bool × KS × BS) (p : MS × ZS) : Prop := (s.1 = true ∧ zec p.2 = 0 ∧ Tk T m (k_next T m s.2.1) p.2 ∧ RB s.2.2 (gbrd p.1) (gcrd p.1) ∧ e ≤ ken s.2.1 ∧ ken s.2.1 ≤ m) ∨ (s.1 = false ∧ ¬ zec p.2 = 0 ∧ kfc s.2.1 = zec p.2 ∧ kfp s.2.1 = zep p.2)
theorem rl_9 {g : Nat → Int32} {d : Nat} (h : gd g d 9 = 0) : rl g d = [] := by
  unfold rl
  rw [h]
  rfl
theorem RB.addDT {B : BS} {g : Nat → Int32} {c : Nat → Int64} (h : RB B g c) (h8 : bnd B < 8) {V : Nat → Int32} (hb : (b_in (V 4) 1 4 && b_in (V 5) 0 1439 && b_in (V 6) 0 400 && b_in (V 7) 1 99) = true) (hs : b_pl (V 0) (V 1) = true) (he : b_pl (V 2) (V 3) = true) :
    RB (k_drvB B V) (a_tripG (upd (a_drvG g (bnd B) (V 4) (V 5) (V 6) (V 7)) 1 (nI (bnd B + 1))) (bnd B) (V 0) (V 1) (V 2) (V 3)) (vp_updL c (bnd B) 0) := by
  have h1 := h.addD h8 hb
  have h9 : gd (upd (a_drvG g (bnd B) (V 4) (V 5) (V 6) (V 7)) 1 (nI (bnd B + 1))) (bnd B) 9 = 0 := by
    show upd (a_drvG g (bnd B) (V 4) (V 5) (V 6) (V 7)) 1 (nI (bnd B + 1)) (8 + 10 * bnd B + 9) = 0
    rw [ux_n (by omega)]
    unfold a_drvG
    rw [ux_n (by omega), ux_n (by omega), ux_n (by omega), ux_n (by omega)]
    exact a_zero_g 10 (by omega)
  have h2 := (h1.trip (d := bnd B) (by show bnd B < bnd B + 1; omega) hs he (rl_9 h9)).1
  have eT : bT (b_addD B (V 4) (V 5) (V 6) (V 7)) (bnd B) = r_begin (bT B (bnd B)) 0 0 0 0 := vf_s _ _ _
  have eB : b_setT (b_addD B (V 4) (V 5) (V 6) (V 7)) (bnd B) (r_begin (bT (b_addD B (V 4) (V 5) (V 6) (V 7)) (bnd B)) (V 0) (V 1) (V 2) (V 3)) = k_drvB B V := by
    rw [eT]
    unfold k_drvB b_addD b_setT
    show (_, _, _, _, vf_upd (vf_upd (bT B) (bnd B) _) (bnd B) _, _) = _
    rw [vf_ss]
    rfl
  rw [eB] at h2
  exact h2
theorem k_drv_e (T : Nat → Int32) (m : Nat) (S : KS) (B : BS) : k_drv T m S B = if 8 ≤ bnd B then (false, k_fail S 3, B) else if (k_nums T m 0 1 8 0 S).1 then (true, (k_nums T m 0 1 8 0 S).2, k_drvB B (kV (k_nums T m 0 1 8 0 S).2)) else (false, (k_nums T m 0 1 8 0 S).2, B) := rfl
theorem k_rdr_e (T : Nat → Int32) (m : Nat) (S : KS) (B : BS) : k_rdr T m S B = if 20 ≤ bnr B then (false, k_fail S 3, B) else if (k_nums T m 2 3 6 0 S).1 then (true, (k_nums T m 2 3 6 0 S).2, k_rdrB B (kV (k_nums T m 2 3 6 0 S).2)) else (false, (k_nums T m 2 3 6 0 S).2, B) := rfl
theorem k_pen_e (T : Nat → Int32) (m : Nat) (S : KS) (B : BS) : k_pen T m S B = if (k_nums T m 4 5 1 0 S).1 then (true, (k_nums T m 4 5 1 0 S).2, b_head B (bnd B) (bnr B) (kV (k_nums T m 4 5 1 0 S).2 0)) else (false, (k_nums T m 4 5 1 0 S).2, B) := rfl
/-- A DRIVER'S STATEMENT -/
theorem drv_v {T : Nat → Int32} {m : Nat} {S : KS} {Z : ZS} {B : BS} {N : MS} (tk : Tk T m S Z) (e0 : zec Z = 0) (hT : gtxt N = T) (h : RB B (gbrd N) (gcrd N)) : StR T m (ken S) (k_drv T m S B) (pd N m Z (bnd B)) := by
  have hm := tk.2.2.2.2.2.1
  unfold StR
  rw [pd_2, k_drv_e, hT]
  by_cases z : 8 ≤ bnd B
  · have zd : zd5 T m (gplc N) Z (decide (bnd B < 8)) = (zpos Z, ztst Z, ztok Z, zlet Z, znum Z, zwrd Z, 3, nI (ztst Z)) := by
      rw [decide_eq_false (by omega)]
      have n0 : ¬ zec (zpos Z, ztst Z, ztok Z, zlet Z, znum Z, zwrd Z, (3 : Int32), nI (ztst Z)) = 0 := show ¬ (3 : Int32) = 0 by decide
      have a0 : zd0 T m Z false = (zpos Z, ztst Z, ztok Z, zlet Z, znum Z, zwrd Z, 3, nI (ztst Z)) := by
        unfold zd0
        rw [zreq_0 e0, z_adv_ec n0]
      unfold zd5 zd4 zd3 zd2 zpl
      rw [a0, z_pp_ec n0, z_pn_ec n0, z_pn_ec n0, z_pn_ec n0, z_pn_ec n0]
    rw [if_pos z, zd]
    exact Or.inr ⟨rfl, show ¬ (3 : Int32) = 0 by decide, rfl, by show nI (kst S) = nI (ztst Z); rw [tk.2.1]⟩
  · have hd0 : zd0 T m Z true = z_next T m Z := by
      unfold zd0
      rw [zreq_t, zadv_0 e0]
    rw [if_neg z]
    obtain ⟨t1, t2, t3⟩ := tk.next
    have hlo : ∀ i, i < 8 → (saV 0).getD i 0 = (fun i => (saV 0).getD i 0) i ∧ (saV 1).getD i 0 = (fun i => (saV 1).getD i 0) i ∧ ((fun i => (saV 1).getD i 0) i).toInt ≤ 9999 := fun i hi => ⟨rfl, rfl, (by decide : ∀ i, i < 8 → ((saV 1).getD i 0).toInt ≤ 9999) i hi⟩
    have nv := nums_v (T := T) (m := m) (Z0 := z_next T m Z) hlo 8 0 S (by omega) hm t1 (by show zec (z_next T m Z) = 0; rw [znext_ec]; exact e0)
    obtain ⟨p1, p2⟩ := zpp_sq (T := T) (m := m) (lo := fun i => (saV 0).getD i 0) (hi := fun i => (saV 1).getD i 0) (P := gplc N) (Z := z_next T m Z) 4 (by decide)
    have e1 : zpl T m (gplc N) Z true = z_pp T m (gplc N) (z_next T m Z) 4 := by
      unfold zpl
      rw [hd0]
    have e5 : zd2 T m (gplc N) Z true = zsq T m (fun i => (saV 0).getD i 0) (fun i => (saV 1).getD i 0) (z_next T m Z) 5 := by
      unfold zd2
      rw [e1, p1]
      rfl
    have e6 : zd3 T m (gplc N) Z true = zsq T m (fun i => (saV 0).getD i 0) (fun i => (saV 1).getD i 0) (z_next T m Z) 6 := by
      unfold zd3
      rw [e5]
      rfl
    have e7 : zd4 T m (gplc N) Z true = zsq T m (fun i => (saV 0).getD i 0) (fun i => (saV 1).getD i 0) (z_next T m Z) 7 := by
      unfold zd4
      rw [e6]
      rfl
    have e8 : zd5 T m (gplc N) Z true = zsq T m (fun i => (saV 0).getD i 0) (fun i => (saV 1).getD i 0) (z_next T m Z) 8 := by
      unfold zd5
      rw [e7]
      rfl
    have dt : decide (bnd B < 8) = true := decide_eq_true (by omega)
    rcases nv with ⟨n1, n2, n3, n4, -, n6, n7⟩ | ⟨n1, n2, n3, n4⟩
    · rw [if_pos n1, dt, e8]
      refine Or.inl ⟨rfl, n2, n3, ?_, n6, n7⟩
      have ec : zec (zd5 (gtxt N) m (gplc N) Z (decide (bnd B < 8))) = 0 := by
        rw [hT, dt, e8]
        exact n2
      rw [pd_1, pdN_p ec, hT, dt, e5, e6, e7, e1, p1]
      generalize (k_nums T m 0 1 8 0 S).2 = S9 at n3 n4 n6 n7
      have v := fun i hi => (n4 i (Nat.zero_le _) hi).1
      have r := fun i hi => (n4 i (Nat.zero_le _) hi).2
      have rb := h.addDT (V := kV S9) (by omega) (by
        rw [v 4 (by omega), v 5 (by omega), v 6 (by omega), v 7 (by omega), Bool.and_eq_true, Bool.and_eq_true, Bool.and_eq_true]
        exact ⟨⟨⟨r 4 (by omega), r 5 (by omega)⟩, r 6 (by omega)⟩, r 7 (by omega)⟩) (by
        unfold b_pl
        rw [v 0 (by omega), v 1 (by omega), Bool.and_eq_true]
        exact ⟨r 0 (by omega), r 1 (by omega)⟩) (by
        unfold b_pl
        rw [v 2 (by omega), v 3 (by omega), Bool.and_eq_true]
        exact ⟨r 2 (by omega), r 3 (by omega)⟩)
      have eg : ∀ (P : Nat → Int32) (se de li ra : Int32), gbrd (pd_M N P (bnd B) se de li ra) = a_tripG (upd (a_drvG (gbrd N) (bnd B) se de li ra) 1 (nI (bnd B + 1))) (bnd B) (P 0) (P 1) (P 2) (P 3) := fun _ _ _ _ _ => rfl
      have ec2 : ∀ (P : Nat → Int32) (se de li ra : Int32), gcrd (pd_M N P (bnd B) se de li ra) = vp_updL (gcrd N) (bnd B) 0 := fun _ _ _ _ _ => rfl
      rw [v 0 (by omega), v 1 (by omega), v 2 (by omega), v 3 (by omega), v 4 (by omega), v 5 (by omega), v 6 (by omega), v 7 (by omega)] at rb
      rw [eg, ec2, p2 0 (by omega), p2 1 (by omega), p2 2 (by omega), p2 3 (by omega)]
      exact rb
    · rw [if_neg (by rw [n1]; decide), dt, e8]
      exact Or.inr ⟨rfl, n2, n3, n4⟩
/-- A RIDER'S STATEMENT -/
theorem rdr_v {T : Nat → Int32} {m : Nat} {S : KS} {Z : ZS} {B : BS} {N : MS} (tk : Tk T m S Z) (e0 : zec Z = 0) (hT : gtxt N = T) (h : RB B (gbrd N) (gcrd N)) : StR T m (ken S) (k_rdr T m S B) (pr N m Z (bnr B)) := by
  have hm := tk.2.2.2.2.2.1
  unfold StR
  rw [pr_2, k_rdr_e, hT]
  by_cases z : 20 ≤ bnr B
  · have zd : zr3 T m (gplc N) Z (decide (bnr B < 20)) = (zpos Z, ztst Z, ztok Z, zlet Z, znum Z, zwrd Z, 3, nI (ztst Z)) := by
      rw [decide_eq_false (by omega)]
      have n0 : ¬ zec (zpos Z, ztst Z, ztok Z, zlet Z, znum Z, zwrd Z, (3 : Int32), nI (ztst Z)) = 0 := show ¬ (3 : Int32) = 0 by decide
      have a0 : zd0 T m Z false = (zpos Z, ztst Z, ztok Z, zlet Z, znum Z, zwrd Z, 3, nI (ztst Z)) := by
        unfold zd0
        rw [zreq_0 e0, z_adv_ec n0]
      unfold zr3 zr2 zpl
      rw [a0, z_pp_ec n0, z_pn_ec n0, z_pn_ec n0]
    rw [if_pos z, zd]
    exact Or.inr ⟨rfl, show ¬ (3 : Int32) = 0 by decide, rfl, by show nI (kst S) = nI (ztst Z); rw [tk.2.1]⟩
  · have hd0 : zd0 T m Z true = z_next T m Z := by
      unfold zd0
      rw [zreq_t, zadv_0 e0]
    rw [if_neg z]
    obtain ⟨t1, t2, t3⟩ := tk.next
    have hlo : ∀ i, i < 6 → (saV 2).getD i 0 = (fun i => (saV 2).getD i 0) i ∧ (saV 3).getD i 0 = (fun i => (saV 3).getD i 0) i ∧ ((fun i => (saV 3).getD i 0) i).toInt ≤ 9999 := fun i hi => ⟨rfl, rfl, (by decide : ∀ i, i < 6 → ((saV 3).getD i 0).toInt ≤ 9999) i hi⟩
    have nv := nums_v (T := T) (m := m) (Z0 := z_next T m Z) hlo 6 0 S (by omega) hm t1 (by show zec (z_next T m Z) = 0; rw [znext_ec]; exact e0)
    obtain ⟨p1, p2⟩ := zpp_sq (T := T) (m := m) (lo := fun i => (saV 2).getD i 0) (hi := fun i => (saV 3).getD i 0) (P := gplc N) (Z := z_next T m Z) 4 (by decide)
    have e1 : zpl T m (gplc N) Z true = z_pp T m (gplc N) (z_next T m Z) 4 := by
      unfold zpl
      rw [hd0]
    have e5 : zr2 T m (gplc N) Z true = zsq T m (fun i => (saV 2).getD i 0) (fun i => (saV 3).getD i 0) (z_next T m Z) 5 := by
      unfold zr2
      rw [e1, p1]
      rfl
    have e6 : zr3 T m (gplc N) Z true = zsq T m (fun i => (saV 2).getD i 0) (fun i => (saV 3).getD i 0) (z_next T m Z) 6 := by
      unfold zr3
      rw [e5]
      rfl
    have dt : decide (bnr B < 20) = true := decide_eq_true (by omega)
    rcases nv with ⟨n1, n2, n3, n4, -, n6, n7⟩ | ⟨n1, n2, n3, n4⟩
    · rw [if_pos n1, dt, e6]
      refine Or.inl ⟨rfl, n2, n3, ?_, n6, n7⟩
      have ec : zec (zr3 (gtxt N) m (gplc N) Z (decide (bnr B < 20))) = 0 := by
        rw [hT, dt, e6]
        exact n2
      rw [pr_1, prN_p ec, hT, dt, e5, e1, p1]
      generalize (k_nums T m 2 3 6 0 S).2 = S9 at n3 n4 n6 n7
      have v := fun i hi => (n4 i (Nat.zero_le _) hi).1
      have r := fun i hi => (n4 i (Nat.zero_le _) hi).2
      have rb := h.addR (fx := kV S9 0) (fy := kV S9 1) (tx := kV S9 2) (ty := kV S9 3) (rd := kV S9 4) (dl := kV S9 5) (by omega) (by
        unfold b_pl
        rw [v 0 (by omega), v 1 (by omega), v 2 (by omega), v 3 (by omega), v 4 (by omega), v 5 (by omega), Bool.and_eq_true, Bool.and_eq_true, Bool.and_eq_true, Bool.and_eq_true, Bool.and_eq_true]
        exact ⟨⟨⟨⟨r 0 (by omega), r 1 (by omega)⟩, r 2 (by omega), r 3 (by omega)⟩, r 4 (by omega)⟩, r 5 (by omega)⟩)
      have eg : ∀ (P : Nat → Int32) (rd dl : Int32), gbrd (pr_M N P (bnr B) rd dl) = upd (a_rdrG (gbrd N) (bnr B) (P 0) (P 1) (P 2) (P 3) rd dl) 2 (nI (bnr B + 1)) := fun _ _ _ => rfl
      have ec2 : ∀ (P : Nat → Int32) (rd dl : Int32), gcrd (pr_M N P (bnr B) rd dl) = vp_updL (gcrd N) (8 + bnr B) 0 := fun _ _ _ => rfl
      have ek : k_rdrB B (kV S9) = b_addR B (kV S9 0) (kV S9 1) (kV S9 2) (kV S9 3) (kV S9 4) (kV S9 5) := rfl
      rw [eg, ec2, p2 0 (by omega), p2 1 (by omega), p2 2 (by omega), p2 3 (by omega)]
      show RB (k_rdrB B (kV S9)) _ _
      rw [ek]
      rw [v 0 (by omega), v 1 (by omega), v 2 (by omega), v 3 (by omega), v 4 (by omega), v 5 (by omega)] at rb ⊢
      exact rb
    · rw [if_neg (by rw [n1]; decide), dt, e6]
      exact Or.inr ⟨rfl, n2, n3, n4⟩
/-- A PENALTY'S STATEMENT -/
theorem pen_v {T : Nat → Int32} {m : Nat} {S : KS} {Z : ZS} {B : BS} {N : MS} (tk : Tk T m S Z) (e0 : zec Z = 0) (hw : z_isw Z 2 = true) (hT : gtxt N = T) (h : RB B (gbrd N) (gcrd N)) : StR T m (ken S) (k_pen T m S B) (pp_ N m Z) := by
  have hm := tk.2.2.2.2.2.1
  unfold StR
  rw [pp_2, pp_1, k_pen_e, hT]
  have e1 : zp1 T m Z = z_next T m Z := by
    unfold zp1
    rw [hw, zreq_t, zadv_0 e0]
  obtain ⟨t1, t2, t3⟩ := tk.next
  have hlo : ∀ i, i < 1 → (saV 4).getD i 0 = (fun i => (saV 4).getD i 0) i ∧ (saV 5).getD i 0 = (fun i => (saV 5).getD i 0) i ∧ ((fun i => (saV 5).getD i 0) i).toInt ≤ 9999 := fun i hi => ⟨rfl, rfl, (by decide : ∀ i, i < 1 → ((saV 5).getD i 0).toInt ≤ 9999) i hi⟩
  have nv := nums_v (T := T) (m := m) (Z0 := z_next T m Z) hlo 1 0 S (by omega) hm t1 (by show zec (z_next T m Z) = 0; rw [znext_ec]; exact e0)
  have e2 : zp2 T m Z = zsq T m (fun i => (saV 4).getD i 0) (fun i => (saV 5).getD i 0) (z_next T m Z) 1 := by
    unfold zp2
    rw [e1]
    rfl
  rw [e2]
  rcases nv with ⟨n1, n2, n3, n4, -, n6, n7⟩ | ⟨n1, n2, n3, n4⟩
  · rw [if_pos n1, if_pos n2, e1]
    refine Or.inl ⟨rfl, n2, n3, ?_, n6, n7⟩
    generalize (k_nums T m 4 5 1 0 S).2 = S9 at n3 n4 n6 n7
    have v := (n4 0 (Nat.zero_le _) (by omega)).1
    have v : kV S9 0 = znum (z_next T m Z) := v
    show RB (b_head B (bnd B) (bnr B) (kV S9 0)) (upd (gbrd N) 0 (znum (z_next T m Z))) (gcrd N)
    rw [v]
    exact h.pen ux_s (fun k h1 _ => ux_n (by omega)) fun _ _ => rfl
  · rw [if_neg (by rw [n1]; decide)]
    exact Or.inr ⟨rfl, n2, n3, n4⟩
theorem k_end_e (T : Nat → Int32) (m : Nat) (s : Bool × KS × BS) : k_end T m s = if s.1 then (if kkd (k_next T m s.2.1) = 3 then (true, k_next T m s.2.1, s.2.2) else (false, k_fail (k_next T m s.2.1) 1, s.2.2)) else s := rfl
theorem z_sc_e (T : Nat → Int32) (m : Nat) (Z : ZS) : z_sc T m Z = z_adv T m (z_req Z (decide (ztok Z = 4)) 1) := rfl
theorem end_v {T : Nat → Int32} {m e : Nat} {s : Bool × KS × BS} {p : MS × ZS} (h : StR T m e s p) : StR T m (e + 1) (k_end T m s) (p.1, z_sc T m p.2) := by
  obtain ⟨b, S, B⟩ := s
  obtain ⟨N, Z⟩ := p
  unfold StR at h ⊢
  rcases h with ⟨h1, h2, h3, h4, h5, h6⟩ | ⟨h1, h2, h3, h4⟩
  · have h1 : b = true := h1
    have h2 : zec Z = 0 := h2
    have h3 : Tk T m (k_next T m S) Z := h3
    have h5 : e ≤ ken S := h5
    have h6 : ken S ≤ m := h6
    subst h1
    obtain ⟨q1, q2, q3, q4⟩ := knext_le (T := T) (S := S) h6
    have kd := h3.kind.2.2.1
    by_cases z : kkd (k_next T m S) = 3
    · have ek : k_end T m (true, S, B) = (true, k_next T m S, B) := by
        rw [k_end_e, if_pos rfl]
        exact if_pos z
      have ez : z_sc T m Z = z_next T m Z := by rw [z_sc_e, decide_eq_true (kd.mp z), zreq_t, zadv_0 h2]
      rw [ek]
      show (true = true ∧ zec (z_sc T m Z) = 0 ∧ Tk T m (k_next T m (k_next T m S)) (z_sc T m Z) ∧ RB B (gbrd N) (gcrd N) ∧ e + 1 ≤ ken (k_next T m S) ∧ ken (k_next T m S) ≤ m) ∨ _
      rw [ez]
      refine Or.inl ⟨rfl, by rw [znext_ec]; exact h2, h3.next.1, h4, ?_, q3⟩
      have : kst (k_next T m S) < ken (k_next T m S) := by
        rcases h3.2.2.2.2.2.2 with ⟨a, -⟩ | ⟨a, -⟩ | ⟨a, -⟩ | ⟨-, -, a⟩ | ⟨a, -⟩
        · rw [z] at a
          exact absurd a (by decide)
        · rw [z] at a
          exact absurd a (by decide)
        · rw [z] at a
          exact absurd a (by decide)
        · exact a
        · rw [z] at a
          exact absurd a (by decide)
      omega
    · have ek : k_end T m (true, S, B) = (false, k_fail (k_next T m S) 1, B) := by
        rw [k_end_e, if_pos rfl]
        exact if_neg z
      have ez : z_sc T m Z = (zpos Z, ztst Z, ztok Z, zlet Z, znum Z, zwrd Z, 1, nI (ztst Z)) := by rw [z_sc_e, decide_eq_false (fun y => z (kd.mpr y)), zreq_0 h2, z_adv_ec (show ¬ (1 : Int32) = 0 by decide)]
      rw [ek]
      show _ ∨ (false = false ∧ ¬ zec (z_sc T m Z) = 0 ∧ kfc (k_fail (k_next T m S) 1) = zec (z_sc T m Z) ∧ kfp (k_fail (k_next T m S) 1) = zep (z_sc T m Z))
      rw [ez]
      exact Or.inr ⟨rfl, show ¬ (1 : Int32) = 0 by decide, rfl, by show nI (kst (k_next T m S)) = nI (ztst Z); rw [h3.2.1]⟩
  · have h1 : b = false := h1
    have h2 : ¬ zec Z = 0 := h2
    have h3 : kfc S = zec Z := h3
    have h4 : kfp S = zep Z := h4
    subst h1
    have ek : k_end T m (false, S, B) = (false, S, B) := by
      rw [k_end_e]
      exact if_neg fun z => absurd (show false = true from z) (by decide)
    have ez : z_sc T m Z = Z := by rw [z_sc_e, z_req_ec h2, z_adv_ec h2]
    rw [ek]
    show _ ∨ (false = false ∧ ¬ zec (z_sc T m Z) = 0 ∧ kfc S = zec (z_sc T m Z) ∧ kfp S = zep (z_sc T m Z))
    rw [ez]
    exact Or.inr ⟨rfl, h2, h3, h4⟩
theorem k_stmt_e (T : Nat → Int32) (m : Nat) (S : KS) (B : BS) : k_stmt T m S B = if k_isw T m S 0 then k_end T m (k_drv T m S B) else if k_isw T m S 1 then k_end T m (k_rdr T m S B) else if k_isw T m S 2 then k_end T m (k_pen T m S B) else (false, k_fail S 1, B) := rfl
theorem ps1_e (M : MS) (t : Nat) (Z : ZS) (nd nr : Nat) : ps1 M t Z nd nr = if z_isw Z 0 then pd M t Z nd else if z_isw Z 1 then pr M t Z nr else pp_ M t Z := rfl
theorem ps_e (M : MS) (t : Nat) (Z : ZS) (nd nr : Nat) : ps M t Z nd nr = ((ps1 M t Z nd nr).1, z_sc (gtxt M) t (ps1 M t Z nd nr).2) := rfl
/-- A STATEMENT -/
theorem stmt_v {T : Nat → Int32} {m : Nat} {S : KS} {Z : ZS} {B : BS} {N : MS} (tk : Tk T m S Z) (e0 : zec Z = 0) (hT : gtxt N = T) (h : RB B (gbrd N) (gcrd N)) : StR T m (ken S + 1) (k_stmt T m S B) (ps N m Z (bnd B) (bnr B)) := by
  rw [k_stmt_e, ps_e, ps1_e, hT, tk.isw (q := 0) (by omega), tk.isw (q := 1) (by omega), tk.isw (q := 2) (by omega)]
  by_cases w0 : z_isw Z 0 = true
  · rw [if_pos w0, if_pos w0]
    exact end_v (drv_v tk e0 hT h)
  · rw [if_neg w0, if_neg w0]
    by_cases w1 : z_isw Z 1 = true
    · rw [if_pos w1, if_pos w1]
      exact end_v (rdr_v tk e0 hT h)
    · rw [if_neg w1, if_neg w1]
      by_cases w2 : z_isw Z 2 = true
      · rw [if_pos w2]
        exact end_v (pen_v tk e0 w2 hT h)
      · rw [if_neg w2]
        have w3 : z_isw Z 2 = false := bf w2
        have n1 : ¬ (1 : Int32) = 0 := by decide
        have z1 : zp1 T m Z = (zpos Z, ztst Z, ztok Z, zlet Z, znum Z, zwrd Z, 1, nI (ztst Z)) := by
          unfold zp1
          rw [w3, zreq_0 e0, z_adv_ec n1]
        have z2 : zp2 T m Z = (zpos Z, ztst Z, ztok Z, zlet Z, znum Z, zwrd Z, 1, nI (ztst Z)) := by
          unfold zp2
          rw [z1, z_pn_ec n1]
        have z3 : z_sc T m (pp_ N m Z).2 = (zpos Z, ztst Z, ztok Z, zlet Z, znum Z, zwrd Z, 1, nI (ztst Z)) := by
          rw [pp_2, hT, z2, z_sc_e, z_req_ec n1, z_adv_ec n1]
        rw [z3]
        exact Or.inr ⟨rfl, n1, rfl, by show nI (kst S) = nI (ztst Z); rw [tk.2.1]⟩
