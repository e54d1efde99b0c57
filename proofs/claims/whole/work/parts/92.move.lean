/-- a driver's route and a rider's state are set anew -/
def w_mv (g : Nat → Int32) (d : Nat) (l : List Int32) (r : Nat) (st dv : Int32) : Nat → Int32 := upd (upd (w_put g d l) (408 + 8 * r + 6) st) (408 + 8 * r + 7) dv
theorem t_put_g {b : Nat → Int32} {d : Nat} {f : Nat → Int32} {i : Nat} : ∀ k, i < k → t_put b d f k (88 + 40 * d + i) = f i
  | 0, h => absurd h (by omega)
  | k + 1, h => by
    show upd (t_put b d f k) (88 + 40 * d + k) (f k) (88 + 40 * d + i) = f i
    unfold upd
    by_cases e : i = k
    · subst e
      rw [if_pos rfl]
    · rw [if_neg (by omega)]
      exact t_put_g k (by omega)
theorem w_put_9 {g : Nat → Int32} {d : Nat} {l : List Int32} : gd (w_put g d l) d 9 = nI l.length := by
  show t_put (upd g (8 + 10 * d + 9) (nI l.length)) d (fun k => l.getD k 0) l.length (8 + 10 * d + 9) = _
  by_cases h : 8 + 10 * d + 9 < 88 + 40 * d ∨ 88 + 40 * d + l.length ≤ 8 + 10 * d + 9
  · rw [t_put_n _ h]
    exact if_pos rfl
  · exact absurd h (by omega)
theorem w_put_s {g : Nat → Int32} {d : Nat} {l : List Int32} {i : Nat} (h : i < l.length) : gs (w_put g d l) d i = l.getD i 0 := t_put_g (f := fun k => l.getD k 0) l.length h
theorem w_mv_9 {g : Nat → Int32} {d r : Nat} {l : List Int32} {st dv : Int32} (hd : d < 8) : gd (w_mv g d l r st dv) d 9 = nI l.length := by
  show (if 8 + 10 * d + 9 = 408 + 8 * r + 7 then dv else if 8 + 10 * d + 9 = 408 + 8 * r + 6 then st else gd (w_put g d l) d 9) = _
  rw [if_neg (by omega), if_neg (by omega)]
  exact w_put_9
theorem w_mv_s {g : Nat → Int32} {d r : Nat} {l : List Int32} {st dv : Int32} {i : Nat} (hd : d < 8) (h : i < l.length) (h2 : l.length ≤ 40) : gs (w_mv g d l r st dv) d i = l.getD i 0 := by
  show (if 88 + 40 * d + i = 408 + 8 * r + 7 then dv else if 88 + 40 * d + i = 408 + 8 * r + 6 then st else gs (w_put g d l) d i) = _
  rw [if_neg (by omega), if_neg (by omega)]
  exact w_put_s h
theorem w_mv_n {g : Nat → Int32} {d r : Nat} {l : List Int32} {st dv : Int32} {j : Nat} (h : j < 88 + 40 * d ∨ 88 + 40 * d + l.length ≤ j) (h2 : ¬ j = 8 + 10 * d + 9) (h3 : ¬ j = 408 + 8 * r + 6) (h4 : ¬ j = 408 + 8 * r + 7) : w_mv g d l r st dv j = g j := by
  show (if j = 408 + 8 * r + 7 then dv else if j = 408 + 8 * r + 6 then st else w_put g d l j) = _
  rw [if_neg h4, if_neg h3]
  exact w_put_n h h2
theorem w_mv_6 {g : Nat → Int32} {d r : Nat} {l : List Int32} {st dv : Int32} : gr (w_mv g d l r st dv) r 6 = st := by
  show (if 408 + 8 * r + 6 = 408 + 8 * r + 7 then dv else if 408 + 8 * r + 6 = 408 + 8 * r + 6 then st else _) = _
  rw [if_neg (by omega), if_pos rfl]
theorem w_mv_7 {g : Nat → Int32} {d r : Nat} {l : List Int32} {st dv : Int32} : gr (w_mv g d l r st dv) r 7 = dv := if_pos rfl
/-- THE MOVE of a rider into a route or out of it -/
theorem RB.mv {B : BS} {g : Nat → Int32} {c : Nat → Int64} (h : RB B g c) {d r : Nat} (hd : d < bnd B) (hr : r < bnr B) {l : List Int32} {st dv : Int32} {T : RS} {Y : RdS} (hc : ∀ x, x ∈ l → SCode x) (h40 : l.length ≤ 40) (hv : w_val g d l = true) (hfl : ∀ q, q < 20 → l.filter (ofr q) = if q < bnr B ∧ (if q = r then dv else gr g q 7) = nI d then [nI q, nI (100 + q)] else []) (hT : RtX g d T l)
    (hst : ((st = 0 ∨ st = 2) ∧ dv = -1) ∨ (dv = nI d ∧ st = 1 ∧ gd g d 8 = 0)) (hwas : gr g r 7 = -1 ∨ gr g r 7 = nI d) (hY : Y = (qfx (bX B r), qfy (bX B r), qtx (bX B r), qty (bX B r), qrd (bX B r), qdl (bX B r), st, dv, qcr (bX B r))) : RB (b_setX (b_setT B d T) r Y) (w_mv g d l r st dv) c := by
  obtain ⟨⟨f8, f20, g0, g1, g2, fd, fr⟩, ⟨i1, i2⟩, hx⟩ := h
  have hdv : ∀ e, e < bnd B → ¬ e = d → ¬ dv = nI e := fun e he ne z => by
    rcases hst with ⟨-, a⟩ | ⟨a, -⟩
    · exact nI_ne_m1 (a := e) (by omega) (by rw [← z]; exact a)
    · exact ne ((nI_inj (by omega) (by omega)).mp (z.symm.trans a))
  have hwv : ∀ e, e < bnd B → ¬ e = d → ¬ gr g r 7 = nI e := fun e he ne z => by
    rcases hwas with a | a
    · exact nI_ne_m1 (a := e) (by omega) (by rw [← z]; exact a)
    · exact ne ((nI_inj (by omega) (by omega)).mp (z.symm.trans a))
  have ed : ∀ e, e < bnd B → ∀ f, f < 10 → ¬ (e = d ∧ f = 9) → gd (w_mv g d l r st dv) e f = gd g e f := fun e he f hf n => w_mv_n (Or.inl (by omega)) (by omega) (by omega) (by omega)
  have er : ∀ q, q < bnr B → ∀ f, f < 8 → ¬ (q = r ∧ (f = 6 ∨ f = 7)) → gr (w_mv g d l r st dv) q f = gr g q f := fun q hq f hf n => w_mv_n (Or.inr (by omega)) (by omega) (by omega) (by omega)
  have e7 : ∀ q, q < bnr B → gr (w_mv g d l r st dv) q 7 = if q = r then dv else gr g q 7 := fun q hq => by
    by_cases z : q = r
    · subst z
      rw [if_pos rfl]
      exact w_mv_7
    · rw [if_neg z]
      exact er q hq 7 (by omega) (by omega)
  have kp : ∀ e, e < bnd B → ¬ e = d → Keep g (w_mv g d l r st dv) e (bnr B) (bnr B) := fun e he ne => by
    refine ⟨fun f hf _ => ed e he f hf (by omega), fun i hi => w_mv_n ?_ (by omega) (by omega) (by omega), fun q hq _ f hf => er q hq f (by omega) (by omega), fun q _ => ?_⟩
    · rcases Nat.lt_or_gt_of_ne ne with a | a
      · exact Or.inl (by omega)
      · exact Or.inr (by omega)
    · refine and_congr_right fun hq => ?_
      rw [e7 q hq]
      by_cases z : q = r
      · subst z
        rw [if_pos rfl]
        exact ⟨fun y => absurd y (hdv e he ne), fun y => absurd y (hwv e he ne)⟩
      · rw [if_neg z]
  have cq : ∀ x, x ∈ l → Cq g (w_mv g d l r st dv) x := fun x m => by
    obtain ⟨hq, e⟩ := (hc x m).num
    have m2 : x ∈ l.filter (ofr (c_num x)) := List.mem_filter.mpr ⟨m, by rw [ofr_c hq hq e]; exact decide_eq_true rfl⟩
    rw [hfl _ hq] at m2
    by_cases q : c_num x < bnr B ∧ (if c_num x = r then dv else gr g (c_num x) 7) = nI d
    · exact Cq.of fun f hf => er _ q.1 f (by omega) (by omega)
    · rw [if_neg q] at m2
      exact absurd m2 List.not_mem_nil
  have f7 : ∀ f, f < 7 → gd (w_mv g d l r st dv) d f = gd g d f := fun f hf => ed d hd f (by omega) (by omega)
  have rok : Rok (w_mv g d l r st dv) d l := by
    refine ⟨w_mv_9 (by omega), ?_, h40, hc⟩
    refine List.ext_getElem? fun i => ?_
    by_cases z : i < l.length
    · rw [rowL_g _ z, w_mv_s (by omega) z h40, List.getD_eq_getElem?_getD, List.getElem?_eq_getElem z]
      rfl
    · rw [List.getElem?_eq_none (by rw [rowL_n]; omega), List.getElem?_eq_none (by omega)]
  have ivl : IvL (w_mv g d l r st dv) d (bnr B) l := by
    refine ⟨rok, by rw [w_val_c f7 cq]; exact hv, fun q hq => ?_⟩
    rw [hfl q hq]
    by_cases z : q < bnr B
    · rw [e7 q z]
    · rw [if_neg fun y => z y.1, if_neg fun y => z y.1]
  have hrl := rok.rlE
  refine ⟨⟨f8, f20, ?_, ?_, ?_, fun e he => ?_, fun q hq => ?_⟩, ⟨fun e he => ?_, fun q hq => ?_⟩, fun e he => ?_⟩
  · exact (w_mv_n (Or.inl (by omega)) (by omega) (by omega) (by omega)).trans g0
  · exact (w_mv_n (Or.inl (by omega)) (by omega) (by omega) (by omega)).trans g1
  · exact (w_mv_n (Or.inl (by omega)) (by omega) (by omega) (by omega)).trans g2
  · have he : e < bnd B := he
    rw [ed e he 4 (by omega) (by omega), ed e he 5 (by omega) (by omega), ed e he 6 (by omega) (by omega), ed e he 7 (by omega) (by omega), ed e he 8 (by omega) (by omega)]
    exact fd e he
  · have hq : q < bnr B := hq
    obtain ⟨x0, x1, x2, x3, x4, x5, x6, x7, x8⟩ := fr q hq
    rw [er q hq 0 (by omega) (by omega), er q hq 1 (by omega) (by omega), er q hq 2 (by omega) (by omega), er q hq 3 (by omega) (by omega), er q hq 4 (by omega) (by omega), er q hq 5 (by omega) (by omega)]
    by_cases z : q = r
    · subst z
      have eY : bX (b_setX (b_setT B d T) q Y) q = Y := vf_s _ _ _
      rw [eY, hY, w_mv_6, w_mv_7]
      exact ⟨x0, x1, x2, x3, x4, x5, rfl, rfl, x8⟩
    · have eY : bX (b_setX (b_setT B d T) r Y) q = bX B q := vf_n _ _ z
      rw [eY, er q hq 6 (by omega) (by omega), er q hq 7 (by omega) (by omega)]
      exact ⟨x0, x1, x2, x3, x4, x5, x6, x7, x8⟩
  · have he : e < bnd B := he
    refine ⟨(i1 e he).1.c fun f hf => ed e he f (by omega) (by omega), ?_⟩
    by_cases z : e = d
    · subst z
      rw [hrl]
      exact ivl
    · exact ((kp e he z).all (i1 e he).2 (hx e he)).1
  · have hq : q < bnr B := hq
    refine ⟨(i2 q hq).1.c fun f hf => er q hq f (by omega) (by omega), ?_⟩
    by_cases z : q = r
    · subst z
      rcases hst with ⟨a, b⟩ | ⟨a, b, e⟩
      · exact Or.inl ⟨by rw [w_mv_6]; exact a, by rw [w_mv_7]; exact b⟩
      · exact Or.inr ⟨d, hd, by rw [w_mv_7]; exact a, Or.inl ⟨by rw [w_mv_6]; exact b, by rw [ed d hd 8 (by omega) (by omega)]; exact e⟩⟩
    · rcases (i2 q hq).2 with ⟨a, b⟩ | ⟨e, he, a, b⟩
      · exact Or.inl ⟨by rw [er q hq 6 (by omega) (by omega)]; exact a, by rw [er q hq 7 (by omega) (by omega)]; exact b⟩
      · exact Or.inr ⟨e, he, by rw [er q hq 7 (by omega) (by omega)]; exact a, by rw [er q hq 6 (by omega) (by omega), ed e he 8 (by omega) (by omega)]; exact b⟩
  · have he : e < bnd B := he
    by_cases z : e = d
    · subst z
      have eT : bT (b_setX (b_setT B e T) r Y) e = T := vf_s _ _ _
      rw [hrl, eT]
      exact hT.c f7 cq
    · have eT : bT (b_setX (b_setT B d T) r Y) e = bT B e := vf_n _ _ z
      rw [eT]
      exact ((kp e he z).all (i1 e he).2 (hx e he)).2
