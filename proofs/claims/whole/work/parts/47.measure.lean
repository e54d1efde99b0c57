-- THE REFERENCE'S MEASURE, of the board's array g and a list of codes
abbrev gd (g : Nat → Int32) (d f : Nat) : Int32 := g (8 + 10 * d + f)
abbrev gr (g : Nat → Int32) (r f : Nat) : Int32 := g (408 + 8 * r + f)
abbrev gs (g : Nat → Int32) (d i : Nat) : Int32 := g (88 + 40 * d + i)
def w_sx (g : Nat → Int32) (c : Int32) : Int32 := if c < 100 then gr g (c_num c) 0 else gr g (c_num c) 2
def w_sy (g : Nat → Int32) (c : Int32) : Int32 := if c < 100 then gr g (c_num c) 1 else gr g (c_num c) 3
/-- place, time, riders, length, validity -/
abbrev WS : Type := Int32 × Int32 × Int32 × Int32 × Int32 × Bool
def w_way (g : Nat → Int32) (s : WS) (c : Int32) : Int32 := i_dist s.1 s.2.1 (w_sx g c) (w_sy g c)
def w_go (g : Nat → Int32) (d : Nat) (s : WS) (c : Int32) : WS :=
  if c < 100 then (w_sx g c, w_sy g c, i_max (s.2.2.1 + w_way g s c) (gr g (c_num c) 4), s.2.2.2.1 + 1, s.2.2.2.2.1 + w_way g s c, s.2.2.2.2.2 && decide (s.2.2.2.1 + 1 ≤ gd g d 4))
  else (w_sx g c, w_sy g c, s.2.2.1 + w_way g s c, s.2.2.2.1 + -1, s.2.2.2.2.1 + w_way g s c, s.2.2.2.2.2 && decide (s.2.2.1 + w_way g s c ≤ gr g (c_num c) 5))
def w_st (g : Nat → Int32) (d : Nat) : WS := (gd g d 0, gd g d 1, gd g d 5, 0, 0, true)
def w_run (g : Nat → Int32) (d : Nat) (l : List Int32) : WS := l.foldl (w_go g d) (w_st g d)
def w_end (g : Nat → Int32) (d : Nat) (s : WS) : Int32 := i_dist s.1 s.2.1 (gd g d 2) (gd g d 3)
def w_dir (g : Nat → Int32) (d : Nat) : Int32 := i_dist (gd g d 0) (gd g d 1) (gd g d 2) (gd g d 3)
def w_len (g : Nat → Int32) (d : Nat) (l : List Int32) : Int32 := (w_run g d l).2.2.2.2.1 + w_end g d (w_run g d l)
def w_val (g : Nat → Int32) (d : Nat) (l : List Int32) : Bool := (w_run g d l).2.2.2.2.2 && decide (w_len g d l - w_dir g d ≤ gd g d 6)
/-- the arrivals: at the start, at each stop, at the end -/
def w_arr (g : Nat → Int32) (d : Nat) (l : List Int32) (j : Nat) : Int32 :=
  if j = 0 then gd g d 5 else if j = l.length + 1 then (w_run g d l).2.2.1 + w_end g d (w_run g d l) else (w_run g d (l.take (j - 1))).2.2.1 + w_way g (w_run g d (l.take (j - 1))) (l.getD (j - 1) 0)
/-- a row of the first k codes -/
def rowL (f : Nat → Int32) (k : Nat) : List Int32 := (List.range k).map f
theorem rowL_s (f : Nat → Int32) (k : Nat) : rowL f (k + 1) = rowL f k ++ [f k] := by unfold rowL; rw [List.range_succ, List.map_append]; rfl
theorem rowL_n (f : Nat → Int32) (k : Nat) : (rowL f k).length = k := by unfold rowL; simp
theorem rowL_g (f : Nat → Int32) {k j : Nat} (h : j < k) : (rowL f k)[j]? = some (f j) := by unfold rowL; simp [h]
theorem rowL_d (f : Nat → Int32) {k j : Nat} (h : j < k) : (rowL f k).getD j 0 = f j := by rw [List.getD_eq_getElem?_getD, rowL_g f h]; rfl
theorem rowL_t (f : Nat → Int32) {k j : Nat} (h : j ≤ k) : (rowL f k).take j = rowL f j := by
  unfold rowL
  rw [← List.map_take, List.take_range, Nat.min_eq_left h]
theorem rowL_c {f f' : Nat → Int32} {k : Nat} (h : ∀ j, j < k → f j = f' j) : rowL f k = rowL f' k := by
  unfold rowL
  exact List.map_congr_left fun j hj => h j (List.mem_range.mp hj)
theorem w_run_s (g : Nat → Int32) (d : Nat) (l : List Int32) (c : Int32) : w_run g d (l ++ [c]) = w_go g d (w_run g d l) c := by
  unfold w_run
  rw [List.foldl_append]
  rfl
/-- the machine's walk is this fold, and its arrivals are these -/
theorem q_to_w (M : MS) (d : Nat) : ∀ k, ∃ ar, q_to M d k = ((w_run (gbrd M) d (rowL (grow M) k)).1, (w_run (gbrd M) d (rowL (grow M) k)).2.1, (w_run (gbrd M) d (rowL (grow M) k)).2.2.1, (w_run (gbrd M) d (rowL (grow M) k)).2.2.2.1, (w_run (gbrd M) d (rowL (grow M) k)).2.2.2.2.1, (w_run (gbrd M) d (rowL (grow M) k)).2.2.2.2.2, ar) ∧ ∀ j, j ≤ k → ar j = if j = 0 then gd (gbrd M) d 5 else (w_run (gbrd M) d (rowL (grow M) (j - 1))).2.2.1 + w_way (gbrd M) (w_run (gbrd M) d (rowL (grow M) (j - 1))) (grow M (j - 1))
  | 0 => by
    refine ⟨_, rfl, fun j hj => ?_⟩
    rw [show j = 0 by omega, if_pos rfl]
    exact if_pos rfl
  | k + 1 => by
    obtain ⟨ar, h1, h2⟩ := q_to_w M d k
    have hv : ∀ (v : Int32) (j : Nat), j ≤ k + 1 → v = (w_run (gbrd M) d (rowL (grow M) k)).2.2.1 + w_way (gbrd M) (w_run (gbrd M) d (rowL (grow M) k)) (grow M k) → upd ar (k + 1) v j = if j = 0 then gd (gbrd M) d 5 else (w_run (gbrd M) d (rowL (grow M) (j - 1))).2.2.1 + w_way (gbrd M) (w_run (gbrd M) d (rowL (grow M) (j - 1))) (grow M (j - 1)) := by
      intro v j hj hv
      unfold upd
      by_cases e : j = k + 1
      · rw [if_pos e, if_neg (by omega), show j - 1 = k by omega]
        exact hv
      · rw [if_neg e]
        exact h2 j (by omega)
    rw [rowL_s, w_run_s]
    by_cases c : grow M k < 100
    · refine ⟨upd ar (k + 1) ((w_run (gbrd M) d (rowL (grow M) k)).2.2.1 + w_way (gbrd M) (w_run (gbrd M) d (rowL (grow M) k)) (grow M k)), ?_, fun j hj => hv _ j hj rfl⟩
      show q_go M d (q_to M d k) k = _
      rw [h1]
      unfold q_go w_go
      rw [if_pos c, if_pos c]
      rfl
    · refine ⟨upd ar (k + 1) ((w_run (gbrd M) d (rowL (grow M) k)).2.2.1 + w_way (gbrd M) (w_run (gbrd M) d (rowL (grow M) k)) (grow M k)), ?_, fun j hj => hv _ j hj rfl⟩
      show q_go M d (q_to M d k) k = _
      rw [h1]
      unfold q_go w_go
      rw [if_neg c, if_neg c]
      rfl
/-- the row at hand is l -/
def Row (M : MS) (l : List Int32) : Prop := grcnt M = nI l.length ∧ rowL (grow M) l.length = l
/-- the row at hand is l, measured for d; else as M -/
def Mea (M : MS) (d : Nat) (l : List Int32) (M' : MS) : Prop := Sr M M' ∧ Row M' l ∧ grlen M' = w_len (gbrd M) d l ∧ grval M' = bI (w_val (gbrd M) d l) ∧ ∀ j, j ≤ l.length + 1 → garr M' j = w_arr (gbrd M) d l j
theorem Row.g {M : MS} {l : List Int32} (h : Row M l) {j : Nat} (hj : j < l.length) : grow M j = l.getD j 0 := by
  have q : (rowL (grow M) l.length).getD j 0 = l.getD j 0 := congrArg (fun z : List Int32 => z.getD j 0) h.2
  rw [← q]
  exact (rowL_d (grow M) hj).symm
theorem Row.m {M : MS} {l : List Int32} (h : Row M l) {j : Nat} (hj : j < l.length) : grow M j ∈ l := by
  rw [h.g hj, List.getD_eq_getElem?_getD, List.getElem?_eq_getElem hj]
  exact List.getElem_mem hj
theorem Row.codes {M : MS} {l : List Int32} (h : Row M l) (hc : ∀ c, c ∈ l → SCode c) : ∀ k, k < l.length → SCode (grow M k) := fun _ hk => hc _ (h.m hk)
theorem q_mm_sr (M : MS) (l : Int32) (v : Bool) (a : Nat → Int32) : Sr M (q_mm M l v a) := ((Scg.rf.oA (k := 9) a rfl).oF (k := 10) l rfl).oF (k := 11) (bI v) rfl
theorem q_meas_m {M : MS} {d : Nat} {l : List Int32} (h : Row M l) : Mea M d l (q_meas M d l.length) := by
  obtain ⟨ar, h1, h2⟩ := q_to_w M d l.length
  unfold q_meas q_fin
  rw [h1, h.2]
  refine ⟨q_mm_sr _ _ _ _, h, rfl, rfl, fun j hj => ?_⟩
  rw [q_mm_garr]
  unfold upd w_arr
  by_cases e : j = l.length + 1
  · rw [if_pos e, if_neg (by omega), if_pos e]
    rfl
  · rw [if_neg e]
    show ar j = _
    rw [h2 j (by omega)]
    by_cases z : j = 0
    · rw [if_pos z, if_pos z]
    · have e2 : rowL (grow M) (j - 1) = l.take (j - 1) := by
        rw [← rowL_t (grow M) (show j - 1 ≤ l.length by omega), h.2]
      rw [if_neg z, if_neg z, if_neg e, h.g (show j - 1 < l.length by omega), e2]
theorem Mea.of {M0 M : MS} {d : Nat} {l : List Int32} {M' : MS} (s : Sr M0 M) (h : Mea M d l M') : Mea M0 d l M' := by
  obtain ⟨a, b, c, e, f⟩ := h
  have z : gbrd M = gbrd M0 := s.d
  rw [z] at c e f
  exact ⟨s.tr a, b, c, e, f⟩
/-- the driver's first stops are l -/
def Rsu (g : Nat → Int32) (d : Nat) (l : List Int32) : Prop := rowL (gs g d) l.length = l ∧ l.length ≤ 40 ∧ ∀ c, c ∈ l → SCode c
/-- the driver's stops are l -/
def Rok (g : Nat → Int32) (d : Nat) (l : List Int32) : Prop := gd g d 9 = nI l.length ∧ Rsu g d l
theorem Rsu.g {g : Nat → Int32} {d : Nat} {l : List Int32} (h : Rsu g d l) {j : Nat} (hj : j < l.length) : gs g d j = l.getD j 0 := by
  have q : (rowL (gs g d) l.length).getD j 0 = l.getD j 0 := congrArg (fun z : List Int32 => z.getD j 0) h.1
  rw [← q]
  exact (rowL_d (gs g d) hj).symm
theorem Rsu.code {g : Nat → Int32} {d : Nat} {l : List Int32} (h : Rsu g d l) {j : Nat} (hj : j < l.length) : SCode (gs g d j) := by
  refine h.2.2 _ ?_
  rw [h.g hj, List.getD_eq_getElem?_getD, List.getElem?_eq_getElem hj]
  exact List.getElem_mem hj
theorem Rsu.nil (g : Nat → Int32) (d : Nat) : Rsu g d [] := ⟨rfl, Nat.zero_le _, fun _ h => absurd h List.not_mem_nil⟩
/-- the stops that stay, when a rider is left out -/
def w_wo (wo : Int32) (l : List Int32) : List Int32 := l.filter (fun c => !decide (i_rem c = wo))
theorem t_to_w (M : MS) (d : Nat) (wo : Int32) : ∀ k, rowL (t_to M d wo k).2 (t_to M d wo k).1 = w_wo wo (rowL (gs (gbrd M) d) k)
  | 0 => rfl
  | k + 1 => by
    have ih := t_to_w M d wo k
    rw [rowL_s]
    unfold w_wo at ih ⊢
    rw [List.filter_append, ← ih]
    have ee : t_to M d wo (k + 1) = if i_rem (sF M d k) = wo then t_to M d wo k else ((t_to M d wo k).1 + 1, upd (t_to M d wo k).2 (t_to M d wo k).1 (sF M d k)) := rfl
    rw [ee]
    by_cases c : i_rem (sF M d k) = wo
    · rw [if_pos c]
      have c' : i_rem (gs (gbrd M) d k) = wo := c
      simp [c']
    · rw [if_neg c]
      have c' : ¬ i_rem (gs (gbrd M) d k) = wo := c
      dsimp only
      rw [rowL_s]
      have e : rowL (upd (t_to M d wo k).2 (t_to M d wo k).1 (sF M d k)) (t_to M d wo k).1 = rowL (t_to M d wo k).2 (t_to M d wo k).1 := rowL_c fun j hj => by unfold upd; rw [if_neg (by omega)]
      rw [e]
      simp [c', upd]
theorem q_tk_sr (M : MS) (ct : Nat) (rw : Nat → Int32) : Sr M (q_tk M ct rw) := (Scg.rf.oF (k := 9) (nI ct) rfl).oA (k := 8) rw rfl
theorem q_take_m {M : MS} {d : Nat} {l : List Int32} (wo : Int32) (h : Rok (gbrd M) d l) : Mea M d (w_wo wo l) (q_take M d l.length wo) := by
  have e := t_to_w M d wo l.length
  rw [h.2.1] at e
  have hl : (w_wo wo l).length = (t_to M d wo l.length).1 := by rw [← e, rowL_n]
  have hr : Row (q_tk M (t_to M d wo l.length).1 (t_to M d wo l.length).2) (w_wo wo l) := ⟨by rw [q_tk_grcnt, hl], by rw [q_tk_grow, hl, e]⟩
  have q := q_meas_m (d := d) hr
  rw [hl] at q
  exact q.of (q_tk_sr M _ _)
theorem i_rem_c : ∀ r, r < 20 → i_rem (nI r) = nI r ∧ i_rem (nI (100 + r)) = nI r := by decide +kernel
theorem w_wo_none {l : List Int32} (h : ∀ c, c ∈ l → SCode c) : w_wo (-1) l = l := by
  refine List.filter_eq_self.mpr fun c hc => ?_
  have q : ¬ i_rem c = -1 := by
    obtain ⟨r, hr, e⟩ := h c hc
    have hx : i_rem c = nI r := by
      rcases e with rfl | rfl
      · exact (i_rem_c r hr).1
      · exact (i_rem_c r hr).2
    rw [hx]
    intro z
    have := congrArg Int32.toInt z
    rw [ixn (by omega), show (-1 : Int32).toInt = -1 from rfl] at this
    omega
  simp [q]
/-- the routes' scratch apart, with the row measured -/
def MsM (h0 : MH) (m : Nat) (M : MS) (d : Nat) (l : List Int32) (h : MH) : Prop := ∃ M', Md h0 m M' h ∧ Mea M d l M'
theorem cr_measureRow {K : KX} {n : Nat} {h h0 : MH} {m : Nat} {M0 M : MS} (x : Md h0 m M h) (s : Sr M0 M) {d : Nat} {l : List Int32} (hd : d < 8) (hr : Row M l) (hl : l.length ≤ 42) (hc : ∀ c, c ∈ l → SCode c) : Con K mX11_measureRow [.ref m, .int (nI d)] 0 0 n h (RetP none n (MsM h0 m M0 d l)) :=
  (cn_X11_measureRow x hd hr.1 hl (hr.codes hc)).mono fun _ _ _ q => ⟨q.1, q.2.1, _, q.2.2, (q_meas_m hr).of s⟩
theorem cr_takeRoute {K : KX} {n : Nat} {h h0 : MH} {m : Nat} {M : MS} (x : Md h0 m M h) {d : Nat} {l : List Int32} {wo : Int32} (hd : d < 8) (hr : Rok (gbrd M) d l) : Con K mX11_takeRoute [.ref m, .int (nI d), .int wo] 0 0 n h (RetP none n (MsM h0 m M d (w_wo wo l))) :=
  (cn_X11_takeRoute x hd hr.1 hr.2.2.1 (fun _ hi => hr.2.code hi)).mono fun _ _ _ q => ⟨q.1, q.2.1, _, q.2.2, q_take_m wo hr⟩
theorem cr_lengthOf {K : KX} {n : Nat} {h h0 : MH} {m : Nat} {M : MS} (x : Md h0 m M h) {d : Nat} {l : List Int32} (hd : d < 8) (hr : Rok (gbrd M) d l) : Con K mX11_lengthOf [.ref m, .int (nI d)] 0 0 n h (RetP (some (.int (w_len (gbrd M) d l))) n (MsM h0 m M d l)) :=
  (cn_X11_lengthOf x hd hr.1 hr.2.2.1 (fun _ hi => hr.2.code hi)).mono fun _ _ _ q => by
    have z := q_take_m (M := M) (-1) hr
    rw [w_wo_none hr.2.2.2] at z
    exact ⟨by rw [q.1, z.2.2.1], q.2.1, _, q.2.2, z⟩
theorem cs_lengthOf {K : KX} {n : Nat} {h h0 : MH} {m : Nat} {M : MS} (x : Ms h0 m M h) {d : Nat} {l : List Int32} (hd : d < 8) (hr : Rok (gbrd M) d l) : Con K mX11_lengthOf [.ref m, .int (nI d)] 0 0 n h (RetP (some (.int (w_len (gbrd M) d l))) n (Ms h0 m M)) :=
  lift_s x fun M9 y sc => by
    have e : gbrd M9 = gbrd M := sc.b
    rw [← e] at hr ⊢
    exact (cr_lengthOf y hd hr).mono fun _ _ _ q => ⟨q.1, q.2.1, by obtain ⟨M8, z1, z2⟩ := q.2.2; exact ⟨M8, z1, sc.tr z2.1.up⟩⟩
/-- the row goes into the board -/
def w_put (g : Nat → Int32) (d : Nat) (l : List Int32) : Nat → Int32 := t_put (upd g (8 + 10 * d + 9) (nI l.length)) d (fun k => l.getD k 0) l.length
theorem t_put_c {b : Nat → Int32} {d : Nat} {f f' : Nat → Int32} : ∀ k, (∀ j, j < k → f j = f' j) → t_put b d f k = t_put b d f' k
  | 0, _ => rfl
  | k + 1, h => by unfold t_put; rw [t_put_c k (fun j hj => h j (by omega)), h k (by omega)]
theorem q_put_w {M : MS} {d : Nat} {l : List Int32} (h : Row M l) : q_put M d l.length = sbrd M (w_put (gbrd M) d l) := by
  unfold q_put w_put
  rw [t_put_c l.length (fun j hj => h.g hj)]
theorem cr_putRoute {K : KX} {n : Nat} {h h0 : MH} {m : Nat} {M : MS} (x : Md h0 m M h) {d : Nat} {l : List Int32} (hd : d < 8) (hr : Row M l) (hl : l.length ≤ 40) : Con K mX11_putRoute [.ref m, .int (nI d)] 0 0 n h (RetP none n (Md h0 m (sbrd M (w_put (gbrd M) d l)))) :=
  (cn_X11_putRoute x hd hr.1 hl).mono fun _ _ _ q => ⟨q.1, q.2.1, by rw [← q_put_w hr]; exact q.2.2⟩
