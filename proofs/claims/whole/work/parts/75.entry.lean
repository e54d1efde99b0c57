-- THE ENTRY: what the Statement gives of the start
abbrev GN : Jvm.Cond := Jvm.Cond.and given_1 narrow_1
theorem nw9 {w : Jvm.Cond} (k : Nat) (h : (flatC GN)[k]? = some w) : w ∈ flatC GN := List.mem_of_getElem? h
def Flt (args : Array Value) (s : State) : Prop := ∀ w ∈ flatC GN, w.before args s = true
def TBL (args : Array Value) (s : State) : Prop := ∀ w ∈ lw_tbl, w.before args s = true
theorem en_nest {args : Array Value} {s : State} (hts : TBL args s) : ∀ w ∈ TN, va_Nw w s := by
  intro w hw
  obtain ⟨h1, h2⟩ := List.mem_filter.mp hw
  have h3 := hts w h1
  unfold isNest at h2
  split at h2
  · exact va_Nw.of rfl h3
  · exact va_Nw.of rfl h3
  · exact va_Nw.of rfl h3
  · exact va_Nw.of rfl h3
  · exact h3
  · cases h2
theorem en_str1 {args : Array Value} {s : State} {c t : String} {k : Nat} (h1 : (Cond.stringRef c k t).before args s = true) (h2 : (Cond.exactly (.string c k) "java/lang/String").before args s = true) : ∃ a, vk_R c k t a s := by
  obtain ⟨a, c9, cA, kA, q1, -⟩ := Cond.exactly_spec (args := args) (first := s) (o := none) (s := s) (idx := []) (t := .string c k) (cls := "java/lang/String") h2
  exact ⟨a, vk_R.of h1 q1⟩
theorem en_str {args : Array Value} {s : State} (hts : TBL args s) (hf : Flt args s) : ∀ q ∈ strK, ∃ a, vk_R q.1 q.2.1 q.2.2 a s := by
  intro q hq
  unfold strK at hq
  simp only [List.mem_cons, List.not_mem_nil, or_false] at hq
  rcases hq with rfl | rfl | rfl | rfl | rfl | rfl | rfl | rfl | rfl | rfl | rfl | rfl | rfl | rfl | rfl | rfl | rfl | rfl | rfl | rfl
  · exact en_str1 (hts _ (tb2 182 (by decide +kernel))) (hf _ (nw9 149 (by decide +kernel)))
  · exact en_str1 (hts _ (tb2 213 (by decide +kernel))) (hf _ (nw9 175 (by decide +kernel)))
  · exact en_str1 (hts _ (tb4 102 (by decide +kernel))) (hf _ (nw9 232 (by decide +kernel)))
  · exact en_str1 (hts _ (tb4 119 (by decide +kernel))) (hf _ (nw9 263 (by decide +kernel)))
  · exact en_str1 (hts _ (tb4 139 (by decide +kernel))) (hf _ (nw9 286 (by decide +kernel)))
  · exact en_str1 (hts _ (tb4 141 (by decide +kernel))) (hf _ (nw9 318 (by decide +kernel)))
  · exact en_str1 (hts _ (tb4 155 (by decide +kernel))) (hf _ (nw9 354 (by decide +kernel)))
  · exact en_str1 (hts _ (tb4 198 (by decide +kernel))) (hf _ (nw9 377 (by decide +kernel)))
  · exact en_str1 (hts _ (tb4 218 (by decide +kernel))) (hf _ (nw9 408 (by decide +kernel)))
  · exact en_str1 (hts _ (tb5 45 (by decide +kernel))) (hf _ (nw9 433 (by decide +kernel)))
  · exact en_str1 (hts _ (tb5 46 (by decide +kernel))) (hf _ (nw9 461 (by decide +kernel)))
  · exact en_str1 (hts _ (tb5 47 (by decide +kernel))) (hf _ (nw9 487 (by decide +kernel)))
  · exact en_str1 (hts _ (tb5 59 (by decide +kernel))) (hf _ (nw9 508 (by decide +kernel)))
  · exact en_str1 (hts _ (tb5 116 (by decide +kernel))) (hf _ (nw9 537 (by decide +kernel)))
  · exact en_str1 (hts _ (tb5 211 (by decide +kernel))) (hf _ (nw9 564 (by decide +kernel)))
  · exact en_str1 (hts _ (tb5 233 (by decide +kernel))) (hf _ (nw9 594 (by decide +kernel)))
  · exact en_str1 (hts _ (tb6 1 (by decide +kernel))) (hf _ (nw9 624 (by decide +kernel)))
  · exact en_str1 (hts _ (tb6 13 (by decide +kernel))) (hf _ (nw9 654 (by decide +kernel)))
  · exact en_str1 (hts _ (tb6 24 (by decide +kernel))) (hf _ (nw9 684 (by decide +kernel)))
  · exact en_str1 (hts _ (tb6 48 (by decide +kernel))) (hf _ (nw9 709 (by decide +kernel)))
theorem en_nc {args : Array Value} {s : State} (hf : Flt args s) : ∀ q ∈ ncK, va_Nc q.1 q.2 s := by
  intro q hq
  unfold ncK at hq
  simp only [List.mem_cons, List.not_mem_nil, or_false] at hq
  rcases hq with rfl | rfl | rfl | rfl | rfl | rfl
  · exact va_Nc.of (hf _ (nw9 72 (by decide +kernel)))
  · exact va_Nc.of (hf _ (nw9 86 (by decide +kernel)))
  · exact va_Nc.of (hf _ (nw9 99 (by decide +kernel)))
  · exact va_Nc.of (hf _ (nw9 85 (by decide +kernel)))
  · exact va_Nc.of (hf _ (nw9 100 (by decide +kernel)))
  · exact va_Nc.of (hf _ (nw9 71 (by decide +kernel)))
theorem en_sa0 {args : Array Value} {s : State} {P : Nat → Prop} (hts : TBL args s) (hf : Flt args s) (hA : ∀ a : Nat, a < s.heap.size → ¬ P a) : ∃ t : Nat, va_Z "Carpool$SetupReader" (saN 0) "[I" (.ref t) P s s.heap ∧ va_T .int t (saV 0).length (fun j => .int ((saV 0).getD j 0)) P s s.heap := by
  obtain ⟨t, h1, h2⟩ := va_Tof (tm := .static "Carpool$SetupReader" (saN 0) "[I") (ty := .int) (N := 8) (f := fun j => .int ((saV 0).getD j 0)) (by decide) (hf _ (nw9 12 (by decide +kernel))) (va_eqt (z := 8) (hf _ (nw9 13 (by decide +kernel)))) (fun j hj => by
    match j, hj with
    | 0, _ => exact va_eqt (z := 0) (hf _ (nw9 14 (by decide +kernel)))
    | 1, _ => exact va_eqt (z := 0) (hf _ (nw9 15 (by decide +kernel)))
    | 2, _ => exact va_eqt (z := 0) (hf _ (nw9 16 (by decide +kernel)))
    | 3, _ => exact va_eqt (z := 0) (hf _ (nw9 17 (by decide +kernel)))
    | 4, _ => exact va_eqt (z := 1) (hf _ (nw9 18 (by decide +kernel)))
    | 5, _ => exact va_eqt (z := 0) (hf _ (nw9 19 (by decide +kernel)))
    | 6, _ => exact va_eqt (z := 0) (hf _ (nw9 20 (by decide +kernel)))
    | 7, _ => exact va_eqt (z := 1) (hf _ (nw9 21 (by decide +kernel)))
    | j + 8, h9 => exact absurd h9 (by omega)) hA
  exact ⟨t, va_Zof (hts _ (tb4 23 (by decide +kernel))) (hts _ (tb1 11 (by decide +kernel))) h1 hA, h2⟩
theorem en_sa1 {args : Array Value} {s : State} {P : Nat → Prop} (hts : TBL args s) (hf : Flt args s) (hA : ∀ a : Nat, a < s.heap.size → ¬ P a) : ∃ t : Nat, va_Z "Carpool$SetupReader" (saN 1) "[I" (.ref t) P s s.heap ∧ va_T .int t (saV 1).length (fun j => .int ((saV 1).getD j 0)) P s s.heap := by
  obtain ⟨t, h1, h2⟩ := va_Tof (tm := .static "Carpool$SetupReader" (saN 1) "[I") (ty := .int) (N := 8) (f := fun j => .int ((saV 1).getD j 0)) (by decide) (hf _ (nw9 23 (by decide +kernel))) (va_eqt (z := 8) (hf _ (nw9 24 (by decide +kernel)))) (fun j hj => by
    match j, hj with
    | 0, _ => exact va_eqt (z := 99) (hf _ (nw9 25 (by decide +kernel)))
    | 1, _ => exact va_eqt (z := 99) (hf _ (nw9 26 (by decide +kernel)))
    | 2, _ => exact va_eqt (z := 99) (hf _ (nw9 27 (by decide +kernel)))
    | 3, _ => exact va_eqt (z := 99) (hf _ (nw9 28 (by decide +kernel)))
    | 4, _ => exact va_eqt (z := 4) (hf _ (nw9 29 (by decide +kernel)))
    | 5, _ => exact va_eqt (z := 1439) (hf _ (nw9 30 (by decide +kernel)))
    | 6, _ => exact va_eqt (z := 400) (hf _ (nw9 31 (by decide +kernel)))
    | 7, _ => exact va_eqt (z := 99) (hf _ (nw9 32 (by decide +kernel)))
    | j + 8, h9 => exact absurd h9 (by omega)) hA
  exact ⟨t, va_Zof (hts _ (tb4 25 (by decide +kernel))) (hts _ (tb1 11 (by decide +kernel))) h1 hA, h2⟩
theorem en_sa2 {args : Array Value} {s : State} {P : Nat → Prop} (hts : TBL args s) (hf : Flt args s) (hA : ∀ a : Nat, a < s.heap.size → ¬ P a) : ∃ t : Nat, va_Z "Carpool$SetupReader" (saN 2) "[I" (.ref t) P s s.heap ∧ va_T .int t (saV 2).length (fun j => .int ((saV 2).getD j 0)) P s s.heap := by
  obtain ⟨t, h1, h2⟩ := va_Tof (tm := .static "Carpool$SetupReader" (saN 2) "[I") (ty := .int) (N := 6) (f := fun j => .int ((saV 2).getD j 0)) (by decide) (hf _ (nw9 34 (by decide +kernel))) (va_eqt (z := 6) (hf _ (nw9 35 (by decide +kernel)))) (fun j hj => by
    match j, hj with
    | 0, _ => exact va_eqt (z := 0) (hf _ (nw9 36 (by decide +kernel)))
    | 1, _ => exact va_eqt (z := 0) (hf _ (nw9 37 (by decide +kernel)))
    | 2, _ => exact va_eqt (z := 0) (hf _ (nw9 38 (by decide +kernel)))
    | 3, _ => exact va_eqt (z := 0) (hf _ (nw9 39 (by decide +kernel)))
    | 4, _ => exact va_eqt (z := 0) (hf _ (nw9 40 (by decide +kernel)))
    | 5, _ => exact va_eqt (z := 0) (hf _ (nw9 41 (by decide +kernel)))
    | j + 6, h9 => exact absurd h9 (by omega)) hA
  exact ⟨t, va_Zof (hts _ (tb4 51 (by decide +kernel))) (hts _ (tb1 11 (by decide +kernel))) h1 hA, h2⟩
theorem en_sa3 {args : Array Value} {s : State} {P : Nat → Prop} (hts : TBL args s) (hf : Flt args s) (hA : ∀ a : Nat, a < s.heap.size → ¬ P a) : ∃ t : Nat, va_Z "Carpool$SetupReader" (saN 3) "[I" (.ref t) P s s.heap ∧ va_T .int t (saV 3).length (fun j => .int ((saV 3).getD j 0)) P s s.heap := by
  obtain ⟨t, h1, h2⟩ := va_Tof (tm := .static "Carpool$SetupReader" (saN 3) "[I") (ty := .int) (N := 6) (f := fun j => .int ((saV 3).getD j 0)) (by decide) (hf _ (nw9 43 (by decide +kernel))) (va_eqt (z := 6) (hf _ (nw9 44 (by decide +kernel)))) (fun j hj => by
    match j, hj with
    | 0, _ => exact va_eqt (z := 99) (hf _ (nw9 45 (by decide +kernel)))
    | 1, _ => exact va_eqt (z := 99) (hf _ (nw9 46 (by decide +kernel)))
    | 2, _ => exact va_eqt (z := 99) (hf _ (nw9 47 (by decide +kernel)))
    | 3, _ => exact va_eqt (z := 99) (hf _ (nw9 48 (by decide +kernel)))
    | 4, _ => exact va_eqt (z := 1439) (hf _ (nw9 49 (by decide +kernel)))
    | 5, _ => exact va_eqt (z := 9999) (hf _ (nw9 50 (by decide +kernel)))
    | j + 6, h9 => exact absurd h9 (by omega)) hA
  exact ⟨t, va_Zof (hts _ (tb4 53 (by decide +kernel))) (hts _ (tb1 11 (by decide +kernel))) h1 hA, h2⟩
theorem en_sa4 {args : Array Value} {s : State} {P : Nat → Prop} (hts : TBL args s) (hf : Flt args s) (hA : ∀ a : Nat, a < s.heap.size → ¬ P a) : ∃ t : Nat, va_Z "Carpool$SetupReader" (saN 4) "[I" (.ref t) P s s.heap ∧ va_T .int t (saV 4).length (fun j => .int ((saV 4).getD j 0)) P s s.heap := by
  obtain ⟨t, h1, h2⟩ := va_Tof (tm := .static "Carpool$SetupReader" (saN 4) "[I") (ty := .int) (N := 1) (f := fun j => .int ((saV 4).getD j 0)) (by decide) (hf _ (nw9 52 (by decide +kernel))) (va_eqt (z := 1) (hf _ (nw9 53 (by decide +kernel)))) (fun j hj => by
    match j, hj with
    | 0, _ => exact va_eqt (z := 0) (hf _ (nw9 54 (by decide +kernel)))
    | j + 1, h9 => exact absurd h9 (by omega)) hA
  exact ⟨t, va_Zof (hts _ (tb4 72 (by decide +kernel))) (hts _ (tb1 11 (by decide +kernel))) h1 hA, h2⟩
theorem en_sa5 {args : Array Value} {s : State} {P : Nat → Prop} (hts : TBL args s) (hf : Flt args s) (hA : ∀ a : Nat, a < s.heap.size → ¬ P a) : ∃ t : Nat, va_Z "Carpool$SetupReader" (saN 5) "[I" (.ref t) P s s.heap ∧ va_T .int t (saV 5).length (fun j => .int ((saV 5).getD j 0)) P s s.heap := by
  obtain ⟨t, h1, h2⟩ := va_Tof (tm := .static "Carpool$SetupReader" (saN 5) "[I") (ty := .int) (N := 1) (f := fun j => .int ((saV 5).getD j 0)) (by decide) (hf _ (nw9 56 (by decide +kernel))) (va_eqt (z := 1) (hf _ (nw9 57 (by decide +kernel)))) (fun j hj => by
    match j, hj with
    | 0, _ => exact va_eqt (z := 9999) (hf _ (nw9 58 (by decide +kernel)))
    | j + 1, h9 => exact absurd h9 (by omega)) hA
  exact ⟨t, va_Zof (hts _ (tb4 74 (by decide +kernel))) (hts _ (tb1 11 (by decide +kernel))) h1 hA, h2⟩
theorem en_w0 {args : Array Value} {s : State} {P : Nat → Prop} (hf : Flt args s) (hA : ∀ a : Nat, a < s.heap.size → ¬ P a) : ∃ adK adV : Nat → Nat, vk_S 1 [6] [swB.getD 0 []] adK adV P s s.heap ∧ (Term.string "Carpool$SetupReader" 41).eval args s none [] s = some (.ref (adK 0)) := by
  obtain ⟨adK, adV, h1, h2⟩ := vk_Sof (args := args) (s := s) (A := P) (N := 1) (tm := fun _ => .string "Carpool$SetupReader" 41) (len := [6]) (byt := [swB.getD 0 []]) (fun i hi => by
    obtain rfl : i = 0 := by omega
    decide) (fun i hi => by
    obtain rfl : i = 0 := by omega
    exact hf _ (nw9 202 (by decide +kernel))) (fun i hi => by
    obtain rfl : i = 0 := by omega
    exact hf _ (nw9 203 (by decide +kernel))) (fun i hi => by
    obtain rfl : i = 0 := by omega
    exact hf _ (nw9 204 (by decide +kernel))) (fun i hi => by
    obtain rfl : i = 0 := by omega
    exact hf _ (nw9 205 (by decide +kernel))) (fun i hi j hj => by
    obtain rfl : i = 0 := by omega
    have hj : j < 6 := hj
    match j, hj with
    | 0, _ => exact hf _ (nw9 206 (by decide +kernel))
    | 1, _ => exact hf _ (nw9 207 (by decide +kernel))
    | 2, _ => exact hf _ (nw9 208 (by decide +kernel))
    | 3, _ => exact hf _ (nw9 209 (by decide +kernel))
    | 4, _ => exact hf _ (nw9 210 (by decide +kernel))
    | 5, _ => exact hf _ (nw9 211 (by decide +kernel))
    | j + 6, h9 => exact absurd h9 (by omega)) (fun i j h1 h2 h3 => by omega) hA
  exact ⟨adK, adV, h1, h2 0 (by omega)⟩
theorem en_w1 {args : Array Value} {s : State} {P : Nat → Prop} (hf : Flt args s) (hA : ∀ a : Nat, a < s.heap.size → ¬ P a) : ∃ adK adV : Nat → Nat, vk_S 1 [5] [swB.getD 1 []] adK adV P s s.heap ∧ (Term.string "Carpool$SetupReader" 50).eval args s none [] s = some (.ref (adK 0)) := by
  obtain ⟨adK, adV, h1, h2⟩ := vk_Sof (args := args) (s := s) (A := P) (N := 1) (tm := fun _ => .string "Carpool$SetupReader" 50) (len := [5]) (byt := [swB.getD 1 []]) (fun i hi => by
    obtain rfl : i = 0 := by omega
    decide) (fun i hi => by
    obtain rfl : i = 0 := by omega
    exact hf _ (nw9 212 (by decide +kernel))) (fun i hi => by
    obtain rfl : i = 0 := by omega
    exact hf _ (nw9 213 (by decide +kernel))) (fun i hi => by
    obtain rfl : i = 0 := by omega
    exact hf _ (nw9 214 (by decide +kernel))) (fun i hi => by
    obtain rfl : i = 0 := by omega
    exact hf _ (nw9 215 (by decide +kernel))) (fun i hi j hj => by
    obtain rfl : i = 0 := by omega
    have hj : j < 5 := hj
    match j, hj with
    | 0, _ => exact hf _ (nw9 216 (by decide +kernel))
    | 1, _ => exact hf _ (nw9 217 (by decide +kernel))
    | 2, _ => exact hf _ (nw9 218 (by decide +kernel))
    | 3, _ => exact hf _ (nw9 219 (by decide +kernel))
    | 4, _ => exact hf _ (nw9 220 (by decide +kernel))
    | j + 5, h9 => exact absurd h9 (by omega)) (fun i j h1 h2 h3 => by omega) hA
  exact ⟨adK, adV, h1, h2 0 (by omega)⟩
theorem en_w2 {args : Array Value} {s : State} {P : Nat → Prop} (hf : Flt args s) (hA : ∀ a : Nat, a < s.heap.size → ¬ P a) : ∃ adK adV : Nat → Nat, vk_S 1 [7] [swB.getD 2 []] adK adV P s s.heap ∧ (Term.string "Carpool$SetupReader" 55).eval args s none [] s = some (.ref (adK 0)) := by
  obtain ⟨adK, adV, h1, h2⟩ := vk_Sof (args := args) (s := s) (A := P) (N := 1) (tm := fun _ => .string "Carpool$SetupReader" 55) (len := [7]) (byt := [swB.getD 2 []]) (fun i hi => by
    obtain rfl : i = 0 := by omega
    decide) (fun i hi => by
    obtain rfl : i = 0 := by omega
    exact hf _ (nw9 221 (by decide +kernel))) (fun i hi => by
    obtain rfl : i = 0 := by omega
    exact hf _ (nw9 222 (by decide +kernel))) (fun i hi => by
    obtain rfl : i = 0 := by omega
    exact hf _ (nw9 223 (by decide +kernel))) (fun i hi => by
    obtain rfl : i = 0 := by omega
    exact hf _ (nw9 224 (by decide +kernel))) (fun i hi j hj => by
    obtain rfl : i = 0 := by omega
    have hj : j < 7 := hj
    match j, hj with
    | 0, _ => exact hf _ (nw9 225 (by decide +kernel))
    | 1, _ => exact hf _ (nw9 226 (by decide +kernel))
    | 2, _ => exact hf _ (nw9 227 (by decide +kernel))
    | 3, _ => exact hf _ (nw9 228 (by decide +kernel))
    | 4, _ => exact hf _ (nw9 229 (by decide +kernel))
    | 5, _ => exact hf _ (nw9 230 (by decide +kernel))
    | 6, _ => exact hf _ (nw9 231 (by decide +kernel))
    | j + 7, h9 => exact absurd h9 (by omega)) (fun i j h1 h2 h3 => by omega) hA
  exact ⟨adK, adV, h1, h2 0 (by omega)⟩
