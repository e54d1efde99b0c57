def exN : List String := ["java/lang/RuntimeException", "java/lang/Exception"]
/-- what the words say of a throw of cls, made by entry ic of own's pool -/
def TH (own : String) (ik ic : Nat) (cls : String) : Prop := Bundle.fit cls = true ∧ Cond.classLink own ik cls ∈ TG ∧ Cond.initialized cls ∈ TG ∧ ∀ w ∈ vx_atS own ic cls exN, w ∈ lw_tbl ∧ (goodWord w || (isNest w && w.onTables)) = true
theorem exN_ok : ∀ x ∈ exN, Bundle.fit x = true := by decide +kernel
section MJ5
variable {Γ : GX} {k sl pc n : Nat} {ls : List (Nat × Value)} {st : List Value} {h : MH}
theorem RelH.more {K : KX} {n n' : Nat} {H H1 : Heap} (R : RelH K n h H) (z : H1.size = n') (hz : n ≤ n') (o : ∀ q : Nat, q < n → H1[q]? = H[q]?) : RelH K n' h H1 :=
  ⟨z, Nat.le_trans R.2.1 hz, fun a c hc => ⟨(R.2.2 a c hc).1, (R.2.2 a c hc).2.kept (o a (R.lt hc))⟩⟩
theorem mj_throwS {ik is ic : Nat} {cls text : String} (d0 : decode (mcode Γ.2.1) pc = .ok (.new ik, 3)) (d3 : decode (mcode Γ.2.1) (pc + 3) = .ok (.dup, 1)) (d4 : decode (mcode Γ.2.1) (pc + 4) = .ok (.ldc is, 2)) (d6 : decode (mcode Γ.2.1) (pc + 6) = .ok (.invokespecial ic, 3)) (d9 : decode (mcode Γ.2.1) (pc + 9) = .ok (.athrow, 1))
    (th : TH (my Γ.2.1).cls ik ic cls) (hs : ((my Γ.2.1).cls, is, text) ∈ strK) (hnt : mhh Γ.2.1 = []) (hfr : 5 < mfr Γ.2.1) (hlo : (st.map fun v => v.category).sum + 82 ≤ mlo Γ.2.1) (hc9 : k + 1 ≤ Γ.2.2.1) (hs9 : sl + 6 ≤ Γ.2.2.2.1) (hq : ∀ n', n ≤ n' → Γ.2.2.2.2 (.inr cls) n' h) : GG Γ k sl pc ls st n h := by
  intro p e s m args below meth c H locs lsr C S R L
  have hts : ∀ w ∈ TG, w.before args s = true := C.2.2.2.2.2.1
  have hSt := C.2.2.2.2.2.2.2.2.2.2
  obtain ⟨t0, t1, t2, t3⟩ := th
  obtain ⟨sa, hsa⟩ := hSt.2.2.1 _ hs
  have hg9 : ∀ w ∈ Cond.classLink (my Γ.2.1).cls ik cls :: Cond.initialized cls :: vx_atS (my Γ.2.1).cls ic cls exN, vx_ot w = true := by
    intro w hw
    rcases List.mem_cons.mp hw with rfl | hw
    · rfl
    · rcases List.mem_cons.mp hw with rfl | hw
      · rfl
      · have := (t3 w hw).2
        rw [Bool.or_eq_true] at this
        rcases this with q | q
        · unfold vx_ot; rw [q]; simp
        · unfold vx_ot
          rw [Bool.and_eq_true] at q
          rw [q.2]
          rfl
  have hat : ∀ w ∈ vx_atS (my Γ.2.1).cls ic cls exN, w.before args s = true := by
    intro w hw
    obtain ⟨a1, a2⟩ := t3 w hw
    rw [Bool.or_eq_true] at a2
    rcases a2 with q | q
    · exact hts w (List.mem_filter.mpr ⟨a1, q⟩)
    · rw [Bool.and_eq_true] at q
      exact tn_use q.1 (hSt.2.1 w (List.mem_filter.mpr ⟨a1, q.1⟩))
  refine vx_throwS C.1 C.2.1 hSt.1 C.2.2.2.2.1 t0 exN_ok (hts _ t1) (hts _ t2) hsa hat hg9 hSt.2.2.2.2.1 hSt.2.2.2.2.2.1 S (L.1.trans C.2.2.2.1.symm) d0 d3 d4 d6 d9 ?_ ?_ ?_ hc9 hs9 C.2.2.2.2.2.2.1 ?_ S.2.2 hc9 hs9
  · intro x hx
    rw [C.2.2.2.2.2.2.2.2.1, hnt] at hx
    cases hx
  · exact hfr
  · exact hlo
  · intro t hA hz ho
    rw [R.1] at hz ho
    have S' : va_S (kA Γ.1) s.heap t.heap locs := S.grow (by rw [R.1]; exact hz) (fun q hq => ho q (by rw [← R.1]; exact hq))
    exact ⟨t.heap.size, h, hq _ hz, R.more rfl hz ho, ⟨S'.1, S'.2.1⟩⟩
theorem mj_throwSW {ik is ic : Nat} {cls text : String} (d0 : decode (mcode Γ.2.1) pc = .ok (.new ik, 3)) (d3 : decode (mcode Γ.2.1) (pc + 3) = .ok (.dup, 1)) (d4 : decode (mcode Γ.2.1) (pc + 4) = .ok (.ldc_w is, 3)) (d6 : decode (mcode Γ.2.1) (pc + 7) = .ok (.invokespecial ic, 3)) (d9 : decode (mcode Γ.2.1) (pc + 10) = .ok (.athrow, 1))
    (th : TH (my Γ.2.1).cls ik ic cls) (hs : ((my Γ.2.1).cls, is, text) ∈ strK) (hnt : mhh Γ.2.1 = []) (hfr : 5 < mfr Γ.2.1) (hlo : (st.map fun v => v.category).sum + 82 ≤ mlo Γ.2.1) (hc9 : k + 1 ≤ Γ.2.2.1) (hs9 : sl + 6 ≤ Γ.2.2.2.1) (hq : ∀ n', n ≤ n' → Γ.2.2.2.2 (.inr cls) n' h) : GG Γ k sl pc ls st n h := by
  intro p e s m args below meth c H locs lsr C S R L
  have hts : ∀ w ∈ TG, w.before args s = true := C.2.2.2.2.2.1
  have hSt := C.2.2.2.2.2.2.2.2.2.2
  obtain ⟨t0, t1, t2, t3⟩ := th
  obtain ⟨sa, hsa⟩ := hSt.2.2.1 _ hs
  have hg9 : ∀ w ∈ Cond.classLink (my Γ.2.1).cls ik cls :: Cond.initialized cls :: vx_atS (my Γ.2.1).cls ic cls exN, vx_ot w = true := by
    intro w hw
    rcases List.mem_cons.mp hw with rfl | hw
    · rfl
    · rcases List.mem_cons.mp hw with rfl | hw
      · rfl
      · have := (t3 w hw).2
        rw [Bool.or_eq_true] at this
        rcases this with q | q
        · unfold vx_ot; rw [q]; simp
        · unfold vx_ot
          rw [Bool.and_eq_true] at q
          rw [q.2]
          rfl
  have hat : ∀ w ∈ vx_atS (my Γ.2.1).cls ic cls exN, w.before args s = true := by
    intro w hw
    obtain ⟨a1, a2⟩ := t3 w hw
    rw [Bool.or_eq_true] at a2
    rcases a2 with q | q
    · exact hts w (List.mem_filter.mpr ⟨a1, q⟩)
    · rw [Bool.and_eq_true] at q
      exact tn_use q.1 (hSt.2.1 w (List.mem_filter.mpr ⟨a1, q.1⟩))
  refine vx_throwSW C.1 C.2.1 hSt.1 C.2.2.2.2.1 t0 exN_ok (hts _ t1) (hts _ t2) hsa hat hg9 hSt.2.2.2.2.1 hSt.2.2.2.2.2.1 S (L.1.trans C.2.2.2.1.symm) d0 d3 d4 d6 d9 ?_ ?_ ?_ hc9 hs9 C.2.2.2.2.2.2.1 ?_ S.2.2 hc9 hs9
  · intro x hx
    rw [C.2.2.2.2.2.2.2.2.1, hnt] at hx
    cases hx
  · exact hfr
  · exact hlo
  · intro t hA hz ho
    rw [R.1] at hz ho
    have S' : va_S (kA Γ.1) s.heap t.heap locs := S.grow (by rw [R.1]; exact hz) (fun q hq => ho q (by rw [← R.1]; exact hq))
    exact ⟨t.heap.size, h, hq _ hz, R.more rfl hz ho, ⟨S'.1, S'.2.1⟩⟩
end MJ5
