-- THE LAW'S WRAPPERS: what the class answers or throws, as a number, and the answer in the law's own row
def LRi (Es : List String) (o : Nat) (Q' : RQ) : RQ := fun r n' h' => (∃ i h1 f, Q' (.inl (some (.int i))) n' h1 ∧ h1 o = some (cJ 1 f) ∧ r = .inl (some (.int 0)) ∧ h' = mup h1 o (cJ 1 (vp_updL f 0 i.toInt64))) ∨ (∃ E j, Q' (.inr E) n' h' ∧ Es[j]? = some E ∧ r = .inl (some (.int (nI (j + 1)))))
def LRj (Es : List String) (o : Nat) (Q' : RQ) : RQ := fun r n' h' => (∃ i h1 f, Q' (.inl (some (.long i))) n' h1 ∧ h1 o = some (cJ 1 f) ∧ r = .inl (some (.int 0)) ∧ h' = mup h1 o (cJ 1 (vp_updL f 0 i))) ∨ (∃ E j, Q' (.inr E) n' h' ∧ Es[j]? = some E ∧ r = .inl (some (.int (nI (j + 1)))))
def LRz (Es : List String) (o : Nat) (Q' : RQ) : RQ := fun r n' h' => (∃ b h1 f, Q' (.inl (some (.int (bI b)))) n' h1 ∧ h1 o = some (cJ 1 f) ∧ r = .inl (some (.int 0)) ∧ h' = mup h1 o (cJ 1 (vp_updL f 0 (if b then 1 else 0)))) ∨ (∃ E j, Q' (.inr E) n' h' ∧ Es[j]? = some E ∧ r = .inl (some (.int (nI (j + 1)))))
def LRv (Es : List String) (Q' : RQ) : RQ := fun r n' h' => (Q' (.inl none) n' h' ∧ r = .inl (some (.int 0))) ∨ (∃ E j, Q' (.inr E) n' h' ∧ Es[j]? = some E ∧ r = .inl (some (.int (nI (j + 1)))))
def EOk (Es : List String) (Q' : RQ) : Prop := ∀ E n' h', Q' (.inr E) n' h' → ∃ j : Nat, Es[j]? = some E
def OOk (o : Nat) (Q' : RQ) : Prop := ∀ r n' h', Q' r n' h' → ∃ f, h' o = some (cJ 1 f)
def VOi (Q' : RQ) : Prop := ∀ v n' h', Q' (.inl v) n' h' → ∃ i, v = some (.int i)
def VOj (Q' : RQ) : Prop := ∀ v n' h', Q' (.inl v) n' h' → ∃ i, v = some (.long i)
def VOz (Q' : RQ) : Prop := ∀ v n' h', Q' (.inl v) n' h' → ∃ b, v = some (.int (bI b))
def VOv (Q' : RQ) : Prop := ∀ v n' h', Q' (.inl v) n' h' → v = none
theorem lx_13 : Cond.classLink RL 13 "java/lang/IllegalArgumentException" ∈ TG := tg_m (tb4 86 (by decide +kernel)) (by decide +kernel)
theorem lx_15 : Cond.classLink RL 15 "java/lang/IllegalStateException" ∈ TG := tg_m (tb4 87 (by decide +kernel)) (by decide +kernel)
theorem lx_21 : Cond.classLink RL 21 "java/lang/IndexOutOfBoundsException" ∈ TG := tg_m (tb4 131 (by decide +kernel)) (by decide +kernel)
set_option maxRecDepth 100000 in
set_option maxHeartbeats 4000000 in
theorem cl_addDriver {K : KX} {n : Nat} {h : MH} {c o mc ms : Nat} {fs : List Value} {p0 p1 p2 p3 : Int32} {Q' : RQ} (hc : h c = some (cO 10 fs)) (hcon : Con K mX10_addDriver [.ref c, .int p0, .int p1, .int p2, .int p3] mc ms n h Q') (hx : EOk ["java/lang/IllegalArgumentException", "java/lang/IllegalStateException"] Q') (hv : VOi Q') (ho : OOk o Q') : Con K mL_addDriver [.ref c, .int p0, .int p1, .int p2, .int p3, .ref o] mc ms n h (LRi ["java/lang/IllegalArgumentException", "java/lang/IllegalStateException"] o Q') := by
  refine Con.of (by decide +kernel) (Nat.le_of_ble_eq_true rfl) ?_
  refine mj_aload 5 dL_addDriver_0 rfl ?_
  refine mj_iconst (v := 0) dL_addDriver_2 rfl ?_
  refine mj_aload_n 0 dL_addDriver_3 rfl ?_
  refine mj_iload_n 1 dL_addDriver_4 rfl ?_
  refine mj_iload_n 2 dL_addDriver_5 rfl ?_
  refine mj_iload_n 3 dL_addDriver_6 rfl ?_
  refine mj_iload 4 dL_addDriver_7 rfl ?_
  refine mj_callV (As := [.int p0, .int p1, .int p2, .int p3]) (rest := [.int 0, .ref o]) (r := (RX10, TX10, 9)) dL_addDriver_9 cwX10_addDriver hc rfl rfl rfl lkL_7 hcon rfl (Nat.le_of_ble_eq_true rfl) (Nat.le_of_ble_eq_true rfl) (Nat.le_of_ble_eq_true rfl) (Nat.le_of_eq (Nat.zero_add _)) (Nat.le_of_eq (Nat.zero_add _)) (fun v n9 h9 q => ?_) (fun E n9 h9 q => ?_)
  · obtain ⟨i, rfl⟩ := hv v n9 h9 q
    obtain ⟨f, hof⟩ := ho _ n9 h9 q
    show GG _ _ _ _ _ (.int i :: _) _ _
    refine mj_i2l dL_addDriver_12 rfl ?_
    refine mj_last hof (show (0 : Int32).toInt = ((0 : Nat) : Int) from rfl) (by omega) dL_addDriver_13 ?_
    refine mj_goto 25 dL_addDriver_14 (by decide) ?_
    refine mj_iconst (v := 0) dL_addDriver_25 rfl ?_
    exact mj_iret dL_addDriver_26 rfl (Nat.le_of_eq (Nat.zero_add _)) (Nat.le_of_eq (Nat.zero_add _)) (Or.inl ⟨i, h9, f, q, hof, rfl, rfl⟩)
  · obtain ⟨j, hj⟩ := hx E n9 h9 q
    match j, hj with
    | 0, hj =>
      cases hj
      exact XX.catch [] (0, 14, 17, 13) [(0, 14, 21, 15)] "java/lang/IllegalArgumentException" rfl (fun z hz => by cases hz) rfl (by decide) lx_13 ca_IllegalArgumentException (fun a9 => by
        refine mj_astore (ls' := [(6, _), (0, _), (1, _), (2, _), (3, _), (4, _), (5, _)]) dL_addDriver_17 (Nat.le_of_ble_eq_true rfl) rfl ?_
        refine mj_iconst (v := 1) dL_addDriver_19 rfl ?_
        exact mj_iret dL_addDriver_20 rfl (Nat.le_of_eq (Nat.zero_add _)) (Nat.le_of_eq (Nat.zero_add _)) (Or.inr ⟨_, 0, q, rfl, rfl⟩))
    | 1, hj =>
      cases hj
      exact XX.catch [(0, 14, 17, 13)] (0, 14, 21, 15) [] "java/lang/IllegalStateException" rfl (by
          intro z hz
          simp only [List.mem_cons, List.not_mem_nil, or_false] at hz
          rcases hz with rfl
          · exact Or.inr ⟨by decide, _, lx_13, by decide +kernel⟩) rfl (by decide) lx_15 ca_IllegalStateException (fun a9 => by
        refine mj_astore (ls' := [(6, _), (0, _), (1, _), (2, _), (3, _), (4, _), (5, _)]) dL_addDriver_21 (Nat.le_of_ble_eq_true rfl) rfl ?_
        refine mj_iconst (v := 2) dL_addDriver_23 rfl ?_
        exact mj_iret dL_addDriver_24 rfl (Nat.le_of_eq (Nat.zero_add _)) (Nat.le_of_eq (Nat.zero_add _)) (Or.inr ⟨_, 1, q, rfl, rfl⟩))
    | j + 2, hj => cases hj
set_option maxRecDepth 100000 in
set_option maxHeartbeats 4000000 in
theorem cl_setTrip {K : KX} {n : Nat} {h : MH} {c o mc ms : Nat} {fs : List Value} {p0 p1 p2 p3 p4 : Int32} {Q' : RQ} (hc : h c = some (cO 10 fs)) (hcon : Con K mX10_setTrip [.ref c, .int p0, .int p1, .int p2, .int p3, .int p4] mc ms n h Q') (hx : EOk ["java/lang/IndexOutOfBoundsException", "java/lang/IllegalArgumentException", "java/lang/IllegalStateException"] Q') (hv : VOi Q') (ho : OOk o Q') : Con K mL_setTrip [.ref c, .int p0, .int p1, .int p2, .int p3, .int p4, .ref o] mc ms n h (LRi ["java/lang/IndexOutOfBoundsException", "java/lang/IllegalArgumentException", "java/lang/IllegalStateException"] o Q') := by
  refine Con.of (by decide +kernel) (Nat.le_of_ble_eq_true rfl) ?_
  refine mj_aload 6 dL_setTrip_0 rfl ?_
  refine mj_iconst (v := 0) dL_setTrip_2 rfl ?_
  refine mj_aload_n 0 dL_setTrip_3 rfl ?_
  refine mj_iload_n 1 dL_setTrip_4 rfl ?_
  refine mj_iload_n 2 dL_setTrip_5 rfl ?_
  refine mj_iload_n 3 dL_setTrip_6 rfl ?_
  refine mj_iload 4 dL_setTrip_7 rfl ?_
  refine mj_iload 5 dL_setTrip_9 rfl ?_
  refine mj_callV (As := [.int p0, .int p1, .int p2, .int p3, .int p4]) (rest := [.int 0, .ref o]) (r := (RX10, TX10, 9)) dL_setTrip_11 cwX10_setTrip hc rfl rfl rfl lkL_17 hcon rfl (Nat.le_of_ble_eq_true rfl) (Nat.le_of_ble_eq_true rfl) (Nat.le_of_ble_eq_true rfl) (Nat.le_of_eq (Nat.zero_add _)) (Nat.le_of_eq (Nat.zero_add _)) (fun v n9 h9 q => ?_) (fun E n9 h9 q => ?_)
  · obtain ⟨i, rfl⟩ := hv v n9 h9 q
    obtain ⟨f, hof⟩ := ho _ n9 h9 q
    show GG _ _ _ _ _ (.int i :: _) _ _
    refine mj_i2l dL_setTrip_14 rfl ?_
    refine mj_last hof (show (0 : Int32).toInt = ((0 : Nat) : Int) from rfl) (by omega) dL_setTrip_15 ?_
    refine mj_goto 31 dL_setTrip_16 (by decide) ?_
    refine mj_iconst (v := 0) dL_setTrip_31 rfl ?_
    exact mj_iret dL_setTrip_32 rfl (Nat.le_of_eq (Nat.zero_add _)) (Nat.le_of_eq (Nat.zero_add _)) (Or.inl ⟨i, h9, f, q, hof, rfl, rfl⟩)
  · obtain ⟨j, hj⟩ := hx E n9 h9 q
    match j, hj with
    | 0, hj =>
      cases hj
      exact XX.catch [] (0, 16, 19, 21) [(0, 16, 23, 13), (0, 16, 27, 15)] "java/lang/IndexOutOfBoundsException" rfl (fun z hz => by cases hz) rfl (by decide) lx_21 ca_IndexOutOfBoundsException (fun a9 => by
        refine mj_astore (ls' := [(7, _), (0, _), (1, _), (2, _), (3, _), (4, _), (5, _), (6, _)]) dL_setTrip_19 (Nat.le_of_ble_eq_true rfl) rfl ?_
        refine mj_iconst (v := 1) dL_setTrip_21 rfl ?_
        exact mj_iret dL_setTrip_22 rfl (Nat.le_of_eq (Nat.zero_add _)) (Nat.le_of_eq (Nat.zero_add _)) (Or.inr ⟨_, 0, q, rfl, rfl⟩))
    | 1, hj =>
      cases hj
      exact XX.catch [(0, 16, 19, 21)] (0, 16, 23, 13) [(0, 16, 27, 15)] "java/lang/IllegalArgumentException" rfl (by
          intro z hz
          simp only [List.mem_cons, List.not_mem_nil, or_false] at hz
          rcases hz with rfl
          · exact Or.inr ⟨by decide, _, lx_21, by decide +kernel⟩) rfl (by decide) lx_13 ca_IllegalArgumentException (fun a9 => by
        refine mj_astore (ls' := [(7, _), (0, _), (1, _), (2, _), (3, _), (4, _), (5, _), (6, _)]) dL_setTrip_23 (Nat.le_of_ble_eq_true rfl) rfl ?_
        refine mj_iconst (v := 2) dL_setTrip_25 rfl ?_
        exact mj_iret dL_setTrip_26 rfl (Nat.le_of_eq (Nat.zero_add _)) (Nat.le_of_eq (Nat.zero_add _)) (Or.inr ⟨_, 1, q, rfl, rfl⟩))
    | 2, hj =>
      cases hj
      exact XX.catch [(0, 16, 19, 21), (0, 16, 23, 13)] (0, 16, 27, 15) [] "java/lang/IllegalStateException" rfl (by
          intro z hz
          simp only [List.mem_cons, List.not_mem_nil, or_false] at hz
          rcases hz with rfl | rfl
          · exact Or.inr ⟨by decide, _, lx_21, by decide +kernel⟩
          · exact Or.inr ⟨by decide, _, lx_13, by decide +kernel⟩) rfl (by decide) lx_15 ca_IllegalStateException (fun a9 => by
        refine mj_astore (ls' := [(7, _), (0, _), (1, _), (2, _), (3, _), (4, _), (5, _), (6, _)]) dL_setTrip_27 (Nat.le_of_ble_eq_true rfl) rfl ?_
        refine mj_iconst (v := 3) dL_setTrip_29 rfl ?_
        exact mj_iret dL_setTrip_30 rfl (Nat.le_of_eq (Nat.zero_add _)) (Nat.le_of_eq (Nat.zero_add _)) (Or.inr ⟨_, 2, q, rfl, rfl⟩))
    | j + 3, hj => cases hj
set_option maxRecDepth 100000 in
set_option maxHeartbeats 4000000 in
theorem cl_addRider {K : KX} {n : Nat} {h : MH} {c o mc ms : Nat} {fs : List Value} {p0 p1 p2 p3 p4 p5 : Int32} {Q' : RQ} (hc : h c = some (cO 10 fs)) (hcon : Con K mX10_addRider [.ref c, .int p0, .int p1, .int p2, .int p3, .int p4, .int p5] mc ms n h Q') (hx : EOk ["java/lang/IllegalArgumentException", "java/lang/IllegalStateException"] Q') (hv : VOi Q') (ho : OOk o Q') : Con K mL_addRider [.ref c, .int p0, .int p1, .int p2, .int p3, .int p4, .int p5, .ref o] mc ms n h (LRi ["java/lang/IllegalArgumentException", "java/lang/IllegalStateException"] o Q') := by
  refine Con.of (by decide +kernel) (Nat.le_of_ble_eq_true rfl) ?_
  refine mj_aload 7 dL_addRider_0 rfl ?_
  refine mj_iconst (v := 0) dL_addRider_2 rfl ?_
  refine mj_aload_n 0 dL_addRider_3 rfl ?_
  refine mj_iload_n 1 dL_addRider_4 rfl ?_
  refine mj_iload_n 2 dL_addRider_5 rfl ?_
  refine mj_iload_n 3 dL_addRider_6 rfl ?_
  refine mj_iload 4 dL_addRider_7 rfl ?_
  refine mj_iload 5 dL_addRider_9 rfl ?_
  refine mj_iload 6 dL_addRider_11 rfl ?_
  refine mj_callV (As := [.int p0, .int p1, .int p2, .int p3, .int p4, .int p5]) (rest := [.int 0, .ref o]) (r := (RX10, TX10, 9)) dL_addRider_13 cwX10_addRider hc rfl rfl rfl lkL_23 hcon rfl (Nat.le_of_ble_eq_true rfl) (Nat.le_of_ble_eq_true rfl) (Nat.le_of_ble_eq_true rfl) (Nat.le_of_eq (Nat.zero_add _)) (Nat.le_of_eq (Nat.zero_add _)) (fun v n9 h9 q => ?_) (fun E n9 h9 q => ?_)
  · obtain ⟨i, rfl⟩ := hv v n9 h9 q
    obtain ⟨f, hof⟩ := ho _ n9 h9 q
    show GG _ _ _ _ _ (.int i :: _) _ _
    refine mj_i2l dL_addRider_16 rfl ?_
    refine mj_last hof (show (0 : Int32).toInt = ((0 : Nat) : Int) from rfl) (by omega) dL_addRider_17 ?_
    refine mj_goto 29 dL_addRider_18 (by decide) ?_
    refine mj_iconst (v := 0) dL_addRider_29 rfl ?_
    exact mj_iret dL_addRider_30 rfl (Nat.le_of_eq (Nat.zero_add _)) (Nat.le_of_eq (Nat.zero_add _)) (Or.inl ⟨i, h9, f, q, hof, rfl, rfl⟩)
  · obtain ⟨j, hj⟩ := hx E n9 h9 q
    match j, hj with
    | 0, hj =>
      cases hj
      exact XX.catch [] (0, 18, 21, 13) [(0, 18, 25, 15)] "java/lang/IllegalArgumentException" rfl (fun z hz => by cases hz) rfl (by decide) lx_13 ca_IllegalArgumentException (fun a9 => by
        refine mj_astore (ls' := [(8, _), (0, _), (1, _), (2, _), (3, _), (4, _), (5, _), (6, _), (7, _)]) dL_addRider_21 (Nat.le_of_ble_eq_true rfl) rfl ?_
        refine mj_iconst (v := 1) dL_addRider_23 rfl ?_
        exact mj_iret dL_addRider_24 rfl (Nat.le_of_eq (Nat.zero_add _)) (Nat.le_of_eq (Nat.zero_add _)) (Or.inr ⟨_, 0, q, rfl, rfl⟩))
    | 1, hj =>
      cases hj
      exact XX.catch [(0, 18, 21, 13)] (0, 18, 25, 15) [] "java/lang/IllegalStateException" rfl (by
          intro z hz
          simp only [List.mem_cons, List.not_mem_nil, or_false] at hz
          rcases hz with rfl
          · exact Or.inr ⟨by decide, _, lx_13, by decide +kernel⟩) rfl (by decide) lx_15 ca_IllegalStateException (fun a9 => by
        refine mj_astore (ls' := [(8, _), (0, _), (1, _), (2, _), (3, _), (4, _), (5, _), (6, _), (7, _)]) dL_addRider_25 (Nat.le_of_ble_eq_true rfl) rfl ?_
        refine mj_iconst (v := 2) dL_addRider_27 rfl ?_
        exact mj_iret dL_addRider_28 rfl (Nat.le_of_eq (Nat.zero_add _)) (Nat.le_of_eq (Nat.zero_add _)) (Or.inr ⟨_, 1, q, rfl, rfl⟩))
    | j + 2, hj => cases hj
set_option maxRecDepth 100000 in
set_option maxHeartbeats 4000000 in
theorem cl_isDone {K : KX} {n : Nat} {h : MH} {c o mc ms : Nat} {fs : List Value} {p0 : Int32} {Q' : RQ} (hc : h c = some (cO 10 fs)) (hcon : Con K mX10_isDone [.ref c, .int p0] mc ms n h Q') (hx : EOk ["java/lang/IndexOutOfBoundsException"] Q') (hv : VOz Q') (ho : OOk o Q') : Con K mL_isDone [.ref c, .int p0, .ref o] mc ms n h (LRz ["java/lang/IndexOutOfBoundsException"] o Q') := by
  refine Con.of (by decide +kernel) (Nat.le_of_ble_eq_true rfl) ?_
  refine mj_aload_n 2 dL_isDone_0 rfl ?_
  refine mj_iconst (v := 0) dL_isDone_1 rfl ?_
  refine mj_aload_n 0 dL_isDone_2 rfl ?_
  refine mj_iload_n 1 dL_isDone_3 rfl ?_
  refine mj_callV (As := [.int p0]) (rest := [.int 0, .ref o]) (r := (RX10, TX10, 9)) dL_isDone_4 cwX10_isDone hc rfl rfl rfl lkL_27 hcon rfl (Nat.le_of_ble_eq_true rfl) (Nat.le_of_ble_eq_true rfl) (Nat.le_of_ble_eq_true rfl) (Nat.le_of_eq (Nat.zero_add _)) (Nat.le_of_eq (Nat.zero_add _)) (fun v n9 h9 q => ?_) (fun E n9 h9 q => ?_)
  · obtain ⟨b, rfl⟩ := hv v n9 h9 q
    obtain ⟨f, hof⟩ := ho _ n9 h9 q
    show GG _ _ _ _ _ (.int (bI b) :: _) _ _
    refine mj_if_eq 14 dL_isDone_7 (by decide) (fun c_7 => ?_) (fun c_7 => ?_)
    · refine mj_lconst (v := 0) dL_isDone_14 rfl ?_
      refine mj_last hof (show (0 : Int32).toInt = ((0 : Nat) : Int) from rfl) (by omega) dL_isDone_15 ?_
      refine mj_goto 22 dL_isDone_16 (by decide) ?_
      refine mj_iconst (v := 0) dL_isDone_22 rfl ?_
      exact mj_iret dL_isDone_23 rfl (Nat.le_of_eq (Nat.zero_add _)) (Nat.le_of_eq (Nat.zero_add _)) (Or.inl ⟨b, h9, f, q, hof, rfl, by rw [bI_0.mp c_7]; rfl⟩)
    · refine mj_lconst (v := 1) dL_isDone_10 rfl ?_
      refine mj_goto 15 dL_isDone_11 (by decide) ?_
      refine mj_last hof (show (0 : Int32).toInt = ((0 : Nat) : Int) from rfl) (by omega) dL_isDone_15 ?_
      refine mj_goto 22 dL_isDone_16 (by decide) ?_
      refine mj_iconst (v := 0) dL_isDone_22 rfl ?_
      exact mj_iret dL_isDone_23 rfl (Nat.le_of_eq (Nat.zero_add _)) (Nat.le_of_eq (Nat.zero_add _)) (Or.inl ⟨b, h9, f, q, hof, rfl, by rw [bI_n0.mp c_7]; rfl⟩)
  · obtain ⟨j, hj⟩ := hx E n9 h9 q
    match j, hj with
    | 0, hj =>
      cases hj
      exact XX.catch [] (0, 16, 19, 21) [] "java/lang/IndexOutOfBoundsException" rfl (fun z hz => by cases hz) rfl (by decide) lx_21 ca_IndexOutOfBoundsException (fun a9 => by
        refine mj_astore_n (ls' := [(3, _), (0, _), (1, _), (2, _)]) dL_isDone_19 (Nat.le_of_ble_eq_true rfl) rfl ?_
        refine mj_iconst (v := 1) dL_isDone_20 rfl ?_
        exact mj_iret dL_isDone_21 rfl (Nat.le_of_eq (Nat.zero_add _)) (Nat.le_of_eq (Nat.zero_add _)) (Or.inr ⟨_, 0, q, rfl, rfl⟩))
    | j + 1, hj => cases hj
set_option maxRecDepth 100000 in
set_option maxHeartbeats 4000000 in
theorem cl_riderState {K : KX} {n : Nat} {h : MH} {c o mc ms : Nat} {fs : List Value} {p0 : Int32} {Q' : RQ} (hc : h c = some (cO 10 fs)) (hcon : Con K mX10_riderState [.ref c, .int p0] mc ms n h Q') (hx : EOk ["java/lang/IndexOutOfBoundsException"] Q') (hv : VOi Q') (ho : OOk o Q') : Con K mL_riderState [.ref c, .int p0, .ref o] mc ms n h (LRi ["java/lang/IndexOutOfBoundsException"] o Q') := by
  refine Con.of (by decide +kernel) (Nat.le_of_ble_eq_true rfl) ?_
  refine mj_aload_n 2 dL_riderState_0 rfl ?_
  refine mj_iconst (v := 0) dL_riderState_1 rfl ?_
  refine mj_aload_n 0 dL_riderState_2 rfl ?_
  refine mj_iload_n 1 dL_riderState_3 rfl ?_
  refine mj_callV (As := [.int p0]) (rest := [.int 0, .ref o]) (r := (RX10, TX10, 9)) dL_riderState_4 cwX10_riderState hc rfl rfl rfl lkL_31 hcon rfl (Nat.le_of_ble_eq_true rfl) (Nat.le_of_ble_eq_true rfl) (Nat.le_of_ble_eq_true rfl) (Nat.le_of_eq (Nat.zero_add _)) (Nat.le_of_eq (Nat.zero_add _)) (fun v n9 h9 q => ?_) (fun E n9 h9 q => ?_)
  · obtain ⟨i, rfl⟩ := hv v n9 h9 q
    obtain ⟨f, hof⟩ := ho _ n9 h9 q
    show GG _ _ _ _ _ (.int i :: _) _ _
    refine mj_i2l dL_riderState_7 rfl ?_
    refine mj_last hof (show (0 : Int32).toInt = ((0 : Nat) : Int) from rfl) (by omega) dL_riderState_8 ?_
    refine mj_goto 15 dL_riderState_9 (by decide) ?_
    refine mj_iconst (v := 0) dL_riderState_15 rfl ?_
    exact mj_iret dL_riderState_16 rfl (Nat.le_of_eq (Nat.zero_add _)) (Nat.le_of_eq (Nat.zero_add _)) (Or.inl ⟨i, h9, f, q, hof, rfl, rfl⟩)
  · obtain ⟨j, hj⟩ := hx E n9 h9 q
    match j, hj with
    | 0, hj =>
      cases hj
      exact XX.catch [] (0, 9, 12, 21) [] "java/lang/IndexOutOfBoundsException" rfl (fun z hz => by cases hz) rfl (by decide) lx_21 ca_IndexOutOfBoundsException (fun a9 => by
        refine mj_astore_n (ls' := [(3, _), (0, _), (1, _), (2, _)]) dL_riderState_12 (Nat.le_of_ble_eq_true rfl) rfl ?_
        refine mj_iconst (v := 1) dL_riderState_13 rfl ?_
        exact mj_iret dL_riderState_14 rfl (Nat.le_of_eq (Nat.zero_add _)) (Nat.le_of_eq (Nat.zero_add _)) (Or.inr ⟨_, 0, q, rfl, rfl⟩))
    | j + 1, hj => cases hj
set_option maxRecDepth 100000 in
set_option maxHeartbeats 4000000 in
theorem cl_driverOf {K : KX} {n : Nat} {h : MH} {c o mc ms : Nat} {fs : List Value} {p0 : Int32} {Q' : RQ} (hc : h c = some (cO 10 fs)) (hcon : Con K mX10_driverOf [.ref c, .int p0] mc ms n h Q') (hx : EOk ["java/lang/IndexOutOfBoundsException"] Q') (hv : VOi Q') (ho : OOk o Q') : Con K mL_driverOf [.ref c, .int p0, .ref o] mc ms n h (LRi ["java/lang/IndexOutOfBoundsException"] o Q') := by
  refine Con.of (by decide +kernel) (Nat.le_of_ble_eq_true rfl) ?_
  refine mj_aload_n 2 dL_driverOf_0 rfl ?_
  refine mj_iconst (v := 0) dL_driverOf_1 rfl ?_
  refine mj_aload_n 0 dL_driverOf_2 rfl ?_
  refine mj_iload_n 1 dL_driverOf_3 rfl ?_
  refine mj_callV (As := [.int p0]) (rest := [.int 0, .ref o]) (r := (RX10, TX10, 9)) dL_driverOf_4 cwX10_driverOf hc rfl rfl rfl lkL_35 hcon rfl (Nat.le_of_ble_eq_true rfl) (Nat.le_of_ble_eq_true rfl) (Nat.le_of_ble_eq_true rfl) (Nat.le_of_eq (Nat.zero_add _)) (Nat.le_of_eq (Nat.zero_add _)) (fun v n9 h9 q => ?_) (fun E n9 h9 q => ?_)
  · obtain ⟨i, rfl⟩ := hv v n9 h9 q
    obtain ⟨f, hof⟩ := ho _ n9 h9 q
    show GG _ _ _ _ _ (.int i :: _) _ _
    refine mj_i2l dL_driverOf_7 rfl ?_
    refine mj_last hof (show (0 : Int32).toInt = ((0 : Nat) : Int) from rfl) (by omega) dL_driverOf_8 ?_
    refine mj_goto 15 dL_driverOf_9 (by decide) ?_
    refine mj_iconst (v := 0) dL_driverOf_15 rfl ?_
    exact mj_iret dL_driverOf_16 rfl (Nat.le_of_eq (Nat.zero_add _)) (Nat.le_of_eq (Nat.zero_add _)) (Or.inl ⟨i, h9, f, q, hof, rfl, rfl⟩)
  · obtain ⟨j, hj⟩ := hx E n9 h9 q
    match j, hj with
    | 0, hj =>
      cases hj
      exact XX.catch [] (0, 9, 12, 21) [] "java/lang/IndexOutOfBoundsException" rfl (fun z hz => by cases hz) rfl (by decide) lx_21 ca_IndexOutOfBoundsException (fun a9 => by
        refine mj_astore_n (ls' := [(3, _), (0, _), (1, _), (2, _)]) dL_driverOf_12 (Nat.le_of_ble_eq_true rfl) rfl ?_
        refine mj_iconst (v := 1) dL_driverOf_13 rfl ?_
        exact mj_iret dL_driverOf_14 rfl (Nat.le_of_eq (Nat.zero_add _)) (Nat.le_of_eq (Nat.zero_add _)) (Or.inr ⟨_, 0, q, rfl, rfl⟩))
    | j + 1, hj => cases hj
set_option maxRecDepth 100000 in
set_option maxHeartbeats 4000000 in
theorem cl_ridersOf {K : KX} {n : Nat} {h : MH} {c o mc ms : Nat} {fs : List Value} {p0 : Int32} {Q' : RQ} (hc : h c = some (cO 10 fs)) (hcon : Con K mX10_ridersOf [.ref c, .int p0] mc ms n h Q') (hx : EOk ["java/lang/IndexOutOfBoundsException"] Q') (hv : VOi Q') (ho : OOk o Q') : Con K mL_ridersOf [.ref c, .int p0, .ref o] mc ms n h (LRi ["java/lang/IndexOutOfBoundsException"] o Q') := by
  refine Con.of (by decide +kernel) (Nat.le_of_ble_eq_true rfl) ?_
  refine mj_aload_n 2 dL_ridersOf_0 rfl ?_
  refine mj_iconst (v := 0) dL_ridersOf_1 rfl ?_
  refine mj_aload_n 0 dL_ridersOf_2 rfl ?_
  refine mj_iload_n 1 dL_ridersOf_3 rfl ?_
  refine mj_callV (As := [.int p0]) (rest := [.int 0, .ref o]) (r := (RX10, TX10, 9)) dL_ridersOf_4 cwX10_ridersOf hc rfl rfl rfl lkL_38 hcon rfl (Nat.le_of_ble_eq_true rfl) (Nat.le_of_ble_eq_true rfl) (Nat.le_of_ble_eq_true rfl) (Nat.le_of_eq (Nat.zero_add _)) (Nat.le_of_eq (Nat.zero_add _)) (fun v n9 h9 q => ?_) (fun E n9 h9 q => ?_)
  · obtain ⟨i, rfl⟩ := hv v n9 h9 q
    obtain ⟨f, hof⟩ := ho _ n9 h9 q
    show GG _ _ _ _ _ (.int i :: _) _ _
    refine mj_i2l dL_ridersOf_7 rfl ?_
    refine mj_last hof (show (0 : Int32).toInt = ((0 : Nat) : Int) from rfl) (by omega) dL_ridersOf_8 ?_
    refine mj_goto 15 dL_ridersOf_9 (by decide) ?_
    refine mj_iconst (v := 0) dL_ridersOf_15 rfl ?_
    exact mj_iret dL_ridersOf_16 rfl (Nat.le_of_eq (Nat.zero_add _)) (Nat.le_of_eq (Nat.zero_add _)) (Or.inl ⟨i, h9, f, q, hof, rfl, rfl⟩)
  · obtain ⟨j, hj⟩ := hx E n9 h9 q
    match j, hj with
    | 0, hj =>
      cases hj
      exact XX.catch [] (0, 9, 12, 21) [] "java/lang/IndexOutOfBoundsException" rfl (fun z hz => by cases hz) rfl (by decide) lx_21 ca_IndexOutOfBoundsException (fun a9 => by
        refine mj_astore_n (ls' := [(3, _), (0, _), (1, _), (2, _)]) dL_ridersOf_12 (Nat.le_of_ble_eq_true rfl) rfl ?_
        refine mj_iconst (v := 1) dL_ridersOf_13 rfl ?_
        exact mj_iret dL_ridersOf_14 rfl (Nat.le_of_eq (Nat.zero_add _)) (Nat.le_of_eq (Nat.zero_add _)) (Or.inr ⟨_, 0, q, rfl, rfl⟩))
    | j + 1, hj => cases hj
set_option maxRecDepth 100000 in
set_option maxHeartbeats 4000000 in
theorem cl_setPenalty {K : KX} {n : Nat} {h : MH} {c o mc ms : Nat} {fs : List Value} {p0 : Int32} {Q' : RQ} (hc : h c = some (cO 10 fs)) (hcon : Con K mX10_setPenalty [.ref c, .int p0] mc ms n h Q') (hx : EOk ["java/lang/IllegalArgumentException"] Q') (hv : VOi Q') (ho : OOk o Q') : Con K mL_setPenalty [.ref c, .int p0, .ref o] mc ms n h (LRi ["java/lang/IllegalArgumentException"] o Q') := by
  refine Con.of (by decide +kernel) (Nat.le_of_ble_eq_true rfl) ?_
  refine mj_aload_n 2 dL_setPenalty_0 rfl ?_
  refine mj_iconst (v := 0) dL_setPenalty_1 rfl ?_
  refine mj_aload_n 0 dL_setPenalty_2 rfl ?_
  refine mj_iload_n 1 dL_setPenalty_3 rfl ?_
  refine mj_callV (As := [.int p0]) (rest := [.int 0, .ref o]) (r := (RX10, TX10, 9)) dL_setPenalty_4 cwX10_setPenalty hc rfl rfl rfl lkL_41 hcon rfl (Nat.le_of_ble_eq_true rfl) (Nat.le_of_ble_eq_true rfl) (Nat.le_of_ble_eq_true rfl) (Nat.le_of_eq (Nat.zero_add _)) (Nat.le_of_eq (Nat.zero_add _)) (fun v n9 h9 q => ?_) (fun E n9 h9 q => ?_)
  · obtain ⟨i, rfl⟩ := hv v n9 h9 q
    obtain ⟨f, hof⟩ := ho _ n9 h9 q
    show GG _ _ _ _ _ (.int i :: _) _ _
    refine mj_i2l dL_setPenalty_7 rfl ?_
    refine mj_last hof (show (0 : Int32).toInt = ((0 : Nat) : Int) from rfl) (by omega) dL_setPenalty_8 ?_
    refine mj_goto 15 dL_setPenalty_9 (by decide) ?_
    refine mj_iconst (v := 0) dL_setPenalty_15 rfl ?_
    exact mj_iret dL_setPenalty_16 rfl (Nat.le_of_eq (Nat.zero_add _)) (Nat.le_of_eq (Nat.zero_add _)) (Or.inl ⟨i, h9, f, q, hof, rfl, rfl⟩)
  · obtain ⟨j, hj⟩ := hx E n9 h9 q
    match j, hj with
    | 0, hj =>
      cases hj
      exact XX.catch [] (0, 9, 12, 13) [] "java/lang/IllegalArgumentException" rfl (fun z hz => by cases hz) rfl (by decide) lx_13 ca_IllegalArgumentException (fun a9 => by
        refine mj_astore_n (ls' := [(3, _), (0, _), (1, _), (2, _)]) dL_setPenalty_12 (Nat.le_of_ble_eq_true rfl) rfl ?_
        refine mj_iconst (v := 1) dL_setPenalty_13 rfl ?_
        exact mj_iret dL_setPenalty_14 rfl (Nat.le_of_eq (Nat.zero_add _)) (Nat.le_of_eq (Nat.zero_add _)) (Or.inr ⟨_, 0, q, rfl, rfl⟩))
    | j + 1, hj => cases hj
set_option maxRecDepth 100000 in
set_option maxHeartbeats 4000000 in
theorem cl_stopCount {K : KX} {n : Nat} {h : MH} {c o mc ms : Nat} {fs : List Value} {p0 : Int32} {Q' : RQ} (hc : h c = some (cO 10 fs)) (hcon : Con K mX10_stopCount [.ref c, .int p0] mc ms n h Q') (hx : EOk ["java/lang/IndexOutOfBoundsException"] Q') (hv : VOi Q') (ho : OOk o Q') : Con K mL_stopCount [.ref c, .int p0, .ref o] mc ms n h (LRi ["java/lang/IndexOutOfBoundsException"] o Q') := by
  refine Con.of (by decide +kernel) (Nat.le_of_ble_eq_true rfl) ?_
  refine mj_aload_n 2 dL_stopCount_0 rfl ?_
  refine mj_iconst (v := 0) dL_stopCount_1 rfl ?_
  refine mj_aload_n 0 dL_stopCount_2 rfl ?_
  refine mj_iload_n 1 dL_stopCount_3 rfl ?_
  refine mj_callV (As := [.int p0]) (rest := [.int 0, .ref o]) (r := (RX10, TX10, 9)) dL_stopCount_4 cwX10_stopCount hc rfl rfl rfl lkL_44 hcon rfl (Nat.le_of_ble_eq_true rfl) (Nat.le_of_ble_eq_true rfl) (Nat.le_of_ble_eq_true rfl) (Nat.le_of_eq (Nat.zero_add _)) (Nat.le_of_eq (Nat.zero_add _)) (fun v n9 h9 q => ?_) (fun E n9 h9 q => ?_)
  · obtain ⟨i, rfl⟩ := hv v n9 h9 q
    obtain ⟨f, hof⟩ := ho _ n9 h9 q
    show GG _ _ _ _ _ (.int i :: _) _ _
    refine mj_i2l dL_stopCount_7 rfl ?_
    refine mj_last hof (show (0 : Int32).toInt = ((0 : Nat) : Int) from rfl) (by omega) dL_stopCount_8 ?_
    refine mj_goto 15 dL_stopCount_9 (by decide) ?_
    refine mj_iconst (v := 0) dL_stopCount_15 rfl ?_
    exact mj_iret dL_stopCount_16 rfl (Nat.le_of_eq (Nat.zero_add _)) (Nat.le_of_eq (Nat.zero_add _)) (Or.inl ⟨i, h9, f, q, hof, rfl, rfl⟩)
  · obtain ⟨j, hj⟩ := hx E n9 h9 q
    match j, hj with
    | 0, hj =>
      cases hj
      exact XX.catch [] (0, 9, 12, 21) [] "java/lang/IndexOutOfBoundsException" rfl (fun z hz => by cases hz) rfl (by decide) lx_21 ca_IndexOutOfBoundsException (fun a9 => by
        refine mj_astore_n (ls' := [(3, _), (0, _), (1, _), (2, _)]) dL_stopCount_12 (Nat.le_of_ble_eq_true rfl) rfl ?_
        refine mj_iconst (v := 1) dL_stopCount_13 rfl ?_
        exact mj_iret dL_stopCount_14 rfl (Nat.le_of_eq (Nat.zero_add _)) (Nat.le_of_eq (Nat.zero_add _)) (Or.inr ⟨_, 0, q, rfl, rfl⟩))
    | j + 1, hj => cases hj
set_option maxRecDepth 100000 in
set_option maxHeartbeats 4000000 in
theorem cl_stopRider {K : KX} {n : Nat} {h : MH} {c o mc ms : Nat} {fs : List Value} {p0 p1 : Int32} {Q' : RQ} (hc : h c = some (cO 10 fs)) (hcon : Con K mX10_stopRider [.ref c, .int p0, .int p1] mc ms n h Q') (hx : EOk ["java/lang/IndexOutOfBoundsException"] Q') (hv : VOi Q') (ho : OOk o Q') : Con K mL_stopRider [.ref c, .int p0, .int p1, .ref o] mc ms n h (LRi ["java/lang/IndexOutOfBoundsException"] o Q') := by
  refine Con.of (by decide +kernel) (Nat.le_of_ble_eq_true rfl) ?_
  refine mj_aload_n 3 dL_stopRider_0 rfl ?_
  refine mj_iconst (v := 0) dL_stopRider_1 rfl ?_
  refine mj_aload_n 0 dL_stopRider_2 rfl ?_
  refine mj_iload_n 1 dL_stopRider_3 rfl ?_
  refine mj_iload_n 2 dL_stopRider_4 rfl ?_
  refine mj_callV (As := [.int p0, .int p1]) (rest := [.int 0, .ref o]) (r := (RX10, TX10, 9)) dL_stopRider_5 cwX10_stopRider hc rfl rfl rfl lkL_47 hcon rfl (Nat.le_of_ble_eq_true rfl) (Nat.le_of_ble_eq_true rfl) (Nat.le_of_ble_eq_true rfl) (Nat.le_of_eq (Nat.zero_add _)) (Nat.le_of_eq (Nat.zero_add _)) (fun v n9 h9 q => ?_) (fun E n9 h9 q => ?_)
  · obtain ⟨i, rfl⟩ := hv v n9 h9 q
    obtain ⟨f, hof⟩ := ho _ n9 h9 q
    show GG _ _ _ _ _ (.int i :: _) _ _
    refine mj_i2l dL_stopRider_8 rfl ?_
    refine mj_last hof (show (0 : Int32).toInt = ((0 : Nat) : Int) from rfl) (by omega) dL_stopRider_9 ?_
    refine mj_goto 17 dL_stopRider_10 (by decide) ?_
    refine mj_iconst (v := 0) dL_stopRider_17 rfl ?_
    exact mj_iret dL_stopRider_18 rfl (Nat.le_of_eq (Nat.zero_add _)) (Nat.le_of_eq (Nat.zero_add _)) (Or.inl ⟨i, h9, f, q, hof, rfl, rfl⟩)
  · obtain ⟨j, hj⟩ := hx E n9 h9 q
    match j, hj with
    | 0, hj =>
      cases hj
      exact XX.catch [] (0, 10, 13, 21) [] "java/lang/IndexOutOfBoundsException" rfl (fun z hz => by cases hz) rfl (by decide) lx_21 ca_IndexOutOfBoundsException (fun a9 => by
        refine mj_astore (ls' := [(4, _), (0, _), (1, _), (2, _), (3, _)]) dL_stopRider_13 (Nat.le_of_ble_eq_true rfl) rfl ?_
        refine mj_iconst (v := 1) dL_stopRider_15 rfl ?_
        exact mj_iret dL_stopRider_16 rfl (Nat.le_of_eq (Nat.zero_add _)) (Nat.le_of_eq (Nat.zero_add _)) (Or.inr ⟨_, 0, q, rfl, rfl⟩))
    | j + 1, hj => cases hj
set_option maxRecDepth 100000 in
set_option maxHeartbeats 4000000 in
theorem cl_arrival {K : KX} {n : Nat} {h : MH} {c o mc ms : Nat} {fs : List Value} {p0 p1 : Int32} {Q' : RQ} (hc : h c = some (cO 10 fs)) (hcon : Con K mX10_arrival [.ref c, .int p0, .int p1] mc ms n h Q') (hx : EOk ["java/lang/IndexOutOfBoundsException"] Q') (hv : VOi Q') (ho : OOk o Q') : Con K mL_arrival [.ref c, .int p0, .int p1, .ref o] mc ms n h (LRi ["java/lang/IndexOutOfBoundsException"] o Q') := by
  refine Con.of (by decide +kernel) (Nat.le_of_ble_eq_true rfl) ?_
  refine mj_aload_n 3 dL_arrival_0 rfl ?_
  refine mj_iconst (v := 0) dL_arrival_1 rfl ?_
  refine mj_aload_n 0 dL_arrival_2 rfl ?_
  refine mj_iload_n 1 dL_arrival_3 rfl ?_
  refine mj_iload_n 2 dL_arrival_4 rfl ?_
  refine mj_callV (As := [.int p0, .int p1]) (rest := [.int 0, .ref o]) (r := (RX10, TX10, 9)) dL_arrival_5 cwX10_arrival hc rfl rfl rfl lkL_51 hcon rfl (Nat.le_of_ble_eq_true rfl) (Nat.le_of_ble_eq_true rfl) (Nat.le_of_ble_eq_true rfl) (Nat.le_of_eq (Nat.zero_add _)) (Nat.le_of_eq (Nat.zero_add _)) (fun v n9 h9 q => ?_) (fun E n9 h9 q => ?_)
  · obtain ⟨i, rfl⟩ := hv v n9 h9 q
    obtain ⟨f, hof⟩ := ho _ n9 h9 q
    show GG _ _ _ _ _ (.int i :: _) _ _
    refine mj_i2l dL_arrival_8 rfl ?_
    refine mj_last hof (show (0 : Int32).toInt = ((0 : Nat) : Int) from rfl) (by omega) dL_arrival_9 ?_
    refine mj_goto 17 dL_arrival_10 (by decide) ?_
    refine mj_iconst (v := 0) dL_arrival_17 rfl ?_
    exact mj_iret dL_arrival_18 rfl (Nat.le_of_eq (Nat.zero_add _)) (Nat.le_of_eq (Nat.zero_add _)) (Or.inl ⟨i, h9, f, q, hof, rfl, rfl⟩)
  · obtain ⟨j, hj⟩ := hx E n9 h9 q
    match j, hj with
    | 0, hj =>
      cases hj
      exact XX.catch [] (0, 10, 13, 21) [] "java/lang/IndexOutOfBoundsException" rfl (fun z hz => by cases hz) rfl (by decide) lx_21 ca_IndexOutOfBoundsException (fun a9 => by
        refine mj_astore (ls' := [(4, _), (0, _), (1, _), (2, _), (3, _)]) dL_arrival_13 (Nat.le_of_ble_eq_true rfl) rfl ?_
        refine mj_iconst (v := 1) dL_arrival_15 rfl ?_
        exact mj_iret dL_arrival_16 rfl (Nat.le_of_eq (Nat.zero_add _)) (Nat.le_of_eq (Nat.zero_add _)) (Or.inr ⟨_, 0, q, rfl, rfl⟩))
    | j + 1, hj => cases hj
set_option maxRecDepth 100000 in
set_option maxHeartbeats 4000000 in
theorem cl_routeLength {K : KX} {n : Nat} {h : MH} {c o mc ms : Nat} {fs : List Value} {p0 : Int32} {Q' : RQ} (hc : h c = some (cO 10 fs)) (hcon : Con K mX10_routeLength [.ref c, .int p0] mc ms n h Q') (hx : EOk ["java/lang/IndexOutOfBoundsException"] Q') (hv : VOi Q') (ho : OOk o Q') : Con K mL_routeLength [.ref c, .int p0, .ref o] mc ms n h (LRi ["java/lang/IndexOutOfBoundsException"] o Q') := by
  refine Con.of (by decide +kernel) (Nat.le_of_ble_eq_true rfl) ?_
  refine mj_aload_n 2 dL_routeLength_0 rfl ?_
  refine mj_iconst (v := 0) dL_routeLength_1 rfl ?_
  refine mj_aload_n 0 dL_routeLength_2 rfl ?_
  refine mj_iload_n 1 dL_routeLength_3 rfl ?_
  refine mj_callV (As := [.int p0]) (rest := [.int 0, .ref o]) (r := (RX10, TX10, 9)) dL_routeLength_4 cwX10_routeLength hc rfl rfl rfl lkL_54 hcon rfl (Nat.le_of_ble_eq_true rfl) (Nat.le_of_ble_eq_true rfl) (Nat.le_of_ble_eq_true rfl) (Nat.le_of_eq (Nat.zero_add _)) (Nat.le_of_eq (Nat.zero_add _)) (fun v n9 h9 q => ?_) (fun E n9 h9 q => ?_)
  · obtain ⟨i, rfl⟩ := hv v n9 h9 q
    obtain ⟨f, hof⟩ := ho _ n9 h9 q
    show GG _ _ _ _ _ (.int i :: _) _ _
    refine mj_i2l dL_routeLength_7 rfl ?_
    refine mj_last hof (show (0 : Int32).toInt = ((0 : Nat) : Int) from rfl) (by omega) dL_routeLength_8 ?_
    refine mj_goto 15 dL_routeLength_9 (by decide) ?_
    refine mj_iconst (v := 0) dL_routeLength_15 rfl ?_
    exact mj_iret dL_routeLength_16 rfl (Nat.le_of_eq (Nat.zero_add _)) (Nat.le_of_eq (Nat.zero_add _)) (Or.inl ⟨i, h9, f, q, hof, rfl, rfl⟩)
  · obtain ⟨j, hj⟩ := hx E n9 h9 q
    match j, hj with
    | 0, hj =>
      cases hj
      exact XX.catch [] (0, 9, 12, 21) [] "java/lang/IndexOutOfBoundsException" rfl (fun z hz => by cases hz) rfl (by decide) lx_21 ca_IndexOutOfBoundsException (fun a9 => by
        refine mj_astore_n (ls' := [(3, _), (0, _), (1, _), (2, _)]) dL_routeLength_12 (Nat.le_of_ble_eq_true rfl) rfl ?_
        refine mj_iconst (v := 1) dL_routeLength_13 rfl ?_
        exact mj_iret dL_routeLength_14 rfl (Nat.le_of_eq (Nat.zero_add _)) (Nat.le_of_eq (Nat.zero_add _)) (Or.inr ⟨_, 0, q, rfl, rfl⟩))
    | j + 1, hj => cases hj
set_option maxRecDepth 100000 in
set_option maxHeartbeats 4000000 in
theorem cl_detour {K : KX} {n : Nat} {h : MH} {c o mc ms : Nat} {fs : List Value} {p0 : Int32} {Q' : RQ} (hc : h c = some (cO 10 fs)) (hcon : Con K mX10_detour [.ref c, .int p0] mc ms n h Q') (hx : EOk ["java/lang/IndexOutOfBoundsException"] Q') (hv : VOi Q') (ho : OOk o Q') : Con K mL_detour [.ref c, .int p0, .ref o] mc ms n h (LRi ["java/lang/IndexOutOfBoundsException"] o Q') := by
  refine Con.of (by decide +kernel) (Nat.le_of_ble_eq_true rfl) ?_
  refine mj_aload_n 2 dL_detour_0 rfl ?_
  refine mj_iconst (v := 0) dL_detour_1 rfl ?_
  refine mj_aload_n 0 dL_detour_2 rfl ?_
  refine mj_iload_n 1 dL_detour_3 rfl ?_
  refine mj_callV (As := [.int p0]) (rest := [.int 0, .ref o]) (r := (RX10, TX10, 9)) dL_detour_4 cwX10_detour hc rfl rfl rfl lkL_57 hcon rfl (Nat.le_of_ble_eq_true rfl) (Nat.le_of_ble_eq_true rfl) (Nat.le_of_ble_eq_true rfl) (Nat.le_of_eq (Nat.zero_add _)) (Nat.le_of_eq (Nat.zero_add _)) (fun v n9 h9 q => ?_) (fun E n9 h9 q => ?_)
  · obtain ⟨i, rfl⟩ := hv v n9 h9 q
    obtain ⟨f, hof⟩ := ho _ n9 h9 q
    show GG _ _ _ _ _ (.int i :: _) _ _
    refine mj_i2l dL_detour_7 rfl ?_
    refine mj_last hof (show (0 : Int32).toInt = ((0 : Nat) : Int) from rfl) (by omega) dL_detour_8 ?_
    refine mj_goto 15 dL_detour_9 (by decide) ?_
    refine mj_iconst (v := 0) dL_detour_15 rfl ?_
    exact mj_iret dL_detour_16 rfl (Nat.le_of_eq (Nat.zero_add _)) (Nat.le_of_eq (Nat.zero_add _)) (Or.inl ⟨i, h9, f, q, hof, rfl, rfl⟩)
  · obtain ⟨j, hj⟩ := hx E n9 h9 q
    match j, hj with
    | 0, hj =>
      cases hj
      exact XX.catch [] (0, 9, 12, 21) [] "java/lang/IndexOutOfBoundsException" rfl (fun z hz => by cases hz) rfl (by decide) lx_21 ca_IndexOutOfBoundsException (fun a9 => by
        refine mj_astore_n (ls' := [(3, _), (0, _), (1, _), (2, _)]) dL_detour_12 (Nat.le_of_ble_eq_true rfl) rfl ?_
        refine mj_iconst (v := 1) dL_detour_13 rfl ?_
        exact mj_iret dL_detour_14 rfl (Nat.le_of_eq (Nat.zero_add _)) (Nat.le_of_eq (Nat.zero_add _)) (Or.inr ⟨_, 0, q, rfl, rfl⟩))
    | j + 1, hj => cases hj
set_option maxRecDepth 100000 in
set_option maxHeartbeats 4000000 in
theorem cl_extra {K : KX} {n : Nat} {h : MH} {c o mc ms : Nat} {fs : List Value} {p0 p1 : Int32} {Q' : RQ} (hc : h c = some (cO 10 fs)) (hcon : Con K mX10_extra [.ref c, .int p0, .int p1] mc ms n h Q') (hx : EOk ["java/lang/IndexOutOfBoundsException"] Q') (hv : VOi Q') (ho : OOk o Q') : Con K mL_extra [.ref c, .int p0, .int p1, .ref o] mc ms n h (LRi ["java/lang/IndexOutOfBoundsException"] o Q') := by
  refine Con.of (by decide +kernel) (Nat.le_of_ble_eq_true rfl) ?_
  refine mj_aload_n 3 dL_extra_0 rfl ?_
  refine mj_iconst (v := 0) dL_extra_1 rfl ?_
  refine mj_aload_n 0 dL_extra_2 rfl ?_
  refine mj_iload_n 1 dL_extra_3 rfl ?_
  refine mj_iload_n 2 dL_extra_4 rfl ?_
  refine mj_callV (As := [.int p0, .int p1]) (rest := [.int 0, .ref o]) (r := (RX10, TX10, 9)) dL_extra_5 cwX10_extra hc rfl rfl rfl lkL_60 hcon rfl (Nat.le_of_ble_eq_true rfl) (Nat.le_of_ble_eq_true rfl) (Nat.le_of_ble_eq_true rfl) (Nat.le_of_eq (Nat.zero_add _)) (Nat.le_of_eq (Nat.zero_add _)) (fun v n9 h9 q => ?_) (fun E n9 h9 q => ?_)
  · obtain ⟨i, rfl⟩ := hv v n9 h9 q
    obtain ⟨f, hof⟩ := ho _ n9 h9 q
    show GG _ _ _ _ _ (.int i :: _) _ _
    refine mj_i2l dL_extra_8 rfl ?_
    refine mj_last hof (show (0 : Int32).toInt = ((0 : Nat) : Int) from rfl) (by omega) dL_extra_9 ?_
    refine mj_goto 17 dL_extra_10 (by decide) ?_
    refine mj_iconst (v := 0) dL_extra_17 rfl ?_
    exact mj_iret dL_extra_18 rfl (Nat.le_of_eq (Nat.zero_add _)) (Nat.le_of_eq (Nat.zero_add _)) (Or.inl ⟨i, h9, f, q, hof, rfl, rfl⟩)
  · obtain ⟨j, hj⟩ := hx E n9 h9 q
    match j, hj with
    | 0, hj =>
      cases hj
      exact XX.catch [] (0, 10, 13, 21) [] "java/lang/IndexOutOfBoundsException" rfl (fun z hz => by cases hz) rfl (by decide) lx_21 ca_IndexOutOfBoundsException (fun a9 => by
        refine mj_astore (ls' := [(4, _), (0, _), (1, _), (2, _), (3, _)]) dL_extra_13 (Nat.le_of_ble_eq_true rfl) rfl ?_
        refine mj_iconst (v := 1) dL_extra_15 rfl ?_
        exact mj_iret dL_extra_16 rfl (Nat.le_of_eq (Nat.zero_add _)) (Nat.le_of_eq (Nat.zero_add _)) (Or.inr ⟨_, 0, q, rfl, rfl⟩))
    | j + 1, hj => cases hj
set_option maxRecDepth 100000 in
set_option maxHeartbeats 4000000 in
theorem cl_soloExtra {K : KX} {n : Nat} {h : MH} {c o mc ms : Nat} {fs : List Value} {p0 p1 : Int32} {Q' : RQ} (hc : h c = some (cO 10 fs)) (hcon : Con K mX10_soloExtra [.ref c, .int p0, .int p1] mc ms n h Q') (hx : EOk ["java/lang/IndexOutOfBoundsException"] Q') (hv : VOi Q') (ho : OOk o Q') : Con K mL_soloExtra [.ref c, .int p0, .int p1, .ref o] mc ms n h (LRi ["java/lang/IndexOutOfBoundsException"] o Q') := by
  refine Con.of (by decide +kernel) (Nat.le_of_ble_eq_true rfl) ?_
  refine mj_aload_n 3 dL_soloExtra_0 rfl ?_
  refine mj_iconst (v := 0) dL_soloExtra_1 rfl ?_
  refine mj_aload_n 0 dL_soloExtra_2 rfl ?_
  refine mj_iload_n 1 dL_soloExtra_3 rfl ?_
  refine mj_iload_n 2 dL_soloExtra_4 rfl ?_
  refine mj_callV (As := [.int p0, .int p1]) (rest := [.int 0, .ref o]) (r := (RX10, TX10, 9)) dL_soloExtra_5 cwX10_soloExtra hc rfl rfl rfl lkL_63 hcon rfl (Nat.le_of_ble_eq_true rfl) (Nat.le_of_ble_eq_true rfl) (Nat.le_of_ble_eq_true rfl) (Nat.le_of_eq (Nat.zero_add _)) (Nat.le_of_eq (Nat.zero_add _)) (fun v n9 h9 q => ?_) (fun E n9 h9 q => ?_)
  · obtain ⟨i, rfl⟩ := hv v n9 h9 q
    obtain ⟨f, hof⟩ := ho _ n9 h9 q
    show GG _ _ _ _ _ (.int i :: _) _ _
    refine mj_i2l dL_soloExtra_8 rfl ?_
    refine mj_last hof (show (0 : Int32).toInt = ((0 : Nat) : Int) from rfl) (by omega) dL_soloExtra_9 ?_
    refine mj_goto 17 dL_soloExtra_10 (by decide) ?_
    refine mj_iconst (v := 0) dL_soloExtra_17 rfl ?_
    exact mj_iret dL_soloExtra_18 rfl (Nat.le_of_eq (Nat.zero_add _)) (Nat.le_of_eq (Nat.zero_add _)) (Or.inl ⟨i, h9, f, q, hof, rfl, rfl⟩)
  · obtain ⟨j, hj⟩ := hx E n9 h9 q
    match j, hj with
    | 0, hj =>
      cases hj
      exact XX.catch [] (0, 10, 13, 21) [] "java/lang/IndexOutOfBoundsException" rfl (fun z hz => by cases hz) rfl (by decide) lx_21 ca_IndexOutOfBoundsException (fun a9 => by
        refine mj_astore (ls' := [(4, _), (0, _), (1, _), (2, _), (3, _)]) dL_soloExtra_13 (Nat.le_of_ble_eq_true rfl) rfl ?_
        refine mj_iconst (v := 1) dL_soloExtra_15 rfl ?_
        exact mj_iret dL_soloExtra_16 rfl (Nat.le_of_eq (Nat.zero_add _)) (Nat.le_of_eq (Nat.zero_add _)) (Or.inr ⟨_, 0, q, rfl, rfl⟩))
    | j + 1, hj => cases hj
set_option maxRecDepth 100000 in
set_option maxHeartbeats 4000000 in
theorem cl_bestDriver {K : KX} {n : Nat} {h : MH} {c o mc ms : Nat} {fs : List Value} {p0 : Int32} {Q' : RQ} (hc : h c = some (cO 10 fs)) (hcon : Con K mX10_bestDriver [.ref c, .int p0] mc ms n h Q') (hx : EOk ["java/lang/IndexOutOfBoundsException"] Q') (hv : VOi Q') (ho : OOk o Q') : Con K mL_bestDriver [.ref c, .int p0, .ref o] mc ms n h (LRi ["java/lang/IndexOutOfBoundsException"] o Q') := by
  refine Con.of (by decide +kernel) (Nat.le_of_ble_eq_true rfl) ?_
  refine mj_aload_n 2 dL_bestDriver_0 rfl ?_
  refine mj_iconst (v := 0) dL_bestDriver_1 rfl ?_
  refine mj_aload_n 0 dL_bestDriver_2 rfl ?_
  refine mj_iload_n 1 dL_bestDriver_3 rfl ?_
  refine mj_callV (As := [.int p0]) (rest := [.int 0, .ref o]) (r := (RX10, TX10, 9)) dL_bestDriver_4 cwX10_bestDriver hc rfl rfl rfl lkL_66 hcon rfl (Nat.le_of_ble_eq_true rfl) (Nat.le_of_ble_eq_true rfl) (Nat.le_of_ble_eq_true rfl) (Nat.le_of_eq (Nat.zero_add _)) (Nat.le_of_eq (Nat.zero_add _)) (fun v n9 h9 q => ?_) (fun E n9 h9 q => ?_)
  · obtain ⟨i, rfl⟩ := hv v n9 h9 q
    obtain ⟨f, hof⟩ := ho _ n9 h9 q
    show GG _ _ _ _ _ (.int i :: _) _ _
    refine mj_i2l dL_bestDriver_7 rfl ?_
    refine mj_last hof (show (0 : Int32).toInt = ((0 : Nat) : Int) from rfl) (by omega) dL_bestDriver_8 ?_
    refine mj_goto 15 dL_bestDriver_9 (by decide) ?_
    refine mj_iconst (v := 0) dL_bestDriver_15 rfl ?_
    exact mj_iret dL_bestDriver_16 rfl (Nat.le_of_eq (Nat.zero_add _)) (Nat.le_of_eq (Nat.zero_add _)) (Or.inl ⟨i, h9, f, q, hof, rfl, rfl⟩)
  · obtain ⟨j, hj⟩ := hx E n9 h9 q
    match j, hj with
    | 0, hj =>
      cases hj
      exact XX.catch [] (0, 9, 12, 21) [] "java/lang/IndexOutOfBoundsException" rfl (fun z hz => by cases hz) rfl (by decide) lx_21 ca_IndexOutOfBoundsException (fun a9 => by
        refine mj_astore_n (ls' := [(3, _), (0, _), (1, _), (2, _)]) dL_bestDriver_12 (Nat.le_of_ble_eq_true rfl) rfl ?_
        refine mj_iconst (v := 1) dL_bestDriver_13 rfl ?_
        exact mj_iret dL_bestDriver_14 rfl (Nat.le_of_eq (Nat.zero_add _)) (Nat.le_of_eq (Nat.zero_add _)) (Or.inr ⟨_, 0, q, rfl, rfl⟩))
    | j + 1, hj => cases hj
set_option maxRecDepth 100000 in
set_option maxHeartbeats 4000000 in
theorem cl_assign {K : KX} {n : Nat} {h : MH} {c o mc ms : Nat} {fs : List Value} {p0 p1 : Int32} {Q' : RQ} (hc : h c = some (cO 10 fs)) (hcon : Con K mX10_assign [.ref c, .int p0, .int p1] mc ms n h Q') (hx : EOk ["java/lang/IndexOutOfBoundsException", "java/lang/IllegalStateException"] Q') (hv : VOi Q') (ho : OOk o Q') : Con K mL_assign [.ref c, .int p0, .int p1, .ref o] mc ms n h (LRi ["java/lang/IndexOutOfBoundsException", "java/lang/IllegalStateException"] o Q') := by
  refine Con.of (by decide +kernel) (Nat.le_of_ble_eq_true rfl) ?_
  refine mj_aload_n 3 dL_assign_0 rfl ?_
  refine mj_iconst (v := 0) dL_assign_1 rfl ?_
  refine mj_aload_n 0 dL_assign_2 rfl ?_
  refine mj_iload_n 1 dL_assign_3 rfl ?_
  refine mj_iload_n 2 dL_assign_4 rfl ?_
  refine mj_callV (As := [.int p0, .int p1]) (rest := [.int 0, .ref o]) (r := (RX10, TX10, 9)) dL_assign_5 cwX10_assign hc rfl rfl rfl lkL_69 hcon rfl (Nat.le_of_ble_eq_true rfl) (Nat.le_of_ble_eq_true rfl) (Nat.le_of_ble_eq_true rfl) (Nat.le_of_eq (Nat.zero_add _)) (Nat.le_of_eq (Nat.zero_add _)) (fun v n9 h9 q => ?_) (fun E n9 h9 q => ?_)
  · obtain ⟨i, rfl⟩ := hv v n9 h9 q
    obtain ⟨f, hof⟩ := ho _ n9 h9 q
    show GG _ _ _ _ _ (.int i :: _) _ _
    refine mj_i2l dL_assign_8 rfl ?_
    refine mj_last hof (show (0 : Int32).toInt = ((0 : Nat) : Int) from rfl) (by omega) dL_assign_9 ?_
    refine mj_goto 21 dL_assign_10 (by decide) ?_
    refine mj_iconst (v := 0) dL_assign_21 rfl ?_
    exact mj_iret dL_assign_22 rfl (Nat.le_of_eq (Nat.zero_add _)) (Nat.le_of_eq (Nat.zero_add _)) (Or.inl ⟨i, h9, f, q, hof, rfl, rfl⟩)
  · obtain ⟨j, hj⟩ := hx E n9 h9 q
    match j, hj with
    | 0, hj =>
      cases hj
      exact XX.catch [] (0, 10, 13, 21) [(0, 10, 17, 15)] "java/lang/IndexOutOfBoundsException" rfl (fun z hz => by cases hz) rfl (by decide) lx_21 ca_IndexOutOfBoundsException (fun a9 => by
        refine mj_astore (ls' := [(4, _), (0, _), (1, _), (2, _), (3, _)]) dL_assign_13 (Nat.le_of_ble_eq_true rfl) rfl ?_
        refine mj_iconst (v := 1) dL_assign_15 rfl ?_
        exact mj_iret dL_assign_16 rfl (Nat.le_of_eq (Nat.zero_add _)) (Nat.le_of_eq (Nat.zero_add _)) (Or.inr ⟨_, 0, q, rfl, rfl⟩))
    | 1, hj =>
      cases hj
      exact XX.catch [(0, 10, 13, 21)] (0, 10, 17, 15) [] "java/lang/IllegalStateException" rfl (by
          intro z hz
          simp only [List.mem_cons, List.not_mem_nil, or_false] at hz
          rcases hz with rfl
          · exact Or.inr ⟨by decide, _, lx_21, by decide +kernel⟩) rfl (by decide) lx_15 ca_IllegalStateException (fun a9 => by
        refine mj_astore (ls' := [(4, _), (0, _), (1, _), (2, _), (3, _)]) dL_assign_17 (Nat.le_of_ble_eq_true rfl) rfl ?_
        refine mj_iconst (v := 2) dL_assign_19 rfl ?_
        exact mj_iret dL_assign_20 rfl (Nat.le_of_eq (Nat.zero_add _)) (Nat.le_of_eq (Nat.zero_add _)) (Or.inr ⟨_, 1, q, rfl, rfl⟩))
    | j + 2, hj => cases hj
set_option maxRecDepth 100000 in
set_option maxHeartbeats 4000000 in
theorem cl_unassign {K : KX} {n : Nat} {h : MH} {c o mc ms : Nat} {fs : List Value} {p0 : Int32} {Q' : RQ} (hc : h c = some (cO 10 fs)) (hcon : Con K mX10_unassign [.ref c, .int p0] mc ms n h Q') (hx : EOk ["java/lang/IndexOutOfBoundsException", "java/lang/IllegalStateException"] Q') (hv : VOi Q') (ho : OOk o Q') : Con K mL_unassign [.ref c, .int p0, .ref o] mc ms n h (LRi ["java/lang/IndexOutOfBoundsException", "java/lang/IllegalStateException"] o Q') := by
  refine Con.of (by decide +kernel) (Nat.le_of_ble_eq_true rfl) ?_
  refine mj_aload_n 2 dL_unassign_0 rfl ?_
  refine mj_iconst (v := 0) dL_unassign_1 rfl ?_
  refine mj_aload_n 0 dL_unassign_2 rfl ?_
  refine mj_iload_n 1 dL_unassign_3 rfl ?_
  refine mj_callV (As := [.int p0]) (rest := [.int 0, .ref o]) (r := (RX10, TX10, 9)) dL_unassign_4 cwX10_unassign hc rfl rfl rfl lkL_72 hcon rfl (Nat.le_of_ble_eq_true rfl) (Nat.le_of_ble_eq_true rfl) (Nat.le_of_ble_eq_true rfl) (Nat.le_of_eq (Nat.zero_add _)) (Nat.le_of_eq (Nat.zero_add _)) (fun v n9 h9 q => ?_) (fun E n9 h9 q => ?_)
  · obtain ⟨i, rfl⟩ := hv v n9 h9 q
    obtain ⟨f, hof⟩ := ho _ n9 h9 q
    show GG _ _ _ _ _ (.int i :: _) _ _
    refine mj_i2l dL_unassign_7 rfl ?_
    refine mj_last hof (show (0 : Int32).toInt = ((0 : Nat) : Int) from rfl) (by omega) dL_unassign_8 ?_
    refine mj_goto 18 dL_unassign_9 (by decide) ?_
    refine mj_iconst (v := 0) dL_unassign_18 rfl ?_
    exact mj_iret dL_unassign_19 rfl (Nat.le_of_eq (Nat.zero_add _)) (Nat.le_of_eq (Nat.zero_add _)) (Or.inl ⟨i, h9, f, q, hof, rfl, rfl⟩)
  · obtain ⟨j, hj⟩ := hx E n9 h9 q
    match j, hj with
    | 0, hj =>
      cases hj
      exact XX.catch [] (0, 9, 12, 21) [(0, 9, 15, 15)] "java/lang/IndexOutOfBoundsException" rfl (fun z hz => by cases hz) rfl (by decide) lx_21 ca_IndexOutOfBoundsException (fun a9 => by
        refine mj_astore_n (ls' := [(3, _), (0, _), (1, _), (2, _)]) dL_unassign_12 (Nat.le_of_ble_eq_true rfl) rfl ?_
        refine mj_iconst (v := 1) dL_unassign_13 rfl ?_
        exact mj_iret dL_unassign_14 rfl (Nat.le_of_eq (Nat.zero_add _)) (Nat.le_of_eq (Nat.zero_add _)) (Or.inr ⟨_, 0, q, rfl, rfl⟩))
    | 1, hj =>
      cases hj
      exact XX.catch [(0, 9, 12, 21)] (0, 9, 15, 15) [] "java/lang/IllegalStateException" rfl (by
          intro z hz
          simp only [List.mem_cons, List.not_mem_nil, or_false] at hz
          rcases hz with rfl
          · exact Or.inr ⟨by decide, _, lx_21, by decide +kernel⟩) rfl (by decide) lx_15 ca_IllegalStateException (fun a9 => by
        refine mj_astore_n (ls' := [(3, _), (0, _), (1, _), (2, _)]) dL_unassign_15 (Nat.le_of_ble_eq_true rfl) rfl ?_
        refine mj_iconst (v := 2) dL_unassign_16 rfl ?_
        exact mj_iret dL_unassign_17 rfl (Nat.le_of_eq (Nat.zero_add _)) (Nat.le_of_eq (Nat.zero_add _)) (Or.inr ⟨_, 1, q, rfl, rfl⟩))
    | j + 2, hj => cases hj
set_option maxRecDepth 100000 in
set_option maxHeartbeats 4000000 in
theorem cl_riderChoice {K : KX} {n : Nat} {h : MH} {c o mc ms : Nat} {fs : List Value} {p0 p1 : Int32} {Q' : RQ} (hc : h c = some (cO 10 fs)) (hcon : Con K mX10_riderChoice [.ref c, .int p0, .int p1] mc ms n h Q') (hx : EOk ["java/lang/IndexOutOfBoundsException"] Q') (hv : VOi Q') (ho : OOk o Q') : Con K mL_riderChoice [.ref c, .int p0, .int p1, .ref o] mc ms n h (LRi ["java/lang/IndexOutOfBoundsException"] o Q') := by
  refine Con.of (by decide +kernel) (Nat.le_of_ble_eq_true rfl) ?_
  refine mj_aload_n 3 dL_riderChoice_0 rfl ?_
  refine mj_iconst (v := 0) dL_riderChoice_1 rfl ?_
  refine mj_aload_n 0 dL_riderChoice_2 rfl ?_
  refine mj_iload_n 1 dL_riderChoice_3 rfl ?_
  refine mj_iload_n 2 dL_riderChoice_4 rfl ?_
  refine mj_callV (As := [.int p0, .int p1]) (rest := [.int 0, .ref o]) (r := (RX10, TX10, 9)) dL_riderChoice_5 cwX10_riderChoice hc rfl rfl rfl lkL_75 hcon rfl (Nat.le_of_ble_eq_true rfl) (Nat.le_of_ble_eq_true rfl) (Nat.le_of_ble_eq_true rfl) (Nat.le_of_eq (Nat.zero_add _)) (Nat.le_of_eq (Nat.zero_add _)) (fun v n9 h9 q => ?_) (fun E n9 h9 q => ?_)
  · obtain ⟨i, rfl⟩ := hv v n9 h9 q
    obtain ⟨f, hof⟩ := ho _ n9 h9 q
    show GG _ _ _ _ _ (.int i :: _) _ _
    refine mj_i2l dL_riderChoice_8 rfl ?_
    refine mj_last hof (show (0 : Int32).toInt = ((0 : Nat) : Int) from rfl) (by omega) dL_riderChoice_9 ?_
    refine mj_goto 17 dL_riderChoice_10 (by decide) ?_
    refine mj_iconst (v := 0) dL_riderChoice_17 rfl ?_
    exact mj_iret dL_riderChoice_18 rfl (Nat.le_of_eq (Nat.zero_add _)) (Nat.le_of_eq (Nat.zero_add _)) (Or.inl ⟨i, h9, f, q, hof, rfl, rfl⟩)
  · obtain ⟨j, hj⟩ := hx E n9 h9 q
    match j, hj with
    | 0, hj =>
      cases hj
      exact XX.catch [] (0, 10, 13, 21) [] "java/lang/IndexOutOfBoundsException" rfl (fun z hz => by cases hz) rfl (by decide) lx_21 ca_IndexOutOfBoundsException (fun a9 => by
        refine mj_astore (ls' := [(4, _), (0, _), (1, _), (2, _), (3, _)]) dL_riderChoice_13 (Nat.le_of_ble_eq_true rfl) rfl ?_
        refine mj_iconst (v := 1) dL_riderChoice_15 rfl ?_
        exact mj_iret dL_riderChoice_16 rfl (Nat.le_of_eq (Nat.zero_add _)) (Nat.le_of_eq (Nat.zero_add _)) (Or.inr ⟨_, 0, q, rfl, rfl⟩))
    | j + 1, hj => cases hj
set_option maxRecDepth 100000 in
set_option maxHeartbeats 4000000 in
theorem cl_driverChoice {K : KX} {n : Nat} {h : MH} {c o mc ms : Nat} {fs : List Value} {p0 p1 : Int32} {Q' : RQ} (hc : h c = some (cO 10 fs)) (hcon : Con K mX10_driverChoice [.ref c, .int p0, .int p1] mc ms n h Q') (hx : EOk ["java/lang/IndexOutOfBoundsException"] Q') (hv : VOi Q') (ho : OOk o Q') : Con K mL_driverChoice [.ref c, .int p0, .int p1, .ref o] mc ms n h (LRi ["java/lang/IndexOutOfBoundsException"] o Q') := by
  refine Con.of (by decide +kernel) (Nat.le_of_ble_eq_true rfl) ?_
  refine mj_aload_n 3 dL_driverChoice_0 rfl ?_
  refine mj_iconst (v := 0) dL_driverChoice_1 rfl ?_
  refine mj_aload_n 0 dL_driverChoice_2 rfl ?_
  refine mj_iload_n 1 dL_driverChoice_3 rfl ?_
  refine mj_iload_n 2 dL_driverChoice_4 rfl ?_
  refine mj_callV (As := [.int p0, .int p1]) (rest := [.int 0, .ref o]) (r := (RX10, TX10, 9)) dL_driverChoice_5 cwX10_driverChoice hc rfl rfl rfl lkL_78 hcon rfl (Nat.le_of_ble_eq_true rfl) (Nat.le_of_ble_eq_true rfl) (Nat.le_of_ble_eq_true rfl) (Nat.le_of_eq (Nat.zero_add _)) (Nat.le_of_eq (Nat.zero_add _)) (fun v n9 h9 q => ?_) (fun E n9 h9 q => ?_)
  · obtain ⟨i, rfl⟩ := hv v n9 h9 q
    obtain ⟨f, hof⟩ := ho _ n9 h9 q
    show GG _ _ _ _ _ (.int i :: _) _ _
    refine mj_i2l dL_driverChoice_8 rfl ?_
    refine mj_last hof (show (0 : Int32).toInt = ((0 : Nat) : Int) from rfl) (by omega) dL_driverChoice_9 ?_
    refine mj_goto 17 dL_driverChoice_10 (by decide) ?_
    refine mj_iconst (v := 0) dL_driverChoice_17 rfl ?_
    exact mj_iret dL_driverChoice_18 rfl (Nat.le_of_eq (Nat.zero_add _)) (Nat.le_of_eq (Nat.zero_add _)) (Or.inl ⟨i, h9, f, q, hof, rfl, rfl⟩)
  · obtain ⟨j, hj⟩ := hx E n9 h9 q
    match j, hj with
    | 0, hj =>
      cases hj
      exact XX.catch [] (0, 10, 13, 21) [] "java/lang/IndexOutOfBoundsException" rfl (fun z hz => by cases hz) rfl (by decide) lx_21 ca_IndexOutOfBoundsException (fun a9 => by
        refine mj_astore (ls' := [(4, _), (0, _), (1, _), (2, _), (3, _)]) dL_driverChoice_13 (Nat.le_of_ble_eq_true rfl) rfl ?_
        refine mj_iconst (v := 1) dL_driverChoice_15 rfl ?_
        exact mj_iret dL_driverChoice_16 rfl (Nat.le_of_eq (Nat.zero_add _)) (Nat.le_of_eq (Nat.zero_add _)) (Or.inr ⟨_, 0, q, rfl, rfl⟩))
    | j + 1, hj => cases hj
set_option maxRecDepth 100000 in
set_option maxHeartbeats 4000000 in
theorem cl_noShow {K : KX} {n : Nat} {h : MH} {c o mc ms : Nat} {fs : List Value} {p0 : Int32} {Q' : RQ} (hc : h c = some (cO 10 fs)) (hcon : Con K mX10_noShow [.ref c, .int p0] mc ms n h Q') (hx : EOk ["java/lang/IndexOutOfBoundsException", "java/lang/IllegalStateException"] Q') (hv : VOi Q') (ho : OOk o Q') : Con K mL_noShow [.ref c, .int p0, .ref o] mc ms n h (LRi ["java/lang/IndexOutOfBoundsException", "java/lang/IllegalStateException"] o Q') := by
  refine Con.of (by decide +kernel) (Nat.le_of_ble_eq_true rfl) ?_
  refine mj_aload_n 2 dL_noShow_0 rfl ?_
  refine mj_iconst (v := 0) dL_noShow_1 rfl ?_
  refine mj_aload_n 0 dL_noShow_2 rfl ?_
  refine mj_iload_n 1 dL_noShow_3 rfl ?_
  refine mj_callV (As := [.int p0]) (rest := [.int 0, .ref o]) (r := (RX10, TX10, 9)) dL_noShow_4 cwX10_noShow hc rfl rfl rfl lkL_81 hcon rfl (Nat.le_of_ble_eq_true rfl) (Nat.le_of_ble_eq_true rfl) (Nat.le_of_ble_eq_true rfl) (Nat.le_of_eq (Nat.zero_add _)) (Nat.le_of_eq (Nat.zero_add _)) (fun v n9 h9 q => ?_) (fun E n9 h9 q => ?_)
  · obtain ⟨i, rfl⟩ := hv v n9 h9 q
    obtain ⟨f, hof⟩ := ho _ n9 h9 q
    show GG _ _ _ _ _ (.int i :: _) _ _
    refine mj_i2l dL_noShow_7 rfl ?_
    refine mj_last hof (show (0 : Int32).toInt = ((0 : Nat) : Int) from rfl) (by omega) dL_noShow_8 ?_
    refine mj_goto 18 dL_noShow_9 (by decide) ?_
    refine mj_iconst (v := 0) dL_noShow_18 rfl ?_
    exact mj_iret dL_noShow_19 rfl (Nat.le_of_eq (Nat.zero_add _)) (Nat.le_of_eq (Nat.zero_add _)) (Or.inl ⟨i, h9, f, q, hof, rfl, rfl⟩)
  · obtain ⟨j, hj⟩ := hx E n9 h9 q
    match j, hj with
    | 0, hj =>
      cases hj
      exact XX.catch [] (0, 9, 12, 21) [(0, 9, 15, 15)] "java/lang/IndexOutOfBoundsException" rfl (fun z hz => by cases hz) rfl (by decide) lx_21 ca_IndexOutOfBoundsException (fun a9 => by
        refine mj_astore_n (ls' := [(3, _), (0, _), (1, _), (2, _)]) dL_noShow_12 (Nat.le_of_ble_eq_true rfl) rfl ?_
        refine mj_iconst (v := 1) dL_noShow_13 rfl ?_
        exact mj_iret dL_noShow_14 rfl (Nat.le_of_eq (Nat.zero_add _)) (Nat.le_of_eq (Nat.zero_add _)) (Or.inr ⟨_, 0, q, rfl, rfl⟩))
    | 1, hj =>
      cases hj
      exact XX.catch [(0, 9, 12, 21)] (0, 9, 15, 15) [] "java/lang/IllegalStateException" rfl (by
          intro z hz
          simp only [List.mem_cons, List.not_mem_nil, or_false] at hz
          rcases hz with rfl
          · exact Or.inr ⟨by decide, _, lx_21, by decide +kernel⟩) rfl (by decide) lx_15 ca_IllegalStateException (fun a9 => by
        refine mj_astore_n (ls' := [(3, _), (0, _), (1, _), (2, _)]) dL_noShow_15 (Nat.le_of_ble_eq_true rfl) rfl ?_
        refine mj_iconst (v := 2) dL_noShow_16 rfl ?_
        exact mj_iret dL_noShow_17 rfl (Nat.le_of_eq (Nat.zero_add _)) (Nat.le_of_eq (Nat.zero_add _)) (Or.inr ⟨_, 1, q, rfl, rfl⟩))
    | j + 2, hj => cases hj
set_option maxRecDepth 100000 in
set_option maxHeartbeats 4000000 in
theorem cl_comeBack {K : KX} {n : Nat} {h : MH} {c o mc ms : Nat} {fs : List Value} {p0 : Int32} {Q' : RQ} (hc : h c = some (cO 10 fs)) (hcon : Con K mX10_comeBack [.ref c, .int p0] mc ms n h Q') (hx : EOk ["java/lang/IndexOutOfBoundsException", "java/lang/IllegalStateException"] Q') (hv : VOj Q') (ho : OOk o Q') : Con K mL_comeBack [.ref c, .int p0, .ref o] mc ms n h (LRj ["java/lang/IndexOutOfBoundsException", "java/lang/IllegalStateException"] o Q') := by
  refine Con.of (by decide +kernel) (Nat.le_of_ble_eq_true rfl) ?_
  refine mj_aload_n 2 dL_comeBack_0 rfl ?_
  refine mj_iconst (v := 0) dL_comeBack_1 rfl ?_
  refine mj_aload_n 0 dL_comeBack_2 rfl ?_
  refine mj_iload_n 1 dL_comeBack_3 rfl ?_
  refine mj_callV (As := [.int p0]) (rest := [.int 0, .ref o]) (r := (RX10, TX10, 9)) dL_comeBack_4 cwX10_comeBack hc rfl rfl rfl lkL_84 hcon rfl (Nat.le_of_ble_eq_true rfl) (Nat.le_of_ble_eq_true rfl) (Nat.le_of_ble_eq_true rfl) (Nat.le_of_eq (Nat.zero_add _)) (Nat.le_of_eq (Nat.zero_add _)) (fun v n9 h9 q => ?_) (fun E n9 h9 q => ?_)
  · obtain ⟨i, rfl⟩ := hv v n9 h9 q
    obtain ⟨f, hof⟩ := ho _ n9 h9 q
    show GG _ _ _ _ _ (.long i :: _) _ _
    refine mj_last hof (show (0 : Int32).toInt = ((0 : Nat) : Int) from rfl) (by omega) dL_comeBack_7 ?_
    refine mj_goto 17 dL_comeBack_8 (by decide) ?_
    refine mj_iconst (v := 0) dL_comeBack_17 rfl ?_
    exact mj_iret dL_comeBack_18 rfl (Nat.le_of_eq (Nat.zero_add _)) (Nat.le_of_eq (Nat.zero_add _)) (Or.inl ⟨i, h9, f, q, hof, rfl, rfl⟩)
  · obtain ⟨j, hj⟩ := hx E n9 h9 q
    match j, hj with
    | 0, hj =>
      cases hj
      exact XX.catch [] (0, 8, 11, 21) [(0, 8, 14, 15)] "java/lang/IndexOutOfBoundsException" rfl (fun z hz => by cases hz) rfl (by decide) lx_21 ca_IndexOutOfBoundsException (fun a9 => by
        refine mj_astore_n (ls' := [(3, _), (0, _), (1, _), (2, _)]) dL_comeBack_11 (Nat.le_of_ble_eq_true rfl) rfl ?_
        refine mj_iconst (v := 1) dL_comeBack_12 rfl ?_
        exact mj_iret dL_comeBack_13 rfl (Nat.le_of_eq (Nat.zero_add _)) (Nat.le_of_eq (Nat.zero_add _)) (Or.inr ⟨_, 0, q, rfl, rfl⟩))
    | 1, hj =>
      cases hj
      exact XX.catch [(0, 8, 11, 21)] (0, 8, 14, 15) [] "java/lang/IllegalStateException" rfl (by
          intro z hz
          simp only [List.mem_cons, List.not_mem_nil, or_false] at hz
          rcases hz with rfl
          · exact Or.inr ⟨by decide, _, lx_21, by decide +kernel⟩) rfl (by decide) lx_15 ca_IllegalStateException (fun a9 => by
        refine mj_astore_n (ls' := [(3, _), (0, _), (1, _), (2, _)]) dL_comeBack_14 (Nat.le_of_ble_eq_true rfl) rfl ?_
        refine mj_iconst (v := 2) dL_comeBack_15 rfl ?_
        exact mj_iret dL_comeBack_16 rfl (Nat.le_of_eq (Nat.zero_add _)) (Nat.le_of_eq (Nat.zero_add _)) (Or.inr ⟨_, 1, q, rfl, rfl⟩))
    | j + 2, hj => cases hj
set_option maxRecDepth 100000 in
set_option maxHeartbeats 4000000 in
theorem cl_replacement {K : KX} {n : Nat} {h : MH} {c o mc ms : Nat} {fs : List Value} {p0 : Int32} {Q' : RQ} (hc : h c = some (cO 10 fs)) (hcon : Con K mX10_replacement [.ref c, .int p0] mc ms n h Q') (hx : EOk ["java/lang/IndexOutOfBoundsException"] Q') (hv : VOi Q') (ho : OOk o Q') : Con K mL_replacement [.ref c, .int p0, .ref o] mc ms n h (LRi ["java/lang/IndexOutOfBoundsException"] o Q') := by
  refine Con.of (by decide +kernel) (Nat.le_of_ble_eq_true rfl) ?_
  refine mj_aload_n 2 dL_replacement_0 rfl ?_
  refine mj_iconst (v := 0) dL_replacement_1 rfl ?_
  refine mj_aload_n 0 dL_replacement_2 rfl ?_
  refine mj_iload_n 1 dL_replacement_3 rfl ?_
  refine mj_callV (As := [.int p0]) (rest := [.int 0, .ref o]) (r := (RX10, TX10, 9)) dL_replacement_4 cwX10_replacement hc rfl rfl rfl lkL_88 hcon rfl (Nat.le_of_ble_eq_true rfl) (Nat.le_of_ble_eq_true rfl) (Nat.le_of_ble_eq_true rfl) (Nat.le_of_eq (Nat.zero_add _)) (Nat.le_of_eq (Nat.zero_add _)) (fun v n9 h9 q => ?_) (fun E n9 h9 q => ?_)
  · obtain ⟨i, rfl⟩ := hv v n9 h9 q
    obtain ⟨f, hof⟩ := ho _ n9 h9 q
    show GG _ _ _ _ _ (.int i :: _) _ _
    refine mj_i2l dL_replacement_7 rfl ?_
    refine mj_last hof (show (0 : Int32).toInt = ((0 : Nat) : Int) from rfl) (by omega) dL_replacement_8 ?_
    refine mj_goto 15 dL_replacement_9 (by decide) ?_
    refine mj_iconst (v := 0) dL_replacement_15 rfl ?_
    exact mj_iret dL_replacement_16 rfl (Nat.le_of_eq (Nat.zero_add _)) (Nat.le_of_eq (Nat.zero_add _)) (Or.inl ⟨i, h9, f, q, hof, rfl, rfl⟩)
  · obtain ⟨j, hj⟩ := hx E n9 h9 q
    match j, hj with
    | 0, hj =>
      cases hj
      exact XX.catch [] (0, 9, 12, 21) [] "java/lang/IndexOutOfBoundsException" rfl (fun z hz => by cases hz) rfl (by decide) lx_21 ca_IndexOutOfBoundsException (fun a9 => by
        refine mj_astore_n (ls' := [(3, _), (0, _), (1, _), (2, _)]) dL_replacement_12 (Nat.le_of_ble_eq_true rfl) rfl ?_
        refine mj_iconst (v := 1) dL_replacement_13 rfl ?_
        exact mj_iret dL_replacement_14 rfl (Nat.le_of_eq (Nat.zero_add _)) (Nat.le_of_eq (Nat.zero_add _)) (Or.inr ⟨_, 0, q, rfl, rfl⟩))
    | j + 1, hj => cases hj
set_option maxRecDepth 100000 in
set_option maxHeartbeats 4000000 in
theorem cl_fill {K : KX} {n : Nat} {h : MH} {c o mc ms : Nat} {fs : List Value} {p0 : Int32} {Q' : RQ} (hc : h c = some (cO 10 fs)) (hcon : Con K mX10_fill [.ref c, .int p0] mc ms n h Q') (hx : EOk ["java/lang/IndexOutOfBoundsException"] Q') (hv : VOi Q') (ho : OOk o Q') : Con K mL_fill [.ref c, .int p0, .ref o] mc ms n h (LRi ["java/lang/IndexOutOfBoundsException"] o Q') := by
  refine Con.of (by decide +kernel) (Nat.le_of_ble_eq_true rfl) ?_
  refine mj_aload_n 2 dL_fill_0 rfl ?_
  refine mj_iconst (v := 0) dL_fill_1 rfl ?_
  refine mj_aload_n 0 dL_fill_2 rfl ?_
  refine mj_iload_n 1 dL_fill_3 rfl ?_
  refine mj_callV (As := [.int p0]) (rest := [.int 0, .ref o]) (r := (RX10, TX10, 9)) dL_fill_4 cwX10_fill hc rfl rfl rfl lkL_91 hcon rfl (Nat.le_of_ble_eq_true rfl) (Nat.le_of_ble_eq_true rfl) (Nat.le_of_ble_eq_true rfl) (Nat.le_of_eq (Nat.zero_add _)) (Nat.le_of_eq (Nat.zero_add _)) (fun v n9 h9 q => ?_) (fun E n9 h9 q => ?_)
  · obtain ⟨i, rfl⟩ := hv v n9 h9 q
    obtain ⟨f, hof⟩ := ho _ n9 h9 q
    show GG _ _ _ _ _ (.int i :: _) _ _
    refine mj_i2l dL_fill_7 rfl ?_
    refine mj_last hof (show (0 : Int32).toInt = ((0 : Nat) : Int) from rfl) (by omega) dL_fill_8 ?_
    refine mj_goto 15 dL_fill_9 (by decide) ?_
    refine mj_iconst (v := 0) dL_fill_15 rfl ?_
    exact mj_iret dL_fill_16 rfl (Nat.le_of_eq (Nat.zero_add _)) (Nat.le_of_eq (Nat.zero_add _)) (Or.inl ⟨i, h9, f, q, hof, rfl, rfl⟩)
  · obtain ⟨j, hj⟩ := hx E n9 h9 q
    match j, hj with
    | 0, hj =>
      cases hj
      exact XX.catch [] (0, 9, 12, 21) [] "java/lang/IndexOutOfBoundsException" rfl (fun z hz => by cases hz) rfl (by decide) lx_21 ca_IndexOutOfBoundsException (fun a9 => by
        refine mj_astore_n (ls' := [(3, _), (0, _), (1, _), (2, _)]) dL_fill_12 (Nat.le_of_ble_eq_true rfl) rfl ?_
        refine mj_iconst (v := 1) dL_fill_13 rfl ?_
        exact mj_iret dL_fill_14 rfl (Nat.le_of_eq (Nat.zero_add _)) (Nat.le_of_eq (Nat.zero_add _)) (Or.inr ⟨_, 0, q, rfl, rfl⟩))
    | j + 1, hj => cases hj
set_option maxRecDepth 100000 in
set_option maxHeartbeats 4000000 in
theorem cl_tripCost {K : KX} {n : Nat} {h : MH} {c o mc ms : Nat} {fs : List Value} {p0 : Int32} {Q' : RQ} (hc : h c = some (cO 10 fs)) (hcon : Con K mX10_tripCost [.ref c, .int p0] mc ms n h Q') (hx : EOk ["java/lang/IndexOutOfBoundsException"] Q') (hv : VOi Q') (ho : OOk o Q') : Con K mL_tripCost [.ref c, .int p0, .ref o] mc ms n h (LRi ["java/lang/IndexOutOfBoundsException"] o Q') := by
  refine Con.of (by decide +kernel) (Nat.le_of_ble_eq_true rfl) ?_
  refine mj_aload_n 2 dL_tripCost_0 rfl ?_
  refine mj_iconst (v := 0) dL_tripCost_1 rfl ?_
  refine mj_aload_n 0 dL_tripCost_2 rfl ?_
  refine mj_iload_n 1 dL_tripCost_3 rfl ?_
  refine mj_callV (As := [.int p0]) (rest := [.int 0, .ref o]) (r := (RX10, TX10, 9)) dL_tripCost_4 cwX10_tripCost hc rfl rfl rfl lkL_94 hcon rfl (Nat.le_of_ble_eq_true rfl) (Nat.le_of_ble_eq_true rfl) (Nat.le_of_ble_eq_true rfl) (Nat.le_of_eq (Nat.zero_add _)) (Nat.le_of_eq (Nat.zero_add _)) (fun v n9 h9 q => ?_) (fun E n9 h9 q => ?_)
  · obtain ⟨i, rfl⟩ := hv v n9 h9 q
    obtain ⟨f, hof⟩ := ho _ n9 h9 q
    show GG _ _ _ _ _ (.int i :: _) _ _
    refine mj_i2l dL_tripCost_7 rfl ?_
    refine mj_last hof (show (0 : Int32).toInt = ((0 : Nat) : Int) from rfl) (by omega) dL_tripCost_8 ?_
    refine mj_goto 15 dL_tripCost_9 (by decide) ?_
    refine mj_iconst (v := 0) dL_tripCost_15 rfl ?_
    exact mj_iret dL_tripCost_16 rfl (Nat.le_of_eq (Nat.zero_add _)) (Nat.le_of_eq (Nat.zero_add _)) (Or.inl ⟨i, h9, f, q, hof, rfl, rfl⟩)
  · obtain ⟨j, hj⟩ := hx E n9 h9 q
    match j, hj with
    | 0, hj =>
      cases hj
      exact XX.catch [] (0, 9, 12, 21) [] "java/lang/IndexOutOfBoundsException" rfl (fun z hz => by cases hz) rfl (by decide) lx_21 ca_IndexOutOfBoundsException (fun a9 => by
        refine mj_astore_n (ls' := [(3, _), (0, _), (1, _), (2, _)]) dL_tripCost_12 (Nat.le_of_ble_eq_true rfl) rfl ?_
        refine mj_iconst (v := 1) dL_tripCost_13 rfl ?_
        exact mj_iret dL_tripCost_14 rfl (Nat.le_of_eq (Nat.zero_add _)) (Nat.le_of_eq (Nat.zero_add _)) (Or.inr ⟨_, 0, q, rfl, rfl⟩))
    | j + 1, hj => cases hj
set_option maxRecDepth 100000 in
set_option maxHeartbeats 4000000 in
theorem cl_marginal {K : KX} {n : Nat} {h : MH} {c o mc ms : Nat} {fs : List Value} {p0 : Int32} {Q' : RQ} (hc : h c = some (cO 10 fs)) (hcon : Con K mX10_marginal [.ref c, .int p0] mc ms n h Q') (hx : EOk ["java/lang/IndexOutOfBoundsException"] Q') (hv : VOi Q') (ho : OOk o Q') : Con K mL_marginal [.ref c, .int p0, .ref o] mc ms n h (LRi ["java/lang/IndexOutOfBoundsException"] o Q') := by
  refine Con.of (by decide +kernel) (Nat.le_of_ble_eq_true rfl) ?_
  refine mj_aload_n 2 dL_marginal_0 rfl ?_
  refine mj_iconst (v := 0) dL_marginal_1 rfl ?_
  refine mj_aload_n 0 dL_marginal_2 rfl ?_
  refine mj_iload_n 1 dL_marginal_3 rfl ?_
  refine mj_callV (As := [.int p0]) (rest := [.int 0, .ref o]) (r := (RX10, TX10, 9)) dL_marginal_4 cwX10_marginal hc rfl rfl rfl lkL_97 hcon rfl (Nat.le_of_ble_eq_true rfl) (Nat.le_of_ble_eq_true rfl) (Nat.le_of_ble_eq_true rfl) (Nat.le_of_eq (Nat.zero_add _)) (Nat.le_of_eq (Nat.zero_add _)) (fun v n9 h9 q => ?_) (fun E n9 h9 q => ?_)
  · obtain ⟨i, rfl⟩ := hv v n9 h9 q
    obtain ⟨f, hof⟩ := ho _ n9 h9 q
    show GG _ _ _ _ _ (.int i :: _) _ _
    refine mj_i2l dL_marginal_7 rfl ?_
    refine mj_last hof (show (0 : Int32).toInt = ((0 : Nat) : Int) from rfl) (by omega) dL_marginal_8 ?_
    refine mj_goto 15 dL_marginal_9 (by decide) ?_
    refine mj_iconst (v := 0) dL_marginal_15 rfl ?_
    exact mj_iret dL_marginal_16 rfl (Nat.le_of_eq (Nat.zero_add _)) (Nat.le_of_eq (Nat.zero_add _)) (Or.inl ⟨i, h9, f, q, hof, rfl, rfl⟩)
  · obtain ⟨j, hj⟩ := hx E n9 h9 q
    match j, hj with
    | 0, hj =>
      cases hj
      exact XX.catch [] (0, 9, 12, 21) [] "java/lang/IndexOutOfBoundsException" rfl (fun z hz => by cases hz) rfl (by decide) lx_21 ca_IndexOutOfBoundsException (fun a9 => by
        refine mj_astore_n (ls' := [(3, _), (0, _), (1, _), (2, _)]) dL_marginal_12 (Nat.le_of_ble_eq_true rfl) rfl ?_
        refine mj_iconst (v := 1) dL_marginal_13 rfl ?_
        exact mj_iret dL_marginal_14 rfl (Nat.le_of_eq (Nat.zero_add _)) (Nat.le_of_eq (Nat.zero_add _)) (Or.inr ⟨_, 0, q, rfl, rfl⟩))
    | j + 1, hj => cases hj
set_option maxRecDepth 100000 in
set_option maxHeartbeats 4000000 in
theorem cl_share {K : KX} {n : Nat} {h : MH} {c o mc ms : Nat} {fs : List Value} {p0 : Int32} {Q' : RQ} (hc : h c = some (cO 10 fs)) (hcon : Con K mX10_share [.ref c, .int p0] mc ms n h Q') (hx : EOk ["java/lang/IndexOutOfBoundsException"] Q') (hv : VOi Q') (ho : OOk o Q') : Con K mL_share [.ref c, .int p0, .ref o] mc ms n h (LRi ["java/lang/IndexOutOfBoundsException"] o Q') := by
  refine Con.of (by decide +kernel) (Nat.le_of_ble_eq_true rfl) ?_
  refine mj_aload_n 2 dL_share_0 rfl ?_
  refine mj_iconst (v := 0) dL_share_1 rfl ?_
  refine mj_aload_n 0 dL_share_2 rfl ?_
  refine mj_iload_n 1 dL_share_3 rfl ?_
  refine mj_callV (As := [.int p0]) (rest := [.int 0, .ref o]) (r := (RX10, TX10, 9)) dL_share_4 cwX10_share hc rfl rfl rfl lkL_100 hcon rfl (Nat.le_of_ble_eq_true rfl) (Nat.le_of_ble_eq_true rfl) (Nat.le_of_ble_eq_true rfl) (Nat.le_of_eq (Nat.zero_add _)) (Nat.le_of_eq (Nat.zero_add _)) (fun v n9 h9 q => ?_) (fun E n9 h9 q => ?_)
  · obtain ⟨i, rfl⟩ := hv v n9 h9 q
    obtain ⟨f, hof⟩ := ho _ n9 h9 q
    show GG _ _ _ _ _ (.int i :: _) _ _
    refine mj_i2l dL_share_7 rfl ?_
    refine mj_last hof (show (0 : Int32).toInt = ((0 : Nat) : Int) from rfl) (by omega) dL_share_8 ?_
    refine mj_goto 15 dL_share_9 (by decide) ?_
    refine mj_iconst (v := 0) dL_share_15 rfl ?_
    exact mj_iret dL_share_16 rfl (Nat.le_of_eq (Nat.zero_add _)) (Nat.le_of_eq (Nat.zero_add _)) (Or.inl ⟨i, h9, f, q, hof, rfl, rfl⟩)
  · obtain ⟨j, hj⟩ := hx E n9 h9 q
    match j, hj with
    | 0, hj =>
      cases hj
      exact XX.catch [] (0, 9, 12, 21) [] "java/lang/IndexOutOfBoundsException" rfl (fun z hz => by cases hz) rfl (by decide) lx_21 ca_IndexOutOfBoundsException (fun a9 => by
        refine mj_astore_n (ls' := [(3, _), (0, _), (1, _), (2, _)]) dL_share_12 (Nat.le_of_ble_eq_true rfl) rfl ?_
        refine mj_iconst (v := 1) dL_share_13 rfl ?_
        exact mj_iret dL_share_14 rfl (Nat.le_of_eq (Nat.zero_add _)) (Nat.le_of_eq (Nat.zero_add _)) (Or.inr ⟨_, 0, q, rfl, rfl⟩))
    | j + 1, hj => cases hj
set_option maxRecDepth 100000 in
set_option maxHeartbeats 4000000 in
theorem cl_driverShare {K : KX} {n : Nat} {h : MH} {c o mc ms : Nat} {fs : List Value} {p0 : Int32} {Q' : RQ} (hc : h c = some (cO 10 fs)) (hcon : Con K mX10_driverShare [.ref c, .int p0] mc ms n h Q') (hx : EOk ["java/lang/IndexOutOfBoundsException"] Q') (hv : VOi Q') (ho : OOk o Q') : Con K mL_driverShare [.ref c, .int p0, .ref o] mc ms n h (LRi ["java/lang/IndexOutOfBoundsException"] o Q') := by
  refine Con.of (by decide +kernel) (Nat.le_of_ble_eq_true rfl) ?_
  refine mj_aload_n 2 dL_driverShare_0 rfl ?_
  refine mj_iconst (v := 0) dL_driverShare_1 rfl ?_
  refine mj_aload_n 0 dL_driverShare_2 rfl ?_
  refine mj_iload_n 1 dL_driverShare_3 rfl ?_
  refine mj_callV (As := [.int p0]) (rest := [.int 0, .ref o]) (r := (RX10, TX10, 9)) dL_driverShare_4 cwX10_driverShare hc rfl rfl rfl lkL_103 hcon rfl (Nat.le_of_ble_eq_true rfl) (Nat.le_of_ble_eq_true rfl) (Nat.le_of_ble_eq_true rfl) (Nat.le_of_eq (Nat.zero_add _)) (Nat.le_of_eq (Nat.zero_add _)) (fun v n9 h9 q => ?_) (fun E n9 h9 q => ?_)
  · obtain ⟨i, rfl⟩ := hv v n9 h9 q
    obtain ⟨f, hof⟩ := ho _ n9 h9 q
    show GG _ _ _ _ _ (.int i :: _) _ _
    refine mj_i2l dL_driverShare_7 rfl ?_
    refine mj_last hof (show (0 : Int32).toInt = ((0 : Nat) : Int) from rfl) (by omega) dL_driverShare_8 ?_
    refine mj_goto 15 dL_driverShare_9 (by decide) ?_
    refine mj_iconst (v := 0) dL_driverShare_15 rfl ?_
    exact mj_iret dL_driverShare_16 rfl (Nat.le_of_eq (Nat.zero_add _)) (Nat.le_of_eq (Nat.zero_add _)) (Or.inl ⟨i, h9, f, q, hof, rfl, rfl⟩)
  · obtain ⟨j, hj⟩ := hx E n9 h9 q
    match j, hj with
    | 0, hj =>
      cases hj
      exact XX.catch [] (0, 9, 12, 21) [] "java/lang/IndexOutOfBoundsException" rfl (fun z hz => by cases hz) rfl (by decide) lx_21 ca_IndexOutOfBoundsException (fun a9 => by
        refine mj_astore_n (ls' := [(3, _), (0, _), (1, _), (2, _)]) dL_driverShare_12 (Nat.le_of_ble_eq_true rfl) rfl ?_
        refine mj_iconst (v := 1) dL_driverShare_13 rfl ?_
        exact mj_iret dL_driverShare_14 rfl (Nat.le_of_eq (Nat.zero_add _)) (Nat.le_of_eq (Nat.zero_add _)) (Or.inr ⟨_, 0, q, rfl, rfl⟩))
    | j + 1, hj => cases hj
set_option maxRecDepth 100000 in
set_option maxHeartbeats 4000000 in
theorem cl_complete {K : KX} {n : Nat} {h : MH} {c o mc ms : Nat} {fs : List Value} {p0 : Int32} {Q' : RQ} (hc : h c = some (cO 10 fs)) (hcon : Con K mX10_complete [.ref c, .int p0] mc ms n h Q') (hx : EOk ["java/lang/IndexOutOfBoundsException", "java/lang/IllegalStateException"] Q') (hv : VOi Q') (ho : OOk o Q') : Con K mL_complete [.ref c, .int p0, .ref o] mc ms n h (LRi ["java/lang/IndexOutOfBoundsException", "java/lang/IllegalStateException"] o Q') := by
  refine Con.of (by decide +kernel) (Nat.le_of_ble_eq_true rfl) ?_
  refine mj_aload_n 2 dL_complete_0 rfl ?_
  refine mj_iconst (v := 0) dL_complete_1 rfl ?_
  refine mj_aload_n 0 dL_complete_2 rfl ?_
  refine mj_iload_n 1 dL_complete_3 rfl ?_
  refine mj_callV (As := [.int p0]) (rest := [.int 0, .ref o]) (r := (RX10, TX10, 9)) dL_complete_4 cwX10_complete hc rfl rfl rfl lkL_106 hcon rfl (Nat.le_of_ble_eq_true rfl) (Nat.le_of_ble_eq_true rfl) (Nat.le_of_ble_eq_true rfl) (Nat.le_of_eq (Nat.zero_add _)) (Nat.le_of_eq (Nat.zero_add _)) (fun v n9 h9 q => ?_) (fun E n9 h9 q => ?_)
  · obtain ⟨i, rfl⟩ := hv v n9 h9 q
    obtain ⟨f, hof⟩ := ho _ n9 h9 q
    show GG _ _ _ _ _ (.int i :: _) _ _
    refine mj_i2l dL_complete_7 rfl ?_
    refine mj_last hof (show (0 : Int32).toInt = ((0 : Nat) : Int) from rfl) (by omega) dL_complete_8 ?_
    refine mj_goto 18 dL_complete_9 (by decide) ?_
    refine mj_iconst (v := 0) dL_complete_18 rfl ?_
    exact mj_iret dL_complete_19 rfl (Nat.le_of_eq (Nat.zero_add _)) (Nat.le_of_eq (Nat.zero_add _)) (Or.inl ⟨i, h9, f, q, hof, rfl, rfl⟩)
  · obtain ⟨j, hj⟩ := hx E n9 h9 q
    match j, hj with
    | 0, hj =>
      cases hj
      exact XX.catch [] (0, 9, 12, 21) [(0, 9, 15, 15)] "java/lang/IndexOutOfBoundsException" rfl (fun z hz => by cases hz) rfl (by decide) lx_21 ca_IndexOutOfBoundsException (fun a9 => by
        refine mj_astore_n (ls' := [(3, _), (0, _), (1, _), (2, _)]) dL_complete_12 (Nat.le_of_ble_eq_true rfl) rfl ?_
        refine mj_iconst (v := 1) dL_complete_13 rfl ?_
        exact mj_iret dL_complete_14 rfl (Nat.le_of_eq (Nat.zero_add _)) (Nat.le_of_eq (Nat.zero_add _)) (Or.inr ⟨_, 0, q, rfl, rfl⟩))
    | 1, hj =>
      cases hj
      exact XX.catch [(0, 9, 12, 21)] (0, 9, 15, 15) [] "java/lang/IllegalStateException" rfl (by
          intro z hz
          simp only [List.mem_cons, List.not_mem_nil, or_false] at hz
          rcases hz with rfl
          · exact Or.inr ⟨by decide, _, lx_21, by decide +kernel⟩) rfl (by decide) lx_15 ca_IllegalStateException (fun a9 => by
        refine mj_astore_n (ls' := [(3, _), (0, _), (1, _), (2, _)]) dL_complete_15 (Nat.le_of_ble_eq_true rfl) rfl ?_
        refine mj_iconst (v := 2) dL_complete_16 rfl ?_
        exact mj_iret dL_complete_17 rfl (Nat.le_of_eq (Nat.zero_add _)) (Nat.le_of_eq (Nat.zero_add _)) (Or.inr ⟨_, 1, q, rfl, rfl⟩))
    | j + 2, hj => cases hj
set_option maxRecDepth 100000 in
set_option maxHeartbeats 4000000 in
theorem cl_riderCredit {K : KX} {n : Nat} {h : MH} {c o mc ms : Nat} {fs : List Value} {p0 : Int32} {Q' : RQ} (hc : h c = some (cO 10 fs)) (hcon : Con K mX10_riderCredit [.ref c, .int p0] mc ms n h Q') (hx : EOk ["java/lang/IndexOutOfBoundsException"] Q') (hv : VOj Q') (ho : OOk o Q') : Con K mL_riderCredit [.ref c, .int p0, .ref o] mc ms n h (LRj ["java/lang/IndexOutOfBoundsException"] o Q') := by
  refine Con.of (by decide +kernel) (Nat.le_of_ble_eq_true rfl) ?_
  refine mj_aload_n 2 dL_riderCredit_0 rfl ?_
  refine mj_iconst (v := 0) dL_riderCredit_1 rfl ?_
  refine mj_aload_n 0 dL_riderCredit_2 rfl ?_
  refine mj_iload_n 1 dL_riderCredit_3 rfl ?_
  refine mj_callV (As := [.int p0]) (rest := [.int 0, .ref o]) (r := (RX10, TX10, 9)) dL_riderCredit_4 cwX10_riderCredit hc rfl rfl rfl lkL_109 hcon rfl (Nat.le_of_ble_eq_true rfl) (Nat.le_of_ble_eq_true rfl) (Nat.le_of_ble_eq_true rfl) (Nat.le_of_eq (Nat.zero_add _)) (Nat.le_of_eq (Nat.zero_add _)) (fun v n9 h9 q => ?_) (fun E n9 h9 q => ?_)
  · obtain ⟨i, rfl⟩ := hv v n9 h9 q
    obtain ⟨f, hof⟩ := ho _ n9 h9 q
    show GG _ _ _ _ _ (.long i :: _) _ _
    refine mj_last hof (show (0 : Int32).toInt = ((0 : Nat) : Int) from rfl) (by omega) dL_riderCredit_7 ?_
    refine mj_goto 14 dL_riderCredit_8 (by decide) ?_
    refine mj_iconst (v := 0) dL_riderCredit_14 rfl ?_
    exact mj_iret dL_riderCredit_15 rfl (Nat.le_of_eq (Nat.zero_add _)) (Nat.le_of_eq (Nat.zero_add _)) (Or.inl ⟨i, h9, f, q, hof, rfl, rfl⟩)
  · obtain ⟨j, hj⟩ := hx E n9 h9 q
    match j, hj with
    | 0, hj =>
      cases hj
      exact XX.catch [] (0, 8, 11, 21) [] "java/lang/IndexOutOfBoundsException" rfl (fun z hz => by cases hz) rfl (by decide) lx_21 ca_IndexOutOfBoundsException (fun a9 => by
        refine mj_astore_n (ls' := [(3, _), (0, _), (1, _), (2, _)]) dL_riderCredit_11 (Nat.le_of_ble_eq_true rfl) rfl ?_
        refine mj_iconst (v := 1) dL_riderCredit_12 rfl ?_
        exact mj_iret dL_riderCredit_13 rfl (Nat.le_of_eq (Nat.zero_add _)) (Nat.le_of_eq (Nat.zero_add _)) (Or.inr ⟨_, 0, q, rfl, rfl⟩))
    | j + 1, hj => cases hj
set_option maxRecDepth 100000 in
set_option maxHeartbeats 4000000 in
theorem cl_driverCredit {K : KX} {n : Nat} {h : MH} {c o mc ms : Nat} {fs : List Value} {p0 : Int32} {Q' : RQ} (hc : h c = some (cO 10 fs)) (hcon : Con K mX10_driverCredit [.ref c, .int p0] mc ms n h Q') (hx : EOk ["java/lang/IndexOutOfBoundsException"] Q') (hv : VOj Q') (ho : OOk o Q') : Con K mL_driverCredit [.ref c, .int p0, .ref o] mc ms n h (LRj ["java/lang/IndexOutOfBoundsException"] o Q') := by
  refine Con.of (by decide +kernel) (Nat.le_of_ble_eq_true rfl) ?_
  refine mj_aload_n 2 dL_driverCredit_0 rfl ?_
  refine mj_iconst (v := 0) dL_driverCredit_1 rfl ?_
  refine mj_aload_n 0 dL_driverCredit_2 rfl ?_
  refine mj_iload_n 1 dL_driverCredit_3 rfl ?_
  refine mj_callV (As := [.int p0]) (rest := [.int 0, .ref o]) (r := (RX10, TX10, 9)) dL_driverCredit_4 cwX10_driverCredit hc rfl rfl rfl lkL_112 hcon rfl (Nat.le_of_ble_eq_true rfl) (Nat.le_of_ble_eq_true rfl) (Nat.le_of_ble_eq_true rfl) (Nat.le_of_eq (Nat.zero_add _)) (Nat.le_of_eq (Nat.zero_add _)) (fun v n9 h9 q => ?_) (fun E n9 h9 q => ?_)
  · obtain ⟨i, rfl⟩ := hv v n9 h9 q
    obtain ⟨f, hof⟩ := ho _ n9 h9 q
    show GG _ _ _ _ _ (.long i :: _) _ _
    refine mj_last hof (show (0 : Int32).toInt = ((0 : Nat) : Int) from rfl) (by omega) dL_driverCredit_7 ?_
    refine mj_goto 14 dL_driverCredit_8 (by decide) ?_
    refine mj_iconst (v := 0) dL_driverCredit_14 rfl ?_
    exact mj_iret dL_driverCredit_15 rfl (Nat.le_of_eq (Nat.zero_add _)) (Nat.le_of_eq (Nat.zero_add _)) (Or.inl ⟨i, h9, f, q, hof, rfl, rfl⟩)
  · obtain ⟨j, hj⟩ := hx E n9 h9 q
    match j, hj with
    | 0, hj =>
      cases hj
      exact XX.catch [] (0, 8, 11, 21) [] "java/lang/IndexOutOfBoundsException" rfl (fun z hz => by cases hz) rfl (by decide) lx_21 ca_IndexOutOfBoundsException (fun a9 => by
        refine mj_astore_n (ls' := [(3, _), (0, _), (1, _), (2, _)]) dL_driverCredit_11 (Nat.le_of_ble_eq_true rfl) rfl ?_
        refine mj_iconst (v := 1) dL_driverCredit_12 rfl ?_
        exact mj_iret dL_driverCredit_13 rfl (Nat.le_of_eq (Nat.zero_add _)) (Nat.le_of_eq (Nat.zero_add _)) (Or.inr ⟨_, 0, q, rfl, rfl⟩))
    | j + 1, hj => cases hj
set_option maxRecDepth 100000 in
set_option maxHeartbeats 4000000 in
theorem cl_pay {K : KX} {n : Nat} {h : MH} {c o mc ms : Nat} {fs : List Value} {p0 p1 : Int32} {Q' : RQ} (hc : h c = some (cO 10 fs)) (hcon : Con K mX10_pay [.ref c, .int p0, .int p1] mc ms n h Q') (hx : EOk ["java/lang/IndexOutOfBoundsException", "java/lang/IllegalArgumentException"] Q') (hv : VOj Q') (ho : OOk o Q') : Con K mL_pay [.ref c, .int p0, .int p1, .ref o] mc ms n h (LRj ["java/lang/IndexOutOfBoundsException", "java/lang/IllegalArgumentException"] o Q') := by
  refine Con.of (by decide +kernel) (Nat.le_of_ble_eq_true rfl) ?_
  refine mj_aload_n 3 dL_pay_0 rfl ?_
  refine mj_iconst (v := 0) dL_pay_1 rfl ?_
  refine mj_aload_n 0 dL_pay_2 rfl ?_
  refine mj_iload_n 1 dL_pay_3 rfl ?_
  refine mj_iload_n 2 dL_pay_4 rfl ?_
  refine mj_callV (As := [.int p0, .int p1]) (rest := [.int 0, .ref o]) (r := (RX10, TX10, 9)) dL_pay_5 cwX10_pay hc rfl rfl rfl lkL_115 hcon rfl (Nat.le_of_ble_eq_true rfl) (Nat.le_of_ble_eq_true rfl) (Nat.le_of_ble_eq_true rfl) (Nat.le_of_eq (Nat.zero_add _)) (Nat.le_of_eq (Nat.zero_add _)) (fun v n9 h9 q => ?_) (fun E n9 h9 q => ?_)
  · obtain ⟨i, rfl⟩ := hv v n9 h9 q
    obtain ⟨f, hof⟩ := ho _ n9 h9 q
    show GG _ _ _ _ _ (.long i :: _) _ _
    refine mj_last hof (show (0 : Int32).toInt = ((0 : Nat) : Int) from rfl) (by omega) dL_pay_8 ?_
    refine mj_goto 20 dL_pay_9 (by decide) ?_
    refine mj_iconst (v := 0) dL_pay_20 rfl ?_
    exact mj_iret dL_pay_21 rfl (Nat.le_of_eq (Nat.zero_add _)) (Nat.le_of_eq (Nat.zero_add _)) (Or.inl ⟨i, h9, f, q, hof, rfl, rfl⟩)
  · obtain ⟨j, hj⟩ := hx E n9 h9 q
    match j, hj with
    | 0, hj =>
      cases hj
      exact XX.catch [] (0, 9, 12, 21) [(0, 9, 16, 13)] "java/lang/IndexOutOfBoundsException" rfl (fun z hz => by cases hz) rfl (by decide) lx_21 ca_IndexOutOfBoundsException (fun a9 => by
        refine mj_astore (ls' := [(4, _), (0, _), (1, _), (2, _), (3, _)]) dL_pay_12 (Nat.le_of_ble_eq_true rfl) rfl ?_
        refine mj_iconst (v := 1) dL_pay_14 rfl ?_
        exact mj_iret dL_pay_15 rfl (Nat.le_of_eq (Nat.zero_add _)) (Nat.le_of_eq (Nat.zero_add _)) (Or.inr ⟨_, 0, q, rfl, rfl⟩))
    | 1, hj =>
      cases hj
      exact XX.catch [(0, 9, 12, 21)] (0, 9, 16, 13) [] "java/lang/IllegalArgumentException" rfl (by
          intro z hz
          simp only [List.mem_cons, List.not_mem_nil, or_false] at hz
          rcases hz with rfl
          · exact Or.inr ⟨by decide, _, lx_21, by decide +kernel⟩) rfl (by decide) lx_13 ca_IllegalArgumentException (fun a9 => by
        refine mj_astore (ls' := [(4, _), (0, _), (1, _), (2, _), (3, _)]) dL_pay_16 (Nat.le_of_ble_eq_true rfl) rfl ?_
        refine mj_iconst (v := 2) dL_pay_18 rfl ?_
        exact mj_iret dL_pay_19 rfl (Nat.le_of_eq (Nat.zero_add _)) (Nat.le_of_eq (Nat.zero_add _)) (Or.inr ⟨_, 1, q, rfl, rfl⟩))
    | j + 2, hj => cases hj
set_option maxRecDepth 100000 in
set_option maxHeartbeats 4000000 in
theorem cl_appendText {K : KX} {n : Nat} {h : MH} {c o mc ms : Nat} {fs : List Value} {p0 : Int32} {Q' : RQ} (hc : h c = some (cO 10 fs)) (hcon : Con K mX10_appendText [.ref c, .int p0] mc ms n h Q') (hx : EOk ["java/lang/IllegalStateException"] Q') (hv : VOi Q') (ho : OOk o Q') : Con K mL_appendText [.ref c, .int p0, .ref o] mc ms n h (LRi ["java/lang/IllegalStateException"] o Q') := by
  refine Con.of (by decide +kernel) (Nat.le_of_ble_eq_true rfl) ?_
  refine mj_aload_n 2 dL_appendText_0 rfl ?_
  refine mj_iconst (v := 0) dL_appendText_1 rfl ?_
  refine mj_aload_n 0 dL_appendText_2 rfl ?_
  refine mj_iload_n 1 dL_appendText_3 rfl ?_
  refine mj_callV (As := [.int p0]) (rest := [.int 0, .ref o]) (r := (RX10, TX10, 9)) dL_appendText_4 cwX10_appendText hc rfl rfl rfl lkL_119 hcon rfl (Nat.le_of_ble_eq_true rfl) (Nat.le_of_ble_eq_true rfl) (Nat.le_of_ble_eq_true rfl) (Nat.le_of_eq (Nat.zero_add _)) (Nat.le_of_eq (Nat.zero_add _)) (fun v n9 h9 q => ?_) (fun E n9 h9 q => ?_)
  · obtain ⟨i, rfl⟩ := hv v n9 h9 q
    obtain ⟨f, hof⟩ := ho _ n9 h9 q
    show GG _ _ _ _ _ (.int i :: _) _ _
    refine mj_i2l dL_appendText_7 rfl ?_
    refine mj_last hof (show (0 : Int32).toInt = ((0 : Nat) : Int) from rfl) (by omega) dL_appendText_8 ?_
    refine mj_goto 15 dL_appendText_9 (by decide) ?_
    refine mj_iconst (v := 0) dL_appendText_15 rfl ?_
    exact mj_iret dL_appendText_16 rfl (Nat.le_of_eq (Nat.zero_add _)) (Nat.le_of_eq (Nat.zero_add _)) (Or.inl ⟨i, h9, f, q, hof, rfl, rfl⟩)
  · obtain ⟨j, hj⟩ := hx E n9 h9 q
    match j, hj with
    | 0, hj =>
      cases hj
      exact XX.catch [] (0, 9, 12, 15) [] "java/lang/IllegalStateException" rfl (fun z hz => by cases hz) rfl (by decide) lx_15 ca_IllegalStateException (fun a9 => by
        refine mj_astore_n (ls' := [(3, _), (0, _), (1, _), (2, _)]) dL_appendText_12 (Nat.le_of_ble_eq_true rfl) rfl ?_
        refine mj_iconst (v := 1) dL_appendText_13 rfl ?_
        exact mj_iret dL_appendText_14 rfl (Nat.le_of_eq (Nat.zero_add _)) (Nat.le_of_eq (Nat.zero_add _)) (Or.inr ⟨_, 0, q, rfl, rfl⟩))
    | j + 1, hj => cases hj
set_option maxRecDepth 100000 in
set_option maxHeartbeats 4000000 in
theorem cl_truncateText {K : KX} {n : Nat} {h : MH} {c o mc ms : Nat} {fs : List Value} {p0 : Int32} {Q' : RQ} (hc : h c = some (cO 10 fs)) (hcon : Con K mX10_truncateText [.ref c, .int p0] mc ms n h Q') (hx : EOk ["java/lang/IllegalArgumentException"] Q') (hv : VOi Q') (ho : OOk o Q') : Con K mL_truncateText [.ref c, .int p0, .ref o] mc ms n h (LRi ["java/lang/IllegalArgumentException"] o Q') := by
  refine Con.of (by decide +kernel) (Nat.le_of_ble_eq_true rfl) ?_
  refine mj_aload_n 2 dL_truncateText_0 rfl ?_
  refine mj_iconst (v := 0) dL_truncateText_1 rfl ?_
  refine mj_aload_n 0 dL_truncateText_2 rfl ?_
  refine mj_iload_n 1 dL_truncateText_3 rfl ?_
  refine mj_callV (As := [.int p0]) (rest := [.int 0, .ref o]) (r := (RX10, TX10, 9)) dL_truncateText_4 cwX10_truncateText hc rfl rfl rfl lkL_122 hcon rfl (Nat.le_of_ble_eq_true rfl) (Nat.le_of_ble_eq_true rfl) (Nat.le_of_ble_eq_true rfl) (Nat.le_of_eq (Nat.zero_add _)) (Nat.le_of_eq (Nat.zero_add _)) (fun v n9 h9 q => ?_) (fun E n9 h9 q => ?_)
  · obtain ⟨i, rfl⟩ := hv v n9 h9 q
    obtain ⟨f, hof⟩ := ho _ n9 h9 q
    show GG _ _ _ _ _ (.int i :: _) _ _
    refine mj_i2l dL_truncateText_7 rfl ?_
    refine mj_last hof (show (0 : Int32).toInt = ((0 : Nat) : Int) from rfl) (by omega) dL_truncateText_8 ?_
    refine mj_goto 15 dL_truncateText_9 (by decide) ?_
    refine mj_iconst (v := 0) dL_truncateText_15 rfl ?_
    exact mj_iret dL_truncateText_16 rfl (Nat.le_of_eq (Nat.zero_add _)) (Nat.le_of_eq (Nat.zero_add _)) (Or.inl ⟨i, h9, f, q, hof, rfl, rfl⟩)
  · obtain ⟨j, hj⟩ := hx E n9 h9 q
    match j, hj with
    | 0, hj =>
      cases hj
      exact XX.catch [] (0, 9, 12, 13) [] "java/lang/IllegalArgumentException" rfl (fun z hz => by cases hz) rfl (by decide) lx_13 ca_IllegalArgumentException (fun a9 => by
        refine mj_astore_n (ls' := [(3, _), (0, _), (1, _), (2, _)]) dL_truncateText_12 (Nat.le_of_ble_eq_true rfl) rfl ?_
        refine mj_iconst (v := 1) dL_truncateText_13 rfl ?_
        exact mj_iret dL_truncateText_14 rfl (Nat.le_of_eq (Nat.zero_add _)) (Nat.le_of_eq (Nat.zero_add _)) (Or.inr ⟨_, 0, q, rfl, rfl⟩))
    | j + 1, hj => cases hj
set_option maxRecDepth 100000 in
set_option maxHeartbeats 4000000 in
theorem cl_save {K : KX} {n : Nat} {h : MH} {c mc ms : Nat} {fs : List Value} {p0 : Int32} {Q' : RQ} (hc : h c = some (cO 10 fs)) (hcon : Con K mX10_save [.ref c, .int p0] mc ms n h Q') (hx : EOk ["java/lang/IllegalArgumentException"] Q') (hv : VOv Q') : Con K mL_save [.ref c, .int p0] mc ms n h (LRv ["java/lang/IllegalArgumentException"] Q') := by
  refine Con.of (by decide +kernel) (Nat.le_of_ble_eq_true rfl) ?_
  refine mj_aload_n 0 dL_save_0 rfl ?_
  refine mj_iload_n 1 dL_save_1 rfl ?_
  refine mj_callV (As := [.int p0]) (rest := []) (r := (RX10, TX10, 9)) dL_save_2 cwX10_save hc rfl rfl rfl lkL_125 hcon rfl (Nat.le_of_ble_eq_true rfl) (Nat.le_of_ble_eq_true rfl) (Nat.le_of_ble_eq_true rfl) (Nat.le_of_eq (Nat.zero_add _)) (Nat.le_of_eq (Nat.zero_add _)) (fun v n9 h9 q => ?_) (fun E n9 h9 q => ?_)
  · obtain rfl := hv v n9 h9 q
    show GG _ _ _ _ _ [] _ _
    refine mj_goto 11 dL_save_5 (by decide) ?_
    refine mj_iconst (v := 0) dL_save_11 rfl ?_
    exact mj_iret dL_save_12 rfl (Nat.le_of_eq (Nat.zero_add _)) (Nat.le_of_eq (Nat.zero_add _)) (Or.inl ⟨q, rfl⟩)
  · obtain ⟨j, hj⟩ := hx E n9 h9 q
    match j, hj with
    | 0, hj =>
      cases hj
      exact XX.catch [] (0, 5, 8, 13) [] "java/lang/IllegalArgumentException" rfl (fun z hz => by cases hz) rfl (by decide) lx_13 ca_IllegalArgumentException (fun a9 => by
        refine mj_astore_n (ls' := [(2, _), (0, _), (1, _)]) dL_save_8 (Nat.le_of_ble_eq_true rfl) rfl ?_
        refine mj_iconst (v := 1) dL_save_9 rfl ?_
        exact mj_iret dL_save_10 rfl (Nat.le_of_eq (Nat.zero_add _)) (Nat.le_of_eq (Nat.zero_add _)) (Or.inr ⟨_, 0, q, rfl, rfl⟩))
    | j + 1, hj => cases hj
set_option maxRecDepth 100000 in
set_option maxHeartbeats 4000000 in
theorem cl_restore {K : KX} {n : Nat} {h : MH} {c mc ms : Nat} {fs : List Value} {p0 : Int32} {Q' : RQ} (hc : h c = some (cO 10 fs)) (hcon : Con K mX10_restore [.ref c, .int p0] mc ms n h Q') (hx : EOk ["java/lang/IllegalArgumentException", "java/lang/IllegalStateException"] Q') (hv : VOv Q') : Con K mL_restore [.ref c, .int p0] mc ms n h (LRv ["java/lang/IllegalArgumentException", "java/lang/IllegalStateException"] Q') := by
  refine Con.of (by decide +kernel) (Nat.le_of_ble_eq_true rfl) ?_
  refine mj_aload_n 0 dL_restore_0 rfl ?_
  refine mj_iload_n 1 dL_restore_1 rfl ?_
  refine mj_callV (As := [.int p0]) (rest := []) (r := (RX10, TX10, 9)) dL_restore_2 cwX10_restore hc rfl rfl rfl lkL_129 hcon rfl (Nat.le_of_ble_eq_true rfl) (Nat.le_of_ble_eq_true rfl) (Nat.le_of_ble_eq_true rfl) (Nat.le_of_eq (Nat.zero_add _)) (Nat.le_of_eq (Nat.zero_add _)) (fun v n9 h9 q => ?_) (fun E n9 h9 q => ?_)
  · obtain rfl := hv v n9 h9 q
    show GG _ _ _ _ _ [] _ _
    refine mj_goto 14 dL_restore_5 (by decide) ?_
    refine mj_iconst (v := 0) dL_restore_14 rfl ?_
    exact mj_iret dL_restore_15 rfl (Nat.le_of_eq (Nat.zero_add _)) (Nat.le_of_eq (Nat.zero_add _)) (Or.inl ⟨q, rfl⟩)
  · obtain ⟨j, hj⟩ := hx E n9 h9 q
    match j, hj with
    | 0, hj =>
      cases hj
      exact XX.catch [] (0, 5, 8, 13) [(0, 5, 11, 15)] "java/lang/IllegalArgumentException" rfl (fun z hz => by cases hz) rfl (by decide) lx_13 ca_IllegalArgumentException (fun a9 => by
        refine mj_astore_n (ls' := [(2, _), (0, _), (1, _)]) dL_restore_8 (Nat.le_of_ble_eq_true rfl) rfl ?_
        refine mj_iconst (v := 1) dL_restore_9 rfl ?_
        exact mj_iret dL_restore_10 rfl (Nat.le_of_eq (Nat.zero_add _)) (Nat.le_of_eq (Nat.zero_add _)) (Or.inr ⟨_, 0, q, rfl, rfl⟩))
    | 1, hj =>
      cases hj
      exact XX.catch [(0, 5, 8, 13)] (0, 5, 11, 15) [] "java/lang/IllegalStateException" rfl (by
          intro z hz
          simp only [List.mem_cons, List.not_mem_nil, or_false] at hz
          rcases hz with rfl
          · exact Or.inr ⟨by decide, _, lx_13, by decide +kernel⟩) rfl (by decide) lx_15 ca_IllegalStateException (fun a9 => by
        refine mj_astore_n (ls' := [(2, _), (0, _), (1, _)]) dL_restore_11 (Nat.le_of_ble_eq_true rfl) rfl ?_
        refine mj_iconst (v := 2) dL_restore_12 rfl ?_
        exact mj_iret dL_restore_13 rfl (Nat.le_of_eq (Nat.zero_add _)) (Nat.le_of_eq (Nat.zero_add _)) (Or.inr ⟨_, 1, q, rfl, rfl⟩))
    | j + 2, hj => cases hj
