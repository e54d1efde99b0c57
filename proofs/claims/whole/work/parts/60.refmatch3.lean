theorem mtS_m (M : MS) (g S H A g' S' H' A' : Nat → Int32) : mtS (mtS M g S H A) g' S' H' A' = mtS M g' S' H' A' := by
  show sask (shol (ssol (sbrd (mtS M g S H A) g') S') H') A' = _
  rw [mtS_b, mtS_s, mtS_h, mtS_a]
theorem mtS_wR (M : MS) (g S H A : Nat → Int32) (r f : Nat) (v : Int32) : wR (mtS M g S H A) r f v = mtS M (upd g (408 + 8 * r + f) v) S H A := mtS_b _ _ _ _ _ _
theorem mtS_wD (M : MS) (g S H A : Nat → Int32) (r f : Nat) (v : Int32) : wD (mtS M g S H A) r f v = mtS M (upd g (8 + 10 * r + f) v) S H A := mtS_b _ _ _ _ _ _
def mm_g (g : Nat → Int32) : Nat → Nat → Int32
  | 0 => g
  | k + 1 => if gr (mm_g g k) k 6 = 1 then upd (upd (mm_g g k) (408 + 8 * k + 6) 0) (408 + 8 * k + 7) (-1) else mm_g g k
theorem mm_g_s (g : Nat → Int32) (k : Nat) : mm_g g (k + 1) = if gr (mm_g g k) k 6 = 1 then upd (upd (mm_g g k) (408 + 8 * k + 6) 0) (408 + 8 * k + 7) (-1) else mm_g g k := rfl
theorem mm_g_lo {g : Nat → Int32} {j : Nat} (hj : j < 408) : ∀ k, mm_g g k j = g j
  | 0 => rfl
  | k + 1 => by
    rw [mm_g_s]
    split
    · unfold upd
      rw [if_neg (by omega), if_neg (by omega)]
      exact mm_g_lo hj k
    · exact mm_g_lo hj k
def m2_g (g : Nat → Int32) : Nat → Nat → Int32
  | 0 => g
  | k + 1 => upd (m2_g g k) (8 + 10 * k + 9) (if gd (m2_g g k) k 8 = 0 then 0 else gd (m2_g g k) k 9)
theorem m2_g_s (g : Nat → Int32) (k : Nat) : m2_g g (k + 1) = upd (m2_g g k) (8 + 10 * k + 9) (if gd (m2_g g k) k 8 = 0 then 0 else gd (m2_g g k) k 9) := rfl
theorem m2_g_lo {g : Nat → Int32} {j : Nat} (hj : j < 8) : ∀ k, m2_g g k j = g j
  | 0 => rfl
  | k + 1 => by
    rw [m2_g_s]
    unfold upd
    rw [if_neg (by omega)]
    exact m2_g_lo hj k
/-- the board with all assigned riders freed -/
def m3_g (g : Nat → Int32) (nr nd : Nat) : Nat → Int32 := m2_g (mm_g g nr) nd
theorem m3_g_lo {g : Nat → Int32} {nr nd j : Nat} (hj : j < 8) : m3_g g nr nd j = g j := (m2_g_lo hj nd).trans (mm_g_lo (by omega) nr)
def mt_run (c : Nat → Int64) (S : Nat → Int32) (nr : Nat) : Nat → HA → HA
  | 0, p => p
  | k + 1, p => ah c S k nr 20 (mt_run c S nr k p)
theorem mt_run_s (c : Nat → Int64) (S : Nat → Int32) (nr k : Nat) (p : HA) : mt_run c S nr (k + 1) p = ah c S k nr 20 (mt_run c S nr k p) := rfl
theorem mt_run_lo {c : Nat → Int64} {S : Nat → Int32} {nr j : Nat} (hj : j < 8) : ∀ k p, (mt_run c S nr k p).1 j = p.1 j
  | 0, _ => rfl
  | k + 1, p => (ah_lo c S k nr hj 20 _).trans (mt_run_lo hj k p)
def is1 (g : Nat → Int32) (r : Nat) : Bool := decide (gr g r 6 = 1)
/-- the holders after the asking -/
def m_ha (M : MS) (g : Nat → Int32) (S : Nat → Int32) (nr nd : Nat) : HA := a_run g (gcrd M) S nr nd 161 (fil (ghol M) (-1) nr, fil (gask M) 0 nr)
def m_fin (M : MS) (g : Nat → Int32) (S : Nat → Int32) (nr nd : Nat) : HA := mt_run (gcrd M) S nr nd (g, (m_ha M g S nr nd).1)
set_option maxRecDepth 100000 in
set_option maxHeartbeats 4000000 in
theorem cs_match {K : KX} {n : Nat} {h : MH} {h0 : MH} {m : Nat} {M : MS} (x : Ms h0 m M h) {nr : Nat} (hnr : gbrd M 2 = nI nr) (h20 : nr ≤ 20) {nd : Nat} (hnd : gbrd M 1 = nI nd) (h8 : nd ≤ 8) (hE : ∀ S, SolW (m3_g (gbrd M) nr nd) nr nd S → AskE (m3_g (gbrd M) nr nd) (gcrd M) S nr nd 161 (fil (ghol M) (-1) nr, fil (gask M) 0 nr)) (hT : ∀ S, SolW (m3_g (gbrd M) nr nd) nr nd S → ∀ k, k < nd → HeldT (gcrd M) S k nr 20 (mt_run (gcrd M) S nr k ((m3_g (gbrd M) nr nd), (m_ha M (m3_g (gbrd M) nr nd) S nr nd).1))) : Con K mX11_match [.ref m] 0 0 n h (fun r9 n9 h9 => ∃ S, SolW (m3_g (gbrd M) nr nd) nr nd S ∧ r9 = .inl (some (.int (nI (i_count (is1 (m_fin M (m3_g (gbrd M) nr nd) S nr nd).1) nr)))) ∧ n9 = n ∧ ∃ H A, Ms h0 m (mtS (sthr M 0) (m_fin M (m3_g (gbrd M) nr nd) S nr nd).1 S H A) h9) := by
  refine Con.of (by decide +kernel) (Nat.le_of_ble_eq_true rfl) ?_
  have t4 : ∀ (S H A : Nat → Int32), SolW (m3_g (gbrd M) nr nd) nr nd S → ∀ h1, Ms h0 m (mtS (sthr M 0) (m_fin M (m3_g (gbrd M) nr nd) S nr nd).1 S H A) h1 → GG (K, mX11_match, 0, 0, fun r9 n9 h9 => ∃ S, SolW (m3_g (gbrd M) nr nd) nr nd S ∧ r9 = .inl (some (.int (nI (i_count (is1 (m_fin M (m3_g (gbrd M) nr nd) S nr nd).1) nr)))) ∧ n9 = n ∧ ∃ H A, Ms h0 m (mtS (sthr M 0) (m_fin M (m3_g (gbrd M) nr nd) S nr nd).1 S H A) h9) 0 0 139 [(1, .int (nI nd)), (0, .ref m)] [] n h1 := by
    intro S H A hS
    have hF2 : (m_fin M (m3_g (gbrd M) nr nd) S nr nd).1 2 = nI nr := ((mt_run_lo (by omega) nd _).trans (m3_g_lo (by omega))).trans hnr
    have l4 : ∀ (f : Nat) (k : Nat) (h1 : MH), k + f = nr → Ms h0 m (mtS (sthr M 0) (m_fin M (m3_g (gbrd M) nr nd) S nr nd).1 S H A) h1 → GG (K, mX11_match, 0, 0, fun r9 n9 h9 => ∃ S, SolW (m3_g (gbrd M) nr nd) nr nd S ∧ r9 = .inl (some (.int (nI (i_count (is1 (m_fin M (m3_g (gbrd M) nr nd) S nr nd).1) nr)))) ∧ n9 = n ∧ ∃ H A, Ms h0 m (mtS (sthr M 0) (m_fin M (m3_g (gbrd M) nr nd) S nr nd).1 S H A) h9) 0 0 143 [(2, .int (nI k)), (1, .int (nI (i_count (is1 (m_fin M (m3_g (gbrd M) nr nd) S nr nd).1) k))), (0, .ref m)] [] n h1 := by
      intro f
      induction f with
      | zero =>
      intro k h1 hk x
      obtain rfl : k = nr := by omega
      refine mj_iload_n 0 dX11_match_143 rfl ?_
      refine mj_aload_n 2 dX11_match_144 rfl ?_
      refine mS_gbrd dX11_match_145 fgX11_7 x ?_
      refine mj_iconst (v := 2) dX11_match_148 rfl ?_
      refine mS_lbrd x ((show (2 : Int32).toInt = ((2 : Nat) : Int) from rfl)) (by first | assumption | omega | decide) dX11_match_149 ?_
      refine mj_eq (hF2) ?_
      refine mj_icmp_ge 178 dX11_match_150 (by decide) (fun c_150 => ?_) (fun c_150 => ?_)
      · refine mj_iload_n 1 dX11_match_178 rfl ?_
        exact mj_iret dX11_match_179 rfl (Nat.le_of_ble_eq_true rfl) (Nat.le_of_ble_eq_true rfl) ⟨S, hS, rfl, rfl, H, A, x⟩
      · exact absurd (nI_le (by omega) (by omega)) c_150
      | succ f ih =>
      intro k h1 hk x
      refine mj_iload_n 0 dX11_match_143 rfl ?_
      refine mj_aload_n 2 dX11_match_144 rfl ?_
      refine mS_gbrd dX11_match_145 fgX11_7 x ?_
      refine mj_iconst (v := 2) dX11_match_148 rfl ?_
      refine mS_lbrd x ((show (2 : Int32).toInt = ((2 : Nat) : Int) from rfl)) (by first | assumption | omega | decide) dX11_match_149 ?_
      refine mj_eq (hF2) ?_
      refine mj_icmp_ge 178 dX11_match_150 (by decide) (fun c_150 => ?_) (fun c_150 => ?_)
      · exact absurd c_150 (nI_ge (by omega) (by omega))
      · refine mj_iload_n 1 dX11_match_153 rfl ?_
        refine mj_aload_n 2 dX11_match_154 rfl ?_
        refine mj_iload_n 0 dX11_match_155 rfl ?_
        refine mj_bipush (v := (6)) dX11_match_156 rfl ?_
        refine mS_cV1 x [_, _] dX11_match_158 cwX11_rider lkX11_72 rfl rfl rfl (cs_rider x (r := k) (f := 6) (by omega) (by decide)) ⟨Nat.le_of_ble_eq_true rfl, Nat.le_of_ble_eq_true rfl, Nat.le_of_ble_eq_true rfl, Nat.le_of_ble_eq_true rfl, Nat.le_of_ble_eq_true rfl⟩ (fun h x => ?_)
        refine mj_iconst (v := 1) dX11_match_161 rfl ?_
        refine mj_icmp_ne 169 dX11_match_162 (by decide) (fun c_162 => ?_) (fun c_162 => ?_)
        · have y1 : ¬ is1 (m_fin M (m3_g (gbrd M) nr nd) S nr nd).1 k = true := fun z => c_162 (of_decide_eq_true z)
          refine mj_iconst (v := 0) dX11_match_169 rfl ?_
          refine mj_iadd dX11_match_170 ?_
          refine mj_istore_n (ls' := [(1, _), (2, _), (0, _)]) dX11_match_171 (Nat.le_of_ble_eq_true rfl) rfl ?_
          refine mj_iinc (ls' := [(2, _), (1, _), (0, _)]) 1 dX11_match_172 rfl (nI_s _) (Nat.le_of_ble_eq_true rfl) rfl ?_
          refine mj_goto 143 dX11_match_175 (by decide) ?_
          exact mj_ls [0, 1, 2] rfl (by
            have q9 := ih (k + 1) _ (by omega) x
            rw [show i_count (is1 (m_fin M (m3_g (gbrd M) nr nd) S nr nd).1) (k + 1) = i_count (is1 (m_fin M (m3_g (gbrd M) nr nd) S nr nd).1) k by rw [i_count_s, if_neg y1]; rfl, ← Int32.add_zero (nI (i_count (is1 (m_fin M (m3_g (gbrd M) nr nd) S nr nd).1) k))] at q9
            exact q9)
        · have y1 : is1 (m_fin M (m3_g (gbrd M) nr nd) S nr nd).1 k = true := decide_eq_true c_162
          refine mj_iconst (v := 1) dX11_match_165 rfl ?_
          refine mj_goto 170 dX11_match_166 (by decide) ?_
          refine mj_iadd dX11_match_170 ?_
          refine mj_istore_n (ls' := [(1, _), (2, _), (0, _)]) dX11_match_171 (Nat.le_of_ble_eq_true rfl) rfl ?_
          refine mj_iinc (ls' := [(2, _), (1, _), (0, _)]) 1 dX11_match_172 rfl (nI_s _) (Nat.le_of_ble_eq_true rfl) rfl ?_
          refine mj_goto 143 dX11_match_175 (by decide) ?_
          exact mj_ls [0, 1, 2] rfl (by
            have q9 := ih (k + 1) _ (by omega) x
            rw [show i_count (is1 (m_fin M (m3_g (gbrd M) nr nd) S nr nd).1) (k + 1) = i_count (is1 (m_fin M (m3_g (gbrd M) nr nd) S nr nd).1) k + 1 by rw [i_count_s, if_pos y1], ← nI_1 (i_count (is1 (m_fin M (m3_g (gbrd M) nr nd) S nr nd).1) k)] at q9
            exact q9)
    intro h1 x
    refine mj_iconst (v := 0) dX11_match_139 rfl ?_
    refine mj_istore_n (ls' := [(1, _), (0, _)]) dX11_match_140 (Nat.le_of_ble_eq_true rfl) rfl ?_
    refine mj_iconst (v := 0) dX11_match_141 rfl ?_
    refine mj_istore_n (ls' := [(2, _), (1, _), (0, _)]) dX11_match_142 (Nat.le_of_ble_eq_true rfl) rfl ?_
    exact mj_ls [0, 1, 2] rfl (l4 nr 0 _ (by omega) x)
  have t3 : ∀ (S : Nat → Int32), SolW (m3_g (gbrd M) nr nd) nr nd S → ∀ h1, Ms h0 m (mtS (sthr M 0) (m3_g (gbrd M) nr nd) S (m_ha M (m3_g (gbrd M) nr nd) S nr nd).1 (m_ha M (m3_g (gbrd M) nr nd) S nr nd).2) h1 → GG (K, mX11_match, 0, 0, fun r9 n9 h9 => ∃ S, SolW (m3_g (gbrd M) nr nd) nr nd S ∧ r9 = .inl (some (.int (nI (i_count (is1 (m_fin M (m3_g (gbrd M) nr nd) S nr nd).1) nr)))) ∧ n9 = n ∧ ∃ H A, Ms h0 m (mtS (sthr M 0) (m_fin M (m3_g (gbrd M) nr nd) S nr nd).1 S H A) h9) 0 0 116 [(1, .int (nI nd)), (0, .ref m)] [] n h1 := by
    intro S hS
    have l3 : ∀ (f : Nat) (k : Nat) (h1 : MH), k + f = nd → Ms h0 m (mtS (sthr M 0) (mt_run (gcrd M) S nr k ((m3_g (gbrd M) nr nd), (m_ha M (m3_g (gbrd M) nr nd) S nr nd).1)).1 S (mt_run (gcrd M) S nr k ((m3_g (gbrd M) nr nd), (m_ha M (m3_g (gbrd M) nr nd) S nr nd).1)).2 (m_ha M (m3_g (gbrd M) nr nd) S nr nd).2) h1 → GG (K, mX11_match, 0, 0, fun r9 n9 h9 => ∃ S, SolW (m3_g (gbrd M) nr nd) nr nd S ∧ r9 = .inl (some (.int (nI (i_count (is1 (m_fin M (m3_g (gbrd M) nr nd) S nr nd).1) nr)))) ∧ n9 = n ∧ ∃ H A, Ms h0 m (mtS (sthr M 0) (m_fin M (m3_g (gbrd M) nr nd) S nr nd).1 S H A) h9) 0 0 118 [(1, .int (nI k)), (0, .ref m)] [] n h1 := by
      intro f
      induction f with
      | zero =>
      intro k h1 hk x
      obtain rfl : k = nd := by omega
      refine mj_iload_n 0 dX11_match_118 rfl ?_
      refine mj_aload_n 1 dX11_match_119 rfl ?_
      refine mS_gbrd dX11_match_120 fgX11_7 x ?_
      refine mj_iconst (v := 1) dX11_match_123 rfl ?_
      refine mS_lbrd x ((show (1 : Int32).toInt = ((1 : Nat) : Int) from rfl)) (by first | assumption | omega | decide) dX11_match_124 ?_
      refine mj_eq (((mt_run_lo (by omega) _ _).trans (m3_g_lo (by omega))).trans hnd) ?_
      refine mj_icmp_ge 139 dX11_match_125 (by decide) (fun c_125 => ?_) (fun c_125 => ?_)
      · exact mj_ls [0, 1] rfl (t4 S _ _ hS _ x)
      · exact absurd (nI_le (by omega) (by omega)) c_125
      | succ f ih =>
      intro k h1 hk x
      refine mj_iload_n 0 dX11_match_118 rfl ?_
      refine mj_aload_n 1 dX11_match_119 rfl ?_
      refine mS_gbrd dX11_match_120 fgX11_7 x ?_
      refine mj_iconst (v := 1) dX11_match_123 rfl ?_
      refine mS_lbrd x ((show (1 : Int32).toInt = ((1 : Nat) : Int) from rfl)) (by first | assumption | omega | decide) dX11_match_124 ?_
      refine mj_eq (((mt_run_lo (by omega) _ _).trans (m3_g_lo (by omega))).trans hnd) ?_
      refine mj_icmp_ge 139 dX11_match_125 (by decide) (fun c_125 => ?_) (fun c_125 => ?_)
      · exact absurd c_125 (nI_ge (by omega) (by omega))
      · refine mj_aload_n 1 dX11_match_128 rfl ?_
        refine mj_iload_n 0 dX11_match_129 rfl ?_
        refine mS_cV0 x [_] dX11_match_130 cwX11_assignHeld lkX11_245 rfl rfl rfl (cs_assignHeld x (d := k) (by omega) (((mt_run_lo (by omega) _ _).trans (m3_g_lo (by omega))).trans hnr) h20 (F := 20) (hT S hS k (by omega)) rfl) ⟨Nat.le_of_ble_eq_true rfl, Nat.le_of_ble_eq_true rfl, Nat.le_of_ble_eq_true rfl, Nat.le_of_ble_eq_true rfl, Nat.le_of_ble_eq_true rfl⟩ (fun h x => ?_)
        refine mj_iinc (ls' := [(1, _), (0, _)]) 0 dX11_match_133 rfl (nI_s _) (Nat.le_of_ble_eq_true rfl) rfl ?_
        refine mj_goto 118 dX11_match_136 (by decide) ?_
        exact mj_ls [0, 1] rfl (ih (k + 1) _ (by omega) (by rw [mtS_m] at x; rw [mt_run_s]; exact x))
    intro h1 x
    refine mj_iconst (v := 0) dX11_match_116 rfl ?_
    refine mj_istore_n (ls' := [(1, _), (0, _)]) dX11_match_117 (Nat.le_of_ble_eq_true rfl) rfl ?_
    exact mj_ls [0, 1] rfl (l3 nd 0 _ (by omega) x)
  have l2 : ∀ (f : Nat) (k : Nat) (h1 : MH), k + f = nd → Ms h0 m (mtS (sthr M 0) (m2_g (mm_g (gbrd M) nr) k) (gsol M) (fil (ghol M) (-1) nr) (fil (gask M) 0 nr)) h1 → GG (K, mX11_match, 0, 0, fun r9 n9 h9 => ∃ S, SolW (m3_g (gbrd M) nr nd) nr nd S ∧ r9 = .inl (some (.int (nI (i_count (is1 (m_fin M (m3_g (gbrd M) nr nd) S nr nd).1) nr)))) ∧ n9 = n ∧ ∃ H A, Ms h0 m (mtS (sthr M 0) (m_fin M (m3_g (gbrd M) nr nd) S nr nd).1 S H A) h9) 0 0 66 [(1, .int (nI k)), (0, .ref m)] [] n h1 := by
    intro f
    induction f with
    | zero =>
      intro k h1 hk x
      obtain rfl : k = nd := by omega
      refine mj_iload_n 0 dX11_match_66 rfl ?_
      refine mj_aload_n 1 dX11_match_67 rfl ?_
      refine mS_gbrd dX11_match_68 fgX11_7 x ?_
      refine mj_iconst (v := 1) dX11_match_71 rfl ?_
      refine mS_lbrd x ((show (1 : Int32).toInt = ((1 : Nat) : Int) from rfl)) (by first | assumption | omega | decide) dX11_match_72 ?_
      refine mj_eq (((m2_g_lo (by omega) _).trans (mm_g_lo (by omega) _)).trans hnd) ?_
      refine mj_icmp_ge 108 dX11_match_73 (by decide) (fun c_73 => ?_) (fun c_73 => ?_)
      · refine mj_aload_n 1 dX11_match_108 rfl ?_
        refine mS_cV0 x [] dX11_match_109 cwX11_findSolos lkX11_206 rfl rfl rfl (cs_findSolos x (nr := nr) (nd := k) ((m3_g_lo (by omega)).trans hnr) h20 ((m3_g_lo (by omega)).trans hnd) h8) ⟨Nat.le_of_ble_eq_true rfl, Nat.le_of_ble_eq_true rfl, Nat.le_of_ble_eq_true rfl, Nat.le_of_ble_eq_true rfl, Nat.le_of_ble_eq_true rfl⟩ (fun h x => ?_)
        obtain ⟨S, hS, x⟩ := x
        rw [mtS_s] at x
        have hS : SolW (m3_g (gbrd M) nr k) nr k S := hS
        refine mj_aload_n 1 dX11_match_112 rfl ?_
        refine mS_cV0 x [] dX11_match_113 cwX11_ask lkX11_242 rfl rfl rfl (cs_ask x (nr := nr) (nd := k) ((m3_g_lo (by omega)).trans hnr) h20 ((m3_g_lo (by omega)).trans hnd) h8 (F := 161) (hE S hS) rfl) ⟨Nat.le_of_ble_eq_true rfl, Nat.le_of_ble_eq_true rfl, Nat.le_of_ble_eq_true rfl, Nat.le_of_ble_eq_true rfl, Nat.le_of_ble_eq_true rfl⟩ (fun h x => ?_)
        have x : Ms h0 m (mtS (sthr M 0) (m3_g (gbrd M) nr k) S (m_ha M (m3_g (gbrd M) nr k) S nr k).1 (m_ha M (m3_g (gbrd M) nr k) S nr k).2) h := by
          unfold MsH at x
          rw [mtS_m] at x
          exact x
        exact t3 S hS _ x
      · exact absurd (nI_le (by omega) (by omega)) c_73
    | succ f ih =>
      intro k h1 hk x
      refine mj_iload_n 0 dX11_match_66 rfl ?_
      refine mj_aload_n 1 dX11_match_67 rfl ?_
      refine mS_gbrd dX11_match_68 fgX11_7 x ?_
      refine mj_iconst (v := 1) dX11_match_71 rfl ?_
      refine mS_lbrd x ((show (1 : Int32).toInt = ((1 : Nat) : Int) from rfl)) (by first | assumption | omega | decide) dX11_match_72 ?_
      refine mj_eq (((m2_g_lo (by omega) _).trans (mm_g_lo (by omega) _)).trans hnd) ?_
      refine mj_icmp_ge 108 dX11_match_73 (by decide) (fun c_73 => ?_) (fun c_73 => ?_)
      · exact absurd c_73 (nI_ge (by omega) (by omega))
      · refine mj_aload_n 1 dX11_match_76 rfl ?_
        refine mj_iload_n 0 dX11_match_77 rfl ?_
        refine mj_bipush (v := (9)) dX11_match_78 rfl ?_
        refine mj_aload_n 1 dX11_match_80 rfl ?_
        refine mj_iload_n 0 dX11_match_81 rfl ?_
        refine mS_cV1 x [_] dX11_match_82 cwX11_isOpen lkX11_95 rfl rfl rfl (cs_isOpen x (d := k) (by omega)) ⟨Nat.le_of_ble_eq_true rfl, Nat.le_of_ble_eq_true rfl, Nat.le_of_ble_eq_true rfl, Nat.le_of_ble_eq_true rfl, Nat.le_of_ble_eq_true rfl⟩ (fun h x => ?_)
        refine mj_if_eq 92 dX11_match_85 (by decide) (fun c_85 => ?_) (fun c_85 => ?_)
        · have y1 : ¬ gd (m2_g (mm_g (gbrd M) nr) k) k 8 = 0 := of_decide_eq_false (bI_0.mp c_85)
          refine mj_aload_n 1 dX11_match_92 rfl ?_
          refine mj_iload_n 0 dX11_match_93 rfl ?_
          refine mj_bipush (v := (9)) dX11_match_94 rfl ?_
          refine mS_cV1 x [_, _] dX11_match_96 cwX11_driver lkX11_68 rfl rfl rfl (cs_driver x (d := k) (f := 9) (by omega) (by decide)) ⟨Nat.le_of_ble_eq_true rfl, Nat.le_of_ble_eq_true rfl, Nat.le_of_ble_eq_true rfl, Nat.le_of_ble_eq_true rfl, Nat.le_of_ble_eq_true rfl⟩ (fun h x => ?_)
          refine mS_cV0 x [_, _, _] dX11_match_99 cwX11_setDriver lkX11_75 rfl rfl rfl (cs_setDriver x (d := k) (f := 9) (by omega) (by decide)) ⟨Nat.le_of_ble_eq_true rfl, Nat.le_of_ble_eq_true rfl, Nat.le_of_ble_eq_true rfl, Nat.le_of_ble_eq_true rfl, Nat.le_of_ble_eq_true rfl⟩ (fun h x => ?_)
          rw [mtS_wD] at x
          refine mj_iinc (ls' := [(1, _), (0, _)]) 0 dX11_match_102 rfl (nI_s _) (Nat.le_of_ble_eq_true rfl) rfl ?_
          refine mj_goto 66 dX11_match_105 (by decide) ?_
          exact mj_ls [0, 1] rfl (ih (k + 1) _ (by omega) (by rw [m2_g_s, if_neg y1]; exact x))
        · have y1 : gd (m2_g (mm_g (gbrd M) nr) k) k 8 = 0 := of_decide_eq_true (bI_n0.mp c_85)
          refine mj_iconst (v := 0) dX11_match_88 rfl ?_
          refine mj_goto 99 dX11_match_89 (by decide) ?_
          refine mS_cV0 x [_, _, _] dX11_match_99 cwX11_setDriver lkX11_75 rfl rfl rfl (cs_setDriver x (d := k) (f := 9) (by omega) (by decide)) ⟨Nat.le_of_ble_eq_true rfl, Nat.le_of_ble_eq_true rfl, Nat.le_of_ble_eq_true rfl, Nat.le_of_ble_eq_true rfl, Nat.le_of_ble_eq_true rfl⟩ (fun h x => ?_)
          rw [mtS_wD] at x
          refine mj_iinc (ls' := [(1, _), (0, _)]) 0 dX11_match_102 rfl (nI_s _) (Nat.le_of_ble_eq_true rfl) rfl ?_
          refine mj_goto 66 dX11_match_105 (by decide) ?_
          exact mj_ls [0, 1] rfl (ih (k + 1) _ (by omega) (by rw [m2_g_s, if_pos y1]; exact x))
  have l1 : ∀ (f : Nat) (k : Nat) (h1 : MH), k + f = nr → Ms h0 m (mtS (sthr M 0) (mm_g (gbrd M) k) (gsol M) (fil (ghol M) (-1) k) (fil (gask M) 0 k)) h1 → GG (K, mX11_match, 0, 0, fun r9 n9 h9 => ∃ S, SolW (m3_g (gbrd M) nr nd) nr nd S ∧ r9 = .inl (some (.int (nI (i_count (is1 (m_fin M (m3_g (gbrd M) nr nd) S nr nd).1) nr)))) ∧ n9 = n ∧ ∃ H A, Ms h0 m (mtS (sthr M 0) (m_fin M (m3_g (gbrd M) nr nd) S nr nd).1 S H A) h9) 0 0 7 [(1, .int (nI k)), (0, .ref m)] [] n h1 := by
    intro f
    induction f with
    | zero =>
      intro k h1 hk x
      obtain rfl : k = nr := by omega
      refine mj_iload_n 0 dX11_match_7 rfl ?_
      refine mj_aload_n 1 dX11_match_8 rfl ?_
      refine mS_gbrd dX11_match_9 fgX11_7 x ?_
      refine mj_iconst (v := 2) dX11_match_12 rfl ?_
      refine mS_lbrd x ((show (2 : Int32).toInt = ((2 : Nat) : Int) from rfl)) (by first | assumption | omega | decide) dX11_match_13 ?_
      refine mj_eq ((mm_g_lo (by omega) _).trans hnr) ?_
      refine mj_icmp_ge 64 dX11_match_14 (by decide) (fun c_14 => ?_) (fun c_14 => ?_)
      · refine mj_iconst (v := 0) dX11_match_64 rfl ?_
        refine mj_istore_n (ls' := [(1, _), (0, _)]) dX11_match_65 (Nat.le_of_ble_eq_true rfl) rfl ?_
        exact mj_ls [0, 1] rfl (l2 nd 0 _ (by omega) x)
      · exact absurd (nI_le (by omega) (by omega)) c_14
    | succ f ih =>
      intro k h1 hk x
      refine mj_iload_n 0 dX11_match_7 rfl ?_
      refine mj_aload_n 1 dX11_match_8 rfl ?_
      refine mS_gbrd dX11_match_9 fgX11_7 x ?_
      refine mj_iconst (v := 2) dX11_match_12 rfl ?_
      refine mS_lbrd x ((show (2 : Int32).toInt = ((2 : Nat) : Int) from rfl)) (by first | assumption | omega | decide) dX11_match_13 ?_
      refine mj_eq ((mm_g_lo (by omega) _).trans hnr) ?_
      refine mj_icmp_ge 64 dX11_match_14 (by decide) (fun c_14 => ?_) (fun c_14 => ?_)
      · exact absurd c_14 (nI_ge (by omega) (by omega))
      · refine mj_aload_n 1 dX11_match_17 rfl ?_
        refine mS_ghol dX11_match_18 fgX11_42 x ?_
        refine mj_iload_n 0 dX11_match_21 rfl ?_
        refine mj_iconst (v := (-1)) dX11_match_22 rfl ?_
        refine mS_ahol x ((by first | assumption | exact ixn (by omega))) (by first | assumption | omega | decide) dX11_match_23 (fun h x => ?_)
        rw [mtS_h] at x
        refine mj_aload_n 1 dX11_match_24 rfl ?_
        refine mS_gask dX11_match_25 fgX11_45 x ?_
        refine mj_iload_n 0 dX11_match_28 rfl ?_
        refine mj_iconst (v := 0) dX11_match_29 rfl ?_
        refine mS_aask x ((by first | assumption | exact ixn (by omega))) (by first | assumption | omega | decide) dX11_match_30 (fun h x => ?_)
        rw [mtS_a] at x
        refine mj_aload_n 1 dX11_match_31 rfl ?_
        refine mj_iload_n 0 dX11_match_32 rfl ?_
        refine mj_bipush (v := (6)) dX11_match_33 rfl ?_
        refine mS_cV1 x [_, _] dX11_match_35 cwX11_rider lkX11_72 rfl rfl rfl (cs_rider x (r := k) (f := 6) (by omega) (by decide)) ⟨Nat.le_of_ble_eq_true rfl, Nat.le_of_ble_eq_true rfl, Nat.le_of_ble_eq_true rfl, Nat.le_of_ble_eq_true rfl, Nat.le_of_ble_eq_true rfl⟩ (fun h x => ?_)
        refine mj_iconst (v := 1) dX11_match_38 rfl ?_
        refine mj_icmp_ne 58 dX11_match_39 (by decide) (fun c_39 => ?_) (fun c_39 => ?_)
        · have y1 : ¬ gr (mm_g (gbrd M) k) k 6 = 1 := c_39
          refine mj_iinc (ls' := [(1, _), (0, _)]) 0 dX11_match_58 rfl (nI_s _) (Nat.le_of_ble_eq_true rfl) rfl ?_
          refine mj_goto 7 dX11_match_61 (by decide) ?_
          exact mj_ls [0, 1] rfl (ih (k + 1) _ (by omega) (by rw [← fil_go, ← fil_go, mm_g_s, if_neg y1]; exact x))
        · have y1 : gr (mm_g (gbrd M) k) k 6 = 1 := c_39
          refine mj_aload_n 1 dX11_match_42 rfl ?_
          refine mj_iload_n 0 dX11_match_43 rfl ?_
          refine mj_bipush (v := (6)) dX11_match_44 rfl ?_
          refine mj_iconst (v := 0) dX11_match_46 rfl ?_
          refine mS_cV0 x [_, _, _] dX11_match_47 cwX11_setRider lkX11_105 rfl rfl rfl (cs_setRider x (r := k) (f := 6) (v := 0) (by omega) (by decide)) ⟨Nat.le_of_ble_eq_true rfl, Nat.le_of_ble_eq_true rfl, Nat.le_of_ble_eq_true rfl, Nat.le_of_ble_eq_true rfl, Nat.le_of_ble_eq_true rfl⟩ (fun h x => ?_)
          rw [mtS_wR] at x
          refine mj_aload_n 1 dX11_match_50 rfl ?_
          refine mj_iload_n 0 dX11_match_51 rfl ?_
          refine mj_bipush (v := (7)) dX11_match_52 rfl ?_
          refine mj_iconst (v := (-1)) dX11_match_54 rfl ?_
          refine mS_cV0 x [_, _, _] dX11_match_55 cwX11_setRider lkX11_105 rfl rfl rfl (cs_setRider x (r := k) (f := 7) (v := (-1)) (by omega) (by decide)) ⟨Nat.le_of_ble_eq_true rfl, Nat.le_of_ble_eq_true rfl, Nat.le_of_ble_eq_true rfl, Nat.le_of_ble_eq_true rfl, Nat.le_of_ble_eq_true rfl⟩ (fun h x => ?_)
          rw [mtS_wR] at x
          refine mj_iinc (ls' := [(1, _), (0, _)]) 0 dX11_match_58 rfl (nI_s _) (Nat.le_of_ble_eq_true rfl) rfl ?_
          refine mj_goto 7 dX11_match_61 (by decide) ?_
          exact mj_ls [0, 1] rfl (ih (k + 1) _ (by omega) (by rw [← fil_go, ← fil_go, mm_g_s, if_pos y1]; exact x))
  refine mj_aload_n 0 dX11_match_0 rfl ?_
  refine mj_iconst (v := 0) dX11_match_1 rfl ?_
  refine mS_pthr dX11_match_2 fgX11_61 x (fun h x => ?_)
  refine mj_iconst (v := 0) dX11_match_5 rfl ?_
  refine mj_istore_n (ls' := [(1, _), (0, _)]) dX11_match_6 (Nat.le_of_ble_eq_true rfl) rfl ?_
  exact mj_ls [0, 1] rfl (l1 nr 0 _ (by omega) (by rw [show mm_g (gbrd M) 0 = gbrd M from rfl, show fil (ghol M) (-1) 0 = ghol M from funext fun j => if_neg (Nat.not_lt_zero j), show fil (gask M) 0 0 = gask M from funext fun j => if_neg (Nat.not_lt_zero j)]; rw [show mtS (sthr M 0) (gbrd M) (gsol M) (ghol M) (gask M) = sthr M 0 from mtS_id (sthr M 0)]; exact x))
