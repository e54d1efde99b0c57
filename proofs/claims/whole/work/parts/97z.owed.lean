/-- the relation holds of two new objects -/
theorem Rel.start {B : BS} (h : BZ B) : Rel (p_new B) M0 := by
  obtain ⟨h1, h2, h3⟩ := h
  refine ⟨RB.empty h1 h2 ?_ rfl rfl, ⟨Nat.zero_le _, rfl, fun k hk => absurd hk (Nat.not_lt_zero _), rfl, rfl⟩, ⟨rfl, 0, 0, 0, rfl, rfl, rfl⟩, fun i _ => Or.inl ⟨rfl, rfl⟩⟩
  show upd (fun _ => 0) 0 500 0 = bpe B
  rw [ux_s, h3]
theorem all_steps (K : KX) (c : Nat) : AllS K c (c + 176) (c + 192) (Jv Rel c) :=
  ⟨sr_addDriver, sr_setTrip, sr_addRider, st_driverCount Rel.hasF, st_riderCount Rel.hasF, st_isDone Rel.hasF, st_riderState Rel.hasF, st_driverOf Rel.hasF, sr_ridersOf, sr_setPenalty, st_stopCount Rel.hasR, st_stopRider Rel.hasR, st_arrival Rel.hasR, st_routeLength Rel.hasR, st_detour Rel.hasR, sr_extra, st_soloExtra Rel.hasS, sr_bestDriver, sr_assign, sr_unassign, sr_match, sr_riderChoice, sr_driverChoice, sr_blockingPairs, sr_noShow, sr_comeBack, sr_replacement, sr_fill, st_tripCost Rel.hasR, sr_marginal, sr_share, sr_driverShare, sr_complete, st_riderCredit Rel.hasF, st_driverCredit Rel.hasF, sr_pay, sr_debtor, sr_meanDetourNumerator, sr_meanDetourDenominator, sr_appendText, sr_truncateText, sr_load, st_errorCode Rel.hasF, st_errorPosition Rel.hasF, sr_save, sr_restore⟩
theorem owed : Owed := fun K c => ⟨Jv Rel c, all_steps K c, fun h1 h3 B hB hC hM => by
  have off := hM.2.2.2.2.2.2.2.2.2.2.2.2.2.2.2.2
  refine ⟨p_new B, M0, fun _ => 0, (hC.mono (by omega)).at fun q hq => ?_, ⟨M0, hM.re fun q a b => mup_n h3 _ (by omega), Scg.rf⟩, mup_s _ _ _, Nat.le_refl _, Rel.start hB⟩
  rw [mup_n h3 _ (by omega), off q (by omega), mup_n h1 _ (by omega)]⟩
