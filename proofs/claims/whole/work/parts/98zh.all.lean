theorem A_all {N : Nat} (hN : 600000 < N) : AllSteps N RlW := ⟨fun k s m h => RlW_mono h (Nat.le_succ k), T_append hN, T_truncate hN, T_errorPosition hN, T_load hN, T_find hN, T_purchase hN, T_refund hN, T_redeem hN, T_transfer hN, T_join hN, T_leave hN, T_setShare hN, T_advance hN, T_setup hN, T_threshold hN, T_extras hN, T_today hN, T_balance hN, T_debt hN, T_available hN, T_cohortCount hN, T_cohort hN, T_household hN, T_members hN, T_poolBalance hN, T_poolCohortCount hN, T_poolCohort hN, T_contributed hN, T_total hN, T_tier hN, T_earnedTier hN, T_qualifying hN, T_belowSince hN, T_toNextTier hN, T_tierAfter hN, T_wouldEarn hN, T_bestCategory hN, T_leastCents hN, T_purchaseCount hN, T_purchasePart hN, T_expiringWithin hN, T_nextExpiry hN, T_redeemedWith hN, T_breakage hN, T_poolBreakage hN, T_totalBreakage hN, T_rankedMember hN, T_logSize hN, T_log hN, T_undo hN, T_undoCount hN, T_save hN, T_restore hN⟩
theorem B_ini {N : Nat} (hN : 73000 < N) : ∃ (o1 oS : T_SE), F_S_clear N zSE = some o1 ∧ F_S_finish N o1 = some oS ∧ ∃ oB : T_BK, F_B_reset N oS zBK = some oB ∧ ∃ g1 : Nat → Int32, f_X11_begins N 71 (fun _ => 0) = some g1 ∧ ∃ now : Nat → Int32, f_X11_starts N 71 72470 g1 (fun _ => 0) = some now ∧ ∃ v, RlC v 0 zIN oS oB oB (0, 0, fun _ => oB) 0 0 0 0 g1 (fun _ => 0) (fun _ => 0) (fun _ => 0) now (fun _ => 0) (fun _ => 0) (fun _ => 0) := by
  obtain ⟨r0, b1, b2, b3⟩ := M_begins (N := N) (by omega) (fun _ => 0)
  obtain ⟨cs', nm', th', bo', c1, c2, c3, c4⟩ := C_clear (N := N) (by omega) (fun _ => 0) (fun _ => 0) (fun _ => 0) (fun _ => 0)
  have HD : DR v00 (fun _ _ => 0) (fun _ => 0) (fun _ => 0) (365, 365, 0, cs', nm', th', bo', (fun _ => 0), (fun _ => 0), (fun _ => 0), (fun _ => 0), (fun _ => 0), (fun _ => 0), (fun _ => 0)) r0 (fun _ => 0) (fun _ => 0) (fun _ => 0) 0 0 := DR_start c2 c3 c4 b2 b3
  obtain ⟨v', y1, y2, y3, y4⟩ := DR_fin HD
  obtain ⟨x, u1, u2⟩ := B_start y2 y3 y4 zBK (fun _ => 0) 0 hN
  refine ⟨(365, 365, 0, cs', nm', th', bo', (fun _ => 0), (fun _ => 0), (fun _ => 0), (fun _ => 0), (fun _ => 0), (fun _ => 0), (fun _ => 0)), finS (365, 365, 0, cs', nm', th', bo', (fun _ => 0), (fun _ => 0), (fun _ => 0), (fun _ => 0), (fun _ => 0), (fun _ => 0), (fun _ => 0)), ?_, ?_, x, u1, r0, b1, _, M_starts hN r0 (fun _ => 0), v', y2, y4, y3, y1, ⟨0, by decide, rfl, rfl, fun i hi => by omega⟩, u2, Or.inl ⟨rfl, rfl⟩, ⟨0, 0, by decide, by decide, rfl, rfl, rfl, fun j hj => by omega⟩⟩
  · unfold F_S_clear zSE
    dsimp only
    rw [c1]; rfl
  · unfold F_S_finish
    dsimp only
    rw [C_finish]; rfl
