/-! printed by a program of ours out of the bytecode: decode rows, functions, walks -/
-- PointsLedger$Books.passDays(I)I
theorem dX0_passDays_0 : decode cX0_passDays 0 = .ok (.iconst 0, 1) := by decide +kernel
theorem dX0_passDays_1 : decode cX0_passDays 1 = .ok (.istore_n 2, 1) := by decide +kernel
theorem dX0_passDays_2 : decode cX0_passDays 2 = .ok (.iconst 0, 1) := by decide +kernel
theorem dX0_passDays_3 : decode cX0_passDays 3 = .ok (.istore_n 3, 1) := by decide +kernel
theorem dX0_passDays_4 : decode cX0_passDays 4 = .ok (.iload_n 3, 1) := by decide +kernel
theorem dX0_passDays_5 : decode cX0_passDays 5 = .ok (.iload_n 1, 1) := by decide +kernel
theorem dX0_passDays_6 : decode cX0_passDays 6 = .ok (.if_icmp .ge 58, 3) := by decide +kernel
theorem dX0_passDays_9 : decode cX0_passDays 9 = .ok (.aload_n 0, 1) := by decide +kernel
theorem dX0_passDays_10 : decode cX0_passDays 10 = .ok (.dup, 1) := by decide +kernel
theorem dX0_passDays_11 : decode cX0_passDays 11 = .ok (.getfield 100, 3) := by decide +kernel
theorem dX0_passDays_14 : decode cX0_passDays 14 = .ok (.iconst 1, 1) := by decide +kernel
theorem dX0_passDays_15 : decode cX0_passDays 15 = .ok (.iadd, 1) := by decide +kernel
theorem dX0_passDays_16 : decode cX0_passDays 16 = .ok (.putfield 100, 3) := by decide +kernel
theorem dX0_passDays_19 : decode cX0_passDays 19 = .ok (.iload_n 2, 1) := by decide +kernel
theorem dX0_passDays_20 : decode cX0_passDays 20 = .ok (.aload_n 0, 1) := by decide +kernel
theorem dX0_passDays_21 : decode cX0_passDays 21 = .ok (.invokevirtual 220, 3) := by decide +kernel
theorem dX0_passDays_24 : decode cX0_passDays 24 = .ok (.iadd, 1) := by decide +kernel
theorem dX0_passDays_25 : decode cX0_passDays 25 = .ok (.istore_n 2, 1) := by decide +kernel
theorem dX0_passDays_26 : decode cX0_passDays 26 = .ok (.aload_n 0, 1) := by decide +kernel
theorem dX0_passDays_27 : decode cX0_passDays 27 = .ok (.invokevirtual 223, 3) := by decide +kernel
theorem dX0_passDays_30 : decode cX0_passDays 30 = .ok (.iconst 0, 1) := by decide +kernel
theorem dX0_passDays_31 : decode cX0_passDays 31 = .ok (.istore 4, 2) := by decide +kernel
theorem dX0_passDays_33 : decode cX0_passDays 33 = .ok (.iload 4, 2) := by decide +kernel
theorem dX0_passDays_35 : decode cX0_passDays 35 = .ok (.aload_n 0, 1) := by decide +kernel
theorem dX0_passDays_36 : decode cX0_passDays 36 = .ok (.getfield 9, 3) := by decide +kernel
theorem dX0_passDays_39 : decode cX0_passDays 39 = .ok (.iconst 3, 1) := by decide +kernel
theorem dX0_passDays_40 : decode cX0_passDays 40 = .ok (.invokevirtual 134, 3) := by decide +kernel
theorem dX0_passDays_43 : decode cX0_passDays 43 = .ok (.if_icmp .ge 15, 3) := by decide +kernel
theorem dX0_passDays_46 : decode cX0_passDays 46 = .ok (.aload_n 0, 1) := by decide +kernel
theorem dX0_passDays_47 : decode cX0_passDays 47 = .ok (.iload 4, 2) := by decide +kernel
theorem dX0_passDays_49 : decode cX0_passDays 49 = .ok (.invokevirtual 181, 3) := by decide +kernel
theorem dX0_passDays_52 : decode cX0_passDays 52 = .ok (.iinc 4 1, 3) := by decide +kernel
theorem dX0_passDays_55 : decode cX0_passDays 55 = .ok (.goto (-22), 3) := by decide +kernel
theorem dX0_passDays_58 : decode cX0_passDays 58 = .ok (.iinc 3 1, 3) := by decide +kernel
theorem dX0_passDays_61 : decode cX0_passDays 61 = .ok (.goto (-57), 3) := by decide +kernel
theorem dX0_passDays_64 : decode cX0_passDays 64 = .ok (.iload_n 2, 1) := by decide +kernel
theorem dX0_passDays_65 : decode cX0_passDays 65 = .ok (.ireturn, 1) := by decide +kernel
def f_X0_passDays_b33 (N : Nat) (k_4 : (Int32) → (Int32) → (Int32) → (Int32) → (Int32) → (Nat → Int32) → (Nat → Int32) → (Nat → Int32) → (Nat → Int32) → (Int32) → (Int32) → (Nat → Int32) → (Nat → Int32) → (Nat → Int32) → (Nat → Int32) → (Nat → Int32) → (Nat → Int32) → (Int32) → (Int32) → Option (Int32 × Int32 × Int32 × Int32 × (Nat → Int32) × (Nat → Int32) × (Nat → Int32) × (Nat → Int32) × Int32 × Int32 × (Nat → Int32) × (Nat → Int32) × (Nat → Int32) × (Nat → Int32) × (Nat → Int32) × (Nat → Int32) × Int32 × Int32)) (x2 : Int32) (x3 : Int32) (n_this_setup_counts_cells : Nat) (n_this_setup_thresholds_cells : Nat) (n_this_diary_parts_cells : Nat) (n_this_tiers_cells : Nat) (n_this_belowSince_cells : Nat) (n_this_qualifying_cells : Nat) (v_this_day : Int32) (v_this_windowStart : Int32) (v_this_setup_grace : Int32) (g_this_setup_counts_cells : Nat → Int32) (g_this_setup_thresholds_cells : Nat → Int32) (v_this_cohorts_size : Int32) (g_this_cohorts_lists_cells : Nat → Int32) (g_this_cohorts_days_cells : Nat → Int32) (g_this_cohorts_contributors_cells : Nat → Int32) (g_this_cohorts_points_cells : Nat → Int32) (g_this_qualifying_cells : Nat → Int32) (g_this_totals_cells : Nat → Int32) (g_this_losses_cells : Nat → Int32) : Nat → (Int32) → (Int32) → (Int32) → (Nat → Int32) → (Nat → Int32) → (Nat → Int32) → (Int32) → (Int32) → Option (Int32 × Int32 × Int32 × Int32 × (Nat → Int32) × (Nat → Int32) × (Nat → Int32) × (Nat → Int32) × Int32 × Int32 × (Nat → Int32) × (Nat → Int32) × (Nat → Int32) × (Nat → Int32) × (Nat → Int32) × (Nat → Int32) × Int32 × Int32)
  | 0, _, _, _, _, _, _, _, _ => none
  | n + 1, x4, v_this_diary_next, v_this_diary_size, g_this_diary_parts_cells, g_this_tiers_cells, g_this_belowSince_cells, v_this_standing_tier, v_this_standing_since => ((f_X7_count (3 : Int32) n_this_setup_counts_cells g_this_setup_counts_cells).bind fun r40 => (if r40 ≤ x4 then ((some (x3 + (1 : Int32))).bind fun y58 => (k_4 x2 y58 v_this_day v_this_windowStart v_this_cohorts_size g_this_cohorts_lists_cells g_this_cohorts_days_cells g_this_cohorts_contributors_cells g_this_cohorts_points_cells v_this_diary_next v_this_diary_size g_this_diary_parts_cells g_this_tiers_cells g_this_belowSince_cells g_this_qualifying_cells g_this_totals_cells g_this_losses_cells v_this_standing_tier v_this_standing_since)) else ((f_X0_checkTier N x4 n_this_setup_counts_cells n_this_setup_thresholds_cells n_this_diary_parts_cells n_this_tiers_cells n_this_belowSince_cells n_this_qualifying_cells v_this_day v_this_setup_grace g_this_setup_counts_cells g_this_setup_thresholds_cells v_this_diary_next v_this_diary_size g_this_diary_parts_cells g_this_tiers_cells g_this_belowSince_cells g_this_qualifying_cells).bind fun r49 => ((some (x4 + (1 : Int32))).bind fun y52 => (f_X0_passDays_b33 N k_4 x2 x3 n_this_setup_counts_cells n_this_setup_thresholds_cells n_this_diary_parts_cells n_this_tiers_cells n_this_belowSince_cells n_this_qualifying_cells v_this_day v_this_windowStart v_this_setup_grace g_this_setup_counts_cells g_this_setup_thresholds_cells v_this_cohorts_size g_this_cohorts_lists_cells g_this_cohorts_days_cells g_this_cohorts_contributors_cells g_this_cohorts_points_cells g_this_qualifying_cells g_this_totals_cells g_this_losses_cells n y52 r49.1 r49.2.1 r49.2.2.1 r49.2.2.2.1 r49.2.2.2.2.1 r49.2.2.2.2.2.1 r49.2.2.2.2.2.2)))))
def f_X0_passDays_b4 (N : Nat) (x1 : Int32) (n_this_setup_counts_cells : Nat) (n_this_setup_thresholds_cells : Nat) (n_this_cohorts_lists_cells : Nat) (n_this_cohorts_days_cells : Nat) (n_this_cohorts_contributors_cells : Nat) (n_this_cohorts_points_cells : Nat) (n_this_purchases_parts_cells : Nat) (n_this_diary_parts_cells : Nat) (n_this_tiers_cells : Nat) (n_this_belowSince_cells : Nat) (n_this_qualifying_cells : Nat) (n_this_totals_cells : Nat) (n_this_losses_cells : Nat) (v_this_setup_window : Int32) (v_this_setup_grace : Int32) (g_this_setup_counts_cells : Nat → Int32) (g_this_setup_thresholds_cells : Nat → Int32) (v_this_purchases_count : Int32) (g_this_purchases_parts_cells : Nat → Int32) : Nat → (Int32) → (Int32) → (Int32) → (Int32) → (Int32) → (Nat → Int32) → (Nat → Int32) → (Nat → Int32) → (Nat → Int32) → (Int32) → (Int32) → (Nat → Int32) → (Nat → Int32) → (Nat → Int32) → (Nat → Int32) → (Nat → Int32) → (Nat → Int32) → (Int32) → (Int32) → Option (Int32 × Int32 × Int32 × Int32 × (Nat → Int32) × (Nat → Int32) × (Nat → Int32) × (Nat → Int32) × Int32 × Int32 × (Nat → Int32) × (Nat → Int32) × (Nat → Int32) × (Nat → Int32) × (Nat → Int32) × (Nat → Int32) × Int32 × Int32)
  | 0, _, _, _, _, _, _, _, _, _, _, _, _, _, _, _, _, _, _, _ => none
  | n + 1, x2, x3, v_this_day, v_this_windowStart, v_this_cohorts_size, g_this_cohorts_lists_cells, g_this_cohorts_days_cells, g_this_cohorts_contributors_cells, g_this_cohorts_points_cells, v_this_diary_next, v_this_diary_size, g_this_diary_parts_cells, g_this_tiers_cells, g_this_belowSince_cells, g_this_qualifying_cells, g_this_totals_cells, g_this_losses_cells, v_this_standing_tier, v_this_standing_since => (if x1 ≤ x3 then (some (x2, v_this_day, v_this_windowStart, v_this_cohorts_size, g_this_cohorts_lists_cells, g_this_cohorts_days_cells, g_this_cohorts_contributors_cells, g_this_cohorts_points_cells, v_this_diary_next, v_this_diary_size, g_this_diary_parts_cells, g_this_tiers_cells, g_this_belowSince_cells, g_this_qualifying_cells, g_this_totals_cells, g_this_losses_cells, v_this_standing_tier, v_this_standing_since)) else ((f_X0_expire N n_this_cohorts_lists_cells n_this_cohorts_days_cells n_this_cohorts_contributors_cells n_this_cohorts_points_cells n_this_diary_parts_cells n_this_totals_cells n_this_losses_cells (v_this_day + (1 : Int32)) v_this_cohorts_size g_this_cohorts_lists_cells g_this_cohorts_days_cells g_this_cohorts_contributors_cells g_this_cohorts_points_cells v_this_diary_next v_this_diary_size g_this_diary_parts_cells g_this_totals_cells g_this_losses_cells).bind fun r21 => ((some (x2 + r21.1)).bind fun y25 => ((f_X0_shrinkWindow N n_this_setup_counts_cells n_this_purchases_parts_cells n_this_qualifying_cells (v_this_day + (1 : Int32)) v_this_windowStart v_this_setup_window g_this_setup_counts_cells v_this_purchases_count g_this_purchases_parts_cells g_this_qualifying_cells).bind fun r27 => (f_X0_passDays_b33 N (f_X0_passDays_b4 N x1 n_this_setup_counts_cells n_this_setup_thresholds_cells n_this_cohorts_lists_cells n_this_cohorts_days_cells n_this_cohorts_contributors_cells n_this_cohorts_points_cells n_this_purchases_parts_cells n_this_diary_parts_cells n_this_tiers_cells n_this_belowSince_cells n_this_qualifying_cells n_this_totals_cells n_this_losses_cells v_this_setup_window v_this_setup_grace g_this_setup_counts_cells g_this_setup_thresholds_cells v_this_purchases_count g_this_purchases_parts_cells n) y25 x3 n_this_setup_counts_cells n_this_setup_thresholds_cells n_this_diary_parts_cells n_this_tiers_cells n_this_belowSince_cells n_this_qualifying_cells (v_this_day + (1 : Int32)) r27.1 v_this_setup_grace g_this_setup_counts_cells g_this_setup_thresholds_cells r21.2.1 r21.2.2.1 r21.2.2.2.1 r21.2.2.2.2.1 r21.2.2.2.2.2.1 r27.2 r21.2.2.2.2.2.2.2.2.2.1 r21.2.2.2.2.2.2.2.2.2.2 N (0 : Int32) r21.2.2.2.2.2.2.1 r21.2.2.2.2.2.2.2.1 r21.2.2.2.2.2.2.2.2.1 g_this_tiers_cells g_this_belowSince_cells v_this_standing_tier v_this_standing_since)))))
def f_X0_passDays (N : Nat) (x1 : Int32) (n_this_setup_counts_cells : Nat) (n_this_setup_thresholds_cells : Nat) (n_this_cohorts_lists_cells : Nat) (n_this_cohorts_days_cells : Nat) (n_this_cohorts_contributors_cells : Nat) (n_this_cohorts_points_cells : Nat) (n_this_purchases_parts_cells : Nat) (n_this_diary_parts_cells : Nat) (n_this_tiers_cells : Nat) (n_this_belowSince_cells : Nat) (n_this_qualifying_cells : Nat) (n_this_totals_cells : Nat) (n_this_losses_cells : Nat) (v_this_day : Int32) (v_this_windowStart : Int32) (v_this_setup_window : Int32) (v_this_setup_grace : Int32) (g_this_setup_counts_cells : Nat → Int32) (g_this_setup_thresholds_cells : Nat → Int32) (v_this_cohorts_size : Int32) (g_this_cohorts_lists_cells : Nat → Int32) (g_this_cohorts_days_cells : Nat → Int32) (g_this_cohorts_contributors_cells : Nat → Int32) (g_this_cohorts_points_cells : Nat → Int32) (v_this_purchases_count : Int32) (g_this_purchases_parts_cells : Nat → Int32) (v_this_diary_next : Int32) (v_this_diary_size : Int32) (g_this_diary_parts_cells : Nat → Int32) (g_this_tiers_cells : Nat → Int32) (g_this_belowSince_cells : Nat → Int32) (g_this_qualifying_cells : Nat → Int32) (g_this_totals_cells : Nat → Int32) (g_this_losses_cells : Nat → Int32) (v_this_standing_tier : Int32) (v_this_standing_since : Int32) : Option (Int32 × Int32 × Int32 × Int32 × (Nat → Int32) × (Nat → Int32) × (Nat → Int32) × (Nat → Int32) × Int32 × Int32 × (Nat → Int32) × (Nat → Int32) × (Nat → Int32) × (Nat → Int32) × (Nat → Int32) × (Nat → Int32) × Int32 × Int32) :=
  (f_X0_passDays_b4 N x1 n_this_setup_counts_cells n_this_setup_thresholds_cells n_this_cohorts_lists_cells n_this_cohorts_days_cells n_this_cohorts_contributors_cells n_this_cohorts_points_cells n_this_purchases_parts_cells n_this_diary_parts_cells n_this_tiers_cells n_this_belowSince_cells n_this_qualifying_cells n_this_totals_cells n_this_losses_cells v_this_setup_window v_this_setup_grace g_this_setup_counts_cells g_this_setup_thresholds_cells v_this_purchases_count g_this_purchases_parts_cells N (0 : Int32) (0 : Int32) v_this_day v_this_windowStart v_this_cohorts_size g_this_cohorts_lists_cells g_this_cohorts_days_cells g_this_cohorts_contributors_cells g_this_cohorts_points_cells v_this_diary_next v_this_diary_size g_this_diary_parts_cells g_this_tiers_cells g_this_belowSince_cells g_this_qualifying_cells g_this_totals_cells g_this_losses_cells v_this_standing_tier v_this_standing_since)
set_option maxHeartbeats 4000000 in
set_option maxRecDepth 100000 in
theorem t_X0_passDays_b33 {l : Launch} {D : va_G} {cI cB cL cO : ClassId} {pf : Nat → Nat} {p : Program} {e : Env} {s : State} {m : MethodId} {args : Array Value} {below : List Frame} {meth : Method} {c : Code} {W0 : va_W} {a_this a_this_setup a_this_cohorts a_this_purchases a_this_diary a_this_tiers a_this_belowSince a_this_debts a_this_homes a_this_qualifying a_this_shares a_this_redeemed a_this_totals a_this_losses a_this_balances a_this_standing a_this_setup_counts a_this_setup_names a_this_setup_thresholds a_this_setup_bonuses a_this_setup_rates a_this_setup_caps a_this_setup_promoCategories a_this_setup_promoFirstDays a_this_setup_promoLastDays a_this_setup_promoExtras a_this_setup_shares a_this_setup_counts_cells a_this_setup_thresholds_cells a_this_cohorts_lists a_this_cohorts_days a_this_cohorts_contributors a_this_cohorts_points a_this_cohorts_lists_cells a_this_cohorts_days_cells a_this_cohorts_contributors_cells a_this_cohorts_points_cells a_this_purchases_parts a_this_purchases_parts_cells a_this_diary_parts a_this_diary_parts_cells a_this_tiers_cells a_this_belowSince_cells a_this_qualifying_cells a_this_totals_cells a_this_losses_cells : Nat} {N : Nat}  {n_this_setup_counts_cells : Nat} {n_this_setup_thresholds_cells : Nat} {n_this_cohorts_lists_cells : Nat} {n_this_cohorts_days_cells : Nat} {n_this_cohorts_contributors_cells : Nat} {n_this_cohorts_points_cells : Nat} {n_this_purchases_parts_cells : Nat} {n_this_diary_parts_cells : Nat} {n_this_tiers_cells : Nat} {n_this_belowSince_cells : Nat} {n_this_qualifying_cells : Nat} {n_this_totals_cells : Nat} {n_this_losses_cells : Nat} {v_this_day : Int32} {v_this_windowStart : Int32} {v_this_setup_life : Int32} {v_this_setup_window : Int32} {v_this_setup_grace : Int32} {g_this_setup_counts_cells : Nat → Int32} {g_this_setup_thresholds_cells : Nat → Int32} {v_this_cohorts_size : Int32} {g_this_cohorts_lists_cells : Nat → Int32} {g_this_cohorts_days_cells : Nat → Int32} {g_this_cohorts_contributors_cells : Nat → Int32} {g_this_cohorts_points_cells : Nat → Int32} {v_this_purchases_count : Int32} {g_this_purchases_parts_cells : Nat → Int32} {g_this_qualifying_cells : Nat → Int32} {g_this_totals_cells : Nat → Int32} {g_this_losses_cells : Nat → Int32} {x1 : Int32} {x2 : Int32} {x3 : Int32} {o : Int32 × Int32 × Int32 × Int32 × (Nat → Int32) × (Nat → Int32) × (Nat → Int32) × (Nat → Int32) × Int32 × Int32 × (Nat → Int32) × (Nat → Int32) × (Nat → Int32) × (Nat → Int32) × (Nat → Int32) × (Nat → Int32) × Int32 × Int32} (C : jC p s m args meth c cX0_passDays 5 RX0 D [(cI, .int), (cB, .byte), (cL, .byte), (cO, .object RX0)] pf (va_A W0 s.heap.size)) (hr : meth.sig.returnType = (some FieldType.int)) {k_4 : (Int32) → (Int32) → (Int32) → (Int32) → (Int32) → (Nat → Int32) → (Nat → Int32) → (Nat → Int32) → (Nat → Int32) → (Int32) → (Int32) → (Nat → Int32) → (Nat → Int32) → (Nat → Int32) → (Nat → Int32) → (Nat → Int32) → (Nat → Int32) → (Int32) → (Int32) → Option (Int32 × Int32 × Int32 × Int32 × (Nat → Int32) × (Nat → Int32) × (Nat → Int32) × (Nat → Int32) × Int32 × Int32 × (Nat → Int32) × (Nat → Int32) × (Nat → Int32) × (Nat → Int32) × (Nat → Int32) × (Nat → Int32) × Int32 × Int32)} (hk_4 : ∀ (x2 : Int32) (x3 : Int32) (v_this_day : Int32) (v_this_windowStart : Int32) (v_this_cohorts_size : Int32) (g_this_cohorts_lists_cells : Nat → Int32) (g_this_cohorts_days_cells : Nat → Int32) (g_this_cohorts_contributors_cells : Nat → Int32) (g_this_cohorts_points_cells : Nat → Int32) (v_this_diary_next : Int32) (v_this_diary_size : Int32) (g_this_diary_parts_cells : Nat → Int32) (g_this_tiers_cells : Nat → Int32) (g_this_belowSince_cells : Nat → Int32) (g_this_qualifying_cells : Nat → Int32) (g_this_totals_cells : Nat → Int32) (g_this_losses_cells : Nat → Int32) (v_this_standing_tier : Int32) (v_this_standing_since : Int32), k_4 x2 x3 v_this_day v_this_windowStart v_this_cohorts_size g_this_cohorts_lists_cells g_this_cohorts_days_cells g_this_cohorts_contributors_cells g_this_cohorts_points_cells v_this_diary_next v_this_diary_size g_this_diary_parts_cells g_this_tiers_cells g_this_belowSince_cells g_this_qualifying_cells g_this_totals_cells g_this_losses_cells v_this_standing_tier v_this_standing_since = some o → J p l e { frames := 4, cells := 0, slots := 0, locals := 130 } s m args below meth c 5 D (va_A W0 s.heap.size) (MQ below (jQ D [(cI, .int), (cB, .byte), (cL, .byte), (cO, .object RX0)] W0 s.heap.size (is1 (some (.int o.1)) [(a_this, .inr (0, [.ref a_this_setup, .ref a_this_cohorts, .ref a_this_purchases, .ref a_this_diary, .ref a_this_tiers, .ref a_this_belowSince, .ref a_this_debts, .ref a_this_homes, .ref a_this_qualifying, .ref a_this_shares, .ref a_this_redeemed, .ref a_this_totals, .ref a_this_losses, .ref a_this_balances, .ref a_this_standing, .int o.2.1, .int o.2.2.1])), (a_this_setup, .inr (7, [.ref a_this_setup_counts, .ref a_this_setup_names, .ref a_this_setup_thresholds, .ref a_this_setup_bonuses, .ref a_this_setup_rates, .ref a_this_setup_caps, .ref a_this_setup_promoCategories, .ref a_this_setup_promoFirstDays, .ref a_this_setup_promoLastDays, .ref a_this_setup_promoExtras, .ref a_this_setup_shares, .int v_this_setup_life, .int v_this_setup_window, .int v_this_setup_grace])), (a_this_setup_counts, .inr (6, [.ref a_this_setup_counts_cells])), (a_this_setup_counts_cells, .inl (cI, n_this_setup_counts_cells, .inl g_this_setup_counts_cells)), (a_this_setup_thresholds, .inr (6, [.ref a_this_setup_thresholds_cells])), (a_this_setup_thresholds_cells, .inl (cI, n_this_setup_thresholds_cells, .inl g_this_setup_thresholds_cells)), (a_this_cohorts, .inr (1, [.ref a_this_cohorts_lists, .ref a_this_cohorts_days, .ref a_this_cohorts_contributors, .ref a_this_cohorts_points, .int o.2.2.2.1])), (a_this_cohorts_lists, .inr (6, [.ref a_this_cohorts_lists_cells])), (a_this_cohorts_lists_cells, .inl (cI, n_this_cohorts_lists_cells, .inl o.2.2.2.2.1)), (a_this_cohorts_days, .inr (6, [.ref a_this_cohorts_days_cells])), (a_this_cohorts_days_cells, .inl (cI, n_this_cohorts_days_cells, .inl o.2.2.2.2.2.1)), (a_this_cohorts_contributors, .inr (6, [.ref a_this_cohorts_contributors_cells])), (a_this_cohorts_contributors_cells, .inl (cI, n_this_cohorts_contributors_cells, .inl o.2.2.2.2.2.2.1)), (a_this_cohorts_points, .inr (6, [.ref a_this_cohorts_points_cells])), (a_this_cohorts_points_cells, .inl (cI, n_this_cohorts_points_cells, .inl o.2.2.2.2.2.2.2.1)), (a_this_purchases, .inr (5, [.ref a_this_purchases_parts, .int v_this_purchases_count])), (a_this_purchases_parts, .inr (6, [.ref a_this_purchases_parts_cells])), (a_this_purchases_parts_cells, .inl (cI, n_this_purchases_parts_cells, .inl g_this_purchases_parts_cells)), (a_this_diary, .inr (4, [.ref a_this_diary_parts, .int o.2.2.2.2.2.2.2.2.1, .int o.2.2.2.2.2.2.2.2.2.1])), (a_this_diary_parts, .inr (6, [.ref a_this_diary_parts_cells])), (a_this_diary_parts_cells, .inl (cI, n_this_diary_parts_cells, .inl o.2.2.2.2.2.2.2.2.2.2.1)), (a_this_tiers, .inr (6, [.ref a_this_tiers_cells])), (a_this_tiers_cells, .inl (cI, n_this_tiers_cells, .inl o.2.2.2.2.2.2.2.2.2.2.2.1)), (a_this_belowSince, .inr (6, [.ref a_this_belowSince_cells])), (a_this_belowSince_cells, .inl (cI, n_this_belowSince_cells, .inl o.2.2.2.2.2.2.2.2.2.2.2.2.1)), (a_this_qualifying, .inr (6, [.ref a_this_qualifying_cells])), (a_this_qualifying_cells, .inl (cI, n_this_qualifying_cells, .inl o.2.2.2.2.2.2.2.2.2.2.2.2.2.1)), (a_this_totals, .inr (6, [.ref a_this_totals_cells])), (a_this_totals_cells, .inl (cI, n_this_totals_cells, .inl o.2.2.2.2.2.2.2.2.2.2.2.2.2.2.1)), (a_this_losses, .inr (6, [.ref a_this_losses_cells])), (a_this_losses_cells, .inl (cI, n_this_losses_cells, .inl o.2.2.2.2.2.2.2.2.2.2.2.2.2.2.2.1)), (a_this_standing, .inr (9, [.int o.2.2.2.2.2.2.2.2.2.2.2.2.2.2.2.2.1, .int o.2.2.2.2.2.2.2.2.2.2.2.2.2.2.2.2.2]))])) args s 0 0 (va_A W0 s.heap.size)) 0 0 4 [(0, .ref a_this), (1, .int x1), (2, .int x2), (3, .int x3)] [] [(a_this, .inr (0, [.ref a_this_setup, .ref a_this_cohorts, .ref a_this_purchases, .ref a_this_diary, .ref a_this_tiers, .ref a_this_belowSince, .ref a_this_debts, .ref a_this_homes, .ref a_this_qualifying, .ref a_this_shares, .ref a_this_redeemed, .ref a_this_totals, .ref a_this_losses, .ref a_this_balances, .ref a_this_standing, .int v_this_day, .int v_this_windowStart])), (a_this_setup, .inr (7, [.ref a_this_setup_counts, .ref a_this_setup_names, .ref a_this_setup_thresholds, .ref a_this_setup_bonuses, .ref a_this_setup_rates, .ref a_this_setup_caps, .ref a_this_setup_promoCategories, .ref a_this_setup_promoFirstDays, .ref a_this_setup_promoLastDays, .ref a_this_setup_promoExtras, .ref a_this_setup_shares, .int v_this_setup_life, .int v_this_setup_window, .int v_this_setup_grace])), (a_this_setup_counts, .inr (6, [.ref a_this_setup_counts_cells])), (a_this_setup_counts_cells, .inl (cI, n_this_setup_counts_cells, .inl g_this_setup_counts_cells)), (a_this_setup_thresholds, .inr (6, [.ref a_this_setup_thresholds_cells])), (a_this_setup_thresholds_cells, .inl (cI, n_this_setup_thresholds_cells, .inl g_this_setup_thresholds_cells)), (a_this_cohorts, .inr (1, [.ref a_this_cohorts_lists, .ref a_this_cohorts_days, .ref a_this_cohorts_contributors, .ref a_this_cohorts_points, .int v_this_cohorts_size])), (a_this_cohorts_lists, .inr (6, [.ref a_this_cohorts_lists_cells])), (a_this_cohorts_lists_cells, .inl (cI, n_this_cohorts_lists_cells, .inl g_this_cohorts_lists_cells)), (a_this_cohorts_days, .inr (6, [.ref a_this_cohorts_days_cells])), (a_this_cohorts_days_cells, .inl (cI, n_this_cohorts_days_cells, .inl g_this_cohorts_days_cells)), (a_this_cohorts_contributors, .inr (6, [.ref a_this_cohorts_contributors_cells])), (a_this_cohorts_contributors_cells, .inl (cI, n_this_cohorts_contributors_cells, .inl g_this_cohorts_contributors_cells)), (a_this_cohorts_points, .inr (6, [.ref a_this_cohorts_points_cells])), (a_this_cohorts_points_cells, .inl (cI, n_this_cohorts_points_cells, .inl g_this_cohorts_points_cells)), (a_this_purchases, .inr (5, [.ref a_this_purchases_parts, .int v_this_purchases_count])), (a_this_purchases_parts, .inr (6, [.ref a_this_purchases_parts_cells])), (a_this_purchases_parts_cells, .inl (cI, n_this_purchases_parts_cells, .inl g_this_purchases_parts_cells)), (a_this_diary, .inr (4, [.ref a_this_diary_parts, .int v_this_diary_next, .int v_this_diary_size])), (a_this_diary_parts, .inr (6, [.ref a_this_diary_parts_cells])), (a_this_diary_parts_cells, .inl (cI, n_this_diary_parts_cells, .inl g_this_diary_parts_cells)), (a_this_tiers, .inr (6, [.ref a_this_tiers_cells])), (a_this_tiers_cells, .inl (cI, n_this_tiers_cells, .inl g_this_tiers_cells)), (a_this_belowSince, .inr (6, [.ref a_this_belowSince_cells])), (a_this_belowSince_cells, .inl (cI, n_this_belowSince_cells, .inl g_this_belowSince_cells)), (a_this_qualifying, .inr (6, [.ref a_this_qualifying_cells])), (a_this_qualifying_cells, .inl (cI, n_this_qualifying_cells, .inl g_this_qualifying_cells)), (a_this_totals, .inr (6, [.ref a_this_totals_cells])), (a_this_totals_cells, .inl (cI, n_this_totals_cells, .inl g_this_totals_cells)), (a_this_losses, .inr (6, [.ref a_this_losses_cells])), (a_this_losses_cells, .inl (cI, n_this_losses_cells, .inl g_this_losses_cells)), (a_this_standing, .inr (9, [.int v_this_standing_tier, .int v_this_standing_since]))]) : ∀ (n : Nat) (x4 : Int32) (v_this_diary_next : Int32) (v_this_diary_size : Int32) (g_this_diary_parts_cells : Nat → Int32) (g_this_tiers_cells : Nat → Int32) (g_this_belowSince_cells : Nat → Int32) (v_this_standing_tier : Int32) (v_this_standing_since : Int32), f_X0_passDays_b33 N k_4 x2 x3 n_this_setup_counts_cells n_this_setup_thresholds_cells n_this_diary_parts_cells n_this_tiers_cells n_this_belowSince_cells n_this_qualifying_cells v_this_day v_this_windowStart v_this_setup_grace g_this_setup_counts_cells g_this_setup_thresholds_cells v_this_cohorts_size g_this_cohorts_lists_cells g_this_cohorts_days_cells g_this_cohorts_contributors_cells g_this_cohorts_points_cells g_this_qualifying_cells g_this_totals_cells g_this_losses_cells n x4 v_this_diary_next v_this_diary_size g_this_diary_parts_cells g_this_tiers_cells g_this_belowSince_cells v_this_standing_tier v_this_standing_since = some o → J p l e { frames := 4, cells := 0, slots := 0, locals := 130 } s m args below meth c 5 D (va_A W0 s.heap.size) (MQ below (jQ D [(cI, .int), (cB, .byte), (cL, .byte), (cO, .object RX0)] W0 s.heap.size (is1 (some (.int o.1)) [(a_this, .inr (0, [.ref a_this_setup, .ref a_this_cohorts, .ref a_this_purchases, .ref a_this_diary, .ref a_this_tiers, .ref a_this_belowSince, .ref a_this_debts, .ref a_this_homes, .ref a_this_qualifying, .ref a_this_shares, .ref a_this_redeemed, .ref a_this_totals, .ref a_this_losses, .ref a_this_balances, .ref a_this_standing, .int o.2.1, .int o.2.2.1])), (a_this_setup, .inr (7, [.ref a_this_setup_counts, .ref a_this_setup_names, .ref a_this_setup_thresholds, .ref a_this_setup_bonuses, .ref a_this_setup_rates, .ref a_this_setup_caps, .ref a_this_setup_promoCategories, .ref a_this_setup_promoFirstDays, .ref a_this_setup_promoLastDays, .ref a_this_setup_promoExtras, .ref a_this_setup_shares, .int v_this_setup_life, .int v_this_setup_window, .int v_this_setup_grace])), (a_this_setup_counts, .inr (6, [.ref a_this_setup_counts_cells])), (a_this_setup_counts_cells, .inl (cI, n_this_setup_counts_cells, .inl g_this_setup_counts_cells)), (a_this_setup_thresholds, .inr (6, [.ref a_this_setup_thresholds_cells])), (a_this_setup_thresholds_cells, .inl (cI, n_this_setup_thresholds_cells, .inl g_this_setup_thresholds_cells)), (a_this_cohorts, .inr (1, [.ref a_this_cohorts_lists, .ref a_this_cohorts_days, .ref a_this_cohorts_contributors, .ref a_this_cohorts_points, .int o.2.2.2.1])), (a_this_cohorts_lists, .inr (6, [.ref a_this_cohorts_lists_cells])), (a_this_cohorts_lists_cells, .inl (cI, n_this_cohorts_lists_cells, .inl o.2.2.2.2.1)), (a_this_cohorts_days, .inr (6, [.ref a_this_cohorts_days_cells])), (a_this_cohorts_days_cells, .inl (cI, n_this_cohorts_days_cells, .inl o.2.2.2.2.2.1)), (a_this_cohorts_contributors, .inr (6, [.ref a_this_cohorts_contributors_cells])), (a_this_cohorts_contributors_cells, .inl (cI, n_this_cohorts_contributors_cells, .inl o.2.2.2.2.2.2.1)), (a_this_cohorts_points, .inr (6, [.ref a_this_cohorts_points_cells])), (a_this_cohorts_points_cells, .inl (cI, n_this_cohorts_points_cells, .inl o.2.2.2.2.2.2.2.1)), (a_this_purchases, .inr (5, [.ref a_this_purchases_parts, .int v_this_purchases_count])), (a_this_purchases_parts, .inr (6, [.ref a_this_purchases_parts_cells])), (a_this_purchases_parts_cells, .inl (cI, n_this_purchases_parts_cells, .inl g_this_purchases_parts_cells)), (a_this_diary, .inr (4, [.ref a_this_diary_parts, .int o.2.2.2.2.2.2.2.2.1, .int o.2.2.2.2.2.2.2.2.2.1])), (a_this_diary_parts, .inr (6, [.ref a_this_diary_parts_cells])), (a_this_diary_parts_cells, .inl (cI, n_this_diary_parts_cells, .inl o.2.2.2.2.2.2.2.2.2.2.1)), (a_this_tiers, .inr (6, [.ref a_this_tiers_cells])), (a_this_tiers_cells, .inl (cI, n_this_tiers_cells, .inl o.2.2.2.2.2.2.2.2.2.2.2.1)), (a_this_belowSince, .inr (6, [.ref a_this_belowSince_cells])), (a_this_belowSince_cells, .inl (cI, n_this_belowSince_cells, .inl o.2.2.2.2.2.2.2.2.2.2.2.2.1)), (a_this_qualifying, .inr (6, [.ref a_this_qualifying_cells])), (a_this_qualifying_cells, .inl (cI, n_this_qualifying_cells, .inl o.2.2.2.2.2.2.2.2.2.2.2.2.2.1)), (a_this_totals, .inr (6, [.ref a_this_totals_cells])), (a_this_totals_cells, .inl (cI, n_this_totals_cells, .inl o.2.2.2.2.2.2.2.2.2.2.2.2.2.2.1)), (a_this_losses, .inr (6, [.ref a_this_losses_cells])), (a_this_losses_cells, .inl (cI, n_this_losses_cells, .inl o.2.2.2.2.2.2.2.2.2.2.2.2.2.2.2.1)), (a_this_standing, .inr (9, [.int o.2.2.2.2.2.2.2.2.2.2.2.2.2.2.2.2.1, .int o.2.2.2.2.2.2.2.2.2.2.2.2.2.2.2.2.2]))])) args s 0 0 (va_A W0 s.heap.size)) 0 0 33 [(0, .ref a_this), (1, .int x1), (2, .int x2), (3, .int x3), (4, .int x4)] [] [(a_this, .inr (0, [.ref a_this_setup, .ref a_this_cohorts, .ref a_this_purchases, .ref a_this_diary, .ref a_this_tiers, .ref a_this_belowSince, .ref a_this_debts, .ref a_this_homes, .ref a_this_qualifying, .ref a_this_shares, .ref a_this_redeemed, .ref a_this_totals, .ref a_this_losses, .ref a_this_balances, .ref a_this_standing, .int v_this_day, .int v_this_windowStart])), (a_this_setup, .inr (7, [.ref a_this_setup_counts, .ref a_this_setup_names, .ref a_this_setup_thresholds, .ref a_this_setup_bonuses, .ref a_this_setup_rates, .ref a_this_setup_caps, .ref a_this_setup_promoCategories, .ref a_this_setup_promoFirstDays, .ref a_this_setup_promoLastDays, .ref a_this_setup_promoExtras, .ref a_this_setup_shares, .int v_this_setup_life, .int v_this_setup_window, .int v_this_setup_grace])), (a_this_setup_counts, .inr (6, [.ref a_this_setup_counts_cells])), (a_this_setup_counts_cells, .inl (cI, n_this_setup_counts_cells, .inl g_this_setup_counts_cells)), (a_this_setup_thresholds, .inr (6, [.ref a_this_setup_thresholds_cells])), (a_this_setup_thresholds_cells, .inl (cI, n_this_setup_thresholds_cells, .inl g_this_setup_thresholds_cells)), (a_this_cohorts, .inr (1, [.ref a_this_cohorts_lists, .ref a_this_cohorts_days, .ref a_this_cohorts_contributors, .ref a_this_cohorts_points, .int v_this_cohorts_size])), (a_this_cohorts_lists, .inr (6, [.ref a_this_cohorts_lists_cells])), (a_this_cohorts_lists_cells, .inl (cI, n_this_cohorts_lists_cells, .inl g_this_cohorts_lists_cells)), (a_this_cohorts_days, .inr (6, [.ref a_this_cohorts_days_cells])), (a_this_cohorts_days_cells, .inl (cI, n_this_cohorts_days_cells, .inl g_this_cohorts_days_cells)), (a_this_cohorts_contributors, .inr (6, [.ref a_this_cohorts_contributors_cells])), (a_this_cohorts_contributors_cells, .inl (cI, n_this_cohorts_contributors_cells, .inl g_this_cohorts_contributors_cells)), (a_this_cohorts_points, .inr (6, [.ref a_this_cohorts_points_cells])), (a_this_cohorts_points_cells, .inl (cI, n_this_cohorts_points_cells, .inl g_this_cohorts_points_cells)), (a_this_purchases, .inr (5, [.ref a_this_purchases_parts, .int v_this_purchases_count])), (a_this_purchases_parts, .inr (6, [.ref a_this_purchases_parts_cells])), (a_this_purchases_parts_cells, .inl (cI, n_this_purchases_parts_cells, .inl g_this_purchases_parts_cells)), (a_this_diary, .inr (4, [.ref a_this_diary_parts, .int v_this_diary_next, .int v_this_diary_size])), (a_this_diary_parts, .inr (6, [.ref a_this_diary_parts_cells])), (a_this_diary_parts_cells, .inl (cI, n_this_diary_parts_cells, .inl g_this_diary_parts_cells)), (a_this_tiers, .inr (6, [.ref a_this_tiers_cells])), (a_this_tiers_cells, .inl (cI, n_this_tiers_cells, .inl g_this_tiers_cells)), (a_this_belowSince, .inr (6, [.ref a_this_belowSince_cells])), (a_this_belowSince_cells, .inl (cI, n_this_belowSince_cells, .inl g_this_belowSince_cells)), (a_this_qualifying, .inr (6, [.ref a_this_qualifying_cells])), (a_this_qualifying_cells, .inl (cI, n_this_qualifying_cells, .inl g_this_qualifying_cells)), (a_this_totals, .inr (6, [.ref a_this_totals_cells])), (a_this_totals_cells, .inl (cI, n_this_totals_cells, .inl g_this_totals_cells)), (a_this_losses, .inr (6, [.ref a_this_losses_cells])), (a_this_losses_cells, .inl (cI, n_this_losses_cells, .inl g_this_losses_cells)), (a_this_standing, .inr (9, [.int v_this_standing_tier, .int v_this_standing_since]))] := by
  intro n
  induction n with
  | zero =>
    intro _ _ _ _ _ _ _ _ h
    rw [f_X0_passDays_b33] at h
    cases h
  | succ n ih =>
    intro x4 v_this_diary_next v_this_diary_size g_this_diary_parts_cells g_this_tiers_cells g_this_belowSince_cells v_this_standing_tier v_this_standing_since h
    rw [f_X0_passDays_b33] at h
    refine J_iload (pc := 33) C dX0_passDays_33 4 rfl ?_
    refine J_aload_n (pc := 35) C dX0_passDays_35 0 rfl ?_
    refine J_get (pc := 36) C dX0_passDays_36 jf_X0 0 rfl rfl 0 (by decide) rfl fl_RX0_9 rfl ?_
    refine J_iconst (v := (3 : Int32)) (pc := 39) C dX0_passDays_39 (by decide) ?_
    refine J_cvr (pc := 40) (As := [.int (3 : Int32)]) (st := [.int x4]) C dX0_passDays_40 ml_RX0_134 mi_yX7_count (fun r40 hr => c_X7_count l D cI cB cL cO pf 0 a_this_setup a_this_setup_counts a_this_setup_names a_this_setup_thresholds a_this_setup_bonuses a_this_setup_rates a_this_setup_caps a_this_setup_promoCategories a_this_setup_promoFirstDays a_this_setup_promoLastDays a_this_setup_promoExtras a_this_setup_shares a_this_setup_counts_cells n_this_setup_counts_cells v_this_setup_life v_this_setup_window v_this_setup_grace g_this_setup_counts_cells (3 : Int32) r40 hr) h [1, 2, 3] rfl rfl rfl rfl rfl ⟨rfl, rfl⟩ ⟨(Nat.le_of_ble_eq_true rfl), (Nat.le_of_ble_eq_true rfl)⟩ ⟨Nat.zero_le _, Nat.zero_le _⟩ (Nat.le_of_ble_eq_true rfl) (fun r40 h => ?_)
    refine J_ic_ge (pc := 43) (tgt := 58) C dX0_passDays_43 (by decide) h (fun h => ?_) (fun h => ?_)
    · refine J_iincN (pc := 58) (v := (1 : Int32)) C (fun y58 => [(3, .int y58), (0, .ref a_this), (1, .int x1), (2, .int x2), (4, .int x4)]) dX0_passDays_58 3 rfl (by decide) h (by decide) (fun _ => rfl) (fun y58 h => ?_)
      refine J_goto (tgt := 4) (pc := 61) C dX0_passDays_61 (by decide) ?_
      refine J_sub (lv2 := [(0, .ref a_this), (1, .int x1), (2, .int x2), (3, .int y58)]) [1, 2, 3, 0] rfl ?_
      exact hk_4 _ _ _ _ _ _ _ _ _ _ _ _ _ _ _ _ _ _ _ h
    · refine J_aload_n (pc := 46) C dX0_passDays_46 0 rfl ?_
      refine J_iload (pc := 47) C dX0_passDays_47 4 rfl ?_
      refine J_cvw (pc := 49) (As := [.int x4]) (st := []) C (fun r49 => [(a_this, .inr (0, [.ref a_this_setup, .ref a_this_cohorts, .ref a_this_purchases, .ref a_this_diary, .ref a_this_tiers, .ref a_this_belowSince, .ref a_this_debts, .ref a_this_homes, .ref a_this_qualifying, .ref a_this_shares, .ref a_this_redeemed, .ref a_this_totals, .ref a_this_losses, .ref a_this_balances, .ref a_this_standing, .int v_this_day, .int v_this_windowStart])), (a_this_setup, .inr (7, [.ref a_this_setup_counts, .ref a_this_setup_names, .ref a_this_setup_thresholds, .ref a_this_setup_bonuses, .ref a_this_setup_rates, .ref a_this_setup_caps, .ref a_this_setup_promoCategories, .ref a_this_setup_promoFirstDays, .ref a_this_setup_promoLastDays, .ref a_this_setup_promoExtras, .ref a_this_setup_shares, .int v_this_setup_life, .int v_this_setup_window, .int v_this_setup_grace])), (a_this_setup_counts, .inr (6, [.ref a_this_setup_counts_cells])), (a_this_setup_counts_cells, .inl (cI, n_this_setup_counts_cells, .inl g_this_setup_counts_cells)), (a_this_setup_thresholds, .inr (6, [.ref a_this_setup_thresholds_cells])), (a_this_setup_thresholds_cells, .inl (cI, n_this_setup_thresholds_cells, .inl g_this_setup_thresholds_cells)), (a_this_cohorts, .inr (1, [.ref a_this_cohorts_lists, .ref a_this_cohorts_days, .ref a_this_cohorts_contributors, .ref a_this_cohorts_points, .int v_this_cohorts_size])), (a_this_cohorts_lists, .inr (6, [.ref a_this_cohorts_lists_cells])), (a_this_cohorts_lists_cells, .inl (cI, n_this_cohorts_lists_cells, .inl g_this_cohorts_lists_cells)), (a_this_cohorts_days, .inr (6, [.ref a_this_cohorts_days_cells])), (a_this_cohorts_days_cells, .inl (cI, n_this_cohorts_days_cells, .inl g_this_cohorts_days_cells)), (a_this_cohorts_contributors, .inr (6, [.ref a_this_cohorts_contributors_cells])), (a_this_cohorts_contributors_cells, .inl (cI, n_this_cohorts_contributors_cells, .inl g_this_cohorts_contributors_cells)), (a_this_cohorts_points, .inr (6, [.ref a_this_cohorts_points_cells])), (a_this_cohorts_points_cells, .inl (cI, n_this_cohorts_points_cells, .inl g_this_cohorts_points_cells)), (a_this_purchases, .inr (5, [.ref a_this_purchases_parts, .int v_this_purchases_count])), (a_this_purchases_parts, .inr (6, [.ref a_this_purchases_parts_cells])), (a_this_purchases_parts_cells, .inl (cI, n_this_purchases_parts_cells, .inl g_this_purchases_parts_cells)), (a_this_diary, .inr (4, [.ref a_this_diary_parts, .int r49.1, .int r49.2.1])), (a_this_diary_parts, .inr (6, [.ref a_this_diary_parts_cells])), (a_this_diary_parts_cells, .inl (cI, n_this_diary_parts_cells, .inl r49.2.2.1)), (a_this_tiers, .inr (6, [.ref a_this_tiers_cells])), (a_this_tiers_cells, .inl (cI, n_this_tiers_cells, .inl r49.2.2.2.1)), (a_this_belowSince, .inr (6, [.ref a_this_belowSince_cells])), (a_this_belowSince_cells, .inl (cI, n_this_belowSince_cells, .inl r49.2.2.2.2.1)), (a_this_qualifying, .inr (6, [.ref a_this_qualifying_cells])), (a_this_qualifying_cells, .inl (cI, n_this_qualifying_cells, .inl g_this_qualifying_cells)), (a_this_totals, .inr (6, [.ref a_this_totals_cells])), (a_this_totals_cells, .inl (cI, n_this_totals_cells, .inl g_this_totals_cells)), (a_this_losses, .inr (6, [.ref a_this_losses_cells])), (a_this_losses_cells, .inl (cI, n_this_losses_cells, .inl g_this_losses_cells)), (a_this_standing, .inr (9, [.int r49.2.2.2.2.2.1, .int r49.2.2.2.2.2.2]))]) dX0_passDays_49 ml_RX0_181 mi_yX0_checkTier (fun r49 hr => c_X0_checkTier l D cI cB cL cO pf N a_this a_this_setup a_this_cohorts a_this_purchases a_this_diary a_this_tiers a_this_belowSince a_this_debts a_this_homes a_this_qualifying a_this_shares a_this_redeemed a_this_totals a_this_losses a_this_balances a_this_standing a_this_setup_counts a_this_setup_names a_this_setup_thresholds a_this_setup_bonuses a_this_setup_rates a_this_setup_caps a_this_setup_promoCategories a_this_setup_promoFirstDays a_this_setup_promoLastDays a_this_setup_promoExtras a_this_setup_shares a_this_setup_counts_cells a_this_setup_thresholds_cells a_this_diary_parts a_this_diary_parts_cells a_this_tiers_cells a_this_belowSince_cells a_this_qualifying_cells n_this_setup_counts_cells n_this_setup_thresholds_cells n_this_diary_parts_cells n_this_tiers_cells n_this_belowSince_cells n_this_qualifying_cells v_this_day v_this_windowStart v_this_setup_life v_this_setup_window v_this_setup_grace g_this_setup_counts_cells g_this_setup_thresholds_cells v_this_diary_next v_this_diary_size g_this_diary_parts_cells g_this_tiers_cells g_this_belowSince_cells g_this_qualifying_cells v_this_standing_tier v_this_standing_since x4 r49 hr) h [0, 1, 2, 3, 4, 5, 18, 19, 20, 21, 22, 23, 24, 25, 26, 31] rfl rfl rfl rfl rfl ⟨rfl, rfl⟩ ⟨(Nat.le_of_ble_eq_true rfl), (Nat.le_of_ble_eq_true rfl)⟩ ⟨Nat.zero_le _, Nat.zero_le _⟩ (Nat.le_of_ble_eq_true rfl) (fun _ => rfl) (fun _ => sets_eq2 (isR := [6, 7, 8, 9, 10, 11, 12, 13, 14, 15, 16, 17, 27, 28, 29, 30]) [(a_this_cohorts, .inr (1, [.ref a_this_cohorts_lists, .ref a_this_cohorts_days, .ref a_this_cohorts_contributors, .ref a_this_cohorts_points, .int v_this_cohorts_size])), (a_this_cohorts_lists, .inr (6, [.ref a_this_cohorts_lists_cells])), (a_this_cohorts_lists_cells, .inl (cI, n_this_cohorts_lists_cells, .inl g_this_cohorts_lists_cells)), (a_this_cohorts_days, .inr (6, [.ref a_this_cohorts_days_cells])), (a_this_cohorts_days_cells, .inl (cI, n_this_cohorts_days_cells, .inl g_this_cohorts_days_cells)), (a_this_cohorts_contributors, .inr (6, [.ref a_this_cohorts_contributors_cells])), (a_this_cohorts_contributors_cells, .inl (cI, n_this_cohorts_contributors_cells, .inl g_this_cohorts_contributors_cells)), (a_this_cohorts_points, .inr (6, [.ref a_this_cohorts_points_cells])), (a_this_cohorts_points_cells, .inl (cI, n_this_cohorts_points_cells, .inl g_this_cohorts_points_cells)), (a_this_purchases, .inr (5, [.ref a_this_purchases_parts, .int v_this_purchases_count])), (a_this_purchases_parts, .inr (6, [.ref a_this_purchases_parts_cells])), (a_this_purchases_parts_cells, .inl (cI, n_this_purchases_parts_cells, .inl g_this_purchases_parts_cells)), (a_this_totals, .inr (6, [.ref a_this_totals_cells])), (a_this_totals_cells, .inl (cI, n_this_totals_cells, .inl g_this_totals_cells)), (a_this_losses, .inr (6, [.ref a_this_losses_cells])), (a_this_losses_cells, .inl (cI, n_this_losses_cells, .inl g_this_losses_cells))] 32 rfl rfl rfl rfl rfl rfl (by decide +kernel)) (fun r49 h => ?_)
      refine J_iincN (pc := 52) (v := (1 : Int32)) C (fun y52 => [(4, .int y52), (0, .ref a_this), (1, .int x1), (2, .int x2), (3, .int x3)]) dX0_passDays_52 4 rfl (by decide) h (by decide) (fun _ => rfl) (fun y52 h => ?_)
      refine J_goto (tgt := 33) (pc := 55) C dX0_passDays_55 (by decide) ?_
      refine J_sub (lv2 := [(0, .ref a_this), (1, .int x1), (2, .int x2), (3, .int x3), (4, .int y52)]) [1, 2, 3, 4, 0] rfl ?_
      exact ih _ _ _ _ _ _ _ _ h
set_option maxHeartbeats 4000000 in
set_option maxRecDepth 100000 in
theorem t_X0_passDays_b4 {l : Launch} {D : va_G} {cI cB cL cO : ClassId} {pf : Nat → Nat} {p : Program} {e : Env} {s : State} {m : MethodId} {args : Array Value} {below : List Frame} {meth : Method} {c : Code} {W0 : va_W} {a_this a_this_setup a_this_cohorts a_this_purchases a_this_diary a_this_tiers a_this_belowSince a_this_debts a_this_homes a_this_qualifying a_this_shares a_this_redeemed a_this_totals a_this_losses a_this_balances a_this_standing a_this_setup_counts a_this_setup_names a_this_setup_thresholds a_this_setup_bonuses a_this_setup_rates a_this_setup_caps a_this_setup_promoCategories a_this_setup_promoFirstDays a_this_setup_promoLastDays a_this_setup_promoExtras a_this_setup_shares a_this_setup_counts_cells a_this_setup_thresholds_cells a_this_cohorts_lists a_this_cohorts_days a_this_cohorts_contributors a_this_cohorts_points a_this_cohorts_lists_cells a_this_cohorts_days_cells a_this_cohorts_contributors_cells a_this_cohorts_points_cells a_this_purchases_parts a_this_purchases_parts_cells a_this_diary_parts a_this_diary_parts_cells a_this_tiers_cells a_this_belowSince_cells a_this_qualifying_cells a_this_totals_cells a_this_losses_cells : Nat} {N : Nat}  {n_this_setup_counts_cells : Nat} {n_this_setup_thresholds_cells : Nat} {n_this_cohorts_lists_cells : Nat} {n_this_cohorts_days_cells : Nat} {n_this_cohorts_contributors_cells : Nat} {n_this_cohorts_points_cells : Nat} {n_this_purchases_parts_cells : Nat} {n_this_diary_parts_cells : Nat} {n_this_tiers_cells : Nat} {n_this_belowSince_cells : Nat} {n_this_qualifying_cells : Nat} {n_this_totals_cells : Nat} {n_this_losses_cells : Nat} {v_this_setup_life : Int32} {v_this_setup_window : Int32} {v_this_setup_grace : Int32} {g_this_setup_counts_cells : Nat → Int32} {g_this_setup_thresholds_cells : Nat → Int32} {v_this_purchases_count : Int32} {g_this_purchases_parts_cells : Nat → Int32} {x1 : Int32} {o : Int32 × Int32 × Int32 × Int32 × (Nat → Int32) × (Nat → Int32) × (Nat → Int32) × (Nat → Int32) × Int32 × Int32 × (Nat → Int32) × (Nat → Int32) × (Nat → Int32) × (Nat → Int32) × (Nat → Int32) × (Nat → Int32) × Int32 × Int32} (C : jC p s m args meth c cX0_passDays 5 RX0 D [(cI, .int), (cB, .byte), (cL, .byte), (cO, .object RX0)] pf (va_A W0 s.heap.size)) (hr : meth.sig.returnType = (some FieldType.int)) : ∀ (n : Nat) (x2 : Int32) (x3 : Int32) (v_this_day : Int32) (v_this_windowStart : Int32) (v_this_cohorts_size : Int32) (g_this_cohorts_lists_cells : Nat → Int32) (g_this_cohorts_days_cells : Nat → Int32) (g_this_cohorts_contributors_cells : Nat → Int32) (g_this_cohorts_points_cells : Nat → Int32) (v_this_diary_next : Int32) (v_this_diary_size : Int32) (g_this_diary_parts_cells : Nat → Int32) (g_this_tiers_cells : Nat → Int32) (g_this_belowSince_cells : Nat → Int32) (g_this_qualifying_cells : Nat → Int32) (g_this_totals_cells : Nat → Int32) (g_this_losses_cells : Nat → Int32) (v_this_standing_tier : Int32) (v_this_standing_since : Int32), f_X0_passDays_b4 N x1 n_this_setup_counts_cells n_this_setup_thresholds_cells n_this_cohorts_lists_cells n_this_cohorts_days_cells n_this_cohorts_contributors_cells n_this_cohorts_points_cells n_this_purchases_parts_cells n_this_diary_parts_cells n_this_tiers_cells n_this_belowSince_cells n_this_qualifying_cells n_this_totals_cells n_this_losses_cells v_this_setup_window v_this_setup_grace g_this_setup_counts_cells g_this_setup_thresholds_cells v_this_purchases_count g_this_purchases_parts_cells n x2 x3 v_this_day v_this_windowStart v_this_cohorts_size g_this_cohorts_lists_cells g_this_cohorts_days_cells g_this_cohorts_contributors_cells g_this_cohorts_points_cells v_this_diary_next v_this_diary_size g_this_diary_parts_cells g_this_tiers_cells g_this_belowSince_cells g_this_qualifying_cells g_this_totals_cells g_this_losses_cells v_this_standing_tier v_this_standing_since = some o → J p l e { frames := 4, cells := 0, slots := 0, locals := 130 } s m args below meth c 5 D (va_A W0 s.heap.size) (MQ below (jQ D [(cI, .int), (cB, .byte), (cL, .byte), (cO, .object RX0)] W0 s.heap.size (is1 (some (.int o.1)) [(a_this, .inr (0, [.ref a_this_setup, .ref a_this_cohorts, .ref a_this_purchases, .ref a_this_diary, .ref a_this_tiers, .ref a_this_belowSince, .ref a_this_debts, .ref a_this_homes, .ref a_this_qualifying, .ref a_this_shares, .ref a_this_redeemed, .ref a_this_totals, .ref a_this_losses, .ref a_this_balances, .ref a_this_standing, .int o.2.1, .int o.2.2.1])), (a_this_setup, .inr (7, [.ref a_this_setup_counts, .ref a_this_setup_names, .ref a_this_setup_thresholds, .ref a_this_setup_bonuses, .ref a_this_setup_rates, .ref a_this_setup_caps, .ref a_this_setup_promoCategories, .ref a_this_setup_promoFirstDays, .ref a_this_setup_promoLastDays, .ref a_this_setup_promoExtras, .ref a_this_setup_shares, .int v_this_setup_life, .int v_this_setup_window, .int v_this_setup_grace])), (a_this_setup_counts, .inr (6, [.ref a_this_setup_counts_cells])), (a_this_setup_counts_cells, .inl (cI, n_this_setup_counts_cells, .inl g_this_setup_counts_cells)), (a_this_setup_thresholds, .inr (6, [.ref a_this_setup_thresholds_cells])), (a_this_setup_thresholds_cells, .inl (cI, n_this_setup_thresholds_cells, .inl g_this_setup_thresholds_cells)), (a_this_cohorts, .inr (1, [.ref a_this_cohorts_lists, .ref a_this_cohorts_days, .ref a_this_cohorts_contributors, .ref a_this_cohorts_points, .int o.2.2.2.1])), (a_this_cohorts_lists, .inr (6, [.ref a_this_cohorts_lists_cells])), (a_this_cohorts_lists_cells, .inl (cI, n_this_cohorts_lists_cells, .inl o.2.2.2.2.1)), (a_this_cohorts_days, .inr (6, [.ref a_this_cohorts_days_cells])), (a_this_cohorts_days_cells, .inl (cI, n_this_cohorts_days_cells, .inl o.2.2.2.2.2.1)), (a_this_cohorts_contributors, .inr (6, [.ref a_this_cohorts_contributors_cells])), (a_this_cohorts_contributors_cells, .inl (cI, n_this_cohorts_contributors_cells, .inl o.2.2.2.2.2.2.1)), (a_this_cohorts_points, .inr (6, [.ref a_this_cohorts_points_cells])), (a_this_cohorts_points_cells, .inl (cI, n_this_cohorts_points_cells, .inl o.2.2.2.2.2.2.2.1)), (a_this_purchases, .inr (5, [.ref a_this_purchases_parts, .int v_this_purchases_count])), (a_this_purchases_parts, .inr (6, [.ref a_this_purchases_parts_cells])), (a_this_purchases_parts_cells, .inl (cI, n_this_purchases_parts_cells, .inl g_this_purchases_parts_cells)), (a_this_diary, .inr (4, [.ref a_this_diary_parts, .int o.2.2.2.2.2.2.2.2.1, .int o.2.2.2.2.2.2.2.2.2.1])), (a_this_diary_parts, .inr (6, [.ref a_this_diary_parts_cells])), (a_this_diary_parts_cells, .inl (cI, n_this_diary_parts_cells, .inl o.2.2.2.2.2.2.2.2.2.2.1)), (a_this_tiers, .inr (6, [.ref a_this_tiers_cells])), (a_this_tiers_cells, .inl (cI, n_this_tiers_cells, .inl o.2.2.2.2.2.2.2.2.2.2.2.1)), (a_this_belowSince, .inr (6, [.ref a_this_belowSince_cells])), (a_this_belowSince_cells, .inl (cI, n_this_belowSince_cells, .inl o.2.2.2.2.2.2.2.2.2.2.2.2.1)), (a_this_qualifying, .inr (6, [.ref a_this_qualifying_cells])), (a_this_qualifying_cells, .inl (cI, n_this_qualifying_cells, .inl o.2.2.2.2.2.2.2.2.2.2.2.2.2.1)), (a_this_totals, .inr (6, [.ref a_this_totals_cells])), (a_this_totals_cells, .inl (cI, n_this_totals_cells, .inl o.2.2.2.2.2.2.2.2.2.2.2.2.2.2.1)), (a_this_losses, .inr (6, [.ref a_this_losses_cells])), (a_this_losses_cells, .inl (cI, n_this_losses_cells, .inl o.2.2.2.2.2.2.2.2.2.2.2.2.2.2.2.1)), (a_this_standing, .inr (9, [.int o.2.2.2.2.2.2.2.2.2.2.2.2.2.2.2.2.1, .int o.2.2.2.2.2.2.2.2.2.2.2.2.2.2.2.2.2]))])) args s 0 0 (va_A W0 s.heap.size)) 0 0 4 [(0, .ref a_this), (1, .int x1), (2, .int x2), (3, .int x3)] [] [(a_this, .inr (0, [.ref a_this_setup, .ref a_this_cohorts, .ref a_this_purchases, .ref a_this_diary, .ref a_this_tiers, .ref a_this_belowSince, .ref a_this_debts, .ref a_this_homes, .ref a_this_qualifying, .ref a_this_shares, .ref a_this_redeemed, .ref a_this_totals, .ref a_this_losses, .ref a_this_balances, .ref a_this_standing, .int v_this_day, .int v_this_windowStart])), (a_this_setup, .inr (7, [.ref a_this_setup_counts, .ref a_this_setup_names, .ref a_this_setup_thresholds, .ref a_this_setup_bonuses, .ref a_this_setup_rates, .ref a_this_setup_caps, .ref a_this_setup_promoCategories, .ref a_this_setup_promoFirstDays, .ref a_this_setup_promoLastDays, .ref a_this_setup_promoExtras, .ref a_this_setup_shares, .int v_this_setup_life, .int v_this_setup_window, .int v_this_setup_grace])), (a_this_setup_counts, .inr (6, [.ref a_this_setup_counts_cells])), (a_this_setup_counts_cells, .inl (cI, n_this_setup_counts_cells, .inl g_this_setup_counts_cells)), (a_this_setup_thresholds, .inr (6, [.ref a_this_setup_thresholds_cells])), (a_this_setup_thresholds_cells, .inl (cI, n_this_setup_thresholds_cells, .inl g_this_setup_thresholds_cells)), (a_this_cohorts, .inr (1, [.ref a_this_cohorts_lists, .ref a_this_cohorts_days, .ref a_this_cohorts_contributors, .ref a_this_cohorts_points, .int v_this_cohorts_size])), (a_this_cohorts_lists, .inr (6, [.ref a_this_cohorts_lists_cells])), (a_this_cohorts_lists_cells, .inl (cI, n_this_cohorts_lists_cells, .inl g_this_cohorts_lists_cells)), (a_this_cohorts_days, .inr (6, [.ref a_this_cohorts_days_cells])), (a_this_cohorts_days_cells, .inl (cI, n_this_cohorts_days_cells, .inl g_this_cohorts_days_cells)), (a_this_cohorts_contributors, .inr (6, [.ref a_this_cohorts_contributors_cells])), (a_this_cohorts_contributors_cells, .inl (cI, n_this_cohorts_contributors_cells, .inl g_this_cohorts_contributors_cells)), (a_this_cohorts_points, .inr (6, [.ref a_this_cohorts_points_cells])), (a_this_cohorts_points_cells, .inl (cI, n_this_cohorts_points_cells, .inl g_this_cohorts_points_cells)), (a_this_purchases, .inr (5, [.ref a_this_purchases_parts, .int v_this_purchases_count])), (a_this_purchases_parts, .inr (6, [.ref a_this_purchases_parts_cells])), (a_this_purchases_parts_cells, .inl (cI, n_this_purchases_parts_cells, .inl g_this_purchases_parts_cells)), (a_this_diary, .inr (4, [.ref a_this_diary_parts, .int v_this_diary_next, .int v_this_diary_size])), (a_this_diary_parts, .inr (6, [.ref a_this_diary_parts_cells])), (a_this_diary_parts_cells, .inl (cI, n_this_diary_parts_cells, .inl g_this_diary_parts_cells)), (a_this_tiers, .inr (6, [.ref a_this_tiers_cells])), (a_this_tiers_cells, .inl (cI, n_this_tiers_cells, .inl g_this_tiers_cells)), (a_this_belowSince, .inr (6, [.ref a_this_belowSince_cells])), (a_this_belowSince_cells, .inl (cI, n_this_belowSince_cells, .inl g_this_belowSince_cells)), (a_this_qualifying, .inr (6, [.ref a_this_qualifying_cells])), (a_this_qualifying_cells, .inl (cI, n_this_qualifying_cells, .inl g_this_qualifying_cells)), (a_this_totals, .inr (6, [.ref a_this_totals_cells])), (a_this_totals_cells, .inl (cI, n_this_totals_cells, .inl g_this_totals_cells)), (a_this_losses, .inr (6, [.ref a_this_losses_cells])), (a_this_losses_cells, .inl (cI, n_this_losses_cells, .inl g_this_losses_cells)), (a_this_standing, .inr (9, [.int v_this_standing_tier, .int v_this_standing_since]))] := by
  intro n
  induction n with
  | zero =>
    intro _ _ _ _ _ _ _ _ _ _ _ _ _ _ _ _ _ _ _ h
    rw [f_X0_passDays_b4] at h
    cases h
  | succ n ih =>
    intro x2 x3 v_this_day v_this_windowStart v_this_cohorts_size g_this_cohorts_lists_cells g_this_cohorts_days_cells g_this_cohorts_contributors_cells g_this_cohorts_points_cells v_this_diary_next v_this_diary_size g_this_diary_parts_cells g_this_tiers_cells g_this_belowSince_cells g_this_qualifying_cells g_this_totals_cells g_this_losses_cells v_this_standing_tier v_this_standing_since h
    rw [f_X0_passDays_b4] at h
    refine J_iload_n (pc := 4) C dX0_passDays_4 3 rfl ?_
    refine J_iload_n (pc := 5) C dX0_passDays_5 1 rfl ?_
    refine J_ic_ge (pc := 6) (tgt := 64) C dX0_passDays_6 (by decide) h (fun h => ?_) (fun h => ?_)
    · refine J_iload_n (pc := 64) C dX0_passDays_64 2 rfl ?_
      cases h
      exact J_iret (pc := 65) C dX0_passDays_65 hr ⟨rfl, rfl⟩
    · refine J_aload_n (pc := 9) C dX0_passDays_9 0 rfl ?_
      refine J_dupr (pc := 10) C dX0_passDays_10 ?_
      refine J_get (pc := 11) C dX0_passDays_11 jf_X0 0 rfl rfl 15 (by decide) rfl fl_RX0_100 rfl ?_
      refine J_iconst (v := (1 : Int32)) (pc := 14) C dX0_passDays_14 (by decide) ?_
      refine J_iadd (pc := 15) C dX0_passDays_15 ?_
      refine J_put (tt := .int) (pc := 16) C dX0_passDays_16 jf_X0 0 rfl rfl 15 (by decide) rfl fl_RX0_100 rfl (by decide +kernel) rfl rfl (Nat.le_of_ble_eq_true rfl) ?_
      refine J_ws (ws2 := [(a_this, .inr (0, [.ref a_this_setup, .ref a_this_cohorts, .ref a_this_purchases, .ref a_this_diary, .ref a_this_tiers, .ref a_this_belowSince, .ref a_this_debts, .ref a_this_homes, .ref a_this_qualifying, .ref a_this_shares, .ref a_this_redeemed, .ref a_this_totals, .ref a_this_losses, .ref a_this_balances, .ref a_this_standing, .int (v_this_day + (1 : Int32)), .int v_this_windowStart])), (a_this_setup, .inr (7, [.ref a_this_setup_counts, .ref a_this_setup_names, .ref a_this_setup_thresholds, .ref a_this_setup_bonuses, .ref a_this_setup_rates, .ref a_this_setup_caps, .ref a_this_setup_promoCategories, .ref a_this_setup_promoFirstDays, .ref a_this_setup_promoLastDays, .ref a_this_setup_promoExtras, .ref a_this_setup_shares, .int v_this_setup_life, .int v_this_setup_window, .int v_this_setup_grace])), (a_this_setup_counts, .inr (6, [.ref a_this_setup_counts_cells])), (a_this_setup_counts_cells, .inl (cI, n_this_setup_counts_cells, .inl g_this_setup_counts_cells)), (a_this_setup_thresholds, .inr (6, [.ref a_this_setup_thresholds_cells])), (a_this_setup_thresholds_cells, .inl (cI, n_this_setup_thresholds_cells, .inl g_this_setup_thresholds_cells)), (a_this_cohorts, .inr (1, [.ref a_this_cohorts_lists, .ref a_this_cohorts_days, .ref a_this_cohorts_contributors, .ref a_this_cohorts_points, .int v_this_cohorts_size])), (a_this_cohorts_lists, .inr (6, [.ref a_this_cohorts_lists_cells])), (a_this_cohorts_lists_cells, .inl (cI, n_this_cohorts_lists_cells, .inl g_this_cohorts_lists_cells)), (a_this_cohorts_days, .inr (6, [.ref a_this_cohorts_days_cells])), (a_this_cohorts_days_cells, .inl (cI, n_this_cohorts_days_cells, .inl g_this_cohorts_days_cells)), (a_this_cohorts_contributors, .inr (6, [.ref a_this_cohorts_contributors_cells])), (a_this_cohorts_contributors_cells, .inl (cI, n_this_cohorts_contributors_cells, .inl g_this_cohorts_contributors_cells)), (a_this_cohorts_points, .inr (6, [.ref a_this_cohorts_points_cells])), (a_this_cohorts_points_cells, .inl (cI, n_this_cohorts_points_cells, .inl g_this_cohorts_points_cells)), (a_this_purchases, .inr (5, [.ref a_this_purchases_parts, .int v_this_purchases_count])), (a_this_purchases_parts, .inr (6, [.ref a_this_purchases_parts_cells])), (a_this_purchases_parts_cells, .inl (cI, n_this_purchases_parts_cells, .inl g_this_purchases_parts_cells)), (a_this_diary, .inr (4, [.ref a_this_diary_parts, .int v_this_diary_next, .int v_this_diary_size])), (a_this_diary_parts, .inr (6, [.ref a_this_diary_parts_cells])), (a_this_diary_parts_cells, .inl (cI, n_this_diary_parts_cells, .inl g_this_diary_parts_cells)), (a_this_tiers, .inr (6, [.ref a_this_tiers_cells])), (a_this_tiers_cells, .inl (cI, n_this_tiers_cells, .inl g_this_tiers_cells)), (a_this_belowSince, .inr (6, [.ref a_this_belowSince_cells])), (a_this_belowSince_cells, .inl (cI, n_this_belowSince_cells, .inl g_this_belowSince_cells)), (a_this_qualifying, .inr (6, [.ref a_this_qualifying_cells])), (a_this_qualifying_cells, .inl (cI, n_this_qualifying_cells, .inl g_this_qualifying_cells)), (a_this_totals, .inr (6, [.ref a_this_totals_cells])), (a_this_totals_cells, .inl (cI, n_this_totals_cells, .inl g_this_totals_cells)), (a_this_losses, .inr (6, [.ref a_this_losses_cells])), (a_this_losses_cells, .inl (cI, n_this_losses_cells, .inl g_this_losses_cells)), (a_this_standing, .inr (9, [.int v_this_standing_tier, .int v_this_standing_since]))]) rfl ?_
      refine J_iload_n (pc := 19) C dX0_passDays_19 2 rfl ?_
      refine J_aload_n (pc := 20) C dX0_passDays_20 0 rfl ?_
      refine J_cvw (pc := 21) (As := []) (st := [.int x2]) C (fun r21 => [(a_this, .inr (0, [.ref a_this_setup, .ref a_this_cohorts, .ref a_this_purchases, .ref a_this_diary, .ref a_this_tiers, .ref a_this_belowSince, .ref a_this_debts, .ref a_this_homes, .ref a_this_qualifying, .ref a_this_shares, .ref a_this_redeemed, .ref a_this_totals, .ref a_this_losses, .ref a_this_balances, .ref a_this_standing, .int (v_this_day + (1 : Int32)), .int v_this_windowStart])), (a_this_setup, .inr (7, [.ref a_this_setup_counts, .ref a_this_setup_names, .ref a_this_setup_thresholds, .ref a_this_setup_bonuses, .ref a_this_setup_rates, .ref a_this_setup_caps, .ref a_this_setup_promoCategories, .ref a_this_setup_promoFirstDays, .ref a_this_setup_promoLastDays, .ref a_this_setup_promoExtras, .ref a_this_setup_shares, .int v_this_setup_life, .int v_this_setup_window, .int v_this_setup_grace])), (a_this_setup_counts, .inr (6, [.ref a_this_setup_counts_cells])), (a_this_setup_counts_cells, .inl (cI, n_this_setup_counts_cells, .inl g_this_setup_counts_cells)), (a_this_setup_thresholds, .inr (6, [.ref a_this_setup_thresholds_cells])), (a_this_setup_thresholds_cells, .inl (cI, n_this_setup_thresholds_cells, .inl g_this_setup_thresholds_cells)), (a_this_cohorts, .inr (1, [.ref a_this_cohorts_lists, .ref a_this_cohorts_days, .ref a_this_cohorts_contributors, .ref a_this_cohorts_points, .int r21.2.1])), (a_this_cohorts_lists, .inr (6, [.ref a_this_cohorts_lists_cells])), (a_this_cohorts_lists_cells, .inl (cI, n_this_cohorts_lists_cells, .inl r21.2.2.1)), (a_this_cohorts_days, .inr (6, [.ref a_this_cohorts_days_cells])), (a_this_cohorts_days_cells, .inl (cI, n_this_cohorts_days_cells, .inl r21.2.2.2.1)), (a_this_cohorts_contributors, .inr (6, [.ref a_this_cohorts_contributors_cells])), (a_this_cohorts_contributors_cells, .inl (cI, n_this_cohorts_contributors_cells, .inl r21.2.2.2.2.1)), (a_this_cohorts_points, .inr (6, [.ref a_this_cohorts_points_cells])), (a_this_cohorts_points_cells, .inl (cI, n_this_cohorts_points_cells, .inl r21.2.2.2.2.2.1)), (a_this_purchases, .inr (5, [.ref a_this_purchases_parts, .int v_this_purchases_count])), (a_this_purchases_parts, .inr (6, [.ref a_this_purchases_parts_cells])), (a_this_purchases_parts_cells, .inl (cI, n_this_purchases_parts_cells, .inl g_this_purchases_parts_cells)), (a_this_diary, .inr (4, [.ref a_this_diary_parts, .int r21.2.2.2.2.2.2.1, .int r21.2.2.2.2.2.2.2.1])), (a_this_diary_parts, .inr (6, [.ref a_this_diary_parts_cells])), (a_this_diary_parts_cells, .inl (cI, n_this_diary_parts_cells, .inl r21.2.2.2.2.2.2.2.2.1)), (a_this_tiers, .inr (6, [.ref a_this_tiers_cells])), (a_this_tiers_cells, .inl (cI, n_this_tiers_cells, .inl g_this_tiers_cells)), (a_this_belowSince, .inr (6, [.ref a_this_belowSince_cells])), (a_this_belowSince_cells, .inl (cI, n_this_belowSince_cells, .inl g_this_belowSince_cells)), (a_this_qualifying, .inr (6, [.ref a_this_qualifying_cells])), (a_this_qualifying_cells, .inl (cI, n_this_qualifying_cells, .inl g_this_qualifying_cells)), (a_this_totals, .inr (6, [.ref a_this_totals_cells])), (a_this_totals_cells, .inl (cI, n_this_totals_cells, .inl r21.2.2.2.2.2.2.2.2.2.1)), (a_this_losses, .inr (6, [.ref a_this_losses_cells])), (a_this_losses_cells, .inl (cI, n_this_losses_cells, .inl r21.2.2.2.2.2.2.2.2.2.2)), (a_this_standing, .inr (9, [.int v_this_standing_tier, .int v_this_standing_since]))]) dX0_passDays_21 ml_RX0_220 mi_yX0_expire (fun r21 hr => c_X0_expire l D cI cB cL cO pf N a_this a_this_setup a_this_cohorts a_this_purchases a_this_diary a_this_tiers a_this_belowSince a_this_debts a_this_homes a_this_qualifying a_this_shares a_this_redeemed a_this_totals a_this_losses a_this_balances a_this_standing a_this_cohorts_lists a_this_cohorts_days a_this_cohorts_contributors a_this_cohorts_points a_this_cohorts_lists_cells a_this_cohorts_days_cells a_this_cohorts_contributors_cells a_this_cohorts_points_cells a_this_diary_parts a_this_diary_parts_cells a_this_totals_cells a_this_losses_cells n_this_cohorts_lists_cells n_this_cohorts_days_cells n_this_cohorts_contributors_cells n_this_cohorts_points_cells n_this_diary_parts_cells n_this_totals_cells n_this_losses_cells (v_this_day + (1 : Int32)) v_this_windowStart v_this_cohorts_size g_this_cohorts_lists_cells g_this_cohorts_days_cells g_this_cohorts_contributors_cells g_this_cohorts_points_cells v_this_diary_next v_this_diary_size g_this_diary_parts_cells g_this_totals_cells g_this_losses_cells r21 hr) h [0, 6, 7, 8, 9, 10, 11, 12, 13, 14, 18, 19, 20, 27, 28, 29, 30] rfl rfl rfl rfl rfl ⟨rfl, rfl⟩ ⟨(Nat.le_of_ble_eq_true rfl), (Nat.le_of_ble_eq_true rfl)⟩ ⟨Nat.zero_le _, Nat.zero_le _⟩ (Nat.le_of_ble_eq_true rfl) (fun _ => rfl) (fun _ => sets_eq2 (isR := [1, 2, 3, 4, 5, 15, 16, 17, 21, 22, 23, 24, 25, 26, 31]) [(a_this_setup, .inr (7, [.ref a_this_setup_counts, .ref a_this_setup_names, .ref a_this_setup_thresholds, .ref a_this_setup_bonuses, .ref a_this_setup_rates, .ref a_this_setup_caps, .ref a_this_setup_promoCategories, .ref a_this_setup_promoFirstDays, .ref a_this_setup_promoLastDays, .ref a_this_setup_promoExtras, .ref a_this_setup_shares, .int v_this_setup_life, .int v_this_setup_window, .int v_this_setup_grace])), (a_this_setup_counts, .inr (6, [.ref a_this_setup_counts_cells])), (a_this_setup_counts_cells, .inl (cI, n_this_setup_counts_cells, .inl g_this_setup_counts_cells)), (a_this_setup_thresholds, .inr (6, [.ref a_this_setup_thresholds_cells])), (a_this_setup_thresholds_cells, .inl (cI, n_this_setup_thresholds_cells, .inl g_this_setup_thresholds_cells)), (a_this_purchases, .inr (5, [.ref a_this_purchases_parts, .int v_this_purchases_count])), (a_this_purchases_parts, .inr (6, [.ref a_this_purchases_parts_cells])), (a_this_purchases_parts_cells, .inl (cI, n_this_purchases_parts_cells, .inl g_this_purchases_parts_cells)), (a_this_tiers, .inr (6, [.ref a_this_tiers_cells])), (a_this_tiers_cells, .inl (cI, n_this_tiers_cells, .inl g_this_tiers_cells)), (a_this_belowSince, .inr (6, [.ref a_this_belowSince_cells])), (a_this_belowSince_cells, .inl (cI, n_this_belowSince_cells, .inl g_this_belowSince_cells)), (a_this_qualifying, .inr (6, [.ref a_this_qualifying_cells])), (a_this_qualifying_cells, .inl (cI, n_this_qualifying_cells, .inl g_this_qualifying_cells)), (a_this_standing, .inr (9, [.int v_this_standing_tier, .int v_this_standing_since]))] 32 rfl rfl rfl rfl rfl rfl (by decide +kernel)) (fun r21 h => ?_)
      refine J_iadd (pc := 24) C dX0_passDays_24 ?_
      refine J_istore_nN (pc := 25) C (fun y25 => [(2, .int y25), (0, .ref a_this), (1, .int x1), (3, .int x3)]) dX0_passDays_25 h (by decide) (fun _ => rfl) (fun y25 h => ?_)
      refine J_aload_n (pc := 26) C dX0_passDays_26 1 rfl ?_
      refine J_cvw (pc := 27) (As := []) (st := []) C (fun r27 => [(a_this, .inr (0, [.ref a_this_setup, .ref a_this_cohorts, .ref a_this_purchases, .ref a_this_diary, .ref a_this_tiers, .ref a_this_belowSince, .ref a_this_debts, .ref a_this_homes, .ref a_this_qualifying, .ref a_this_shares, .ref a_this_redeemed, .ref a_this_totals, .ref a_this_losses, .ref a_this_balances, .ref a_this_standing, .int (v_this_day + (1 : Int32)), .int r27.1])), (a_this_setup, .inr (7, [.ref a_this_setup_counts, .ref a_this_setup_names, .ref a_this_setup_thresholds, .ref a_this_setup_bonuses, .ref a_this_setup_rates, .ref a_this_setup_caps, .ref a_this_setup_promoCategories, .ref a_this_setup_promoFirstDays, .ref a_this_setup_promoLastDays, .ref a_this_setup_promoExtras, .ref a_this_setup_shares, .int v_this_setup_life, .int v_this_setup_window, .int v_this_setup_grace])), (a_this_setup_counts, .inr (6, [.ref a_this_setup_counts_cells])), (a_this_setup_counts_cells, .inl (cI, n_this_setup_counts_cells, .inl g_this_setup_counts_cells)), (a_this_setup_thresholds, .inr (6, [.ref a_this_setup_thresholds_cells])), (a_this_setup_thresholds_cells, .inl (cI, n_this_setup_thresholds_cells, .inl g_this_setup_thresholds_cells)), (a_this_cohorts, .inr (1, [.ref a_this_cohorts_lists, .ref a_this_cohorts_days, .ref a_this_cohorts_contributors, .ref a_this_cohorts_points, .int r21.2.1])), (a_this_cohorts_lists, .inr (6, [.ref a_this_cohorts_lists_cells])), (a_this_cohorts_lists_cells, .inl (cI, n_this_cohorts_lists_cells, .inl r21.2.2.1)), (a_this_cohorts_days, .inr (6, [.ref a_this_cohorts_days_cells])), (a_this_cohorts_days_cells, .inl (cI, n_this_cohorts_days_cells, .inl r21.2.2.2.1)), (a_this_cohorts_contributors, .inr (6, [.ref a_this_cohorts_contributors_cells])), (a_this_cohorts_contributors_cells, .inl (cI, n_this_cohorts_contributors_cells, .inl r21.2.2.2.2.1)), (a_this_cohorts_points, .inr (6, [.ref a_this_cohorts_points_cells])), (a_this_cohorts_points_cells, .inl (cI, n_this_cohorts_points_cells, .inl r21.2.2.2.2.2.1)), (a_this_purchases, .inr (5, [.ref a_this_purchases_parts, .int v_this_purchases_count])), (a_this_purchases_parts, .inr (6, [.ref a_this_purchases_parts_cells])), (a_this_purchases_parts_cells, .inl (cI, n_this_purchases_parts_cells, .inl g_this_purchases_parts_cells)), (a_this_diary, .inr (4, [.ref a_this_diary_parts, .int r21.2.2.2.2.2.2.1, .int r21.2.2.2.2.2.2.2.1])), (a_this_diary_parts, .inr (6, [.ref a_this_diary_parts_cells])), (a_this_diary_parts_cells, .inl (cI, n_this_diary_parts_cells, .inl r21.2.2.2.2.2.2.2.2.1)), (a_this_tiers, .inr (6, [.ref a_this_tiers_cells])), (a_this_tiers_cells, .inl (cI, n_this_tiers_cells, .inl g_this_tiers_cells)), (a_this_belowSince, .inr (6, [.ref a_this_belowSince_cells])), (a_this_belowSince_cells, .inl (cI, n_this_belowSince_cells, .inl g_this_belowSince_cells)), (a_this_qualifying, .inr (6, [.ref a_this_qualifying_cells])), (a_this_qualifying_cells, .inl (cI, n_this_qualifying_cells, .inl r27.2)), (a_this_totals, .inr (6, [.ref a_this_totals_cells])), (a_this_totals_cells, .inl (cI, n_this_totals_cells, .inl r21.2.2.2.2.2.2.2.2.2.1)), (a_this_losses, .inr (6, [.ref a_this_losses_cells])), (a_this_losses_cells, .inl (cI, n_this_losses_cells, .inl r21.2.2.2.2.2.2.2.2.2.2)), (a_this_standing, .inr (9, [.int v_this_standing_tier, .int v_this_standing_since]))]) dX0_passDays_27 ml_RX0_223 mi_yX0_shrinkWindow (fun r27 hr => c_X0_shrinkWindow l D cI cB cL cO pf N a_this a_this_setup a_this_cohorts a_this_purchases a_this_diary a_this_tiers a_this_belowSince a_this_debts a_this_homes a_this_qualifying a_this_shares a_this_redeemed a_this_totals a_this_losses a_this_balances a_this_standing a_this_setup_counts a_this_setup_names a_this_setup_thresholds a_this_setup_bonuses a_this_setup_rates a_this_setup_caps a_this_setup_promoCategories a_this_setup_promoFirstDays a_this_setup_promoLastDays a_this_setup_promoExtras a_this_setup_shares a_this_setup_counts_cells a_this_purchases_parts a_this_purchases_parts_cells a_this_qualifying_cells n_this_setup_counts_cells n_this_purchases_parts_cells n_this_qualifying_cells (v_this_day + (1 : Int32)) v_this_windowStart v_this_setup_life v_this_setup_window v_this_setup_grace g_this_setup_counts_cells v_this_purchases_count g_this_purchases_parts_cells g_this_qualifying_cells r27 hr) h [0, 1, 2, 3, 15, 16, 17, 25, 26] rfl rfl rfl rfl rfl ⟨rfl, rfl⟩ ⟨(Nat.le_of_ble_eq_true rfl), (Nat.le_of_ble_eq_true rfl)⟩ ⟨Nat.zero_le _, Nat.zero_le _⟩ (Nat.le_of_ble_eq_true rfl) (fun _ => rfl) (fun _ => rfl) (fun r27 h => ?_)
      refine J_iconst (v := (0 : Int32)) (pc := 30) C dX0_passDays_30 (by decide) ?_
      refine J_istore (lv2 := [(4, .int (0 : Int32)), (2, .int y25), (0, .ref a_this), (1, .int x1), (3, .int x3)]) (pc := 31) C dX0_passDays_31 (by decide) rfl ?_
      refine J_sub (lv2 := [(0, .ref a_this), (1, .int x1), (2, .int y25), (3, .int x3), (4, .int (0 : Int32))]) [2, 3, 1, 4, 0] rfl ?_
      exact t_X0_passDays_b33 C hr ih N _ _ _ _ _ _ _ _ h
set_option maxHeartbeats 4000000 in
set_option maxRecDepth 100000 in
theorem c_X0_passDays (l : Launch) (D : va_G) (cI cB cL cO : ClassId) (pf : Nat → Nat) (N : Nat) (a_this a_this_setup a_this_cohorts a_this_purchases a_this_diary a_this_tiers a_this_belowSince a_this_debts a_this_homes a_this_qualifying a_this_shares a_this_redeemed a_this_totals a_this_losses a_this_balances a_this_standing a_this_setup_counts a_this_setup_names a_this_setup_thresholds a_this_setup_bonuses a_this_setup_rates a_this_setup_caps a_this_setup_promoCategories a_this_setup_promoFirstDays a_this_setup_promoLastDays a_this_setup_promoExtras a_this_setup_shares a_this_setup_counts_cells a_this_setup_thresholds_cells a_this_cohorts_lists a_this_cohorts_days a_this_cohorts_contributors a_this_cohorts_points a_this_cohorts_lists_cells a_this_cohorts_days_cells a_this_cohorts_contributors_cells a_this_cohorts_points_cells a_this_purchases_parts a_this_purchases_parts_cells a_this_diary_parts a_this_diary_parts_cells a_this_tiers_cells a_this_belowSince_cells a_this_qualifying_cells a_this_totals_cells a_this_losses_cells : Nat) (n_this_setup_counts_cells : Nat) (n_this_setup_thresholds_cells : Nat) (n_this_cohorts_lists_cells : Nat) (n_this_cohorts_days_cells : Nat) (n_this_cohorts_contributors_cells : Nat) (n_this_cohorts_points_cells : Nat) (n_this_purchases_parts_cells : Nat) (n_this_diary_parts_cells : Nat) (n_this_tiers_cells : Nat) (n_this_belowSince_cells : Nat) (n_this_qualifying_cells : Nat) (n_this_totals_cells : Nat) (n_this_losses_cells : Nat) (v_this_day : Int32) (v_this_windowStart : Int32) (v_this_setup_life : Int32) (v_this_setup_window : Int32) (v_this_setup_grace : Int32) (g_this_setup_counts_cells : Nat → Int32) (g_this_setup_thresholds_cells : Nat → Int32) (v_this_cohorts_size : Int32) (g_this_cohorts_lists_cells : Nat → Int32) (g_this_cohorts_days_cells : Nat → Int32) (g_this_cohorts_contributors_cells : Nat → Int32) (g_this_cohorts_points_cells : Nat → Int32) (v_this_purchases_count : Int32) (g_this_purchases_parts_cells : Nat → Int32) (v_this_diary_next : Int32) (v_this_diary_size : Int32) (g_this_diary_parts_cells : Nat → Int32) (g_this_tiers_cells : Nat → Int32) (g_this_belowSince_cells : Nat → Int32) (g_this_qualifying_cells : Nat → Int32) (g_this_totals_cells : Nat → Int32) (g_this_losses_cells : Nat → Int32) (v_this_standing_tier : Int32) (v_this_standing_since : Int32) (x1 : Int32) (o : Int32 × Int32 × Int32 × Int32 × (Nat → Int32) × (Nat → Int32) × (Nat → Int32) × (Nat → Int32) × Int32 × Int32 × (Nat → Int32) × (Nat → Int32) × (Nat → Int32) × (Nat → Int32) × (Nat → Int32) × (Nat → Int32) × Int32 × Int32) (h : f_X0_passDays N x1 n_this_setup_counts_cells n_this_setup_thresholds_cells n_this_cohorts_lists_cells n_this_cohorts_days_cells n_this_cohorts_contributors_cells n_this_cohorts_points_cells n_this_purchases_parts_cells n_this_diary_parts_cells n_this_tiers_cells n_this_belowSince_cells n_this_qualifying_cells n_this_totals_cells n_this_losses_cells v_this_day v_this_windowStart v_this_setup_window v_this_setup_grace g_this_setup_counts_cells g_this_setup_thresholds_cells v_this_cohorts_size g_this_cohorts_lists_cells g_this_cohorts_days_cells g_this_cohorts_contributors_cells g_this_cohorts_points_cells v_this_purchases_count g_this_purchases_parts_cells v_this_diary_next v_this_diary_size g_this_diary_parts_cells g_this_tiers_cells g_this_belowSince_cells g_this_qualifying_cells g_this_totals_cells g_this_losses_cells v_this_standing_tier v_this_standing_since = some o) : Ct l D [(cI, .int), (cB, .byte), (cL, .byte), (cO, .object RX0)] pf yX0_passDays cX0_passDays 5 (some FieldType.int) { frames := 4, cells := 0, slots := 0, locals := 130 } [.ref a_this, .int x1] [(a_this, .inr (0, [.ref a_this_setup, .ref a_this_cohorts, .ref a_this_purchases, .ref a_this_diary, .ref a_this_tiers, .ref a_this_belowSince, .ref a_this_debts, .ref a_this_homes, .ref a_this_qualifying, .ref a_this_shares, .ref a_this_redeemed, .ref a_this_totals, .ref a_this_losses, .ref a_this_balances, .ref a_this_standing, .int v_this_day, .int v_this_windowStart])), (a_this_setup, .inr (7, [.ref a_this_setup_counts, .ref a_this_setup_names, .ref a_this_setup_thresholds, .ref a_this_setup_bonuses, .ref a_this_setup_rates, .ref a_this_setup_caps, .ref a_this_setup_promoCategories, .ref a_this_setup_promoFirstDays, .ref a_this_setup_promoLastDays, .ref a_this_setup_promoExtras, .ref a_this_setup_shares, .int v_this_setup_life, .int v_this_setup_window, .int v_this_setup_grace])), (a_this_setup_counts, .inr (6, [.ref a_this_setup_counts_cells])), (a_this_setup_counts_cells, .inl (cI, n_this_setup_counts_cells, .inl g_this_setup_counts_cells)), (a_this_setup_thresholds, .inr (6, [.ref a_this_setup_thresholds_cells])), (a_this_setup_thresholds_cells, .inl (cI, n_this_setup_thresholds_cells, .inl g_this_setup_thresholds_cells)), (a_this_cohorts, .inr (1, [.ref a_this_cohorts_lists, .ref a_this_cohorts_days, .ref a_this_cohorts_contributors, .ref a_this_cohorts_points, .int v_this_cohorts_size])), (a_this_cohorts_lists, .inr (6, [.ref a_this_cohorts_lists_cells])), (a_this_cohorts_lists_cells, .inl (cI, n_this_cohorts_lists_cells, .inl g_this_cohorts_lists_cells)), (a_this_cohorts_days, .inr (6, [.ref a_this_cohorts_days_cells])), (a_this_cohorts_days_cells, .inl (cI, n_this_cohorts_days_cells, .inl g_this_cohorts_days_cells)), (a_this_cohorts_contributors, .inr (6, [.ref a_this_cohorts_contributors_cells])), (a_this_cohorts_contributors_cells, .inl (cI, n_this_cohorts_contributors_cells, .inl g_this_cohorts_contributors_cells)), (a_this_cohorts_points, .inr (6, [.ref a_this_cohorts_points_cells])), (a_this_cohorts_points_cells, .inl (cI, n_this_cohorts_points_cells, .inl g_this_cohorts_points_cells)), (a_this_purchases, .inr (5, [.ref a_this_purchases_parts, .int v_this_purchases_count])), (a_this_purchases_parts, .inr (6, [.ref a_this_purchases_parts_cells])), (a_this_purchases_parts_cells, .inl (cI, n_this_purchases_parts_cells, .inl g_this_purchases_parts_cells)), (a_this_diary, .inr (4, [.ref a_this_diary_parts, .int v_this_diary_next, .int v_this_diary_size])), (a_this_diary_parts, .inr (6, [.ref a_this_diary_parts_cells])), (a_this_diary_parts_cells, .inl (cI, n_this_diary_parts_cells, .inl g_this_diary_parts_cells)), (a_this_tiers, .inr (6, [.ref a_this_tiers_cells])), (a_this_tiers_cells, .inl (cI, n_this_tiers_cells, .inl g_this_tiers_cells)), (a_this_belowSince, .inr (6, [.ref a_this_belowSince_cells])), (a_this_belowSince_cells, .inl (cI, n_this_belowSince_cells, .inl g_this_belowSince_cells)), (a_this_qualifying, .inr (6, [.ref a_this_qualifying_cells])), (a_this_qualifying_cells, .inl (cI, n_this_qualifying_cells, .inl g_this_qualifying_cells)), (a_this_totals, .inr (6, [.ref a_this_totals_cells])), (a_this_totals_cells, .inl (cI, n_this_totals_cells, .inl g_this_totals_cells)), (a_this_losses, .inr (6, [.ref a_this_losses_cells])), (a_this_losses_cells, .inl (cI, n_this_losses_cells, .inl g_this_losses_cells)), (a_this_standing, .inr (9, [.int v_this_standing_tier, .int v_this_standing_since]))] (is1 (some (.int o.1)) [(a_this, .inr (0, [.ref a_this_setup, .ref a_this_cohorts, .ref a_this_purchases, .ref a_this_diary, .ref a_this_tiers, .ref a_this_belowSince, .ref a_this_debts, .ref a_this_homes, .ref a_this_qualifying, .ref a_this_shares, .ref a_this_redeemed, .ref a_this_totals, .ref a_this_losses, .ref a_this_balances, .ref a_this_standing, .int o.2.1, .int o.2.2.1])), (a_this_setup, .inr (7, [.ref a_this_setup_counts, .ref a_this_setup_names, .ref a_this_setup_thresholds, .ref a_this_setup_bonuses, .ref a_this_setup_rates, .ref a_this_setup_caps, .ref a_this_setup_promoCategories, .ref a_this_setup_promoFirstDays, .ref a_this_setup_promoLastDays, .ref a_this_setup_promoExtras, .ref a_this_setup_shares, .int v_this_setup_life, .int v_this_setup_window, .int v_this_setup_grace])), (a_this_setup_counts, .inr (6, [.ref a_this_setup_counts_cells])), (a_this_setup_counts_cells, .inl (cI, n_this_setup_counts_cells, .inl g_this_setup_counts_cells)), (a_this_setup_thresholds, .inr (6, [.ref a_this_setup_thresholds_cells])), (a_this_setup_thresholds_cells, .inl (cI, n_this_setup_thresholds_cells, .inl g_this_setup_thresholds_cells)), (a_this_cohorts, .inr (1, [.ref a_this_cohorts_lists, .ref a_this_cohorts_days, .ref a_this_cohorts_contributors, .ref a_this_cohorts_points, .int o.2.2.2.1])), (a_this_cohorts_lists, .inr (6, [.ref a_this_cohorts_lists_cells])), (a_this_cohorts_lists_cells, .inl (cI, n_this_cohorts_lists_cells, .inl o.2.2.2.2.1)), (a_this_cohorts_days, .inr (6, [.ref a_this_cohorts_days_cells])), (a_this_cohorts_days_cells, .inl (cI, n_this_cohorts_days_cells, .inl o.2.2.2.2.2.1)), (a_this_cohorts_contributors, .inr (6, [.ref a_this_cohorts_contributors_cells])), (a_this_cohorts_contributors_cells, .inl (cI, n_this_cohorts_contributors_cells, .inl o.2.2.2.2.2.2.1)), (a_this_cohorts_points, .inr (6, [.ref a_this_cohorts_points_cells])), (a_this_cohorts_points_cells, .inl (cI, n_this_cohorts_points_cells, .inl o.2.2.2.2.2.2.2.1)), (a_this_purchases, .inr (5, [.ref a_this_purchases_parts, .int v_this_purchases_count])), (a_this_purchases_parts, .inr (6, [.ref a_this_purchases_parts_cells])), (a_this_purchases_parts_cells, .inl (cI, n_this_purchases_parts_cells, .inl g_this_purchases_parts_cells)), (a_this_diary, .inr (4, [.ref a_this_diary_parts, .int o.2.2.2.2.2.2.2.2.1, .int o.2.2.2.2.2.2.2.2.2.1])), (a_this_diary_parts, .inr (6, [.ref a_this_diary_parts_cells])), (a_this_diary_parts_cells, .inl (cI, n_this_diary_parts_cells, .inl o.2.2.2.2.2.2.2.2.2.2.1)), (a_this_tiers, .inr (6, [.ref a_this_tiers_cells])), (a_this_tiers_cells, .inl (cI, n_this_tiers_cells, .inl o.2.2.2.2.2.2.2.2.2.2.2.1)), (a_this_belowSince, .inr (6, [.ref a_this_belowSince_cells])), (a_this_belowSince_cells, .inl (cI, n_this_belowSince_cells, .inl o.2.2.2.2.2.2.2.2.2.2.2.2.1)), (a_this_qualifying, .inr (6, [.ref a_this_qualifying_cells])), (a_this_qualifying_cells, .inl (cI, n_this_qualifying_cells, .inl o.2.2.2.2.2.2.2.2.2.2.2.2.2.1)), (a_this_totals, .inr (6, [.ref a_this_totals_cells])), (a_this_totals_cells, .inl (cI, n_this_totals_cells, .inl o.2.2.2.2.2.2.2.2.2.2.2.2.2.2.1)), (a_this_losses, .inr (6, [.ref a_this_losses_cells])), (a_this_losses_cells, .inl (cI, n_this_losses_cells, .inl o.2.2.2.2.2.2.2.2.2.2.2.2.2.2.2.1)), (a_this_standing, .inr (9, [.int o.2.2.2.2.2.2.2.2.2.2.2.2.2.2.2.2.1, .int o.2.2.2.2.2.2.2.2.2.2.2.2.2.2.2.2.2]))]) := by
  refine Ct_of (own := RX0) (lv0 := [(0, .ref a_this), (1, .int x1)]) (by decide) rfl rfl (Nat.le_of_ble_eq_true rfl) ?_
  intro p e s m args below meth c C hr hnm
  unfold f_X0_passDays at h
  refine J_iconst (v := (0 : Int32)) (pc := 0) C dX0_passDays_0 (by decide) ?_
  refine J_istore_n (lv2 := [(2, .int (0 : Int32)), (0, .ref a_this), (1, .int x1)]) (pc := 1) C dX0_passDays_1 (by decide) rfl ?_
  refine J_iconst (v := (0 : Int32)) (pc := 2) C dX0_passDays_2 (by decide) ?_
  refine J_istore_n (lv2 := [(3, .int (0 : Int32)), (2, .int (0 : Int32)), (0, .ref a_this), (1, .int x1)]) (pc := 3) C dX0_passDays_3 (by decide) rfl ?_
  refine J_sub (lv2 := [(0, .ref a_this), (1, .int x1), (2, .int (0 : Int32)), (3, .int (0 : Int32))]) [2, 3, 1, 0] rfl ?_
  exact t_X0_passDays_b4 C hr N _ _ _ _ _ _ _ _ _ _ _ _ _ _ _ _ _ _ _ h
-- PointsLedger$Books.futureTier(II)I
theorem dX0_futureTier_0 : decode cX0_futureTier 0 = .ok (.aload_n 0, 1) := by decide +kernel
theorem dX0_futureTier_1 : decode cX0_futureTier 1 = .ok (.getfield 75, 3) := by decide +kernel
theorem dX0_futureTier_4 : decode cX0_futureTier 4 = .ok (.aload_n 0, 1) := by decide +kernel
theorem dX0_futureTier_5 : decode cX0_futureTier 5 = .ok (.getfield 41, 3) := by decide +kernel
theorem dX0_futureTier_8 : decode cX0_futureTier 8 = .ok (.iload_n 1, 1) := by decide +kernel
theorem dX0_futureTier_9 : decode cX0_futureTier 9 = .ok (.invokevirtual 121, 3) := by decide +kernel
theorem dX0_futureTier_12 : decode cX0_futureTier 12 = .ok (.aload_n 0, 1) := by decide +kernel
theorem dX0_futureTier_13 : decode cX0_futureTier 13 = .ok (.getfield 45, 3) := by decide +kernel
theorem dX0_futureTier_16 : decode cX0_futureTier 16 = .ok (.iload_n 1, 1) := by decide +kernel
theorem dX0_futureTier_17 : decode cX0_futureTier 17 = .ok (.invokevirtual 121, 3) := by decide +kernel
theorem dX0_futureTier_20 : decode cX0_futureTier 20 = .ok (.invokevirtual 238, 3) := by decide +kernel
theorem dX0_futureTier_23 : decode cX0_futureTier 23 = .ok (.aload_n 0, 1) := by decide +kernel
theorem dX0_futureTier_24 : decode cX0_futureTier 24 = .ok (.getfield 54, 3) := by decide +kernel
theorem dX0_futureTier_27 : decode cX0_futureTier 27 = .ok (.iload_n 1, 1) := by decide +kernel
theorem dX0_futureTier_28 : decode cX0_futureTier 28 = .ok (.invokevirtual 121, 3) := by decide +kernel
theorem dX0_futureTier_31 : decode cX0_futureTier 31 = .ok (.istore_n 3, 1) := by decide +kernel
theorem dX0_futureTier_32 : decode cX0_futureTier 32 = .ok (.aload_n 0, 1) := by decide +kernel
theorem dX0_futureTier_33 : decode cX0_futureTier 33 = .ok (.getfield 104, 3) := by decide +kernel
theorem dX0_futureTier_36 : decode cX0_futureTier 36 = .ok (.istore 4, 2) := by decide +kernel
theorem dX0_futureTier_38 : decode cX0_futureTier 38 = .ok (.aload_n 0, 1) := by decide +kernel
theorem dX0_futureTier_39 : decode cX0_futureTier 39 = .ok (.getfield 100, 3) := by decide +kernel
theorem dX0_futureTier_42 : decode cX0_futureTier 42 = .ok (.iconst 1, 1) := by decide +kernel
theorem dX0_futureTier_43 : decode cX0_futureTier 43 = .ok (.iadd, 1) := by decide +kernel
theorem dX0_futureTier_44 : decode cX0_futureTier 44 = .ok (.istore 5, 2) := by decide +kernel
theorem dX0_futureTier_46 : decode cX0_futureTier 46 = .ok (.iload 5, 2) := by decide +kernel
theorem dX0_futureTier_48 : decode cX0_futureTier 48 = .ok (.aload_n 0, 1) := by decide +kernel
theorem dX0_futureTier_49 : decode cX0_futureTier 49 = .ok (.getfield 100, 3) := by decide +kernel
theorem dX0_futureTier_52 : decode cX0_futureTier 52 = .ok (.iload_n 2, 1) := by decide +kernel
theorem dX0_futureTier_53 : decode cX0_futureTier 53 = .ok (.iadd, 1) := by decide +kernel
theorem dX0_futureTier_54 : decode cX0_futureTier 54 = .ok (.if_icmp .gt 73, 3) := by decide +kernel
theorem dX0_futureTier_57 : decode cX0_futureTier 57 = .ok (.aload_n 0, 1) := by decide +kernel
theorem dX0_futureTier_58 : decode cX0_futureTier 58 = .ok (.getfield 25, 3) := by decide +kernel
theorem dX0_futureTier_61 : decode cX0_futureTier 61 = .ok (.iload 4, 2) := by decide +kernel
theorem dX0_futureTier_63 : decode cX0_futureTier 63 = .ok (.iload 5, 2) := by decide +kernel
theorem dX0_futureTier_65 : decode cX0_futureTier 65 = .ok (.aload_n 0, 1) := by decide +kernel
theorem dX0_futureTier_66 : decode cX0_futureTier 66 = .ok (.getfield 9, 3) := by decide +kernel
theorem dX0_futureTier_69 : decode cX0_futureTier 69 = .ok (.invokevirtual 229, 3) := by decide +kernel
theorem dX0_futureTier_72 : decode cX0_futureTier 72 = .ok (.isub, 1) := by decide +kernel
theorem dX0_futureTier_73 : decode cX0_futureTier 73 = .ok (.invokevirtual 232, 3) := by decide +kernel
theorem dX0_futureTier_76 : decode cX0_futureTier 76 = .ok (.istore 6, 2) := by decide +kernel
theorem dX0_futureTier_78 : decode cX0_futureTier 78 = .ok (.iload_n 3, 1) := by decide +kernel
theorem dX0_futureTier_79 : decode cX0_futureTier 79 = .ok (.aload_n 0, 1) := by decide +kernel
theorem dX0_futureTier_80 : decode cX0_futureTier 80 = .ok (.getfield 25, 3) := by decide +kernel
theorem dX0_futureTier_83 : decode cX0_futureTier 83 = .ok (.iload_n 1, 1) := by decide +kernel
theorem dX0_futureTier_84 : decode cX0_futureTier 84 = .ok (.iload 4, 2) := by decide +kernel
theorem dX0_futureTier_86 : decode cX0_futureTier 86 = .ok (.iload 6, 2) := by decide +kernel
theorem dX0_futureTier_88 : decode cX0_futureTier 88 = .ok (.invokevirtual 235, 3) := by decide +kernel
theorem dX0_futureTier_91 : decode cX0_futureTier 91 = .ok (.isub, 1) := by decide +kernel
theorem dX0_futureTier_92 : decode cX0_futureTier 92 = .ok (.istore_n 3, 1) := by decide +kernel
theorem dX0_futureTier_93 : decode cX0_futureTier 93 = .ok (.iload 6, 2) := by decide +kernel
theorem dX0_futureTier_95 : decode cX0_futureTier 95 = .ok (.istore 4, 2) := by decide +kernel
theorem dX0_futureTier_97 : decode cX0_futureTier 97 = .ok (.aload_n 0, 1) := by decide +kernel
theorem dX0_futureTier_98 : decode cX0_futureTier 98 = .ok (.getfield 75, 3) := by decide +kernel
theorem dX0_futureTier_101 : decode cX0_futureTier 101 = .ok (.aload_n 0, 1) := by decide +kernel
theorem dX0_futureTier_102 : decode cX0_futureTier 102 = .ok (.getfield 9, 3) := by decide +kernel
theorem dX0_futureTier_105 : decode cX0_futureTier 105 = .ok (.iload_n 3, 1) := by decide +kernel
theorem dX0_futureTier_106 : decode cX0_futureTier 106 = .ok (.invokevirtual 241, 3) := by decide +kernel
theorem dX0_futureTier_109 : decode cX0_futureTier 109 = .ok (.iload 5, 2) := by decide +kernel
theorem dX0_futureTier_111 : decode cX0_futureTier 111 = .ok (.aload_n 0, 1) := by decide +kernel
theorem dX0_futureTier_112 : decode cX0_futureTier 112 = .ok (.getfield 9, 3) := by decide +kernel
theorem dX0_futureTier_115 : decode cX0_futureTier 115 = .ok (.invokevirtual 244, 3) := by decide +kernel
theorem dX0_futureTier_118 : decode cX0_futureTier 118 = .ok (.invokevirtual 247, 3) := by decide +kernel
theorem dX0_futureTier_121 : decode cX0_futureTier 121 = .ok (.iinc 5 1, 3) := by decide +kernel
theorem dX0_futureTier_124 : decode cX0_futureTier 124 = .ok (.goto (-78), 3) := by decide +kernel
theorem dX0_futureTier_127 : decode cX0_futureTier 127 = .ok (.aload_n 0, 1) := by decide +kernel
theorem dX0_futureTier_128 : decode cX0_futureTier 128 = .ok (.getfield 75, 3) := by decide +kernel
theorem dX0_futureTier_131 : decode cX0_futureTier 131 = .ok (.invokevirtual 251, 3) := by decide +kernel
theorem dX0_futureTier_134 : decode cX0_futureTier 134 = .ok (.ireturn, 1) := by decide +kernel
def f_X0_futureTier_b46 (N : Nat) (x1 : Int32) (x2 : Int32) (n_this_setup_counts_cells : Nat) (n_this_setup_thresholds_cells : Nat) (n_this_purchases_parts_cells : Nat) (v_this_day : Int32) (v_this_setup_window : Int32) (v_this_setup_grace : Int32) (g_this_setup_counts_cells : Nat → Int32) (g_this_setup_thresholds_cells : Nat → Int32) (v_this_purchases_count : Int32) (g_this_purchases_parts_cells : Nat → Int32) : Nat → (Int32) → (Int32) → (Int32) → (Int32) → (Int32) → Option (Int32 × Int32 × Int32)
  | 0, _, _, _, _, _ => none
  | n + 1, x3, x4, x5, v_this_standing_tier, v_this_standing_since => (if (v_this_day + x2) < x5 then ((f_X9_presentTier v_this_standing_tier).bind fun r131 => (some (r131, v_this_standing_tier, v_this_standing_since))) else ((f_X7_window v_this_setup_window).bind fun r69 => ((f_X5_firstAfter N x4 (x5 - r69) n_this_purchases_parts_cells v_this_purchases_count g_this_purchases_parts_cells).bind fun r73 => ((f_X5_basesOf N x1 x4 r73 n_this_purchases_parts_cells g_this_purchases_parts_cells).bind fun r88 => ((some (x3 - r88)).bind fun y92 => ((f_X7_tierFor N y92 n_this_setup_counts_cells n_this_setup_thresholds_cells g_this_setup_counts_cells g_this_setup_thresholds_cells).bind fun r106 => ((f_X7_grace v_this_setup_grace).bind fun r115 => ((f_X9_check r106 x5 r115 v_this_standing_tier v_this_standing_since).bind fun r118 => ((some (x5 + (1 : Int32))).bind fun y121 => (f_X0_futureTier_b46 N x1 x2 n_this_setup_counts_cells n_this_setup_thresholds_cells n_this_purchases_parts_cells v_this_day v_this_setup_window v_this_setup_grace g_this_setup_counts_cells g_this_setup_thresholds_cells v_this_purchases_count g_this_purchases_parts_cells n y92 r73 y121 r118.1 r118.2))))))))))
def f_X0_futureTier (N : Nat) (x1 : Int32) (x2 : Int32) (n_this_setup_counts_cells : Nat) (n_this_setup_thresholds_cells : Nat) (n_this_purchases_parts_cells : Nat) (n_this_tiers_cells : Nat) (n_this_belowSince_cells : Nat) (n_this_qualifying_cells : Nat) (v_this_day : Int32) (v_this_windowStart : Int32) (v_this_setup_window : Int32) (v_this_setup_grace : Int32) (g_this_setup_counts_cells : Nat → Int32) (g_this_setup_thresholds_cells : Nat → Int32) (v_this_purchases_count : Int32) (g_this_purchases_parts_cells : Nat → Int32) (g_this_tiers_cells : Nat → Int32) (g_this_belowSince_cells : Nat → Int32) (g_this_qualifying_cells : Nat → Int32) : Option (Int32 × Int32 × Int32) :=
  ((f_X6_at x1 n_this_tiers_cells g_this_tiers_cells).bind fun r9 => ((f_X6_at x1 n_this_belowSince_cells g_this_belowSince_cells).bind fun r17 => ((f_X9_start r9 r17).bind fun r20 => ((f_X6_at x1 n_this_qualifying_cells g_this_qualifying_cells).bind fun r28 => ((some (v_this_day + (1 : Int32))).bind fun y44 => (f_X0_futureTier_b46 N x1 x2 n_this_setup_counts_cells n_this_setup_thresholds_cells n_this_purchases_parts_cells v_this_day v_this_setup_window v_this_setup_grace g_this_setup_counts_cells g_this_setup_thresholds_cells v_this_purchases_count g_this_purchases_parts_cells N r28 v_this_windowStart y44 r20.1 r20.2))))))
set_option maxHeartbeats 4000000 in
set_option maxRecDepth 100000 in
theorem t_X0_futureTier_b46 {l : Launch} {D : va_G} {cI cB cL cO : ClassId} {pf : Nat → Nat} {p : Program} {e : Env} {s : State} {m : MethodId} {args : Array Value} {below : List Frame} {meth : Method} {c : Code} {W0 : va_W} {a_this a_this_setup a_this_cohorts a_this_purchases a_this_diary a_this_tiers a_this_belowSince a_this_debts a_this_homes a_this_qualifying a_this_shares a_this_redeemed a_this_totals a_this_losses a_this_balances a_this_standing a_this_setup_counts a_this_setup_names a_this_setup_thresholds a_this_setup_bonuses a_this_setup_rates a_this_setup_caps a_this_setup_promoCategories a_this_setup_promoFirstDays a_this_setup_promoLastDays a_this_setup_promoExtras a_this_setup_shares a_this_setup_counts_cells a_this_setup_thresholds_cells a_this_purchases_parts a_this_purchases_parts_cells a_this_tiers_cells a_this_belowSince_cells a_this_qualifying_cells : Nat} {N : Nat}  {n_this_setup_counts_cells : Nat} {n_this_setup_thresholds_cells : Nat} {n_this_purchases_parts_cells : Nat} {n_this_tiers_cells : Nat} {n_this_belowSince_cells : Nat} {n_this_qualifying_cells : Nat} {v_this_day : Int32} {v_this_windowStart : Int32} {v_this_setup_life : Int32} {v_this_setup_window : Int32} {v_this_setup_grace : Int32} {g_this_setup_counts_cells : Nat → Int32} {g_this_setup_thresholds_cells : Nat → Int32} {v_this_purchases_count : Int32} {g_this_purchases_parts_cells : Nat → Int32} {g_this_tiers_cells : Nat → Int32} {g_this_belowSince_cells : Nat → Int32} {g_this_qualifying_cells : Nat → Int32} {x1 : Int32} {x2 : Int32} {o : Int32 × Int32 × Int32} (C : jC p s m args meth c cX0_futureTier 7 RX0 D [(cI, .int), (cB, .byte), (cL, .byte), (cO, .object RX0)] pf (va_A W0 s.heap.size)) (hr : meth.sig.returnType = (some FieldType.int)) : ∀ (n : Nat) (x3 : Int32) (x4 : Int32) (x5 : Int32) (v_this_standing_tier : Int32) (v_this_standing_since : Int32), f_X0_futureTier_b46 N x1 x2 n_this_setup_counts_cells n_this_setup_thresholds_cells n_this_purchases_parts_cells v_this_day v_this_setup_window v_this_setup_grace g_this_setup_counts_cells g_this_setup_thresholds_cells v_this_purchases_count g_this_purchases_parts_cells n x3 x4 x5 v_this_standing_tier v_this_standing_since = some o → J p l e { frames := 3, cells := 0, slots := 0, locals := 68 } s m args below meth c 7 D (va_A W0 s.heap.size) (MQ below (jQ D [(cI, .int), (cB, .byte), (cL, .byte), (cO, .object RX0)] W0 s.heap.size (is1 (some (.int o.1)) [(a_this, .inr (0, [.ref a_this_setup, .ref a_this_cohorts, .ref a_this_purchases, .ref a_this_diary, .ref a_this_tiers, .ref a_this_belowSince, .ref a_this_debts, .ref a_this_homes, .ref a_this_qualifying, .ref a_this_shares, .ref a_this_redeemed, .ref a_this_totals, .ref a_this_losses, .ref a_this_balances, .ref a_this_standing, .int v_this_day, .int v_this_windowStart])), (a_this_setup, .inr (7, [.ref a_this_setup_counts, .ref a_this_setup_names, .ref a_this_setup_thresholds, .ref a_this_setup_bonuses, .ref a_this_setup_rates, .ref a_this_setup_caps, .ref a_this_setup_promoCategories, .ref a_this_setup_promoFirstDays, .ref a_this_setup_promoLastDays, .ref a_this_setup_promoExtras, .ref a_this_setup_shares, .int v_this_setup_life, .int v_this_setup_window, .int v_this_setup_grace])), (a_this_setup_counts, .inr (6, [.ref a_this_setup_counts_cells])), (a_this_setup_counts_cells, .inl (cI, n_this_setup_counts_cells, .inl g_this_setup_counts_cells)), (a_this_setup_thresholds, .inr (6, [.ref a_this_setup_thresholds_cells])), (a_this_setup_thresholds_cells, .inl (cI, n_this_setup_thresholds_cells, .inl g_this_setup_thresholds_cells)), (a_this_purchases, .inr (5, [.ref a_this_purchases_parts, .int v_this_purchases_count])), (a_this_purchases_parts, .inr (6, [.ref a_this_purchases_parts_cells])), (a_this_purchases_parts_cells, .inl (cI, n_this_purchases_parts_cells, .inl g_this_purchases_parts_cells)), (a_this_tiers, .inr (6, [.ref a_this_tiers_cells])), (a_this_tiers_cells, .inl (cI, n_this_tiers_cells, .inl g_this_tiers_cells)), (a_this_belowSince, .inr (6, [.ref a_this_belowSince_cells])), (a_this_belowSince_cells, .inl (cI, n_this_belowSince_cells, .inl g_this_belowSince_cells)), (a_this_qualifying, .inr (6, [.ref a_this_qualifying_cells])), (a_this_qualifying_cells, .inl (cI, n_this_qualifying_cells, .inl g_this_qualifying_cells)), (a_this_standing, .inr (9, [.int o.2.1, .int o.2.2]))])) args s 0 0 (va_A W0 s.heap.size)) 0 0 46 [(0, .ref a_this), (1, .int x1), (2, .int x2), (3, .int x3), (4, .int x4), (5, .int x5)] [] [(a_this, .inr (0, [.ref a_this_setup, .ref a_this_cohorts, .ref a_this_purchases, .ref a_this_diary, .ref a_this_tiers, .ref a_this_belowSince, .ref a_this_debts, .ref a_this_homes, .ref a_this_qualifying, .ref a_this_shares, .ref a_this_redeemed, .ref a_this_totals, .ref a_this_losses, .ref a_this_balances, .ref a_this_standing, .int v_this_day, .int v_this_windowStart])), (a_this_setup, .inr (7, [.ref a_this_setup_counts, .ref a_this_setup_names, .ref a_this_setup_thresholds, .ref a_this_setup_bonuses, .ref a_this_setup_rates, .ref a_this_setup_caps, .ref a_this_setup_promoCategories, .ref a_this_setup_promoFirstDays, .ref a_this_setup_promoLastDays, .ref a_this_setup_promoExtras, .ref a_this_setup_shares, .int v_this_setup_life, .int v_this_setup_window, .int v_this_setup_grace])), (a_this_setup_counts, .inr (6, [.ref a_this_setup_counts_cells])), (a_this_setup_counts_cells, .inl (cI, n_this_setup_counts_cells, .inl g_this_setup_counts_cells)), (a_this_setup_thresholds, .inr (6, [.ref a_this_setup_thresholds_cells])), (a_this_setup_thresholds_cells, .inl (cI, n_this_setup_thresholds_cells, .inl g_this_setup_thresholds_cells)), (a_this_purchases, .inr (5, [.ref a_this_purchases_parts, .int v_this_purchases_count])), (a_this_purchases_parts, .inr (6, [.ref a_this_purchases_parts_cells])), (a_this_purchases_parts_cells, .inl (cI, n_this_purchases_parts_cells, .inl g_this_purchases_parts_cells)), (a_this_tiers, .inr (6, [.ref a_this_tiers_cells])), (a_this_tiers_cells, .inl (cI, n_this_tiers_cells, .inl g_this_tiers_cells)), (a_this_belowSince, .inr (6, [.ref a_this_belowSince_cells])), (a_this_belowSince_cells, .inl (cI, n_this_belowSince_cells, .inl g_this_belowSince_cells)), (a_this_qualifying, .inr (6, [.ref a_this_qualifying_cells])), (a_this_qualifying_cells, .inl (cI, n_this_qualifying_cells, .inl g_this_qualifying_cells)), (a_this_standing, .inr (9, [.int v_this_standing_tier, .int v_this_standing_since]))] := by
  intro n
  induction n with
  | zero =>
    intro _ _ _ _ _ h
    rw [f_X0_futureTier_b46] at h
    cases h
  | succ n ih =>
    intro x3 x4 x5 v_this_standing_tier v_this_standing_since h
    rw [f_X0_futureTier_b46] at h
    refine J_iload (pc := 46) C dX0_futureTier_46 5 rfl ?_
    refine J_aload_n (pc := 48) C dX0_futureTier_48 0 rfl ?_
    refine J_get (pc := 49) C dX0_futureTier_49 jf_X0 0 rfl rfl 15 (by decide) rfl fl_RX0_100 rfl ?_
    refine J_iload_n (pc := 52) C dX0_futureTier_52 2 rfl ?_
    refine J_iadd (pc := 53) C dX0_futureTier_53 ?_
    refine J_ic_gt (pc := 54) (tgt := 127) C dX0_futureTier_54 (by decide) h (fun h => ?_) (fun h => ?_)
    · refine J_aload_n (pc := 127) C dX0_futureTier_127 0 rfl ?_
      refine J_get (pc := 128) C dX0_futureTier_128 jf_X0 0 rfl rfl 14 (by decide) rfl fl_RX0_75 rfl ?_
      refine J_cvr (pc := 131) (As := []) (st := []) C dX0_futureTier_131 ml_RX0_251 mi_yX9_presentTier (fun r131 hr => c_X9_presentTier l D cI cB cL cO pf 0 a_this_standing v_this_standing_tier v_this_standing_since r131 hr) h [15] rfl rfl rfl rfl rfl ⟨rfl, rfl⟩ ⟨(Nat.le_of_ble_eq_true rfl), (Nat.le_of_ble_eq_true rfl)⟩ ⟨Nat.zero_le _, Nat.zero_le _⟩ (Nat.le_of_ble_eq_true rfl) (fun r131 h => ?_)
      cases h
      exact J_iret (pc := 134) C dX0_futureTier_134 hr ⟨rfl, rfl⟩
    · refine J_aload_n (pc := 57) C dX0_futureTier_57 0 rfl ?_
      refine J_get (pc := 58) C dX0_futureTier_58 jf_X0 0 rfl rfl 2 (by decide) rfl fl_RX0_25 rfl ?_
      refine J_iload (pc := 61) C dX0_futureTier_61 4 rfl ?_
      refine J_iload (pc := 63) C dX0_futureTier_63 5 rfl ?_
      refine J_aload_n (pc := 65) C dX0_futureTier_65 0 rfl ?_
      refine J_get (pc := 66) C dX0_futureTier_66 jf_X0 0 rfl rfl 0 (by decide) rfl fl_RX0_9 rfl ?_
      refine J_cvr (pc := 69) (As := []) (st := [.int x5, .int x4, .ref a_this_purchases]) C dX0_futureTier_69 ml_RX0_229 mi_yX7_window (fun r69 hr => c_X7_window l D cI cB cL cO pf 0 a_this_setup a_this_setup_counts a_this_setup_names a_this_setup_thresholds a_this_setup_bonuses a_this_setup_rates a_this_setup_caps a_this_setup_promoCategories a_this_setup_promoFirstDays a_this_setup_promoLastDays a_this_setup_promoExtras a_this_setup_shares v_this_setup_life v_this_setup_window v_this_setup_grace r69 hr) h [1] rfl rfl rfl rfl rfl ⟨rfl, rfl⟩ ⟨(Nat.le_of_ble_eq_true rfl), (Nat.le_of_ble_eq_true rfl)⟩ ⟨Nat.zero_le _, Nat.zero_le _⟩ (Nat.le_of_ble_eq_true rfl) (fun r69 h => ?_)
      refine J_isub (pc := 72) C dX0_futureTier_72 ?_
      refine J_cvr (pc := 73) (As := [.int x4, .int (x5 - r69)]) (st := []) C dX0_futureTier_73 ml_RX0_232 mi_yX5_firstAfter (fun r73 hr => c_X5_firstAfter l D cI cB cL cO pf N a_this_purchases a_this_purchases_parts a_this_purchases_parts_cells n_this_purchases_parts_cells v_this_purchases_count g_this_purchases_parts_cells x4 (x5 - r69) r73 hr) h [6, 7, 8] rfl rfl rfl rfl rfl ⟨rfl, rfl⟩ ⟨(Nat.le_of_ble_eq_true rfl), (Nat.le_of_ble_eq_true rfl)⟩ ⟨Nat.zero_le _, Nat.zero_le _⟩ (Nat.le_of_ble_eq_true rfl) (fun r73 h => ?_)
      refine J_istore (lv2 := [(6, .int r73), (0, .ref a_this), (1, .int x1), (2, .int x2), (3, .int x3), (4, .int x4), (5, .int x5)]) (pc := 76) C dX0_futureTier_76 (by decide) rfl ?_
      refine J_iload_n (pc := 78) C dX0_futureTier_78 4 rfl ?_
      refine J_aload_n (pc := 79) C dX0_futureTier_79 1 rfl ?_
      refine J_get (pc := 80) C dX0_futureTier_80 jf_X0 0 rfl rfl 2 (by decide) rfl fl_RX0_25 rfl ?_
      refine J_iload_n (pc := 83) C dX0_futureTier_83 2 rfl ?_
      refine J_iload (pc := 84) C dX0_futureTier_84 5 rfl ?_
      refine J_iload (pc := 86) C dX0_futureTier_86 0 rfl ?_
      refine J_cvr (pc := 88) (As := [.int x1, .int x4, .int r73]) (st := [.int x3]) C dX0_futureTier_88 ml_RX0_235 mi_yX5_basesOf (fun r88 hr => c_X5_basesOf l D cI cB cL cO pf N a_this_purchases a_this_purchases_parts a_this_purchases_parts_cells n_this_purchases_parts_cells v_this_purchases_count g_this_purchases_parts_cells x1 x4 r73 r88 hr) h [6, 7, 8] rfl rfl rfl rfl rfl ⟨rfl, rfl⟩ ⟨(Nat.le_of_ble_eq_true rfl), (Nat.le_of_ble_eq_true rfl)⟩ ⟨Nat.zero_le _, Nat.zero_le _⟩ (Nat.le_of_ble_eq_true rfl) (fun r88 h => ?_)
      refine J_isub (pc := 91) C dX0_futureTier_91 ?_
      refine J_istore_nN (pc := 92) C (fun y92 => [(3, .int y92), (6, .int r73), (0, .ref a_this), (1, .int x1), (2, .int x2), (4, .int x4), (5, .int x5)]) dX0_futureTier_92 h (by decide) (fun _ => rfl) (fun y92 h => ?_)
      refine J_iload (pc := 93) C dX0_futureTier_93 1 rfl ?_
      refine J_istore (lv2 := [(4, .int r73), (3, .int y92), (6, .int r73), (0, .ref a_this), (1, .int x1), (2, .int x2), (5, .int x5)]) (pc := 95) C dX0_futureTier_95 (by decide) rfl ?_
      refine J_aload_n (pc := 97) C dX0_futureTier_97 3 rfl ?_
      refine J_get (pc := 98) C dX0_futureTier_98 jf_X0 0 rfl rfl 14 (by decide) rfl fl_RX0_75 rfl ?_
      refine J_aload_n (pc := 101) C dX0_futureTier_101 3 rfl ?_
      refine J_get (pc := 102) C dX0_futureTier_102 jf_X0 0 rfl rfl 0 (by decide) rfl fl_RX0_9 rfl ?_
      refine J_iload_n (pc := 105) C dX0_futureTier_105 1 rfl ?_
      refine J_cvr (pc := 106) (As := [.int y92]) (st := [.ref a_this_standing]) C dX0_futureTier_106 ml_RX0_241 mi_yX7_tierFor (fun r106 hr => c_X7_tierFor l D cI cB cL cO pf N a_this_setup a_this_setup_counts a_this_setup_names a_this_setup_thresholds a_this_setup_bonuses a_this_setup_rates a_this_setup_caps a_this_setup_promoCategories a_this_setup_promoFirstDays a_this_setup_promoLastDays a_this_setup_promoExtras a_this_setup_shares a_this_setup_counts_cells a_this_setup_thresholds_cells n_this_setup_counts_cells n_this_setup_thresholds_cells v_this_setup_life v_this_setup_window v_this_setup_grace g_this_setup_counts_cells g_this_setup_thresholds_cells y92 r106 hr) h [1, 2, 3, 4, 5] rfl rfl rfl rfl rfl ⟨rfl, rfl⟩ ⟨(Nat.le_of_ble_eq_true rfl), (Nat.le_of_ble_eq_true rfl)⟩ ⟨Nat.zero_le _, Nat.zero_le _⟩ (Nat.le_of_ble_eq_true rfl) (fun r106 h => ?_)
      refine J_iload (pc := 109) C dX0_futureTier_109 6 rfl ?_
      refine J_aload_n (pc := 111) C dX0_futureTier_111 3 rfl ?_
      refine J_get (pc := 112) C dX0_futureTier_112 jf_X0 0 rfl rfl 0 (by decide) rfl fl_RX0_9 rfl ?_
      refine J_cvr (pc := 115) (As := []) (st := [.int x5, .int r106, .ref a_this_standing]) C dX0_futureTier_115 ml_RX0_244 mi_yX7_grace (fun r115 hr => c_X7_grace l D cI cB cL cO pf 0 a_this_setup a_this_setup_counts a_this_setup_names a_this_setup_thresholds a_this_setup_bonuses a_this_setup_rates a_this_setup_caps a_this_setup_promoCategories a_this_setup_promoFirstDays a_this_setup_promoLastDays a_this_setup_promoExtras a_this_setup_shares v_this_setup_life v_this_setup_window v_this_setup_grace r115 hr) h [1] rfl rfl rfl rfl rfl ⟨rfl, rfl⟩ ⟨(Nat.le_of_ble_eq_true rfl), (Nat.le_of_ble_eq_true rfl)⟩ ⟨Nat.zero_le _, Nat.zero_le _⟩ (Nat.le_of_ble_eq_true rfl) (fun r115 h => ?_)
      refine J_cvw (pc := 118) (As := [.int r106, .int x5, .int r115]) (st := []) C (fun r118 => [(a_this, .inr (0, [.ref a_this_setup, .ref a_this_cohorts, .ref a_this_purchases, .ref a_this_diary, .ref a_this_tiers, .ref a_this_belowSince, .ref a_this_debts, .ref a_this_homes, .ref a_this_qualifying, .ref a_this_shares, .ref a_this_redeemed, .ref a_this_totals, .ref a_this_losses, .ref a_this_balances, .ref a_this_standing, .int v_this_day, .int v_this_windowStart])), (a_this_setup, .inr (7, [.ref a_this_setup_counts, .ref a_this_setup_names, .ref a_this_setup_thresholds, .ref a_this_setup_bonuses, .ref a_this_setup_rates, .ref a_this_setup_caps, .ref a_this_setup_promoCategories, .ref a_this_setup_promoFirstDays, .ref a_this_setup_promoLastDays, .ref a_this_setup_promoExtras, .ref a_this_setup_shares, .int v_this_setup_life, .int v_this_setup_window, .int v_this_setup_grace])), (a_this_setup_counts, .inr (6, [.ref a_this_setup_counts_cells])), (a_this_setup_counts_cells, .inl (cI, n_this_setup_counts_cells, .inl g_this_setup_counts_cells)), (a_this_setup_thresholds, .inr (6, [.ref a_this_setup_thresholds_cells])), (a_this_setup_thresholds_cells, .inl (cI, n_this_setup_thresholds_cells, .inl g_this_setup_thresholds_cells)), (a_this_purchases, .inr (5, [.ref a_this_purchases_parts, .int v_this_purchases_count])), (a_this_purchases_parts, .inr (6, [.ref a_this_purchases_parts_cells])), (a_this_purchases_parts_cells, .inl (cI, n_this_purchases_parts_cells, .inl g_this_purchases_parts_cells)), (a_this_tiers, .inr (6, [.ref a_this_tiers_cells])), (a_this_tiers_cells, .inl (cI, n_this_tiers_cells, .inl g_this_tiers_cells)), (a_this_belowSince, .inr (6, [.ref a_this_belowSince_cells])), (a_this_belowSince_cells, .inl (cI, n_this_belowSince_cells, .inl g_this_belowSince_cells)), (a_this_qualifying, .inr (6, [.ref a_this_qualifying_cells])), (a_this_qualifying_cells, .inl (cI, n_this_qualifying_cells, .inl g_this_qualifying_cells)), (a_this_standing, .inr (9, [.int r118.1, .int r118.2]))]) dX0_futureTier_118 ml_RX0_247 mi_yX9_check (fun r118 hr => c_X9_check l D cI cB cL cO pf 0 a_this_standing v_this_standing_tier v_this_standing_since r106 x5 r115 r118 hr) h [15] rfl rfl rfl rfl rfl ⟨rfl, rfl⟩ ⟨(Nat.le_of_ble_eq_true rfl), (Nat.le_of_ble_eq_true rfl)⟩ ⟨Nat.zero_le _, Nat.zero_le _⟩ (Nat.le_of_ble_eq_true rfl) (fun _ => rfl) (fun _ => rfl) (fun r118 h => ?_)
      refine J_iincN (pc := 121) (v := (1 : Int32)) C (fun y121 => [(5, .int y121), (4, .int r73), (3, .int y92), (6, .int r73), (0, .ref a_this), (1, .int x1), (2, .int x2)]) dX0_futureTier_121 6 rfl (by decide) h (by decide) (fun _ => rfl) (fun y121 h => ?_)
      refine J_goto (tgt := 46) (pc := 124) C dX0_futureTier_124 (by decide) ?_
      refine J_sub (lv2 := [(0, .ref a_this), (1, .int x1), (2, .int x2), (3, .int y92), (4, .int r73), (5, .int y121)]) [4, 5, 6, 2, 1, 0] rfl ?_
      exact ih _ _ _ _ _ h
set_option maxHeartbeats 4000000 in
set_option maxRecDepth 100000 in
theorem c_X0_futureTier (l : Launch) (D : va_G) (cI cB cL cO : ClassId) (pf : Nat → Nat) (N : Nat) (a_this a_this_setup a_this_cohorts a_this_purchases a_this_diary a_this_tiers a_this_belowSince a_this_debts a_this_homes a_this_qualifying a_this_shares a_this_redeemed a_this_totals a_this_losses a_this_balances a_this_standing a_this_setup_counts a_this_setup_names a_this_setup_thresholds a_this_setup_bonuses a_this_setup_rates a_this_setup_caps a_this_setup_promoCategories a_this_setup_promoFirstDays a_this_setup_promoLastDays a_this_setup_promoExtras a_this_setup_shares a_this_setup_counts_cells a_this_setup_thresholds_cells a_this_purchases_parts a_this_purchases_parts_cells a_this_tiers_cells a_this_belowSince_cells a_this_qualifying_cells : Nat) (n_this_setup_counts_cells : Nat) (n_this_setup_thresholds_cells : Nat) (n_this_purchases_parts_cells : Nat) (n_this_tiers_cells : Nat) (n_this_belowSince_cells : Nat) (n_this_qualifying_cells : Nat) (v_this_day : Int32) (v_this_windowStart : Int32) (v_this_setup_life : Int32) (v_this_setup_window : Int32) (v_this_setup_grace : Int32) (g_this_setup_counts_cells : Nat → Int32) (g_this_setup_thresholds_cells : Nat → Int32) (v_this_purchases_count : Int32) (g_this_purchases_parts_cells : Nat → Int32) (g_this_tiers_cells : Nat → Int32) (g_this_belowSince_cells : Nat → Int32) (g_this_qualifying_cells : Nat → Int32) (v_this_standing_tier : Int32) (v_this_standing_since : Int32) (x1 : Int32) (x2 : Int32) (o : Int32 × Int32 × Int32) (h : f_X0_futureTier N x1 x2 n_this_setup_counts_cells n_this_setup_thresholds_cells n_this_purchases_parts_cells n_this_tiers_cells n_this_belowSince_cells n_this_qualifying_cells v_this_day v_this_windowStart v_this_setup_window v_this_setup_grace g_this_setup_counts_cells g_this_setup_thresholds_cells v_this_purchases_count g_this_purchases_parts_cells g_this_tiers_cells g_this_belowSince_cells g_this_qualifying_cells = some o) : Ct l D [(cI, .int), (cB, .byte), (cL, .byte), (cO, .object RX0)] pf yX0_futureTier cX0_futureTier 7 (some FieldType.int) { frames := 3, cells := 0, slots := 0, locals := 68 } [.ref a_this, .int x1, .int x2] [(a_this, .inr (0, [.ref a_this_setup, .ref a_this_cohorts, .ref a_this_purchases, .ref a_this_diary, .ref a_this_tiers, .ref a_this_belowSince, .ref a_this_debts, .ref a_this_homes, .ref a_this_qualifying, .ref a_this_shares, .ref a_this_redeemed, .ref a_this_totals, .ref a_this_losses, .ref a_this_balances, .ref a_this_standing, .int v_this_day, .int v_this_windowStart])), (a_this_setup, .inr (7, [.ref a_this_setup_counts, .ref a_this_setup_names, .ref a_this_setup_thresholds, .ref a_this_setup_bonuses, .ref a_this_setup_rates, .ref a_this_setup_caps, .ref a_this_setup_promoCategories, .ref a_this_setup_promoFirstDays, .ref a_this_setup_promoLastDays, .ref a_this_setup_promoExtras, .ref a_this_setup_shares, .int v_this_setup_life, .int v_this_setup_window, .int v_this_setup_grace])), (a_this_setup_counts, .inr (6, [.ref a_this_setup_counts_cells])), (a_this_setup_counts_cells, .inl (cI, n_this_setup_counts_cells, .inl g_this_setup_counts_cells)), (a_this_setup_thresholds, .inr (6, [.ref a_this_setup_thresholds_cells])), (a_this_setup_thresholds_cells, .inl (cI, n_this_setup_thresholds_cells, .inl g_this_setup_thresholds_cells)), (a_this_purchases, .inr (5, [.ref a_this_purchases_parts, .int v_this_purchases_count])), (a_this_purchases_parts, .inr (6, [.ref a_this_purchases_parts_cells])), (a_this_purchases_parts_cells, .inl (cI, n_this_purchases_parts_cells, .inl g_this_purchases_parts_cells)), (a_this_tiers, .inr (6, [.ref a_this_tiers_cells])), (a_this_tiers_cells, .inl (cI, n_this_tiers_cells, .inl g_this_tiers_cells)), (a_this_belowSince, .inr (6, [.ref a_this_belowSince_cells])), (a_this_belowSince_cells, .inl (cI, n_this_belowSince_cells, .inl g_this_belowSince_cells)), (a_this_qualifying, .inr (6, [.ref a_this_qualifying_cells])), (a_this_qualifying_cells, .inl (cI, n_this_qualifying_cells, .inl g_this_qualifying_cells)), (a_this_standing, .inr (9, [.int v_this_standing_tier, .int v_this_standing_since]))] (is1 (some (.int o.1)) [(a_this, .inr (0, [.ref a_this_setup, .ref a_this_cohorts, .ref a_this_purchases, .ref a_this_diary, .ref a_this_tiers, .ref a_this_belowSince, .ref a_this_debts, .ref a_this_homes, .ref a_this_qualifying, .ref a_this_shares, .ref a_this_redeemed, .ref a_this_totals, .ref a_this_losses, .ref a_this_balances, .ref a_this_standing, .int v_this_day, .int v_this_windowStart])), (a_this_setup, .inr (7, [.ref a_this_setup_counts, .ref a_this_setup_names, .ref a_this_setup_thresholds, .ref a_this_setup_bonuses, .ref a_this_setup_rates, .ref a_this_setup_caps, .ref a_this_setup_promoCategories, .ref a_this_setup_promoFirstDays, .ref a_this_setup_promoLastDays, .ref a_this_setup_promoExtras, .ref a_this_setup_shares, .int v_this_setup_life, .int v_this_setup_window, .int v_this_setup_grace])), (a_this_setup_counts, .inr (6, [.ref a_this_setup_counts_cells])), (a_this_setup_counts_cells, .inl (cI, n_this_setup_counts_cells, .inl g_this_setup_counts_cells)), (a_this_setup_thresholds, .inr (6, [.ref a_this_setup_thresholds_cells])), (a_this_setup_thresholds_cells, .inl (cI, n_this_setup_thresholds_cells, .inl g_this_setup_thresholds_cells)), (a_this_purchases, .inr (5, [.ref a_this_purchases_parts, .int v_this_purchases_count])), (a_this_purchases_parts, .inr (6, [.ref a_this_purchases_parts_cells])), (a_this_purchases_parts_cells, .inl (cI, n_this_purchases_parts_cells, .inl g_this_purchases_parts_cells)), (a_this_tiers, .inr (6, [.ref a_this_tiers_cells])), (a_this_tiers_cells, .inl (cI, n_this_tiers_cells, .inl g_this_tiers_cells)), (a_this_belowSince, .inr (6, [.ref a_this_belowSince_cells])), (a_this_belowSince_cells, .inl (cI, n_this_belowSince_cells, .inl g_this_belowSince_cells)), (a_this_qualifying, .inr (6, [.ref a_this_qualifying_cells])), (a_this_qualifying_cells, .inl (cI, n_this_qualifying_cells, .inl g_this_qualifying_cells)), (a_this_standing, .inr (9, [.int o.2.1, .int o.2.2]))]) := by
  refine Ct_of (own := RX0) (lv0 := [(0, .ref a_this), (1, .int x1), (2, .int x2)]) (by decide) rfl rfl (Nat.le_of_ble_eq_true rfl) ?_
  intro p e s m args below meth c C hr hnm
  unfold f_X0_futureTier at h
  refine J_aload_n (pc := 0) C dX0_futureTier_0 0 rfl ?_
  refine J_get (pc := 1) C dX0_futureTier_1 jf_X0 0 rfl rfl 14 (by decide) rfl fl_RX0_75 rfl ?_
  refine J_aload_n (pc := 4) C dX0_futureTier_4 0 rfl ?_
  refine J_get (pc := 5) C dX0_futureTier_5 jf_X0 0 rfl rfl 4 (by decide) rfl fl_RX0_41 rfl ?_
  refine J_iload_n (pc := 8) C dX0_futureTier_8 1 rfl ?_
  refine J_cvr (pc := 9) (As := [.int x1]) (st := [.ref a_this_standing]) C dX0_futureTier_9 ml_RX0_121 mi_yX6_at (fun r9 hr => c_X6_at l D cI cB cL cO pf 0 a_this_tiers a_this_tiers_cells n_this_tiers_cells g_this_tiers_cells x1 r9 hr) h [9, 10] rfl rfl rfl rfl rfl ⟨rfl, rfl⟩ ⟨(Nat.le_of_ble_eq_true rfl), (Nat.le_of_ble_eq_true rfl)⟩ ⟨Nat.zero_le _, Nat.zero_le _⟩ (Nat.le_of_ble_eq_true rfl) (fun r9 h => ?_)
  refine J_aload_n (pc := 12) C dX0_futureTier_12 0 rfl ?_
  refine J_get (pc := 13) C dX0_futureTier_13 jf_X0 0 rfl rfl 5 (by decide) rfl fl_RX0_45 rfl ?_
  refine J_iload_n (pc := 16) C dX0_futureTier_16 1 rfl ?_
  refine J_cvr (pc := 17) (As := [.int x1]) (st := [.int r9, .ref a_this_standing]) C dX0_futureTier_17 ml_RX0_121 mi_yX6_at (fun r17 hr => c_X6_at l D cI cB cL cO pf 0 a_this_belowSince a_this_belowSince_cells n_this_belowSince_cells g_this_belowSince_cells x1 r17 hr) h [11, 12] rfl rfl rfl rfl rfl ⟨rfl, rfl⟩ ⟨(Nat.le_of_ble_eq_true rfl), (Nat.le_of_ble_eq_true rfl)⟩ ⟨Nat.zero_le _, Nat.zero_le _⟩ (Nat.le_of_ble_eq_true rfl) (fun r17 h => ?_)
  refine J_cvw (pc := 20) (As := [.int r9, .int r17]) (st := []) C (fun r20 => [(a_this, .inr (0, [.ref a_this_setup, .ref a_this_cohorts, .ref a_this_purchases, .ref a_this_diary, .ref a_this_tiers, .ref a_this_belowSince, .ref a_this_debts, .ref a_this_homes, .ref a_this_qualifying, .ref a_this_shares, .ref a_this_redeemed, .ref a_this_totals, .ref a_this_losses, .ref a_this_balances, .ref a_this_standing, .int v_this_day, .int v_this_windowStart])), (a_this_setup, .inr (7, [.ref a_this_setup_counts, .ref a_this_setup_names, .ref a_this_setup_thresholds, .ref a_this_setup_bonuses, .ref a_this_setup_rates, .ref a_this_setup_caps, .ref a_this_setup_promoCategories, .ref a_this_setup_promoFirstDays, .ref a_this_setup_promoLastDays, .ref a_this_setup_promoExtras, .ref a_this_setup_shares, .int v_this_setup_life, .int v_this_setup_window, .int v_this_setup_grace])), (a_this_setup_counts, .inr (6, [.ref a_this_setup_counts_cells])), (a_this_setup_counts_cells, .inl (cI, n_this_setup_counts_cells, .inl g_this_setup_counts_cells)), (a_this_setup_thresholds, .inr (6, [.ref a_this_setup_thresholds_cells])), (a_this_setup_thresholds_cells, .inl (cI, n_this_setup_thresholds_cells, .inl g_this_setup_thresholds_cells)), (a_this_purchases, .inr (5, [.ref a_this_purchases_parts, .int v_this_purchases_count])), (a_this_purchases_parts, .inr (6, [.ref a_this_purchases_parts_cells])), (a_this_purchases_parts_cells, .inl (cI, n_this_purchases_parts_cells, .inl g_this_purchases_parts_cells)), (a_this_tiers, .inr (6, [.ref a_this_tiers_cells])), (a_this_tiers_cells, .inl (cI, n_this_tiers_cells, .inl g_this_tiers_cells)), (a_this_belowSince, .inr (6, [.ref a_this_belowSince_cells])), (a_this_belowSince_cells, .inl (cI, n_this_belowSince_cells, .inl g_this_belowSince_cells)), (a_this_qualifying, .inr (6, [.ref a_this_qualifying_cells])), (a_this_qualifying_cells, .inl (cI, n_this_qualifying_cells, .inl g_this_qualifying_cells)), (a_this_standing, .inr (9, [.int r20.1, .int r20.2]))]) dX0_futureTier_20 ml_RX0_238 mi_yX9_start (fun r20 hr => c_X9_start l D cI cB cL cO pf 0 a_this_standing v_this_standing_tier v_this_standing_since r9 r17 r20 hr) h [15] rfl rfl rfl rfl rfl ⟨rfl, rfl⟩ ⟨(Nat.le_of_ble_eq_true rfl), (Nat.le_of_ble_eq_true rfl)⟩ ⟨Nat.zero_le _, Nat.zero_le _⟩ (Nat.le_of_ble_eq_true rfl) (fun _ => rfl) (fun _ => rfl) (fun r20 h => ?_)
  refine J_aload_n (pc := 23) C dX0_futureTier_23 0 rfl ?_
  refine J_get (pc := 24) C dX0_futureTier_24 jf_X0 0 rfl rfl 8 (by decide) rfl fl_RX0_54 rfl ?_
  refine J_iload_n (pc := 27) C dX0_futureTier_27 1 rfl ?_
  refine J_cvr (pc := 28) (As := [.int x1]) (st := []) C dX0_futureTier_28 ml_RX0_121 mi_yX6_at (fun r28 hr => c_X6_at l D cI cB cL cO pf 0 a_this_qualifying a_this_qualifying_cells n_this_qualifying_cells g_this_qualifying_cells x1 r28 hr) h [13, 14] rfl rfl rfl rfl rfl ⟨rfl, rfl⟩ ⟨(Nat.le_of_ble_eq_true rfl), (Nat.le_of_ble_eq_true rfl)⟩ ⟨Nat.zero_le _, Nat.zero_le _⟩ (Nat.le_of_ble_eq_true rfl) (fun r28 h => ?_)
  refine J_istore_n (lv2 := [(3, .int r28), (0, .ref a_this), (1, .int x1), (2, .int x2)]) (pc := 31) C dX0_futureTier_31 (by decide) rfl ?_
  refine J_aload_n (pc := 32) C dX0_futureTier_32 1 rfl ?_
  refine J_get (pc := 33) C dX0_futureTier_33 jf_X0 0 rfl rfl 16 (by decide) rfl fl_RX0_104 rfl ?_
  refine J_istore (lv2 := [(4, .int v_this_windowStart), (3, .int r28), (0, .ref a_this), (1, .int x1), (2, .int x2)]) (pc := 36) C dX0_futureTier_36 (by decide) rfl ?_
  refine J_aload_n (pc := 38) C dX0_futureTier_38 2 rfl ?_
  refine J_get (pc := 39) C dX0_futureTier_39 jf_X0 0 rfl rfl 15 (by decide) rfl fl_RX0_100 rfl ?_
  refine J_iconst (v := (1 : Int32)) (pc := 42) C dX0_futureTier_42 (by decide) ?_
  refine J_iadd (pc := 43) C dX0_futureTier_43 ?_
  refine J_istoreN (pc := 44) C (fun y44 => [(5, .int y44), (4, .int v_this_windowStart), (3, .int r28), (0, .ref a_this), (1, .int x1), (2, .int x2)]) dX0_futureTier_44 h (by decide) (fun _ => rfl) (fun y44 h => ?_)
  refine J_sub (lv2 := [(0, .ref a_this), (1, .int x1), (2, .int x2), (3, .int r28), (4, .int v_this_windowStart), (5, .int y44)]) [3, 4, 5, 2, 1, 0] rfl ?_
  exact t_X0_futureTier_b46 C hr N _ _ _ _ _ h
-- PointsLedger$Books.estimate(II)I
theorem dX0_estimate_0 : decode cX0_estimate 0 = .ok (.aload_n 0, 1) := by decide +kernel
theorem dX0_estimate_1 : decode cX0_estimate 1 = .ok (.getfield 63, 3) := by decide +kernel
theorem dX0_estimate_4 : decode cX0_estimate 4 = .ok (.iconst 2, 1) := by decide +kernel
theorem dX0_estimate_5 : decode cX0_estimate 5 = .ok (.invokevirtual 121, 3) := by decide +kernel
theorem dX0_estimate_8 : decode cX0_estimate 8 = .ok (.i2l, 1) := by decide +kernel
theorem dX0_estimate_9 : decode cX0_estimate 9 = .ok (.lstore_n 3, 1) := by decide +kernel
theorem dX0_estimate_10 : decode cX0_estimate 10 = .ok (.lload_n 3, 1) := by decide +kernel
theorem dX0_estimate_11 : decode cX0_estimate 11 = .ok (.aload_n 0, 1) := by decide +kernel
theorem dX0_estimate_12 : decode cX0_estimate 12 = .ok (.getfield 60, 3) := by decide +kernel
theorem dX0_estimate_15 : decode cX0_estimate 15 = .ok (.aload_n 0, 1) := by decide +kernel
theorem dX0_estimate_16 : decode cX0_estimate 16 = .ok (.getfield 9, 3) := by decide +kernel
theorem dX0_estimate_19 : decode cX0_estimate 19 = .ok (.iload_n 2, 1) := by decide +kernel
theorem dX0_estimate_20 : decode cX0_estimate 20 = .ok (.aload_n 0, 1) := by decide +kernel
theorem dX0_estimate_21 : decode cX0_estimate 21 = .ok (.getfield 100, 3) := by decide +kernel
theorem dX0_estimate_24 : decode cX0_estimate 24 = .ok (.invokevirtual 211, 3) := by decide +kernel
theorem dX0_estimate_27 : decode cX0_estimate 27 = .ok (.invokevirtual 145, 3) := by decide +kernel
theorem dX0_estimate_30 : decode cX0_estimate 30 = .ok (.i2l, 1) := by decide +kernel
theorem dX0_estimate_31 : decode cX0_estimate 31 = .ok (.ladd, 1) := by decide +kernel
theorem dX0_estimate_32 : decode cX0_estimate 32 = .ok (.lstore 5, 2) := by decide +kernel
theorem dX0_estimate_34 : decode cX0_estimate 34 = .ok (.lload 5, 2) := by decide +kernel
theorem dX0_estimate_36 : decode cX0_estimate 36 = .ok (.lconst 0, 1) := by decide +kernel
theorem dX0_estimate_37 : decode cX0_estimate 37 = .ok (.lcmp, 1) := by decide +kernel
theorem dX0_estimate_38 : decode cX0_estimate 38 = .ok (.ifCond .gt 7, 3) := by decide +kernel
theorem dX0_estimate_41 : decode cX0_estimate 41 = .ok (.iconst 0, 1) := by decide +kernel
theorem dX0_estimate_42 : decode cX0_estimate 42 = .ok (.goto 11, 3) := by decide +kernel
theorem dX0_estimate_45 : decode cX0_estimate 45 = .ok (.iload_n 1, 1) := by decide +kernel
theorem dX0_estimate_46 : decode cX0_estimate 46 = .ok (.i2l, 1) := by decide +kernel
theorem dX0_estimate_47 : decode cX0_estimate 47 = .ok (.lload_n 3, 1) := by decide +kernel
theorem dX0_estimate_48 : decode cX0_estimate 48 = .ok (.lmul, 1) := by decide +kernel
theorem dX0_estimate_49 : decode cX0_estimate 49 = .ok (.lload 5, 2) := by decide +kernel
theorem dX0_estimate_51 : decode cX0_estimate 51 = .ok (.ldiv, 1) := by decide +kernel
theorem dX0_estimate_52 : decode cX0_estimate 52 = .ok (.l2i, 1) := by decide +kernel
theorem dX0_estimate_53 : decode cX0_estimate 53 = .ok (.ireturn, 1) := by decide +kernel
def f_X0_estimate (N : Nat) (x1 : Int32) (x2 : Int32) (n_this_redeemed_cells : Nat) (n_this_totals_cells : Nat) (v_this_day : Int32) (v_this_setup_life : Int32) (g_this_redeemed_cells : Nat → Int32) (g_this_totals_cells : Nat → Int32) : Option (Int32) :=
  ((f_X6_at (2 : Int32) n_this_totals_cells g_this_totals_cells).bind fun r5 => ((f_X7_partOfLife x2 v_this_day v_this_setup_life).bind fun r24 => ((f_X6_sumFrom N r24 n_this_redeemed_cells g_this_redeemed_cells).bind fun r27 => (if 0 < (lg_cmp (r5.toInt64 + r27.toInt64) (0 : Int64)) then (if (r5.toInt64 + r27.toInt64) = 0 then none else (some (((x1.toInt64 * r5.toInt64) / (r5.toInt64 + r27.toInt64)).toInt32))) else (some (0 : Int32))))))
set_option maxHeartbeats 4000000 in
set_option maxRecDepth 100000 in
theorem c_X0_estimate (l : Launch) (D : va_G) (cI cB cL cO : ClassId) (pf : Nat → Nat) (N : Nat) (a_this a_this_setup a_this_cohorts a_this_purchases a_this_diary a_this_tiers a_this_belowSince a_this_debts a_this_homes a_this_qualifying a_this_shares a_this_redeemed a_this_totals a_this_losses a_this_balances a_this_standing a_this_setup_counts a_this_setup_names a_this_setup_thresholds a_this_setup_bonuses a_this_setup_rates a_this_setup_caps a_this_setup_promoCategories a_this_setup_promoFirstDays a_this_setup_promoLastDays a_this_setup_promoExtras a_this_setup_shares a_this_redeemed_cells a_this_totals_cells : Nat) (n_this_redeemed_cells : Nat) (n_this_totals_cells : Nat) (v_this_day : Int32) (v_this_windowStart : Int32) (v_this_setup_life : Int32) (v_this_setup_window : Int32) (v_this_setup_grace : Int32) (g_this_redeemed_cells : Nat → Int32) (g_this_totals_cells : Nat → Int32) (x1 : Int32) (x2 : Int32) (o : Int32) (h : f_X0_estimate N x1 x2 n_this_redeemed_cells n_this_totals_cells v_this_day v_this_setup_life g_this_redeemed_cells g_this_totals_cells = some o) : Ct l D [(cI, .int), (cB, .byte), (cL, .byte), (cO, .object RX0)] pf yX0_estimate cX0_estimate 7 (some FieldType.int) { frames := 2, cells := 0, slots := 0, locals := 47 } [.ref a_this, .int x1, .int x2] [(a_this, .inr (0, [.ref a_this_setup, .ref a_this_cohorts, .ref a_this_purchases, .ref a_this_diary, .ref a_this_tiers, .ref a_this_belowSince, .ref a_this_debts, .ref a_this_homes, .ref a_this_qualifying, .ref a_this_shares, .ref a_this_redeemed, .ref a_this_totals, .ref a_this_losses, .ref a_this_balances, .ref a_this_standing, .int v_this_day, .int v_this_windowStart])), (a_this_setup, .inr (7, [.ref a_this_setup_counts, .ref a_this_setup_names, .ref a_this_setup_thresholds, .ref a_this_setup_bonuses, .ref a_this_setup_rates, .ref a_this_setup_caps, .ref a_this_setup_promoCategories, .ref a_this_setup_promoFirstDays, .ref a_this_setup_promoLastDays, .ref a_this_setup_promoExtras, .ref a_this_setup_shares, .int v_this_setup_life, .int v_this_setup_window, .int v_this_setup_grace])), (a_this_redeemed, .inr (6, [.ref a_this_redeemed_cells])), (a_this_redeemed_cells, .inl (cI, n_this_redeemed_cells, .inl g_this_redeemed_cells)), (a_this_totals, .inr (6, [.ref a_this_totals_cells])), (a_this_totals_cells, .inl (cI, n_this_totals_cells, .inl g_this_totals_cells))] (is1 (some (.int o)) [(a_this, .inr (0, [.ref a_this_setup, .ref a_this_cohorts, .ref a_this_purchases, .ref a_this_diary, .ref a_this_tiers, .ref a_this_belowSince, .ref a_this_debts, .ref a_this_homes, .ref a_this_qualifying, .ref a_this_shares, .ref a_this_redeemed, .ref a_this_totals, .ref a_this_losses, .ref a_this_balances, .ref a_this_standing, .int v_this_day, .int v_this_windowStart])), (a_this_setup, .inr (7, [.ref a_this_setup_counts, .ref a_this_setup_names, .ref a_this_setup_thresholds, .ref a_this_setup_bonuses, .ref a_this_setup_rates, .ref a_this_setup_caps, .ref a_this_setup_promoCategories, .ref a_this_setup_promoFirstDays, .ref a_this_setup_promoLastDays, .ref a_this_setup_promoExtras, .ref a_this_setup_shares, .int v_this_setup_life, .int v_this_setup_window, .int v_this_setup_grace])), (a_this_redeemed, .inr (6, [.ref a_this_redeemed_cells])), (a_this_redeemed_cells, .inl (cI, n_this_redeemed_cells, .inl g_this_redeemed_cells)), (a_this_totals, .inr (6, [.ref a_this_totals_cells])), (a_this_totals_cells, .inl (cI, n_this_totals_cells, .inl g_this_totals_cells))]) := by
  refine Ct_of (own := RX0) (lv0 := [(0, .ref a_this), (1, .int x1), (2, .int x2)]) (by decide) rfl rfl (Nat.le_of_ble_eq_true rfl) ?_
  intro p e s m args below meth c C hr hnm
  unfold f_X0_estimate at h
  refine J_aload_n (pc := 0) C dX0_estimate_0 0 rfl ?_
  refine J_get (pc := 1) C dX0_estimate_1 jf_X0 0 rfl rfl 11 (by decide) rfl fl_RX0_63 rfl ?_
  refine J_iconst (v := (2 : Int32)) (pc := 4) C dX0_estimate_4 (by decide) ?_
  refine J_cvr (pc := 5) (As := [.int (2 : Int32)]) (st := []) C dX0_estimate_5 ml_RX0_121 mi_yX6_at (fun r5 hr => c_X6_at l D cI cB cL cO pf 0 a_this_totals a_this_totals_cells n_this_totals_cells g_this_totals_cells (2 : Int32) r5 hr) h [4, 5] rfl rfl rfl rfl rfl ⟨rfl, rfl⟩ ⟨(Nat.le_of_ble_eq_true rfl), (Nat.le_of_ble_eq_true rfl)⟩ ⟨Nat.zero_le _, Nat.zero_le _⟩ (Nat.le_of_ble_eq_true rfl) (fun r5 h => ?_)
  refine J_i2l (pc := 8) C dX0_estimate_8 ?_
  refine J_lstore_n (lv2 := [(3, .long r5.toInt64), (0, .ref a_this), (1, .int x1), (2, .int x2)]) (pc := 9) C dX0_estimate_9 (by decide) rfl ?_
  refine J_lload_n (pc := 10) C dX0_estimate_10 0 rfl ?_
  refine J_aload_n (pc := 11) C dX0_estimate_11 1 rfl ?_
  refine J_get (pc := 12) C dX0_estimate_12 jf_X0 0 rfl rfl 10 (by decide) rfl fl_RX0_60 rfl ?_
  refine J_aload_n (pc := 15) C dX0_estimate_15 1 rfl ?_
  refine J_get (pc := 16) C dX0_estimate_16 jf_X0 0 rfl rfl 0 (by decide) rfl fl_RX0_9 rfl ?_
  refine J_iload_n (pc := 19) C dX0_estimate_19 3 rfl ?_
  refine J_aload_n (pc := 20) C dX0_estimate_20 1 rfl ?_
  refine J_get (pc := 21) C dX0_estimate_21 jf_X0 0 rfl rfl 15 (by decide) rfl fl_RX0_100 rfl ?_
  refine J_cvr (pc := 24) (As := [.int x2, .int v_this_day]) (st := [.ref a_this_redeemed, .long r5.toInt64]) C dX0_estimate_24 ml_RX0_211 mi_yX7_partOfLife (fun r24 hr => c_X7_partOfLife l D cI cB cL cO pf 0 a_this_setup a_this_setup_counts a_this_setup_names a_this_setup_thresholds a_this_setup_bonuses a_this_setup_rates a_this_setup_caps a_this_setup_promoCategories a_this_setup_promoFirstDays a_this_setup_promoLastDays a_this_setup_promoExtras a_this_setup_shares v_this_setup_life v_this_setup_window v_this_setup_grace x2 v_this_day r24 hr) h [1] rfl rfl rfl rfl rfl ⟨rfl, rfl⟩ ⟨(Nat.le_of_ble_eq_true rfl), (Nat.le_of_ble_eq_true rfl)⟩ ⟨Nat.zero_le _, Nat.zero_le _⟩ (Nat.le_of_ble_eq_true rfl) (fun r24 h => ?_)
  refine J_cvr (pc := 27) (As := [.int r24]) (st := [.long r5.toInt64]) C dX0_estimate_27 ml_RX0_145 mi_yX6_sumFrom (fun r27 hr => c_X6_sumFrom l D cI cB cL cO pf N a_this_redeemed a_this_redeemed_cells n_this_redeemed_cells g_this_redeemed_cells r24 r27 hr) h [2, 3] rfl rfl rfl rfl rfl ⟨rfl, rfl⟩ ⟨(Nat.le_of_ble_eq_true rfl), (Nat.le_of_ble_eq_true rfl)⟩ ⟨Nat.zero_le _, Nat.zero_le _⟩ (Nat.le_of_ble_eq_true rfl) (fun r27 h => ?_)
  refine J_i2l (pc := 30) C dX0_estimate_30 ?_
  refine J_ladd (pc := 31) C dX0_estimate_31 ?_
  refine J_lstore (lv2 := [(5, .long (r5.toInt64 + r27.toInt64)), (3, .long r5.toInt64), (0, .ref a_this), (1, .int x1), (2, .int x2)]) (pc := 32) C dX0_estimate_32 (by decide) rfl ?_
  refine J_lload (pc := 34) C dX0_estimate_34 0 rfl ?_
  refine J_lconst (v := (0 : Int64)) (pc := 36) C dX0_estimate_36 (by decide) ?_
  refine J_lcmp (pc := 37) C dX0_estimate_37 ?_
  refine J_if_gt (pc := 38) (tgt := 45) C dX0_estimate_38 (by decide) h (fun h => ?_) (fun h => ?_)
  · refine J_iload_n (pc := 45) C dX0_estimate_45 3 rfl ?_
    refine J_i2l (pc := 46) C dX0_estimate_46 ?_
    refine J_lload_n (pc := 47) C dX0_estimate_47 1 rfl ?_
    refine J_lmul (pc := 48) C dX0_estimate_48 ?_
    refine J_lload (pc := 49) C dX0_estimate_49 0 rfl ?_
    refine J_ldiv (pc := 51) C dX0_estimate_51 h (fun h => ?_)
    refine J_l2i (pc := 52) C dX0_estimate_52 ?_
    cases h
    exact J_iret (pc := 53) C dX0_estimate_53 hr ⟨rfl, rfl⟩
  · refine J_iconst (v := (0 : Int32)) (pc := 41) C dX0_estimate_41 (by decide) ?_
    refine J_goto (tgt := 53) (pc := 42) C dX0_estimate_42 (by decide) ?_
    cases h
    exact J_iret (pc := 53) C dX0_estimate_53 hr ⟨rfl, rfl⟩
-- PointsLedger$Books.breakageOf(I)I
theorem dX0_breakageOf_0 : decode cX0_breakageOf 0 = .ok (.iconst 0, 1) := by decide +kernel
theorem dX0_breakageOf_1 : decode cX0_breakageOf 1 = .ok (.istore_n 2, 1) := by decide +kernel
theorem dX0_breakageOf_2 : decode cX0_breakageOf 2 = .ok (.iconst 0, 1) := by decide +kernel
theorem dX0_breakageOf_3 : decode cX0_breakageOf 3 = .ok (.istore_n 3, 1) := by decide +kernel
theorem dX0_breakageOf_4 : decode cX0_breakageOf 4 = .ok (.iload_n 3, 1) := by decide +kernel
theorem dX0_breakageOf_5 : decode cX0_breakageOf 5 = .ok (.aload_n 0, 1) := by decide +kernel
theorem dX0_breakageOf_6 : decode cX0_breakageOf 6 = .ok (.getfield 18, 3) := by decide +kernel
theorem dX0_breakageOf_9 : decode cX0_breakageOf 9 = .ok (.invokevirtual 202, 3) := by decide +kernel
theorem dX0_breakageOf_12 : decode cX0_breakageOf 12 = .ok (.if_icmp .ge 44, 3) := by decide +kernel
theorem dX0_breakageOf_15 : decode cX0_breakageOf 15 = .ok (.aload_n 0, 1) := by decide +kernel
theorem dX0_breakageOf_16 : decode cX0_breakageOf 16 = .ok (.getfield 18, 3) := by decide +kernel
theorem dX0_breakageOf_19 : decode cX0_breakageOf 19 = .ok (.iload_n 3, 1) := by decide +kernel
theorem dX0_breakageOf_20 : decode cX0_breakageOf 20 = .ok (.iload_n 1, 1) := by decide +kernel
theorem dX0_breakageOf_21 : decode cX0_breakageOf 21 = .ok (.invokevirtual 257, 3) := by decide +kernel
theorem dX0_breakageOf_24 : decode cX0_breakageOf 24 = .ok (.ifCond .eq 26, 3) := by decide +kernel
theorem dX0_breakageOf_27 : decode cX0_breakageOf 27 = .ok (.iload_n 2, 1) := by decide +kernel
theorem dX0_breakageOf_28 : decode cX0_breakageOf 28 = .ok (.aload_n 0, 1) := by decide +kernel
theorem dX0_breakageOf_29 : decode cX0_breakageOf 29 = .ok (.aload_n 0, 1) := by decide +kernel
theorem dX0_breakageOf_30 : decode cX0_breakageOf 30 = .ok (.getfield 18, 3) := by decide +kernel
theorem dX0_breakageOf_33 : decode cX0_breakageOf 33 = .ok (.iload_n 3, 1) := by decide +kernel
theorem dX0_breakageOf_34 : decode cX0_breakageOf 34 = .ok (.invokevirtual 217, 3) := by decide +kernel
theorem dX0_breakageOf_37 : decode cX0_breakageOf 37 = .ok (.aload_n 0, 1) := by decide +kernel
theorem dX0_breakageOf_38 : decode cX0_breakageOf 38 = .ok (.getfield 18, 3) := by decide +kernel
theorem dX0_breakageOf_41 : decode cX0_breakageOf 41 = .ok (.iload_n 3, 1) := by decide +kernel
theorem dX0_breakageOf_42 : decode cX0_breakageOf 42 = .ok (.invokevirtual 208, 3) := by decide +kernel
theorem dX0_breakageOf_45 : decode cX0_breakageOf 45 = .ok (.invokevirtual 261, 3) := by decide +kernel
theorem dX0_breakageOf_48 : decode cX0_breakageOf 48 = .ok (.iadd, 1) := by decide +kernel
theorem dX0_breakageOf_49 : decode cX0_breakageOf 49 = .ok (.istore_n 2, 1) := by decide +kernel
theorem dX0_breakageOf_50 : decode cX0_breakageOf 50 = .ok (.iinc 3 1, 3) := by decide +kernel
theorem dX0_breakageOf_53 : decode cX0_breakageOf 53 = .ok (.goto (-49), 3) := by decide +kernel
theorem dX0_breakageOf_56 : decode cX0_breakageOf 56 = .ok (.iload_n 2, 1) := by decide +kernel
theorem dX0_breakageOf_57 : decode cX0_breakageOf 57 = .ok (.ireturn, 1) := by decide +kernel
def f_X0_breakageOf_b4 (N : Nat) (x1 : Int32) (n_this_cohorts_lists_cells : Nat) (n_this_cohorts_days_cells : Nat) (n_this_cohorts_points_cells : Nat) (n_this_redeemed_cells : Nat) (n_this_totals_cells : Nat) (v_this_day : Int32) (v_this_setup_life : Int32) (v_this_cohorts_size : Int32) (g_this_cohorts_lists_cells : Nat → Int32) (g_this_cohorts_days_cells : Nat → Int32) (g_this_cohorts_points_cells : Nat → Int32) (g_this_redeemed_cells : Nat → Int32) (g_this_totals_cells : Nat → Int32) : Nat → (Int32) → (Int32) → Option (Int32)
  | 0, _, _ => none
  | n + 1, x2, x3 => ((f_X1_size v_this_cohorts_size).bind fun r9 => (if r9 ≤ x3 then (some x2) else ((f_X1_isIn x3 x1 n_this_cohorts_lists_cells g_this_cohorts_lists_cells).bind fun r21 => (if r21 = 0 then ((some (x3 + (1 : Int32))).bind fun y50 => (f_X0_breakageOf_b4 N x1 n_this_cohorts_lists_cells n_this_cohorts_days_cells n_this_cohorts_points_cells n_this_redeemed_cells n_this_totals_cells v_this_day v_this_setup_life v_this_cohorts_size g_this_cohorts_lists_cells g_this_cohorts_days_cells g_this_cohorts_points_cells g_this_redeemed_cells g_this_totals_cells n x2 y50)) else ((f_X1_pointsOf x3 n_this_cohorts_points_cells g_this_cohorts_points_cells).bind fun r34 => ((f_X1_dayOf x3 n_this_cohorts_days_cells g_this_cohorts_days_cells).bind fun r42 => ((f_X0_estimate N r34 r42 n_this_redeemed_cells n_this_totals_cells v_this_day v_this_setup_life g_this_redeemed_cells g_this_totals_cells).bind fun r45 => ((some (x2 + r45)).bind fun y49 => ((some (x3 + (1 : Int32))).bind fun y50 => (f_X0_breakageOf_b4 N x1 n_this_cohorts_lists_cells n_this_cohorts_days_cells n_this_cohorts_points_cells n_this_redeemed_cells n_this_totals_cells v_this_day v_this_setup_life v_this_cohorts_size g_this_cohorts_lists_cells g_this_cohorts_days_cells g_this_cohorts_points_cells g_this_redeemed_cells g_this_totals_cells n y49 y50))))))))))
def f_X0_breakageOf (N : Nat) (x1 : Int32) (n_this_cohorts_lists_cells : Nat) (n_this_cohorts_days_cells : Nat) (n_this_cohorts_points_cells : Nat) (n_this_redeemed_cells : Nat) (n_this_totals_cells : Nat) (v_this_day : Int32) (v_this_setup_life : Int32) (v_this_cohorts_size : Int32) (g_this_cohorts_lists_cells : Nat → Int32) (g_this_cohorts_days_cells : Nat → Int32) (g_this_cohorts_points_cells : Nat → Int32) (g_this_redeemed_cells : Nat → Int32) (g_this_totals_cells : Nat → Int32) : Option (Int32) :=
  (f_X0_breakageOf_b4 N x1 n_this_cohorts_lists_cells n_this_cohorts_days_cells n_this_cohorts_points_cells n_this_redeemed_cells n_this_totals_cells v_this_day v_this_setup_life v_this_cohorts_size g_this_cohorts_lists_cells g_this_cohorts_days_cells g_this_cohorts_points_cells g_this_redeemed_cells g_this_totals_cells N (0 : Int32) (0 : Int32))
set_option maxHeartbeats 4000000 in
set_option maxRecDepth 100000 in
theorem t_X0_breakageOf_b4 {l : Launch} {D : va_G} {cI cB cL cO : ClassId} {pf : Nat → Nat} {p : Program} {e : Env} {s : State} {m : MethodId} {args : Array Value} {below : List Frame} {meth : Method} {c : Code} {W0 : va_W} {a_this a_this_setup a_this_cohorts a_this_purchases a_this_diary a_this_tiers a_this_belowSince a_this_debts a_this_homes a_this_qualifying a_this_shares a_this_redeemed a_this_totals a_this_losses a_this_balances a_this_standing a_this_setup_counts a_this_setup_names a_this_setup_thresholds a_this_setup_bonuses a_this_setup_rates a_this_setup_caps a_this_setup_promoCategories a_this_setup_promoFirstDays a_this_setup_promoLastDays a_this_setup_promoExtras a_this_setup_shares a_this_cohorts_lists a_this_cohorts_days a_this_cohorts_contributors a_this_cohorts_points a_this_cohorts_lists_cells a_this_cohorts_days_cells a_this_cohorts_points_cells a_this_redeemed_cells a_this_totals_cells : Nat} {N : Nat}  {n_this_cohorts_lists_cells : Nat} {n_this_cohorts_days_cells : Nat} {n_this_cohorts_points_cells : Nat} {n_this_redeemed_cells : Nat} {n_this_totals_cells : Nat} {v_this_day : Int32} {v_this_windowStart : Int32} {v_this_setup_life : Int32} {v_this_setup_window : Int32} {v_this_setup_grace : Int32} {v_this_cohorts_size : Int32} {g_this_cohorts_lists_cells : Nat → Int32} {g_this_cohorts_days_cells : Nat → Int32} {g_this_cohorts_points_cells : Nat → Int32} {g_this_redeemed_cells : Nat → Int32} {g_this_totals_cells : Nat → Int32} {x1 : Int32} {o : Int32} (C : jC p s m args meth c cX0_breakageOf 4 RX0 D [(cI, .int), (cB, .byte), (cL, .byte), (cO, .object RX0)] pf (va_A W0 s.heap.size)) (hr : meth.sig.returnType = (some FieldType.int)) : ∀ (n : Nat) (x2 : Int32) (x3 : Int32), f_X0_breakageOf_b4 N x1 n_this_cohorts_lists_cells n_this_cohorts_days_cells n_this_cohorts_points_cells n_this_redeemed_cells n_this_totals_cells v_this_day v_this_setup_life v_this_cohorts_size g_this_cohorts_lists_cells g_this_cohorts_days_cells g_this_cohorts_points_cells g_this_redeemed_cells g_this_totals_cells n x2 x3 = some o → J p l e { frames := 3, cells := 0, slots := 0, locals := 73 } s m args below meth c 4 D (va_A W0 s.heap.size) (MQ below (jQ D [(cI, .int), (cB, .byte), (cL, .byte), (cO, .object RX0)] W0 s.heap.size (is1 (some (.int o)) [(a_this, .inr (0, [.ref a_this_setup, .ref a_this_cohorts, .ref a_this_purchases, .ref a_this_diary, .ref a_this_tiers, .ref a_this_belowSince, .ref a_this_debts, .ref a_this_homes, .ref a_this_qualifying, .ref a_this_shares, .ref a_this_redeemed, .ref a_this_totals, .ref a_this_losses, .ref a_this_balances, .ref a_this_standing, .int v_this_day, .int v_this_windowStart])), (a_this_setup, .inr (7, [.ref a_this_setup_counts, .ref a_this_setup_names, .ref a_this_setup_thresholds, .ref a_this_setup_bonuses, .ref a_this_setup_rates, .ref a_this_setup_caps, .ref a_this_setup_promoCategories, .ref a_this_setup_promoFirstDays, .ref a_this_setup_promoLastDays, .ref a_this_setup_promoExtras, .ref a_this_setup_shares, .int v_this_setup_life, .int v_this_setup_window, .int v_this_setup_grace])), (a_this_cohorts, .inr (1, [.ref a_this_cohorts_lists, .ref a_this_cohorts_days, .ref a_this_cohorts_contributors, .ref a_this_cohorts_points, .int v_this_cohorts_size])), (a_this_cohorts_lists, .inr (6, [.ref a_this_cohorts_lists_cells])), (a_this_cohorts_lists_cells, .inl (cI, n_this_cohorts_lists_cells, .inl g_this_cohorts_lists_cells)), (a_this_cohorts_days, .inr (6, [.ref a_this_cohorts_days_cells])), (a_this_cohorts_days_cells, .inl (cI, n_this_cohorts_days_cells, .inl g_this_cohorts_days_cells)), (a_this_cohorts_points, .inr (6, [.ref a_this_cohorts_points_cells])), (a_this_cohorts_points_cells, .inl (cI, n_this_cohorts_points_cells, .inl g_this_cohorts_points_cells)), (a_this_redeemed, .inr (6, [.ref a_this_redeemed_cells])), (a_this_redeemed_cells, .inl (cI, n_this_redeemed_cells, .inl g_this_redeemed_cells)), (a_this_totals, .inr (6, [.ref a_this_totals_cells])), (a_this_totals_cells, .inl (cI, n_this_totals_cells, .inl g_this_totals_cells))])) args s 0 0 (va_A W0 s.heap.size)) 0 0 4 [(0, .ref a_this), (1, .int x1), (2, .int x2), (3, .int x3)] [] [(a_this, .inr (0, [.ref a_this_setup, .ref a_this_cohorts, .ref a_this_purchases, .ref a_this_diary, .ref a_this_tiers, .ref a_this_belowSince, .ref a_this_debts, .ref a_this_homes, .ref a_this_qualifying, .ref a_this_shares, .ref a_this_redeemed, .ref a_this_totals, .ref a_this_losses, .ref a_this_balances, .ref a_this_standing, .int v_this_day, .int v_this_windowStart])), (a_this_setup, .inr (7, [.ref a_this_setup_counts, .ref a_this_setup_names, .ref a_this_setup_thresholds, .ref a_this_setup_bonuses, .ref a_this_setup_rates, .ref a_this_setup_caps, .ref a_this_setup_promoCategories, .ref a_this_setup_promoFirstDays, .ref a_this_setup_promoLastDays, .ref a_this_setup_promoExtras, .ref a_this_setup_shares, .int v_this_setup_life, .int v_this_setup_window, .int v_this_setup_grace])), (a_this_cohorts, .inr (1, [.ref a_this_cohorts_lists, .ref a_this_cohorts_days, .ref a_this_cohorts_contributors, .ref a_this_cohorts_points, .int v_this_cohorts_size])), (a_this_cohorts_lists, .inr (6, [.ref a_this_cohorts_lists_cells])), (a_this_cohorts_lists_cells, .inl (cI, n_this_cohorts_lists_cells, .inl g_this_cohorts_lists_cells)), (a_this_cohorts_days, .inr (6, [.ref a_this_cohorts_days_cells])), (a_this_cohorts_days_cells, .inl (cI, n_this_cohorts_days_cells, .inl g_this_cohorts_days_cells)), (a_this_cohorts_points, .inr (6, [.ref a_this_cohorts_points_cells])), (a_this_cohorts_points_cells, .inl (cI, n_this_cohorts_points_cells, .inl g_this_cohorts_points_cells)), (a_this_redeemed, .inr (6, [.ref a_this_redeemed_cells])), (a_this_redeemed_cells, .inl (cI, n_this_redeemed_cells, .inl g_this_redeemed_cells)), (a_this_totals, .inr (6, [.ref a_this_totals_cells])), (a_this_totals_cells, .inl (cI, n_this_totals_cells, .inl g_this_totals_cells))] := by
  intro n
  induction n with
  | zero =>
    intro _ _ h
    rw [f_X0_breakageOf_b4] at h
    cases h
  | succ n ih =>
    intro x2 x3 h
    rw [f_X0_breakageOf_b4] at h
    refine J_iload_n (pc := 4) C dX0_breakageOf_4 3 rfl ?_
    refine J_aload_n (pc := 5) C dX0_breakageOf_5 0 rfl ?_
    refine J_get (pc := 6) C dX0_breakageOf_6 jf_X0 0 rfl rfl 1 (by decide) rfl fl_RX0_18 rfl ?_
    refine J_cvr (pc := 9) (As := []) (st := [.int x3]) C dX0_breakageOf_9 ml_RX0_202 mi_yX1_size (fun r9 hr => c_X1_size l D cI cB cL cO pf 0 a_this_cohorts a_this_cohorts_lists a_this_cohorts_days a_this_cohorts_contributors a_this_cohorts_points v_this_cohorts_size r9 hr) h [2] rfl rfl rfl rfl rfl ⟨rfl, rfl⟩ ⟨(Nat.le_of_ble_eq_true rfl), (Nat.le_of_ble_eq_true rfl)⟩ ⟨Nat.zero_le _, Nat.zero_le _⟩ (Nat.le_of_ble_eq_true rfl) (fun r9 h => ?_)
    refine J_ic_ge (pc := 12) (tgt := 56) C dX0_breakageOf_12 (by decide) h (fun h => ?_) (fun h => ?_)
    · refine J_iload_n (pc := 56) C dX0_breakageOf_56 2 rfl ?_
      cases h
      exact J_iret (pc := 57) C dX0_breakageOf_57 hr ⟨rfl, rfl⟩
    · refine J_aload_n (pc := 15) C dX0_breakageOf_15 0 rfl ?_
      refine J_get (pc := 16) C dX0_breakageOf_16 jf_X0 0 rfl rfl 1 (by decide) rfl fl_RX0_18 rfl ?_
      refine J_iload_n (pc := 19) C dX0_breakageOf_19 3 rfl ?_
      refine J_iload_n (pc := 20) C dX0_breakageOf_20 1 rfl ?_
      refine J_cvr (pc := 21) (As := [.int x3, .int x1]) (st := []) C dX0_breakageOf_21 ml_RX0_257 mi_yX1_isIn (fun r21 hr => c_X1_isIn l D cI cB cL cO pf 0 a_this_cohorts a_this_cohorts_lists a_this_cohorts_days a_this_cohorts_contributors a_this_cohorts_points a_this_cohorts_lists_cells n_this_cohorts_lists_cells v_this_cohorts_size g_this_cohorts_lists_cells x3 x1 r21 hr) h [2, 3, 4] rfl rfl rfl rfl rfl ⟨rfl, rfl⟩ ⟨(Nat.le_of_ble_eq_true rfl), (Nat.le_of_ble_eq_true rfl)⟩ ⟨Nat.zero_le _, Nat.zero_le _⟩ (Nat.le_of_ble_eq_true rfl) (fun r21 h => ?_)
      refine J_if_eq (pc := 24) (tgt := 50) C dX0_breakageOf_24 (by decide) h (fun h => ?_) (fun h => ?_)
      · refine J_iincN (pc := 50) (v := (1 : Int32)) C (fun y50 => [(3, .int y50), (0, .ref a_this), (1, .int x1), (2, .int x2)]) dX0_breakageOf_50 3 rfl (by decide) h (by decide) (fun _ => rfl) (fun y50 h => ?_)
        refine J_goto (tgt := 4) (pc := 53) C dX0_breakageOf_53 (by decide) ?_
        refine J_sub (lv2 := [(0, .ref a_this), (1, .int x1), (2, .int x2), (3, .int y50)]) [1, 2, 3, 0] rfl ?_
        exact ih _ _ h
      · refine J_iload_n (pc := 27) C dX0_breakageOf_27 2 rfl ?_
        refine J_aload_n (pc := 28) C dX0_breakageOf_28 0 rfl ?_
        refine J_aload_n (pc := 29) C dX0_breakageOf_29 0 rfl ?_
        refine J_get (pc := 30) C dX0_breakageOf_30 jf_X0 0 rfl rfl 1 (by decide) rfl fl_RX0_18 rfl ?_
        refine J_iload_n (pc := 33) C dX0_breakageOf_33 3 rfl ?_
        refine J_cvr (pc := 34) (As := [.int x3]) (st := [.ref a_this, .int x2]) C dX0_breakageOf_34 ml_RX0_217 mi_yX1_pointsOf (fun r34 hr => c_X1_pointsOf l D cI cB cL cO pf 0 a_this_cohorts a_this_cohorts_lists a_this_cohorts_days a_this_cohorts_contributors a_this_cohorts_points a_this_cohorts_points_cells n_this_cohorts_points_cells v_this_cohorts_size g_this_cohorts_points_cells x3 r34 hr) h [2, 7, 8] rfl rfl rfl rfl rfl ⟨rfl, rfl⟩ ⟨(Nat.le_of_ble_eq_true rfl), (Nat.le_of_ble_eq_true rfl)⟩ ⟨Nat.zero_le _, Nat.zero_le _⟩ (Nat.le_of_ble_eq_true rfl) (fun r34 h => ?_)
        refine J_aload_n (pc := 37) C dX0_breakageOf_37 0 rfl ?_
        refine J_get (pc := 38) C dX0_breakageOf_38 jf_X0 0 rfl rfl 1 (by decide) rfl fl_RX0_18 rfl ?_
        refine J_iload_n (pc := 41) C dX0_breakageOf_41 3 rfl ?_
        refine J_cvr (pc := 42) (As := [.int x3]) (st := [.int r34, .ref a_this, .int x2]) C dX0_breakageOf_42 ml_RX0_208 mi_yX1_dayOf (fun r42 hr => c_X1_dayOf l D cI cB cL cO pf 0 a_this_cohorts a_this_cohorts_lists a_this_cohorts_days a_this_cohorts_contributors a_this_cohorts_points a_this_cohorts_days_cells n_this_cohorts_days_cells v_this_cohorts_size g_this_cohorts_days_cells x3 r42 hr) h [2, 5, 6] rfl rfl rfl rfl rfl ⟨rfl, rfl⟩ ⟨(Nat.le_of_ble_eq_true rfl), (Nat.le_of_ble_eq_true rfl)⟩ ⟨Nat.zero_le _, Nat.zero_le _⟩ (Nat.le_of_ble_eq_true rfl) (fun r42 h => ?_)
        refine J_cvr (pc := 45) (As := [.int r34, .int r42]) (st := [.int x2]) C dX0_breakageOf_45 ml_RX0_261 mi_yX0_estimate (fun r45 hr => c_X0_estimate l D cI cB cL cO pf N a_this a_this_setup a_this_cohorts a_this_purchases a_this_diary a_this_tiers a_this_belowSince a_this_debts a_this_homes a_this_qualifying a_this_shares a_this_redeemed a_this_totals a_this_losses a_this_balances a_this_standing a_this_setup_counts a_this_setup_names a_this_setup_thresholds a_this_setup_bonuses a_this_setup_rates a_this_setup_caps a_this_setup_promoCategories a_this_setup_promoFirstDays a_this_setup_promoLastDays a_this_setup_promoExtras a_this_setup_shares a_this_redeemed_cells a_this_totals_cells n_this_redeemed_cells n_this_totals_cells v_this_day v_this_windowStart v_this_setup_life v_this_setup_window v_this_setup_grace g_this_redeemed_cells g_this_totals_cells r34 r42 r45 hr) h [0, 1, 9, 10, 11, 12] rfl rfl rfl rfl rfl ⟨rfl, rfl⟩ ⟨(Nat.le_of_ble_eq_true rfl), (Nat.le_of_ble_eq_true rfl)⟩ ⟨Nat.zero_le _, Nat.zero_le _⟩ (Nat.le_of_ble_eq_true rfl) (fun r45 h => ?_)
        refine J_iadd (pc := 48) C dX0_breakageOf_48 ?_
        refine J_istore_nN (pc := 49) C (fun y49 => [(2, .int y49), (0, .ref a_this), (1, .int x1), (3, .int x3)]) dX0_breakageOf_49 h (by decide) (fun _ => rfl) (fun y49 h => ?_)
        refine J_iincN (pc := 50) (v := (1 : Int32)) C (fun y50 => [(3, .int y50), (2, .int y49), (0, .ref a_this), (1, .int x1)]) dX0_breakageOf_50 3 rfl (by decide) h (by decide) (fun _ => rfl) (fun y50 h => ?_)
        refine J_goto (tgt := 4) (pc := 53) C dX0_breakageOf_53 (by decide) ?_
        refine J_sub (lv2 := [(0, .ref a_this), (1, .int x1), (2, .int y49), (3, .int y50)]) [2, 3, 1, 0] rfl ?_
        exact ih _ _ h
set_option maxHeartbeats 4000000 in
set_option maxRecDepth 100000 in
theorem c_X0_breakageOf (l : Launch) (D : va_G) (cI cB cL cO : ClassId) (pf : Nat → Nat) (N : Nat) (a_this a_this_setup a_this_cohorts a_this_purchases a_this_diary a_this_tiers a_this_belowSince a_this_debts a_this_homes a_this_qualifying a_this_shares a_this_redeemed a_this_totals a_this_losses a_this_balances a_this_standing a_this_setup_counts a_this_setup_names a_this_setup_thresholds a_this_setup_bonuses a_this_setup_rates a_this_setup_caps a_this_setup_promoCategories a_this_setup_promoFirstDays a_this_setup_promoLastDays a_this_setup_promoExtras a_this_setup_shares a_this_cohorts_lists a_this_cohorts_days a_this_cohorts_contributors a_this_cohorts_points a_this_cohorts_lists_cells a_this_cohorts_days_cells a_this_cohorts_points_cells a_this_redeemed_cells a_this_totals_cells : Nat) (n_this_cohorts_lists_cells : Nat) (n_this_cohorts_days_cells : Nat) (n_this_cohorts_points_cells : Nat) (n_this_redeemed_cells : Nat) (n_this_totals_cells : Nat) (v_this_day : Int32) (v_this_windowStart : Int32) (v_this_setup_life : Int32) (v_this_setup_window : Int32) (v_this_setup_grace : Int32) (v_this_cohorts_size : Int32) (g_this_cohorts_lists_cells : Nat → Int32) (g_this_cohorts_days_cells : Nat → Int32) (g_this_cohorts_points_cells : Nat → Int32) (g_this_redeemed_cells : Nat → Int32) (g_this_totals_cells : Nat → Int32) (x1 : Int32) (o : Int32) (h : f_X0_breakageOf N x1 n_this_cohorts_lists_cells n_this_cohorts_days_cells n_this_cohorts_points_cells n_this_redeemed_cells n_this_totals_cells v_this_day v_this_setup_life v_this_cohorts_size g_this_cohorts_lists_cells g_this_cohorts_days_cells g_this_cohorts_points_cells g_this_redeemed_cells g_this_totals_cells = some o) : Ct l D [(cI, .int), (cB, .byte), (cL, .byte), (cO, .object RX0)] pf yX0_breakageOf cX0_breakageOf 4 (some FieldType.int) { frames := 3, cells := 0, slots := 0, locals := 73 } [.ref a_this, .int x1] [(a_this, .inr (0, [.ref a_this_setup, .ref a_this_cohorts, .ref a_this_purchases, .ref a_this_diary, .ref a_this_tiers, .ref a_this_belowSince, .ref a_this_debts, .ref a_this_homes, .ref a_this_qualifying, .ref a_this_shares, .ref a_this_redeemed, .ref a_this_totals, .ref a_this_losses, .ref a_this_balances, .ref a_this_standing, .int v_this_day, .int v_this_windowStart])), (a_this_setup, .inr (7, [.ref a_this_setup_counts, .ref a_this_setup_names, .ref a_this_setup_thresholds, .ref a_this_setup_bonuses, .ref a_this_setup_rates, .ref a_this_setup_caps, .ref a_this_setup_promoCategories, .ref a_this_setup_promoFirstDays, .ref a_this_setup_promoLastDays, .ref a_this_setup_promoExtras, .ref a_this_setup_shares, .int v_this_setup_life, .int v_this_setup_window, .int v_this_setup_grace])), (a_this_cohorts, .inr (1, [.ref a_this_cohorts_lists, .ref a_this_cohorts_days, .ref a_this_cohorts_contributors, .ref a_this_cohorts_points, .int v_this_cohorts_size])), (a_this_cohorts_lists, .inr (6, [.ref a_this_cohorts_lists_cells])), (a_this_cohorts_lists_cells, .inl (cI, n_this_cohorts_lists_cells, .inl g_this_cohorts_lists_cells)), (a_this_cohorts_days, .inr (6, [.ref a_this_cohorts_days_cells])), (a_this_cohorts_days_cells, .inl (cI, n_this_cohorts_days_cells, .inl g_this_cohorts_days_cells)), (a_this_cohorts_points, .inr (6, [.ref a_this_cohorts_points_cells])), (a_this_cohorts_points_cells, .inl (cI, n_this_cohorts_points_cells, .inl g_this_cohorts_points_cells)), (a_this_redeemed, .inr (6, [.ref a_this_redeemed_cells])), (a_this_redeemed_cells, .inl (cI, n_this_redeemed_cells, .inl g_this_redeemed_cells)), (a_this_totals, .inr (6, [.ref a_this_totals_cells])), (a_this_totals_cells, .inl (cI, n_this_totals_cells, .inl g_this_totals_cells))] (is1 (some (.int o)) [(a_this, .inr (0, [.ref a_this_setup, .ref a_this_cohorts, .ref a_this_purchases, .ref a_this_diary, .ref a_this_tiers, .ref a_this_belowSince, .ref a_this_debts, .ref a_this_homes, .ref a_this_qualifying, .ref a_this_shares, .ref a_this_redeemed, .ref a_this_totals, .ref a_this_losses, .ref a_this_balances, .ref a_this_standing, .int v_this_day, .int v_this_windowStart])), (a_this_setup, .inr (7, [.ref a_this_setup_counts, .ref a_this_setup_names, .ref a_this_setup_thresholds, .ref a_this_setup_bonuses, .ref a_this_setup_rates, .ref a_this_setup_caps, .ref a_this_setup_promoCategories, .ref a_this_setup_promoFirstDays, .ref a_this_setup_promoLastDays, .ref a_this_setup_promoExtras, .ref a_this_setup_shares, .int v_this_setup_life, .int v_this_setup_window, .int v_this_setup_grace])), (a_this_cohorts, .inr (1, [.ref a_this_cohorts_lists, .ref a_this_cohorts_days, .ref a_this_cohorts_contributors, .ref a_this_cohorts_points, .int v_this_cohorts_size])), (a_this_cohorts_lists, .inr (6, [.ref a_this_cohorts_lists_cells])), (a_this_cohorts_lists_cells, .inl (cI, n_this_cohorts_lists_cells, .inl g_this_cohorts_lists_cells)), (a_this_cohorts_days, .inr (6, [.ref a_this_cohorts_days_cells])), (a_this_cohorts_days_cells, .inl (cI, n_this_cohorts_days_cells, .inl g_this_cohorts_days_cells)), (a_this_cohorts_points, .inr (6, [.ref a_this_cohorts_points_cells])), (a_this_cohorts_points_cells, .inl (cI, n_this_cohorts_points_cells, .inl g_this_cohorts_points_cells)), (a_this_redeemed, .inr (6, [.ref a_this_redeemed_cells])), (a_this_redeemed_cells, .inl (cI, n_this_redeemed_cells, .inl g_this_redeemed_cells)), (a_this_totals, .inr (6, [.ref a_this_totals_cells])), (a_this_totals_cells, .inl (cI, n_this_totals_cells, .inl g_this_totals_cells))]) := by
  refine Ct_of (own := RX0) (lv0 := [(0, .ref a_this), (1, .int x1)]) (by decide) rfl rfl (Nat.le_of_ble_eq_true rfl) ?_
  intro p e s m args below meth c C hr hnm
  unfold f_X0_breakageOf at h
  refine J_iconst (v := (0 : Int32)) (pc := 0) C dX0_breakageOf_0 (by decide) ?_
  refine J_istore_n (lv2 := [(2, .int (0 : Int32)), (0, .ref a_this), (1, .int x1)]) (pc := 1) C dX0_breakageOf_1 (by decide) rfl ?_
  refine J_iconst (v := (0 : Int32)) (pc := 2) C dX0_breakageOf_2 (by decide) ?_
  refine J_istore_n (lv2 := [(3, .int (0 : Int32)), (2, .int (0 : Int32)), (0, .ref a_this), (1, .int x1)]) (pc := 3) C dX0_breakageOf_3 (by decide) rfl ?_
  refine J_sub (lv2 := [(0, .ref a_this), (1, .int x1), (2, .int (0 : Int32)), (3, .int (0 : Int32))]) [2, 3, 1, 0] rfl ?_
  exact t_X0_breakageOf_b4 C hr N _ _ h
-- PointsLedger$Cohorts.number(I)I
theorem dX1_number_0 : decode cX1_number 0 = .ok (.iconst 0, 1) := by decide +kernel
theorem dX1_number_1 : decode cX1_number 1 = .ok (.istore_n 2, 1) := by decide +kernel
theorem dX1_number_2 : decode cX1_number 2 = .ok (.iconst 0, 1) := by decide +kernel
theorem dX1_number_3 : decode cX1_number 3 = .ok (.istore_n 3, 1) := by decide +kernel
theorem dX1_number_4 : decode cX1_number 4 = .ok (.iload_n 3, 1) := by decide +kernel
theorem dX1_number_5 : decode cX1_number 5 = .ok (.aload_n 0, 1) := by decide +kernel
theorem dX1_number_6 : decode cX1_number 6 = .ok (.getfield 29, 3) := by decide +kernel
theorem dX1_number_9 : decode cX1_number 9 = .ok (.if_icmp .ge 21, 3) := by decide +kernel
theorem dX1_number_12 : decode cX1_number 12 = .ok (.aload_n 0, 1) := by decide +kernel
theorem dX1_number_13 : decode cX1_number 13 = .ok (.iload_n 3, 1) := by decide +kernel
theorem dX1_number_14 : decode cX1_number 14 = .ok (.iload_n 1, 1) := by decide +kernel
theorem dX1_number_15 : decode cX1_number 15 = .ok (.invokevirtual 41, 3) := by decide +kernel
theorem dX1_number_18 : decode cX1_number 18 = .ok (.ifCond .eq 6, 3) := by decide +kernel
theorem dX1_number_21 : decode cX1_number 21 = .ok (.iinc 2 1, 3) := by decide +kernel
theorem dX1_number_24 : decode cX1_number 24 = .ok (.iinc 3 1, 3) := by decide +kernel
theorem dX1_number_27 : decode cX1_number 27 = .ok (.goto (-23), 3) := by decide +kernel
theorem dX1_number_30 : decode cX1_number 30 = .ok (.iload_n 2, 1) := by decide +kernel
theorem dX1_number_31 : decode cX1_number 31 = .ok (.ireturn, 1) := by decide +kernel
def f_X1_number_b4 (x1 : Int32) (n_this_lists_cells : Nat) (v_this_size : Int32) (g_this_lists_cells : Nat → Int32) : Nat → (Int32) → (Int32) → Option (Int32)
  | 0, _, _ => none
  | n + 1, x2, x3 => (if v_this_size ≤ x3 then (some x2) else ((f_X1_isIn x3 x1 n_this_lists_cells g_this_lists_cells).bind fun r15 => (if r15 = 0 then ((some (x3 + (1 : Int32))).bind fun y24 => (f_X1_number_b4 x1 n_this_lists_cells v_this_size g_this_lists_cells n x2 y24)) else ((some (x2 + (1 : Int32))).bind fun y21 => ((some (x3 + (1 : Int32))).bind fun y24 => (f_X1_number_b4 x1 n_this_lists_cells v_this_size g_this_lists_cells n y21 y24))))))
def f_X1_number (N : Nat) (x1 : Int32) (n_this_lists_cells : Nat) (v_this_size : Int32) (g_this_lists_cells : Nat → Int32) : Option (Int32) :=
  (f_X1_number_b4 x1 n_this_lists_cells v_this_size g_this_lists_cells N (0 : Int32) (0 : Int32))
set_option maxHeartbeats 4000000 in
set_option maxRecDepth 100000 in
theorem t_X1_number_b4 {l : Launch} {D : va_G} {cI cB cL cO : ClassId} {pf : Nat → Nat} {p : Program} {e : Env} {s : State} {m : MethodId} {args : Array Value} {below : List Frame} {meth : Method} {c : Code} {W0 : va_W} {a_this a_this_lists a_this_days a_this_contributors a_this_points a_this_lists_cells : Nat}  {n_this_lists_cells : Nat} {v_this_size : Int32} {g_this_lists_cells : Nat → Int32} {x1 : Int32} {o : Int32} (C : jC p s m args meth c cX1_number 4 RX1 D [(cI, .int), (cB, .byte), (cL, .byte), (cO, .object RX0)] pf (va_A W0 s.heap.size)) (hr : meth.sig.returnType = (some FieldType.int)) : ∀ (n : Nat) (x2 : Int32) (x3 : Int32), f_X1_number_b4 x1 n_this_lists_cells v_this_size g_this_lists_cells n x2 x3 = some o → J p l e { frames := 2, cells := 0, slots := 0, locals := 43 } s m args below meth c 4 D (va_A W0 s.heap.size) (MQ below (jQ D [(cI, .int), (cB, .byte), (cL, .byte), (cO, .object RX0)] W0 s.heap.size (is1 (some (.int o)) [(a_this, .inr (1, [.ref a_this_lists, .ref a_this_days, .ref a_this_contributors, .ref a_this_points, .int v_this_size])), (a_this_lists, .inr (6, [.ref a_this_lists_cells])), (a_this_lists_cells, .inl (cI, n_this_lists_cells, .inl g_this_lists_cells))])) args s 0 0 (va_A W0 s.heap.size)) 0 0 4 [(0, .ref a_this), (1, .int x1), (2, .int x2), (3, .int x3)] [] [(a_this, .inr (1, [.ref a_this_lists, .ref a_this_days, .ref a_this_contributors, .ref a_this_points, .int v_this_size])), (a_this_lists, .inr (6, [.ref a_this_lists_cells])), (a_this_lists_cells, .inl (cI, n_this_lists_cells, .inl g_this_lists_cells))] := by
  intro n
  induction n with
  | zero =>
    intro _ _ h
    rw [f_X1_number_b4] at h
    cases h
  | succ n ih =>
    intro x2 x3 h
    rw [f_X1_number_b4] at h
    refine J_iload_n (pc := 4) C dX1_number_4 3 rfl ?_
    refine J_aload_n (pc := 5) C dX1_number_5 0 rfl ?_
    refine J_get (pc := 6) C dX1_number_6 jf_X1 0 rfl rfl 4 (by decide) rfl fl_RX1_29 rfl ?_
    refine J_ic_ge (pc := 9) (tgt := 30) C dX1_number_9 (by decide) h (fun h => ?_) (fun h => ?_)
    · refine J_iload_n (pc := 30) C dX1_number_30 2 rfl ?_
      cases h
      exact J_iret (pc := 31) C dX1_number_31 hr ⟨rfl, rfl⟩
    · refine J_aload_n (pc := 12) C dX1_number_12 0 rfl ?_
      refine J_iload_n (pc := 13) C dX1_number_13 3 rfl ?_
      refine J_iload_n (pc := 14) C dX1_number_14 1 rfl ?_
      refine J_cvr (pc := 15) (As := [.int x3, .int x1]) (st := []) C dX1_number_15 ml_RX1_41 mi_yX1_isIn (fun r15 hr => c_X1_isIn l D cI cB cL cO pf 0 a_this a_this_lists a_this_days a_this_contributors a_this_points a_this_lists_cells n_this_lists_cells v_this_size g_this_lists_cells x3 x1 r15 hr) h [0, 1, 2] rfl rfl rfl rfl rfl ⟨rfl, rfl⟩ ⟨(Nat.le_of_ble_eq_true rfl), (Nat.le_of_ble_eq_true rfl)⟩ ⟨Nat.zero_le _, Nat.zero_le _⟩ (Nat.le_of_ble_eq_true rfl) (fun r15 h => ?_)
      refine J_if_eq (pc := 18) (tgt := 24) C dX1_number_18 (by decide) h (fun h => ?_) (fun h => ?_)
      · refine J_iincN (pc := 24) (v := (1 : Int32)) C (fun y24 => [(3, .int y24), (0, .ref a_this), (1, .int x1), (2, .int x2)]) dX1_number_24 3 rfl (by decide) h (by decide) (fun _ => rfl) (fun y24 h => ?_)
        refine J_goto (tgt := 4) (pc := 27) C dX1_number_27 (by decide) ?_
        refine J_sub (lv2 := [(0, .ref a_this), (1, .int x1), (2, .int x2), (3, .int y24)]) [1, 2, 3, 0] rfl ?_
        exact ih _ _ h
      · refine J_iincN (pc := 21) (v := (1 : Int32)) C (fun y21 => [(2, .int y21), (0, .ref a_this), (1, .int x1), (3, .int x3)]) dX1_number_21 2 rfl (by decide) h (by decide) (fun _ => rfl) (fun y21 h => ?_)
        refine J_iincN (pc := 24) (v := (1 : Int32)) C (fun y24 => [(3, .int y24), (2, .int y21), (0, .ref a_this), (1, .int x1)]) dX1_number_24 3 rfl (by decide) h (by decide) (fun _ => rfl) (fun y24 h => ?_)
        refine J_goto (tgt := 4) (pc := 27) C dX1_number_27 (by decide) ?_
        refine J_sub (lv2 := [(0, .ref a_this), (1, .int x1), (2, .int y21), (3, .int y24)]) [2, 3, 1, 0] rfl ?_
        exact ih _ _ h
set_option maxHeartbeats 4000000 in
set_option maxRecDepth 100000 in
theorem c_X1_number (l : Launch) (D : va_G) (cI cB cL cO : ClassId) (pf : Nat → Nat) (N : Nat) (a_this a_this_lists a_this_days a_this_contributors a_this_points a_this_lists_cells : Nat) (n_this_lists_cells : Nat) (v_this_size : Int32) (g_this_lists_cells : Nat → Int32) (x1 : Int32) (o : Int32) (h : f_X1_number N x1 n_this_lists_cells v_this_size g_this_lists_cells = some o) : Ct l D [(cI, .int), (cB, .byte), (cL, .byte), (cO, .object RX0)] pf yX1_number cX1_number 4 (some FieldType.int) { frames := 2, cells := 0, slots := 0, locals := 43 } [.ref a_this, .int x1] [(a_this, .inr (1, [.ref a_this_lists, .ref a_this_days, .ref a_this_contributors, .ref a_this_points, .int v_this_size])), (a_this_lists, .inr (6, [.ref a_this_lists_cells])), (a_this_lists_cells, .inl (cI, n_this_lists_cells, .inl g_this_lists_cells))] (is1 (some (.int o)) [(a_this, .inr (1, [.ref a_this_lists, .ref a_this_days, .ref a_this_contributors, .ref a_this_points, .int v_this_size])), (a_this_lists, .inr (6, [.ref a_this_lists_cells])), (a_this_lists_cells, .inl (cI, n_this_lists_cells, .inl g_this_lists_cells))]) := by
  refine Ct_of (own := RX1) (lv0 := [(0, .ref a_this), (1, .int x1)]) (by decide) rfl rfl (Nat.le_of_ble_eq_true rfl) ?_
  intro p e s m args below meth c C hr hnm
  unfold f_X1_number at h
  refine J_iconst (v := (0 : Int32)) (pc := 0) C dX1_number_0 (by decide) ?_
  refine J_istore_n (lv2 := [(2, .int (0 : Int32)), (0, .ref a_this), (1, .int x1)]) (pc := 1) C dX1_number_1 (by decide) rfl ?_
  refine J_iconst (v := (0 : Int32)) (pc := 2) C dX1_number_2 (by decide) ?_
  refine J_istore_n (lv2 := [(3, .int (0 : Int32)), (2, .int (0 : Int32)), (0, .ref a_this), (1, .int x1)]) (pc := 3) C dX1_number_3 (by decide) rfl ?_
  refine J_sub (lv2 := [(0, .ref a_this), (1, .int x1), (2, .int (0 : Int32)), (3, .int (0 : Int32))]) [2, 3, 1, 0] rfl ?_
  exact t_X1_number_b4 C hr N _ _ h
-- PointsLedger$Cohorts.part(III)I
theorem dX1_part_0 : decode cX1_part 0 = .ok (.aload_n 0, 1) := by decide +kernel
theorem dX1_part_1 : decode cX1_part 1 = .ok (.iload_n 1, 1) := by decide +kernel
theorem dX1_part_2 : decode cX1_part 2 = .ok (.bipush (-2), 2) := by decide +kernel
theorem dX1_part_4 : decode cX1_part 4 = .ok (.bipush (-2), 2) := by decide +kernel
theorem dX1_part_6 : decode cX1_part 6 = .ok (.invokevirtual 45, 3) := by decide +kernel
theorem dX1_part_9 : decode cX1_part 9 = .ok (.iload_n 2, 1) := by decide +kernel
theorem dX1_part_10 : decode cX1_part 10 = .ok (.iadd, 1) := by decide +kernel
theorem dX1_part_11 : decode cX1_part 11 = .ok (.istore 4, 2) := by decide +kernel
theorem dX1_part_13 : decode cX1_part 13 = .ok (.iload_n 3, 1) := by decide +kernel
theorem dX1_part_14 : decode cX1_part 14 = .ok (.ifCond .ne 13, 3) := by decide +kernel
theorem dX1_part_17 : decode cX1_part 17 = .ok (.aload_n 0, 1) := by decide +kernel
theorem dX1_part_18 : decode cX1_part 18 = .ok (.getfield 26, 3) := by decide +kernel
theorem dX1_part_21 : decode cX1_part 21 = .ok (.iload 4, 2) := by decide +kernel
theorem dX1_part_23 : decode cX1_part 23 = .ok (.invokevirtual 37, 3) := by decide +kernel
theorem dX1_part_26 : decode cX1_part 26 = .ok (.ireturn, 1) := by decide +kernel
theorem dX1_part_27 : decode cX1_part 27 = .ok (.iload_n 3, 1) := by decide +kernel
theorem dX1_part_28 : decode cX1_part 28 = .ok (.iconst 1, 1) := by decide +kernel
theorem dX1_part_29 : decode cX1_part 29 = .ok (.if_icmp .ne 15, 3) := by decide +kernel
theorem dX1_part_32 : decode cX1_part 32 = .ok (.aload_n 0, 1) := by decide +kernel
theorem dX1_part_33 : decode cX1_part 33 = .ok (.getfield 20, 3) := by decide +kernel
theorem dX1_part_36 : decode cX1_part 36 = .ok (.iload 4, 2) := by decide +kernel
theorem dX1_part_38 : decode cX1_part 38 = .ok (.invokevirtual 37, 3) := by decide +kernel
theorem dX1_part_41 : decode cX1_part 41 = .ok (.goto 12, 3) := by decide +kernel
theorem dX1_part_44 : decode cX1_part 44 = .ok (.aload_n 0, 1) := by decide +kernel
theorem dX1_part_45 : decode cX1_part 45 = .ok (.getfield 23, 3) := by decide +kernel
theorem dX1_part_48 : decode cX1_part 48 = .ok (.iload 4, 2) := by decide +kernel
theorem dX1_part_50 : decode cX1_part 50 = .ok (.invokevirtual 37, 3) := by decide +kernel
theorem dX1_part_53 : decode cX1_part 53 = .ok (.ireturn, 1) := by decide +kernel
def f_X1_part (N : Nat) (x1 : Int32) (x2 : Int32) (x3 : Int32) (n_this_lists_cells : Nat) (n_this_days_cells : Nat) (n_this_contributors_cells : Nat) (n_this_points_cells : Nat) (v_this_size : Int32) (g_this_lists_cells : Nat → Int32) (g_this_days_cells : Nat → Int32) (g_this_contributors_cells : Nat → Int32) (g_this_points_cells : Nat → Int32) : Option (Int32) :=
  ((f_X1_first N x1 (-2 : Int32) (-2 : Int32) n_this_lists_cells n_this_days_cells n_this_contributors_cells v_this_size g_this_lists_cells g_this_days_cells g_this_contributors_cells).bind fun r6 => ((some (r6 + x2)).bind fun y11 => (if x3 = 0 then ((f_X6_at y11 n_this_points_cells g_this_points_cells).bind fun r23 => (some r23)) else (if x3 = (1 : Int32) then ((f_X6_at y11 n_this_days_cells g_this_days_cells).bind fun r38 => (some r38)) else ((f_X6_at y11 n_this_contributors_cells g_this_contributors_cells).bind fun r50 => (some r50))))))
set_option maxHeartbeats 4000000 in
set_option maxRecDepth 100000 in
theorem c_X1_part (l : Launch) (D : va_G) (cI cB cL cO : ClassId) (pf : Nat → Nat) (N : Nat) (a_this a_this_lists a_this_days a_this_contributors a_this_points a_this_lists_cells a_this_days_cells a_this_contributors_cells a_this_points_cells : Nat) (n_this_lists_cells : Nat) (n_this_days_cells : Nat) (n_this_contributors_cells : Nat) (n_this_points_cells : Nat) (v_this_size : Int32) (g_this_lists_cells : Nat → Int32) (g_this_days_cells : Nat → Int32) (g_this_contributors_cells : Nat → Int32) (g_this_points_cells : Nat → Int32) (x1 : Int32) (x2 : Int32) (x3 : Int32) (o : Int32) (h : f_X1_part N x1 x2 x3 n_this_lists_cells n_this_days_cells n_this_contributors_cells n_this_points_cells v_this_size g_this_lists_cells g_this_days_cells g_this_contributors_cells g_this_points_cells = some o) : Ct l D [(cI, .int), (cB, .byte), (cL, .byte), (cO, .object RX0)] pf yX1_part cX1_part 5 (some FieldType.int) { frames := 3, cells := 0, slots := 0, locals := 67 } [.ref a_this, .int x1, .int x2, .int x3] [(a_this, .inr (1, [.ref a_this_lists, .ref a_this_days, .ref a_this_contributors, .ref a_this_points, .int v_this_size])), (a_this_lists, .inr (6, [.ref a_this_lists_cells])), (a_this_lists_cells, .inl (cI, n_this_lists_cells, .inl g_this_lists_cells)), (a_this_days, .inr (6, [.ref a_this_days_cells])), (a_this_days_cells, .inl (cI, n_this_days_cells, .inl g_this_days_cells)), (a_this_contributors, .inr (6, [.ref a_this_contributors_cells])), (a_this_contributors_cells, .inl (cI, n_this_contributors_cells, .inl g_this_contributors_cells)), (a_this_points, .inr (6, [.ref a_this_points_cells])), (a_this_points_cells, .inl (cI, n_this_points_cells, .inl g_this_points_cells))] (is1 (some (.int o)) [(a_this, .inr (1, [.ref a_this_lists, .ref a_this_days, .ref a_this_contributors, .ref a_this_points, .int v_this_size])), (a_this_lists, .inr (6, [.ref a_this_lists_cells])), (a_this_lists_cells, .inl (cI, n_this_lists_cells, .inl g_this_lists_cells)), (a_this_days, .inr (6, [.ref a_this_days_cells])), (a_this_days_cells, .inl (cI, n_this_days_cells, .inl g_this_days_cells)), (a_this_contributors, .inr (6, [.ref a_this_contributors_cells])), (a_this_contributors_cells, .inl (cI, n_this_contributors_cells, .inl g_this_contributors_cells)), (a_this_points, .inr (6, [.ref a_this_points_cells])), (a_this_points_cells, .inl (cI, n_this_points_cells, .inl g_this_points_cells))]) := by
  refine Ct_of (own := RX1) (lv0 := [(0, .ref a_this), (1, .int x1), (2, .int x2), (3, .int x3)]) (by decide) rfl rfl (Nat.le_of_ble_eq_true rfl) ?_
  intro p e s m args below meth c C hr hnm
  unfold f_X1_part at h
  refine J_aload_n (pc := 0) C dX1_part_0 0 rfl ?_
  refine J_iload_n (pc := 1) C dX1_part_1 1 rfl ?_
  refine J_bipush (v := (-2 : Int32)) (pc := 2) C dX1_part_2 (by decide) ?_
  refine J_bipush (v := (-2 : Int32)) (pc := 4) C dX1_part_4 (by decide) ?_
  refine J_cvr (pc := 6) (As := [.int x1, .int (-2 : Int32), .int (-2 : Int32)]) (st := []) C dX1_part_6 ml_RX1_45 mi_yX1_first (fun r6 hr => c_X1_first l D cI cB cL cO pf N a_this a_this_lists a_this_days a_this_contributors a_this_points a_this_lists_cells a_this_days_cells a_this_contributors_cells n_this_lists_cells n_this_days_cells n_this_contributors_cells v_this_size g_this_lists_cells g_this_days_cells g_this_contributors_cells x1 (-2 : Int32) (-2 : Int32) r6 hr) h [0, 1, 2, 3, 4, 5, 6] rfl rfl rfl rfl rfl ⟨rfl, rfl⟩ ⟨(Nat.le_of_ble_eq_true rfl), (Nat.le_of_ble_eq_true rfl)⟩ ⟨Nat.zero_le _, Nat.zero_le _⟩ (Nat.le_of_ble_eq_true rfl) (fun r6 h => ?_)
  refine J_iload_n (pc := 9) C dX1_part_9 2 rfl ?_
  refine J_iadd (pc := 10) C dX1_part_10 ?_
  refine J_istoreN (pc := 11) C (fun y11 => [(4, .int y11), (0, .ref a_this), (1, .int x1), (2, .int x2), (3, .int x3)]) dX1_part_11 h (by decide) (fun _ => rfl) (fun y11 h => ?_)
  refine J_iload_n (pc := 13) C dX1_part_13 4 rfl ?_
  refine J_if_ne (pc := 14) (tgt := 27) C dX1_part_14 (by decide) h (fun h => ?_) (fun h => ?_)
  · refine J_iload_n (pc := 27) C dX1_part_27 4 rfl ?_
    refine J_iconst (v := (1 : Int32)) (pc := 28) C dX1_part_28 (by decide) ?_
    refine J_ic_ne (pc := 29) (tgt := 44) C dX1_part_29 (by decide) h (fun h => ?_) (fun h => ?_)
    · refine J_aload_n (pc := 44) C dX1_part_44 1 rfl ?_
      refine J_get (pc := 45) C dX1_part_45 jf_X1 0 rfl rfl 2 (by decide) rfl fl_RX1_23 rfl ?_
      refine J_iload (pc := 48) C dX1_part_48 0 rfl ?_
      refine J_cvr (pc := 50) (As := [.int y11]) (st := []) C dX1_part_50 ml_RX1_37 mi_yX6_at (fun r50 hr => c_X6_at l D cI cB cL cO pf 0 a_this_contributors a_this_contributors_cells n_this_contributors_cells g_this_contributors_cells y11 r50 hr) h [5, 6] rfl rfl rfl rfl rfl ⟨rfl, rfl⟩ ⟨(Nat.le_of_ble_eq_true rfl), (Nat.le_of_ble_eq_true rfl)⟩ ⟨Nat.zero_le _, Nat.zero_le _⟩ (Nat.le_of_ble_eq_true rfl) (fun r50 h => ?_)
      cases h
      exact J_iret (pc := 53) C dX1_part_53 hr ⟨rfl, rfl⟩
    · refine J_aload_n (pc := 32) C dX1_part_32 1 rfl ?_
      refine J_get (pc := 33) C dX1_part_33 jf_X1 0 rfl rfl 1 (by decide) rfl fl_RX1_20 rfl ?_
      refine J_iload (pc := 36) C dX1_part_36 0 rfl ?_
      refine J_cvr (pc := 38) (As := [.int y11]) (st := []) C dX1_part_38 ml_RX1_37 mi_yX6_at (fun r38 hr => c_X6_at l D cI cB cL cO pf 0 a_this_days a_this_days_cells n_this_days_cells g_this_days_cells y11 r38 hr) h [3, 4] rfl rfl rfl rfl rfl ⟨rfl, rfl⟩ ⟨(Nat.le_of_ble_eq_true rfl), (Nat.le_of_ble_eq_true rfl)⟩ ⟨Nat.zero_le _, Nat.zero_le _⟩ (Nat.le_of_ble_eq_true rfl) (fun r38 h => ?_)
      refine J_goto (tgt := 53) (pc := 41) C dX1_part_41 (by decide) ?_
      cases h
      exact J_iret (pc := 53) C dX1_part_53 hr ⟨rfl, rfl⟩
  · refine J_aload_n (pc := 17) C dX1_part_17 1 rfl ?_
    refine J_get (pc := 18) C dX1_part_18 jf_X1 0 rfl rfl 3 (by decide) rfl fl_RX1_26 rfl ?_
    refine J_iload (pc := 21) C dX1_part_21 0 rfl ?_
    refine J_cvr (pc := 23) (As := [.int y11]) (st := []) C dX1_part_23 ml_RX1_37 mi_yX6_at (fun r23 hr => c_X6_at l D cI cB cL cO pf 0 a_this_points a_this_points_cells n_this_points_cells g_this_points_cells y11 r23 hr) h [7, 8] rfl rfl rfl rfl rfl ⟨rfl, rfl⟩ ⟨(Nat.le_of_ble_eq_true rfl), (Nat.le_of_ble_eq_true rfl)⟩ ⟨Nat.zero_le _, Nat.zero_le _⟩ (Nat.le_of_ble_eq_true rfl) (fun r23 h => ?_)
    cases h
    exact J_iret (pc := 26) C dX1_part_26 hr ⟨rfl, rfl⟩
-- PointsLedger$Cohorts.sumUntil(II)I
theorem dX1_sumUntil_0 : decode cX1_sumUntil 0 = .ok (.iconst 0, 1) := by decide +kernel
theorem dX1_sumUntil_1 : decode cX1_sumUntil 1 = .ok (.istore_n 3, 1) := by decide +kernel
theorem dX1_sumUntil_2 : decode cX1_sumUntil 2 = .ok (.iconst 0, 1) := by decide +kernel
theorem dX1_sumUntil_3 : decode cX1_sumUntil 3 = .ok (.istore 4, 2) := by decide +kernel
theorem dX1_sumUntil_5 : decode cX1_sumUntil 5 = .ok (.iload 4, 2) := by decide +kernel
theorem dX1_sumUntil_7 : decode cX1_sumUntil 7 = .ok (.aload_n 0, 1) := by decide +kernel
theorem dX1_sumUntil_8 : decode cX1_sumUntil 8 = .ok (.getfield 29, 3) := by decide +kernel
theorem dX1_sumUntil_11 : decode cX1_sumUntil 11 = .ok (.if_icmp .ge 44, 3) := by decide +kernel
theorem dX1_sumUntil_14 : decode cX1_sumUntil 14 = .ok (.aload_n 0, 1) := by decide +kernel
theorem dX1_sumUntil_15 : decode cX1_sumUntil 15 = .ok (.iload 4, 2) := by decide +kernel
theorem dX1_sumUntil_17 : decode cX1_sumUntil 17 = .ok (.iload_n 1, 1) := by decide +kernel
theorem dX1_sumUntil_18 : decode cX1_sumUntil 18 = .ok (.invokevirtual 41, 3) := by decide +kernel
theorem dX1_sumUntil_21 : decode cX1_sumUntil 21 = .ok (.ifCond .eq 28, 3) := by decide +kernel
theorem dX1_sumUntil_24 : decode cX1_sumUntil 24 = .ok (.aload_n 0, 1) := by decide +kernel
theorem dX1_sumUntil_25 : decode cX1_sumUntil 25 = .ok (.getfield 20, 3) := by decide +kernel
theorem dX1_sumUntil_28 : decode cX1_sumUntil 28 = .ok (.iload 4, 2) := by decide +kernel
theorem dX1_sumUntil_30 : decode cX1_sumUntil 30 = .ok (.invokevirtual 37, 3) := by decide +kernel
theorem dX1_sumUntil_33 : decode cX1_sumUntil 33 = .ok (.iload_n 2, 1) := by decide +kernel
theorem dX1_sumUntil_34 : decode cX1_sumUntil 34 = .ok (.if_icmp .gt 15, 3) := by decide +kernel
theorem dX1_sumUntil_37 : decode cX1_sumUntil 37 = .ok (.iload_n 3, 1) := by decide +kernel
theorem dX1_sumUntil_38 : decode cX1_sumUntil 38 = .ok (.aload_n 0, 1) := by decide +kernel
theorem dX1_sumUntil_39 : decode cX1_sumUntil 39 = .ok (.getfield 26, 3) := by decide +kernel
theorem dX1_sumUntil_42 : decode cX1_sumUntil 42 = .ok (.iload 4, 2) := by decide +kernel
theorem dX1_sumUntil_44 : decode cX1_sumUntil 44 = .ok (.invokevirtual 37, 3) := by decide +kernel
theorem dX1_sumUntil_47 : decode cX1_sumUntil 47 = .ok (.iadd, 1) := by decide +kernel
theorem dX1_sumUntil_48 : decode cX1_sumUntil 48 = .ok (.istore_n 3, 1) := by decide +kernel
theorem dX1_sumUntil_49 : decode cX1_sumUntil 49 = .ok (.iinc 4 1, 3) := by decide +kernel
theorem dX1_sumUntil_52 : decode cX1_sumUntil 52 = .ok (.goto (-47), 3) := by decide +kernel
theorem dX1_sumUntil_55 : decode cX1_sumUntil 55 = .ok (.iload_n 3, 1) := by decide +kernel
theorem dX1_sumUntil_56 : decode cX1_sumUntil 56 = .ok (.ireturn, 1) := by decide +kernel
def f_X1_sumUntil_b5 (x1 : Int32) (x2 : Int32) (n_this_lists_cells : Nat) (n_this_days_cells : Nat) (n_this_points_cells : Nat) (v_this_size : Int32) (g_this_lists_cells : Nat → Int32) (g_this_days_cells : Nat → Int32) (g_this_points_cells : Nat → Int32) : Nat → (Int32) → (Int32) → Option (Int32)
  | 0, _, _ => none
  | n + 1, x3, x4 => (if v_this_size ≤ x4 then (some x3) else ((f_X1_isIn x4 x1 n_this_lists_cells g_this_lists_cells).bind fun r18 => (if r18 = 0 then ((some (x4 + (1 : Int32))).bind fun y49 => (f_X1_sumUntil_b5 x1 x2 n_this_lists_cells n_this_days_cells n_this_points_cells v_this_size g_this_lists_cells g_this_days_cells g_this_points_cells n x3 y49)) else ((f_X6_at x4 n_this_days_cells g_this_days_cells).bind fun r30 => (if x2 < r30 then ((some (x4 + (1 : Int32))).bind fun y49 => (f_X1_sumUntil_b5 x1 x2 n_this_lists_cells n_this_days_cells n_this_points_cells v_this_size g_this_lists_cells g_this_days_cells g_this_points_cells n x3 y49)) else ((f_X6_at x4 n_this_points_cells g_this_points_cells).bind fun r44 => ((some (x3 + r44)).bind fun y48 => ((some (x4 + (1 : Int32))).bind fun y49 => (f_X1_sumUntil_b5 x1 x2 n_this_lists_cells n_this_days_cells n_this_points_cells v_this_size g_this_lists_cells g_this_days_cells g_this_points_cells n y48 y49)))))))))
def f_X1_sumUntil (N : Nat) (x1 : Int32) (x2 : Int32) (n_this_lists_cells : Nat) (n_this_days_cells : Nat) (n_this_points_cells : Nat) (v_this_size : Int32) (g_this_lists_cells : Nat → Int32) (g_this_days_cells : Nat → Int32) (g_this_points_cells : Nat → Int32) : Option (Int32) :=
  (f_X1_sumUntil_b5 x1 x2 n_this_lists_cells n_this_days_cells n_this_points_cells v_this_size g_this_lists_cells g_this_days_cells g_this_points_cells N (0 : Int32) (0 : Int32))
set_option maxHeartbeats 4000000 in
set_option maxRecDepth 100000 in
theorem t_X1_sumUntil_b5 {l : Launch} {D : va_G} {cI cB cL cO : ClassId} {pf : Nat → Nat} {p : Program} {e : Env} {s : State} {m : MethodId} {args : Array Value} {below : List Frame} {meth : Method} {c : Code} {W0 : va_W} {a_this a_this_lists a_this_days a_this_contributors a_this_points a_this_lists_cells a_this_days_cells a_this_points_cells : Nat}  {n_this_lists_cells : Nat} {n_this_days_cells : Nat} {n_this_points_cells : Nat} {v_this_size : Int32} {g_this_lists_cells : Nat → Int32} {g_this_days_cells : Nat → Int32} {g_this_points_cells : Nat → Int32} {x1 : Int32} {x2 : Int32} {o : Int32} (C : jC p s m args meth c cX1_sumUntil 5 RX1 D [(cI, .int), (cB, .byte), (cL, .byte), (cO, .object RX0)] pf (va_A W0 s.heap.size)) (hr : meth.sig.returnType = (some FieldType.int)) : ∀ (n : Nat) (x3 : Int32) (x4 : Int32), f_X1_sumUntil_b5 x1 x2 n_this_lists_cells n_this_days_cells n_this_points_cells v_this_size g_this_lists_cells g_this_days_cells g_this_points_cells n x3 x4 = some o → J p l e { frames := 2, cells := 0, slots := 0, locals := 43 } s m args below meth c 5 D (va_A W0 s.heap.size) (MQ below (jQ D [(cI, .int), (cB, .byte), (cL, .byte), (cO, .object RX0)] W0 s.heap.size (is1 (some (.int o)) [(a_this, .inr (1, [.ref a_this_lists, .ref a_this_days, .ref a_this_contributors, .ref a_this_points, .int v_this_size])), (a_this_lists, .inr (6, [.ref a_this_lists_cells])), (a_this_lists_cells, .inl (cI, n_this_lists_cells, .inl g_this_lists_cells)), (a_this_days, .inr (6, [.ref a_this_days_cells])), (a_this_days_cells, .inl (cI, n_this_days_cells, .inl g_this_days_cells)), (a_this_points, .inr (6, [.ref a_this_points_cells])), (a_this_points_cells, .inl (cI, n_this_points_cells, .inl g_this_points_cells))])) args s 0 0 (va_A W0 s.heap.size)) 0 0 5 [(0, .ref a_this), (1, .int x1), (2, .int x2), (3, .int x3), (4, .int x4)] [] [(a_this, .inr (1, [.ref a_this_lists, .ref a_this_days, .ref a_this_contributors, .ref a_this_points, .int v_this_size])), (a_this_lists, .inr (6, [.ref a_this_lists_cells])), (a_this_lists_cells, .inl (cI, n_this_lists_cells, .inl g_this_lists_cells)), (a_this_days, .inr (6, [.ref a_this_days_cells])), (a_this_days_cells, .inl (cI, n_this_days_cells, .inl g_this_days_cells)), (a_this_points, .inr (6, [.ref a_this_points_cells])), (a_this_points_cells, .inl (cI, n_this_points_cells, .inl g_this_points_cells))] := by
  intro n
  induction n with
  | zero =>
    intro _ _ h
    rw [f_X1_sumUntil_b5] at h
    cases h
  | succ n ih =>
    intro x3 x4 h
    rw [f_X1_sumUntil_b5] at h
    refine J_iload (pc := 5) C dX1_sumUntil_5 4 rfl ?_
    refine J_aload_n (pc := 7) C dX1_sumUntil_7 0 rfl ?_
    refine J_get (pc := 8) C dX1_sumUntil_8 jf_X1 0 rfl rfl 4 (by decide) rfl fl_RX1_29 rfl ?_
    refine J_ic_ge (pc := 11) (tgt := 55) C dX1_sumUntil_11 (by decide) h (fun h => ?_) (fun h => ?_)
    · refine J_iload_n (pc := 55) C dX1_sumUntil_55 3 rfl ?_
      cases h
      exact J_iret (pc := 56) C dX1_sumUntil_56 hr ⟨rfl, rfl⟩
    · refine J_aload_n (pc := 14) C dX1_sumUntil_14 0 rfl ?_
      refine J_iload (pc := 15) C dX1_sumUntil_15 4 rfl ?_
      refine J_iload_n (pc := 17) C dX1_sumUntil_17 1 rfl ?_
      refine J_cvr (pc := 18) (As := [.int x4, .int x1]) (st := []) C dX1_sumUntil_18 ml_RX1_41 mi_yX1_isIn (fun r18 hr => c_X1_isIn l D cI cB cL cO pf 0 a_this a_this_lists a_this_days a_this_contributors a_this_points a_this_lists_cells n_this_lists_cells v_this_size g_this_lists_cells x4 x1 r18 hr) h [0, 1, 2] rfl rfl rfl rfl rfl ⟨rfl, rfl⟩ ⟨(Nat.le_of_ble_eq_true rfl), (Nat.le_of_ble_eq_true rfl)⟩ ⟨Nat.zero_le _, Nat.zero_le _⟩ (Nat.le_of_ble_eq_true rfl) (fun r18 h => ?_)
      refine J_if_eq (pc := 21) (tgt := 49) C dX1_sumUntil_21 (by decide) h (fun h => ?_) (fun h => ?_)
      · refine J_iincN (pc := 49) (v := (1 : Int32)) C (fun y49 => [(4, .int y49), (0, .ref a_this), (1, .int x1), (2, .int x2), (3, .int x3)]) dX1_sumUntil_49 4 rfl (by decide) h (by decide) (fun _ => rfl) (fun y49 h => ?_)
        refine J_goto (tgt := 5) (pc := 52) C dX1_sumUntil_52 (by decide) ?_
        refine J_sub (lv2 := [(0, .ref a_this), (1, .int x1), (2, .int x2), (3, .int x3), (4, .int y49)]) [1, 2, 3, 4, 0] rfl ?_
        exact ih _ _ h
      · refine J_aload_n (pc := 24) C dX1_sumUntil_24 0 rfl ?_
        refine J_get (pc := 25) C dX1_sumUntil_25 jf_X1 0 rfl rfl 1 (by decide) rfl fl_RX1_20 rfl ?_
        refine J_iload (pc := 28) C dX1_sumUntil_28 4 rfl ?_
        refine J_cvr (pc := 30) (As := [.int x4]) (st := []) C dX1_sumUntil_30 ml_RX1_37 mi_yX6_at (fun r30 hr => c_X6_at l D cI cB cL cO pf 0 a_this_days a_this_days_cells n_this_days_cells g_this_days_cells x4 r30 hr) h [3, 4] rfl rfl rfl rfl rfl ⟨rfl, rfl⟩ ⟨(Nat.le_of_ble_eq_true rfl), (Nat.le_of_ble_eq_true rfl)⟩ ⟨Nat.zero_le _, Nat.zero_le _⟩ (Nat.le_of_ble_eq_true rfl) (fun r30 h => ?_)
        refine J_iload_n (pc := 33) C dX1_sumUntil_33 2 rfl ?_
        refine J_ic_gt (pc := 34) (tgt := 49) C dX1_sumUntil_34 (by decide) h (fun h => ?_) (fun h => ?_)
        · refine J_iincN (pc := 49) (v := (1 : Int32)) C (fun y49 => [(4, .int y49), (0, .ref a_this), (1, .int x1), (2, .int x2), (3, .int x3)]) dX1_sumUntil_49 4 rfl (by decide) h (by decide) (fun _ => rfl) (fun y49 h => ?_)
          refine J_goto (tgt := 5) (pc := 52) C dX1_sumUntil_52 (by decide) ?_
          refine J_sub (lv2 := [(0, .ref a_this), (1, .int x1), (2, .int x2), (3, .int x3), (4, .int y49)]) [1, 2, 3, 4, 0] rfl ?_
          exact ih _ _ h
        · refine J_iload_n (pc := 37) C dX1_sumUntil_37 3 rfl ?_
          refine J_aload_n (pc := 38) C dX1_sumUntil_38 0 rfl ?_
          refine J_get (pc := 39) C dX1_sumUntil_39 jf_X1 0 rfl rfl 3 (by decide) rfl fl_RX1_26 rfl ?_
          refine J_iload (pc := 42) C dX1_sumUntil_42 4 rfl ?_
          refine J_cvr (pc := 44) (As := [.int x4]) (st := [.int x3]) C dX1_sumUntil_44 ml_RX1_37 mi_yX6_at (fun r44 hr => c_X6_at l D cI cB cL cO pf 0 a_this_points a_this_points_cells n_this_points_cells g_this_points_cells x4 r44 hr) h [5, 6] rfl rfl rfl rfl rfl ⟨rfl, rfl⟩ ⟨(Nat.le_of_ble_eq_true rfl), (Nat.le_of_ble_eq_true rfl)⟩ ⟨Nat.zero_le _, Nat.zero_le _⟩ (Nat.le_of_ble_eq_true rfl) (fun r44 h => ?_)
          refine J_iadd (pc := 47) C dX1_sumUntil_47 ?_
          refine J_istore_nN (pc := 48) C (fun y48 => [(3, .int y48), (0, .ref a_this), (1, .int x1), (2, .int x2), (4, .int x4)]) dX1_sumUntil_48 h (by decide) (fun _ => rfl) (fun y48 h => ?_)
          refine J_iincN (pc := 49) (v := (1 : Int32)) C (fun y49 => [(4, .int y49), (3, .int y48), (0, .ref a_this), (1, .int x1), (2, .int x2)]) dX1_sumUntil_49 4 rfl (by decide) h (by decide) (fun _ => rfl) (fun y49 h => ?_)
          refine J_goto (tgt := 5) (pc := 52) C dX1_sumUntil_52 (by decide) ?_
          refine J_sub (lv2 := [(0, .ref a_this), (1, .int x1), (2, .int x2), (3, .int y48), (4, .int y49)]) [2, 3, 4, 1, 0] rfl ?_
          exact ih _ _ h
set_option maxHeartbeats 4000000 in
set_option maxRecDepth 100000 in
theorem c_X1_sumUntil (l : Launch) (D : va_G) (cI cB cL cO : ClassId) (pf : Nat → Nat) (N : Nat) (a_this a_this_lists a_this_days a_this_contributors a_this_points a_this_lists_cells a_this_days_cells a_this_points_cells : Nat) (n_this_lists_cells : Nat) (n_this_days_cells : Nat) (n_this_points_cells : Nat) (v_this_size : Int32) (g_this_lists_cells : Nat → Int32) (g_this_days_cells : Nat → Int32) (g_this_points_cells : Nat → Int32) (x1 : Int32) (x2 : Int32) (o : Int32) (h : f_X1_sumUntil N x1 x2 n_this_lists_cells n_this_days_cells n_this_points_cells v_this_size g_this_lists_cells g_this_days_cells g_this_points_cells = some o) : Ct l D [(cI, .int), (cB, .byte), (cL, .byte), (cO, .object RX0)] pf yX1_sumUntil cX1_sumUntil 5 (some FieldType.int) { frames := 2, cells := 0, slots := 0, locals := 43 } [.ref a_this, .int x1, .int x2] [(a_this, .inr (1, [.ref a_this_lists, .ref a_this_days, .ref a_this_contributors, .ref a_this_points, .int v_this_size])), (a_this_lists, .inr (6, [.ref a_this_lists_cells])), (a_this_lists_cells, .inl (cI, n_this_lists_cells, .inl g_this_lists_cells)), (a_this_days, .inr (6, [.ref a_this_days_cells])), (a_this_days_cells, .inl (cI, n_this_days_cells, .inl g_this_days_cells)), (a_this_points, .inr (6, [.ref a_this_points_cells])), (a_this_points_cells, .inl (cI, n_this_points_cells, .inl g_this_points_cells))] (is1 (some (.int o)) [(a_this, .inr (1, [.ref a_this_lists, .ref a_this_days, .ref a_this_contributors, .ref a_this_points, .int v_this_size])), (a_this_lists, .inr (6, [.ref a_this_lists_cells])), (a_this_lists_cells, .inl (cI, n_this_lists_cells, .inl g_this_lists_cells)), (a_this_days, .inr (6, [.ref a_this_days_cells])), (a_this_days_cells, .inl (cI, n_this_days_cells, .inl g_this_days_cells)), (a_this_points, .inr (6, [.ref a_this_points_cells])), (a_this_points_cells, .inl (cI, n_this_points_cells, .inl g_this_points_cells))]) := by
  refine Ct_of (own := RX1) (lv0 := [(0, .ref a_this), (1, .int x1), (2, .int x2)]) (by decide) rfl rfl (Nat.le_of_ble_eq_true rfl) ?_
  intro p e s m args below meth c C hr hnm
  unfold f_X1_sumUntil at h
  refine J_iconst (v := (0 : Int32)) (pc := 0) C dX1_sumUntil_0 (by decide) ?_
  refine J_istore_n (lv2 := [(3, .int (0 : Int32)), (0, .ref a_this), (1, .int x1), (2, .int x2)]) (pc := 1) C dX1_sumUntil_1 (by decide) rfl ?_
  refine J_iconst (v := (0 : Int32)) (pc := 2) C dX1_sumUntil_2 (by decide) ?_
  refine J_istore (lv2 := [(4, .int (0 : Int32)), (3, .int (0 : Int32)), (0, .ref a_this), (1, .int x1), (2, .int x2)]) (pc := 3) C dX1_sumUntil_3 (by decide) rfl ?_
  refine J_sub (lv2 := [(0, .ref a_this), (1, .int x1), (2, .int x2), (3, .int (0 : Int32)), (4, .int (0 : Int32))]) [2, 3, 4, 1, 0] rfl ?_
  exact t_X1_sumUntil_b5 C hr N _ _ h
-- PointsLedger$InputBuffer.length()I
theorem dX3_length_0 : decode cX3_length 0 = .ok (.aload_n 0, 1) := by decide +kernel
theorem dX3_length_1 : decode cX3_length 1 = .ok (.getfield 15, 3) := by decide +kernel
theorem dX3_length_4 : decode cX3_length 4 = .ok (.ireturn, 1) := by decide +kernel
def f_X3_length (v_this_length : Int32) : Option (Int32) :=
  (some v_this_length)
set_option maxHeartbeats 4000000 in
set_option maxRecDepth 100000 in
theorem c_X3_length (l : Launch) (D : va_G) (cI cB cL cO : ClassId) (pf : Nat → Nat) (N : Nat) (a_this a_this_bytes : Nat) (v_this_length : Int32) (o : Int32) (h : f_X3_length v_this_length = some o) : Ct l D [(cI, .int), (cB, .byte), (cL, .byte), (cO, .object RX0)] pf yX3_length cX3_length 1 (some FieldType.int) { frames := 0, cells := 0, slots := 0, locals := 0 } [.ref a_this] [(a_this, .inr (3, [.ref a_this_bytes, .int v_this_length]))] (is1 (some (.int o)) [(a_this, .inr (3, [.ref a_this_bytes, .int v_this_length]))]) := by
  refine Ct_of (own := RX3) (lv0 := [(0, .ref a_this)]) (by decide) rfl rfl (Nat.le_of_ble_eq_true rfl) ?_
  intro p e s m args below meth c C hr hnm
  unfold f_X3_length at h
  refine J_aload_n (pc := 0) C dX3_length_0 0 rfl ?_
  refine J_get (pc := 1) C dX3_length_1 jf_X3 0 rfl rfl 1 (by decide) rfl fl_RX3_15 rfl ?_
  cases h
  exact J_iret (pc := 4) C dX3_length_4 hr ⟨rfl, rfl⟩
-- PointsLedger$InputBuffer.byteAt(I)I
theorem dX3_byteAt_0 : decode cX3_byteAt 0 = .ok (.iload_n 1, 1) := by decide +kernel
theorem dX3_byteAt_1 : decode cX3_byteAt 1 = .ok (.ifCond .lt 29, 3) := by decide +kernel
theorem dX3_byteAt_4 : decode cX3_byteAt 4 = .ok (.iload_n 1, 1) := by decide +kernel
theorem dX3_byteAt_5 : decode cX3_byteAt 5 = .ok (.aload_n 0, 1) := by decide +kernel
theorem dX3_byteAt_6 : decode cX3_byteAt 6 = .ok (.getfield 15, 3) := by decide +kernel
theorem dX3_byteAt_9 : decode cX3_byteAt 9 = .ok (.if_icmp .ge 21, 3) := by decide +kernel
theorem dX3_byteAt_12 : decode cX3_byteAt 12 = .ok (.iload_n 1, 1) := by decide +kernel
theorem dX3_byteAt_13 : decode cX3_byteAt 13 = .ok (.aload_n 0, 1) := by decide +kernel
theorem dX3_byteAt_14 : decode cX3_byteAt 14 = .ok (.getfield 9, 3) := by decide +kernel
theorem dX3_byteAt_17 : decode cX3_byteAt 17 = .ok (.arraylength, 1) := by decide +kernel
theorem dX3_byteAt_18 : decode cX3_byteAt 18 = .ok (.if_icmp .ge 12, 3) := by decide +kernel
theorem dX3_byteAt_21 : decode cX3_byteAt 21 = .ok (.aload_n 0, 1) := by decide +kernel
theorem dX3_byteAt_22 : decode cX3_byteAt 22 = .ok (.getfield 9, 3) := by decide +kernel
theorem dX3_byteAt_25 : decode cX3_byteAt 25 = .ok (.iload_n 1, 1) := by decide +kernel
theorem dX3_byteAt_26 : decode cX3_byteAt 26 = .ok (.iaload, 1) := by decide +kernel
theorem dX3_byteAt_27 : decode cX3_byteAt 27 = .ok (.goto 4, 3) := by decide +kernel
theorem dX3_byteAt_30 : decode cX3_byteAt 30 = .ok (.iconst 0, 1) := by decide +kernel
theorem dX3_byteAt_31 : decode cX3_byteAt 31 = .ok (.ireturn, 1) := by decide +kernel
def f_X3_byteAt (x1 : Int32) (n_this_bytes : Nat) (v_this_length : Int32) (g_this_bytes : Nat → Int32) : Option (Int32) :=
  (if x1 < 0 then (some (0 : Int32)) else (if v_this_length ≤ x1 then (some (0 : Int32)) else (if (nI n_this_bytes) ≤ x1 then (some (0 : Int32)) else (if x1 < 0 ∨ n_this_bytes ≤ x1.toNatClampNeg then none else (some (g_this_bytes x1.toNatClampNeg))))))
set_option maxHeartbeats 4000000 in
set_option maxRecDepth 100000 in
theorem c_X3_byteAt (l : Launch) (D : va_G) (cI cB cL cO : ClassId) (pf : Nat → Nat) (N : Nat) (a_this a_this_bytes : Nat) (n_this_bytes : Nat) (v_this_length : Int32) (g_this_bytes : Nat → Int32) (x1 : Int32) (o : Int32) (h : f_X3_byteAt x1 n_this_bytes v_this_length g_this_bytes = some o) : Ct l D [(cI, .int), (cB, .byte), (cL, .byte), (cO, .object RX0)] pf yX3_byteAt cX3_byteAt 2 (some FieldType.int) { frames := 0, cells := 0, slots := 0, locals := 0 } [.ref a_this, .int x1] [(a_this, .inr (3, [.ref a_this_bytes, .int v_this_length])), (a_this_bytes, .inl (cI, n_this_bytes, .inl g_this_bytes))] (is1 (some (.int o)) [(a_this, .inr (3, [.ref a_this_bytes, .int v_this_length])), (a_this_bytes, .inl (cI, n_this_bytes, .inl g_this_bytes))]) := by
  refine Ct_of (own := RX3) (lv0 := [(0, .ref a_this), (1, .int x1)]) (by decide) rfl rfl (Nat.le_of_ble_eq_true rfl) ?_
  intro p e s m args below meth c C hr hnm
  unfold f_X3_byteAt at h
  refine J_iload_n (pc := 0) C dX3_byteAt_0 1 rfl ?_
  refine J_if_lt (pc := 1) (tgt := 30) C dX3_byteAt_1 (by decide) h (fun h => ?_) (fun h => ?_)
  · refine J_iconst (v := (0 : Int32)) (pc := 30) C dX3_byteAt_30 (by decide) ?_
    cases h
    exact J_iret (pc := 31) C dX3_byteAt_31 hr ⟨rfl, rfl⟩
  · refine J_iload_n (pc := 4) C dX3_byteAt_4 1 rfl ?_
    refine J_aload_n (pc := 5) C dX3_byteAt_5 0 rfl ?_
    refine J_get (pc := 6) C dX3_byteAt_6 jf_X3 0 rfl rfl 1 (by decide) rfl fl_RX3_15 rfl ?_
    refine J_ic_ge (pc := 9) (tgt := 30) C dX3_byteAt_9 (by decide) h (fun h => ?_) (fun h => ?_)
    · refine J_iconst (v := (0 : Int32)) (pc := 30) C dX3_byteAt_30 (by decide) ?_
      cases h
      exact J_iret (pc := 31) C dX3_byteAt_31 hr ⟨rfl, rfl⟩
    · refine J_iload_n (pc := 12) C dX3_byteAt_12 1 rfl ?_
      refine J_aload_n (pc := 13) C dX3_byteAt_13 0 rfl ?_
      refine J_get (pc := 14) C dX3_byteAt_14 jf_X3 0 rfl rfl 0 (by decide) rfl fl_RX3_9 rfl ?_
      refine J_alen (pc := 17) C dX3_byteAt_17 1 0 rfl rfl ?_
      refine J_ic_ge (pc := 18) (tgt := 30) C dX3_byteAt_18 (by decide) h (fun h => ?_) (fun h => ?_)
      · refine J_iconst (v := (0 : Int32)) (pc := 30) C dX3_byteAt_30 (by decide) ?_
        cases h
        exact J_iret (pc := 31) C dX3_byteAt_31 hr ⟨rfl, rfl⟩
      · refine J_aload_n (pc := 21) C dX3_byteAt_21 0 rfl ?_
        refine J_get (pc := 22) C dX3_byteAt_22 jf_X3 0 rfl rfl 0 (by decide) rfl fl_RX3_9 rfl ?_
        refine J_iload_n (pc := 25) C dX3_byteAt_25 1 rfl ?_
        refine J_iald (pc := 26) C dX3_byteAt_26 1 0 rfl rfl h (fun h => ?_)
        refine J_goto (tgt := 31) (pc := 27) C dX3_byteAt_27 (by decide) ?_
        cases h
        exact J_iret (pc := 31) C dX3_byteAt_31 hr ⟨rfl, rfl⟩
-- PointsLedger$InputBuffer.bytesIn(I)I
theorem dX3_bytesIn_0 : decode cX3_bytesIn 0 = .ok (.iconst 0, 1) := by decide +kernel
theorem dX3_bytesIn_1 : decode cX3_bytesIn 1 = .ok (.istore_n 1, 1) := by decide +kernel
theorem dX3_bytesIn_2 : decode cX3_bytesIn 2 = .ok (.bipush 24, 2) := by decide +kernel
theorem dX3_bytesIn_4 : decode cX3_bytesIn 4 = .ok (.istore_n 2, 1) := by decide +kernel
theorem dX3_bytesIn_5 : decode cX3_bytesIn 5 = .ok (.iload_n 2, 1) := by decide +kernel
theorem dX3_bytesIn_6 : decode cX3_bytesIn 6 = .ok (.ifCond .lt 22, 3) := by decide +kernel
theorem dX3_bytesIn_9 : decode cX3_bytesIn 9 = .ok (.iload_n 0, 1) := by decide +kernel
theorem dX3_bytesIn_10 : decode cX3_bytesIn 10 = .ok (.iload_n 2, 1) := by decide +kernel
theorem dX3_bytesIn_11 : decode cX3_bytesIn 11 = .ok (.iushr, 1) := by decide +kernel
theorem dX3_bytesIn_12 : decode cX3_bytesIn 12 = .ok (.sipush 255, 3) := by decide +kernel
theorem dX3_bytesIn_15 : decode cX3_bytesIn 15 = .ok (.iand, 1) := by decide +kernel
theorem dX3_bytesIn_16 : decode cX3_bytesIn 16 = .ok (.ifCond .eq 6, 3) := by decide +kernel
theorem dX3_bytesIn_19 : decode cX3_bytesIn 19 = .ok (.iinc 1 1, 3) := by decide +kernel
theorem dX3_bytesIn_22 : decode cX3_bytesIn 22 = .ok (.iinc 2 (-8), 3) := by decide +kernel
theorem dX3_bytesIn_25 : decode cX3_bytesIn 25 = .ok (.goto (-20), 3) := by decide +kernel
theorem dX3_bytesIn_28 : decode cX3_bytesIn 28 = .ok (.iload_n 1, 1) := by decide +kernel
theorem dX3_bytesIn_29 : decode cX3_bytesIn 29 = .ok (.ireturn, 1) := by decide +kernel
def f_X3_bytesIn_b5 (x0 : Int32) : Nat → (Int32) → (Int32) → Option (Int32)
  | 0, _, _ => none
  | n + 1, x1, x2 => (if x2 < 0 then (some x1) else (if (((x0.toUInt32 >>> (x2.toUInt32 &&& Int32.toUInt32 31)).toInt32) &&& (255 : Int32)) = 0 then ((some (x2 + (-8 : Int32))).bind fun y22 => (f_X3_bytesIn_b5 x0 n x1 y22)) else ((some (x1 + (1 : Int32))).bind fun y19 => ((some (x2 + (-8 : Int32))).bind fun y22 => (f_X3_bytesIn_b5 x0 n y19 y22)))))
def f_X3_bytesIn (N : Nat) (x0 : Int32) : Option (Int32) :=
  (f_X3_bytesIn_b5 x0 N (0 : Int32) (24 : Int32))
set_option maxHeartbeats 4000000 in
set_option maxRecDepth 100000 in
theorem t_X3_bytesIn_b5 {l : Launch} {D : va_G} {cI cB cL cO : ClassId} {pf : Nat → Nat} {p : Program} {e : Env} {s : State} {m : MethodId} {args : Array Value} {below : List Frame} {meth : Method} {c : Code} {W0 : va_W}  {x0 : Int32} {o : Int32} (C : jC p s m args meth c cX3_bytesIn 3 RX3 D [(cI, .int), (cB, .byte), (cL, .byte), (cO, .object RX0)] pf (va_A W0 s.heap.size)) (hr : meth.sig.returnType = (some FieldType.int)) : ∀ (n : Nat) (x1 : Int32) (x2 : Int32), f_X3_bytesIn_b5 x0 n x1 x2 = some o → J p l e { frames := 0, cells := 0, slots := 0, locals := 0 } s m args below meth c 3 D (va_A W0 s.heap.size) (MQ below (jQ D [(cI, .int), (cB, .byte), (cL, .byte), (cO, .object RX0)] W0 s.heap.size (is1 (some (.int o)) [])) args s 0 0 (va_A W0 s.heap.size)) 0 0 5 [(0, .int x0), (1, .int x1), (2, .int x2)] [] [] := by
  intro n
  induction n with
  | zero =>
    intro _ _ h
    rw [f_X3_bytesIn_b5] at h
    cases h
  | succ n ih =>
    intro x1 x2 h
    rw [f_X3_bytesIn_b5] at h
    refine J_iload_n (pc := 5) C dX3_bytesIn_5 2 rfl ?_
    refine J_if_lt (pc := 6) (tgt := 28) C dX3_bytesIn_6 (by decide) h (fun h => ?_) (fun h => ?_)
    · refine J_iload_n (pc := 28) C dX3_bytesIn_28 1 rfl ?_
      cases h
      exact J_iret (pc := 29) C dX3_bytesIn_29 hr ⟨rfl, rfl⟩
    · refine J_iload_n (pc := 9) C dX3_bytesIn_9 0 rfl ?_
      refine J_iload_n (pc := 10) C dX3_bytesIn_10 2 rfl ?_
      refine J_iushr (pc := 11) C dX3_bytesIn_11 ?_
      refine J_sipush (v := (255 : Int32)) (pc := 12) C dX3_bytesIn_12 (by decide) ?_
      refine J_iand (pc := 15) C dX3_bytesIn_15 ?_
      refine J_if_eq (pc := 16) (tgt := 22) C dX3_bytesIn_16 (by decide) h (fun h => ?_) (fun h => ?_)
      · refine J_iincN (pc := 22) (v := (-8 : Int32)) C (fun y22 => [(2, .int y22), (0, .int x0), (1, .int x1)]) dX3_bytesIn_22 2 rfl (by decide) h (by decide) (fun _ => rfl) (fun y22 h => ?_)
        refine J_goto (tgt := 5) (pc := 25) C dX3_bytesIn_25 (by decide) ?_
        refine J_sub (lv2 := [(0, .int x0), (1, .int x1), (2, .int y22)]) [1, 2, 0] rfl ?_
        exact ih _ _ h
      · refine J_iincN (pc := 19) (v := (1 : Int32)) C (fun y19 => [(1, .int y19), (0, .int x0), (2, .int x2)]) dX3_bytesIn_19 1 rfl (by decide) h (by decide) (fun _ => rfl) (fun y19 h => ?_)
        refine J_iincN (pc := 22) (v := (-8 : Int32)) C (fun y22 => [(2, .int y22), (1, .int y19), (0, .int x0)]) dX3_bytesIn_22 2 rfl (by decide) h (by decide) (fun _ => rfl) (fun y22 h => ?_)
        refine J_goto (tgt := 5) (pc := 25) C dX3_bytesIn_25 (by decide) ?_
        refine J_sub (lv2 := [(0, .int x0), (1, .int y19), (2, .int y22)]) [2, 1, 0] rfl ?_
        exact ih _ _ h
set_option maxHeartbeats 4000000 in
set_option maxRecDepth 100000 in
theorem c_X3_bytesIn (l : Launch) (D : va_G) (cI cB cL cO : ClassId) (pf : Nat → Nat) (N : Nat) (x0 : Int32) (o : Int32) (h : f_X3_bytesIn N x0 = some o) : Ct l D [(cI, .int), (cB, .byte), (cL, .byte), (cO, .object RX0)] pf yX3_bytesIn cX3_bytesIn 3 (some FieldType.int) { frames := 0, cells := 0, slots := 0, locals := 0 } [.int x0] [] (is1 (some (.int o)) []) := by
  refine Ct_of (own := RX3) (lv0 := [(0, .int x0)]) (by decide) rfl rfl (Nat.le_of_ble_eq_true rfl) ?_
  intro p e s m args below meth c C hr hnm
  unfold f_X3_bytesIn at h
  refine J_iconst (v := (0 : Int32)) (pc := 0) C dX3_bytesIn_0 (by decide) ?_
  refine J_istore_n (lv2 := [(1, .int (0 : Int32)), (0, .int x0)]) (pc := 1) C dX3_bytesIn_1 (by decide) rfl ?_
  refine J_bipush (v := (24 : Int32)) (pc := 2) C dX3_bytesIn_2 (by decide) ?_
  refine J_istore_n (lv2 := [(2, .int (24 : Int32)), (1, .int (0 : Int32)), (0, .int x0)]) (pc := 4) C dX3_bytesIn_4 (by decide) rfl ?_
  refine J_sub (lv2 := [(0, .int x0), (1, .int (0 : Int32)), (2, .int (24 : Int32))]) [2, 1, 0] rfl ?_
  exact t_X3_bytesIn_b5 C hr N _ _ h
-- PointsLedger$InputBuffer.addBytes(I)V
theorem dX3_addBytes_0 : decode cX3_addBytes 0 = .ok (.bipush 24, 2) := by decide +kernel
theorem dX3_addBytes_2 : decode cX3_addBytes 2 = .ok (.istore_n 2, 1) := by decide +kernel
theorem dX3_addBytes_3 : decode cX3_addBytes 3 = .ok (.iload_n 2, 1) := by decide +kernel
theorem dX3_addBytes_4 : decode cX3_addBytes 4 = .ok (.ifCond .lt 60, 3) := by decide +kernel
theorem dX3_addBytes_7 : decode cX3_addBytes 7 = .ok (.iload_n 1, 1) := by decide +kernel
theorem dX3_addBytes_8 : decode cX3_addBytes 8 = .ok (.iload_n 2, 1) := by decide +kernel
theorem dX3_addBytes_9 : decode cX3_addBytes 9 = .ok (.iushr, 1) := by decide +kernel
theorem dX3_addBytes_10 : decode cX3_addBytes 10 = .ok (.sipush 255, 3) := by decide +kernel
theorem dX3_addBytes_13 : decode cX3_addBytes 13 = .ok (.iand, 1) := by decide +kernel
theorem dX3_addBytes_14 : decode cX3_addBytes 14 = .ok (.istore_n 3, 1) := by decide +kernel
theorem dX3_addBytes_15 : decode cX3_addBytes 15 = .ok (.iload_n 3, 1) := by decide +kernel
theorem dX3_addBytes_16 : decode cX3_addBytes 16 = .ok (.ifCond .eq 42, 3) := by decide +kernel
theorem dX3_addBytes_19 : decode cX3_addBytes 19 = .ok (.aload_n 0, 1) := by decide +kernel
theorem dX3_addBytes_20 : decode cX3_addBytes 20 = .ok (.getfield 15, 3) := by decide +kernel
theorem dX3_addBytes_23 : decode cX3_addBytes 23 = .ok (.ifCond .lt 35, 3) := by decide +kernel
theorem dX3_addBytes_26 : decode cX3_addBytes 26 = .ok (.aload_n 0, 1) := by decide +kernel
theorem dX3_addBytes_27 : decode cX3_addBytes 27 = .ok (.getfield 15, 3) := by decide +kernel
theorem dX3_addBytes_30 : decode cX3_addBytes 30 = .ok (.aload_n 0, 1) := by decide +kernel
theorem dX3_addBytes_31 : decode cX3_addBytes 31 = .ok (.getfield 9, 3) := by decide +kernel
theorem dX3_addBytes_34 : decode cX3_addBytes 34 = .ok (.arraylength, 1) := by decide +kernel
theorem dX3_addBytes_35 : decode cX3_addBytes 35 = .ok (.if_icmp .ge 23, 3) := by decide +kernel
theorem dX3_addBytes_38 : decode cX3_addBytes 38 = .ok (.aload_n 0, 1) := by decide +kernel
theorem dX3_addBytes_39 : decode cX3_addBytes 39 = .ok (.getfield 9, 3) := by decide +kernel
theorem dX3_addBytes_42 : decode cX3_addBytes 42 = .ok (.aload_n 0, 1) := by decide +kernel
theorem dX3_addBytes_43 : decode cX3_addBytes 43 = .ok (.getfield 15, 3) := by decide +kernel
theorem dX3_addBytes_46 : decode cX3_addBytes 46 = .ok (.iload_n 3, 1) := by decide +kernel
theorem dX3_addBytes_47 : decode cX3_addBytes 47 = .ok (.iastore, 1) := by decide +kernel
theorem dX3_addBytes_48 : decode cX3_addBytes 48 = .ok (.aload_n 0, 1) := by decide +kernel
theorem dX3_addBytes_49 : decode cX3_addBytes 49 = .ok (.dup, 1) := by decide +kernel
theorem dX3_addBytes_50 : decode cX3_addBytes 50 = .ok (.getfield 15, 3) := by decide +kernel
theorem dX3_addBytes_53 : decode cX3_addBytes 53 = .ok (.iconst 1, 1) := by decide +kernel
theorem dX3_addBytes_54 : decode cX3_addBytes 54 = .ok (.iadd, 1) := by decide +kernel
theorem dX3_addBytes_55 : decode cX3_addBytes 55 = .ok (.putfield 15, 3) := by decide +kernel
theorem dX3_addBytes_58 : decode cX3_addBytes 58 = .ok (.iinc 2 (-8), 3) := by decide +kernel
theorem dX3_addBytes_61 : decode cX3_addBytes 61 = .ok (.goto (-58), 3) := by decide +kernel
theorem dX3_addBytes_64 : decode cX3_addBytes 64 = .ok (.return_, 1) := by decide +kernel
def f_X3_addBytes_b3 (x1 : Int32) (n_this_bytes : Nat) : Nat → (Int32) → (Int32) → (Nat → Int32) → Option (Int32 × (Nat → Int32))
  | 0, _, _, _ => none
  | n + 1, x2, v_this_length, g_this_bytes => (if x2 < 0 then (some (v_this_length, g_this_bytes)) else ((some (((x1.toUInt32 >>> (x2.toUInt32 &&& Int32.toUInt32 31)).toInt32) &&& (255 : Int32))).bind fun y14 => (if y14 = 0 then ((some (x2 + (-8 : Int32))).bind fun y58 => (f_X3_addBytes_b3 x1 n_this_bytes n y58 v_this_length g_this_bytes)) else (if v_this_length < 0 then ((some (x2 + (-8 : Int32))).bind fun y58 => (f_X3_addBytes_b3 x1 n_this_bytes n y58 v_this_length g_this_bytes)) else (if (nI n_this_bytes) ≤ v_this_length then ((some (x2 + (-8 : Int32))).bind fun y58 => (f_X3_addBytes_b3 x1 n_this_bytes n y58 v_this_length g_this_bytes)) else (if v_this_length < 0 ∨ n_this_bytes ≤ v_this_length.toNatClampNeg then none else ((some (upd g_this_bytes v_this_length.toNatClampNeg y14)).bind fun h47 => ((some (x2 + (-8 : Int32))).bind fun y58 => (f_X3_addBytes_b3 x1 n_this_bytes n y58 (v_this_length + (1 : Int32)) h47)))))))))
def f_X3_addBytes (N : Nat) (x1 : Int32) (n_this_bytes : Nat) (v_this_length : Int32) (g_this_bytes : Nat → Int32) : Option (Int32 × (Nat → Int32)) :=
  (f_X3_addBytes_b3 x1 n_this_bytes N (24 : Int32) v_this_length g_this_bytes)
set_option maxHeartbeats 4000000 in
set_option maxRecDepth 100000 in
theorem t_X3_addBytes_b3 {l : Launch} {D : va_G} {cI cB cL cO : ClassId} {pf : Nat → Nat} {p : Program} {e : Env} {s : State} {m : MethodId} {args : Array Value} {below : List Frame} {meth : Method} {c : Code} {W0 : va_W} {a_this a_this_bytes : Nat}  {n_this_bytes : Nat} {x1 : Int32} {o : Int32 × (Nat → Int32)} (C : jC p s m args meth c cX3_addBytes 4 RX3 D [(cI, .int), (cB, .byte), (cL, .byte), (cO, .object RX0)] pf (va_A W0 s.heap.size)) (hr : meth.sig.returnType = (none : Option FieldType)) : ∀ (n : Nat) (x2 : Int32) (v_this_length : Int32) (g_this_bytes : Nat → Int32), f_X3_addBytes_b3 x1 n_this_bytes n x2 v_this_length g_this_bytes = some o → J p l e { frames := 0, cells := 0, slots := 0, locals := 0 } s m args below meth c 4 D (va_A W0 s.heap.size) (MQ below (jQ D [(cI, .int), (cB, .byte), (cL, .byte), (cO, .object RX0)] W0 s.heap.size (is1 (none) [(a_this, .inr (3, [.ref a_this_bytes, .int o.1])), (a_this_bytes, .inl (cI, n_this_bytes, .inl o.2))])) args s 0 0 (va_A W0 s.heap.size)) 0 0 3 [(0, .ref a_this), (1, .int x1), (2, .int x2)] [] [(a_this, .inr (3, [.ref a_this_bytes, .int v_this_length])), (a_this_bytes, .inl (cI, n_this_bytes, .inl g_this_bytes))] := by
  intro n
  induction n with
  | zero =>
    intro _ _ _ h
    rw [f_X3_addBytes_b3] at h
    cases h
  | succ n ih =>
    intro x2 v_this_length g_this_bytes h
    rw [f_X3_addBytes_b3] at h
    refine J_iload_n (pc := 3) C dX3_addBytes_3 2 rfl ?_
    refine J_if_lt (pc := 4) (tgt := 64) C dX3_addBytes_4 (by decide) h (fun h => ?_) (fun h => ?_)
    · cases h
      exact J_vret (pc := 64) C dX3_addBytes_64 hr ⟨rfl, rfl⟩
    · refine J_iload_n (pc := 7) C dX3_addBytes_7 1 rfl ?_
      refine J_iload_n (pc := 8) C dX3_addBytes_8 2 rfl ?_
      refine J_iushr (pc := 9) C dX3_addBytes_9 ?_
      refine J_sipush (v := (255 : Int32)) (pc := 10) C dX3_addBytes_10 (by decide) ?_
      refine J_iand (pc := 13) C dX3_addBytes_13 ?_
      refine J_istore_nN (pc := 14) C (fun y14 => [(3, .int y14), (0, .ref a_this), (1, .int x1), (2, .int x2)]) dX3_addBytes_14 h (by decide) (fun _ => rfl) (fun y14 h => ?_)
      refine J_iload_n (pc := 15) C dX3_addBytes_15 0 rfl ?_
      refine J_if_eq (pc := 16) (tgt := 58) C dX3_addBytes_16 (by decide) h (fun h => ?_) (fun h => ?_)
      · refine J_iincN (pc := 58) (v := (-8 : Int32)) C (fun y58 => [(2, .int y58), (3, .int y14), (0, .ref a_this), (1, .int x1)]) dX3_addBytes_58 3 rfl (by decide) h (by decide) (fun _ => rfl) (fun y58 h => ?_)
        refine J_goto (tgt := 3) (pc := 61) C dX3_addBytes_61 (by decide) ?_
        refine J_sub (lv2 := [(0, .ref a_this), (1, .int x1), (2, .int y58)]) [2, 3, 0] rfl ?_
        exact ih _ _ _ h
      · refine J_aload_n (pc := 19) C dX3_addBytes_19 1 rfl ?_
        refine J_get (pc := 20) C dX3_addBytes_20 jf_X3 0 rfl rfl 1 (by decide) rfl fl_RX3_15 rfl ?_
        refine J_if_lt (pc := 23) (tgt := 58) C dX3_addBytes_23 (by decide) h (fun h => ?_) (fun h => ?_)
        · refine J_iincN (pc := 58) (v := (-8 : Int32)) C (fun y58 => [(2, .int y58), (3, .int y14), (0, .ref a_this), (1, .int x1)]) dX3_addBytes_58 3 rfl (by decide) h (by decide) (fun _ => rfl) (fun y58 h => ?_)
          refine J_goto (tgt := 3) (pc := 61) C dX3_addBytes_61 (by decide) ?_
          refine J_sub (lv2 := [(0, .ref a_this), (1, .int x1), (2, .int y58)]) [2, 3, 0] rfl ?_
          exact ih _ _ _ h
        · refine J_aload_n (pc := 26) C dX3_addBytes_26 1 rfl ?_
          refine J_get (pc := 27) C dX3_addBytes_27 jf_X3 0 rfl rfl 1 (by decide) rfl fl_RX3_15 rfl ?_
          refine J_aload_n (pc := 30) C dX3_addBytes_30 1 rfl ?_
          refine J_get (pc := 31) C dX3_addBytes_31 jf_X3 0 rfl rfl 0 (by decide) rfl fl_RX3_9 rfl ?_
          refine J_alen (pc := 34) C dX3_addBytes_34 1 0 rfl rfl ?_
          refine J_ic_ge (pc := 35) (tgt := 58) C dX3_addBytes_35 (by decide) h (fun h => ?_) (fun h => ?_)
          · refine J_iincN (pc := 58) (v := (-8 : Int32)) C (fun y58 => [(2, .int y58), (3, .int y14), (0, .ref a_this), (1, .int x1)]) dX3_addBytes_58 3 rfl (by decide) h (by decide) (fun _ => rfl) (fun y58 h => ?_)
            refine J_goto (tgt := 3) (pc := 61) C dX3_addBytes_61 (by decide) ?_
            refine J_sub (lv2 := [(0, .ref a_this), (1, .int x1), (2, .int y58)]) [2, 3, 0] rfl ?_
            exact ih _ _ _ h
          · refine J_aload_n (pc := 38) C dX3_addBytes_38 1 rfl ?_
            refine J_get (pc := 39) C dX3_addBytes_39 jf_X3 0 rfl rfl 0 (by decide) rfl fl_RX3_9 rfl ?_
            refine J_aload_n (pc := 42) C dX3_addBytes_42 1 rfl ?_
            refine J_get (pc := 43) C dX3_addBytes_43 jf_X3 0 rfl rfl 1 (by decide) rfl fl_RX3_15 rfl ?_
            refine J_iload_n (pc := 46) C dX3_addBytes_46 0 rfl ?_
            refine J_iastN (pc := 47) C (fun h47 => [(a_this, .inr (3, [.ref a_this_bytes, .int v_this_length])), (a_this_bytes, .inl (cI, n_this_bytes, .inl h47))]) dX3_addBytes_47 1 0 rfl rfl h (fun _ => rfl) (fun h47 h => ?_)
            refine J_aload_n (pc := 48) C dX3_addBytes_48 1 rfl ?_
            refine J_dupr (pc := 49) C dX3_addBytes_49 ?_
            refine J_get (pc := 50) C dX3_addBytes_50 jf_X3 0 rfl rfl 1 (by decide) rfl fl_RX3_15 rfl ?_
            refine J_iconst (v := (1 : Int32)) (pc := 53) C dX3_addBytes_53 (by decide) ?_
            refine J_iadd (pc := 54) C dX3_addBytes_54 ?_
            refine J_put (tt := .int) (pc := 55) C dX3_addBytes_55 jf_X3 0 rfl rfl 1 (by decide) rfl fl_RX3_15 rfl (by decide +kernel) rfl rfl (Nat.le_of_ble_eq_true rfl) ?_
            refine J_ws (ws2 := [(a_this, .inr (3, [.ref a_this_bytes, .int (v_this_length + (1 : Int32))])), (a_this_bytes, .inl (cI, n_this_bytes, .inl h47))]) rfl ?_
            refine J_iincN (pc := 58) (v := (-8 : Int32)) C (fun y58 => [(2, .int y58), (3, .int y14), (0, .ref a_this), (1, .int x1)]) dX3_addBytes_58 3 rfl (by decide) h (by decide) (fun _ => rfl) (fun y58 h => ?_)
            refine J_goto (tgt := 3) (pc := 61) C dX3_addBytes_61 (by decide) ?_
            refine J_sub (lv2 := [(0, .ref a_this), (1, .int x1), (2, .int y58)]) [2, 3, 0] rfl ?_
            exact ih _ _ _ h
set_option maxHeartbeats 4000000 in
set_option maxRecDepth 100000 in
theorem c_X3_addBytes (l : Launch) (D : va_G) (cI cB cL cO : ClassId) (pf : Nat → Nat) (N : Nat) (a_this a_this_bytes : Nat) (n_this_bytes : Nat) (v_this_length : Int32) (g_this_bytes : Nat → Int32) (x1 : Int32) (o : Int32 × (Nat → Int32)) (h : f_X3_addBytes N x1 n_this_bytes v_this_length g_this_bytes = some o) : Ct l D [(cI, .int), (cB, .byte), (cL, .byte), (cO, .object RX0)] pf yX3_addBytes cX3_addBytes 4 (none : Option FieldType) { frames := 0, cells := 0, slots := 0, locals := 0 } [.ref a_this, .int x1] [(a_this, .inr (3, [.ref a_this_bytes, .int v_this_length])), (a_this_bytes, .inl (cI, n_this_bytes, .inl g_this_bytes))] (is1 (none) [(a_this, .inr (3, [.ref a_this_bytes, .int o.1])), (a_this_bytes, .inl (cI, n_this_bytes, .inl o.2))]) := by
  refine Ct_of (own := RX3) (lv0 := [(0, .ref a_this), (1, .int x1)]) (by decide) rfl rfl (Nat.le_of_ble_eq_true rfl) ?_
  intro p e s m args below meth c C hr hnm
  unfold f_X3_addBytes at h
  refine J_bipush (v := (24 : Int32)) (pc := 0) C dX3_addBytes_0 (by decide) ?_
  refine J_istore_n (lv2 := [(2, .int (24 : Int32)), (0, .ref a_this), (1, .int x1)]) (pc := 2) C dX3_addBytes_2 (by decide) rfl ?_
  refine J_sub (lv2 := [(0, .ref a_this), (1, .int x1), (2, .int (24 : Int32))]) [1, 2, 0] rfl ?_
  exact t_X3_addBytes_b3 C hr N _ _ _ h
-- PointsLedger$InputBuffer.shorten(I)V
theorem dX3_shorten_0 : decode cX3_shorten 0 = .ok (.aload_n 0, 1) := by decide +kernel
theorem dX3_shorten_1 : decode cX3_shorten 1 = .ok (.iload_n 1, 1) := by decide +kernel
theorem dX3_shorten_2 : decode cX3_shorten 2 = .ok (.putfield 15, 3) := by decide +kernel
theorem dX3_shorten_5 : decode cX3_shorten 5 = .ok (.return_, 1) := by decide +kernel
def f_X3_shorten (x1 : Int32) : Option (Int32) :=
  (some x1)
set_option maxHeartbeats 4000000 in
set_option maxRecDepth 100000 in
theorem c_X3_shorten (l : Launch) (D : va_G) (cI cB cL cO : ClassId) (pf : Nat → Nat) (N : Nat) (a_this a_this_bytes : Nat) (v_this_length : Int32) (x1 : Int32) (o : Int32) (h : f_X3_shorten x1 = some o) : Ct l D [(cI, .int), (cB, .byte), (cL, .byte), (cO, .object RX0)] pf yX3_shorten cX3_shorten 2 (none : Option FieldType) { frames := 0, cells := 0, slots := 0, locals := 0 } [.ref a_this, .int x1] [(a_this, .inr (3, [.ref a_this_bytes, .int v_this_length]))] (is1 (none) [(a_this, .inr (3, [.ref a_this_bytes, .int o]))]) := by
  refine Ct_of (own := RX3) (lv0 := [(0, .ref a_this), (1, .int x1)]) (by decide) rfl rfl (Nat.le_of_ble_eq_true rfl) ?_
  intro p e s m args below meth c C hr hnm
  unfold f_X3_shorten at h
  refine J_aload_n (pc := 0) C dX3_shorten_0 0 rfl ?_
  refine J_iload_n (pc := 1) C dX3_shorten_1 1 rfl ?_
  refine J_put (tt := .int) (pc := 2) C dX3_shorten_2 jf_X3 0 rfl rfl 1 (by decide) rfl fl_RX3_15 rfl (by decide +kernel) rfl rfl (Nat.le_of_ble_eq_true rfl) ?_
  refine J_ws (ws2 := [(a_this, .inr (3, [.ref a_this_bytes, .int x1]))]) rfl ?_
  cases h
  exact J_vret (pc := 5) C dX3_shorten_5 hr ⟨rfl, rfl⟩
-- PointsLedger$InputBuffer.tokenAt(I)I
theorem dX3_tokenAt_0 : decode cX3_tokenAt 0 = .ok (.iload_n 1, 1) := by decide +kernel
theorem dX3_tokenAt_1 : decode cX3_tokenAt 1 = .ok (.ifCond .lt 20, 3) := by decide +kernel
theorem dX3_tokenAt_4 : decode cX3_tokenAt 4 = .ok (.iload_n 1, 1) := by decide +kernel
theorem dX3_tokenAt_5 : decode cX3_tokenAt 5 = .ok (.aload_n 0, 1) := by decide +kernel
theorem dX3_tokenAt_6 : decode cX3_tokenAt 6 = .ok (.getfield 15, 3) := by decide +kernel
theorem dX3_tokenAt_9 : decode cX3_tokenAt 9 = .ok (.if_icmp .ge 12, 3) := by decide +kernel
theorem dX3_tokenAt_12 : decode cX3_tokenAt 12 = .ok (.iload_n 1, 1) := by decide +kernel
theorem dX3_tokenAt_13 : decode cX3_tokenAt 13 = .ok (.aload_n 0, 1) := by decide +kernel
theorem dX3_tokenAt_14 : decode cX3_tokenAt 14 = .ok (.getfield 9, 3) := by decide +kernel
theorem dX3_tokenAt_17 : decode cX3_tokenAt 17 = .ok (.arraylength, 1) := by decide +kernel
theorem dX3_tokenAt_18 : decode cX3_tokenAt 18 = .ok (.if_icmp .lt 7, 3) := by decide +kernel
theorem dX3_tokenAt_21 : decode cX3_tokenAt 21 = .ok (.sipush 258, 3) := by decide +kernel
theorem dX3_tokenAt_24 : decode cX3_tokenAt 24 = .ok (.ireturn, 1) := by decide +kernel
theorem dX3_tokenAt_25 : decode cX3_tokenAt 25 = .ok (.aload_n 0, 1) := by decide +kernel
theorem dX3_tokenAt_26 : decode cX3_tokenAt 26 = .ok (.getfield 9, 3) := by decide +kernel
theorem dX3_tokenAt_29 : decode cX3_tokenAt 29 = .ok (.iload_n 1, 1) := by decide +kernel
theorem dX3_tokenAt_30 : decode cX3_tokenAt 30 = .ok (.iaload, 1) := by decide +kernel
theorem dX3_tokenAt_31 : decode cX3_tokenAt 31 = .ok (.istore_n 2, 1) := by decide +kernel
theorem dX3_tokenAt_32 : decode cX3_tokenAt 32 = .ok (.iload_n 2, 1) := by decide +kernel
theorem dX3_tokenAt_33 : decode cX3_tokenAt 33 = .ok (.bipush 97, 2) := by decide +kernel
theorem dX3_tokenAt_35 : decode cX3_tokenAt 35 = .ok (.if_icmp .lt 13, 3) := by decide +kernel
theorem dX3_tokenAt_38 : decode cX3_tokenAt 38 = .ok (.iload_n 2, 1) := by decide +kernel
theorem dX3_tokenAt_39 : decode cX3_tokenAt 39 = .ok (.bipush 122, 2) := by decide +kernel
theorem dX3_tokenAt_41 : decode cX3_tokenAt 41 = .ok (.if_icmp .gt 7, 3) := by decide +kernel
theorem dX3_tokenAt_44 : decode cX3_tokenAt 44 = .ok (.sipush 256, 3) := by decide +kernel
theorem dX3_tokenAt_47 : decode cX3_tokenAt 47 = .ok (.ireturn, 1) := by decide +kernel
theorem dX3_tokenAt_48 : decode cX3_tokenAt 48 = .ok (.iload_n 2, 1) := by decide +kernel
theorem dX3_tokenAt_49 : decode cX3_tokenAt 49 = .ok (.bipush 48, 2) := by decide +kernel
theorem dX3_tokenAt_51 : decode cX3_tokenAt 51 = .ok (.if_icmp .lt 15, 3) := by decide +kernel
theorem dX3_tokenAt_54 : decode cX3_tokenAt 54 = .ok (.iload_n 2, 1) := by decide +kernel
theorem dX3_tokenAt_55 : decode cX3_tokenAt 55 = .ok (.bipush 57, 2) := by decide +kernel
theorem dX3_tokenAt_57 : decode cX3_tokenAt 57 = .ok (.if_icmp .gt 9, 3) := by decide +kernel
theorem dX3_tokenAt_60 : decode cX3_tokenAt 60 = .ok (.sipush 257, 3) := by decide +kernel
theorem dX3_tokenAt_63 : decode cX3_tokenAt 63 = .ok (.goto 4, 3) := by decide +kernel
theorem dX3_tokenAt_66 : decode cX3_tokenAt 66 = .ok (.iload_n 2, 1) := by decide +kernel
theorem dX3_tokenAt_67 : decode cX3_tokenAt 67 = .ok (.ireturn, 1) := by decide +kernel
def f_X3_tokenAt_b48 (x2 : Int32) : Option (Int32) :=
  (if x2 < (48 : Int32) then (some x2) else (if (57 : Int32) < x2 then (some x2) else (some (257 : Int32))))
def f_X3_tokenAt (x1 : Int32) (n_this_bytes : Nat) (v_this_length : Int32) (g_this_bytes : Nat → Int32) : Option (Int32) :=
  (if x1 < 0 then (some (258 : Int32)) else (if v_this_length ≤ x1 then (some (258 : Int32)) else (if x1 < (nI n_this_bytes) then (if x1 < 0 ∨ n_this_bytes ≤ x1.toNatClampNeg then none else ((some (g_this_bytes x1.toNatClampNeg)).bind fun y31 => (if y31 < (97 : Int32) then (f_X3_tokenAt_b48 y31) else (if (122 : Int32) < y31 then (f_X3_tokenAt_b48 y31) else (some (256 : Int32)))))) else (some (258 : Int32)))))
set_option maxHeartbeats 4000000 in
set_option maxRecDepth 100000 in
theorem t_X3_tokenAt_b48 {l : Launch} {D : va_G} {cI cB cL cO : ClassId} {pf : Nat → Nat} {p : Program} {e : Env} {s : State} {m : MethodId} {args : Array Value} {below : List Frame} {meth : Method} {c : Code} {W0 : va_W} {a_this a_this_bytes : Nat}  {n_this_bytes : Nat} {v_this_length : Int32} {g_this_bytes : Nat → Int32} {x2 : Int32} {o : Int32} (C : jC p s m args meth c cX3_tokenAt 3 RX3 D [(cI, .int), (cB, .byte), (cL, .byte), (cO, .object RX0)] pf (va_A W0 s.heap.size)) (hr : meth.sig.returnType = (some FieldType.int)) (h : f_X3_tokenAt_b48 x2 = some o) : J p l e { frames := 0, cells := 0, slots := 0, locals := 0 } s m args below meth c 3 D (va_A W0 s.heap.size) (MQ below (jQ D [(cI, .int), (cB, .byte), (cL, .byte), (cO, .object RX0)] W0 s.heap.size (is1 (some (.int o)) [(a_this, .inr (3, [.ref a_this_bytes, .int v_this_length])), (a_this_bytes, .inl (cI, n_this_bytes, .inl g_this_bytes))])) args s 0 0 (va_A W0 s.heap.size)) 0 0 48 [(2, .int x2)] [] [(a_this, .inr (3, [.ref a_this_bytes, .int v_this_length])), (a_this_bytes, .inl (cI, n_this_bytes, .inl g_this_bytes))] := by
  unfold f_X3_tokenAt_b48 at h
  refine J_iload_n (pc := 48) C dX3_tokenAt_48 0 rfl ?_
  refine J_bipush (v := (48 : Int32)) (pc := 49) C dX3_tokenAt_49 (by decide) ?_
  refine J_ic_lt (pc := 51) (tgt := 66) C dX3_tokenAt_51 (by decide) h (fun h => ?_) (fun h => ?_)
  · refine J_iload_n (pc := 66) C dX3_tokenAt_66 0 rfl ?_
    cases h
    exact J_iret (pc := 67) C dX3_tokenAt_67 hr ⟨rfl, rfl⟩
  · refine J_iload_n (pc := 54) C dX3_tokenAt_54 0 rfl ?_
    refine J_bipush (v := (57 : Int32)) (pc := 55) C dX3_tokenAt_55 (by decide) ?_
    refine J_ic_gt (pc := 57) (tgt := 66) C dX3_tokenAt_57 (by decide) h (fun h => ?_) (fun h => ?_)
    · refine J_iload_n (pc := 66) C dX3_tokenAt_66 0 rfl ?_
      cases h
      exact J_iret (pc := 67) C dX3_tokenAt_67 hr ⟨rfl, rfl⟩
    · refine J_sipush (v := (257 : Int32)) (pc := 60) C dX3_tokenAt_60 (by decide) ?_
      refine J_goto (tgt := 67) (pc := 63) C dX3_tokenAt_63 (by decide) ?_
      cases h
      exact J_iret (pc := 67) C dX3_tokenAt_67 hr ⟨rfl, rfl⟩
set_option maxHeartbeats 4000000 in
set_option maxRecDepth 100000 in
theorem c_X3_tokenAt (l : Launch) (D : va_G) (cI cB cL cO : ClassId) (pf : Nat → Nat) (N : Nat) (a_this a_this_bytes : Nat) (n_this_bytes : Nat) (v_this_length : Int32) (g_this_bytes : Nat → Int32) (x1 : Int32) (o : Int32) (h : f_X3_tokenAt x1 n_this_bytes v_this_length g_this_bytes = some o) : Ct l D [(cI, .int), (cB, .byte), (cL, .byte), (cO, .object RX0)] pf yX3_tokenAt cX3_tokenAt 3 (some FieldType.int) { frames := 0, cells := 0, slots := 0, locals := 0 } [.ref a_this, .int x1] [(a_this, .inr (3, [.ref a_this_bytes, .int v_this_length])), (a_this_bytes, .inl (cI, n_this_bytes, .inl g_this_bytes))] (is1 (some (.int o)) [(a_this, .inr (3, [.ref a_this_bytes, .int v_this_length])), (a_this_bytes, .inl (cI, n_this_bytes, .inl g_this_bytes))]) := by
  refine Ct_of (own := RX3) (lv0 := [(0, .ref a_this), (1, .int x1)]) (by decide) rfl rfl (Nat.le_of_ble_eq_true rfl) ?_
  intro p e s m args below meth c C hr hnm
  unfold f_X3_tokenAt at h
  refine J_iload_n (pc := 0) C dX3_tokenAt_0 1 rfl ?_
  refine J_if_lt (pc := 1) (tgt := 21) C dX3_tokenAt_1 (by decide) h (fun h => ?_) (fun h => ?_)
  · refine J_sipush (v := (258 : Int32)) (pc := 21) C dX3_tokenAt_21 (by decide) ?_
    cases h
    exact J_iret (pc := 24) C dX3_tokenAt_24 hr ⟨rfl, rfl⟩
  · refine J_iload_n (pc := 4) C dX3_tokenAt_4 1 rfl ?_
    refine J_aload_n (pc := 5) C dX3_tokenAt_5 0 rfl ?_
    refine J_get (pc := 6) C dX3_tokenAt_6 jf_X3 0 rfl rfl 1 (by decide) rfl fl_RX3_15 rfl ?_
    refine J_ic_ge (pc := 9) (tgt := 21) C dX3_tokenAt_9 (by decide) h (fun h => ?_) (fun h => ?_)
    · refine J_sipush (v := (258 : Int32)) (pc := 21) C dX3_tokenAt_21 (by decide) ?_
      cases h
      exact J_iret (pc := 24) C dX3_tokenAt_24 hr ⟨rfl, rfl⟩
    · refine J_iload_n (pc := 12) C dX3_tokenAt_12 1 rfl ?_
      refine J_aload_n (pc := 13) C dX3_tokenAt_13 0 rfl ?_
      refine J_get (pc := 14) C dX3_tokenAt_14 jf_X3 0 rfl rfl 0 (by decide) rfl fl_RX3_9 rfl ?_
      refine J_alen (pc := 17) C dX3_tokenAt_17 1 0 rfl rfl ?_
      refine J_ic_lt (pc := 18) (tgt := 25) C dX3_tokenAt_18 (by decide) h (fun h => ?_) (fun h => ?_)
      · refine J_aload_n (pc := 25) C dX3_tokenAt_25 0 rfl ?_
        refine J_get (pc := 26) C dX3_tokenAt_26 jf_X3 0 rfl rfl 0 (by decide) rfl fl_RX3_9 rfl ?_
        refine J_iload_n (pc := 29) C dX3_tokenAt_29 1 rfl ?_
        refine J_iald (pc := 30) C dX3_tokenAt_30 1 0 rfl rfl h (fun h => ?_)
        refine J_istore_nN (pc := 31) C (fun y31 => [(2, .int y31), (0, .ref a_this), (1, .int x1)]) dX3_tokenAt_31 h (by decide) (fun _ => rfl) (fun y31 h => ?_)
        refine J_iload_n (pc := 32) C dX3_tokenAt_32 0 rfl ?_
        refine J_bipush (v := (97 : Int32)) (pc := 33) C dX3_tokenAt_33 (by decide) ?_
        refine J_ic_lt (pc := 35) (tgt := 48) C dX3_tokenAt_35 (by decide) h (fun h => ?_) (fun h => ?_)
        · refine J_sub (lv2 := [(2, .int y31)]) [0] rfl ?_
          exact t_X3_tokenAt_b48 C hr h
        · refine J_iload_n (pc := 38) C dX3_tokenAt_38 0 rfl ?_
          refine J_bipush (v := (122 : Int32)) (pc := 39) C dX3_tokenAt_39 (by decide) ?_
          refine J_ic_gt (pc := 41) (tgt := 48) C dX3_tokenAt_41 (by decide) h (fun h => ?_) (fun h => ?_)
          · refine J_sub (lv2 := [(2, .int y31)]) [0] rfl ?_
            exact t_X3_tokenAt_b48 C hr h
          · refine J_sipush (v := (256 : Int32)) (pc := 44) C dX3_tokenAt_44 (by decide) ?_
            cases h
            exact J_iret (pc := 47) C dX3_tokenAt_47 hr ⟨rfl, rfl⟩
      · refine J_sipush (v := (258 : Int32)) (pc := 21) C dX3_tokenAt_21 (by decide) ?_
        cases h
        exact J_iret (pc := 24) C dX3_tokenAt_24 hr ⟨rfl, rfl⟩
-- PointsLedger$InputBuffer.spells(Ljava/lang/String;II)Z
theorem dX3_spells_0 : decode cX3_spells 0 = .ok (.iload_n 3, 1) := by decide +kernel
theorem dX3_spells_1 : decode cX3_spells 1 = .ok (.iload_n 2, 1) := by decide +kernel
theorem dX3_spells_2 : decode cX3_spells 2 = .ok (.isub, 1) := by decide +kernel
theorem dX3_spells_3 : decode cX3_spells 3 = .ok (.aload_n 1, 1) := by decide +kernel
theorem dX3_spells_4 : decode cX3_spells 4 = .ok (.invokevirtual 19, 3) := by decide +kernel
theorem dX3_spells_7 : decode cX3_spells 7 = .ok (.if_icmp .ne 16, 3) := by decide +kernel
theorem dX3_spells_10 : decode cX3_spells 10 = .ok (.iload_n 2, 1) := by decide +kernel
theorem dX3_spells_11 : decode cX3_spells 11 = .ok (.ifCond .lt 12, 3) := by decide +kernel
theorem dX3_spells_14 : decode cX3_spells 14 = .ok (.iload_n 3, 1) := by decide +kernel
theorem dX3_spells_15 : decode cX3_spells 15 = .ok (.aload_n 0, 1) := by decide +kernel
theorem dX3_spells_16 : decode cX3_spells 16 = .ok (.getfield 9, 3) := by decide +kernel
theorem dX3_spells_19 : decode cX3_spells 19 = .ok (.arraylength, 1) := by decide +kernel
theorem dX3_spells_20 : decode cX3_spells 20 = .ok (.if_icmp .le 5, 3) := by decide +kernel
theorem dX3_spells_23 : decode cX3_spells 23 = .ok (.iconst 0, 1) := by decide +kernel
theorem dX3_spells_24 : decode cX3_spells 24 = .ok (.ireturn, 1) := by decide +kernel
theorem dX3_spells_25 : decode cX3_spells 25 = .ok (.iconst 0, 1) := by decide +kernel
theorem dX3_spells_26 : decode cX3_spells 26 = .ok (.istore 4, 2) := by decide +kernel
theorem dX3_spells_28 : decode cX3_spells 28 = .ok (.iload 4, 2) := by decide +kernel
theorem dX3_spells_30 : decode cX3_spells 30 = .ok (.aload_n 1, 1) := by decide +kernel
theorem dX3_spells_31 : decode cX3_spells 31 = .ok (.invokevirtual 19, 3) := by decide +kernel
theorem dX3_spells_34 : decode cX3_spells 34 = .ok (.if_icmp .ge 29, 3) := by decide +kernel
theorem dX3_spells_37 : decode cX3_spells 37 = .ok (.aload_n 0, 1) := by decide +kernel
theorem dX3_spells_38 : decode cX3_spells 38 = .ok (.getfield 9, 3) := by decide +kernel
theorem dX3_spells_41 : decode cX3_spells 41 = .ok (.iload_n 2, 1) := by decide +kernel
theorem dX3_spells_42 : decode cX3_spells 42 = .ok (.iload 4, 2) := by decide +kernel
theorem dX3_spells_44 : decode cX3_spells 44 = .ok (.iadd, 1) := by decide +kernel
theorem dX3_spells_45 : decode cX3_spells 45 = .ok (.iaload, 1) := by decide +kernel
theorem dX3_spells_46 : decode cX3_spells 46 = .ok (.aload_n 1, 1) := by decide +kernel
theorem dX3_spells_47 : decode cX3_spells 47 = .ok (.iload 4, 2) := by decide +kernel
theorem dX3_spells_49 : decode cX3_spells 49 = .ok (.invokevirtual 24, 3) := by decide +kernel
theorem dX3_spells_52 : decode cX3_spells 52 = .ok (.if_icmp .eq 5, 3) := by decide +kernel
theorem dX3_spells_55 : decode cX3_spells 55 = .ok (.iconst 0, 1) := by decide +kernel
theorem dX3_spells_56 : decode cX3_spells 56 = .ok (.ireturn, 1) := by decide +kernel
theorem dX3_spells_57 : decode cX3_spells 57 = .ok (.iinc 4 1, 3) := by decide +kernel
theorem dX3_spells_60 : decode cX3_spells 60 = .ok (.goto (-32), 3) := by decide +kernel
theorem dX3_spells_63 : decode cX3_spells 63 = .ok (.iconst 1, 1) := by decide +kernel
theorem dX3_spells_64 : decode cX3_spells 64 = .ok (.ireturn, 1) := by decide +kernel
def f_X3_spells_b28 (x1 : Nat) (x2 : Int32) (n_this_bytes : Nat) (g_this_bytes : Nat → Int32) : Nat → (Int32) → Option (Int32)
  | 0, _ => none
  | n + 1, x4 => ((f_slen x1).bind fun r31 => (if r31 ≤ x4 then (some (1 : Int32)) else (if (x2 + x4) < 0 ∨ n_this_bytes ≤ (x2 + x4).toNatClampNeg then none else ((f_sch x1 x4).bind fun r49 => (if (g_this_bytes (x2 + x4).toNatClampNeg) = r49 then ((some (x4 + (1 : Int32))).bind fun y57 => (f_X3_spells_b28 x1 x2 n_this_bytes g_this_bytes n y57)) else (some (0 : Int32)))))))
def f_X3_spells (N : Nat) (x1 : Nat) (x2 : Int32) (x3 : Int32) (n_this_bytes : Nat) (g_this_bytes : Nat → Int32) : Option (Int32) :=
  ((f_slen x1).bind fun r4 => (if (x3 - x2) = r4 then (if x2 < 0 then (some (0 : Int32)) else (if x3 ≤ (nI n_this_bytes) then (f_X3_spells_b28 x1 x2 n_this_bytes g_this_bytes N (0 : Int32)) else (some (0 : Int32)))) else (some (0 : Int32))))
set_option maxHeartbeats 4000000 in
set_option maxRecDepth 100000 in
theorem t_X3_spells_b28 {l : Launch} {D : va_G} {cI cB cL cO : ClassId} {pf : Nat → Nat} {p : Program} {e : Env} {s : State} {m : MethodId} {args : Array Value} {below : List Frame} {meth : Method} {c : Code} {W0 : va_W} {a_this a_this_bytes : Nat}  {n_this_bytes : Nat} {v_this_length : Int32} {g_this_bytes : Nat → Int32} {x1 : Nat} {x2 : Int32} {o : Int32} (C : jC p s m args meth c cX3_spells 5 RX3 D [(cI, .int), (cB, .byte), (cL, .byte), (cO, .object RX0)] pf (va_A W0 s.heap.size)) (hr : meth.sig.returnType = (some FieldType.boolean)) : ∀ (n : Nat) (x4 : Int32), f_X3_spells_b28 x1 x2 n_this_bytes g_this_bytes n x4 = some o → J p l e { frames := 4, cells := 0, slots := 0, locals := 85 } s m args below meth c 5 D (va_A W0 s.heap.size) (MQ below (jQ D [(cI, .int), (cB, .byte), (cL, .byte), (cO, .object RX0)] W0 s.heap.size (is1 (some (.int o)) [(a_this, .inr (3, [.ref a_this_bytes, .int v_this_length])), (a_this_bytes, .inl (cI, n_this_bytes, .inl g_this_bytes))])) args s 0 0 (va_A W0 s.heap.size)) 0 0 28 [(0, .ref a_this), (1, .ref (pf x1)), (2, .int x2), (4, .int x4)] [] [(a_this, .inr (3, [.ref a_this_bytes, .int v_this_length])), (a_this_bytes, .inl (cI, n_this_bytes, .inl g_this_bytes))] := by
  intro n
  induction n with
  | zero =>
    intro _ h
    rw [f_X3_spells_b28] at h
    cases h
  | succ n ih =>
    intro x4 h
    rw [f_X3_spells_b28] at h
    refine J_iload (pc := 28) C dX3_spells_28 3 rfl ?_
    refine J_aload_n (pc := 30) C dX3_spells_30 1 rfl ?_
    refine J_strlen (pc := 31) (st := [.int x4]) C dX3_spells_31 ml_RX3_19 h ⟨(Nat.le_of_ble_eq_true rfl), (Nat.le_of_ble_eq_true rfl)⟩ ⟨Nat.zero_le _, Nat.zero_le _⟩ (Nat.le_of_ble_eq_true rfl) (fun r31 h => ?_)
    refine J_ic_ge (pc := 34) (tgt := 63) C dX3_spells_34 (by decide) h (fun h => ?_) (fun h => ?_)
    · refine J_iconst (v := (1 : Int32)) (pc := 63) C dX3_spells_63 (by decide) ?_
      cases h
      exact J_zret (pc := 64) C dX3_spells_64 hr rfl ⟨rfl, rfl⟩
    · refine J_aload_n (pc := 37) C dX3_spells_37 0 rfl ?_
      refine J_get (pc := 38) C dX3_spells_38 jf_X3 0 rfl rfl 0 (by decide) rfl fl_RX3_9 rfl ?_
      refine J_iload_n (pc := 41) C dX3_spells_41 2 rfl ?_
      refine J_iload (pc := 42) C dX3_spells_42 3 rfl ?_
      refine J_iadd (pc := 44) C dX3_spells_44 ?_
      refine J_iald (pc := 45) C dX3_spells_45 1 0 rfl rfl h (fun h => ?_)
      refine J_aload_n (pc := 46) C dX3_spells_46 1 rfl ?_
      refine J_iload (pc := 47) C dX3_spells_47 3 rfl ?_
      refine J_strch (pc := 49) (st := [.int (g_this_bytes (x2 + x4).toNatClampNeg)]) C dX3_spells_49 ml_RX3_24 h ⟨(Nat.le_of_ble_eq_true rfl), (Nat.le_of_ble_eq_true rfl)⟩ ⟨Nat.zero_le _, Nat.zero_le _⟩ (Nat.le_of_ble_eq_true rfl) (fun r49 h => ?_)
      refine J_ic_eq (pc := 52) (tgt := 57) C dX3_spells_52 (by decide) h (fun h => ?_) (fun h => ?_)
      · refine J_iincN (pc := 57) (v := (1 : Int32)) C (fun y57 => [(4, .int y57), (0, .ref a_this), (1, .ref (pf x1)), (2, .int x2)]) dX3_spells_57 3 rfl (by decide) h (by decide) (fun _ => rfl) (fun y57 h => ?_)
        refine J_goto (tgt := 28) (pc := 60) C dX3_spells_60 (by decide) ?_
        refine J_sub (lv2 := [(0, .ref a_this), (1, .ref (pf x1)), (2, .int x2), (4, .int y57)]) [1, 2, 3, 0] rfl ?_
        exact ih _ h
      · refine J_iconst (v := (0 : Int32)) (pc := 55) C dX3_spells_55 (by decide) ?_
        cases h
        exact J_zret (pc := 56) C dX3_spells_56 hr rfl ⟨rfl, rfl⟩
set_option maxHeartbeats 4000000 in
set_option maxRecDepth 100000 in
theorem c_X3_spells (l : Launch) (D : va_G) (cI cB cL cO : ClassId) (pf : Nat → Nat) (N : Nat) (a_this a_this_bytes : Nat) (n_this_bytes : Nat) (v_this_length : Int32) (g_this_bytes : Nat → Int32) (x1 : Nat) (x2 : Int32) (x3 : Int32) (o : Int32) (h : f_X3_spells N x1 x2 x3 n_this_bytes g_this_bytes = some o) : Ct l D [(cI, .int), (cB, .byte), (cL, .byte), (cO, .object RX0)] pf yX3_spells cX3_spells 5 (some FieldType.boolean) { frames := 4, cells := 0, slots := 0, locals := 85 } [.ref a_this, .ref (pf x1), .int x2, .int x3] [(a_this, .inr (3, [.ref a_this_bytes, .int v_this_length])), (a_this_bytes, .inl (cI, n_this_bytes, .inl g_this_bytes))] (is1 (some (.int o)) [(a_this, .inr (3, [.ref a_this_bytes, .int v_this_length])), (a_this_bytes, .inl (cI, n_this_bytes, .inl g_this_bytes))]) := by
  refine Ct_of (own := RX3) (lv0 := [(0, .ref a_this), (1, .ref (pf x1)), (2, .int x2), (3, .int x3)]) (by decide) rfl rfl (Nat.le_of_ble_eq_true rfl) ?_
  intro p e s m args below meth c C hr hnm
  unfold f_X3_spells at h
  refine J_iload_n (pc := 0) C dX3_spells_0 3 rfl ?_
  refine J_iload_n (pc := 1) C dX3_spells_1 2 rfl ?_
  refine J_isub (pc := 2) C dX3_spells_2 ?_
  refine J_aload_n (pc := 3) C dX3_spells_3 1 rfl ?_
  refine J_strlen (pc := 4) (st := [.int (x3 - x2)]) C dX3_spells_4 ml_RX3_19 h ⟨(Nat.le_of_ble_eq_true rfl), (Nat.le_of_ble_eq_true rfl)⟩ ⟨Nat.zero_le _, Nat.zero_le _⟩ (Nat.le_of_ble_eq_true rfl) (fun r4 h => ?_)
  refine J_ic_ne (pc := 7) (tgt := 23) C dX3_spells_7 (by decide) h (fun h => ?_) (fun h => ?_)
  · refine J_iconst (v := (0 : Int32)) (pc := 23) C dX3_spells_23 (by decide) ?_
    cases h
    exact J_zret (pc := 24) C dX3_spells_24 hr rfl ⟨rfl, rfl⟩
  · refine J_iload_n (pc := 10) C dX3_spells_10 2 rfl ?_
    refine J_if_lt (pc := 11) (tgt := 23) C dX3_spells_11 (by decide) h (fun h => ?_) (fun h => ?_)
    · refine J_iconst (v := (0 : Int32)) (pc := 23) C dX3_spells_23 (by decide) ?_
      cases h
      exact J_zret (pc := 24) C dX3_spells_24 hr rfl ⟨rfl, rfl⟩
    · refine J_iload_n (pc := 14) C dX3_spells_14 3 rfl ?_
      refine J_aload_n (pc := 15) C dX3_spells_15 0 rfl ?_
      refine J_get (pc := 16) C dX3_spells_16 jf_X3 0 rfl rfl 0 (by decide) rfl fl_RX3_9 rfl ?_
      refine J_alen (pc := 19) C dX3_spells_19 1 0 rfl rfl ?_
      refine J_ic_le (pc := 20) (tgt := 25) C dX3_spells_20 (by decide) h (fun h => ?_) (fun h => ?_)
      · refine J_iconst (v := (0 : Int32)) (pc := 25) C dX3_spells_25 (by decide) ?_
        refine J_istore (lv2 := [(4, .int (0 : Int32)), (0, .ref a_this), (1, .ref (pf x1)), (2, .int x2), (3, .int x3)]) (pc := 26) C dX3_spells_26 (by decide) rfl ?_
        refine J_sub (lv2 := [(0, .ref a_this), (1, .ref (pf x1)), (2, .int x2), (4, .int (0 : Int32))]) [1, 2, 3, 0] rfl ?_
        exact t_X3_spells_b28 C hr N _ h
      · refine J_iconst (v := (0 : Int32)) (pc := 23) C dX3_spells_23 (by decide) ?_
        cases h
        exact J_zret (pc := 24) C dX3_spells_24 hr rfl ⟨rfl, rfl⟩
-- PointsLedger$InputBuffer.nameCode(II)I
theorem dX3_nameCode_0 : decode cX3_nameCode 0 = .ok (.iload_n 2, 1) := by decide +kernel
theorem dX3_nameCode_1 : decode cX3_nameCode 1 = .ok (.iload_n 1, 1) := by decide +kernel
theorem dX3_nameCode_2 : decode cX3_nameCode 2 = .ok (.if_icmp .le 11, 3) := by decide +kernel
theorem dX3_nameCode_5 : decode cX3_nameCode 5 = .ok (.iload_n 2, 1) := by decide +kernel
theorem dX3_nameCode_6 : decode cX3_nameCode 6 = .ok (.iload_n 1, 1) := by decide +kernel
theorem dX3_nameCode_7 : decode cX3_nameCode 7 = .ok (.isub, 1) := by decide +kernel
theorem dX3_nameCode_8 : decode cX3_nameCode 8 = .ok (.bipush 6, 2) := by decide +kernel
theorem dX3_nameCode_10 : decode cX3_nameCode 10 = .ok (.if_icmp .le 5, 3) := by decide +kernel
theorem dX3_nameCode_13 : decode cX3_nameCode 13 = .ok (.iconst 0, 1) := by decide +kernel
theorem dX3_nameCode_14 : decode cX3_nameCode 14 = .ok (.ireturn, 1) := by decide +kernel
theorem dX3_nameCode_15 : decode cX3_nameCode 15 = .ok (.iconst 0, 1) := by decide +kernel
theorem dX3_nameCode_16 : decode cX3_nameCode 16 = .ok (.istore_n 3, 1) := by decide +kernel
theorem dX3_nameCode_17 : decode cX3_nameCode 17 = .ok (.iload_n 1, 1) := by decide +kernel
theorem dX3_nameCode_18 : decode cX3_nameCode 18 = .ok (.istore 4, 2) := by decide +kernel
theorem dX3_nameCode_20 : decode cX3_nameCode 20 = .ok (.iload 4, 2) := by decide +kernel
theorem dX3_nameCode_22 : decode cX3_nameCode 22 = .ok (.iload_n 1, 1) := by decide +kernel
theorem dX3_nameCode_23 : decode cX3_nameCode 23 = .ok (.bipush 6, 2) := by decide +kernel
theorem dX3_nameCode_25 : decode cX3_nameCode 25 = .ok (.iadd, 1) := by decide +kernel
theorem dX3_nameCode_26 : decode cX3_nameCode 26 = .ok (.if_icmp .ge 55, 3) := by decide +kernel
theorem dX3_nameCode_29 : decode cX3_nameCode 29 = .ok (.iload 4, 2) := by decide +kernel
theorem dX3_nameCode_31 : decode cX3_nameCode 31 = .ok (.iload_n 2, 1) := by decide +kernel
theorem dX3_nameCode_32 : decode cX3_nameCode 32 = .ok (.if_icmp .ge 17, 3) := by decide +kernel
theorem dX3_nameCode_35 : decode cX3_nameCode 35 = .ok (.aload_n 0, 1) := by decide +kernel
theorem dX3_nameCode_36 : decode cX3_nameCode 36 = .ok (.iload 4, 2) := by decide +kernel
theorem dX3_nameCode_38 : decode cX3_nameCode 38 = .ok (.invokevirtual 28, 3) := by decide +kernel
theorem dX3_nameCode_41 : decode cX3_nameCode 41 = .ok (.sipush 256, 3) := by decide +kernel
theorem dX3_nameCode_44 : decode cX3_nameCode 44 = .ok (.if_icmp .eq 5, 3) := by decide +kernel
theorem dX3_nameCode_47 : decode cX3_nameCode 47 = .ok (.iconst 0, 1) := by decide +kernel
theorem dX3_nameCode_48 : decode cX3_nameCode 48 = .ok (.ireturn, 1) := by decide +kernel
theorem dX3_nameCode_49 : decode cX3_nameCode 49 = .ok (.iload_n 3, 1) := by decide +kernel
theorem dX3_nameCode_50 : decode cX3_nameCode 50 = .ok (.iconst 5, 1) := by decide +kernel
theorem dX3_nameCode_51 : decode cX3_nameCode 51 = .ok (.ishl, 1) := by decide +kernel
theorem dX3_nameCode_52 : decode cX3_nameCode 52 = .ok (.iload 4, 2) := by decide +kernel
theorem dX3_nameCode_54 : decode cX3_nameCode 54 = .ok (.iload_n 2, 1) := by decide +kernel
theorem dX3_nameCode_55 : decode cX3_nameCode 55 = .ok (.if_icmp .ge 17, 3) := by decide +kernel
theorem dX3_nameCode_58 : decode cX3_nameCode 58 = .ok (.aload_n 0, 1) := by decide +kernel
theorem dX3_nameCode_59 : decode cX3_nameCode 59 = .ok (.iload 4, 2) := by decide +kernel
theorem dX3_nameCode_61 : decode cX3_nameCode 61 = .ok (.invokevirtual 32, 3) := by decide +kernel
theorem dX3_nameCode_64 : decode cX3_nameCode 64 = .ok (.bipush 97, 2) := by decide +kernel
theorem dX3_nameCode_66 : decode cX3_nameCode 66 = .ok (.isub, 1) := by decide +kernel
theorem dX3_nameCode_67 : decode cX3_nameCode 67 = .ok (.iconst 1, 1) := by decide +kernel
theorem dX3_nameCode_68 : decode cX3_nameCode 68 = .ok (.iadd, 1) := by decide +kernel
theorem dX3_nameCode_69 : decode cX3_nameCode 69 = .ok (.goto 4, 3) := by decide +kernel
theorem dX3_nameCode_72 : decode cX3_nameCode 72 = .ok (.iconst 0, 1) := by decide +kernel
theorem dX3_nameCode_73 : decode cX3_nameCode 73 = .ok (.ior, 1) := by decide +kernel
theorem dX3_nameCode_74 : decode cX3_nameCode 74 = .ok (.istore_n 3, 1) := by decide +kernel
theorem dX3_nameCode_75 : decode cX3_nameCode 75 = .ok (.iinc 4 1, 3) := by decide +kernel
theorem dX3_nameCode_78 : decode cX3_nameCode 78 = .ok (.goto (-58), 3) := by decide +kernel
theorem dX3_nameCode_81 : decode cX3_nameCode 81 = .ok (.iload_n 3, 1) := by decide +kernel
theorem dX3_nameCode_82 : decode cX3_nameCode 82 = .ok (.ireturn, 1) := by decide +kernel
def f_X3_nameCode_b49 (k_20 : (Int32) → (Int32) → Option (Int32)) (x2 : Int32) (x3 : Int32) (x4 : Int32) (n_this_bytes : Nat) (v_this_length : Int32) (g_this_bytes : Nat → Int32) : Option (Int32) :=
  (if x2 ≤ x4 then ((some ((x3 <<< ((5 : Int32) &&& 31)) ||| (0 : Int32))).bind fun y74 => ((some (x4 + (1 : Int32))).bind fun y75 => (k_20 y74 y75))) else ((f_X3_byteAt x4 n_this_bytes v_this_length g_this_bytes).bind fun r61 => ((some ((x3 <<< ((5 : Int32) &&& 31)) ||| ((r61 - (97 : Int32)) + (1 : Int32)))).bind fun y74 => ((some (x4 + (1 : Int32))).bind fun y75 => (k_20 y74 y75)))))
def f_X3_nameCode_b20 (x1 : Int32) (x2 : Int32) (n_this_bytes : Nat) (v_this_length : Int32) (g_this_bytes : Nat → Int32) : Nat → (Int32) → (Int32) → Option (Int32)
  | 0, _, _ => none
  | n + 1, x3, x4 => (if (x1 + (6 : Int32)) ≤ x4 then (some x3) else (if x2 ≤ x4 then (f_X3_nameCode_b49 (f_X3_nameCode_b20 x1 x2 n_this_bytes v_this_length g_this_bytes n) x2 x3 x4 n_this_bytes v_this_length g_this_bytes) else ((f_X3_tokenAt x4 n_this_bytes v_this_length g_this_bytes).bind fun r38 => (if r38 = (256 : Int32) then (f_X3_nameCode_b49 (f_X3_nameCode_b20 x1 x2 n_this_bytes v_this_length g_this_bytes n) x2 x3 x4 n_this_bytes v_this_length g_this_bytes) else (some (0 : Int32))))))
def f_X3_nameCode (N : Nat) (x1 : Int32) (x2 : Int32) (n_this_bytes : Nat) (v_this_length : Int32) (g_this_bytes : Nat → Int32) : Option (Int32) :=
  (if x2 ≤ x1 then (some (0 : Int32)) else (if (x2 - x1) ≤ (6 : Int32) then (f_X3_nameCode_b20 x1 x2 n_this_bytes v_this_length g_this_bytes N (0 : Int32) x1) else (some (0 : Int32))))
set_option maxHeartbeats 4000000 in
set_option maxRecDepth 100000 in
theorem t_X3_nameCode_b49 {l : Launch} {D : va_G} {cI cB cL cO : ClassId} {pf : Nat → Nat} {p : Program} {e : Env} {s : State} {m : MethodId} {args : Array Value} {below : List Frame} {meth : Method} {c : Code} {W0 : va_W} {a_this a_this_bytes : Nat}  {n_this_bytes : Nat} {v_this_length : Int32} {g_this_bytes : Nat → Int32} {x1 : Int32} {x2 : Int32} {x3 : Int32} {x4 : Int32} {o : Int32} (C : jC p s m args meth c cX3_nameCode 5 RX3 D [(cI, .int), (cB, .byte), (cL, .byte), (cO, .object RX0)] pf (va_A W0 s.heap.size)) (hr : meth.sig.returnType = (some FieldType.int)) {k_20 : (Int32) → (Int32) → Option (Int32)} (hk_20 : ∀ (x3 : Int32) (x4 : Int32), k_20 x3 x4 = some o → J p l e { frames := 1, cells := 0, slots := 0, locals := 22 } s m args below meth c 5 D (va_A W0 s.heap.size) (MQ below (jQ D [(cI, .int), (cB, .byte), (cL, .byte), (cO, .object RX0)] W0 s.heap.size (is1 (some (.int o)) [(a_this, .inr (3, [.ref a_this_bytes, .int v_this_length])), (a_this_bytes, .inl (cI, n_this_bytes, .inl g_this_bytes))])) args s 0 0 (va_A W0 s.heap.size)) 0 0 20 [(0, .ref a_this), (1, .int x1), (2, .int x2), (3, .int x3), (4, .int x4)] [] [(a_this, .inr (3, [.ref a_this_bytes, .int v_this_length])), (a_this_bytes, .inl (cI, n_this_bytes, .inl g_this_bytes))]) (h : f_X3_nameCode_b49 k_20 x2 x3 x4 n_this_bytes v_this_length g_this_bytes = some o) : J p l e { frames := 1, cells := 0, slots := 0, locals := 22 } s m args below meth c 5 D (va_A W0 s.heap.size) (MQ below (jQ D [(cI, .int), (cB, .byte), (cL, .byte), (cO, .object RX0)] W0 s.heap.size (is1 (some (.int o)) [(a_this, .inr (3, [.ref a_this_bytes, .int v_this_length])), (a_this_bytes, .inl (cI, n_this_bytes, .inl g_this_bytes))])) args s 0 0 (va_A W0 s.heap.size)) 0 0 49 [(0, .ref a_this), (1, .int x1), (2, .int x2), (3, .int x3), (4, .int x4)] [] [(a_this, .inr (3, [.ref a_this_bytes, .int v_this_length])), (a_this_bytes, .inl (cI, n_this_bytes, .inl g_this_bytes))] := by
  unfold f_X3_nameCode_b49 at h
  refine J_iload_n (pc := 49) C dX3_nameCode_49 3 rfl ?_
  refine J_iconst (v := (5 : Int32)) (pc := 50) C dX3_nameCode_50 (by decide) ?_
  refine J_ishl (pc := 51) C dX3_nameCode_51 ?_
  refine J_iload (pc := 52) C dX3_nameCode_52 4 rfl ?_
  refine J_iload_n (pc := 54) C dX3_nameCode_54 2 rfl ?_
  refine J_ic_ge (pc := 55) (tgt := 72) C dX3_nameCode_55 (by decide) h (fun h => ?_) (fun h => ?_)
  · refine J_iconst (v := (0 : Int32)) (pc := 72) C dX3_nameCode_72 (by decide) ?_
    refine J_ior (pc := 73) C dX3_nameCode_73 ?_
    refine J_istore_nN (pc := 74) C (fun y74 => [(3, .int y74), (0, .ref a_this), (1, .int x1), (2, .int x2), (4, .int x4)]) dX3_nameCode_74 h (by decide) (fun _ => rfl) (fun y74 h => ?_)
    refine J_iincN (pc := 75) (v := (1 : Int32)) C (fun y75 => [(4, .int y75), (3, .int y74), (0, .ref a_this), (1, .int x1), (2, .int x2)]) dX3_nameCode_75 4 rfl (by decide) h (by decide) (fun _ => rfl) (fun y75 h => ?_)
    refine J_goto (tgt := 20) (pc := 78) C dX3_nameCode_78 (by decide) ?_
    refine J_sub (lv2 := [(0, .ref a_this), (1, .int x1), (2, .int x2), (3, .int y74), (4, .int y75)]) [2, 3, 4, 1, 0] rfl ?_
    exact hk_20 _ _ h
  · refine J_aload_n (pc := 58) C dX3_nameCode_58 0 rfl ?_
    refine J_iload (pc := 59) C dX3_nameCode_59 4 rfl ?_
    refine J_cvr (pc := 61) (As := [.int x4]) (st := [.int (x3 <<< ((5 : Int32) &&& 31))]) C dX3_nameCode_61 ml_RX3_32 mi_yX3_byteAt (fun r61 hr => c_X3_byteAt l D cI cB cL cO pf 0 a_this a_this_bytes n_this_bytes v_this_length g_this_bytes x4 r61 hr) h [0, 1] rfl rfl rfl rfl rfl ⟨rfl, rfl⟩ ⟨(Nat.le_of_ble_eq_true rfl), (Nat.le_of_ble_eq_true rfl)⟩ ⟨Nat.zero_le _, Nat.zero_le _⟩ (Nat.le_of_ble_eq_true rfl) (fun r61 h => ?_)
    refine J_bipush (v := (97 : Int32)) (pc := 64) C dX3_nameCode_64 (by decide) ?_
    refine J_isub (pc := 66) C dX3_nameCode_66 ?_
    refine J_iconst (v := (1 : Int32)) (pc := 67) C dX3_nameCode_67 (by decide) ?_
    refine J_iadd (pc := 68) C dX3_nameCode_68 ?_
    refine J_goto (tgt := 73) (pc := 69) C dX3_nameCode_69 (by decide) ?_
    refine J_ior (pc := 73) C dX3_nameCode_73 ?_
    refine J_istore_nN (pc := 74) C (fun y74 => [(3, .int y74), (0, .ref a_this), (1, .int x1), (2, .int x2), (4, .int x4)]) dX3_nameCode_74 h (by decide) (fun _ => rfl) (fun y74 h => ?_)
    refine J_iincN (pc := 75) (v := (1 : Int32)) C (fun y75 => [(4, .int y75), (3, .int y74), (0, .ref a_this), (1, .int x1), (2, .int x2)]) dX3_nameCode_75 4 rfl (by decide) h (by decide) (fun _ => rfl) (fun y75 h => ?_)
    refine J_goto (tgt := 20) (pc := 78) C dX3_nameCode_78 (by decide) ?_
    refine J_sub (lv2 := [(0, .ref a_this), (1, .int x1), (2, .int x2), (3, .int y74), (4, .int y75)]) [2, 3, 4, 1, 0] rfl ?_
    exact hk_20 _ _ h
set_option maxHeartbeats 4000000 in
set_option maxRecDepth 100000 in
theorem t_X3_nameCode_b20 {l : Launch} {D : va_G} {cI cB cL cO : ClassId} {pf : Nat → Nat} {p : Program} {e : Env} {s : State} {m : MethodId} {args : Array Value} {below : List Frame} {meth : Method} {c : Code} {W0 : va_W} {a_this a_this_bytes : Nat}  {n_this_bytes : Nat} {v_this_length : Int32} {g_this_bytes : Nat → Int32} {x1 : Int32} {x2 : Int32} {o : Int32} (C : jC p s m args meth c cX3_nameCode 5 RX3 D [(cI, .int), (cB, .byte), (cL, .byte), (cO, .object RX0)] pf (va_A W0 s.heap.size)) (hr : meth.sig.returnType = (some FieldType.int)) : ∀ (n : Nat) (x3 : Int32) (x4 : Int32), f_X3_nameCode_b20 x1 x2 n_this_bytes v_this_length g_this_bytes n x3 x4 = some o → J p l e { frames := 1, cells := 0, slots := 0, locals := 22 } s m args below meth c 5 D (va_A W0 s.heap.size) (MQ below (jQ D [(cI, .int), (cB, .byte), (cL, .byte), (cO, .object RX0)] W0 s.heap.size (is1 (some (.int o)) [(a_this, .inr (3, [.ref a_this_bytes, .int v_this_length])), (a_this_bytes, .inl (cI, n_this_bytes, .inl g_this_bytes))])) args s 0 0 (va_A W0 s.heap.size)) 0 0 20 [(0, .ref a_this), (1, .int x1), (2, .int x2), (3, .int x3), (4, .int x4)] [] [(a_this, .inr (3, [.ref a_this_bytes, .int v_this_length])), (a_this_bytes, .inl (cI, n_this_bytes, .inl g_this_bytes))] := by
  intro n
  induction n with
  | zero =>
    intro _ _ h
    rw [f_X3_nameCode_b20] at h
    cases h
  | succ n ih =>
    intro x3 x4 h
    rw [f_X3_nameCode_b20] at h
    refine J_iload (pc := 20) C dX3_nameCode_20 4 rfl ?_
    refine J_iload_n (pc := 22) C dX3_nameCode_22 1 rfl ?_
    refine J_bipush (v := (6 : Int32)) (pc := 23) C dX3_nameCode_23 (by decide) ?_
    refine J_iadd (pc := 25) C dX3_nameCode_25 ?_
    refine J_ic_ge (pc := 26) (tgt := 81) C dX3_nameCode_26 (by decide) h (fun h => ?_) (fun h => ?_)
    · refine J_iload_n (pc := 81) C dX3_nameCode_81 3 rfl ?_
      cases h
      exact J_iret (pc := 82) C dX3_nameCode_82 hr ⟨rfl, rfl⟩
    · refine J_iload (pc := 29) C dX3_nameCode_29 4 rfl ?_
      refine J_iload_n (pc := 31) C dX3_nameCode_31 2 rfl ?_
      refine J_ic_ge (pc := 32) (tgt := 49) C dX3_nameCode_32 (by decide) h (fun h => ?_) (fun h => ?_)
      · exact t_X3_nameCode_b49 C hr ih h
      · refine J_aload_n (pc := 35) C dX3_nameCode_35 0 rfl ?_
        refine J_iload (pc := 36) C dX3_nameCode_36 4 rfl ?_
        refine J_cvr (pc := 38) (As := [.int x4]) (st := []) C dX3_nameCode_38 ml_RX3_28 mi_yX3_tokenAt (fun r38 hr => c_X3_tokenAt l D cI cB cL cO pf 0 a_this a_this_bytes n_this_bytes v_this_length g_this_bytes x4 r38 hr) h [0, 1] rfl rfl rfl rfl rfl ⟨rfl, rfl⟩ ⟨(Nat.le_of_ble_eq_true rfl), (Nat.le_of_ble_eq_true rfl)⟩ ⟨Nat.zero_le _, Nat.zero_le _⟩ (Nat.le_of_ble_eq_true rfl) (fun r38 h => ?_)
        refine J_sipush (v := (256 : Int32)) (pc := 41) C dX3_nameCode_41 (by decide) ?_
        refine J_ic_eq (pc := 44) (tgt := 49) C dX3_nameCode_44 (by decide) h (fun h => ?_) (fun h => ?_)
        · exact t_X3_nameCode_b49 C hr ih h
        · refine J_iconst (v := (0 : Int32)) (pc := 47) C dX3_nameCode_47 (by decide) ?_
          cases h
          exact J_iret (pc := 48) C dX3_nameCode_48 hr ⟨rfl, rfl⟩
set_option maxHeartbeats 4000000 in
set_option maxRecDepth 100000 in
theorem c_X3_nameCode (l : Launch) (D : va_G) (cI cB cL cO : ClassId) (pf : Nat → Nat) (N : Nat) (a_this a_this_bytes : Nat) (n_this_bytes : Nat) (v_this_length : Int32) (g_this_bytes : Nat → Int32) (x1 : Int32) (x2 : Int32) (o : Int32) (h : f_X3_nameCode N x1 x2 n_this_bytes v_this_length g_this_bytes = some o) : Ct l D [(cI, .int), (cB, .byte), (cL, .byte), (cO, .object RX0)] pf yX3_nameCode cX3_nameCode 5 (some FieldType.int) { frames := 1, cells := 0, slots := 0, locals := 22 } [.ref a_this, .int x1, .int x2] [(a_this, .inr (3, [.ref a_this_bytes, .int v_this_length])), (a_this_bytes, .inl (cI, n_this_bytes, .inl g_this_bytes))] (is1 (some (.int o)) [(a_this, .inr (3, [.ref a_this_bytes, .int v_this_length])), (a_this_bytes, .inl (cI, n_this_bytes, .inl g_this_bytes))]) := by
  refine Ct_of (own := RX3) (lv0 := [(0, .ref a_this), (1, .int x1), (2, .int x2)]) (by decide) rfl rfl (Nat.le_of_ble_eq_true rfl) ?_
  intro p e s m args below meth c C hr hnm
  unfold f_X3_nameCode at h
  refine J_iload_n (pc := 0) C dX3_nameCode_0 2 rfl ?_
  refine J_iload_n (pc := 1) C dX3_nameCode_1 1 rfl ?_
  refine J_ic_le (pc := 2) (tgt := 13) C dX3_nameCode_2 (by decide) h (fun h => ?_) (fun h => ?_)
  · refine J_iconst (v := (0 : Int32)) (pc := 13) C dX3_nameCode_13 (by decide) ?_
    cases h
    exact J_iret (pc := 14) C dX3_nameCode_14 hr ⟨rfl, rfl⟩
  · refine J_iload_n (pc := 5) C dX3_nameCode_5 2 rfl ?_
    refine J_iload_n (pc := 6) C dX3_nameCode_6 1 rfl ?_
    refine J_isub (pc := 7) C dX3_nameCode_7 ?_
    refine J_bipush (v := (6 : Int32)) (pc := 8) C dX3_nameCode_8 (by decide) ?_
    refine J_ic_le (pc := 10) (tgt := 15) C dX3_nameCode_10 (by decide) h (fun h => ?_) (fun h => ?_)
    · refine J_iconst (v := (0 : Int32)) (pc := 15) C dX3_nameCode_15 (by decide) ?_
      refine J_istore_n (lv2 := [(3, .int (0 : Int32)), (0, .ref a_this), (1, .int x1), (2, .int x2)]) (pc := 16) C dX3_nameCode_16 (by decide) rfl ?_
      refine J_iload_n (pc := 17) C dX3_nameCode_17 2 rfl ?_
      refine J_istore (lv2 := [(4, .int x1), (3, .int (0 : Int32)), (0, .ref a_this), (1, .int x1), (2, .int x2)]) (pc := 18) C dX3_nameCode_18 (by decide) rfl ?_
      refine J_sub (lv2 := [(0, .ref a_this), (1, .int x1), (2, .int x2), (3, .int (0 : Int32)), (4, .int x1)]) [2, 3, 4, 1, 0] rfl ?_
      exact t_X3_nameCode_b20 C hr N _ _ h
    · refine J_iconst (v := (0 : Int32)) (pc := 13) C dX3_nameCode_13 (by decide) ?_
      cases h
      exact J_iret (pc := 14) C dX3_nameCode_14 hr ⟨rfl, rfl⟩
-- PointsLedger$LogBook.size()I
theorem dX4_size_0 : decode cX4_size 0 = .ok (.aload_n 0, 1) := by decide +kernel
theorem dX4_size_1 : decode cX4_size 1 = .ok (.getfield 24, 3) := by decide +kernel
theorem dX4_size_4 : decode cX4_size 4 = .ok (.ireturn, 1) := by decide +kernel
def f_X4_size (v_this_size : Int32) : Option (Int32) :=
  (some v_this_size)
set_option maxHeartbeats 4000000 in
set_option maxRecDepth 100000 in
theorem c_X4_size (l : Launch) (D : va_G) (cI cB cL cO : ClassId) (pf : Nat → Nat) (N : Nat) (a_this a_this_parts : Nat) (v_this_next : Int32) (v_this_size : Int32) (o : Int32) (h : f_X4_size v_this_size = some o) : Ct l D [(cI, .int), (cB, .byte), (cL, .byte), (cO, .object RX0)] pf yX4_size cX4_size 1 (some FieldType.int) { frames := 0, cells := 0, slots := 0, locals := 0 } [.ref a_this] [(a_this, .inr (4, [.ref a_this_parts, .int v_this_next, .int v_this_size]))] (is1 (some (.int o)) [(a_this, .inr (4, [.ref a_this_parts, .int v_this_next, .int v_this_size]))]) := by
  refine Ct_of (own := RX4) (lv0 := [(0, .ref a_this)]) (by decide) rfl rfl (Nat.le_of_ble_eq_true rfl) ?_
  intro p e s m args below meth c C hr hnm
  unfold f_X4_size at h
  refine J_aload_n (pc := 0) C dX4_size_0 0 rfl ?_
  refine J_get (pc := 1) C dX4_size_1 jf_X4 0 rfl rfl 2 (by decide) rfl fl_RX4_24 rfl ?_
  cases h
  exact J_iret (pc := 4) C dX4_size_4 hr ⟨rfl, rfl⟩
-- PointsLedger$LogBook.part(II)I
theorem dX4_part_0 : decode cX4_part 0 = .ok (.aload_n 0, 1) := by decide +kernel
theorem dX4_part_1 : decode cX4_part 1 = .ok (.getfield 20, 3) := by decide +kernel
theorem dX4_part_4 : decode cX4_part 4 = .ok (.iconst 1, 1) := by decide +kernel
theorem dX4_part_5 : decode cX4_part 5 = .ok (.isub, 1) := by decide +kernel
theorem dX4_part_6 : decode cX4_part 6 = .ok (.iload_n 1, 1) := by decide +kernel
theorem dX4_part_7 : decode cX4_part 7 = .ok (.isub, 1) := by decide +kernel
theorem dX4_part_8 : decode cX4_part 8 = .ok (.istore_n 3, 1) := by decide +kernel
theorem dX4_part_9 : decode cX4_part 9 = .ok (.aload_n 0, 1) := by decide +kernel
theorem dX4_part_10 : decode cX4_part 10 = .ok (.getfield 14, 3) := by decide +kernel
theorem dX4_part_13 : decode cX4_part 13 = .ok (.iload_n 3, 1) := by decide +kernel
theorem dX4_part_14 : decode cX4_part 14 = .ok (.ifCond .ge 10, 3) := by decide +kernel
theorem dX4_part_17 : decode cX4_part 17 = .ok (.iload_n 3, 1) := by decide +kernel
theorem dX4_part_18 : decode cX4_part 18 = .ok (.bipush 30, 2) := by decide +kernel
theorem dX4_part_20 : decode cX4_part 20 = .ok (.iadd, 1) := by decide +kernel
theorem dX4_part_21 : decode cX4_part 21 = .ok (.goto 4, 3) := by decide +kernel
theorem dX4_part_24 : decode cX4_part 24 = .ok (.iload_n 3, 1) := by decide +kernel
theorem dX4_part_25 : decode cX4_part 25 = .ok (.iconst 4, 1) := by decide +kernel
theorem dX4_part_26 : decode cX4_part 26 = .ok (.imul, 1) := by decide +kernel
theorem dX4_part_27 : decode cX4_part 27 = .ok (.iload_n 2, 1) := by decide +kernel
theorem dX4_part_28 : decode cX4_part 28 = .ok (.iadd, 1) := by decide +kernel
theorem dX4_part_29 : decode cX4_part 29 = .ok (.invokevirtual 31, 3) := by decide +kernel
theorem dX4_part_32 : decode cX4_part 32 = .ok (.ireturn, 1) := by decide +kernel
def f_X4_part_b25 (x2 : Int32) (s1 : Int32) (n_this_parts_cells : Nat) (g_this_parts_cells : Nat → Int32) : Option (Int32) :=
  ((f_X6_at ((s1 * (4 : Int32)) + x2) n_this_parts_cells g_this_parts_cells).bind fun r29 => (some r29))
def f_X4_part (x1 : Int32) (x2 : Int32) (n_this_parts_cells : Nat) (v_this_next : Int32) (g_this_parts_cells : Nat → Int32) : Option (Int32) :=
  ((some ((v_this_next - (1 : Int32)) - x1)).bind fun y8 => (if 0 ≤ y8 then (f_X4_part_b25 x2 y8 n_this_parts_cells g_this_parts_cells) else (f_X4_part_b25 x2 (y8 + (30 : Int32)) n_this_parts_cells g_this_parts_cells)))
set_option maxHeartbeats 4000000 in
set_option maxRecDepth 100000 in
theorem t_X4_part_b25 {l : Launch} {D : va_G} {cI cB cL cO : ClassId} {pf : Nat → Nat} {p : Program} {e : Env} {s : State} {m : MethodId} {args : Array Value} {below : List Frame} {meth : Method} {c : Code} {W0 : va_W} {a_this a_this_parts a_this_parts_cells : Nat}  {n_this_parts_cells : Nat} {v_this_next : Int32} {v_this_size : Int32} {g_this_parts_cells : Nat → Int32} {x2 : Int32} {s1 : Int32} {o : Int32} (C : jC p s m args meth c cX4_part 4 RX4 D [(cI, .int), (cB, .byte), (cL, .byte), (cO, .object RX0)] pf (va_A W0 s.heap.size)) (hr : meth.sig.returnType = (some FieldType.int)) (h : f_X4_part_b25 x2 s1 n_this_parts_cells g_this_parts_cells = some o) : J p l e { frames := 1, cells := 0, slots := 0, locals := 21 } s m args below meth c 4 D (va_A W0 s.heap.size) (MQ below (jQ D [(cI, .int), (cB, .byte), (cL, .byte), (cO, .object RX0)] W0 s.heap.size (is1 (some (.int o)) [(a_this, .inr (4, [.ref a_this_parts, .int v_this_next, .int v_this_size])), (a_this_parts, .inr (6, [.ref a_this_parts_cells])), (a_this_parts_cells, .inl (cI, n_this_parts_cells, .inl g_this_parts_cells))])) args s 0 0 (va_A W0 s.heap.size)) 0 0 25 [(2, .int x2)] [.int s1, .ref a_this_parts] [(a_this, .inr (4, [.ref a_this_parts, .int v_this_next, .int v_this_size])), (a_this_parts, .inr (6, [.ref a_this_parts_cells])), (a_this_parts_cells, .inl (cI, n_this_parts_cells, .inl g_this_parts_cells))] := by
  unfold f_X4_part_b25 at h
  refine J_iconst (v := (4 : Int32)) (pc := 25) C dX4_part_25 (by decide) ?_
  refine J_imul (pc := 26) C dX4_part_26 ?_
  refine J_iload_n (pc := 27) C dX4_part_27 0 rfl ?_
  refine J_iadd (pc := 28) C dX4_part_28 ?_
  refine J_cvr (pc := 29) (As := [.int ((s1 * (4 : Int32)) + x2)]) (st := []) C dX4_part_29 ml_RX4_31 mi_yX6_at (fun r29 hr => c_X6_at l D cI cB cL cO pf 0 a_this_parts a_this_parts_cells n_this_parts_cells g_this_parts_cells ((s1 * (4 : Int32)) + x2) r29 hr) h [1, 2] rfl rfl rfl rfl rfl ⟨rfl, rfl⟩ ⟨(Nat.le_of_ble_eq_true rfl), (Nat.le_of_ble_eq_true rfl)⟩ ⟨Nat.zero_le _, Nat.zero_le _⟩ (Nat.le_of_ble_eq_true rfl) (fun r29 h => ?_)
  cases h
  exact J_iret (pc := 32) C dX4_part_32 hr ⟨rfl, rfl⟩
set_option maxHeartbeats 4000000 in
set_option maxRecDepth 100000 in
theorem c_X4_part (l : Launch) (D : va_G) (cI cB cL cO : ClassId) (pf : Nat → Nat) (N : Nat) (a_this a_this_parts a_this_parts_cells : Nat) (n_this_parts_cells : Nat) (v_this_next : Int32) (v_this_size : Int32) (g_this_parts_cells : Nat → Int32) (x1 : Int32) (x2 : Int32) (o : Int32) (h : f_X4_part x1 x2 n_this_parts_cells v_this_next g_this_parts_cells = some o) : Ct l D [(cI, .int), (cB, .byte), (cL, .byte), (cO, .object RX0)] pf yX4_part cX4_part 4 (some FieldType.int) { frames := 1, cells := 0, slots := 0, locals := 21 } [.ref a_this, .int x1, .int x2] [(a_this, .inr (4, [.ref a_this_parts, .int v_this_next, .int v_this_size])), (a_this_parts, .inr (6, [.ref a_this_parts_cells])), (a_this_parts_cells, .inl (cI, n_this_parts_cells, .inl g_this_parts_cells))] (is1 (some (.int o)) [(a_this, .inr (4, [.ref a_this_parts, .int v_this_next, .int v_this_size])), (a_this_parts, .inr (6, [.ref a_this_parts_cells])), (a_this_parts_cells, .inl (cI, n_this_parts_cells, .inl g_this_parts_cells))]) := by
  refine Ct_of (own := RX4) (lv0 := [(0, .ref a_this), (1, .int x1), (2, .int x2)]) (by decide) rfl rfl (Nat.le_of_ble_eq_true rfl) ?_
  intro p e s m args below meth c C hr hnm
  unfold f_X4_part at h
  refine J_aload_n (pc := 0) C dX4_part_0 0 rfl ?_
  refine J_get (pc := 1) C dX4_part_1 jf_X4 0 rfl rfl 1 (by decide) rfl fl_RX4_20 rfl ?_
  refine J_iconst (v := (1 : Int32)) (pc := 4) C dX4_part_4 (by decide) ?_
  refine J_isub (pc := 5) C dX4_part_5 ?_
  refine J_iload_n (pc := 6) C dX4_part_6 1 rfl ?_
  refine J_isub (pc := 7) C dX4_part_7 ?_
  refine J_istore_nN (pc := 8) C (fun y8 => [(3, .int y8), (0, .ref a_this), (1, .int x1), (2, .int x2)]) dX4_part_8 h (by decide) (fun _ => rfl) (fun y8 h => ?_)
  refine J_aload_n (pc := 9) C dX4_part_9 1 rfl ?_
  refine J_get (pc := 10) C dX4_part_10 jf_X4 0 rfl rfl 0 (by decide) rfl fl_RX4_14 rfl ?_
  refine J_iload_n (pc := 13) C dX4_part_13 0 rfl ?_
  refine J_if_ge (pc := 14) (tgt := 24) C dX4_part_14 (by decide) h (fun h => ?_) (fun h => ?_)
  · refine J_iload_n (pc := 24) C dX4_part_24 0 rfl ?_
    refine J_sub (lv2 := [(2, .int x2)]) [3] rfl ?_
    exact t_X4_part_b25 C hr h
  · refine J_iload_n (pc := 17) C dX4_part_17 0 rfl ?_
    refine J_bipush (v := (30 : Int32)) (pc := 18) C dX4_part_18 (by decide) ?_
    refine J_iadd (pc := 20) C dX4_part_20 ?_
    refine J_goto (tgt := 25) (pc := 21) C dX4_part_21 (by decide) ?_
    refine J_sub (lv2 := [(2, .int x2)]) [3] rfl ?_
    exact t_X4_part_b25 C hr h
-- PointsLedger$Purchases.count()I
theorem dX5_count_0 : decode cX5_count 0 = .ok (.aload_n 0, 1) := by decide +kernel
theorem dX5_count_1 : decode cX5_count 1 = .ok (.getfield 20, 3) := by decide +kernel
theorem dX5_count_4 : decode cX5_count 4 = .ok (.ireturn, 1) := by decide +kernel
def f_X5_count (v_this_count : Int32) : Option (Int32) :=
  (some v_this_count)
set_option maxHeartbeats 4000000 in
set_option maxRecDepth 100000 in
theorem c_X5_count (l : Launch) (D : va_G) (cI cB cL cO : ClassId) (pf : Nat → Nat) (N : Nat) (a_this a_this_parts : Nat) (v_this_count : Int32) (o : Int32) (h : f_X5_count v_this_count = some o) : Ct l D [(cI, .int), (cB, .byte), (cL, .byte), (cO, .object RX0)] pf yX5_count cX5_count 1 (some FieldType.int) { frames := 0, cells := 0, slots := 0, locals := 0 } [.ref a_this] [(a_this, .inr (5, [.ref a_this_parts, .int v_this_count]))] (is1 (some (.int o)) [(a_this, .inr (5, [.ref a_this_parts, .int v_this_count]))]) := by
  refine Ct_of (own := RX5) (lv0 := [(0, .ref a_this)]) (by decide) rfl rfl (Nat.le_of_ble_eq_true rfl) ?_
  intro p e s m args below meth c C hr hnm
  unfold f_X5_count at h
  refine J_aload_n (pc := 0) C dX5_count_0 0 rfl ?_
  refine J_get (pc := 1) C dX5_count_1 jf_X5 0 rfl rfl 1 (by decide) rfl fl_RX5_20 rfl ?_
  cases h
  exact J_iret (pc := 4) C dX5_count_4 hr ⟨rfl, rfl⟩
-- PointsLedger$Purchases.isKept(I)Z
theorem dX5_isKept_0 : decode cX5_isKept 0 = .ok (.iload_n 1, 1) := by decide +kernel
theorem dX5_isKept_1 : decode cX5_isKept 1 = .ok (.ifCond .lt 26, 3) := by decide +kernel
theorem dX5_isKept_4 : decode cX5_isKept 4 = .ok (.iload_n 1, 1) := by decide +kernel
theorem dX5_isKept_5 : decode cX5_isKept 5 = .ok (.aload_n 0, 1) := by decide +kernel
theorem dX5_isKept_6 : decode cX5_isKept 6 = .ok (.getfield 20, 3) := by decide +kernel
theorem dX5_isKept_9 : decode cX5_isKept 9 = .ok (.if_icmp .ge 18, 3) := by decide +kernel
theorem dX5_isKept_12 : decode cX5_isKept 12 = .ok (.iload_n 1, 1) := by decide +kernel
theorem dX5_isKept_13 : decode cX5_isKept 13 = .ok (.aload_n 0, 1) := by decide +kernel
theorem dX5_isKept_14 : decode cX5_isKept 14 = .ok (.getfield 20, 3) := by decide +kernel
theorem dX5_isKept_17 : decode cX5_isKept 17 = .ok (.bipush 40, 2) := by decide +kernel
theorem dX5_isKept_19 : decode cX5_isKept 19 = .ok (.isub, 1) := by decide +kernel
theorem dX5_isKept_20 : decode cX5_isKept 20 = .ok (.if_icmp .lt 7, 3) := by decide +kernel
theorem dX5_isKept_23 : decode cX5_isKept 23 = .ok (.iconst 1, 1) := by decide +kernel
theorem dX5_isKept_24 : decode cX5_isKept 24 = .ok (.goto 4, 3) := by decide +kernel
theorem dX5_isKept_27 : decode cX5_isKept 27 = .ok (.iconst 0, 1) := by decide +kernel
theorem dX5_isKept_28 : decode cX5_isKept 28 = .ok (.ireturn, 1) := by decide +kernel
def f_X5_isKept (x1 : Int32) (v_this_count : Int32) : Option (Int32) :=
  (if x1 < 0 then (some (0 : Int32)) else (if v_this_count ≤ x1 then (some (0 : Int32)) else (if x1 < (v_this_count - (40 : Int32)) then (some (0 : Int32)) else (some (1 : Int32)))))
set_option maxHeartbeats 4000000 in
set_option maxRecDepth 100000 in
theorem c_X5_isKept (l : Launch) (D : va_G) (cI cB cL cO : ClassId) (pf : Nat → Nat) (N : Nat) (a_this a_this_parts : Nat) (v_this_count : Int32) (x1 : Int32) (o : Int32) (h : f_X5_isKept x1 v_this_count = some o) : Ct l D [(cI, .int), (cB, .byte), (cL, .byte), (cO, .object RX0)] pf yX5_isKept cX5_isKept 2 (some FieldType.boolean) { frames := 0, cells := 0, slots := 0, locals := 0 } [.ref a_this, .int x1] [(a_this, .inr (5, [.ref a_this_parts, .int v_this_count]))] (is1 (some (.int o)) [(a_this, .inr (5, [.ref a_this_parts, .int v_this_count]))]) := by
  refine Ct_of (own := RX5) (lv0 := [(0, .ref a_this), (1, .int x1)]) (by decide) rfl rfl (Nat.le_of_ble_eq_true rfl) ?_
  intro p e s m args below meth c C hr hnm
  unfold f_X5_isKept at h
  refine J_iload_n (pc := 0) C dX5_isKept_0 1 rfl ?_
  refine J_if_lt (pc := 1) (tgt := 27) C dX5_isKept_1 (by decide) h (fun h => ?_) (fun h => ?_)
  · refine J_iconst (v := (0 : Int32)) (pc := 27) C dX5_isKept_27 (by decide) ?_
    cases h
    exact J_zret (pc := 28) C dX5_isKept_28 hr rfl ⟨rfl, rfl⟩
  · refine J_iload_n (pc := 4) C dX5_isKept_4 1 rfl ?_
    refine J_aload_n (pc := 5) C dX5_isKept_5 0 rfl ?_
    refine J_get (pc := 6) C dX5_isKept_6 jf_X5 0 rfl rfl 1 (by decide) rfl fl_RX5_20 rfl ?_
    refine J_ic_ge (pc := 9) (tgt := 27) C dX5_isKept_9 (by decide) h (fun h => ?_) (fun h => ?_)
    · refine J_iconst (v := (0 : Int32)) (pc := 27) C dX5_isKept_27 (by decide) ?_
      cases h
      exact J_zret (pc := 28) C dX5_isKept_28 hr rfl ⟨rfl, rfl⟩
    · refine J_iload_n (pc := 12) C dX5_isKept_12 1 rfl ?_
      refine J_aload_n (pc := 13) C dX5_isKept_13 0 rfl ?_
      refine J_get (pc := 14) C dX5_isKept_14 jf_X5 0 rfl rfl 1 (by decide) rfl fl_RX5_20 rfl ?_
      refine J_bipush (v := (40 : Int32)) (pc := 17) C dX5_isKept_17 (by decide) ?_
      refine J_isub (pc := 19) C dX5_isKept_19 ?_
      refine J_ic_lt (pc := 20) (tgt := 27) C dX5_isKept_20 (by decide) h (fun h => ?_) (fun h => ?_)
      · refine J_iconst (v := (0 : Int32)) (pc := 27) C dX5_isKept_27 (by decide) ?_
        cases h
        exact J_zret (pc := 28) C dX5_isKept_28 hr rfl ⟨rfl, rfl⟩
      · refine J_iconst (v := (1 : Int32)) (pc := 23) C dX5_isKept_23 (by decide) ?_
        refine J_goto (tgt := 28) (pc := 24) C dX5_isKept_24 (by decide) ?_
        cases h
        exact J_zret (pc := 28) C dX5_isKept_28 hr rfl ⟨rfl, rfl⟩
-- PointsLedger$Row.contains(I)Z
theorem dX6_contains_0 : decode cX6_contains 0 = .ok (.iconst 0, 1) := by decide +kernel
theorem dX6_contains_1 : decode cX6_contains 1 = .ok (.istore_n 2, 1) := by decide +kernel
theorem dX6_contains_2 : decode cX6_contains 2 = .ok (.iload_n 2, 1) := by decide +kernel
theorem dX6_contains_3 : decode cX6_contains 3 = .ok (.aload_n 0, 1) := by decide +kernel
theorem dX6_contains_4 : decode cX6_contains 4 = .ok (.getfield 7, 3) := by decide +kernel
theorem dX6_contains_7 : decode cX6_contains 7 = .ok (.arraylength, 1) := by decide +kernel
theorem dX6_contains_8 : decode cX6_contains 8 = .ok (.if_icmp .ge 21, 3) := by decide +kernel
theorem dX6_contains_11 : decode cX6_contains 11 = .ok (.aload_n 0, 1) := by decide +kernel
theorem dX6_contains_12 : decode cX6_contains 12 = .ok (.getfield 7, 3) := by decide +kernel
theorem dX6_contains_15 : decode cX6_contains 15 = .ok (.iload_n 2, 1) := by decide +kernel
theorem dX6_contains_16 : decode cX6_contains 16 = .ok (.iaload, 1) := by decide +kernel
theorem dX6_contains_17 : decode cX6_contains 17 = .ok (.iload_n 1, 1) := by decide +kernel
theorem dX6_contains_18 : decode cX6_contains 18 = .ok (.if_icmp .ne 5, 3) := by decide +kernel
theorem dX6_contains_21 : decode cX6_contains 21 = .ok (.iconst 1, 1) := by decide +kernel
theorem dX6_contains_22 : decode cX6_contains 22 = .ok (.ireturn, 1) := by decide +kernel
theorem dX6_contains_23 : decode cX6_contains 23 = .ok (.iinc 2 1, 3) := by decide +kernel
theorem dX6_contains_26 : decode cX6_contains 26 = .ok (.goto (-24), 3) := by decide +kernel
theorem dX6_contains_29 : decode cX6_contains 29 = .ok (.iconst 0, 1) := by decide +kernel
theorem dX6_contains_30 : decode cX6_contains 30 = .ok (.ireturn, 1) := by decide +kernel
def f_X6_contains_b2 (x1 : Int32) (n_this_cells : Nat) (g_this_cells : Nat → Int32) : Nat → (Int32) → Option (Int32)
  | 0, _ => none
  | n + 1, x2 => (if (nI n_this_cells) ≤ x2 then (some (0 : Int32)) else (if x2 < 0 ∨ n_this_cells ≤ x2.toNatClampNeg then none else (if (g_this_cells x2.toNatClampNeg) = x1 then (some (1 : Int32)) else ((some (x2 + (1 : Int32))).bind fun y23 => (f_X6_contains_b2 x1 n_this_cells g_this_cells n y23)))))
def f_X6_contains (N : Nat) (x1 : Int32) (n_this_cells : Nat) (g_this_cells : Nat → Int32) : Option (Int32) :=
  (f_X6_contains_b2 x1 n_this_cells g_this_cells N (0 : Int32))
set_option maxHeartbeats 4000000 in
set_option maxRecDepth 100000 in
theorem t_X6_contains_b2 {l : Launch} {D : va_G} {cI cB cL cO : ClassId} {pf : Nat → Nat} {p : Program} {e : Env} {s : State} {m : MethodId} {args : Array Value} {below : List Frame} {meth : Method} {c : Code} {W0 : va_W} {a_this a_this_cells : Nat}  {n_this_cells : Nat} {g_this_cells : Nat → Int32} {x1 : Int32} {o : Int32} (C : jC p s m args meth c cX6_contains 3 RX6 D [(cI, .int), (cB, .byte), (cL, .byte), (cO, .object RX0)] pf (va_A W0 s.heap.size)) (hr : meth.sig.returnType = (some FieldType.boolean)) : ∀ (n : Nat) (x2 : Int32), f_X6_contains_b2 x1 n_this_cells g_this_cells n x2 = some o → J p l e { frames := 0, cells := 0, slots := 0, locals := 0 } s m args below meth c 3 D (va_A W0 s.heap.size) (MQ below (jQ D [(cI, .int), (cB, .byte), (cL, .byte), (cO, .object RX0)] W0 s.heap.size (is1 (some (.int o)) [(a_this, .inr (6, [.ref a_this_cells])), (a_this_cells, .inl (cI, n_this_cells, .inl g_this_cells))])) args s 0 0 (va_A W0 s.heap.size)) 0 0 2 [(0, .ref a_this), (1, .int x1), (2, .int x2)] [] [(a_this, .inr (6, [.ref a_this_cells])), (a_this_cells, .inl (cI, n_this_cells, .inl g_this_cells))] := by
  intro n
  induction n with
  | zero =>
    intro _ h
    rw [f_X6_contains_b2] at h
    cases h
  | succ n ih =>
    intro x2 h
    rw [f_X6_contains_b2] at h
    refine J_iload_n (pc := 2) C dX6_contains_2 2 rfl ?_
    refine J_aload_n (pc := 3) C dX6_contains_3 0 rfl ?_
    refine J_get (pc := 4) C dX6_contains_4 jf_X6 0 rfl rfl 0 (by decide) rfl fl_RX6_7 rfl ?_
    refine J_alen (pc := 7) C dX6_contains_7 1 0 rfl rfl ?_
    refine J_ic_ge (pc := 8) (tgt := 29) C dX6_contains_8 (by decide) h (fun h => ?_) (fun h => ?_)
    · refine J_iconst (v := (0 : Int32)) (pc := 29) C dX6_contains_29 (by decide) ?_
      cases h
      exact J_zret (pc := 30) C dX6_contains_30 hr rfl ⟨rfl, rfl⟩
    · refine J_aload_n (pc := 11) C dX6_contains_11 0 rfl ?_
      refine J_get (pc := 12) C dX6_contains_12 jf_X6 0 rfl rfl 0 (by decide) rfl fl_RX6_7 rfl ?_
      refine J_iload_n (pc := 15) C dX6_contains_15 2 rfl ?_
      refine J_iald (pc := 16) C dX6_contains_16 1 0 rfl rfl h (fun h => ?_)
      refine J_iload_n (pc := 17) C dX6_contains_17 1 rfl ?_
      refine J_ic_ne (pc := 18) (tgt := 23) C dX6_contains_18 (by decide) h (fun h => ?_) (fun h => ?_)
      · refine J_iincN (pc := 23) (v := (1 : Int32)) C (fun y23 => [(2, .int y23), (0, .ref a_this), (1, .int x1)]) dX6_contains_23 2 rfl (by decide) h (by decide) (fun _ => rfl) (fun y23 h => ?_)
        refine J_goto (tgt := 2) (pc := 26) C dX6_contains_26 (by decide) ?_
        refine J_sub (lv2 := [(0, .ref a_this), (1, .int x1), (2, .int y23)]) [1, 2, 0] rfl ?_
        exact ih _ h
      · refine J_iconst (v := (1 : Int32)) (pc := 21) C dX6_contains_21 (by decide) ?_
        cases h
        exact J_zret (pc := 22) C dX6_contains_22 hr rfl ⟨rfl, rfl⟩
set_option maxHeartbeats 4000000 in
set_option maxRecDepth 100000 in
theorem c_X6_contains (l : Launch) (D : va_G) (cI cB cL cO : ClassId) (pf : Nat → Nat) (N : Nat) (a_this a_this_cells : Nat) (n_this_cells : Nat) (g_this_cells : Nat → Int32) (x1 : Int32) (o : Int32) (h : f_X6_contains N x1 n_this_cells g_this_cells = some o) : Ct l D [(cI, .int), (cB, .byte), (cL, .byte), (cO, .object RX0)] pf yX6_contains cX6_contains 3 (some FieldType.boolean) { frames := 0, cells := 0, slots := 0, locals := 0 } [.ref a_this, .int x1] [(a_this, .inr (6, [.ref a_this_cells])), (a_this_cells, .inl (cI, n_this_cells, .inl g_this_cells))] (is1 (some (.int o)) [(a_this, .inr (6, [.ref a_this_cells])), (a_this_cells, .inl (cI, n_this_cells, .inl g_this_cells))]) := by
  refine Ct_of (own := RX6) (lv0 := [(0, .ref a_this), (1, .int x1)]) (by decide) rfl rfl (Nat.le_of_ble_eq_true rfl) ?_
  intro p e s m args below meth c C hr hnm
  unfold f_X6_contains at h
  refine J_iconst (v := (0 : Int32)) (pc := 0) C dX6_contains_0 (by decide) ?_
  refine J_istore_n (lv2 := [(2, .int (0 : Int32)), (0, .ref a_this), (1, .int x1)]) (pc := 1) C dX6_contains_1 (by decide) rfl ?_
  refine J_sub (lv2 := [(0, .ref a_this), (1, .int x1), (2, .int (0 : Int32))]) [1, 2, 0] rfl ?_
  exact t_X6_contains_b2 C hr N _ h
-- PointsLedger$Setup.clear()V
theorem dX7_clear_0 : decode cX7_clear 0 = .ok (.aload_n 0, 1) := by decide +kernel
theorem dX7_clear_1 : decode cX7_clear 1 = .ok (.getfield 14, 3) := by decide +kernel
theorem dX7_clear_4 : decode cX7_clear 4 = .ok (.iconst 0, 1) := by decide +kernel
theorem dX7_clear_5 : decode cX7_clear 5 = .ok (.invokevirtual 56, 3) := by decide +kernel
theorem dX7_clear_8 : decode cX7_clear 8 = .ok (.aload_n 0, 1) := by decide +kernel
theorem dX7_clear_9 : decode cX7_clear 9 = .ok (.getfield 20, 3) := by decide +kernel
theorem dX7_clear_12 : decode cX7_clear 12 = .ok (.iconst 0, 1) := by decide +kernel
theorem dX7_clear_13 : decode cX7_clear 13 = .ok (.invokevirtual 56, 3) := by decide +kernel
theorem dX7_clear_16 : decode cX7_clear 16 = .ok (.aload_n 0, 1) := by decide +kernel
theorem dX7_clear_17 : decode cX7_clear 17 = .ok (.getfield 23, 3) := by decide +kernel
theorem dX7_clear_20 : decode cX7_clear 20 = .ok (.iconst 0, 1) := by decide +kernel
theorem dX7_clear_21 : decode cX7_clear 21 = .ok (.invokevirtual 56, 3) := by decide +kernel
theorem dX7_clear_24 : decode cX7_clear 24 = .ok (.aload_n 0, 1) := by decide +kernel
theorem dX7_clear_25 : decode cX7_clear 25 = .ok (.getfield 26, 3) := by decide +kernel
theorem dX7_clear_28 : decode cX7_clear 28 = .ok (.iconst 0, 1) := by decide +kernel
theorem dX7_clear_29 : decode cX7_clear 29 = .ok (.invokevirtual 56, 3) := by decide +kernel
theorem dX7_clear_32 : decode cX7_clear 32 = .ok (.aload_n 0, 1) := by decide +kernel
theorem dX7_clear_33 : decode cX7_clear 33 = .ok (.sipush 365, 3) := by decide +kernel
theorem dX7_clear_36 : decode cX7_clear 36 = .ok (.putfield 59, 3) := by decide +kernel
theorem dX7_clear_39 : decode cX7_clear 39 = .ok (.aload_n 0, 1) := by decide +kernel
theorem dX7_clear_40 : decode cX7_clear 40 = .ok (.sipush 365, 3) := by decide +kernel
theorem dX7_clear_43 : decode cX7_clear 43 = .ok (.putfield 63, 3) := by decide +kernel
theorem dX7_clear_46 : decode cX7_clear 46 = .ok (.aload_n 0, 1) := by decide +kernel
theorem dX7_clear_47 : decode cX7_clear 47 = .ok (.iconst 0, 1) := by decide +kernel
theorem dX7_clear_48 : decode cX7_clear 48 = .ok (.putfield 66, 3) := by decide +kernel
theorem dX7_clear_51 : decode cX7_clear 51 = .ok (.return_, 1) := by decide +kernel
def f_X7_clear (N : Nat) (n_this_counts_cells : Nat) (n_this_names_cells : Nat) (n_this_thresholds_cells : Nat) (n_this_bonuses_cells : Nat) (g_this_counts_cells : Nat → Int32) (g_this_names_cells : Nat → Int32) (g_this_thresholds_cells : Nat → Int32) (g_this_bonuses_cells : Nat → Int32) : Option (Int32 × Int32 × Int32 × (Nat → Int32) × (Nat → Int32) × (Nat → Int32) × (Nat → Int32)) :=
  ((f_X6_fill N (0 : Int32) n_this_counts_cells g_this_counts_cells).bind fun r5 => ((f_X6_fill N (0 : Int32) n_this_names_cells g_this_names_cells).bind fun r13 => ((f_X6_fill N (0 : Int32) n_this_thresholds_cells g_this_thresholds_cells).bind fun r21 => ((f_X6_fill N (0 : Int32) n_this_bonuses_cells g_this_bonuses_cells).bind fun r29 => (some ((365 : Int32), (365 : Int32), (0 : Int32), r5, r13, r21, r29))))))
set_option maxHeartbeats 4000000 in
set_option maxRecDepth 100000 in
theorem c_X7_clear (l : Launch) (D : va_G) (cI cB cL cO : ClassId) (pf : Nat → Nat) (N : Nat) (a_this a_this_counts a_this_names a_this_thresholds a_this_bonuses a_this_rates a_this_caps a_this_promoCategories a_this_promoFirstDays a_this_promoLastDays a_this_promoExtras a_this_shares a_this_counts_cells a_this_names_cells a_this_thresholds_cells a_this_bonuses_cells : Nat) (n_this_counts_cells : Nat) (n_this_names_cells : Nat) (n_this_thresholds_cells : Nat) (n_this_bonuses_cells : Nat) (v_this_life : Int32) (v_this_window : Int32) (v_this_grace : Int32) (g_this_counts_cells : Nat → Int32) (g_this_names_cells : Nat → Int32) (g_this_thresholds_cells : Nat → Int32) (g_this_bonuses_cells : Nat → Int32) (o : Int32 × Int32 × Int32 × (Nat → Int32) × (Nat → Int32) × (Nat → Int32) × (Nat → Int32)) (h : f_X7_clear N n_this_counts_cells n_this_names_cells n_this_thresholds_cells n_this_bonuses_cells g_this_counts_cells g_this_names_cells g_this_thresholds_cells g_this_bonuses_cells = some o) : Ct l D [(cI, .int), (cB, .byte), (cL, .byte), (cO, .object RX0)] pf yX7_clear cX7_clear 1 (none : Option FieldType) { frames := 1, cells := 0, slots := 0, locals := 22 } [.ref a_this] [(a_this, .inr (7, [.ref a_this_counts, .ref a_this_names, .ref a_this_thresholds, .ref a_this_bonuses, .ref a_this_rates, .ref a_this_caps, .ref a_this_promoCategories, .ref a_this_promoFirstDays, .ref a_this_promoLastDays, .ref a_this_promoExtras, .ref a_this_shares, .int v_this_life, .int v_this_window, .int v_this_grace])), (a_this_counts, .inr (6, [.ref a_this_counts_cells])), (a_this_counts_cells, .inl (cI, n_this_counts_cells, .inl g_this_counts_cells)), (a_this_names, .inr (6, [.ref a_this_names_cells])), (a_this_names_cells, .inl (cI, n_this_names_cells, .inl g_this_names_cells)), (a_this_thresholds, .inr (6, [.ref a_this_thresholds_cells])), (a_this_thresholds_cells, .inl (cI, n_this_thresholds_cells, .inl g_this_thresholds_cells)), (a_this_bonuses, .inr (6, [.ref a_this_bonuses_cells])), (a_this_bonuses_cells, .inl (cI, n_this_bonuses_cells, .inl g_this_bonuses_cells))] (is1 (none) [(a_this, .inr (7, [.ref a_this_counts, .ref a_this_names, .ref a_this_thresholds, .ref a_this_bonuses, .ref a_this_rates, .ref a_this_caps, .ref a_this_promoCategories, .ref a_this_promoFirstDays, .ref a_this_promoLastDays, .ref a_this_promoExtras, .ref a_this_shares, .int o.1, .int o.2.1, .int o.2.2.1])), (a_this_counts, .inr (6, [.ref a_this_counts_cells])), (a_this_counts_cells, .inl (cI, n_this_counts_cells, .inl o.2.2.2.1)), (a_this_names, .inr (6, [.ref a_this_names_cells])), (a_this_names_cells, .inl (cI, n_this_names_cells, .inl o.2.2.2.2.1)), (a_this_thresholds, .inr (6, [.ref a_this_thresholds_cells])), (a_this_thresholds_cells, .inl (cI, n_this_thresholds_cells, .inl o.2.2.2.2.2.1)), (a_this_bonuses, .inr (6, [.ref a_this_bonuses_cells])), (a_this_bonuses_cells, .inl (cI, n_this_bonuses_cells, .inl o.2.2.2.2.2.2))]) := by
  refine Ct_of (own := RX7) (lv0 := [(0, .ref a_this)]) (by decide) rfl rfl (Nat.le_of_ble_eq_true rfl) ?_
  intro p e s m args below meth c C hr hnm
  unfold f_X7_clear at h
  refine J_aload_n (pc := 0) C dX7_clear_0 0 rfl ?_
  refine J_get (pc := 1) C dX7_clear_1 jf_X7 0 rfl rfl 0 (by decide) rfl fl_RX7_14 rfl ?_
  refine J_iconst (v := (0 : Int32)) (pc := 4) C dX7_clear_4 (by decide) ?_
  refine J_cvw (pc := 5) (As := [.int (0 : Int32)]) (st := []) C (fun r5 => [(a_this, .inr (7, [.ref a_this_counts, .ref a_this_names, .ref a_this_thresholds, .ref a_this_bonuses, .ref a_this_rates, .ref a_this_caps, .ref a_this_promoCategories, .ref a_this_promoFirstDays, .ref a_this_promoLastDays, .ref a_this_promoExtras, .ref a_this_shares, .int v_this_life, .int v_this_window, .int v_this_grace])), (a_this_counts, .inr (6, [.ref a_this_counts_cells])), (a_this_counts_cells, .inl (cI, n_this_counts_cells, .inl r5)), (a_this_names, .inr (6, [.ref a_this_names_cells])), (a_this_names_cells, .inl (cI, n_this_names_cells, .inl g_this_names_cells)), (a_this_thresholds, .inr (6, [.ref a_this_thresholds_cells])), (a_this_thresholds_cells, .inl (cI, n_this_thresholds_cells, .inl g_this_thresholds_cells)), (a_this_bonuses, .inr (6, [.ref a_this_bonuses_cells])), (a_this_bonuses_cells, .inl (cI, n_this_bonuses_cells, .inl g_this_bonuses_cells))]) dX7_clear_5 ml_RX7_56 mi_yX6_fill (fun r5 hr => c_X6_fill l D cI cB cL cO pf N a_this_counts a_this_counts_cells n_this_counts_cells g_this_counts_cells (0 : Int32) r5 hr) h [1, 2] rfl rfl rfl rfl rfl ⟨rfl, rfl⟩ ⟨(Nat.le_of_ble_eq_true rfl), (Nat.le_of_ble_eq_true rfl)⟩ ⟨Nat.zero_le _, Nat.zero_le _⟩ (Nat.le_of_ble_eq_true rfl) (fun _ => rfl) (fun _ => rfl) (fun r5 h => ?_)
  refine J_aload_n (pc := 8) C dX7_clear_8 0 rfl ?_
  refine J_get (pc := 9) C dX7_clear_9 jf_X7 0 rfl rfl 1 (by decide) rfl fl_RX7_20 rfl ?_
  refine J_iconst (v := (0 : Int32)) (pc := 12) C dX7_clear_12 (by decide) ?_
  refine J_cvw (pc := 13) (As := [.int (0 : Int32)]) (st := []) C (fun r13 => [(a_this, .inr (7, [.ref a_this_counts, .ref a_this_names, .ref a_this_thresholds, .ref a_this_bonuses, .ref a_this_rates, .ref a_this_caps, .ref a_this_promoCategories, .ref a_this_promoFirstDays, .ref a_this_promoLastDays, .ref a_this_promoExtras, .ref a_this_shares, .int v_this_life, .int v_this_window, .int v_this_grace])), (a_this_counts, .inr (6, [.ref a_this_counts_cells])), (a_this_counts_cells, .inl (cI, n_this_counts_cells, .inl r5)), (a_this_names, .inr (6, [.ref a_this_names_cells])), (a_this_names_cells, .inl (cI, n_this_names_cells, .inl r13)), (a_this_thresholds, .inr (6, [.ref a_this_thresholds_cells])), (a_this_thresholds_cells, .inl (cI, n_this_thresholds_cells, .inl g_this_thresholds_cells)), (a_this_bonuses, .inr (6, [.ref a_this_bonuses_cells])), (a_this_bonuses_cells, .inl (cI, n_this_bonuses_cells, .inl g_this_bonuses_cells))]) dX7_clear_13 ml_RX7_56 mi_yX6_fill (fun r13 hr => c_X6_fill l D cI cB cL cO pf N a_this_names a_this_names_cells n_this_names_cells g_this_names_cells (0 : Int32) r13 hr) h [3, 4] rfl rfl rfl rfl rfl ⟨rfl, rfl⟩ ⟨(Nat.le_of_ble_eq_true rfl), (Nat.le_of_ble_eq_true rfl)⟩ ⟨Nat.zero_le _, Nat.zero_le _⟩ (Nat.le_of_ble_eq_true rfl) (fun _ => rfl) (fun _ => rfl) (fun r13 h => ?_)
  refine J_aload_n (pc := 16) C dX7_clear_16 0 rfl ?_
  refine J_get (pc := 17) C dX7_clear_17 jf_X7 0 rfl rfl 2 (by decide) rfl fl_RX7_23 rfl ?_
  refine J_iconst (v := (0 : Int32)) (pc := 20) C dX7_clear_20 (by decide) ?_
  refine J_cvw (pc := 21) (As := [.int (0 : Int32)]) (st := []) C (fun r21 => [(a_this, .inr (7, [.ref a_this_counts, .ref a_this_names, .ref a_this_thresholds, .ref a_this_bonuses, .ref a_this_rates, .ref a_this_caps, .ref a_this_promoCategories, .ref a_this_promoFirstDays, .ref a_this_promoLastDays, .ref a_this_promoExtras, .ref a_this_shares, .int v_this_life, .int v_this_window, .int v_this_grace])), (a_this_counts, .inr (6, [.ref a_this_counts_cells])), (a_this_counts_cells, .inl (cI, n_this_counts_cells, .inl r5)), (a_this_names, .inr (6, [.ref a_this_names_cells])), (a_this_names_cells, .inl (cI, n_this_names_cells, .inl r13)), (a_this_thresholds, .inr (6, [.ref a_this_thresholds_cells])), (a_this_thresholds_cells, .inl (cI, n_this_thresholds_cells, .inl r21)), (a_this_bonuses, .inr (6, [.ref a_this_bonuses_cells])), (a_this_bonuses_cells, .inl (cI, n_this_bonuses_cells, .inl g_this_bonuses_cells))]) dX7_clear_21 ml_RX7_56 mi_yX6_fill (fun r21 hr => c_X6_fill l D cI cB cL cO pf N a_this_thresholds a_this_thresholds_cells n_this_thresholds_cells g_this_thresholds_cells (0 : Int32) r21 hr) h [5, 6] rfl rfl rfl rfl rfl ⟨rfl, rfl⟩ ⟨(Nat.le_of_ble_eq_true rfl), (Nat.le_of_ble_eq_true rfl)⟩ ⟨Nat.zero_le _, Nat.zero_le _⟩ (Nat.le_of_ble_eq_true rfl) (fun _ => rfl) (fun _ => rfl) (fun r21 h => ?_)
  refine J_aload_n (pc := 24) C dX7_clear_24 0 rfl ?_
  refine J_get (pc := 25) C dX7_clear_25 jf_X7 0 rfl rfl 3 (by decide) rfl fl_RX7_26 rfl ?_
  refine J_iconst (v := (0 : Int32)) (pc := 28) C dX7_clear_28 (by decide) ?_
  refine J_cvw (pc := 29) (As := [.int (0 : Int32)]) (st := []) C (fun r29 => [(a_this, .inr (7, [.ref a_this_counts, .ref a_this_names, .ref a_this_thresholds, .ref a_this_bonuses, .ref a_this_rates, .ref a_this_caps, .ref a_this_promoCategories, .ref a_this_promoFirstDays, .ref a_this_promoLastDays, .ref a_this_promoExtras, .ref a_this_shares, .int v_this_life, .int v_this_window, .int v_this_grace])), (a_this_counts, .inr (6, [.ref a_this_counts_cells])), (a_this_counts_cells, .inl (cI, n_this_counts_cells, .inl r5)), (a_this_names, .inr (6, [.ref a_this_names_cells])), (a_this_names_cells, .inl (cI, n_this_names_cells, .inl r13)), (a_this_thresholds, .inr (6, [.ref a_this_thresholds_cells])), (a_this_thresholds_cells, .inl (cI, n_this_thresholds_cells, .inl r21)), (a_this_bonuses, .inr (6, [.ref a_this_bonuses_cells])), (a_this_bonuses_cells, .inl (cI, n_this_bonuses_cells, .inl r29))]) dX7_clear_29 ml_RX7_56 mi_yX6_fill (fun r29 hr => c_X6_fill l D cI cB cL cO pf N a_this_bonuses a_this_bonuses_cells n_this_bonuses_cells g_this_bonuses_cells (0 : Int32) r29 hr) h [7, 8] rfl rfl rfl rfl rfl ⟨rfl, rfl⟩ ⟨(Nat.le_of_ble_eq_true rfl), (Nat.le_of_ble_eq_true rfl)⟩ ⟨Nat.zero_le _, Nat.zero_le _⟩ (Nat.le_of_ble_eq_true rfl) (fun _ => rfl) (fun _ => rfl) (fun r29 h => ?_)
  refine J_aload_n (pc := 32) C dX7_clear_32 0 rfl ?_
  refine J_sipush (v := (365 : Int32)) (pc := 33) C dX7_clear_33 (by decide) ?_
  refine J_put (tt := .int) (pc := 36) C dX7_clear_36 jf_X7 0 rfl rfl 11 (by decide) rfl fl_RX7_59 rfl (by decide +kernel) rfl rfl (Nat.le_of_ble_eq_true rfl) ?_
  refine J_ws (ws2 := [(a_this, .inr (7, [.ref a_this_counts, .ref a_this_names, .ref a_this_thresholds, .ref a_this_bonuses, .ref a_this_rates, .ref a_this_caps, .ref a_this_promoCategories, .ref a_this_promoFirstDays, .ref a_this_promoLastDays, .ref a_this_promoExtras, .ref a_this_shares, .int (365 : Int32), .int v_this_window, .int v_this_grace])), (a_this_counts, .inr (6, [.ref a_this_counts_cells])), (a_this_counts_cells, .inl (cI, n_this_counts_cells, .inl r5)), (a_this_names, .inr (6, [.ref a_this_names_cells])), (a_this_names_cells, .inl (cI, n_this_names_cells, .inl r13)), (a_this_thresholds, .inr (6, [.ref a_this_thresholds_cells])), (a_this_thresholds_cells, .inl (cI, n_this_thresholds_cells, .inl r21)), (a_this_bonuses, .inr (6, [.ref a_this_bonuses_cells])), (a_this_bonuses_cells, .inl (cI, n_this_bonuses_cells, .inl r29))]) rfl ?_
  refine J_aload_n (pc := 39) C dX7_clear_39 0 rfl ?_
  refine J_sipush (v := (365 : Int32)) (pc := 40) C dX7_clear_40 (by decide) ?_
  refine J_put (tt := .int) (pc := 43) C dX7_clear_43 jf_X7 0 rfl rfl 12 (by decide) rfl fl_RX7_63 rfl (by decide +kernel) rfl rfl (Nat.le_of_ble_eq_true rfl) ?_
  refine J_ws (ws2 := [(a_this, .inr (7, [.ref a_this_counts, .ref a_this_names, .ref a_this_thresholds, .ref a_this_bonuses, .ref a_this_rates, .ref a_this_caps, .ref a_this_promoCategories, .ref a_this_promoFirstDays, .ref a_this_promoLastDays, .ref a_this_promoExtras, .ref a_this_shares, .int (365 : Int32), .int (365 : Int32), .int v_this_grace])), (a_this_counts, .inr (6, [.ref a_this_counts_cells])), (a_this_counts_cells, .inl (cI, n_this_counts_cells, .inl r5)), (a_this_names, .inr (6, [.ref a_this_names_cells])), (a_this_names_cells, .inl (cI, n_this_names_cells, .inl r13)), (a_this_thresholds, .inr (6, [.ref a_this_thresholds_cells])), (a_this_thresholds_cells, .inl (cI, n_this_thresholds_cells, .inl r21)), (a_this_bonuses, .inr (6, [.ref a_this_bonuses_cells])), (a_this_bonuses_cells, .inl (cI, n_this_bonuses_cells, .inl r29))]) rfl ?_
  refine J_aload_n (pc := 46) C dX7_clear_46 0 rfl ?_
  refine J_iconst (v := (0 : Int32)) (pc := 47) C dX7_clear_47 (by decide) ?_
  refine J_put (tt := .int) (pc := 48) C dX7_clear_48 jf_X7 0 rfl rfl 13 (by decide) rfl fl_RX7_66 rfl (by decide +kernel) rfl rfl (Nat.le_of_ble_eq_true rfl) ?_
  refine J_ws (ws2 := [(a_this, .inr (7, [.ref a_this_counts, .ref a_this_names, .ref a_this_thresholds, .ref a_this_bonuses, .ref a_this_rates, .ref a_this_caps, .ref a_this_promoCategories, .ref a_this_promoFirstDays, .ref a_this_promoLastDays, .ref a_this_promoExtras, .ref a_this_shares, .int (365 : Int32), .int (365 : Int32), .int (0 : Int32)])), (a_this_counts, .inr (6, [.ref a_this_counts_cells])), (a_this_counts_cells, .inl (cI, n_this_counts_cells, .inl r5)), (a_this_names, .inr (6, [.ref a_this_names_cells])), (a_this_names_cells, .inl (cI, n_this_names_cells, .inl r13)), (a_this_thresholds, .inr (6, [.ref a_this_thresholds_cells])), (a_this_thresholds_cells, .inl (cI, n_this_thresholds_cells, .inl r21)), (a_this_bonuses, .inr (6, [.ref a_this_bonuses_cells])), (a_this_bonuses_cells, .inl (cI, n_this_bonuses_cells, .inl r29))]) rfl ?_
  cases h
  exact J_vret (pc := 51) C dX7_clear_51 hr ⟨rfl, rfl⟩
-- PointsLedger$Setup.finish()V
theorem dX7_finish_0 : decode cX7_finish 0 = .ok (.aload_n 0, 1) := by decide +kernel
theorem dX7_finish_1 : decode cX7_finish 1 = .ok (.getfield 14, 3) := by decide +kernel
theorem dX7_finish_4 : decode cX7_finish 4 = .ok (.iconst 0, 1) := by decide +kernel
theorem dX7_finish_5 : decode cX7_finish 5 = .ok (.invokevirtual 69, 3) := by decide +kernel
theorem dX7_finish_8 : decode cX7_finish 8 = .ok (.ifCond .ne 12, 3) := by decide +kernel
theorem dX7_finish_11 : decode cX7_finish 11 = .ok (.aload_n 0, 1) := by decide +kernel
theorem dX7_finish_12 : decode cX7_finish 12 = .ok (.getfield 14, 3) := by decide +kernel
theorem dX7_finish_15 : decode cX7_finish 15 = .ok (.iconst 0, 1) := by decide +kernel
theorem dX7_finish_16 : decode cX7_finish 16 = .ok (.iconst 1, 1) := by decide +kernel
theorem dX7_finish_17 : decode cX7_finish 17 = .ok (.invokevirtual 73, 3) := by decide +kernel
theorem dX7_finish_20 : decode cX7_finish 20 = .ok (.return_, 1) := by decide +kernel
def f_X7_finish (n_this_counts_cells : Nat) (g_this_counts_cells : Nat → Int32) : Option ((Nat → Int32)) :=
  ((f_X6_at (0 : Int32) n_this_counts_cells g_this_counts_cells).bind fun r5 => (if r5 = 0 then ((f_X6_put (0 : Int32) (1 : Int32) n_this_counts_cells g_this_counts_cells).bind fun r17 => (some r17)) else (some g_this_counts_cells)))
set_option maxHeartbeats 4000000 in
set_option maxRecDepth 100000 in
theorem c_X7_finish (l : Launch) (D : va_G) (cI cB cL cO : ClassId) (pf : Nat → Nat) (N : Nat) (a_this a_this_counts a_this_names a_this_thresholds a_this_bonuses a_this_rates a_this_caps a_this_promoCategories a_this_promoFirstDays a_this_promoLastDays a_this_promoExtras a_this_shares a_this_counts_cells : Nat) (n_this_counts_cells : Nat) (v_this_life : Int32) (v_this_window : Int32) (v_this_grace : Int32) (g_this_counts_cells : Nat → Int32) (o : (Nat → Int32)) (h : f_X7_finish n_this_counts_cells g_this_counts_cells = some o) : Ct l D [(cI, .int), (cB, .byte), (cL, .byte), (cO, .object RX0)] pf yX7_finish cX7_finish 1 (none : Option FieldType) { frames := 1, cells := 0, slots := 0, locals := 22 } [.ref a_this] [(a_this, .inr (7, [.ref a_this_counts, .ref a_this_names, .ref a_this_thresholds, .ref a_this_bonuses, .ref a_this_rates, .ref a_this_caps, .ref a_this_promoCategories, .ref a_this_promoFirstDays, .ref a_this_promoLastDays, .ref a_this_promoExtras, .ref a_this_shares, .int v_this_life, .int v_this_window, .int v_this_grace])), (a_this_counts, .inr (6, [.ref a_this_counts_cells])), (a_this_counts_cells, .inl (cI, n_this_counts_cells, .inl g_this_counts_cells))] (is1 (none) [(a_this, .inr (7, [.ref a_this_counts, .ref a_this_names, .ref a_this_thresholds, .ref a_this_bonuses, .ref a_this_rates, .ref a_this_caps, .ref a_this_promoCategories, .ref a_this_promoFirstDays, .ref a_this_promoLastDays, .ref a_this_promoExtras, .ref a_this_shares, .int v_this_life, .int v_this_window, .int v_this_grace])), (a_this_counts, .inr (6, [.ref a_this_counts_cells])), (a_this_counts_cells, .inl (cI, n_this_counts_cells, .inl o))]) := by
  refine Ct_of (own := RX7) (lv0 := [(0, .ref a_this)]) (by decide) rfl rfl (Nat.le_of_ble_eq_true rfl) ?_
  intro p e s m args below meth c C hr hnm
  unfold f_X7_finish at h
  refine J_aload_n (pc := 0) C dX7_finish_0 0 rfl ?_
  refine J_get (pc := 1) C dX7_finish_1 jf_X7 0 rfl rfl 0 (by decide) rfl fl_RX7_14 rfl ?_
  refine J_iconst (v := (0 : Int32)) (pc := 4) C dX7_finish_4 (by decide) ?_
  refine J_cvr (pc := 5) (As := [.int (0 : Int32)]) (st := []) C dX7_finish_5 ml_RX7_69 mi_yX6_at (fun r5 hr => c_X6_at l D cI cB cL cO pf 0 a_this_counts a_this_counts_cells n_this_counts_cells g_this_counts_cells (0 : Int32) r5 hr) h [1, 2] rfl rfl rfl rfl rfl ⟨rfl, rfl⟩ ⟨(Nat.le_of_ble_eq_true rfl), (Nat.le_of_ble_eq_true rfl)⟩ ⟨Nat.zero_le _, Nat.zero_le _⟩ (Nat.le_of_ble_eq_true rfl) (fun r5 h => ?_)
  refine J_if_ne (pc := 8) (tgt := 20) C dX7_finish_8 (by decide) h (fun h => ?_) (fun h => ?_)
  · cases h
    exact J_vret (pc := 20) C dX7_finish_20 hr ⟨rfl, rfl⟩
  · refine J_aload_n (pc := 11) C dX7_finish_11 0 rfl ?_
    refine J_get (pc := 12) C dX7_finish_12 jf_X7 0 rfl rfl 0 (by decide) rfl fl_RX7_14 rfl ?_
    refine J_iconst (v := (0 : Int32)) (pc := 15) C dX7_finish_15 (by decide) ?_
    refine J_iconst (v := (1 : Int32)) (pc := 16) C dX7_finish_16 (by decide) ?_
    refine J_cvw (pc := 17) (As := [.int (0 : Int32), .int (1 : Int32)]) (st := []) C (fun r17 => [(a_this, .inr (7, [.ref a_this_counts, .ref a_this_names, .ref a_this_thresholds, .ref a_this_bonuses, .ref a_this_rates, .ref a_this_caps, .ref a_this_promoCategories, .ref a_this_promoFirstDays, .ref a_this_promoLastDays, .ref a_this_promoExtras, .ref a_this_shares, .int v_this_life, .int v_this_window, .int v_this_grace])), (a_this_counts, .inr (6, [.ref a_this_counts_cells])), (a_this_counts_cells, .inl (cI, n_this_counts_cells, .inl r17))]) dX7_finish_17 ml_RX7_73 mi_yX6_put (fun r17 hr => c_X6_put l D cI cB cL cO pf 0 a_this_counts a_this_counts_cells n_this_counts_cells g_this_counts_cells (0 : Int32) (1 : Int32) r17 hr) h [1, 2] rfl rfl rfl rfl rfl ⟨rfl, rfl⟩ ⟨(Nat.le_of_ble_eq_true rfl), (Nat.le_of_ble_eq_true rfl)⟩ ⟨Nat.zero_le _, Nat.zero_le _⟩ (Nat.le_of_ble_eq_true rfl) (fun _ => rfl) (fun _ => rfl) (fun r17 h => ?_)
    cases h
    exact J_vret (pc := 20) C dX7_finish_20 hr ⟨rfl, rfl⟩
