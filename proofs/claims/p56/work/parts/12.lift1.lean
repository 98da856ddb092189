/-! printed by a program of ours out of the bytecode: decode rows, functions, walks -/
-- PointsLedger$Books.redeemable(I)I
theorem dX0_redeemable_0 : decode cX0_redeemable 0 = .ok (.aload_n 0, 1) := by decide +kernel
theorem dX0_redeemable_1 : decode cX0_redeemable 1 = .ok (.getfield 18, 3) := by decide +kernel
theorem dX0_redeemable_4 : decode cX0_redeemable 4 = .ok (.iload_n 1, 1) := by decide +kernel
theorem dX0_redeemable_5 : decode cX0_redeemable 5 = .ok (.bipush (-2), 2) := by decide +kernel
theorem dX0_redeemable_7 : decode cX0_redeemable 7 = .ok (.invokevirtual 127, 3) := by decide +kernel
theorem dX0_redeemable_10 : decode cX0_redeemable 10 = .ok (.aload_n 0, 1) := by decide +kernel
theorem dX0_redeemable_11 : decode cX0_redeemable 11 = .ok (.getfield 18, 3) := by decide +kernel
theorem dX0_redeemable_14 : decode cX0_redeemable 14 = .ok (.aload_n 0, 1) := by decide +kernel
theorem dX0_redeemable_15 : decode cX0_redeemable 15 = .ok (.iload_n 1, 1) := by decide +kernel
theorem dX0_redeemable_16 : decode cX0_redeemable 16 = .ok (.invokevirtual 131, 3) := by decide +kernel
theorem dX0_redeemable_19 : decode cX0_redeemable 19 = .ok (.bipush (-2), 2) := by decide +kernel
theorem dX0_redeemable_21 : decode cX0_redeemable 21 = .ok (.invokevirtual 127, 3) := by decide +kernel
theorem dX0_redeemable_24 : decode cX0_redeemable 24 = .ok (.iadd, 1) := by decide +kernel
theorem dX0_redeemable_25 : decode cX0_redeemable 25 = .ok (.ireturn, 1) := by decide +kernel
def f_X0_redeemable (N : Nat) (x1 : Int32) (n_this_cohorts_lists_cells : Nat) (n_this_cohorts_contributors_cells : Nat) (n_this_cohorts_points_cells : Nat) (n_this_homes_cells : Nat) (v_this_cohorts_size : Int32) (g_this_cohorts_lists_cells : Nat → Int32) (g_this_cohorts_contributors_cells : Nat → Int32) (g_this_cohorts_points_cells : Nat → Int32) (g_this_homes_cells : Nat → Int32) : Option (Int32) :=
  ((f_X1_sum N x1 (-2 : Int32) n_this_cohorts_lists_cells n_this_cohorts_contributors_cells n_this_cohorts_points_cells v_this_cohorts_size g_this_cohorts_lists_cells g_this_cohorts_contributors_cells g_this_cohorts_points_cells).bind fun r7 => ((f_X0_poolOf x1 n_this_homes_cells g_this_homes_cells).bind fun r16 => ((f_X1_sum N r16 (-2 : Int32) n_this_cohorts_lists_cells n_this_cohorts_contributors_cells n_this_cohorts_points_cells v_this_cohorts_size g_this_cohorts_lists_cells g_this_cohorts_contributors_cells g_this_cohorts_points_cells).bind fun r21 => (some (r7 + r21)))))
set_option maxHeartbeats 4000000 in
set_option maxRecDepth 100000 in
theorem c_X0_redeemable (l : Launch) (D : va_G) (cI cB cL cO : ClassId) (pf : Nat → Nat) (N : Nat) (a_this a_this_setup a_this_cohorts a_this_purchases a_this_diary a_this_tiers a_this_belowSince a_this_debts a_this_homes a_this_qualifying a_this_shares a_this_redeemed a_this_totals a_this_losses a_this_balances a_this_standing a_this_cohorts_lists a_this_cohorts_days a_this_cohorts_contributors a_this_cohorts_points a_this_cohorts_lists_cells a_this_cohorts_contributors_cells a_this_cohorts_points_cells a_this_homes_cells : Nat) (n_this_cohorts_lists_cells : Nat) (n_this_cohorts_contributors_cells : Nat) (n_this_cohorts_points_cells : Nat) (n_this_homes_cells : Nat) (v_this_day : Int32) (v_this_windowStart : Int32) (v_this_cohorts_size : Int32) (g_this_cohorts_lists_cells : Nat → Int32) (g_this_cohorts_contributors_cells : Nat → Int32) (g_this_cohorts_points_cells : Nat → Int32) (g_this_homes_cells : Nat → Int32) (x1 : Int32) (o : Int32) (h : f_X0_redeemable N x1 n_this_cohorts_lists_cells n_this_cohorts_contributors_cells n_this_cohorts_points_cells n_this_homes_cells v_this_cohorts_size g_this_cohorts_lists_cells g_this_cohorts_contributors_cells g_this_cohorts_points_cells g_this_homes_cells = some o) : Ct l D [(cI, .int), (cB, .byte), (cL, .byte), (cO, .object RX0)] pf yX0_redeemable cX0_redeemable 2 (some FieldType.int) { frames := 3, cells := 0, slots := 0, locals := 67 } [.ref a_this, .int x1] [(a_this, .inr (0, [.ref a_this_setup, .ref a_this_cohorts, .ref a_this_purchases, .ref a_this_diary, .ref a_this_tiers, .ref a_this_belowSince, .ref a_this_debts, .ref a_this_homes, .ref a_this_qualifying, .ref a_this_shares, .ref a_this_redeemed, .ref a_this_totals, .ref a_this_losses, .ref a_this_balances, .ref a_this_standing, .int v_this_day, .int v_this_windowStart])), (a_this_cohorts, .inr (1, [.ref a_this_cohorts_lists, .ref a_this_cohorts_days, .ref a_this_cohorts_contributors, .ref a_this_cohorts_points, .int v_this_cohorts_size])), (a_this_cohorts_lists, .inr (6, [.ref a_this_cohorts_lists_cells])), (a_this_cohorts_lists_cells, .inl (cI, n_this_cohorts_lists_cells, .inl g_this_cohorts_lists_cells)), (a_this_cohorts_contributors, .inr (6, [.ref a_this_cohorts_contributors_cells])), (a_this_cohorts_contributors_cells, .inl (cI, n_this_cohorts_contributors_cells, .inl g_this_cohorts_contributors_cells)), (a_this_cohorts_points, .inr (6, [.ref a_this_cohorts_points_cells])), (a_this_cohorts_points_cells, .inl (cI, n_this_cohorts_points_cells, .inl g_this_cohorts_points_cells)), (a_this_homes, .inr (6, [.ref a_this_homes_cells])), (a_this_homes_cells, .inl (cI, n_this_homes_cells, .inl g_this_homes_cells))] (is1 (some (.int o)) [(a_this, .inr (0, [.ref a_this_setup, .ref a_this_cohorts, .ref a_this_purchases, .ref a_this_diary, .ref a_this_tiers, .ref a_this_belowSince, .ref a_this_debts, .ref a_this_homes, .ref a_this_qualifying, .ref a_this_shares, .ref a_this_redeemed, .ref a_this_totals, .ref a_this_losses, .ref a_this_balances, .ref a_this_standing, .int v_this_day, .int v_this_windowStart])), (a_this_cohorts, .inr (1, [.ref a_this_cohorts_lists, .ref a_this_cohorts_days, .ref a_this_cohorts_contributors, .ref a_this_cohorts_points, .int v_this_cohorts_size])), (a_this_cohorts_lists, .inr (6, [.ref a_this_cohorts_lists_cells])), (a_this_cohorts_lists_cells, .inl (cI, n_this_cohorts_lists_cells, .inl g_this_cohorts_lists_cells)), (a_this_cohorts_contributors, .inr (6, [.ref a_this_cohorts_contributors_cells])), (a_this_cohorts_contributors_cells, .inl (cI, n_this_cohorts_contributors_cells, .inl g_this_cohorts_contributors_cells)), (a_this_cohorts_points, .inr (6, [.ref a_this_cohorts_points_cells])), (a_this_cohorts_points_cells, .inl (cI, n_this_cohorts_points_cells, .inl g_this_cohorts_points_cells)), (a_this_homes, .inr (6, [.ref a_this_homes_cells])), (a_this_homes_cells, .inl (cI, n_this_homes_cells, .inl g_this_homes_cells))]) := by
  refine Ct_of (own := RX0) (lv0 := [(0, .ref a_this), (1, .int x1)]) (by decide) rfl rfl (Nat.le_of_ble_eq_true rfl) ?_
  intro p e s m args below meth c C hr hnm
  unfold f_X0_redeemable at h
  refine J_aload_n (pc := 0) C dX0_redeemable_0 0 rfl ?_
  refine J_get (pc := 1) C dX0_redeemable_1 jf_X0 0 rfl rfl 1 (by decide) rfl fl_RX0_18 rfl ?_
  refine J_iload_n (pc := 4) C dX0_redeemable_4 1 rfl ?_
  refine J_bipush (v := (-2 : Int32)) (pc := 5) C dX0_redeemable_5 (by decide) ?_
  refine J_cvr (pc := 7) (As := [.int x1, .int (-2 : Int32)]) (st := []) C dX0_redeemable_7 ml_RX0_127 mi_yX1_sum (fun r7 hr => c_X1_sum l D cI cB cL cO pf N a_this_cohorts a_this_cohorts_lists a_this_cohorts_days a_this_cohorts_contributors a_this_cohorts_points a_this_cohorts_lists_cells a_this_cohorts_contributors_cells a_this_cohorts_points_cells n_this_cohorts_lists_cells n_this_cohorts_contributors_cells n_this_cohorts_points_cells v_this_cohorts_size g_this_cohorts_lists_cells g_this_cohorts_contributors_cells g_this_cohorts_points_cells x1 (-2 : Int32) r7 hr) h [1, 2, 3, 4, 5, 6, 7] rfl rfl rfl rfl rfl ⟨rfl, rfl⟩ ⟨(Nat.le_of_ble_eq_true rfl), (Nat.le_of_ble_eq_true rfl)⟩ ⟨Nat.zero_le _, Nat.zero_le _⟩ (Nat.le_of_ble_eq_true rfl) (fun r7 h => ?_)
  refine J_aload_n (pc := 10) C dX0_redeemable_10 0 rfl ?_
  refine J_get (pc := 11) C dX0_redeemable_11 jf_X0 0 rfl rfl 1 (by decide) rfl fl_RX0_18 rfl ?_
  refine J_aload_n (pc := 14) C dX0_redeemable_14 0 rfl ?_
  refine J_iload_n (pc := 15) C dX0_redeemable_15 1 rfl ?_
  refine J_cvr (pc := 16) (As := [.int x1]) (st := [.ref a_this_cohorts, .int r7]) C dX0_redeemable_16 ml_RX0_131 mi_yX0_poolOf (fun r16 hr => c_X0_poolOf l D cI cB cL cO pf 0 a_this a_this_setup a_this_cohorts a_this_purchases a_this_diary a_this_tiers a_this_belowSince a_this_debts a_this_homes a_this_qualifying a_this_shares a_this_redeemed a_this_totals a_this_losses a_this_balances a_this_standing a_this_homes_cells n_this_homes_cells v_this_day v_this_windowStart g_this_homes_cells x1 r16 hr) h [0, 8, 9] rfl rfl rfl rfl rfl ⟨rfl, rfl⟩ ⟨(Nat.le_of_ble_eq_true rfl), (Nat.le_of_ble_eq_true rfl)⟩ ⟨Nat.zero_le _, Nat.zero_le _⟩ (Nat.le_of_ble_eq_true rfl) (fun r16 h => ?_)
  refine J_bipush (v := (-2 : Int32)) (pc := 19) C dX0_redeemable_19 (by decide) ?_
  refine J_cvr (pc := 21) (As := [.int r16, .int (-2 : Int32)]) (st := [.int r7]) C dX0_redeemable_21 ml_RX0_127 mi_yX1_sum (fun r21 hr => c_X1_sum l D cI cB cL cO pf N a_this_cohorts a_this_cohorts_lists a_this_cohorts_days a_this_cohorts_contributors a_this_cohorts_points a_this_cohorts_lists_cells a_this_cohorts_contributors_cells a_this_cohorts_points_cells n_this_cohorts_lists_cells n_this_cohorts_contributors_cells n_this_cohorts_points_cells v_this_cohorts_size g_this_cohorts_lists_cells g_this_cohorts_contributors_cells g_this_cohorts_points_cells r16 (-2 : Int32) r21 hr) h [1, 2, 3, 4, 5, 6, 7] rfl rfl rfl rfl rfl ⟨rfl, rfl⟩ ⟨(Nat.le_of_ble_eq_true rfl), (Nat.le_of_ble_eq_true rfl)⟩ ⟨Nat.zero_le _, Nat.zero_le _⟩ (Nat.le_of_ble_eq_true rfl) (fun r21 h => ?_)
  refine J_iadd (pc := 24) C dX0_redeemable_24 ?_
  cases h
  exact J_iret (pc := 25) C dX0_redeemable_25 hr ⟨rfl, rfl⟩
-- PointsLedger$Setup.count(I)I
theorem dX7_count_0 : decode cX7_count 0 = .ok (.aload_n 0, 1) := by decide +kernel
theorem dX7_count_1 : decode cX7_count 1 = .ok (.getfield 14, 3) := by decide +kernel
theorem dX7_count_4 : decode cX7_count 4 = .ok (.iload_n 1, 1) := by decide +kernel
theorem dX7_count_5 : decode cX7_count 5 = .ok (.invokevirtual 69, 3) := by decide +kernel
theorem dX7_count_8 : decode cX7_count 8 = .ok (.ireturn, 1) := by decide +kernel
def f_X7_count (x1 : Int32) (n_this_counts_cells : Nat) (g_this_counts_cells : Nat → Int32) : Option (Int32) :=
  ((f_X6_at x1 n_this_counts_cells g_this_counts_cells).bind fun r5 => (some r5))
set_option maxHeartbeats 4000000 in
set_option maxRecDepth 100000 in
theorem c_X7_count (l : Launch) (D : va_G) (cI cB cL cO : ClassId) (pf : Nat → Nat) (N : Nat) (a_this a_this_counts a_this_names a_this_thresholds a_this_bonuses a_this_rates a_this_caps a_this_promoCategories a_this_promoFirstDays a_this_promoLastDays a_this_promoExtras a_this_shares a_this_counts_cells : Nat) (n_this_counts_cells : Nat) (v_this_life : Int32) (v_this_window : Int32) (v_this_grace : Int32) (g_this_counts_cells : Nat → Int32) (x1 : Int32) (o : Int32) (h : f_X7_count x1 n_this_counts_cells g_this_counts_cells = some o) : Ct l D [(cI, .int), (cB, .byte), (cL, .byte), (cO, .object RX0)] pf yX7_count cX7_count 2 (some FieldType.int) { frames := 1, cells := 0, slots := 0, locals := 21 } [.ref a_this, .int x1] [(a_this, .inr (7, [.ref a_this_counts, .ref a_this_names, .ref a_this_thresholds, .ref a_this_bonuses, .ref a_this_rates, .ref a_this_caps, .ref a_this_promoCategories, .ref a_this_promoFirstDays, .ref a_this_promoLastDays, .ref a_this_promoExtras, .ref a_this_shares, .int v_this_life, .int v_this_window, .int v_this_grace])), (a_this_counts, .inr (6, [.ref a_this_counts_cells])), (a_this_counts_cells, .inl (cI, n_this_counts_cells, .inl g_this_counts_cells))] (is1 (some (.int o)) [(a_this, .inr (7, [.ref a_this_counts, .ref a_this_names, .ref a_this_thresholds, .ref a_this_bonuses, .ref a_this_rates, .ref a_this_caps, .ref a_this_promoCategories, .ref a_this_promoFirstDays, .ref a_this_promoLastDays, .ref a_this_promoExtras, .ref a_this_shares, .int v_this_life, .int v_this_window, .int v_this_grace])), (a_this_counts, .inr (6, [.ref a_this_counts_cells])), (a_this_counts_cells, .inl (cI, n_this_counts_cells, .inl g_this_counts_cells))]) := by
  refine Ct_of (own := RX7) (lv0 := [(0, .ref a_this), (1, .int x1)]) (by decide) rfl rfl (Nat.le_of_ble_eq_true rfl) ?_
  intro p e s m args below meth c C hr hnm
  unfold f_X7_count at h
  refine J_aload_n (pc := 0) C dX7_count_0 0 rfl ?_
  refine J_get (pc := 1) C dX7_count_1 jf_X7 0 rfl rfl 0 (by decide) rfl fl_RX7_14 rfl ?_
  refine J_iload_n (pc := 4) C dX7_count_4 1 rfl ?_
  refine J_cvr (pc := 5) (As := [.int x1]) (st := []) C dX7_count_5 ml_RX7_69 mi_yX6_at (fun r5 hr => c_X6_at l D cI cB cL cO pf 0 a_this_counts a_this_counts_cells n_this_counts_cells g_this_counts_cells x1 r5 hr) h [1, 2] rfl rfl rfl rfl rfl ⟨rfl, rfl⟩ ⟨(Nat.le_of_ble_eq_true rfl), (Nat.le_of_ble_eq_true rfl)⟩ ⟨Nat.zero_le _, Nat.zero_le _⟩ (Nat.le_of_ble_eq_true rfl) (fun r5 h => ?_)
  cases h
  exact J_iret (pc := 8) C dX7_count_8 hr ⟨rfl, rfl⟩
-- PointsLedger$Books.memberBits(I)I
theorem dX0_memberBits_0 : decode cX0_memberBits 0 = .ok (.iconst 0, 1) := by decide +kernel
theorem dX0_memberBits_1 : decode cX0_memberBits 1 = .ok (.istore_n 2, 1) := by decide +kernel
theorem dX0_memberBits_2 : decode cX0_memberBits 2 = .ok (.iconst 0, 1) := by decide +kernel
theorem dX0_memberBits_3 : decode cX0_memberBits 3 = .ok (.istore_n 3, 1) := by decide +kernel
theorem dX0_memberBits_4 : decode cX0_memberBits 4 = .ok (.iload_n 3, 1) := by decide +kernel
theorem dX0_memberBits_5 : decode cX0_memberBits 5 = .ok (.aload_n 0, 1) := by decide +kernel
theorem dX0_memberBits_6 : decode cX0_memberBits 6 = .ok (.getfield 9, 3) := by decide +kernel
theorem dX0_memberBits_9 : decode cX0_memberBits 9 = .ok (.iconst 3, 1) := by decide +kernel
theorem dX0_memberBits_10 : decode cX0_memberBits 10 = .ok (.invokevirtual 134, 3) := by decide +kernel
theorem dX0_memberBits_13 : decode cX0_memberBits 13 = .ok (.if_icmp .ge 27, 3) := by decide +kernel
theorem dX0_memberBits_16 : decode cX0_memberBits 16 = .ok (.aload_n 0, 1) := by decide +kernel
theorem dX0_memberBits_17 : decode cX0_memberBits 17 = .ok (.getfield 51, 3) := by decide +kernel
theorem dX0_memberBits_20 : decode cX0_memberBits 20 = .ok (.iload_n 3, 1) := by decide +kernel
theorem dX0_memberBits_21 : decode cX0_memberBits 21 = .ok (.invokevirtual 121, 3) := by decide +kernel
theorem dX0_memberBits_24 : decode cX0_memberBits 24 = .ok (.iload_n 1, 1) := by decide +kernel
theorem dX0_memberBits_25 : decode cX0_memberBits 25 = .ok (.if_icmp .ne 9, 3) := by decide +kernel
theorem dX0_memberBits_28 : decode cX0_memberBits 28 = .ok (.iload_n 2, 1) := by decide +kernel
theorem dX0_memberBits_29 : decode cX0_memberBits 29 = .ok (.iconst 1, 1) := by decide +kernel
theorem dX0_memberBits_30 : decode cX0_memberBits 30 = .ok (.iload_n 3, 1) := by decide +kernel
theorem dX0_memberBits_31 : decode cX0_memberBits 31 = .ok (.ishl, 1) := by decide +kernel
theorem dX0_memberBits_32 : decode cX0_memberBits 32 = .ok (.ior, 1) := by decide +kernel
theorem dX0_memberBits_33 : decode cX0_memberBits 33 = .ok (.istore_n 2, 1) := by decide +kernel
theorem dX0_memberBits_34 : decode cX0_memberBits 34 = .ok (.iinc 3 1, 3) := by decide +kernel
theorem dX0_memberBits_37 : decode cX0_memberBits 37 = .ok (.goto (-33), 3) := by decide +kernel
theorem dX0_memberBits_40 : decode cX0_memberBits 40 = .ok (.iload_n 2, 1) := by decide +kernel
theorem dX0_memberBits_41 : decode cX0_memberBits 41 = .ok (.ireturn, 1) := by decide +kernel
def f_X0_memberBits_b4 (x1 : Int32) (n_this_setup_counts_cells : Nat) (n_this_homes_cells : Nat) (g_this_setup_counts_cells : Nat → Int32) (g_this_homes_cells : Nat → Int32) : Nat → (Int32) → (Int32) → Option (Int32)
  | 0, _, _ => none
  | n + 1, x2, x3 => ((f_X7_count (3 : Int32) n_this_setup_counts_cells g_this_setup_counts_cells).bind fun r10 => (if r10 ≤ x3 then (some x2) else ((f_X6_at x3 n_this_homes_cells g_this_homes_cells).bind fun r21 => (if r21 = x1 then ((some (x2 ||| ((1 : Int32) <<< (x3 &&& 31)))).bind fun y33 => ((some (x3 + (1 : Int32))).bind fun y34 => (f_X0_memberBits_b4 x1 n_this_setup_counts_cells n_this_homes_cells g_this_setup_counts_cells g_this_homes_cells n y33 y34))) else ((some (x3 + (1 : Int32))).bind fun y34 => (f_X0_memberBits_b4 x1 n_this_setup_counts_cells n_this_homes_cells g_this_setup_counts_cells g_this_homes_cells n x2 y34))))))
def f_X0_memberBits (N : Nat) (x1 : Int32) (n_this_setup_counts_cells : Nat) (n_this_homes_cells : Nat) (g_this_setup_counts_cells : Nat → Int32) (g_this_homes_cells : Nat → Int32) : Option (Int32) :=
  (f_X0_memberBits_b4 x1 n_this_setup_counts_cells n_this_homes_cells g_this_setup_counts_cells g_this_homes_cells N (0 : Int32) (0 : Int32))
set_option maxHeartbeats 4000000 in
set_option maxRecDepth 100000 in
theorem t_X0_memberBits_b4 {l : Launch} {D : va_G} {cI cB cL cO : ClassId} {pf : Nat → Nat} {p : Program} {e : Env} {s : State} {m : MethodId} {args : Array Value} {below : List Frame} {meth : Method} {c : Code} {W0 : va_W} {a_this a_this_setup a_this_cohorts a_this_purchases a_this_diary a_this_tiers a_this_belowSince a_this_debts a_this_homes a_this_qualifying a_this_shares a_this_redeemed a_this_totals a_this_losses a_this_balances a_this_standing a_this_setup_counts a_this_setup_names a_this_setup_thresholds a_this_setup_bonuses a_this_setup_rates a_this_setup_caps a_this_setup_promoCategories a_this_setup_promoFirstDays a_this_setup_promoLastDays a_this_setup_promoExtras a_this_setup_shares a_this_setup_counts_cells a_this_homes_cells : Nat}  {n_this_setup_counts_cells : Nat} {n_this_homes_cells : Nat} {v_this_day : Int32} {v_this_windowStart : Int32} {v_this_setup_life : Int32} {v_this_setup_window : Int32} {v_this_setup_grace : Int32} {g_this_setup_counts_cells : Nat → Int32} {g_this_homes_cells : Nat → Int32} {x1 : Int32} {o : Int32} (C : jC p s m args meth c cX0_memberBits 4 RX0 D [(cI, .int), (cB, .byte), (cL, .byte), (cO, .object RX0)] pf (va_A W0 s.heap.size)) (hr : meth.sig.returnType = (some FieldType.int)) : ∀ (n : Nat) (x2 : Int32) (x3 : Int32), f_X0_memberBits_b4 x1 n_this_setup_counts_cells n_this_homes_cells g_this_setup_counts_cells g_this_homes_cells n x2 x3 = some o → J p l e { frames := 2, cells := 0, slots := 0, locals := 42 } s m args below meth c 4 D (va_A W0 s.heap.size) (MQ below (jQ D [(cI, .int), (cB, .byte), (cL, .byte), (cO, .object RX0)] W0 s.heap.size (is1 (some (.int o)) [(a_this, .inr (0, [.ref a_this_setup, .ref a_this_cohorts, .ref a_this_purchases, .ref a_this_diary, .ref a_this_tiers, .ref a_this_belowSince, .ref a_this_debts, .ref a_this_homes, .ref a_this_qualifying, .ref a_this_shares, .ref a_this_redeemed, .ref a_this_totals, .ref a_this_losses, .ref a_this_balances, .ref a_this_standing, .int v_this_day, .int v_this_windowStart])), (a_this_setup, .inr (7, [.ref a_this_setup_counts, .ref a_this_setup_names, .ref a_this_setup_thresholds, .ref a_this_setup_bonuses, .ref a_this_setup_rates, .ref a_this_setup_caps, .ref a_this_setup_promoCategories, .ref a_this_setup_promoFirstDays, .ref a_this_setup_promoLastDays, .ref a_this_setup_promoExtras, .ref a_this_setup_shares, .int v_this_setup_life, .int v_this_setup_window, .int v_this_setup_grace])), (a_this_setup_counts, .inr (6, [.ref a_this_setup_counts_cells])), (a_this_setup_counts_cells, .inl (cI, n_this_setup_counts_cells, .inl g_this_setup_counts_cells)), (a_this_homes, .inr (6, [.ref a_this_homes_cells])), (a_this_homes_cells, .inl (cI, n_this_homes_cells, .inl g_this_homes_cells))])) args s 0 0 (va_A W0 s.heap.size)) 0 0 4 [(0, .ref a_this), (1, .int x1), (2, .int x2), (3, .int x3)] [] [(a_this, .inr (0, [.ref a_this_setup, .ref a_this_cohorts, .ref a_this_purchases, .ref a_this_diary, .ref a_this_tiers, .ref a_this_belowSince, .ref a_this_debts, .ref a_this_homes, .ref a_this_qualifying, .ref a_this_shares, .ref a_this_redeemed, .ref a_this_totals, .ref a_this_losses, .ref a_this_balances, .ref a_this_standing, .int v_this_day, .int v_this_windowStart])), (a_this_setup, .inr (7, [.ref a_this_setup_counts, .ref a_this_setup_names, .ref a_this_setup_thresholds, .ref a_this_setup_bonuses, .ref a_this_setup_rates, .ref a_this_setup_caps, .ref a_this_setup_promoCategories, .ref a_this_setup_promoFirstDays, .ref a_this_setup_promoLastDays, .ref a_this_setup_promoExtras, .ref a_this_setup_shares, .int v_this_setup_life, .int v_this_setup_window, .int v_this_setup_grace])), (a_this_setup_counts, .inr (6, [.ref a_this_setup_counts_cells])), (a_this_setup_counts_cells, .inl (cI, n_this_setup_counts_cells, .inl g_this_setup_counts_cells)), (a_this_homes, .inr (6, [.ref a_this_homes_cells])), (a_this_homes_cells, .inl (cI, n_this_homes_cells, .inl g_this_homes_cells))] := by
  intro n
  induction n with
  | zero =>
    intro _ _ h
    rw [f_X0_memberBits_b4] at h
    cases h
  | succ n ih =>
    intro x2 x3 h
    rw [f_X0_memberBits_b4] at h
    refine J_iload_n (pc := 4) C dX0_memberBits_4 3 rfl ?_
    refine J_aload_n (pc := 5) C dX0_memberBits_5 0 rfl ?_
    refine J_get (pc := 6) C dX0_memberBits_6 jf_X0 0 rfl rfl 0 (by decide) rfl fl_RX0_9 rfl ?_
    refine J_iconst (v := (3 : Int32)) (pc := 9) C dX0_memberBits_9 (by decide) ?_
    refine J_cvr (pc := 10) (As := [.int (3 : Int32)]) (st := [.int x3]) C dX0_memberBits_10 ml_RX0_134 mi_yX7_count (fun r10 hr => c_X7_count l D cI cB cL cO pf 0 a_this_setup a_this_setup_counts a_this_setup_names a_this_setup_thresholds a_this_setup_bonuses a_this_setup_rates a_this_setup_caps a_this_setup_promoCategories a_this_setup_promoFirstDays a_this_setup_promoLastDays a_this_setup_promoExtras a_this_setup_shares a_this_setup_counts_cells n_this_setup_counts_cells v_this_setup_life v_this_setup_window v_this_setup_grace g_this_setup_counts_cells (3 : Int32) r10 hr) h [1, 2, 3] rfl rfl rfl rfl rfl ⟨rfl, rfl⟩ ⟨(Nat.le_of_ble_eq_true rfl), (Nat.le_of_ble_eq_true rfl)⟩ ⟨Nat.zero_le _, Nat.zero_le _⟩ (Nat.le_of_ble_eq_true rfl) (fun r10 h => ?_)
    refine J_ic_ge (pc := 13) (tgt := 40) C dX0_memberBits_13 (by decide) h (fun h => ?_) (fun h => ?_)
    · refine J_iload_n (pc := 40) C dX0_memberBits_40 2 rfl ?_
      cases h
      exact J_iret (pc := 41) C dX0_memberBits_41 hr ⟨rfl, rfl⟩
    · refine J_aload_n (pc := 16) C dX0_memberBits_16 0 rfl ?_
      refine J_get (pc := 17) C dX0_memberBits_17 jf_X0 0 rfl rfl 7 (by decide) rfl fl_RX0_51 rfl ?_
      refine J_iload_n (pc := 20) C dX0_memberBits_20 3 rfl ?_
      refine J_cvr (pc := 21) (As := [.int x3]) (st := []) C dX0_memberBits_21 ml_RX0_121 mi_yX6_at (fun r21 hr => c_X6_at l D cI cB cL cO pf 0 a_this_homes a_this_homes_cells n_this_homes_cells g_this_homes_cells x3 r21 hr) h [4, 5] rfl rfl rfl rfl rfl ⟨rfl, rfl⟩ ⟨(Nat.le_of_ble_eq_true rfl), (Nat.le_of_ble_eq_true rfl)⟩ ⟨Nat.zero_le _, Nat.zero_le _⟩ (Nat.le_of_ble_eq_true rfl) (fun r21 h => ?_)
      refine J_iload_n (pc := 24) C dX0_memberBits_24 1 rfl ?_
      refine J_ic_ne (pc := 25) (tgt := 34) C dX0_memberBits_25 (by decide) h (fun h => ?_) (fun h => ?_)
      · refine J_iincN (pc := 34) (v := (1 : Int32)) C (fun y34 => [(3, .int y34), (0, .ref a_this), (1, .int x1), (2, .int x2)]) dX0_memberBits_34 3 rfl (by decide) h (by decide) (fun _ => rfl) (fun y34 h => ?_)
        refine J_goto (tgt := 4) (pc := 37) C dX0_memberBits_37 (by decide) ?_
        refine J_sub (lv2 := [(0, .ref a_this), (1, .int x1), (2, .int x2), (3, .int y34)]) [1, 2, 3, 0] rfl ?_
        exact ih _ _ h
      · refine J_iload_n (pc := 28) C dX0_memberBits_28 2 rfl ?_
        refine J_iconst (v := (1 : Int32)) (pc := 29) C dX0_memberBits_29 (by decide) ?_
        refine J_iload_n (pc := 30) C dX0_memberBits_30 3 rfl ?_
        refine J_ishl (pc := 31) C dX0_memberBits_31 ?_
        refine J_ior (pc := 32) C dX0_memberBits_32 ?_
        refine J_istore_nN (pc := 33) C (fun y33 => [(2, .int y33), (0, .ref a_this), (1, .int x1), (3, .int x3)]) dX0_memberBits_33 h (by decide) (fun _ => rfl) (fun y33 h => ?_)
        refine J_iincN (pc := 34) (v := (1 : Int32)) C (fun y34 => [(3, .int y34), (2, .int y33), (0, .ref a_this), (1, .int x1)]) dX0_memberBits_34 3 rfl (by decide) h (by decide) (fun _ => rfl) (fun y34 h => ?_)
        refine J_goto (tgt := 4) (pc := 37) C dX0_memberBits_37 (by decide) ?_
        refine J_sub (lv2 := [(0, .ref a_this), (1, .int x1), (2, .int y33), (3, .int y34)]) [2, 3, 1, 0] rfl ?_
        exact ih _ _ h
set_option maxHeartbeats 4000000 in
set_option maxRecDepth 100000 in
theorem c_X0_memberBits (l : Launch) (D : va_G) (cI cB cL cO : ClassId) (pf : Nat → Nat) (N : Nat) (a_this a_this_setup a_this_cohorts a_this_purchases a_this_diary a_this_tiers a_this_belowSince a_this_debts a_this_homes a_this_qualifying a_this_shares a_this_redeemed a_this_totals a_this_losses a_this_balances a_this_standing a_this_setup_counts a_this_setup_names a_this_setup_thresholds a_this_setup_bonuses a_this_setup_rates a_this_setup_caps a_this_setup_promoCategories a_this_setup_promoFirstDays a_this_setup_promoLastDays a_this_setup_promoExtras a_this_setup_shares a_this_setup_counts_cells a_this_homes_cells : Nat) (n_this_setup_counts_cells : Nat) (n_this_homes_cells : Nat) (v_this_day : Int32) (v_this_windowStart : Int32) (v_this_setup_life : Int32) (v_this_setup_window : Int32) (v_this_setup_grace : Int32) (g_this_setup_counts_cells : Nat → Int32) (g_this_homes_cells : Nat → Int32) (x1 : Int32) (o : Int32) (h : f_X0_memberBits N x1 n_this_setup_counts_cells n_this_homes_cells g_this_setup_counts_cells g_this_homes_cells = some o) : Ct l D [(cI, .int), (cB, .byte), (cL, .byte), (cO, .object RX0)] pf yX0_memberBits cX0_memberBits 4 (some FieldType.int) { frames := 2, cells := 0, slots := 0, locals := 42 } [.ref a_this, .int x1] [(a_this, .inr (0, [.ref a_this_setup, .ref a_this_cohorts, .ref a_this_purchases, .ref a_this_diary, .ref a_this_tiers, .ref a_this_belowSince, .ref a_this_debts, .ref a_this_homes, .ref a_this_qualifying, .ref a_this_shares, .ref a_this_redeemed, .ref a_this_totals, .ref a_this_losses, .ref a_this_balances, .ref a_this_standing, .int v_this_day, .int v_this_windowStart])), (a_this_setup, .inr (7, [.ref a_this_setup_counts, .ref a_this_setup_names, .ref a_this_setup_thresholds, .ref a_this_setup_bonuses, .ref a_this_setup_rates, .ref a_this_setup_caps, .ref a_this_setup_promoCategories, .ref a_this_setup_promoFirstDays, .ref a_this_setup_promoLastDays, .ref a_this_setup_promoExtras, .ref a_this_setup_shares, .int v_this_setup_life, .int v_this_setup_window, .int v_this_setup_grace])), (a_this_setup_counts, .inr (6, [.ref a_this_setup_counts_cells])), (a_this_setup_counts_cells, .inl (cI, n_this_setup_counts_cells, .inl g_this_setup_counts_cells)), (a_this_homes, .inr (6, [.ref a_this_homes_cells])), (a_this_homes_cells, .inl (cI, n_this_homes_cells, .inl g_this_homes_cells))] (is1 (some (.int o)) [(a_this, .inr (0, [.ref a_this_setup, .ref a_this_cohorts, .ref a_this_purchases, .ref a_this_diary, .ref a_this_tiers, .ref a_this_belowSince, .ref a_this_debts, .ref a_this_homes, .ref a_this_qualifying, .ref a_this_shares, .ref a_this_redeemed, .ref a_this_totals, .ref a_this_losses, .ref a_this_balances, .ref a_this_standing, .int v_this_day, .int v_this_windowStart])), (a_this_setup, .inr (7, [.ref a_this_setup_counts, .ref a_this_setup_names, .ref a_this_setup_thresholds, .ref a_this_setup_bonuses, .ref a_this_setup_rates, .ref a_this_setup_caps, .ref a_this_setup_promoCategories, .ref a_this_setup_promoFirstDays, .ref a_this_setup_promoLastDays, .ref a_this_setup_promoExtras, .ref a_this_setup_shares, .int v_this_setup_life, .int v_this_setup_window, .int v_this_setup_grace])), (a_this_setup_counts, .inr (6, [.ref a_this_setup_counts_cells])), (a_this_setup_counts_cells, .inl (cI, n_this_setup_counts_cells, .inl g_this_setup_counts_cells)), (a_this_homes, .inr (6, [.ref a_this_homes_cells])), (a_this_homes_cells, .inl (cI, n_this_homes_cells, .inl g_this_homes_cells))]) := by
  refine Ct_of (own := RX0) (lv0 := [(0, .ref a_this), (1, .int x1)]) (by decide) rfl rfl (Nat.le_of_ble_eq_true rfl) ?_
  intro p e s m args below meth c C hr hnm
  unfold f_X0_memberBits at h
  refine J_iconst (v := (0 : Int32)) (pc := 0) C dX0_memberBits_0 (by decide) ?_
  refine J_istore_n (lv2 := [(2, .int (0 : Int32)), (0, .ref a_this), (1, .int x1)]) (pc := 1) C dX0_memberBits_1 (by decide) rfl ?_
  refine J_iconst (v := (0 : Int32)) (pc := 2) C dX0_memberBits_2 (by decide) ?_
  refine J_istore_n (lv2 := [(3, .int (0 : Int32)), (2, .int (0 : Int32)), (0, .ref a_this), (1, .int x1)]) (pc := 3) C dX0_memberBits_3 (by decide) rfl ?_
  refine J_sub (lv2 := [(0, .ref a_this), (1, .int x1), (2, .int (0 : Int32)), (3, .int (0 : Int32))]) [2, 3, 1, 0] rfl ?_
  exact t_X0_memberBits_b4 C hr N _ _ h
-- java/lang/Integer.bitCount(I)I
theorem dJ6_bitCount_0f7a4_0 : decode cJ6_bitCount_0f7a4 0 = .ok (.iload_n 0, 1) := by decide +kernel
theorem dJ6_bitCount_0f7a4_1 : decode cJ6_bitCount_0f7a4 1 = .ok (.iload_n 0, 1) := by decide +kernel
theorem dJ6_bitCount_0f7a4_2 : decode cJ6_bitCount_0f7a4 2 = .ok (.iconst 1, 1) := by decide +kernel
theorem dJ6_bitCount_0f7a4_3 : decode cJ6_bitCount_0f7a4 3 = .ok (.iushr, 1) := by decide +kernel
theorem dJ6_bitCount_0f7a4_4 : decode cJ6_bitCount_0f7a4 4 = .ok (.ldc_w 265, 3) := by decide +kernel
theorem dJ6_bitCount_0f7a4_7 : decode cJ6_bitCount_0f7a4 7 = .ok (.iand, 1) := by decide +kernel
theorem dJ6_bitCount_0f7a4_8 : decode cJ6_bitCount_0f7a4 8 = .ok (.isub, 1) := by decide +kernel
theorem dJ6_bitCount_0f7a4_9 : decode cJ6_bitCount_0f7a4 9 = .ok (.istore_n 0, 1) := by decide +kernel
theorem dJ6_bitCount_0f7a4_10 : decode cJ6_bitCount_0f7a4 10 = .ok (.iload_n 0, 1) := by decide +kernel
theorem dJ6_bitCount_0f7a4_11 : decode cJ6_bitCount_0f7a4 11 = .ok (.ldc_w 266, 3) := by decide +kernel
theorem dJ6_bitCount_0f7a4_14 : decode cJ6_bitCount_0f7a4 14 = .ok (.iand, 1) := by decide +kernel
theorem dJ6_bitCount_0f7a4_15 : decode cJ6_bitCount_0f7a4 15 = .ok (.iload_n 0, 1) := by decide +kernel
theorem dJ6_bitCount_0f7a4_16 : decode cJ6_bitCount_0f7a4 16 = .ok (.iconst 2, 1) := by decide +kernel
theorem dJ6_bitCount_0f7a4_17 : decode cJ6_bitCount_0f7a4 17 = .ok (.iushr, 1) := by decide +kernel
theorem dJ6_bitCount_0f7a4_18 : decode cJ6_bitCount_0f7a4 18 = .ok (.ldc_w 266, 3) := by decide +kernel
theorem dJ6_bitCount_0f7a4_21 : decode cJ6_bitCount_0f7a4 21 = .ok (.iand, 1) := by decide +kernel
theorem dJ6_bitCount_0f7a4_22 : decode cJ6_bitCount_0f7a4 22 = .ok (.iadd, 1) := by decide +kernel
theorem dJ6_bitCount_0f7a4_23 : decode cJ6_bitCount_0f7a4 23 = .ok (.istore_n 0, 1) := by decide +kernel
theorem dJ6_bitCount_0f7a4_24 : decode cJ6_bitCount_0f7a4 24 = .ok (.iload_n 0, 1) := by decide +kernel
theorem dJ6_bitCount_0f7a4_25 : decode cJ6_bitCount_0f7a4 25 = .ok (.iload_n 0, 1) := by decide +kernel
theorem dJ6_bitCount_0f7a4_26 : decode cJ6_bitCount_0f7a4 26 = .ok (.iconst 4, 1) := by decide +kernel
theorem dJ6_bitCount_0f7a4_27 : decode cJ6_bitCount_0f7a4 27 = .ok (.iushr, 1) := by decide +kernel
theorem dJ6_bitCount_0f7a4_28 : decode cJ6_bitCount_0f7a4 28 = .ok (.iadd, 1) := by decide +kernel
theorem dJ6_bitCount_0f7a4_29 : decode cJ6_bitCount_0f7a4 29 = .ok (.ldc_w 267, 3) := by decide +kernel
theorem dJ6_bitCount_0f7a4_32 : decode cJ6_bitCount_0f7a4 32 = .ok (.iand, 1) := by decide +kernel
theorem dJ6_bitCount_0f7a4_33 : decode cJ6_bitCount_0f7a4 33 = .ok (.istore_n 0, 1) := by decide +kernel
theorem dJ6_bitCount_0f7a4_34 : decode cJ6_bitCount_0f7a4 34 = .ok (.iload_n 0, 1) := by decide +kernel
theorem dJ6_bitCount_0f7a4_35 : decode cJ6_bitCount_0f7a4 35 = .ok (.iload_n 0, 1) := by decide +kernel
theorem dJ6_bitCount_0f7a4_36 : decode cJ6_bitCount_0f7a4 36 = .ok (.bipush 8, 2) := by decide +kernel
theorem dJ6_bitCount_0f7a4_38 : decode cJ6_bitCount_0f7a4 38 = .ok (.iushr, 1) := by decide +kernel
theorem dJ6_bitCount_0f7a4_39 : decode cJ6_bitCount_0f7a4 39 = .ok (.iadd, 1) := by decide +kernel
theorem dJ6_bitCount_0f7a4_40 : decode cJ6_bitCount_0f7a4 40 = .ok (.istore_n 0, 1) := by decide +kernel
theorem dJ6_bitCount_0f7a4_41 : decode cJ6_bitCount_0f7a4 41 = .ok (.iload_n 0, 1) := by decide +kernel
theorem dJ6_bitCount_0f7a4_42 : decode cJ6_bitCount_0f7a4 42 = .ok (.iload_n 0, 1) := by decide +kernel
theorem dJ6_bitCount_0f7a4_43 : decode cJ6_bitCount_0f7a4 43 = .ok (.bipush 16, 2) := by decide +kernel
theorem dJ6_bitCount_0f7a4_45 : decode cJ6_bitCount_0f7a4 45 = .ok (.iushr, 1) := by decide +kernel
theorem dJ6_bitCount_0f7a4_46 : decode cJ6_bitCount_0f7a4 46 = .ok (.iadd, 1) := by decide +kernel
theorem dJ6_bitCount_0f7a4_47 : decode cJ6_bitCount_0f7a4 47 = .ok (.istore_n 0, 1) := by decide +kernel
theorem dJ6_bitCount_0f7a4_48 : decode cJ6_bitCount_0f7a4 48 = .ok (.iload_n 0, 1) := by decide +kernel
theorem dJ6_bitCount_0f7a4_49 : decode cJ6_bitCount_0f7a4 49 = .ok (.bipush 63, 2) := by decide +kernel
theorem dJ6_bitCount_0f7a4_51 : decode cJ6_bitCount_0f7a4 51 = .ok (.iand, 1) := by decide +kernel
theorem dJ6_bitCount_0f7a4_52 : decode cJ6_bitCount_0f7a4 52 = .ok (.ireturn, 1) := by decide +kernel
def f_J6_bitCount_0f7a4 (x0 : Int32) : Option (Int32) :=
  ((some (x0 - (((x0.toUInt32 >>> ((1 : Int32).toUInt32 &&& Int32.toUInt32 31)).toInt32) &&& (1431655765 : Int32)))).bind fun y9 => ((some ((y9 &&& (858993459 : Int32)) + (((y9.toUInt32 >>> ((2 : Int32).toUInt32 &&& Int32.toUInt32 31)).toInt32) &&& (858993459 : Int32)))).bind fun y23 => ((some ((y23 + ((y23.toUInt32 >>> ((4 : Int32).toUInt32 &&& Int32.toUInt32 31)).toInt32)) &&& (252645135 : Int32))).bind fun y33 => ((some (y33 + ((y33.toUInt32 >>> ((8 : Int32).toUInt32 &&& Int32.toUInt32 31)).toInt32))).bind fun y40 => ((some (y40 + ((y40.toUInt32 >>> ((16 : Int32).toUInt32 &&& Int32.toUInt32 31)).toInt32))).bind fun y47 => (some (y47 &&& (63 : Int32))))))))
set_option maxHeartbeats 4000000 in
set_option maxRecDepth 100000 in
theorem c_J6_bitCount_0f7a4 (l : Launch) (D : va_G) (cI cB cL cO : ClassId) (pf : Nat → Nat) (N : Nat) (x0 : Int32) (o : Int32) (h : f_J6_bitCount_0f7a4 x0 = some o) : Ct l D [(cI, .int), (cB, .byte), (cL, .byte), (cO, .object RX0)] pf yJ6_bitCount_0f7a4 cJ6_bitCount_0f7a4 1 (some FieldType.int) { frames := 0, cells := 0, slots := 0, locals := 0 } [.int x0] [] (is1 (some (.int o)) []) := by
  refine Ct_of (own := RJ6) (lv0 := [(0, .int x0)]) (by decide) rfl rfl (Nat.le_of_ble_eq_true rfl) ?_
  intro p e s m args below meth c C hr hnm
  unfold f_J6_bitCount_0f7a4 at h
  refine J_iload_n (pc := 0) C dJ6_bitCount_0f7a4_0 0 rfl ?_
  refine J_iload_n (pc := 1) C dJ6_bitCount_0f7a4_1 0 rfl ?_
  refine J_iconst (v := (1 : Int32)) (pc := 2) C dJ6_bitCount_0f7a4_2 (by decide) ?_
  refine J_iushr (pc := 3) C dJ6_bitCount_0f7a4_3 ?_
  refine J_ldcw (pc := 4) C dJ6_bitCount_0f7a4_4 cw_RJ6_265 ?_
  refine J_iand (pc := 7) C dJ6_bitCount_0f7a4_7 ?_
  refine J_isub (pc := 8) C dJ6_bitCount_0f7a4_8 ?_
  refine J_istore_nN (pc := 9) C (fun y9 => [(0, .int y9)]) dJ6_bitCount_0f7a4_9 h (by decide) (fun _ => rfl) (fun y9 h => ?_)
  refine J_iload_n (pc := 10) C dJ6_bitCount_0f7a4_10 0 rfl ?_
  refine J_ldcw (pc := 11) C dJ6_bitCount_0f7a4_11 cw_RJ6_266 ?_
  refine J_iand (pc := 14) C dJ6_bitCount_0f7a4_14 ?_
  refine J_iload_n (pc := 15) C dJ6_bitCount_0f7a4_15 0 rfl ?_
  refine J_iconst (v := (2 : Int32)) (pc := 16) C dJ6_bitCount_0f7a4_16 (by decide) ?_
  refine J_iushr (pc := 17) C dJ6_bitCount_0f7a4_17 ?_
  refine J_ldcw (pc := 18) C dJ6_bitCount_0f7a4_18 cw_RJ6_266 ?_
  refine J_iand (pc := 21) C dJ6_bitCount_0f7a4_21 ?_
  refine J_iadd (pc := 22) C dJ6_bitCount_0f7a4_22 ?_
  refine J_istore_nN (pc := 23) C (fun y23 => [(0, .int y23)]) dJ6_bitCount_0f7a4_23 h (by decide) (fun _ => rfl) (fun y23 h => ?_)
  refine J_iload_n (pc := 24) C dJ6_bitCount_0f7a4_24 0 rfl ?_
  refine J_iload_n (pc := 25) C dJ6_bitCount_0f7a4_25 0 rfl ?_
  refine J_iconst (v := (4 : Int32)) (pc := 26) C dJ6_bitCount_0f7a4_26 (by decide) ?_
  refine J_iushr (pc := 27) C dJ6_bitCount_0f7a4_27 ?_
  refine J_iadd (pc := 28) C dJ6_bitCount_0f7a4_28 ?_
  refine J_ldcw (pc := 29) C dJ6_bitCount_0f7a4_29 cw_RJ6_267 ?_
  refine J_iand (pc := 32) C dJ6_bitCount_0f7a4_32 ?_
  refine J_istore_nN (pc := 33) C (fun y33 => [(0, .int y33)]) dJ6_bitCount_0f7a4_33 h (by decide) (fun _ => rfl) (fun y33 h => ?_)
  refine J_iload_n (pc := 34) C dJ6_bitCount_0f7a4_34 0 rfl ?_
  refine J_iload_n (pc := 35) C dJ6_bitCount_0f7a4_35 0 rfl ?_
  refine J_bipush (v := (8 : Int32)) (pc := 36) C dJ6_bitCount_0f7a4_36 (by decide) ?_
  refine J_iushr (pc := 38) C dJ6_bitCount_0f7a4_38 ?_
  refine J_iadd (pc := 39) C dJ6_bitCount_0f7a4_39 ?_
  refine J_istore_nN (pc := 40) C (fun y40 => [(0, .int y40)]) dJ6_bitCount_0f7a4_40 h (by decide) (fun _ => rfl) (fun y40 h => ?_)
  refine J_iload_n (pc := 41) C dJ6_bitCount_0f7a4_41 0 rfl ?_
  refine J_iload_n (pc := 42) C dJ6_bitCount_0f7a4_42 0 rfl ?_
  refine J_bipush (v := (16 : Int32)) (pc := 43) C dJ6_bitCount_0f7a4_43 (by decide) ?_
  refine J_iushr (pc := 45) C dJ6_bitCount_0f7a4_45 ?_
  refine J_iadd (pc := 46) C dJ6_bitCount_0f7a4_46 ?_
  refine J_istore_nN (pc := 47) C (fun y47 => [(0, .int y47)]) dJ6_bitCount_0f7a4_47 h (by decide) (fun _ => rfl) (fun y47 h => ?_)
  refine J_iload_n (pc := 48) C dJ6_bitCount_0f7a4_48 0 rfl ?_
  refine J_bipush (v := (63 : Int32)) (pc := 49) C dJ6_bitCount_0f7a4_49 (by decide) ?_
  refine J_iand (pc := 51) C dJ6_bitCount_0f7a4_51 ?_
  cases h
  exact J_iret (pc := 52) C dJ6_bitCount_0f7a4_52 hr ⟨rfl, rfl⟩
-- PointsLedger$Books.peopleIn(I)I
theorem dX0_peopleIn_0 : decode cX0_peopleIn 0 = .ok (.aload_n 0, 1) := by decide +kernel
theorem dX0_peopleIn_1 : decode cX0_peopleIn 1 = .ok (.iload_n 1, 1) := by decide +kernel
theorem dX0_peopleIn_2 : decode cX0_peopleIn 2 = .ok (.invokevirtual 137, 3) := by decide +kernel
theorem dX0_peopleIn_5 : decode cX0_peopleIn 5 = .ok (.invokestatic 140, 3) := by decide +kernel
theorem dX0_peopleIn_8 : decode cX0_peopleIn 8 = .ok (.ireturn, 1) := by decide +kernel
def f_X0_peopleIn (N : Nat) (x1 : Int32) (n_this_setup_counts_cells : Nat) (n_this_homes_cells : Nat) (g_this_setup_counts_cells : Nat → Int32) (g_this_homes_cells : Nat → Int32) : Option (Int32) :=
  ((f_X0_memberBits N x1 n_this_setup_counts_cells n_this_homes_cells g_this_setup_counts_cells g_this_homes_cells).bind fun r2 => ((f_J6_bitCount_0f7a4 r2).bind fun r5 => (some r5)))
set_option maxHeartbeats 4000000 in
set_option maxRecDepth 100000 in
theorem c_X0_peopleIn (l : Launch) (D : va_G) (cI cB cL cO : ClassId) (pf : Nat → Nat) (N : Nat) (a_this a_this_setup a_this_cohorts a_this_purchases a_this_diary a_this_tiers a_this_belowSince a_this_debts a_this_homes a_this_qualifying a_this_shares a_this_redeemed a_this_totals a_this_losses a_this_balances a_this_standing a_this_setup_counts a_this_setup_names a_this_setup_thresholds a_this_setup_bonuses a_this_setup_rates a_this_setup_caps a_this_setup_promoCategories a_this_setup_promoFirstDays a_this_setup_promoLastDays a_this_setup_promoExtras a_this_setup_shares a_this_setup_counts_cells a_this_homes_cells : Nat) (n_this_setup_counts_cells : Nat) (n_this_homes_cells : Nat) (v_this_day : Int32) (v_this_windowStart : Int32) (v_this_setup_life : Int32) (v_this_setup_window : Int32) (v_this_setup_grace : Int32) (g_this_setup_counts_cells : Nat → Int32) (g_this_homes_cells : Nat → Int32) (x1 : Int32) (o : Int32) (h : f_X0_peopleIn N x1 n_this_setup_counts_cells n_this_homes_cells g_this_setup_counts_cells g_this_homes_cells = some o) : Ct l D [(cI, .int), (cB, .byte), (cL, .byte), (cO, .object RX0)] pf yX0_peopleIn cX0_peopleIn 2 (some FieldType.int) { frames := 3, cells := 0, slots := 0, locals := 65 } [.ref a_this, .int x1] [(a_this, .inr (0, [.ref a_this_setup, .ref a_this_cohorts, .ref a_this_purchases, .ref a_this_diary, .ref a_this_tiers, .ref a_this_belowSince, .ref a_this_debts, .ref a_this_homes, .ref a_this_qualifying, .ref a_this_shares, .ref a_this_redeemed, .ref a_this_totals, .ref a_this_losses, .ref a_this_balances, .ref a_this_standing, .int v_this_day, .int v_this_windowStart])), (a_this_setup, .inr (7, [.ref a_this_setup_counts, .ref a_this_setup_names, .ref a_this_setup_thresholds, .ref a_this_setup_bonuses, .ref a_this_setup_rates, .ref a_this_setup_caps, .ref a_this_setup_promoCategories, .ref a_this_setup_promoFirstDays, .ref a_this_setup_promoLastDays, .ref a_this_setup_promoExtras, .ref a_this_setup_shares, .int v_this_setup_life, .int v_this_setup_window, .int v_this_setup_grace])), (a_this_setup_counts, .inr (6, [.ref a_this_setup_counts_cells])), (a_this_setup_counts_cells, .inl (cI, n_this_setup_counts_cells, .inl g_this_setup_counts_cells)), (a_this_homes, .inr (6, [.ref a_this_homes_cells])), (a_this_homes_cells, .inl (cI, n_this_homes_cells, .inl g_this_homes_cells))] (is1 (some (.int o)) [(a_this, .inr (0, [.ref a_this_setup, .ref a_this_cohorts, .ref a_this_purchases, .ref a_this_diary, .ref a_this_tiers, .ref a_this_belowSince, .ref a_this_debts, .ref a_this_homes, .ref a_this_qualifying, .ref a_this_shares, .ref a_this_redeemed, .ref a_this_totals, .ref a_this_losses, .ref a_this_balances, .ref a_this_standing, .int v_this_day, .int v_this_windowStart])), (a_this_setup, .inr (7, [.ref a_this_setup_counts, .ref a_this_setup_names, .ref a_this_setup_thresholds, .ref a_this_setup_bonuses, .ref a_this_setup_rates, .ref a_this_setup_caps, .ref a_this_setup_promoCategories, .ref a_this_setup_promoFirstDays, .ref a_this_setup_promoLastDays, .ref a_this_setup_promoExtras, .ref a_this_setup_shares, .int v_this_setup_life, .int v_this_setup_window, .int v_this_setup_grace])), (a_this_setup_counts, .inr (6, [.ref a_this_setup_counts_cells])), (a_this_setup_counts_cells, .inl (cI, n_this_setup_counts_cells, .inl g_this_setup_counts_cells)), (a_this_homes, .inr (6, [.ref a_this_homes_cells])), (a_this_homes_cells, .inl (cI, n_this_homes_cells, .inl g_this_homes_cells))]) := by
  refine Ct_of (own := RX0) (lv0 := [(0, .ref a_this), (1, .int x1)]) (by decide) rfl rfl (Nat.le_of_ble_eq_true rfl) ?_
  intro p e s m args below meth c C hr hnm
  unfold f_X0_peopleIn at h
  refine J_aload_n (pc := 0) C dX0_peopleIn_0 0 rfl ?_
  refine J_iload_n (pc := 1) C dX0_peopleIn_1 1 rfl ?_
  refine J_cvr (pc := 2) (As := [.int x1]) (st := []) C dX0_peopleIn_2 ml_RX0_137 mi_yX0_memberBits (fun r2 hr => c_X0_memberBits l D cI cB cL cO pf N a_this a_this_setup a_this_cohorts a_this_purchases a_this_diary a_this_tiers a_this_belowSince a_this_debts a_this_homes a_this_qualifying a_this_shares a_this_redeemed a_this_totals a_this_losses a_this_balances a_this_standing a_this_setup_counts a_this_setup_names a_this_setup_thresholds a_this_setup_bonuses a_this_setup_rates a_this_setup_caps a_this_setup_promoCategories a_this_setup_promoFirstDays a_this_setup_promoLastDays a_this_setup_promoExtras a_this_setup_shares a_this_setup_counts_cells a_this_homes_cells n_this_setup_counts_cells n_this_homes_cells v_this_day v_this_windowStart v_this_setup_life v_this_setup_window v_this_setup_grace g_this_setup_counts_cells g_this_homes_cells x1 r2 hr) h [0, 1, 2, 3, 4, 5] rfl rfl rfl rfl rfl ⟨rfl, rfl⟩ ⟨(Nat.le_of_ble_eq_true rfl), (Nat.le_of_ble_eq_true rfl)⟩ ⟨Nat.zero_le _, Nat.zero_le _⟩ (Nat.le_of_ble_eq_true rfl) (fun r2 h => ?_)
  refine J_csr (pc := 5) (As := [.int r2]) (st := []) C dX0_peopleIn_5 ml_RX0_140 mi_yJ6_bitCount_0f7a4 (fun r5 hr => c_J6_bitCount_0f7a4 l D cI cB cL cO pf 0 r2 r5 hr) h [] rfl rfl rfl ⟨rfl, rfl⟩ ⟨(Nat.le_of_ble_eq_true rfl), (Nat.le_of_ble_eq_true rfl)⟩ ⟨Nat.zero_le _, Nat.zero_le _⟩ (Nat.le_of_ble_eq_true rfl) (fun r5 h => ?_)
  cases h
  exact J_iret (pc := 8) C dX0_peopleIn_8 hr ⟨rfl, rfl⟩
-- PointsLedger$Row.sumFrom(I)I
theorem dX6_sumFrom_0 : decode cX6_sumFrom 0 = .ok (.iconst 0, 1) := by decide +kernel
theorem dX6_sumFrom_1 : decode cX6_sumFrom 1 = .ok (.istore_n 2, 1) := by decide +kernel
theorem dX6_sumFrom_2 : decode cX6_sumFrom 2 = .ok (.iload_n 1, 1) := by decide +kernel
theorem dX6_sumFrom_3 : decode cX6_sumFrom 3 = .ok (.iconst 0, 1) := by decide +kernel
theorem dX6_sumFrom_4 : decode cX6_sumFrom 4 = .ok (.invokestatic 13, 3) := by decide +kernel
theorem dX6_sumFrom_7 : decode cX6_sumFrom 7 = .ok (.istore_n 3, 1) := by decide +kernel
theorem dX6_sumFrom_8 : decode cX6_sumFrom 8 = .ok (.iload_n 3, 1) := by decide +kernel
theorem dX6_sumFrom_9 : decode cX6_sumFrom 9 = .ok (.aload_n 0, 1) := by decide +kernel
theorem dX6_sumFrom_10 : decode cX6_sumFrom 10 = .ok (.getfield 7, 3) := by decide +kernel
theorem dX6_sumFrom_13 : decode cX6_sumFrom 13 = .ok (.arraylength, 1) := by decide +kernel
theorem dX6_sumFrom_14 : decode cX6_sumFrom 14 = .ok (.if_icmp .ge 18, 3) := by decide +kernel
theorem dX6_sumFrom_17 : decode cX6_sumFrom 17 = .ok (.iload_n 2, 1) := by decide +kernel
theorem dX6_sumFrom_18 : decode cX6_sumFrom 18 = .ok (.aload_n 0, 1) := by decide +kernel
theorem dX6_sumFrom_19 : decode cX6_sumFrom 19 = .ok (.getfield 7, 3) := by decide +kernel
theorem dX6_sumFrom_22 : decode cX6_sumFrom 22 = .ok (.iload_n 3, 1) := by decide +kernel
theorem dX6_sumFrom_23 : decode cX6_sumFrom 23 = .ok (.iaload, 1) := by decide +kernel
theorem dX6_sumFrom_24 : decode cX6_sumFrom 24 = .ok (.iadd, 1) := by decide +kernel
theorem dX6_sumFrom_25 : decode cX6_sumFrom 25 = .ok (.istore_n 2, 1) := by decide +kernel
theorem dX6_sumFrom_26 : decode cX6_sumFrom 26 = .ok (.iinc 3 1, 3) := by decide +kernel
theorem dX6_sumFrom_29 : decode cX6_sumFrom 29 = .ok (.goto (-21), 3) := by decide +kernel
theorem dX6_sumFrom_32 : decode cX6_sumFrom 32 = .ok (.iload_n 2, 1) := by decide +kernel
theorem dX6_sumFrom_33 : decode cX6_sumFrom 33 = .ok (.ireturn, 1) := by decide +kernel
def f_X6_sumFrom_b8 (n_this_cells : Nat) (g_this_cells : Nat → Int32) : Nat → (Int32) → (Int32) → Option (Int32)
  | 0, _, _ => none
  | n + 1, x2, x3 => (if (nI n_this_cells) ≤ x3 then (some x2) else (if x3 < 0 ∨ n_this_cells ≤ x3.toNatClampNeg then none else ((some (x2 + (g_this_cells x3.toNatClampNeg))).bind fun y25 => ((some (x3 + (1 : Int32))).bind fun y26 => (f_X6_sumFrom_b8 n_this_cells g_this_cells n y25 y26)))))
def f_X6_sumFrom (N : Nat) (x1 : Int32) (n_this_cells : Nat) (g_this_cells : Nat → Int32) : Option (Int32) :=
  ((some (if x1 < (0 : Int32) then (0 : Int32) else x1)).bind fun y7 => (f_X6_sumFrom_b8 n_this_cells g_this_cells N (0 : Int32) y7))
set_option maxHeartbeats 4000000 in
set_option maxRecDepth 100000 in
theorem t_X6_sumFrom_b8 {l : Launch} {D : va_G} {cI cB cL cO : ClassId} {pf : Nat → Nat} {p : Program} {e : Env} {s : State} {m : MethodId} {args : Array Value} {below : List Frame} {meth : Method} {c : Code} {W0 : va_W} {a_this a_this_cells : Nat}  {n_this_cells : Nat} {g_this_cells : Nat → Int32} {o : Int32} (C : jC p s m args meth c cX6_sumFrom 4 RX6 D [(cI, .int), (cB, .byte), (cL, .byte), (cO, .object RX0)] pf (va_A W0 s.heap.size)) (hr : meth.sig.returnType = (some FieldType.int)) : ∀ (n : Nat) (x2 : Int32) (x3 : Int32), f_X6_sumFrom_b8 n_this_cells g_this_cells n x2 x3 = some o → J p l e { frames := 1, cells := 0, slots := 0, locals := 24 } s m args below meth c 4 D (va_A W0 s.heap.size) (MQ below (jQ D [(cI, .int), (cB, .byte), (cL, .byte), (cO, .object RX0)] W0 s.heap.size (is1 (some (.int o)) [(a_this, .inr (6, [.ref a_this_cells])), (a_this_cells, .inl (cI, n_this_cells, .inl g_this_cells))])) args s 0 0 (va_A W0 s.heap.size)) 0 0 8 [(0, .ref a_this), (2, .int x2), (3, .int x3)] [] [(a_this, .inr (6, [.ref a_this_cells])), (a_this_cells, .inl (cI, n_this_cells, .inl g_this_cells))] := by
  intro n
  induction n with
  | zero =>
    intro _ _ h
    rw [f_X6_sumFrom_b8] at h
    cases h
  | succ n ih =>
    intro x2 x3 h
    rw [f_X6_sumFrom_b8] at h
    refine J_iload_n (pc := 8) C dX6_sumFrom_8 2 rfl ?_
    refine J_aload_n (pc := 9) C dX6_sumFrom_9 0 rfl ?_
    refine J_get (pc := 10) C dX6_sumFrom_10 jf_X6 0 rfl rfl 0 (by decide) rfl fl_RX6_7 rfl ?_
    refine J_alen (pc := 13) C dX6_sumFrom_13 1 0 rfl rfl ?_
    refine J_ic_ge (pc := 14) (tgt := 32) C dX6_sumFrom_14 (by decide) h (fun h => ?_) (fun h => ?_)
    · refine J_iload_n (pc := 32) C dX6_sumFrom_32 1 rfl ?_
      cases h
      exact J_iret (pc := 33) C dX6_sumFrom_33 hr ⟨rfl, rfl⟩
    · refine J_iload_n (pc := 17) C dX6_sumFrom_17 1 rfl ?_
      refine J_aload_n (pc := 18) C dX6_sumFrom_18 0 rfl ?_
      refine J_get (pc := 19) C dX6_sumFrom_19 jf_X6 0 rfl rfl 0 (by decide) rfl fl_RX6_7 rfl ?_
      refine J_iload_n (pc := 22) C dX6_sumFrom_22 2 rfl ?_
      refine J_iald (pc := 23) C dX6_sumFrom_23 1 0 rfl rfl h (fun h => ?_)
      refine J_iadd (pc := 24) C dX6_sumFrom_24 ?_
      refine J_istore_nN (pc := 25) C (fun y25 => [(2, .int y25), (0, .ref a_this), (3, .int x3)]) dX6_sumFrom_25 h (by decide) (fun _ => rfl) (fun y25 h => ?_)
      refine J_iincN (pc := 26) (v := (1 : Int32)) C (fun y26 => [(3, .int y26), (2, .int y25), (0, .ref a_this)]) dX6_sumFrom_26 2 rfl (by decide) h (by decide) (fun _ => rfl) (fun y26 h => ?_)
      refine J_goto (tgt := 8) (pc := 29) C dX6_sumFrom_29 (by decide) ?_
      refine J_sub (lv2 := [(0, .ref a_this), (2, .int y25), (3, .int y26)]) [2, 1, 0] rfl ?_
      exact ih _ _ h
set_option maxHeartbeats 4000000 in
set_option maxRecDepth 100000 in
theorem c_X6_sumFrom (l : Launch) (D : va_G) (cI cB cL cO : ClassId) (pf : Nat → Nat) (N : Nat) (a_this a_this_cells : Nat) (n_this_cells : Nat) (g_this_cells : Nat → Int32) (x1 : Int32) (o : Int32) (h : f_X6_sumFrom N x1 n_this_cells g_this_cells = some o) : Ct l D [(cI, .int), (cB, .byte), (cL, .byte), (cO, .object RX0)] pf yX6_sumFrom cX6_sumFrom 4 (some FieldType.int) { frames := 1, cells := 0, slots := 0, locals := 24 } [.ref a_this, .int x1] [(a_this, .inr (6, [.ref a_this_cells])), (a_this_cells, .inl (cI, n_this_cells, .inl g_this_cells))] (is1 (some (.int o)) [(a_this, .inr (6, [.ref a_this_cells])), (a_this_cells, .inl (cI, n_this_cells, .inl g_this_cells))]) := by
  refine Ct_of (own := RX6) (lv0 := [(0, .ref a_this), (1, .int x1)]) (by decide) rfl rfl (Nat.le_of_ble_eq_true rfl) ?_
  intro p e s m args below meth c C hr hnm
  unfold f_X6_sumFrom at h
  refine J_iconst (v := (0 : Int32)) (pc := 0) C dX6_sumFrom_0 (by decide) ?_
  refine J_istore_n (lv2 := [(2, .int (0 : Int32)), (0, .ref a_this), (1, .int x1)]) (pc := 1) C dX6_sumFrom_1 (by decide) rfl ?_
  refine J_iload_n (pc := 2) C dX6_sumFrom_2 2 rfl ?_
  refine J_iconst (v := (0 : Int32)) (pc := 3) C dX6_sumFrom_3 (by decide) ?_
  refine J_mmax (pc := 4) C dX6_sumFrom_4 ml_RX6_13 w_max (Nat.le_of_ble_eq_true rfl) (Nat.le_of_ble_eq_true rfl) ⟨Nat.zero_le _, Nat.zero_le _⟩ ?_
  refine J_istore_nN (pc := 7) C (fun y7 => [(3, .int y7), (2, .int (0 : Int32)), (0, .ref a_this), (1, .int x1)]) dX6_sumFrom_7 h (by decide) (fun _ => rfl) (fun y7 h => ?_)
  refine J_sub (lv2 := [(0, .ref a_this), (2, .int (0 : Int32)), (3, .int y7)]) [2, 1, 0] rfl ?_
  exact t_X6_sumFrom_b8 C hr N _ _ h
-- PointsLedger$Books.totalOf(I)I
theorem dX0_totalOf_0 : decode cX0_totalOf 0 = .ok (.iload_n 1, 1) := by decide +kernel
theorem dX0_totalOf_1 : decode cX0_totalOf 1 = .ok (.iconst 5, 1) := by decide +kernel
theorem dX0_totalOf_2 : decode cX0_totalOf 2 = .ok (.if_icmp .ne 15, 3) := by decide +kernel
theorem dX0_totalOf_5 : decode cX0_totalOf 5 = .ok (.aload_n 0, 1) := by decide +kernel
theorem dX0_totalOf_6 : decode cX0_totalOf 6 = .ok (.getfield 18, 3) := by decide +kernel
theorem dX0_totalOf_9 : decode cX0_totalOf 9 = .ok (.bipush (-2), 2) := by decide +kernel
theorem dX0_totalOf_11 : decode cX0_totalOf 11 = .ok (.bipush (-2), 2) := by decide +kernel
theorem dX0_totalOf_13 : decode cX0_totalOf 13 = .ok (.invokevirtual 127, 3) := by decide +kernel
theorem dX0_totalOf_16 : decode cX0_totalOf 16 = .ok (.ireturn, 1) := by decide +kernel
theorem dX0_totalOf_17 : decode cX0_totalOf 17 = .ok (.iload_n 1, 1) := by decide +kernel
theorem dX0_totalOf_18 : decode cX0_totalOf 18 = .ok (.bipush 6, 2) := by decide +kernel
theorem dX0_totalOf_20 : decode cX0_totalOf 20 = .ok (.if_icmp .ne 14, 3) := by decide +kernel
theorem dX0_totalOf_23 : decode cX0_totalOf 23 = .ok (.aload_n 0, 1) := by decide +kernel
theorem dX0_totalOf_24 : decode cX0_totalOf 24 = .ok (.getfield 48, 3) := by decide +kernel
theorem dX0_totalOf_27 : decode cX0_totalOf 27 = .ok (.iconst 0, 1) := by decide +kernel
theorem dX0_totalOf_28 : decode cX0_totalOf 28 = .ok (.invokevirtual 145, 3) := by decide +kernel
theorem dX0_totalOf_31 : decode cX0_totalOf 31 = .ok (.goto 11, 3) := by decide +kernel
theorem dX0_totalOf_34 : decode cX0_totalOf 34 = .ok (.aload_n 0, 1) := by decide +kernel
theorem dX0_totalOf_35 : decode cX0_totalOf 35 = .ok (.getfield 63, 3) := by decide +kernel
theorem dX0_totalOf_38 : decode cX0_totalOf 38 = .ok (.iload_n 1, 1) := by decide +kernel
theorem dX0_totalOf_39 : decode cX0_totalOf 39 = .ok (.invokevirtual 121, 3) := by decide +kernel
theorem dX0_totalOf_42 : decode cX0_totalOf 42 = .ok (.ireturn, 1) := by decide +kernel
def f_X0_totalOf (N : Nat) (x1 : Int32) (n_this_cohorts_lists_cells : Nat) (n_this_cohorts_contributors_cells : Nat) (n_this_cohorts_points_cells : Nat) (n_this_debts_cells : Nat) (n_this_totals_cells : Nat) (v_this_cohorts_size : Int32) (g_this_cohorts_lists_cells : Nat → Int32) (g_this_cohorts_contributors_cells : Nat → Int32) (g_this_cohorts_points_cells : Nat → Int32) (g_this_debts_cells : Nat → Int32) (g_this_totals_cells : Nat → Int32) : Option (Int32) :=
  (if x1 = (5 : Int32) then ((f_X1_sum N (-2 : Int32) (-2 : Int32) n_this_cohorts_lists_cells n_this_cohorts_contributors_cells n_this_cohorts_points_cells v_this_cohorts_size g_this_cohorts_lists_cells g_this_cohorts_contributors_cells g_this_cohorts_points_cells).bind fun r13 => (some r13)) else (if x1 = (6 : Int32) then ((f_X6_sumFrom N (0 : Int32) n_this_debts_cells g_this_debts_cells).bind fun r28 => (some r28)) else ((f_X6_at x1 n_this_totals_cells g_this_totals_cells).bind fun r39 => (some r39))))
set_option maxHeartbeats 4000000 in
set_option maxRecDepth 100000 in
theorem c_X0_totalOf (l : Launch) (D : va_G) (cI cB cL cO : ClassId) (pf : Nat → Nat) (N : Nat) (a_this a_this_setup a_this_cohorts a_this_purchases a_this_diary a_this_tiers a_this_belowSince a_this_debts a_this_homes a_this_qualifying a_this_shares a_this_redeemed a_this_totals a_this_losses a_this_balances a_this_standing a_this_cohorts_lists a_this_cohorts_days a_this_cohorts_contributors a_this_cohorts_points a_this_cohorts_lists_cells a_this_cohorts_contributors_cells a_this_cohorts_points_cells a_this_debts_cells a_this_totals_cells : Nat) (n_this_cohorts_lists_cells : Nat) (n_this_cohorts_contributors_cells : Nat) (n_this_cohorts_points_cells : Nat) (n_this_debts_cells : Nat) (n_this_totals_cells : Nat) (v_this_day : Int32) (v_this_windowStart : Int32) (v_this_cohorts_size : Int32) (g_this_cohorts_lists_cells : Nat → Int32) (g_this_cohorts_contributors_cells : Nat → Int32) (g_this_cohorts_points_cells : Nat → Int32) (g_this_debts_cells : Nat → Int32) (g_this_totals_cells : Nat → Int32) (x1 : Int32) (o : Int32) (h : f_X0_totalOf N x1 n_this_cohorts_lists_cells n_this_cohorts_contributors_cells n_this_cohorts_points_cells n_this_debts_cells n_this_totals_cells v_this_cohorts_size g_this_cohorts_lists_cells g_this_cohorts_contributors_cells g_this_cohorts_points_cells g_this_debts_cells g_this_totals_cells = some o) : Ct l D [(cI, .int), (cB, .byte), (cL, .byte), (cO, .object RX0)] pf yX0_totalOf cX0_totalOf 2 (some FieldType.int) { frames := 3, cells := 0, slots := 0, locals := 67 } [.ref a_this, .int x1] [(a_this, .inr (0, [.ref a_this_setup, .ref a_this_cohorts, .ref a_this_purchases, .ref a_this_diary, .ref a_this_tiers, .ref a_this_belowSince, .ref a_this_debts, .ref a_this_homes, .ref a_this_qualifying, .ref a_this_shares, .ref a_this_redeemed, .ref a_this_totals, .ref a_this_losses, .ref a_this_balances, .ref a_this_standing, .int v_this_day, .int v_this_windowStart])), (a_this_cohorts, .inr (1, [.ref a_this_cohorts_lists, .ref a_this_cohorts_days, .ref a_this_cohorts_contributors, .ref a_this_cohorts_points, .int v_this_cohorts_size])), (a_this_cohorts_lists, .inr (6, [.ref a_this_cohorts_lists_cells])), (a_this_cohorts_lists_cells, .inl (cI, n_this_cohorts_lists_cells, .inl g_this_cohorts_lists_cells)), (a_this_cohorts_contributors, .inr (6, [.ref a_this_cohorts_contributors_cells])), (a_this_cohorts_contributors_cells, .inl (cI, n_this_cohorts_contributors_cells, .inl g_this_cohorts_contributors_cells)), (a_this_cohorts_points, .inr (6, [.ref a_this_cohorts_points_cells])), (a_this_cohorts_points_cells, .inl (cI, n_this_cohorts_points_cells, .inl g_this_cohorts_points_cells)), (a_this_debts, .inr (6, [.ref a_this_debts_cells])), (a_this_debts_cells, .inl (cI, n_this_debts_cells, .inl g_this_debts_cells)), (a_this_totals, .inr (6, [.ref a_this_totals_cells])), (a_this_totals_cells, .inl (cI, n_this_totals_cells, .inl g_this_totals_cells))] (is1 (some (.int o)) [(a_this, .inr (0, [.ref a_this_setup, .ref a_this_cohorts, .ref a_this_purchases, .ref a_this_diary, .ref a_this_tiers, .ref a_this_belowSince, .ref a_this_debts, .ref a_this_homes, .ref a_this_qualifying, .ref a_this_shares, .ref a_this_redeemed, .ref a_this_totals, .ref a_this_losses, .ref a_this_balances, .ref a_this_standing, .int v_this_day, .int v_this_windowStart])), (a_this_cohorts, .inr (1, [.ref a_this_cohorts_lists, .ref a_this_cohorts_days, .ref a_this_cohorts_contributors, .ref a_this_cohorts_points, .int v_this_cohorts_size])), (a_this_cohorts_lists, .inr (6, [.ref a_this_cohorts_lists_cells])), (a_this_cohorts_lists_cells, .inl (cI, n_this_cohorts_lists_cells, .inl g_this_cohorts_lists_cells)), (a_this_cohorts_contributors, .inr (6, [.ref a_this_cohorts_contributors_cells])), (a_this_cohorts_contributors_cells, .inl (cI, n_this_cohorts_contributors_cells, .inl g_this_cohorts_contributors_cells)), (a_this_cohorts_points, .inr (6, [.ref a_this_cohorts_points_cells])), (a_this_cohorts_points_cells, .inl (cI, n_this_cohorts_points_cells, .inl g_this_cohorts_points_cells)), (a_this_debts, .inr (6, [.ref a_this_debts_cells])), (a_this_debts_cells, .inl (cI, n_this_debts_cells, .inl g_this_debts_cells)), (a_this_totals, .inr (6, [.ref a_this_totals_cells])), (a_this_totals_cells, .inl (cI, n_this_totals_cells, .inl g_this_totals_cells))]) := by
  refine Ct_of (own := RX0) (lv0 := [(0, .ref a_this), (1, .int x1)]) (by decide) rfl rfl (Nat.le_of_ble_eq_true rfl) ?_
  intro p e s m args below meth c C hr hnm
  unfold f_X0_totalOf at h
  refine J_iload_n (pc := 0) C dX0_totalOf_0 1 rfl ?_
  refine J_iconst (v := (5 : Int32)) (pc := 1) C dX0_totalOf_1 (by decide) ?_
  refine J_ic_ne (pc := 2) (tgt := 17) C dX0_totalOf_2 (by decide) h (fun h => ?_) (fun h => ?_)
  · refine J_iload_n (pc := 17) C dX0_totalOf_17 1 rfl ?_
    refine J_bipush (v := (6 : Int32)) (pc := 18) C dX0_totalOf_18 (by decide) ?_
    refine J_ic_ne (pc := 20) (tgt := 34) C dX0_totalOf_20 (by decide) h (fun h => ?_) (fun h => ?_)
    · refine J_aload_n (pc := 34) C dX0_totalOf_34 0 rfl ?_
      refine J_get (pc := 35) C dX0_totalOf_35 jf_X0 0 rfl rfl 11 (by decide) rfl fl_RX0_63 rfl ?_
      refine J_iload_n (pc := 38) C dX0_totalOf_38 1 rfl ?_
      refine J_cvr (pc := 39) (As := [.int x1]) (st := []) C dX0_totalOf_39 ml_RX0_121 mi_yX6_at (fun r39 hr => c_X6_at l D cI cB cL cO pf 0 a_this_totals a_this_totals_cells n_this_totals_cells g_this_totals_cells x1 r39 hr) h [10, 11] rfl rfl rfl rfl rfl ⟨rfl, rfl⟩ ⟨(Nat.le_of_ble_eq_true rfl), (Nat.le_of_ble_eq_true rfl)⟩ ⟨Nat.zero_le _, Nat.zero_le _⟩ (Nat.le_of_ble_eq_true rfl) (fun r39 h => ?_)
      cases h
      exact J_iret (pc := 42) C dX0_totalOf_42 hr ⟨rfl, rfl⟩
    · refine J_aload_n (pc := 23) C dX0_totalOf_23 0 rfl ?_
      refine J_get (pc := 24) C dX0_totalOf_24 jf_X0 0 rfl rfl 6 (by decide) rfl fl_RX0_48 rfl ?_
      refine J_iconst (v := (0 : Int32)) (pc := 27) C dX0_totalOf_27 (by decide) ?_
      refine J_cvr (pc := 28) (As := [.int (0 : Int32)]) (st := []) C dX0_totalOf_28 ml_RX0_145 mi_yX6_sumFrom (fun r28 hr => c_X6_sumFrom l D cI cB cL cO pf N a_this_debts a_this_debts_cells n_this_debts_cells g_this_debts_cells (0 : Int32) r28 hr) h [8, 9] rfl rfl rfl rfl rfl ⟨rfl, rfl⟩ ⟨(Nat.le_of_ble_eq_true rfl), (Nat.le_of_ble_eq_true rfl)⟩ ⟨Nat.zero_le _, Nat.zero_le _⟩ (Nat.le_of_ble_eq_true rfl) (fun r28 h => ?_)
      refine J_goto (tgt := 42) (pc := 31) C dX0_totalOf_31 (by decide) ?_
      cases h
      exact J_iret (pc := 42) C dX0_totalOf_42 hr ⟨rfl, rfl⟩
  · refine J_aload_n (pc := 5) C dX0_totalOf_5 0 rfl ?_
    refine J_get (pc := 6) C dX0_totalOf_6 jf_X0 0 rfl rfl 1 (by decide) rfl fl_RX0_18 rfl ?_
    refine J_bipush (v := (-2 : Int32)) (pc := 9) C dX0_totalOf_9 (by decide) ?_
    refine J_bipush (v := (-2 : Int32)) (pc := 11) C dX0_totalOf_11 (by decide) ?_
    refine J_cvr (pc := 13) (As := [.int (-2 : Int32), .int (-2 : Int32)]) (st := []) C dX0_totalOf_13 ml_RX0_127 mi_yX1_sum (fun r13 hr => c_X1_sum l D cI cB cL cO pf N a_this_cohorts a_this_cohorts_lists a_this_cohorts_days a_this_cohorts_contributors a_this_cohorts_points a_this_cohorts_lists_cells a_this_cohorts_contributors_cells a_this_cohorts_points_cells n_this_cohorts_lists_cells n_this_cohorts_contributors_cells n_this_cohorts_points_cells v_this_cohorts_size g_this_cohorts_lists_cells g_this_cohorts_contributors_cells g_this_cohorts_points_cells (-2 : Int32) (-2 : Int32) r13 hr) h [1, 2, 3, 4, 5, 6, 7] rfl rfl rfl rfl rfl ⟨rfl, rfl⟩ ⟨(Nat.le_of_ble_eq_true rfl), (Nat.le_of_ble_eq_true rfl)⟩ ⟨Nat.zero_le _, Nat.zero_le _⟩ (Nat.le_of_ble_eq_true rfl) (fun r13 h => ?_)
    cases h
    exact J_iret (pc := 16) C dX0_totalOf_16 hr ⟨rfl, rfl⟩
-- PointsLedger$Setup.baseOf(II)I
theorem dX7_baseOf_0 : decode cX7_baseOf 0 = .ok (.iload_n 2, 1) := by decide +kernel
theorem dX7_baseOf_1 : decode cX7_baseOf 1 = .ok (.aload_n 0, 1) := by decide +kernel
theorem dX7_baseOf_2 : decode cX7_baseOf 2 = .ok (.getfield 29, 3) := by decide +kernel
theorem dX7_baseOf_5 : decode cX7_baseOf 5 = .ok (.iload_n 1, 1) := by decide +kernel
theorem dX7_baseOf_6 : decode cX7_baseOf 6 = .ok (.invokevirtual 69, 3) := by decide +kernel
theorem dX7_baseOf_9 : decode cX7_baseOf 9 = .ok (.imul, 1) := by decide +kernel
theorem dX7_baseOf_10 : decode cX7_baseOf 10 = .ok (.bipush 100, 2) := by decide +kernel
theorem dX7_baseOf_12 : decode cX7_baseOf 12 = .ok (.idiv, 1) := by decide +kernel
theorem dX7_baseOf_13 : decode cX7_baseOf 13 = .ok (.istore_n 3, 1) := by decide +kernel
theorem dX7_baseOf_14 : decode cX7_baseOf 14 = .ok (.aload_n 0, 1) := by decide +kernel
theorem dX7_baseOf_15 : decode cX7_baseOf 15 = .ok (.getfield 32, 3) := by decide +kernel
theorem dX7_baseOf_18 : decode cX7_baseOf 18 = .ok (.iload_n 1, 1) := by decide +kernel
theorem dX7_baseOf_19 : decode cX7_baseOf 19 = .ok (.invokevirtual 69, 3) := by decide +kernel
theorem dX7_baseOf_22 : decode cX7_baseOf 22 = .ok (.istore 4, 2) := by decide +kernel
theorem dX7_baseOf_24 : decode cX7_baseOf 24 = .ok (.iload 4, 2) := by decide +kernel
theorem dX7_baseOf_26 : decode cX7_baseOf 26 = .ok (.ifCond .ne 7, 3) := by decide +kernel
theorem dX7_baseOf_29 : decode cX7_baseOf 29 = .ok (.iload_n 3, 1) := by decide +kernel
theorem dX7_baseOf_30 : decode cX7_baseOf 30 = .ok (.goto 9, 3) := by decide +kernel
theorem dX7_baseOf_33 : decode cX7_baseOf 33 = .ok (.iload_n 3, 1) := by decide +kernel
theorem dX7_baseOf_34 : decode cX7_baseOf 34 = .ok (.iload 4, 2) := by decide +kernel
theorem dX7_baseOf_36 : decode cX7_baseOf 36 = .ok (.invokestatic 89, 3) := by decide +kernel
theorem dX7_baseOf_39 : decode cX7_baseOf 39 = .ok (.ireturn, 1) := by decide +kernel
def f_X7_baseOf (x1 : Int32) (x2 : Int32) (n_this_rates_cells : Nat) (n_this_caps_cells : Nat) (g_this_rates_cells : Nat → Int32) (g_this_caps_cells : Nat → Int32) : Option (Int32) :=
  ((f_X6_at x1 n_this_rates_cells g_this_rates_cells).bind fun r6 => (if (100 : Int32) = 0 then none else ((some ((x2 * r6) / (100 : Int32))).bind fun y13 => ((f_X6_at x1 n_this_caps_cells g_this_caps_cells).bind fun r19 => (if r19 = 0 then (some y13) else (some (if r19 < y13 then r19 else y13)))))))
set_option maxHeartbeats 4000000 in
set_option maxRecDepth 100000 in
theorem c_X7_baseOf (l : Launch) (D : va_G) (cI cB cL cO : ClassId) (pf : Nat → Nat) (N : Nat) (a_this a_this_counts a_this_names a_this_thresholds a_this_bonuses a_this_rates a_this_caps a_this_promoCategories a_this_promoFirstDays a_this_promoLastDays a_this_promoExtras a_this_shares a_this_rates_cells a_this_caps_cells : Nat) (n_this_rates_cells : Nat) (n_this_caps_cells : Nat) (v_this_life : Int32) (v_this_window : Int32) (v_this_grace : Int32) (g_this_rates_cells : Nat → Int32) (g_this_caps_cells : Nat → Int32) (x1 : Int32) (x2 : Int32) (o : Int32) (h : f_X7_baseOf x1 x2 n_this_rates_cells n_this_caps_cells g_this_rates_cells g_this_caps_cells = some o) : Ct l D [(cI, .int), (cB, .byte), (cL, .byte), (cO, .object RX0)] pf yX7_baseOf cX7_baseOf 5 (some FieldType.int) { frames := 1, cells := 0, slots := 0, locals := 24 } [.ref a_this, .int x1, .int x2] [(a_this, .inr (7, [.ref a_this_counts, .ref a_this_names, .ref a_this_thresholds, .ref a_this_bonuses, .ref a_this_rates, .ref a_this_caps, .ref a_this_promoCategories, .ref a_this_promoFirstDays, .ref a_this_promoLastDays, .ref a_this_promoExtras, .ref a_this_shares, .int v_this_life, .int v_this_window, .int v_this_grace])), (a_this_rates, .inr (6, [.ref a_this_rates_cells])), (a_this_rates_cells, .inl (cI, n_this_rates_cells, .inl g_this_rates_cells)), (a_this_caps, .inr (6, [.ref a_this_caps_cells])), (a_this_caps_cells, .inl (cI, n_this_caps_cells, .inl g_this_caps_cells))] (is1 (some (.int o)) [(a_this, .inr (7, [.ref a_this_counts, .ref a_this_names, .ref a_this_thresholds, .ref a_this_bonuses, .ref a_this_rates, .ref a_this_caps, .ref a_this_promoCategories, .ref a_this_promoFirstDays, .ref a_this_promoLastDays, .ref a_this_promoExtras, .ref a_this_shares, .int v_this_life, .int v_this_window, .int v_this_grace])), (a_this_rates, .inr (6, [.ref a_this_rates_cells])), (a_this_rates_cells, .inl (cI, n_this_rates_cells, .inl g_this_rates_cells)), (a_this_caps, .inr (6, [.ref a_this_caps_cells])), (a_this_caps_cells, .inl (cI, n_this_caps_cells, .inl g_this_caps_cells))]) := by
  refine Ct_of (own := RX7) (lv0 := [(0, .ref a_this), (1, .int x1), (2, .int x2)]) (by decide) rfl rfl (Nat.le_of_ble_eq_true rfl) ?_
  intro p e s m args below meth c C hr hnm
  unfold f_X7_baseOf at h
  refine J_iload_n (pc := 0) C dX7_baseOf_0 2 rfl ?_
  refine J_aload_n (pc := 1) C dX7_baseOf_1 0 rfl ?_
  refine J_get (pc := 2) C dX7_baseOf_2 jf_X7 0 rfl rfl 4 (by decide) rfl fl_RX7_29 rfl ?_
  refine J_iload_n (pc := 5) C dX7_baseOf_5 1 rfl ?_
  refine J_cvr (pc := 6) (As := [.int x1]) (st := [.int x2]) C dX7_baseOf_6 ml_RX7_69 mi_yX6_at (fun r6 hr => c_X6_at l D cI cB cL cO pf 0 a_this_rates a_this_rates_cells n_this_rates_cells g_this_rates_cells x1 r6 hr) h [1, 2] rfl rfl rfl rfl rfl ⟨rfl, rfl⟩ ⟨(Nat.le_of_ble_eq_true rfl), (Nat.le_of_ble_eq_true rfl)⟩ ⟨Nat.zero_le _, Nat.zero_le _⟩ (Nat.le_of_ble_eq_true rfl) (fun r6 h => ?_)
  refine J_imul (pc := 9) C dX7_baseOf_9 ?_
  refine J_bipush (v := (100 : Int32)) (pc := 10) C dX7_baseOf_10 (by decide) ?_
  refine J_idiv (pc := 12) C dX7_baseOf_12 h (fun h => ?_)
  refine J_istore_nN (pc := 13) C (fun y13 => [(3, .int y13), (0, .ref a_this), (1, .int x1), (2, .int x2)]) dX7_baseOf_13 h (by decide) (fun _ => rfl) (fun y13 h => ?_)
  refine J_aload_n (pc := 14) C dX7_baseOf_14 1 rfl ?_
  refine J_get (pc := 15) C dX7_baseOf_15 jf_X7 0 rfl rfl 5 (by decide) rfl fl_RX7_32 rfl ?_
  refine J_iload_n (pc := 18) C dX7_baseOf_18 2 rfl ?_
  refine J_cvr (pc := 19) (As := [.int x1]) (st := []) C dX7_baseOf_19 ml_RX7_69 mi_yX6_at (fun r19 hr => c_X6_at l D cI cB cL cO pf 0 a_this_caps a_this_caps_cells n_this_caps_cells g_this_caps_cells x1 r19 hr) h [3, 4] rfl rfl rfl rfl rfl ⟨rfl, rfl⟩ ⟨(Nat.le_of_ble_eq_true rfl), (Nat.le_of_ble_eq_true rfl)⟩ ⟨Nat.zero_le _, Nat.zero_le _⟩ (Nat.le_of_ble_eq_true rfl) (fun r19 h => ?_)
  refine J_istore (lv2 := [(4, .int r19), (3, .int y13), (0, .ref a_this), (1, .int x1), (2, .int x2)]) (pc := 22) C dX7_baseOf_22 (by decide) rfl ?_
  refine J_iload (pc := 24) C dX7_baseOf_24 0 rfl ?_
  refine J_if_ne (pc := 26) (tgt := 33) C dX7_baseOf_26 (by decide) h (fun h => ?_) (fun h => ?_)
  · refine J_iload_n (pc := 33) C dX7_baseOf_33 1 rfl ?_
    refine J_iload (pc := 34) C dX7_baseOf_34 0 rfl ?_
    refine J_mmin (pc := 36) C dX7_baseOf_36 ml_RX7_89 w_min (Nat.le_of_ble_eq_true rfl) (Nat.le_of_ble_eq_true rfl) ⟨Nat.zero_le _, Nat.zero_le _⟩ ?_
    cases h
    exact J_iret (pc := 39) C dX7_baseOf_39 hr ⟨rfl, rfl⟩
  · refine J_iload_n (pc := 29) C dX7_baseOf_29 1 rfl ?_
    refine J_goto (tgt := 39) (pc := 30) C dX7_baseOf_30 (by decide) ?_
    cases h
    exact J_iret (pc := 39) C dX7_baseOf_39 hr ⟨rfl, rfl⟩
-- PointsLedger$Setup.bonusOf(I)I
theorem dX7_bonusOf_0 : decode cX7_bonusOf 0 = .ok (.aload_n 0, 1) := by decide +kernel
theorem dX7_bonusOf_1 : decode cX7_bonusOf 1 = .ok (.getfield 26, 3) := by decide +kernel
theorem dX7_bonusOf_4 : decode cX7_bonusOf 4 = .ok (.iload_n 1, 1) := by decide +kernel
theorem dX7_bonusOf_5 : decode cX7_bonusOf 5 = .ok (.invokevirtual 69, 3) := by decide +kernel
theorem dX7_bonusOf_8 : decode cX7_bonusOf 8 = .ok (.ireturn, 1) := by decide +kernel
def f_X7_bonusOf (x1 : Int32) (n_this_bonuses_cells : Nat) (g_this_bonuses_cells : Nat → Int32) : Option (Int32) :=
  ((f_X6_at x1 n_this_bonuses_cells g_this_bonuses_cells).bind fun r5 => (some r5))
set_option maxHeartbeats 4000000 in
set_option maxRecDepth 100000 in
theorem c_X7_bonusOf (l : Launch) (D : va_G) (cI cB cL cO : ClassId) (pf : Nat → Nat) (N : Nat) (a_this a_this_counts a_this_names a_this_thresholds a_this_bonuses a_this_rates a_this_caps a_this_promoCategories a_this_promoFirstDays a_this_promoLastDays a_this_promoExtras a_this_shares a_this_bonuses_cells : Nat) (n_this_bonuses_cells : Nat) (v_this_life : Int32) (v_this_window : Int32) (v_this_grace : Int32) (g_this_bonuses_cells : Nat → Int32) (x1 : Int32) (o : Int32) (h : f_X7_bonusOf x1 n_this_bonuses_cells g_this_bonuses_cells = some o) : Ct l D [(cI, .int), (cB, .byte), (cL, .byte), (cO, .object RX0)] pf yX7_bonusOf cX7_bonusOf 2 (some FieldType.int) { frames := 1, cells := 0, slots := 0, locals := 21 } [.ref a_this, .int x1] [(a_this, .inr (7, [.ref a_this_counts, .ref a_this_names, .ref a_this_thresholds, .ref a_this_bonuses, .ref a_this_rates, .ref a_this_caps, .ref a_this_promoCategories, .ref a_this_promoFirstDays, .ref a_this_promoLastDays, .ref a_this_promoExtras, .ref a_this_shares, .int v_this_life, .int v_this_window, .int v_this_grace])), (a_this_bonuses, .inr (6, [.ref a_this_bonuses_cells])), (a_this_bonuses_cells, .inl (cI, n_this_bonuses_cells, .inl g_this_bonuses_cells))] (is1 (some (.int o)) [(a_this, .inr (7, [.ref a_this_counts, .ref a_this_names, .ref a_this_thresholds, .ref a_this_bonuses, .ref a_this_rates, .ref a_this_caps, .ref a_this_promoCategories, .ref a_this_promoFirstDays, .ref a_this_promoLastDays, .ref a_this_promoExtras, .ref a_this_shares, .int v_this_life, .int v_this_window, .int v_this_grace])), (a_this_bonuses, .inr (6, [.ref a_this_bonuses_cells])), (a_this_bonuses_cells, .inl (cI, n_this_bonuses_cells, .inl g_this_bonuses_cells))]) := by
  refine Ct_of (own := RX7) (lv0 := [(0, .ref a_this), (1, .int x1)]) (by decide) rfl rfl (Nat.le_of_ble_eq_true rfl) ?_
  intro p e s m args below meth c C hr hnm
  unfold f_X7_bonusOf at h
  refine J_aload_n (pc := 0) C dX7_bonusOf_0 0 rfl ?_
  refine J_get (pc := 1) C dX7_bonusOf_1 jf_X7 0 rfl rfl 3 (by decide) rfl fl_RX7_26 rfl ?_
  refine J_iload_n (pc := 4) C dX7_bonusOf_4 1 rfl ?_
  refine J_cvr (pc := 5) (As := [.int x1]) (st := []) C dX7_bonusOf_5 ml_RX7_69 mi_yX6_at (fun r5 hr => c_X6_at l D cI cB cL cO pf 0 a_this_bonuses a_this_bonuses_cells n_this_bonuses_cells g_this_bonuses_cells x1 r5 hr) h [1, 2] rfl rfl rfl rfl rfl ⟨rfl, rfl⟩ ⟨(Nat.le_of_ble_eq_true rfl), (Nat.le_of_ble_eq_true rfl)⟩ ⟨Nat.zero_le _, Nat.zero_le _⟩ (Nat.le_of_ble_eq_true rfl) (fun r5 h => ?_)
  cases h
  exact J_iret (pc := 8) C dX7_bonusOf_8 hr ⟨rfl, rfl⟩
-- PointsLedger$Setup.extrasOn(II)I
theorem dX7_extrasOn_0 : decode cX7_extrasOn 0 = .ok (.iconst 0, 1) := by decide +kernel
theorem dX7_extrasOn_1 : decode cX7_extrasOn 1 = .ok (.istore_n 3, 1) := by decide +kernel
theorem dX7_extrasOn_2 : decode cX7_extrasOn 2 = .ok (.iconst 0, 1) := by decide +kernel
theorem dX7_extrasOn_3 : decode cX7_extrasOn 3 = .ok (.istore 4, 2) := by decide +kernel
theorem dX7_extrasOn_5 : decode cX7_extrasOn 5 = .ok (.iload 4, 2) := by decide +kernel
theorem dX7_extrasOn_7 : decode cX7_extrasOn 7 = .ok (.aload_n 0, 1) := by decide +kernel
theorem dX7_extrasOn_8 : decode cX7_extrasOn 8 = .ok (.getfield 14, 3) := by decide +kernel
theorem dX7_extrasOn_11 : decode cX7_extrasOn 11 = .ok (.iconst 2, 1) := by decide +kernel
theorem dX7_extrasOn_12 : decode cX7_extrasOn 12 = .ok (.invokevirtual 69, 3) := by decide +kernel
theorem dX7_extrasOn_15 : decode cX7_extrasOn 15 = .ok (.if_icmp .ge 60, 3) := by decide +kernel
theorem dX7_extrasOn_18 : decode cX7_extrasOn 18 = .ok (.aload_n 0, 1) := by decide +kernel
theorem dX7_extrasOn_19 : decode cX7_extrasOn 19 = .ok (.getfield 35, 3) := by decide +kernel
theorem dX7_extrasOn_22 : decode cX7_extrasOn 22 = .ok (.iload 4, 2) := by decide +kernel
theorem dX7_extrasOn_24 : decode cX7_extrasOn 24 = .ok (.invokevirtual 69, 3) := by decide +kernel
theorem dX7_extrasOn_27 : decode cX7_extrasOn 27 = .ok (.iload_n 1, 1) := by decide +kernel
theorem dX7_extrasOn_28 : decode cX7_extrasOn 28 = .ok (.if_icmp .ne 41, 3) := by decide +kernel
theorem dX7_extrasOn_31 : decode cX7_extrasOn 31 = .ok (.aload_n 0, 1) := by decide +kernel
theorem dX7_extrasOn_32 : decode cX7_extrasOn 32 = .ok (.getfield 38, 3) := by decide +kernel
theorem dX7_extrasOn_35 : decode cX7_extrasOn 35 = .ok (.iload 4, 2) := by decide +kernel
theorem dX7_extrasOn_37 : decode cX7_extrasOn 37 = .ok (.invokevirtual 69, 3) := by decide +kernel
theorem dX7_extrasOn_40 : decode cX7_extrasOn 40 = .ok (.iload_n 2, 1) := by decide +kernel
theorem dX7_extrasOn_41 : decode cX7_extrasOn 41 = .ok (.if_icmp .gt 28, 3) := by decide +kernel
theorem dX7_extrasOn_44 : decode cX7_extrasOn 44 = .ok (.iload_n 2, 1) := by decide +kernel
theorem dX7_extrasOn_45 : decode cX7_extrasOn 45 = .ok (.aload_n 0, 1) := by decide +kernel
theorem dX7_extrasOn_46 : decode cX7_extrasOn 46 = .ok (.getfield 41, 3) := by decide +kernel
theorem dX7_extrasOn_49 : decode cX7_extrasOn 49 = .ok (.iload 4, 2) := by decide +kernel
theorem dX7_extrasOn_51 : decode cX7_extrasOn 51 = .ok (.invokevirtual 69, 3) := by decide +kernel
theorem dX7_extrasOn_54 : decode cX7_extrasOn 54 = .ok (.if_icmp .gt 15, 3) := by decide +kernel
theorem dX7_extrasOn_57 : decode cX7_extrasOn 57 = .ok (.iload_n 3, 1) := by decide +kernel
theorem dX7_extrasOn_58 : decode cX7_extrasOn 58 = .ok (.aload_n 0, 1) := by decide +kernel
theorem dX7_extrasOn_59 : decode cX7_extrasOn 59 = .ok (.getfield 44, 3) := by decide +kernel
theorem dX7_extrasOn_62 : decode cX7_extrasOn 62 = .ok (.iload 4, 2) := by decide +kernel
theorem dX7_extrasOn_64 : decode cX7_extrasOn 64 = .ok (.invokevirtual 69, 3) := by decide +kernel
theorem dX7_extrasOn_67 : decode cX7_extrasOn 67 = .ok (.iadd, 1) := by decide +kernel
theorem dX7_extrasOn_68 : decode cX7_extrasOn 68 = .ok (.istore_n 3, 1) := by decide +kernel
theorem dX7_extrasOn_69 : decode cX7_extrasOn 69 = .ok (.iinc 4 1, 3) := by decide +kernel
theorem dX7_extrasOn_72 : decode cX7_extrasOn 72 = .ok (.goto (-67), 3) := by decide +kernel
theorem dX7_extrasOn_75 : decode cX7_extrasOn 75 = .ok (.iload_n 3, 1) := by decide +kernel
theorem dX7_extrasOn_76 : decode cX7_extrasOn 76 = .ok (.ireturn, 1) := by decide +kernel
def f_X7_extrasOn_b5 (x1 : Int32) (x2 : Int32) (n_this_counts_cells : Nat) (n_this_promoCategories_cells : Nat) (n_this_promoFirstDays_cells : Nat) (n_this_promoLastDays_cells : Nat) (n_this_promoExtras_cells : Nat) (g_this_counts_cells : Nat → Int32) (g_this_promoCategories_cells : Nat → Int32) (g_this_promoFirstDays_cells : Nat → Int32) (g_this_promoLastDays_cells : Nat → Int32) (g_this_promoExtras_cells : Nat → Int32) : Nat → (Int32) → (Int32) → Option (Int32)
  | 0, _, _ => none
  | n + 1, x3, x4 => ((f_X6_at (2 : Int32) n_this_counts_cells g_this_counts_cells).bind fun r12 => (if r12 ≤ x4 then (some x3) else ((f_X6_at x4 n_this_promoCategories_cells g_this_promoCategories_cells).bind fun r24 => (if r24 = x1 then ((f_X6_at x4 n_this_promoFirstDays_cells g_this_promoFirstDays_cells).bind fun r37 => (if x2 < r37 then ((some (x4 + (1 : Int32))).bind fun y69 => (f_X7_extrasOn_b5 x1 x2 n_this_counts_cells n_this_promoCategories_cells n_this_promoFirstDays_cells n_this_promoLastDays_cells n_this_promoExtras_cells g_this_counts_cells g_this_promoCategories_cells g_this_promoFirstDays_cells g_this_promoLastDays_cells g_this_promoExtras_cells n x3 y69)) else ((f_X6_at x4 n_this_promoLastDays_cells g_this_promoLastDays_cells).bind fun r51 => (if r51 < x2 then ((some (x4 + (1 : Int32))).bind fun y69 => (f_X7_extrasOn_b5 x1 x2 n_this_counts_cells n_this_promoCategories_cells n_this_promoFirstDays_cells n_this_promoLastDays_cells n_this_promoExtras_cells g_this_counts_cells g_this_promoCategories_cells g_this_promoFirstDays_cells g_this_promoLastDays_cells g_this_promoExtras_cells n x3 y69)) else ((f_X6_at x4 n_this_promoExtras_cells g_this_promoExtras_cells).bind fun r64 => ((some (x3 + r64)).bind fun y68 => ((some (x4 + (1 : Int32))).bind fun y69 => (f_X7_extrasOn_b5 x1 x2 n_this_counts_cells n_this_promoCategories_cells n_this_promoFirstDays_cells n_this_promoLastDays_cells n_this_promoExtras_cells g_this_counts_cells g_this_promoCategories_cells g_this_promoFirstDays_cells g_this_promoLastDays_cells g_this_promoExtras_cells n y68 y69)))))))) else ((some (x4 + (1 : Int32))).bind fun y69 => (f_X7_extrasOn_b5 x1 x2 n_this_counts_cells n_this_promoCategories_cells n_this_promoFirstDays_cells n_this_promoLastDays_cells n_this_promoExtras_cells g_this_counts_cells g_this_promoCategories_cells g_this_promoFirstDays_cells g_this_promoLastDays_cells g_this_promoExtras_cells n x3 y69))))))
def f_X7_extrasOn (N : Nat) (x1 : Int32) (x2 : Int32) (n_this_counts_cells : Nat) (n_this_promoCategories_cells : Nat) (n_this_promoFirstDays_cells : Nat) (n_this_promoLastDays_cells : Nat) (n_this_promoExtras_cells : Nat) (g_this_counts_cells : Nat → Int32) (g_this_promoCategories_cells : Nat → Int32) (g_this_promoFirstDays_cells : Nat → Int32) (g_this_promoLastDays_cells : Nat → Int32) (g_this_promoExtras_cells : Nat → Int32) : Option (Int32) :=
  (f_X7_extrasOn_b5 x1 x2 n_this_counts_cells n_this_promoCategories_cells n_this_promoFirstDays_cells n_this_promoLastDays_cells n_this_promoExtras_cells g_this_counts_cells g_this_promoCategories_cells g_this_promoFirstDays_cells g_this_promoLastDays_cells g_this_promoExtras_cells N (0 : Int32) (0 : Int32))
set_option maxHeartbeats 4000000 in
set_option maxRecDepth 100000 in
theorem t_X7_extrasOn_b5 {l : Launch} {D : va_G} {cI cB cL cO : ClassId} {pf : Nat → Nat} {p : Program} {e : Env} {s : State} {m : MethodId} {args : Array Value} {below : List Frame} {meth : Method} {c : Code} {W0 : va_W} {a_this a_this_counts a_this_names a_this_thresholds a_this_bonuses a_this_rates a_this_caps a_this_promoCategories a_this_promoFirstDays a_this_promoLastDays a_this_promoExtras a_this_shares a_this_counts_cells a_this_promoCategories_cells a_this_promoFirstDays_cells a_this_promoLastDays_cells a_this_promoExtras_cells : Nat}  {n_this_counts_cells : Nat} {n_this_promoCategories_cells : Nat} {n_this_promoFirstDays_cells : Nat} {n_this_promoLastDays_cells : Nat} {n_this_promoExtras_cells : Nat} {v_this_life : Int32} {v_this_window : Int32} {v_this_grace : Int32} {g_this_counts_cells : Nat → Int32} {g_this_promoCategories_cells : Nat → Int32} {g_this_promoFirstDays_cells : Nat → Int32} {g_this_promoLastDays_cells : Nat → Int32} {g_this_promoExtras_cells : Nat → Int32} {x1 : Int32} {x2 : Int32} {o : Int32} (C : jC p s m args meth c cX7_extrasOn 5 RX7 D [(cI, .int), (cB, .byte), (cL, .byte), (cO, .object RX0)] pf (va_A W0 s.heap.size)) (hr : meth.sig.returnType = (some FieldType.int)) : ∀ (n : Nat) (x3 : Int32) (x4 : Int32), f_X7_extrasOn_b5 x1 x2 n_this_counts_cells n_this_promoCategories_cells n_this_promoFirstDays_cells n_this_promoLastDays_cells n_this_promoExtras_cells g_this_counts_cells g_this_promoCategories_cells g_this_promoFirstDays_cells g_this_promoLastDays_cells g_this_promoExtras_cells n x3 x4 = some o → J p l e { frames := 1, cells := 0, slots := 0, locals := 21 } s m args below meth c 5 D (va_A W0 s.heap.size) (MQ below (jQ D [(cI, .int), (cB, .byte), (cL, .byte), (cO, .object RX0)] W0 s.heap.size (is1 (some (.int o)) [(a_this, .inr (7, [.ref a_this_counts, .ref a_this_names, .ref a_this_thresholds, .ref a_this_bonuses, .ref a_this_rates, .ref a_this_caps, .ref a_this_promoCategories, .ref a_this_promoFirstDays, .ref a_this_promoLastDays, .ref a_this_promoExtras, .ref a_this_shares, .int v_this_life, .int v_this_window, .int v_this_grace])), (a_this_counts, .inr (6, [.ref a_this_counts_cells])), (a_this_counts_cells, .inl (cI, n_this_counts_cells, .inl g_this_counts_cells)), (a_this_promoCategories, .inr (6, [.ref a_this_promoCategories_cells])), (a_this_promoCategories_cells, .inl (cI, n_this_promoCategories_cells, .inl g_this_promoCategories_cells)), (a_this_promoFirstDays, .inr (6, [.ref a_this_promoFirstDays_cells])), (a_this_promoFirstDays_cells, .inl (cI, n_this_promoFirstDays_cells, .inl g_this_promoFirstDays_cells)), (a_this_promoLastDays, .inr (6, [.ref a_this_promoLastDays_cells])), (a_this_promoLastDays_cells, .inl (cI, n_this_promoLastDays_cells, .inl g_this_promoLastDays_cells)), (a_this_promoExtras, .inr (6, [.ref a_this_promoExtras_cells])), (a_this_promoExtras_cells, .inl (cI, n_this_promoExtras_cells, .inl g_this_promoExtras_cells))])) args s 0 0 (va_A W0 s.heap.size)) 0 0 5 [(0, .ref a_this), (1, .int x1), (2, .int x2), (3, .int x3), (4, .int x4)] [] [(a_this, .inr (7, [.ref a_this_counts, .ref a_this_names, .ref a_this_thresholds, .ref a_this_bonuses, .ref a_this_rates, .ref a_this_caps, .ref a_this_promoCategories, .ref a_this_promoFirstDays, .ref a_this_promoLastDays, .ref a_this_promoExtras, .ref a_this_shares, .int v_this_life, .int v_this_window, .int v_this_grace])), (a_this_counts, .inr (6, [.ref a_this_counts_cells])), (a_this_counts_cells, .inl (cI, n_this_counts_cells, .inl g_this_counts_cells)), (a_this_promoCategories, .inr (6, [.ref a_this_promoCategories_cells])), (a_this_promoCategories_cells, .inl (cI, n_this_promoCategories_cells, .inl g_this_promoCategories_cells)), (a_this_promoFirstDays, .inr (6, [.ref a_this_promoFirstDays_cells])), (a_this_promoFirstDays_cells, .inl (cI, n_this_promoFirstDays_cells, .inl g_this_promoFirstDays_cells)), (a_this_promoLastDays, .inr (6, [.ref a_this_promoLastDays_cells])), (a_this_promoLastDays_cells, .inl (cI, n_this_promoLastDays_cells, .inl g_this_promoLastDays_cells)), (a_this_promoExtras, .inr (6, [.ref a_this_promoExtras_cells])), (a_this_promoExtras_cells, .inl (cI, n_this_promoExtras_cells, .inl g_this_promoExtras_cells))] := by
  intro n
  induction n with
  | zero =>
    intro _ _ h
    rw [f_X7_extrasOn_b5] at h
    cases h
  | succ n ih =>
    intro x3 x4 h
    rw [f_X7_extrasOn_b5] at h
    refine J_iload (pc := 5) C dX7_extrasOn_5 4 rfl ?_
    refine J_aload_n (pc := 7) C dX7_extrasOn_7 0 rfl ?_
    refine J_get (pc := 8) C dX7_extrasOn_8 jf_X7 0 rfl rfl 0 (by decide) rfl fl_RX7_14 rfl ?_
    refine J_iconst (v := (2 : Int32)) (pc := 11) C dX7_extrasOn_11 (by decide) ?_
    refine J_cvr (pc := 12) (As := [.int (2 : Int32)]) (st := [.int x4]) C dX7_extrasOn_12 ml_RX7_69 mi_yX6_at (fun r12 hr => c_X6_at l D cI cB cL cO pf 0 a_this_counts a_this_counts_cells n_this_counts_cells g_this_counts_cells (2 : Int32) r12 hr) h [1, 2] rfl rfl rfl rfl rfl ⟨rfl, rfl⟩ ⟨(Nat.le_of_ble_eq_true rfl), (Nat.le_of_ble_eq_true rfl)⟩ ⟨Nat.zero_le _, Nat.zero_le _⟩ (Nat.le_of_ble_eq_true rfl) (fun r12 h => ?_)
    refine J_ic_ge (pc := 15) (tgt := 75) C dX7_extrasOn_15 (by decide) h (fun h => ?_) (fun h => ?_)
    · refine J_iload_n (pc := 75) C dX7_extrasOn_75 3 rfl ?_
      cases h
      exact J_iret (pc := 76) C dX7_extrasOn_76 hr ⟨rfl, rfl⟩
    · refine J_aload_n (pc := 18) C dX7_extrasOn_18 0 rfl ?_
      refine J_get (pc := 19) C dX7_extrasOn_19 jf_X7 0 rfl rfl 6 (by decide) rfl fl_RX7_35 rfl ?_
      refine J_iload (pc := 22) C dX7_extrasOn_22 4 rfl ?_
      refine J_cvr (pc := 24) (As := [.int x4]) (st := []) C dX7_extrasOn_24 ml_RX7_69 mi_yX6_at (fun r24 hr => c_X6_at l D cI cB cL cO pf 0 a_this_promoCategories a_this_promoCategories_cells n_this_promoCategories_cells g_this_promoCategories_cells x4 r24 hr) h [3, 4] rfl rfl rfl rfl rfl ⟨rfl, rfl⟩ ⟨(Nat.le_of_ble_eq_true rfl), (Nat.le_of_ble_eq_true rfl)⟩ ⟨Nat.zero_le _, Nat.zero_le _⟩ (Nat.le_of_ble_eq_true rfl) (fun r24 h => ?_)
      refine J_iload_n (pc := 27) C dX7_extrasOn_27 1 rfl ?_
      refine J_ic_ne (pc := 28) (tgt := 69) C dX7_extrasOn_28 (by decide) h (fun h => ?_) (fun h => ?_)
      · refine J_iincN (pc := 69) (v := (1 : Int32)) C (fun y69 => [(4, .int y69), (0, .ref a_this), (1, .int x1), (2, .int x2), (3, .int x3)]) dX7_extrasOn_69 4 rfl (by decide) h (by decide) (fun _ => rfl) (fun y69 h => ?_)
        refine J_goto (tgt := 5) (pc := 72) C dX7_extrasOn_72 (by decide) ?_
        refine J_sub (lv2 := [(0, .ref a_this), (1, .int x1), (2, .int x2), (3, .int x3), (4, .int y69)]) [1, 2, 3, 4, 0] rfl ?_
        exact ih _ _ h
      · refine J_aload_n (pc := 31) C dX7_extrasOn_31 0 rfl ?_
        refine J_get (pc := 32) C dX7_extrasOn_32 jf_X7 0 rfl rfl 7 (by decide) rfl fl_RX7_38 rfl ?_
        refine J_iload (pc := 35) C dX7_extrasOn_35 4 rfl ?_
        refine J_cvr (pc := 37) (As := [.int x4]) (st := []) C dX7_extrasOn_37 ml_RX7_69 mi_yX6_at (fun r37 hr => c_X6_at l D cI cB cL cO pf 0 a_this_promoFirstDays a_this_promoFirstDays_cells n_this_promoFirstDays_cells g_this_promoFirstDays_cells x4 r37 hr) h [5, 6] rfl rfl rfl rfl rfl ⟨rfl, rfl⟩ ⟨(Nat.le_of_ble_eq_true rfl), (Nat.le_of_ble_eq_true rfl)⟩ ⟨Nat.zero_le _, Nat.zero_le _⟩ (Nat.le_of_ble_eq_true rfl) (fun r37 h => ?_)
        refine J_iload_n (pc := 40) C dX7_extrasOn_40 2 rfl ?_
        refine J_ic_gt (pc := 41) (tgt := 69) C dX7_extrasOn_41 (by decide) h (fun h => ?_) (fun h => ?_)
        · refine J_iincN (pc := 69) (v := (1 : Int32)) C (fun y69 => [(4, .int y69), (0, .ref a_this), (1, .int x1), (2, .int x2), (3, .int x3)]) dX7_extrasOn_69 4 rfl (by decide) h (by decide) (fun _ => rfl) (fun y69 h => ?_)
          refine J_goto (tgt := 5) (pc := 72) C dX7_extrasOn_72 (by decide) ?_
          refine J_sub (lv2 := [(0, .ref a_this), (1, .int x1), (2, .int x2), (3, .int x3), (4, .int y69)]) [1, 2, 3, 4, 0] rfl ?_
          exact ih _ _ h
        · refine J_iload_n (pc := 44) C dX7_extrasOn_44 2 rfl ?_
          refine J_aload_n (pc := 45) C dX7_extrasOn_45 0 rfl ?_
          refine J_get (pc := 46) C dX7_extrasOn_46 jf_X7 0 rfl rfl 8 (by decide) rfl fl_RX7_41 rfl ?_
          refine J_iload (pc := 49) C dX7_extrasOn_49 4 rfl ?_
          refine J_cvr (pc := 51) (As := [.int x4]) (st := [.int x2]) C dX7_extrasOn_51 ml_RX7_69 mi_yX6_at (fun r51 hr => c_X6_at l D cI cB cL cO pf 0 a_this_promoLastDays a_this_promoLastDays_cells n_this_promoLastDays_cells g_this_promoLastDays_cells x4 r51 hr) h [7, 8] rfl rfl rfl rfl rfl ⟨rfl, rfl⟩ ⟨(Nat.le_of_ble_eq_true rfl), (Nat.le_of_ble_eq_true rfl)⟩ ⟨Nat.zero_le _, Nat.zero_le _⟩ (Nat.le_of_ble_eq_true rfl) (fun r51 h => ?_)
          refine J_ic_gt (pc := 54) (tgt := 69) C dX7_extrasOn_54 (by decide) h (fun h => ?_) (fun h => ?_)
          · refine J_iincN (pc := 69) (v := (1 : Int32)) C (fun y69 => [(4, .int y69), (0, .ref a_this), (1, .int x1), (2, .int x2), (3, .int x3)]) dX7_extrasOn_69 4 rfl (by decide) h (by decide) (fun _ => rfl) (fun y69 h => ?_)
            refine J_goto (tgt := 5) (pc := 72) C dX7_extrasOn_72 (by decide) ?_
            refine J_sub (lv2 := [(0, .ref a_this), (1, .int x1), (2, .int x2), (3, .int x3), (4, .int y69)]) [1, 2, 3, 4, 0] rfl ?_
            exact ih _ _ h
          · refine J_iload_n (pc := 57) C dX7_extrasOn_57 3 rfl ?_
            refine J_aload_n (pc := 58) C dX7_extrasOn_58 0 rfl ?_
            refine J_get (pc := 59) C dX7_extrasOn_59 jf_X7 0 rfl rfl 9 (by decide) rfl fl_RX7_44 rfl ?_
            refine J_iload (pc := 62) C dX7_extrasOn_62 4 rfl ?_
            refine J_cvr (pc := 64) (As := [.int x4]) (st := [.int x3]) C dX7_extrasOn_64 ml_RX7_69 mi_yX6_at (fun r64 hr => c_X6_at l D cI cB cL cO pf 0 a_this_promoExtras a_this_promoExtras_cells n_this_promoExtras_cells g_this_promoExtras_cells x4 r64 hr) h [9, 10] rfl rfl rfl rfl rfl ⟨rfl, rfl⟩ ⟨(Nat.le_of_ble_eq_true rfl), (Nat.le_of_ble_eq_true rfl)⟩ ⟨Nat.zero_le _, Nat.zero_le _⟩ (Nat.le_of_ble_eq_true rfl) (fun r64 h => ?_)
            refine J_iadd (pc := 67) C dX7_extrasOn_67 ?_
            refine J_istore_nN (pc := 68) C (fun y68 => [(3, .int y68), (0, .ref a_this), (1, .int x1), (2, .int x2), (4, .int x4)]) dX7_extrasOn_68 h (by decide) (fun _ => rfl) (fun y68 h => ?_)
            refine J_iincN (pc := 69) (v := (1 : Int32)) C (fun y69 => [(4, .int y69), (3, .int y68), (0, .ref a_this), (1, .int x1), (2, .int x2)]) dX7_extrasOn_69 4 rfl (by decide) h (by decide) (fun _ => rfl) (fun y69 h => ?_)
            refine J_goto (tgt := 5) (pc := 72) C dX7_extrasOn_72 (by decide) ?_
            refine J_sub (lv2 := [(0, .ref a_this), (1, .int x1), (2, .int x2), (3, .int y68), (4, .int y69)]) [2, 3, 4, 1, 0] rfl ?_
            exact ih _ _ h
set_option maxHeartbeats 4000000 in
set_option maxRecDepth 100000 in
theorem c_X7_extrasOn (l : Launch) (D : va_G) (cI cB cL cO : ClassId) (pf : Nat → Nat) (N : Nat) (a_this a_this_counts a_this_names a_this_thresholds a_this_bonuses a_this_rates a_this_caps a_this_promoCategories a_this_promoFirstDays a_this_promoLastDays a_this_promoExtras a_this_shares a_this_counts_cells a_this_promoCategories_cells a_this_promoFirstDays_cells a_this_promoLastDays_cells a_this_promoExtras_cells : Nat) (n_this_counts_cells : Nat) (n_this_promoCategories_cells : Nat) (n_this_promoFirstDays_cells : Nat) (n_this_promoLastDays_cells : Nat) (n_this_promoExtras_cells : Nat) (v_this_life : Int32) (v_this_window : Int32) (v_this_grace : Int32) (g_this_counts_cells : Nat → Int32) (g_this_promoCategories_cells : Nat → Int32) (g_this_promoFirstDays_cells : Nat → Int32) (g_this_promoLastDays_cells : Nat → Int32) (g_this_promoExtras_cells : Nat → Int32) (x1 : Int32) (x2 : Int32) (o : Int32) (h : f_X7_extrasOn N x1 x2 n_this_counts_cells n_this_promoCategories_cells n_this_promoFirstDays_cells n_this_promoLastDays_cells n_this_promoExtras_cells g_this_counts_cells g_this_promoCategories_cells g_this_promoFirstDays_cells g_this_promoLastDays_cells g_this_promoExtras_cells = some o) : Ct l D [(cI, .int), (cB, .byte), (cL, .byte), (cO, .object RX0)] pf yX7_extrasOn cX7_extrasOn 5 (some FieldType.int) { frames := 1, cells := 0, slots := 0, locals := 21 } [.ref a_this, .int x1, .int x2] [(a_this, .inr (7, [.ref a_this_counts, .ref a_this_names, .ref a_this_thresholds, .ref a_this_bonuses, .ref a_this_rates, .ref a_this_caps, .ref a_this_promoCategories, .ref a_this_promoFirstDays, .ref a_this_promoLastDays, .ref a_this_promoExtras, .ref a_this_shares, .int v_this_life, .int v_this_window, .int v_this_grace])), (a_this_counts, .inr (6, [.ref a_this_counts_cells])), (a_this_counts_cells, .inl (cI, n_this_counts_cells, .inl g_this_counts_cells)), (a_this_promoCategories, .inr (6, [.ref a_this_promoCategories_cells])), (a_this_promoCategories_cells, .inl (cI, n_this_promoCategories_cells, .inl g_this_promoCategories_cells)), (a_this_promoFirstDays, .inr (6, [.ref a_this_promoFirstDays_cells])), (a_this_promoFirstDays_cells, .inl (cI, n_this_promoFirstDays_cells, .inl g_this_promoFirstDays_cells)), (a_this_promoLastDays, .inr (6, [.ref a_this_promoLastDays_cells])), (a_this_promoLastDays_cells, .inl (cI, n_this_promoLastDays_cells, .inl g_this_promoLastDays_cells)), (a_this_promoExtras, .inr (6, [.ref a_this_promoExtras_cells])), (a_this_promoExtras_cells, .inl (cI, n_this_promoExtras_cells, .inl g_this_promoExtras_cells))] (is1 (some (.int o)) [(a_this, .inr (7, [.ref a_this_counts, .ref a_this_names, .ref a_this_thresholds, .ref a_this_bonuses, .ref a_this_rates, .ref a_this_caps, .ref a_this_promoCategories, .ref a_this_promoFirstDays, .ref a_this_promoLastDays, .ref a_this_promoExtras, .ref a_this_shares, .int v_this_life, .int v_this_window, .int v_this_grace])), (a_this_counts, .inr (6, [.ref a_this_counts_cells])), (a_this_counts_cells, .inl (cI, n_this_counts_cells, .inl g_this_counts_cells)), (a_this_promoCategories, .inr (6, [.ref a_this_promoCategories_cells])), (a_this_promoCategories_cells, .inl (cI, n_this_promoCategories_cells, .inl g_this_promoCategories_cells)), (a_this_promoFirstDays, .inr (6, [.ref a_this_promoFirstDays_cells])), (a_this_promoFirstDays_cells, .inl (cI, n_this_promoFirstDays_cells, .inl g_this_promoFirstDays_cells)), (a_this_promoLastDays, .inr (6, [.ref a_this_promoLastDays_cells])), (a_this_promoLastDays_cells, .inl (cI, n_this_promoLastDays_cells, .inl g_this_promoLastDays_cells)), (a_this_promoExtras, .inr (6, [.ref a_this_promoExtras_cells])), (a_this_promoExtras_cells, .inl (cI, n_this_promoExtras_cells, .inl g_this_promoExtras_cells))]) := by
  refine Ct_of (own := RX7) (lv0 := [(0, .ref a_this), (1, .int x1), (2, .int x2)]) (by decide) rfl rfl (Nat.le_of_ble_eq_true rfl) ?_
  intro p e s m args below meth c C hr hnm
  unfold f_X7_extrasOn at h
  refine J_iconst (v := (0 : Int32)) (pc := 0) C dX7_extrasOn_0 (by decide) ?_
  refine J_istore_n (lv2 := [(3, .int (0 : Int32)), (0, .ref a_this), (1, .int x1), (2, .int x2)]) (pc := 1) C dX7_extrasOn_1 (by decide) rfl ?_
  refine J_iconst (v := (0 : Int32)) (pc := 2) C dX7_extrasOn_2 (by decide) ?_
  refine J_istore (lv2 := [(4, .int (0 : Int32)), (3, .int (0 : Int32)), (0, .ref a_this), (1, .int x1), (2, .int x2)]) (pc := 3) C dX7_extrasOn_3 (by decide) rfl ?_
  refine J_sub (lv2 := [(0, .ref a_this), (1, .int x1), (2, .int x2), (3, .int (0 : Int32)), (4, .int (0 : Int32))]) [2, 3, 4, 1, 0] rfl ?_
  exact t_X7_extrasOn_b5 C hr N _ _ h
-- PointsLedger$Books.worth(III)I
theorem dX0_worth_0 : decode cX0_worth 0 = .ok (.bipush 100, 2) := by decide +kernel
theorem dX0_worth_2 : decode cX0_worth 2 = .ok (.aload_n 0, 1) := by decide +kernel
theorem dX0_worth_3 : decode cX0_worth 3 = .ok (.getfield 9, 3) := by decide +kernel
theorem dX0_worth_6 : decode cX0_worth 6 = .ok (.aload_n 0, 1) := by decide +kernel
theorem dX0_worth_7 : decode cX0_worth 7 = .ok (.getfield 41, 3) := by decide +kernel
theorem dX0_worth_10 : decode cX0_worth 10 = .ok (.iload_n 1, 1) := by decide +kernel
theorem dX0_worth_11 : decode cX0_worth 11 = .ok (.invokevirtual 121, 3) := by decide +kernel
theorem dX0_worth_14 : decode cX0_worth 14 = .ok (.invokevirtual 148, 3) := by decide +kernel
theorem dX0_worth_17 : decode cX0_worth 17 = .ok (.iadd, 1) := by decide +kernel
theorem dX0_worth_18 : decode cX0_worth 18 = .ok (.aload_n 0, 1) := by decide +kernel
theorem dX0_worth_19 : decode cX0_worth 19 = .ok (.getfield 9, 3) := by decide +kernel
theorem dX0_worth_22 : decode cX0_worth 22 = .ok (.iload_n 2, 1) := by decide +kernel
theorem dX0_worth_23 : decode cX0_worth 23 = .ok (.aload_n 0, 1) := by decide +kernel
theorem dX0_worth_24 : decode cX0_worth 24 = .ok (.getfield 100, 3) := by decide +kernel
theorem dX0_worth_27 : decode cX0_worth 27 = .ok (.invokevirtual 151, 3) := by decide +kernel
theorem dX0_worth_30 : decode cX0_worth 30 = .ok (.iadd, 1) := by decide +kernel
theorem dX0_worth_31 : decode cX0_worth 31 = .ok (.istore 4, 2) := by decide +kernel
theorem dX0_worth_33 : decode cX0_worth 33 = .ok (.aload_n 0, 1) := by decide +kernel
theorem dX0_worth_34 : decode cX0_worth 34 = .ok (.getfield 9, 3) := by decide +kernel
theorem dX0_worth_37 : decode cX0_worth 37 = .ok (.iload_n 2, 1) := by decide +kernel
theorem dX0_worth_38 : decode cX0_worth 38 = .ok (.iload_n 3, 1) := by decide +kernel
theorem dX0_worth_39 : decode cX0_worth 39 = .ok (.invokevirtual 154, 3) := by decide +kernel
theorem dX0_worth_42 : decode cX0_worth 42 = .ok (.iload 4, 2) := by decide +kernel
theorem dX0_worth_44 : decode cX0_worth 44 = .ok (.imul, 1) := by decide +kernel
theorem dX0_worth_45 : decode cX0_worth 45 = .ok (.bipush 100, 2) := by decide +kernel
theorem dX0_worth_47 : decode cX0_worth 47 = .ok (.idiv, 1) := by decide +kernel
theorem dX0_worth_48 : decode cX0_worth 48 = .ok (.ireturn, 1) := by decide +kernel
def f_X0_worth (N : Nat) (x1 : Int32) (x2 : Int32) (x3 : Int32) (n_this_setup_counts_cells : Nat) (n_this_setup_bonuses_cells : Nat) (n_this_setup_rates_cells : Nat) (n_this_setup_caps_cells : Nat) (n_this_setup_promoCategories_cells : Nat) (n_this_setup_promoFirstDays_cells : Nat) (n_this_setup_promoLastDays_cells : Nat) (n_this_setup_promoExtras_cells : Nat) (n_this_tiers_cells : Nat) (v_this_day : Int32) (g_this_setup_counts_cells : Nat → Int32) (g_this_setup_bonuses_cells : Nat → Int32) (g_this_setup_rates_cells : Nat → Int32) (g_this_setup_caps_cells : Nat → Int32) (g_this_setup_promoCategories_cells : Nat → Int32) (g_this_setup_promoFirstDays_cells : Nat → Int32) (g_this_setup_promoLastDays_cells : Nat → Int32) (g_this_setup_promoExtras_cells : Nat → Int32) (g_this_tiers_cells : Nat → Int32) : Option (Int32) :=
  ((f_X6_at x1 n_this_tiers_cells g_this_tiers_cells).bind fun r11 => ((f_X7_bonusOf r11 n_this_setup_bonuses_cells g_this_setup_bonuses_cells).bind fun r14 => ((f_X7_extrasOn N x2 v_this_day n_this_setup_counts_cells n_this_setup_promoCategories_cells n_this_setup_promoFirstDays_cells n_this_setup_promoLastDays_cells n_this_setup_promoExtras_cells g_this_setup_counts_cells g_this_setup_promoCategories_cells g_this_setup_promoFirstDays_cells g_this_setup_promoLastDays_cells g_this_setup_promoExtras_cells).bind fun r27 => ((some (((100 : Int32) + r14) + r27)).bind fun y31 => ((f_X7_baseOf x2 x3 n_this_setup_rates_cells n_this_setup_caps_cells g_this_setup_rates_cells g_this_setup_caps_cells).bind fun r39 => (if (100 : Int32) = 0 then none else (some ((r39 * y31) / (100 : Int32)))))))))
set_option maxHeartbeats 4000000 in
set_option maxRecDepth 100000 in
theorem c_X0_worth (l : Launch) (D : va_G) (cI cB cL cO : ClassId) (pf : Nat → Nat) (N : Nat) (a_this a_this_setup a_this_cohorts a_this_purchases a_this_diary a_this_tiers a_this_belowSince a_this_debts a_this_homes a_this_qualifying a_this_shares a_this_redeemed a_this_totals a_this_losses a_this_balances a_this_standing a_this_setup_counts a_this_setup_names a_this_setup_thresholds a_this_setup_bonuses a_this_setup_rates a_this_setup_caps a_this_setup_promoCategories a_this_setup_promoFirstDays a_this_setup_promoLastDays a_this_setup_promoExtras a_this_setup_shares a_this_setup_counts_cells a_this_setup_bonuses_cells a_this_setup_rates_cells a_this_setup_caps_cells a_this_setup_promoCategories_cells a_this_setup_promoFirstDays_cells a_this_setup_promoLastDays_cells a_this_setup_promoExtras_cells a_this_tiers_cells : Nat) (n_this_setup_counts_cells : Nat) (n_this_setup_bonuses_cells : Nat) (n_this_setup_rates_cells : Nat) (n_this_setup_caps_cells : Nat) (n_this_setup_promoCategories_cells : Nat) (n_this_setup_promoFirstDays_cells : Nat) (n_this_setup_promoLastDays_cells : Nat) (n_this_setup_promoExtras_cells : Nat) (n_this_tiers_cells : Nat) (v_this_day : Int32) (v_this_windowStart : Int32) (v_this_setup_life : Int32) (v_this_setup_window : Int32) (v_this_setup_grace : Int32) (g_this_setup_counts_cells : Nat → Int32) (g_this_setup_bonuses_cells : Nat → Int32) (g_this_setup_rates_cells : Nat → Int32) (g_this_setup_caps_cells : Nat → Int32) (g_this_setup_promoCategories_cells : Nat → Int32) (g_this_setup_promoFirstDays_cells : Nat → Int32) (g_this_setup_promoLastDays_cells : Nat → Int32) (g_this_setup_promoExtras_cells : Nat → Int32) (g_this_tiers_cells : Nat → Int32) (x1 : Int32) (x2 : Int32) (x3 : Int32) (o : Int32) (h : f_X0_worth N x1 x2 x3 n_this_setup_counts_cells n_this_setup_bonuses_cells n_this_setup_rates_cells n_this_setup_caps_cells n_this_setup_promoCategories_cells n_this_setup_promoFirstDays_cells n_this_setup_promoLastDays_cells n_this_setup_promoExtras_cells n_this_tiers_cells v_this_day g_this_setup_counts_cells g_this_setup_bonuses_cells g_this_setup_rates_cells g_this_setup_caps_cells g_this_setup_promoCategories_cells g_this_setup_promoFirstDays_cells g_this_setup_promoLastDays_cells g_this_setup_promoExtras_cells g_this_tiers_cells = some o) : Ct l D [(cI, .int), (cB, .byte), (cL, .byte), (cO, .object RX0)] pf yX0_worth cX0_worth 5 (some FieldType.int) { frames := 2, cells := 0, slots := 0, locals := 48 } [.ref a_this, .int x1, .int x2, .int x3] [(a_this, .inr (0, [.ref a_this_setup, .ref a_this_cohorts, .ref a_this_purchases, .ref a_this_diary, .ref a_this_tiers, .ref a_this_belowSince, .ref a_this_debts, .ref a_this_homes, .ref a_this_qualifying, .ref a_this_shares, .ref a_this_redeemed, .ref a_this_totals, .ref a_this_losses, .ref a_this_balances, .ref a_this_standing, .int v_this_day, .int v_this_windowStart])), (a_this_setup, .inr (7, [.ref a_this_setup_counts, .ref a_this_setup_names, .ref a_this_setup_thresholds, .ref a_this_setup_bonuses, .ref a_this_setup_rates, .ref a_this_setup_caps, .ref a_this_setup_promoCategories, .ref a_this_setup_promoFirstDays, .ref a_this_setup_promoLastDays, .ref a_this_setup_promoExtras, .ref a_this_setup_shares, .int v_this_setup_life, .int v_this_setup_window, .int v_this_setup_grace])), (a_this_setup_counts, .inr (6, [.ref a_this_setup_counts_cells])), (a_this_setup_counts_cells, .inl (cI, n_this_setup_counts_cells, .inl g_this_setup_counts_cells)), (a_this_setup_bonuses, .inr (6, [.ref a_this_setup_bonuses_cells])), (a_this_setup_bonuses_cells, .inl (cI, n_this_setup_bonuses_cells, .inl g_this_setup_bonuses_cells)), (a_this_setup_rates, .inr (6, [.ref a_this_setup_rates_cells])), (a_this_setup_rates_cells, .inl (cI, n_this_setup_rates_cells, .inl g_this_setup_rates_cells)), (a_this_setup_caps, .inr (6, [.ref a_this_setup_caps_cells])), (a_this_setup_caps_cells, .inl (cI, n_this_setup_caps_cells, .inl g_this_setup_caps_cells)), (a_this_setup_promoCategories, .inr (6, [.ref a_this_setup_promoCategories_cells])), (a_this_setup_promoCategories_cells, .inl (cI, n_this_setup_promoCategories_cells, .inl g_this_setup_promoCategories_cells)), (a_this_setup_promoFirstDays, .inr (6, [.ref a_this_setup_promoFirstDays_cells])), (a_this_setup_promoFirstDays_cells, .inl (cI, n_this_setup_promoFirstDays_cells, .inl g_this_setup_promoFirstDays_cells)), (a_this_setup_promoLastDays, .inr (6, [.ref a_this_setup_promoLastDays_cells])), (a_this_setup_promoLastDays_cells, .inl (cI, n_this_setup_promoLastDays_cells, .inl g_this_setup_promoLastDays_cells)), (a_this_setup_promoExtras, .inr (6, [.ref a_this_setup_promoExtras_cells])), (a_this_setup_promoExtras_cells, .inl (cI, n_this_setup_promoExtras_cells, .inl g_this_setup_promoExtras_cells)), (a_this_tiers, .inr (6, [.ref a_this_tiers_cells])), (a_this_tiers_cells, .inl (cI, n_this_tiers_cells, .inl g_this_tiers_cells))] (is1 (some (.int o)) [(a_this, .inr (0, [.ref a_this_setup, .ref a_this_cohorts, .ref a_this_purchases, .ref a_this_diary, .ref a_this_tiers, .ref a_this_belowSince, .ref a_this_debts, .ref a_this_homes, .ref a_this_qualifying, .ref a_this_shares, .ref a_this_redeemed, .ref a_this_totals, .ref a_this_losses, .ref a_this_balances, .ref a_this_standing, .int v_this_day, .int v_this_windowStart])), (a_this_setup, .inr (7, [.ref a_this_setup_counts, .ref a_this_setup_names, .ref a_this_setup_thresholds, .ref a_this_setup_bonuses, .ref a_this_setup_rates, .ref a_this_setup_caps, .ref a_this_setup_promoCategories, .ref a_this_setup_promoFirstDays, .ref a_this_setup_promoLastDays, .ref a_this_setup_promoExtras, .ref a_this_setup_shares, .int v_this_setup_life, .int v_this_setup_window, .int v_this_setup_grace])), (a_this_setup_counts, .inr (6, [.ref a_this_setup_counts_cells])), (a_this_setup_counts_cells, .inl (cI, n_this_setup_counts_cells, .inl g_this_setup_counts_cells)), (a_this_setup_bonuses, .inr (6, [.ref a_this_setup_bonuses_cells])), (a_this_setup_bonuses_cells, .inl (cI, n_this_setup_bonuses_cells, .inl g_this_setup_bonuses_cells)), (a_this_setup_rates, .inr (6, [.ref a_this_setup_rates_cells])), (a_this_setup_rates_cells, .inl (cI, n_this_setup_rates_cells, .inl g_this_setup_rates_cells)), (a_this_setup_caps, .inr (6, [.ref a_this_setup_caps_cells])), (a_this_setup_caps_cells, .inl (cI, n_this_setup_caps_cells, .inl g_this_setup_caps_cells)), (a_this_setup_promoCategories, .inr (6, [.ref a_this_setup_promoCategories_cells])), (a_this_setup_promoCategories_cells, .inl (cI, n_this_setup_promoCategories_cells, .inl g_this_setup_promoCategories_cells)), (a_this_setup_promoFirstDays, .inr (6, [.ref a_this_setup_promoFirstDays_cells])), (a_this_setup_promoFirstDays_cells, .inl (cI, n_this_setup_promoFirstDays_cells, .inl g_this_setup_promoFirstDays_cells)), (a_this_setup_promoLastDays, .inr (6, [.ref a_this_setup_promoLastDays_cells])), (a_this_setup_promoLastDays_cells, .inl (cI, n_this_setup_promoLastDays_cells, .inl g_this_setup_promoLastDays_cells)), (a_this_setup_promoExtras, .inr (6, [.ref a_this_setup_promoExtras_cells])), (a_this_setup_promoExtras_cells, .inl (cI, n_this_setup_promoExtras_cells, .inl g_this_setup_promoExtras_cells)), (a_this_tiers, .inr (6, [.ref a_this_tiers_cells])), (a_this_tiers_cells, .inl (cI, n_this_tiers_cells, .inl g_this_tiers_cells))]) := by
  refine Ct_of (own := RX0) (lv0 := [(0, .ref a_this), (1, .int x1), (2, .int x2), (3, .int x3)]) (by decide) rfl rfl (Nat.le_of_ble_eq_true rfl) ?_
  intro p e s m args below meth c C hr hnm
  unfold f_X0_worth at h
  refine J_bipush (v := (100 : Int32)) (pc := 0) C dX0_worth_0 (by decide) ?_
  refine J_aload_n (pc := 2) C dX0_worth_2 0 rfl ?_
  refine J_get (pc := 3) C dX0_worth_3 jf_X0 0 rfl rfl 0 (by decide) rfl fl_RX0_9 rfl ?_
  refine J_aload_n (pc := 6) C dX0_worth_6 0 rfl ?_
  refine J_get (pc := 7) C dX0_worth_7 jf_X0 0 rfl rfl 4 (by decide) rfl fl_RX0_41 rfl ?_
  refine J_iload_n (pc := 10) C dX0_worth_10 1 rfl ?_
  refine J_cvr (pc := 11) (As := [.int x1]) (st := [.ref a_this_setup, .int (100 : Int32)]) C dX0_worth_11 ml_RX0_121 mi_yX6_at (fun r11 hr => c_X6_at l D cI cB cL cO pf 0 a_this_tiers a_this_tiers_cells n_this_tiers_cells g_this_tiers_cells x1 r11 hr) h [18, 19] rfl rfl rfl rfl rfl ⟨rfl, rfl⟩ ⟨(Nat.le_of_ble_eq_true rfl), (Nat.le_of_ble_eq_true rfl)⟩ ⟨Nat.zero_le _, Nat.zero_le _⟩ (Nat.le_of_ble_eq_true rfl) (fun r11 h => ?_)
  refine J_cvr (pc := 14) (As := [.int r11]) (st := [.int (100 : Int32)]) C dX0_worth_14 ml_RX0_148 mi_yX7_bonusOf (fun r14 hr => c_X7_bonusOf l D cI cB cL cO pf 0 a_this_setup a_this_setup_counts a_this_setup_names a_this_setup_thresholds a_this_setup_bonuses a_this_setup_rates a_this_setup_caps a_this_setup_promoCategories a_this_setup_promoFirstDays a_this_setup_promoLastDays a_this_setup_promoExtras a_this_setup_shares a_this_setup_bonuses_cells n_this_setup_bonuses_cells v_this_setup_life v_this_setup_window v_this_setup_grace g_this_setup_bonuses_cells r11 r14 hr) h [1, 4, 5] rfl rfl rfl rfl rfl ⟨rfl, rfl⟩ ⟨(Nat.le_of_ble_eq_true rfl), (Nat.le_of_ble_eq_true rfl)⟩ ⟨Nat.zero_le _, Nat.zero_le _⟩ (Nat.le_of_ble_eq_true rfl) (fun r14 h => ?_)
  refine J_iadd (pc := 17) C dX0_worth_17 ?_
  refine J_aload_n (pc := 18) C dX0_worth_18 0 rfl ?_
  refine J_get (pc := 19) C dX0_worth_19 jf_X0 0 rfl rfl 0 (by decide) rfl fl_RX0_9 rfl ?_
  refine J_iload_n (pc := 22) C dX0_worth_22 2 rfl ?_
  refine J_aload_n (pc := 23) C dX0_worth_23 0 rfl ?_
  refine J_get (pc := 24) C dX0_worth_24 jf_X0 0 rfl rfl 15 (by decide) rfl fl_RX0_100 rfl ?_
  refine J_cvr (pc := 27) (As := [.int x2, .int v_this_day]) (st := [.int ((100 : Int32) + r14)]) C dX0_worth_27 ml_RX0_151 mi_yX7_extrasOn (fun r27 hr => c_X7_extrasOn l D cI cB cL cO pf N a_this_setup a_this_setup_counts a_this_setup_names a_this_setup_thresholds a_this_setup_bonuses a_this_setup_rates a_this_setup_caps a_this_setup_promoCategories a_this_setup_promoFirstDays a_this_setup_promoLastDays a_this_setup_promoExtras a_this_setup_shares a_this_setup_counts_cells a_this_setup_promoCategories_cells a_this_setup_promoFirstDays_cells a_this_setup_promoLastDays_cells a_this_setup_promoExtras_cells n_this_setup_counts_cells n_this_setup_promoCategories_cells n_this_setup_promoFirstDays_cells n_this_setup_promoLastDays_cells n_this_setup_promoExtras_cells v_this_setup_life v_this_setup_window v_this_setup_grace g_this_setup_counts_cells g_this_setup_promoCategories_cells g_this_setup_promoFirstDays_cells g_this_setup_promoLastDays_cells g_this_setup_promoExtras_cells x2 v_this_day r27 hr) h [1, 2, 3, 10, 11, 12, 13, 14, 15, 16, 17] rfl rfl rfl rfl rfl ⟨rfl, rfl⟩ ⟨(Nat.le_of_ble_eq_true rfl), (Nat.le_of_ble_eq_true rfl)⟩ ⟨Nat.zero_le _, Nat.zero_le _⟩ (Nat.le_of_ble_eq_true rfl) (fun r27 h => ?_)
  refine J_iadd (pc := 30) C dX0_worth_30 ?_
  refine J_istoreN (pc := 31) C (fun y31 => [(4, .int y31), (0, .ref a_this), (1, .int x1), (2, .int x2), (3, .int x3)]) dX0_worth_31 h (by decide) (fun _ => rfl) (fun y31 h => ?_)
  refine J_aload_n (pc := 33) C dX0_worth_33 1 rfl ?_
  refine J_get (pc := 34) C dX0_worth_34 jf_X0 0 rfl rfl 0 (by decide) rfl fl_RX0_9 rfl ?_
  refine J_iload_n (pc := 37) C dX0_worth_37 3 rfl ?_
  refine J_iload_n (pc := 38) C dX0_worth_38 4 rfl ?_
  refine J_cvr (pc := 39) (As := [.int x2, .int x3]) (st := []) C dX0_worth_39 ml_RX0_154 mi_yX7_baseOf (fun r39 hr => c_X7_baseOf l D cI cB cL cO pf 0 a_this_setup a_this_setup_counts a_this_setup_names a_this_setup_thresholds a_this_setup_bonuses a_this_setup_rates a_this_setup_caps a_this_setup_promoCategories a_this_setup_promoFirstDays a_this_setup_promoLastDays a_this_setup_promoExtras a_this_setup_shares a_this_setup_rates_cells a_this_setup_caps_cells n_this_setup_rates_cells n_this_setup_caps_cells v_this_setup_life v_this_setup_window v_this_setup_grace g_this_setup_rates_cells g_this_setup_caps_cells x2 x3 r39 hr) h [1, 6, 7, 8, 9] rfl rfl rfl rfl rfl ⟨rfl, rfl⟩ ⟨(Nat.le_of_ble_eq_true rfl), (Nat.le_of_ble_eq_true rfl)⟩ ⟨Nat.zero_le _, Nat.zero_le _⟩ (Nat.le_of_ble_eq_true rfl) (fun r39 h => ?_)
  refine J_iload (pc := 42) C dX0_worth_42 0 rfl ?_
  refine J_imul (pc := 44) C dX0_worth_44 ?_
  refine J_bipush (v := (100 : Int32)) (pc := 45) C dX0_worth_45 (by decide) ?_
  refine J_idiv (pc := 47) C dX0_worth_47 h (fun h => ?_)
  cases h
  exact J_iret (pc := 48) C dX0_worth_48 hr ⟨rfl, rfl⟩
-- PointsLedger$LogBook.add(IIII)V
theorem dX4_add_0 : decode cX4_add 0 = .ok (.aload_n 0, 1) := by decide +kernel
theorem dX4_add_1 : decode cX4_add 1 = .ok (.getfield 20, 3) := by decide +kernel
theorem dX4_add_4 : decode cX4_add 4 = .ok (.iconst 4, 1) := by decide +kernel
theorem dX4_add_5 : decode cX4_add 5 = .ok (.imul, 1) := by decide +kernel
theorem dX4_add_6 : decode cX4_add 6 = .ok (.istore 5, 2) := by decide +kernel
theorem dX4_add_8 : decode cX4_add 8 = .ok (.aload_n 0, 1) := by decide +kernel
theorem dX4_add_9 : decode cX4_add 9 = .ok (.getfield 14, 3) := by decide +kernel
theorem dX4_add_12 : decode cX4_add 12 = .ok (.iload 5, 2) := by decide +kernel
theorem dX4_add_14 : decode cX4_add 14 = .ok (.iload_n 1, 1) := by decide +kernel
theorem dX4_add_15 : decode cX4_add 15 = .ok (.invokevirtual 35, 3) := by decide +kernel
theorem dX4_add_18 : decode cX4_add 18 = .ok (.aload_n 0, 1) := by decide +kernel
theorem dX4_add_19 : decode cX4_add 19 = .ok (.getfield 14, 3) := by decide +kernel
theorem dX4_add_22 : decode cX4_add 22 = .ok (.iload 5, 2) := by decide +kernel
theorem dX4_add_24 : decode cX4_add 24 = .ok (.iconst 1, 1) := by decide +kernel
theorem dX4_add_25 : decode cX4_add 25 = .ok (.iadd, 1) := by decide +kernel
theorem dX4_add_26 : decode cX4_add 26 = .ok (.iload_n 2, 1) := by decide +kernel
theorem dX4_add_27 : decode cX4_add 27 = .ok (.invokevirtual 35, 3) := by decide +kernel
theorem dX4_add_30 : decode cX4_add 30 = .ok (.aload_n 0, 1) := by decide +kernel
theorem dX4_add_31 : decode cX4_add 31 = .ok (.getfield 14, 3) := by decide +kernel
theorem dX4_add_34 : decode cX4_add 34 = .ok (.iload 5, 2) := by decide +kernel
theorem dX4_add_36 : decode cX4_add 36 = .ok (.iconst 2, 1) := by decide +kernel
theorem dX4_add_37 : decode cX4_add 37 = .ok (.iadd, 1) := by decide +kernel
theorem dX4_add_38 : decode cX4_add 38 = .ok (.iload_n 3, 1) := by decide +kernel
theorem dX4_add_39 : decode cX4_add 39 = .ok (.invokevirtual 35, 3) := by decide +kernel
theorem dX4_add_42 : decode cX4_add 42 = .ok (.aload_n 0, 1) := by decide +kernel
theorem dX4_add_43 : decode cX4_add 43 = .ok (.getfield 14, 3) := by decide +kernel
theorem dX4_add_46 : decode cX4_add 46 = .ok (.iload 5, 2) := by decide +kernel
theorem dX4_add_48 : decode cX4_add 48 = .ok (.iconst 3, 1) := by decide +kernel
theorem dX4_add_49 : decode cX4_add 49 = .ok (.iadd, 1) := by decide +kernel
theorem dX4_add_50 : decode cX4_add 50 = .ok (.iload 4, 2) := by decide +kernel
theorem dX4_add_52 : decode cX4_add 52 = .ok (.invokevirtual 35, 3) := by decide +kernel
theorem dX4_add_55 : decode cX4_add 55 = .ok (.aload_n 0, 1) := by decide +kernel
theorem dX4_add_56 : decode cX4_add 56 = .ok (.aload_n 0, 1) := by decide +kernel
theorem dX4_add_57 : decode cX4_add 57 = .ok (.getfield 20, 3) := by decide +kernel
theorem dX4_add_60 : decode cX4_add 60 = .ok (.iconst 1, 1) := by decide +kernel
theorem dX4_add_61 : decode cX4_add 61 = .ok (.iadd, 1) := by decide +kernel
theorem dX4_add_62 : decode cX4_add 62 = .ok (.bipush 30, 2) := by decide +kernel
theorem dX4_add_64 : decode cX4_add 64 = .ok (.if_icmp .ge 12, 3) := by decide +kernel
theorem dX4_add_67 : decode cX4_add 67 = .ok (.aload_n 0, 1) := by decide +kernel
theorem dX4_add_68 : decode cX4_add 68 = .ok (.getfield 20, 3) := by decide +kernel
theorem dX4_add_71 : decode cX4_add 71 = .ok (.iconst 1, 1) := by decide +kernel
theorem dX4_add_72 : decode cX4_add 72 = .ok (.iadd, 1) := by decide +kernel
theorem dX4_add_73 : decode cX4_add 73 = .ok (.goto 4, 3) := by decide +kernel
theorem dX4_add_76 : decode cX4_add 76 = .ok (.iconst 0, 1) := by decide +kernel
theorem dX4_add_77 : decode cX4_add 77 = .ok (.putfield 20, 3) := by decide +kernel
theorem dX4_add_80 : decode cX4_add 80 = .ok (.aload_n 0, 1) := by decide +kernel
theorem dX4_add_81 : decode cX4_add 81 = .ok (.aload_n 0, 1) := by decide +kernel
theorem dX4_add_82 : decode cX4_add 82 = .ok (.getfield 24, 3) := by decide +kernel
theorem dX4_add_85 : decode cX4_add 85 = .ok (.iconst 1, 1) := by decide +kernel
theorem dX4_add_86 : decode cX4_add 86 = .ok (.iadd, 1) := by decide +kernel
theorem dX4_add_87 : decode cX4_add 87 = .ok (.bipush 30, 2) := by decide +kernel
theorem dX4_add_89 : decode cX4_add 89 = .ok (.invokestatic 39, 3) := by decide +kernel
theorem dX4_add_92 : decode cX4_add 92 = .ok (.putfield 24, 3) := by decide +kernel
theorem dX4_add_95 : decode cX4_add 95 = .ok (.return_, 1) := by decide +kernel
def f_X4_add_b77 (s1 : Int32) (v_this_size : Int32) (g_this_parts_cells : Nat → Int32) : Option (Int32 × Int32 × (Nat → Int32)) :=
  (some (s1, (if (30 : Int32) < (v_this_size + (1 : Int32)) then (30 : Int32) else (v_this_size + (1 : Int32))), g_this_parts_cells))
def f_X4_add (x1 : Int32) (x2 : Int32) (x3 : Int32) (x4 : Int32) (n_this_parts_cells : Nat) (v_this_next : Int32) (v_this_size : Int32) (g_this_parts_cells : Nat → Int32) : Option (Int32 × Int32 × (Nat → Int32)) :=
  ((some (v_this_next * (4 : Int32))).bind fun y6 => ((f_X6_put y6 x1 n_this_parts_cells g_this_parts_cells).bind fun r15 => ((f_X6_put (y6 + (1 : Int32)) x2 n_this_parts_cells r15).bind fun r27 => ((f_X6_put (y6 + (2 : Int32)) x3 n_this_parts_cells r27).bind fun r39 => ((f_X6_put (y6 + (3 : Int32)) x4 n_this_parts_cells r39).bind fun r52 => (if (30 : Int32) ≤ (v_this_next + (1 : Int32)) then (f_X4_add_b77 (0 : Int32) v_this_size r52) else (f_X4_add_b77 (v_this_next + (1 : Int32)) v_this_size r52)))))))
set_option maxHeartbeats 4000000 in
set_option maxRecDepth 100000 in
theorem t_X4_add_b77 {l : Launch} {D : va_G} {cI cB cL cO : ClassId} {pf : Nat → Nat} {p : Program} {e : Env} {s : State} {m : MethodId} {args : Array Value} {below : List Frame} {meth : Method} {c : Code} {W0 : va_W} {a_this a_this_parts a_this_parts_cells : Nat}  {n_this_parts_cells : Nat} {v_this_next : Int32} {v_this_size : Int32} {g_this_parts_cells : Nat → Int32} {s1 : Int32} {o : Int32 × Int32 × (Nat → Int32)} (C : jC p s m args meth c cX4_add 6 RX4 D [(cI, .int), (cB, .byte), (cL, .byte), (cO, .object RX0)] pf (va_A W0 s.heap.size)) (hr : meth.sig.returnType = (none : Option FieldType)) (h : f_X4_add_b77 s1 v_this_size g_this_parts_cells = some o) : J p l e { frames := 1, cells := 0, slots := 0, locals := 24 } s m args below meth c 6 D (va_A W0 s.heap.size) (MQ below (jQ D [(cI, .int), (cB, .byte), (cL, .byte), (cO, .object RX0)] W0 s.heap.size (is1 (none) [(a_this, .inr (4, [.ref a_this_parts, .int o.1, .int o.2.1])), (a_this_parts, .inr (6, [.ref a_this_parts_cells])), (a_this_parts_cells, .inl (cI, n_this_parts_cells, .inl o.2.2))])) args s 0 0 (va_A W0 s.heap.size)) 0 0 77 [(0, .ref a_this)] [.int s1, .ref a_this] [(a_this, .inr (4, [.ref a_this_parts, .int v_this_next, .int v_this_size])), (a_this_parts, .inr (6, [.ref a_this_parts_cells])), (a_this_parts_cells, .inl (cI, n_this_parts_cells, .inl g_this_parts_cells))] := by
  unfold f_X4_add_b77 at h
  refine J_put (tt := .int) (pc := 77) C dX4_add_77 jf_X4 0 rfl rfl 1 (by decide) rfl fl_RX4_20 rfl (by decide +kernel) rfl rfl (Nat.le_of_ble_eq_true rfl) ?_
  refine J_ws (ws2 := [(a_this, .inr (4, [.ref a_this_parts, .int s1, .int v_this_size])), (a_this_parts, .inr (6, [.ref a_this_parts_cells])), (a_this_parts_cells, .inl (cI, n_this_parts_cells, .inl g_this_parts_cells))]) rfl ?_
  refine J_aload_n (pc := 80) C dX4_add_80 0 rfl ?_
  refine J_aload_n (pc := 81) C dX4_add_81 0 rfl ?_
  refine J_get (pc := 82) C dX4_add_82 jf_X4 0 rfl rfl 2 (by decide) rfl fl_RX4_24 rfl ?_
  refine J_iconst (v := (1 : Int32)) (pc := 85) C dX4_add_85 (by decide) ?_
  refine J_iadd (pc := 86) C dX4_add_86 ?_
  refine J_bipush (v := (30 : Int32)) (pc := 87) C dX4_add_87 (by decide) ?_
  refine J_mmin (pc := 89) C dX4_add_89 ml_RX4_39 w_min (Nat.le_of_ble_eq_true rfl) (Nat.le_of_ble_eq_true rfl) ⟨Nat.zero_le _, Nat.zero_le _⟩ ?_
  refine J_put (tt := .int) (pc := 92) C dX4_add_92 jf_X4 0 rfl rfl 2 (by decide) rfl fl_RX4_24 rfl (by decide +kernel) rfl rfl (Nat.le_of_ble_eq_true rfl) ?_
  refine J_ws (ws2 := [(a_this, .inr (4, [.ref a_this_parts, .int s1, .int (if (30 : Int32) < (v_this_size + (1 : Int32)) then (30 : Int32) else (v_this_size + (1 : Int32)))])), (a_this_parts, .inr (6, [.ref a_this_parts_cells])), (a_this_parts_cells, .inl (cI, n_this_parts_cells, .inl g_this_parts_cells))]) rfl ?_
  cases h
  exact J_vret (pc := 95) C dX4_add_95 hr ⟨rfl, rfl⟩
set_option maxHeartbeats 4000000 in
set_option maxRecDepth 100000 in
theorem c_X4_add (l : Launch) (D : va_G) (cI cB cL cO : ClassId) (pf : Nat → Nat) (N : Nat) (a_this a_this_parts a_this_parts_cells : Nat) (n_this_parts_cells : Nat) (v_this_next : Int32) (v_this_size : Int32) (g_this_parts_cells : Nat → Int32) (x1 : Int32) (x2 : Int32) (x3 : Int32) (x4 : Int32) (o : Int32 × Int32 × (Nat → Int32)) (h : f_X4_add x1 x2 x3 x4 n_this_parts_cells v_this_next v_this_size g_this_parts_cells = some o) : Ct l D [(cI, .int), (cB, .byte), (cL, .byte), (cO, .object RX0)] pf yX4_add cX4_add 6 (none : Option FieldType) { frames := 1, cells := 0, slots := 0, locals := 24 } [.ref a_this, .int x1, .int x2, .int x3, .int x4] [(a_this, .inr (4, [.ref a_this_parts, .int v_this_next, .int v_this_size])), (a_this_parts, .inr (6, [.ref a_this_parts_cells])), (a_this_parts_cells, .inl (cI, n_this_parts_cells, .inl g_this_parts_cells))] (is1 (none) [(a_this, .inr (4, [.ref a_this_parts, .int o.1, .int o.2.1])), (a_this_parts, .inr (6, [.ref a_this_parts_cells])), (a_this_parts_cells, .inl (cI, n_this_parts_cells, .inl o.2.2))]) := by
  refine Ct_of (own := RX4) (lv0 := [(0, .ref a_this), (1, .int x1), (2, .int x2), (3, .int x3), (4, .int x4)]) (by decide) rfl rfl (Nat.le_of_ble_eq_true rfl) ?_
  intro p e s m args below meth c C hr hnm
  unfold f_X4_add at h
  refine J_aload_n (pc := 0) C dX4_add_0 0 rfl ?_
  refine J_get (pc := 1) C dX4_add_1 jf_X4 0 rfl rfl 1 (by decide) rfl fl_RX4_20 rfl ?_
  refine J_iconst (v := (4 : Int32)) (pc := 4) C dX4_add_4 (by decide) ?_
  refine J_imul (pc := 5) C dX4_add_5 ?_
  refine J_istoreN (pc := 6) C (fun y6 => [(5, .int y6), (0, .ref a_this), (1, .int x1), (2, .int x2), (3, .int x3), (4, .int x4)]) dX4_add_6 h (by decide) (fun _ => rfl) (fun y6 h => ?_)
  refine J_aload_n (pc := 8) C dX4_add_8 1 rfl ?_
  refine J_get (pc := 9) C dX4_add_9 jf_X4 0 rfl rfl 0 (by decide) rfl fl_RX4_14 rfl ?_
  refine J_iload (pc := 12) C dX4_add_12 0 rfl ?_
  refine J_iload_n (pc := 14) C dX4_add_14 2 rfl ?_
  refine J_cvw (pc := 15) (As := [.int y6, .int x1]) (st := []) C (fun r15 => [(a_this, .inr (4, [.ref a_this_parts, .int v_this_next, .int v_this_size])), (a_this_parts, .inr (6, [.ref a_this_parts_cells])), (a_this_parts_cells, .inl (cI, n_this_parts_cells, .inl r15))]) dX4_add_15 ml_RX4_35 mi_yX6_put (fun r15 hr => c_X6_put l D cI cB cL cO pf 0 a_this_parts a_this_parts_cells n_this_parts_cells g_this_parts_cells y6 x1 r15 hr) h [1, 2] rfl rfl rfl rfl rfl ⟨rfl, rfl⟩ ⟨(Nat.le_of_ble_eq_true rfl), (Nat.le_of_ble_eq_true rfl)⟩ ⟨Nat.zero_le _, Nat.zero_le _⟩ (Nat.le_of_ble_eq_true rfl) (fun _ => rfl) (fun _ => rfl) (fun r15 h => ?_)
  refine J_aload_n (pc := 18) C dX4_add_18 1 rfl ?_
  refine J_get (pc := 19) C dX4_add_19 jf_X4 0 rfl rfl 0 (by decide) rfl fl_RX4_14 rfl ?_
  refine J_iload (pc := 22) C dX4_add_22 0 rfl ?_
  refine J_iconst (v := (1 : Int32)) (pc := 24) C dX4_add_24 (by decide) ?_
  refine J_iadd (pc := 25) C dX4_add_25 ?_
  refine J_iload_n (pc := 26) C dX4_add_26 3 rfl ?_
  refine J_cvw (pc := 27) (As := [.int (y6 + (1 : Int32)), .int x2]) (st := []) C (fun r27 => [(a_this, .inr (4, [.ref a_this_parts, .int v_this_next, .int v_this_size])), (a_this_parts, .inr (6, [.ref a_this_parts_cells])), (a_this_parts_cells, .inl (cI, n_this_parts_cells, .inl r27))]) dX4_add_27 ml_RX4_35 mi_yX6_put (fun r27 hr => c_X6_put l D cI cB cL cO pf 0 a_this_parts a_this_parts_cells n_this_parts_cells r15 (y6 + (1 : Int32)) x2 r27 hr) h [1, 2] rfl rfl rfl rfl rfl ⟨rfl, rfl⟩ ⟨(Nat.le_of_ble_eq_true rfl), (Nat.le_of_ble_eq_true rfl)⟩ ⟨Nat.zero_le _, Nat.zero_le _⟩ (Nat.le_of_ble_eq_true rfl) (fun _ => rfl) (fun _ => rfl) (fun r27 h => ?_)
  refine J_aload_n (pc := 30) C dX4_add_30 1 rfl ?_
  refine J_get (pc := 31) C dX4_add_31 jf_X4 0 rfl rfl 0 (by decide) rfl fl_RX4_14 rfl ?_
  refine J_iload (pc := 34) C dX4_add_34 0 rfl ?_
  refine J_iconst (v := (2 : Int32)) (pc := 36) C dX4_add_36 (by decide) ?_
  refine J_iadd (pc := 37) C dX4_add_37 ?_
  refine J_iload_n (pc := 38) C dX4_add_38 4 rfl ?_
  refine J_cvw (pc := 39) (As := [.int (y6 + (2 : Int32)), .int x3]) (st := []) C (fun r39 => [(a_this, .inr (4, [.ref a_this_parts, .int v_this_next, .int v_this_size])), (a_this_parts, .inr (6, [.ref a_this_parts_cells])), (a_this_parts_cells, .inl (cI, n_this_parts_cells, .inl r39))]) dX4_add_39 ml_RX4_35 mi_yX6_put (fun r39 hr => c_X6_put l D cI cB cL cO pf 0 a_this_parts a_this_parts_cells n_this_parts_cells r27 (y6 + (2 : Int32)) x3 r39 hr) h [1, 2] rfl rfl rfl rfl rfl ⟨rfl, rfl⟩ ⟨(Nat.le_of_ble_eq_true rfl), (Nat.le_of_ble_eq_true rfl)⟩ ⟨Nat.zero_le _, Nat.zero_le _⟩ (Nat.le_of_ble_eq_true rfl) (fun _ => rfl) (fun _ => rfl) (fun r39 h => ?_)
  refine J_aload_n (pc := 42) C dX4_add_42 1 rfl ?_
  refine J_get (pc := 43) C dX4_add_43 jf_X4 0 rfl rfl 0 (by decide) rfl fl_RX4_14 rfl ?_
  refine J_iload (pc := 46) C dX4_add_46 0 rfl ?_
  refine J_iconst (v := (3 : Int32)) (pc := 48) C dX4_add_48 (by decide) ?_
  refine J_iadd (pc := 49) C dX4_add_49 ?_
  refine J_iload (pc := 50) C dX4_add_50 5 rfl ?_
  refine J_cvw (pc := 52) (As := [.int (y6 + (3 : Int32)), .int x4]) (st := []) C (fun r52 => [(a_this, .inr (4, [.ref a_this_parts, .int v_this_next, .int v_this_size])), (a_this_parts, .inr (6, [.ref a_this_parts_cells])), (a_this_parts_cells, .inl (cI, n_this_parts_cells, .inl r52))]) dX4_add_52 ml_RX4_35 mi_yX6_put (fun r52 hr => c_X6_put l D cI cB cL cO pf 0 a_this_parts a_this_parts_cells n_this_parts_cells r39 (y6 + (3 : Int32)) x4 r52 hr) h [1, 2] rfl rfl rfl rfl rfl ⟨rfl, rfl⟩ ⟨(Nat.le_of_ble_eq_true rfl), (Nat.le_of_ble_eq_true rfl)⟩ ⟨Nat.zero_le _, Nat.zero_le _⟩ (Nat.le_of_ble_eq_true rfl) (fun _ => rfl) (fun _ => rfl) (fun r52 h => ?_)
  refine J_aload_n (pc := 55) C dX4_add_55 1 rfl ?_
  refine J_aload_n (pc := 56) C dX4_add_56 1 rfl ?_
  refine J_get (pc := 57) C dX4_add_57 jf_X4 0 rfl rfl 1 (by decide) rfl fl_RX4_20 rfl ?_
  refine J_iconst (v := (1 : Int32)) (pc := 60) C dX4_add_60 (by decide) ?_
  refine J_iadd (pc := 61) C dX4_add_61 ?_
  refine J_bipush (v := (30 : Int32)) (pc := 62) C dX4_add_62 (by decide) ?_
  refine J_ic_ge (pc := 64) (tgt := 76) C dX4_add_64 (by decide) h (fun h => ?_) (fun h => ?_)
  · refine J_iconst (v := (0 : Int32)) (pc := 76) C dX4_add_76 (by decide) ?_
    refine J_sub (lv2 := [(0, .ref a_this)]) [1] rfl ?_
    exact t_X4_add_b77 C hr h
  · refine J_aload_n (pc := 67) C dX4_add_67 1 rfl ?_
    refine J_get (pc := 68) C dX4_add_68 jf_X4 0 rfl rfl 1 (by decide) rfl fl_RX4_20 rfl ?_
    refine J_iconst (v := (1 : Int32)) (pc := 71) C dX4_add_71 (by decide) ?_
    refine J_iadd (pc := 72) C dX4_add_72 ?_
    refine J_goto (tgt := 77) (pc := 73) C dX4_add_73 (by decide) ?_
    refine J_sub (lv2 := [(0, .ref a_this)]) [1] rfl ?_
    exact t_X4_add_b77 C hr h
-- PointsLedger$Setup.grace()I
theorem dX7_grace_0 : decode cX7_grace 0 = .ok (.aload_n 0, 1) := by decide +kernel
theorem dX7_grace_1 : decode cX7_grace 1 = .ok (.getfield 66, 3) := by decide +kernel
theorem dX7_grace_4 : decode cX7_grace 4 = .ok (.ireturn, 1) := by decide +kernel
def f_X7_grace (v_this_grace : Int32) : Option (Int32) :=
  (some v_this_grace)
set_option maxHeartbeats 4000000 in
set_option maxRecDepth 100000 in
theorem c_X7_grace (l : Launch) (D : va_G) (cI cB cL cO : ClassId) (pf : Nat → Nat) (N : Nat) (a_this a_this_counts a_this_names a_this_thresholds a_this_bonuses a_this_rates a_this_caps a_this_promoCategories a_this_promoFirstDays a_this_promoLastDays a_this_promoExtras a_this_shares : Nat) (v_this_life : Int32) (v_this_window : Int32) (v_this_grace : Int32) (o : Int32) (h : f_X7_grace v_this_grace = some o) : Ct l D [(cI, .int), (cB, .byte), (cL, .byte), (cO, .object RX0)] pf yX7_grace cX7_grace 1 (some FieldType.int) { frames := 0, cells := 0, slots := 0, locals := 0 } [.ref a_this] [(a_this, .inr (7, [.ref a_this_counts, .ref a_this_names, .ref a_this_thresholds, .ref a_this_bonuses, .ref a_this_rates, .ref a_this_caps, .ref a_this_promoCategories, .ref a_this_promoFirstDays, .ref a_this_promoLastDays, .ref a_this_promoExtras, .ref a_this_shares, .int v_this_life, .int v_this_window, .int v_this_grace]))] (is1 (some (.int o)) [(a_this, .inr (7, [.ref a_this_counts, .ref a_this_names, .ref a_this_thresholds, .ref a_this_bonuses, .ref a_this_rates, .ref a_this_caps, .ref a_this_promoCategories, .ref a_this_promoFirstDays, .ref a_this_promoLastDays, .ref a_this_promoExtras, .ref a_this_shares, .int v_this_life, .int v_this_window, .int v_this_grace]))]) := by
  refine Ct_of (own := RX7) (lv0 := [(0, .ref a_this)]) (by decide) rfl rfl (Nat.le_of_ble_eq_true rfl) ?_
  intro p e s m args below meth c C hr hnm
  unfold f_X7_grace at h
  refine J_aload_n (pc := 0) C dX7_grace_0 0 rfl ?_
  refine J_get (pc := 1) C dX7_grace_1 jf_X7 0 rfl rfl 13 (by decide) rfl fl_RX7_66 rfl ?_
  cases h
  exact J_iret (pc := 4) C dX7_grace_4 hr ⟨rfl, rfl⟩
-- PointsLedger$Setup.tierFor(I)I
theorem dX7_tierFor_0 : decode cX7_tierFor 0 = .ok (.iconst 0, 1) := by decide +kernel
theorem dX7_tierFor_1 : decode cX7_tierFor 1 = .ok (.istore_n 2, 1) := by decide +kernel
theorem dX7_tierFor_2 : decode cX7_tierFor 2 = .ok (.iconst 1, 1) := by decide +kernel
theorem dX7_tierFor_3 : decode cX7_tierFor 3 = .ok (.istore_n 3, 1) := by decide +kernel
theorem dX7_tierFor_4 : decode cX7_tierFor 4 = .ok (.iload_n 3, 1) := by decide +kernel
theorem dX7_tierFor_5 : decode cX7_tierFor 5 = .ok (.aload_n 0, 1) := by decide +kernel
theorem dX7_tierFor_6 : decode cX7_tierFor 6 = .ok (.getfield 14, 3) := by decide +kernel
theorem dX7_tierFor_9 : decode cX7_tierFor 9 = .ok (.iconst 0, 1) := by decide +kernel
theorem dX7_tierFor_10 : decode cX7_tierFor 10 = .ok (.invokevirtual 69, 3) := by decide +kernel
theorem dX7_tierFor_13 : decode cX7_tierFor 13 = .ok (.if_icmp .ge 23, 3) := by decide +kernel
theorem dX7_tierFor_16 : decode cX7_tierFor 16 = .ok (.aload_n 0, 1) := by decide +kernel
theorem dX7_tierFor_17 : decode cX7_tierFor 17 = .ok (.getfield 23, 3) := by decide +kernel
theorem dX7_tierFor_20 : decode cX7_tierFor 20 = .ok (.iload_n 3, 1) := by decide +kernel
theorem dX7_tierFor_21 : decode cX7_tierFor 21 = .ok (.invokevirtual 69, 3) := by decide +kernel
theorem dX7_tierFor_24 : decode cX7_tierFor 24 = .ok (.iload_n 1, 1) := by decide +kernel
theorem dX7_tierFor_25 : decode cX7_tierFor 25 = .ok (.if_icmp .gt 5, 3) := by decide +kernel
theorem dX7_tierFor_28 : decode cX7_tierFor 28 = .ok (.iload_n 3, 1) := by decide +kernel
theorem dX7_tierFor_29 : decode cX7_tierFor 29 = .ok (.istore_n 2, 1) := by decide +kernel
theorem dX7_tierFor_30 : decode cX7_tierFor 30 = .ok (.iinc 3 1, 3) := by decide +kernel
theorem dX7_tierFor_33 : decode cX7_tierFor 33 = .ok (.goto (-29), 3) := by decide +kernel
theorem dX7_tierFor_36 : decode cX7_tierFor 36 = .ok (.iload_n 2, 1) := by decide +kernel
theorem dX7_tierFor_37 : decode cX7_tierFor 37 = .ok (.ireturn, 1) := by decide +kernel
def f_X7_tierFor_b4 (x1 : Int32) (n_this_counts_cells : Nat) (n_this_thresholds_cells : Nat) (g_this_counts_cells : Nat → Int32) (g_this_thresholds_cells : Nat → Int32) : Nat → (Int32) → (Int32) → Option (Int32)
  | 0, _, _ => none
  | n + 1, x2, x3 => ((f_X6_at (0 : Int32) n_this_counts_cells g_this_counts_cells).bind fun r10 => (if r10 ≤ x3 then (some x2) else ((f_X6_at x3 n_this_thresholds_cells g_this_thresholds_cells).bind fun r21 => (if x1 < r21 then ((some (x3 + (1 : Int32))).bind fun y30 => (f_X7_tierFor_b4 x1 n_this_counts_cells n_this_thresholds_cells g_this_counts_cells g_this_thresholds_cells n x2 y30)) else ((some (x3 + (1 : Int32))).bind fun y30 => (f_X7_tierFor_b4 x1 n_this_counts_cells n_this_thresholds_cells g_this_counts_cells g_this_thresholds_cells n x3 y30))))))
def f_X7_tierFor (N : Nat) (x1 : Int32) (n_this_counts_cells : Nat) (n_this_thresholds_cells : Nat) (g_this_counts_cells : Nat → Int32) (g_this_thresholds_cells : Nat → Int32) : Option (Int32) :=
  (f_X7_tierFor_b4 x1 n_this_counts_cells n_this_thresholds_cells g_this_counts_cells g_this_thresholds_cells N (0 : Int32) (1 : Int32))
set_option maxHeartbeats 4000000 in
set_option maxRecDepth 100000 in
theorem t_X7_tierFor_b4 {l : Launch} {D : va_G} {cI cB cL cO : ClassId} {pf : Nat → Nat} {p : Program} {e : Env} {s : State} {m : MethodId} {args : Array Value} {below : List Frame} {meth : Method} {c : Code} {W0 : va_W} {a_this a_this_counts a_this_names a_this_thresholds a_this_bonuses a_this_rates a_this_caps a_this_promoCategories a_this_promoFirstDays a_this_promoLastDays a_this_promoExtras a_this_shares a_this_counts_cells a_this_thresholds_cells : Nat}  {n_this_counts_cells : Nat} {n_this_thresholds_cells : Nat} {v_this_life : Int32} {v_this_window : Int32} {v_this_grace : Int32} {g_this_counts_cells : Nat → Int32} {g_this_thresholds_cells : Nat → Int32} {x1 : Int32} {o : Int32} (C : jC p s m args meth c cX7_tierFor 4 RX7 D [(cI, .int), (cB, .byte), (cL, .byte), (cO, .object RX0)] pf (va_A W0 s.heap.size)) (hr : meth.sig.returnType = (some FieldType.int)) : ∀ (n : Nat) (x2 : Int32) (x3 : Int32), f_X7_tierFor_b4 x1 n_this_counts_cells n_this_thresholds_cells g_this_counts_cells g_this_thresholds_cells n x2 x3 = some o → J p l e { frames := 1, cells := 0, slots := 0, locals := 21 } s m args below meth c 4 D (va_A W0 s.heap.size) (MQ below (jQ D [(cI, .int), (cB, .byte), (cL, .byte), (cO, .object RX0)] W0 s.heap.size (is1 (some (.int o)) [(a_this, .inr (7, [.ref a_this_counts, .ref a_this_names, .ref a_this_thresholds, .ref a_this_bonuses, .ref a_this_rates, .ref a_this_caps, .ref a_this_promoCategories, .ref a_this_promoFirstDays, .ref a_this_promoLastDays, .ref a_this_promoExtras, .ref a_this_shares, .int v_this_life, .int v_this_window, .int v_this_grace])), (a_this_counts, .inr (6, [.ref a_this_counts_cells])), (a_this_counts_cells, .inl (cI, n_this_counts_cells, .inl g_this_counts_cells)), (a_this_thresholds, .inr (6, [.ref a_this_thresholds_cells])), (a_this_thresholds_cells, .inl (cI, n_this_thresholds_cells, .inl g_this_thresholds_cells))])) args s 0 0 (va_A W0 s.heap.size)) 0 0 4 [(0, .ref a_this), (1, .int x1), (2, .int x2), (3, .int x3)] [] [(a_this, .inr (7, [.ref a_this_counts, .ref a_this_names, .ref a_this_thresholds, .ref a_this_bonuses, .ref a_this_rates, .ref a_this_caps, .ref a_this_promoCategories, .ref a_this_promoFirstDays, .ref a_this_promoLastDays, .ref a_this_promoExtras, .ref a_this_shares, .int v_this_life, .int v_this_window, .int v_this_grace])), (a_this_counts, .inr (6, [.ref a_this_counts_cells])), (a_this_counts_cells, .inl (cI, n_this_counts_cells, .inl g_this_counts_cells)), (a_this_thresholds, .inr (6, [.ref a_this_thresholds_cells])), (a_this_thresholds_cells, .inl (cI, n_this_thresholds_cells, .inl g_this_thresholds_cells))] := by
  intro n
  induction n with
  | zero =>
    intro _ _ h
    rw [f_X7_tierFor_b4] at h
    cases h
  | succ n ih =>
    intro x2 x3 h
    rw [f_X7_tierFor_b4] at h
    refine J_iload_n (pc := 4) C dX7_tierFor_4 3 rfl ?_
    refine J_aload_n (pc := 5) C dX7_tierFor_5 0 rfl ?_
    refine J_get (pc := 6) C dX7_tierFor_6 jf_X7 0 rfl rfl 0 (by decide) rfl fl_RX7_14 rfl ?_
    refine J_iconst (v := (0 : Int32)) (pc := 9) C dX7_tierFor_9 (by decide) ?_
    refine J_cvr (pc := 10) (As := [.int (0 : Int32)]) (st := [.int x3]) C dX7_tierFor_10 ml_RX7_69 mi_yX6_at (fun r10 hr => c_X6_at l D cI cB cL cO pf 0 a_this_counts a_this_counts_cells n_this_counts_cells g_this_counts_cells (0 : Int32) r10 hr) h [1, 2] rfl rfl rfl rfl rfl ⟨rfl, rfl⟩ ⟨(Nat.le_of_ble_eq_true rfl), (Nat.le_of_ble_eq_true rfl)⟩ ⟨Nat.zero_le _, Nat.zero_le _⟩ (Nat.le_of_ble_eq_true rfl) (fun r10 h => ?_)
    refine J_ic_ge (pc := 13) (tgt := 36) C dX7_tierFor_13 (by decide) h (fun h => ?_) (fun h => ?_)
    · refine J_iload_n (pc := 36) C dX7_tierFor_36 2 rfl ?_
      cases h
      exact J_iret (pc := 37) C dX7_tierFor_37 hr ⟨rfl, rfl⟩
    · refine J_aload_n (pc := 16) C dX7_tierFor_16 0 rfl ?_
      refine J_get (pc := 17) C dX7_tierFor_17 jf_X7 0 rfl rfl 2 (by decide) rfl fl_RX7_23 rfl ?_
      refine J_iload_n (pc := 20) C dX7_tierFor_20 3 rfl ?_
      refine J_cvr (pc := 21) (As := [.int x3]) (st := []) C dX7_tierFor_21 ml_RX7_69 mi_yX6_at (fun r21 hr => c_X6_at l D cI cB cL cO pf 0 a_this_thresholds a_this_thresholds_cells n_this_thresholds_cells g_this_thresholds_cells x3 r21 hr) h [3, 4] rfl rfl rfl rfl rfl ⟨rfl, rfl⟩ ⟨(Nat.le_of_ble_eq_true rfl), (Nat.le_of_ble_eq_true rfl)⟩ ⟨Nat.zero_le _, Nat.zero_le _⟩ (Nat.le_of_ble_eq_true rfl) (fun r21 h => ?_)
      refine J_iload_n (pc := 24) C dX7_tierFor_24 1 rfl ?_
      refine J_ic_gt (pc := 25) (tgt := 30) C dX7_tierFor_25 (by decide) h (fun h => ?_) (fun h => ?_)
      · refine J_iincN (pc := 30) (v := (1 : Int32)) C (fun y30 => [(3, .int y30), (0, .ref a_this), (1, .int x1), (2, .int x2)]) dX7_tierFor_30 3 rfl (by decide) h (by decide) (fun _ => rfl) (fun y30 h => ?_)
        refine J_goto (tgt := 4) (pc := 33) C dX7_tierFor_33 (by decide) ?_
        refine J_sub (lv2 := [(0, .ref a_this), (1, .int x1), (2, .int x2), (3, .int y30)]) [1, 2, 3, 0] rfl ?_
        exact ih _ _ h
      · refine J_iload_n (pc := 28) C dX7_tierFor_28 3 rfl ?_
        refine J_istore_n (lv2 := [(2, .int x3), (0, .ref a_this), (1, .int x1), (3, .int x3)]) (pc := 29) C dX7_tierFor_29 (by decide) rfl ?_
        refine J_iincN (pc := 30) (v := (1 : Int32)) C (fun y30 => [(3, .int y30), (2, .int x3), (0, .ref a_this), (1, .int x1)]) dX7_tierFor_30 3 rfl (by decide) h (by decide) (fun _ => rfl) (fun y30 h => ?_)
        refine J_goto (tgt := 4) (pc := 33) C dX7_tierFor_33 (by decide) ?_
        refine J_sub (lv2 := [(0, .ref a_this), (1, .int x1), (2, .int x3), (3, .int y30)]) [2, 3, 1, 0] rfl ?_
        exact ih _ _ h
set_option maxHeartbeats 4000000 in
set_option maxRecDepth 100000 in
theorem c_X7_tierFor (l : Launch) (D : va_G) (cI cB cL cO : ClassId) (pf : Nat → Nat) (N : Nat) (a_this a_this_counts a_this_names a_this_thresholds a_this_bonuses a_this_rates a_this_caps a_this_promoCategories a_this_promoFirstDays a_this_promoLastDays a_this_promoExtras a_this_shares a_this_counts_cells a_this_thresholds_cells : Nat) (n_this_counts_cells : Nat) (n_this_thresholds_cells : Nat) (v_this_life : Int32) (v_this_window : Int32) (v_this_grace : Int32) (g_this_counts_cells : Nat → Int32) (g_this_thresholds_cells : Nat → Int32) (x1 : Int32) (o : Int32) (h : f_X7_tierFor N x1 n_this_counts_cells n_this_thresholds_cells g_this_counts_cells g_this_thresholds_cells = some o) : Ct l D [(cI, .int), (cB, .byte), (cL, .byte), (cO, .object RX0)] pf yX7_tierFor cX7_tierFor 4 (some FieldType.int) { frames := 1, cells := 0, slots := 0, locals := 21 } [.ref a_this, .int x1] [(a_this, .inr (7, [.ref a_this_counts, .ref a_this_names, .ref a_this_thresholds, .ref a_this_bonuses, .ref a_this_rates, .ref a_this_caps, .ref a_this_promoCategories, .ref a_this_promoFirstDays, .ref a_this_promoLastDays, .ref a_this_promoExtras, .ref a_this_shares, .int v_this_life, .int v_this_window, .int v_this_grace])), (a_this_counts, .inr (6, [.ref a_this_counts_cells])), (a_this_counts_cells, .inl (cI, n_this_counts_cells, .inl g_this_counts_cells)), (a_this_thresholds, .inr (6, [.ref a_this_thresholds_cells])), (a_this_thresholds_cells, .inl (cI, n_this_thresholds_cells, .inl g_this_thresholds_cells))] (is1 (some (.int o)) [(a_this, .inr (7, [.ref a_this_counts, .ref a_this_names, .ref a_this_thresholds, .ref a_this_bonuses, .ref a_this_rates, .ref a_this_caps, .ref a_this_promoCategories, .ref a_this_promoFirstDays, .ref a_this_promoLastDays, .ref a_this_promoExtras, .ref a_this_shares, .int v_this_life, .int v_this_window, .int v_this_grace])), (a_this_counts, .inr (6, [.ref a_this_counts_cells])), (a_this_counts_cells, .inl (cI, n_this_counts_cells, .inl g_this_counts_cells)), (a_this_thresholds, .inr (6, [.ref a_this_thresholds_cells])), (a_this_thresholds_cells, .inl (cI, n_this_thresholds_cells, .inl g_this_thresholds_cells))]) := by
  refine Ct_of (own := RX7) (lv0 := [(0, .ref a_this), (1, .int x1)]) (by decide) rfl rfl (Nat.le_of_ble_eq_true rfl) ?_
  intro p e s m args below meth c C hr hnm
  unfold f_X7_tierFor at h
  refine J_iconst (v := (0 : Int32)) (pc := 0) C dX7_tierFor_0 (by decide) ?_
  refine J_istore_n (lv2 := [(2, .int (0 : Int32)), (0, .ref a_this), (1, .int x1)]) (pc := 1) C dX7_tierFor_1 (by decide) rfl ?_
  refine J_iconst (v := (1 : Int32)) (pc := 2) C dX7_tierFor_2 (by decide) ?_
  refine J_istore_n (lv2 := [(3, .int (1 : Int32)), (2, .int (0 : Int32)), (0, .ref a_this), (1, .int x1)]) (pc := 3) C dX7_tierFor_3 (by decide) rfl ?_
  refine J_sub (lv2 := [(0, .ref a_this), (1, .int x1), (2, .int (0 : Int32)), (3, .int (1 : Int32))]) [2, 3, 1, 0] rfl ?_
  exact t_X7_tierFor_b4 C hr N _ _ h
-- PointsLedger$Standing.belowDay()I
theorem dX9_belowDay_0 : decode cX9_belowDay 0 = .ok (.aload_n 0, 1) := by decide +kernel
theorem dX9_belowDay_1 : decode cX9_belowDay 1 = .ok (.getfield 15, 3) := by decide +kernel
theorem dX9_belowDay_4 : decode cX9_belowDay 4 = .ok (.ireturn, 1) := by decide +kernel
def f_X9_belowDay (v_this_since : Int32) : Option (Int32) :=
  (some v_this_since)
set_option maxHeartbeats 4000000 in
set_option maxRecDepth 100000 in
theorem c_X9_belowDay (l : Launch) (D : va_G) (cI cB cL cO : ClassId) (pf : Nat → Nat) (N : Nat) (a_this : Nat) (v_this_tier : Int32) (v_this_since : Int32) (o : Int32) (h : f_X9_belowDay v_this_since = some o) : Ct l D [(cI, .int), (cB, .byte), (cL, .byte), (cO, .object RX0)] pf yX9_belowDay cX9_belowDay 1 (some FieldType.int) { frames := 0, cells := 0, slots := 0, locals := 0 } [.ref a_this] [(a_this, .inr (9, [.int v_this_tier, .int v_this_since]))] (is1 (some (.int o)) [(a_this, .inr (9, [.int v_this_tier, .int v_this_since]))]) := by
  refine Ct_of (own := RX9) (lv0 := [(0, .ref a_this)]) (by decide) rfl rfl (Nat.le_of_ble_eq_true rfl) ?_
  intro p e s m args below meth c C hr hnm
  unfold f_X9_belowDay at h
  refine J_aload_n (pc := 0) C dX9_belowDay_0 0 rfl ?_
  refine J_get (pc := 1) C dX9_belowDay_1 jf_X9 0 rfl rfl 1 (by decide) rfl fl_RX9_15 rfl ?_
  cases h
  exact J_iret (pc := 4) C dX9_belowDay_4 hr ⟨rfl, rfl⟩
-- PointsLedger$Standing.check(III)V
theorem dX9_check_0 : decode cX9_check 0 = .ok (.iload_n 1, 1) := by decide +kernel
theorem dX9_check_1 : decode cX9_check 1 = .ok (.aload_n 0, 1) := by decide +kernel
theorem dX9_check_2 : decode cX9_check 2 = .ok (.getfield 9, 3) := by decide +kernel
theorem dX9_check_5 : decode cX9_check 5 = .ok (.if_icmp .lt 14, 3) := by decide +kernel
theorem dX9_check_8 : decode cX9_check 8 = .ok (.aload_n 0, 1) := by decide +kernel
theorem dX9_check_9 : decode cX9_check 9 = .ok (.iload_n 1, 1) := by decide +kernel
theorem dX9_check_10 : decode cX9_check 10 = .ok (.putfield 9, 3) := by decide +kernel
theorem dX9_check_13 : decode cX9_check 13 = .ok (.aload_n 0, 1) := by decide +kernel
theorem dX9_check_14 : decode cX9_check 14 = .ok (.iconst (-1), 1) := by decide +kernel
theorem dX9_check_15 : decode cX9_check 15 = .ok (.putfield 15, 3) := by decide +kernel
theorem dX9_check_18 : decode cX9_check 18 = .ok (.return_, 1) := by decide +kernel
theorem dX9_check_19 : decode cX9_check 19 = .ok (.aload_n 0, 1) := by decide +kernel
theorem dX9_check_20 : decode cX9_check 20 = .ok (.getfield 15, 3) := by decide +kernel
theorem dX9_check_23 : decode cX9_check 23 = .ok (.iconst (-1), 1) := by decide +kernel
theorem dX9_check_24 : decode cX9_check 24 = .ok (.if_icmp .ne 8, 3) := by decide +kernel
theorem dX9_check_27 : decode cX9_check 27 = .ok (.aload_n 0, 1) := by decide +kernel
theorem dX9_check_28 : decode cX9_check 28 = .ok (.iload_n 2, 1) := by decide +kernel
theorem dX9_check_29 : decode cX9_check 29 = .ok (.putfield 15, 3) := by decide +kernel
theorem dX9_check_32 : decode cX9_check 32 = .ok (.iload_n 2, 1) := by decide +kernel
theorem dX9_check_33 : decode cX9_check 33 = .ok (.aload_n 0, 1) := by decide +kernel
theorem dX9_check_34 : decode cX9_check 34 = .ok (.getfield 15, 3) := by decide +kernel
theorem dX9_check_37 : decode cX9_check 37 = .ok (.isub, 1) := by decide +kernel
theorem dX9_check_38 : decode cX9_check 38 = .ok (.iload_n 3, 1) := by decide +kernel
theorem dX9_check_39 : decode cX9_check 39 = .ok (.if_icmp .lt 13, 3) := by decide +kernel
theorem dX9_check_42 : decode cX9_check 42 = .ok (.aload_n 0, 1) := by decide +kernel
theorem dX9_check_43 : decode cX9_check 43 = .ok (.iload_n 1, 1) := by decide +kernel
theorem dX9_check_44 : decode cX9_check 44 = .ok (.putfield 9, 3) := by decide +kernel
theorem dX9_check_47 : decode cX9_check 47 = .ok (.aload_n 0, 1) := by decide +kernel
theorem dX9_check_48 : decode cX9_check 48 = .ok (.iconst (-1), 1) := by decide +kernel
theorem dX9_check_49 : decode cX9_check 49 = .ok (.putfield 15, 3) := by decide +kernel
theorem dX9_check_52 : decode cX9_check 52 = .ok (.return_, 1) := by decide +kernel
def f_X9_check_b32 (x1 : Int32) (x2 : Int32) (x3 : Int32) (v_this_tier : Int32) (v_this_since : Int32) : Option (Int32 × Int32) :=
  (if (x2 - v_this_since) < x3 then (some (v_this_tier, v_this_since)) else (some (x1, (-1 : Int32))))
def f_X9_check (x1 : Int32) (x2 : Int32) (x3 : Int32) (v_this_tier : Int32) (v_this_since : Int32) : Option (Int32 × Int32) :=
  (if x1 < v_this_tier then (if v_this_since = (-1 : Int32) then (f_X9_check_b32 x1 x2 x3 v_this_tier x2) else (f_X9_check_b32 x1 x2 x3 v_this_tier v_this_since)) else (some (x1, (-1 : Int32))))
set_option maxHeartbeats 4000000 in
set_option maxRecDepth 100000 in
theorem t_X9_check_b32 {l : Launch} {D : va_G} {cI cB cL cO : ClassId} {pf : Nat → Nat} {p : Program} {e : Env} {s : State} {m : MethodId} {args : Array Value} {below : List Frame} {meth : Method} {c : Code} {W0 : va_W} {a_this : Nat}  {v_this_tier : Int32} {v_this_since : Int32} {x1 : Int32} {x2 : Int32} {x3 : Int32} {o : Int32 × Int32} (C : jC p s m args meth c cX9_check 4 RX9 D [(cI, .int), (cB, .byte), (cL, .byte), (cO, .object RX0)] pf (va_A W0 s.heap.size)) (hr : meth.sig.returnType = (none : Option FieldType)) (h : f_X9_check_b32 x1 x2 x3 v_this_tier v_this_since = some o) : J p l e { frames := 0, cells := 0, slots := 0, locals := 0 } s m args below meth c 4 D (va_A W0 s.heap.size) (MQ below (jQ D [(cI, .int), (cB, .byte), (cL, .byte), (cO, .object RX0)] W0 s.heap.size (is1 (none) [(a_this, .inr (9, [.int o.1, .int o.2]))])) args s 0 0 (va_A W0 s.heap.size)) 0 0 32 [(0, .ref a_this), (1, .int x1), (2, .int x2), (3, .int x3)] [] [(a_this, .inr (9, [.int v_this_tier, .int v_this_since]))] := by
  unfold f_X9_check_b32 at h
  refine J_iload_n (pc := 32) C dX9_check_32 2 rfl ?_
  refine J_aload_n (pc := 33) C dX9_check_33 0 rfl ?_
  refine J_get (pc := 34) C dX9_check_34 jf_X9 0 rfl rfl 1 (by decide) rfl fl_RX9_15 rfl ?_
  refine J_isub (pc := 37) C dX9_check_37 ?_
  refine J_iload_n (pc := 38) C dX9_check_38 3 rfl ?_
  refine J_ic_lt (pc := 39) (tgt := 52) C dX9_check_39 (by decide) h (fun h => ?_) (fun h => ?_)
  · cases h
    exact J_vret (pc := 52) C dX9_check_52 hr ⟨rfl, rfl⟩
  · refine J_aload_n (pc := 42) C dX9_check_42 0 rfl ?_
    refine J_iload_n (pc := 43) C dX9_check_43 1 rfl ?_
    refine J_put (tt := .int) (pc := 44) C dX9_check_44 jf_X9 0 rfl rfl 0 (by decide) rfl fl_RX9_9 rfl (by decide +kernel) rfl rfl (Nat.le_of_ble_eq_true rfl) ?_
    refine J_ws (ws2 := [(a_this, .inr (9, [.int x1, .int v_this_since]))]) rfl ?_
    refine J_aload_n (pc := 47) C dX9_check_47 0 rfl ?_
    refine J_iconst (v := (-1 : Int32)) (pc := 48) C dX9_check_48 (by decide) ?_
    refine J_put (tt := .int) (pc := 49) C dX9_check_49 jf_X9 0 rfl rfl 1 (by decide) rfl fl_RX9_15 rfl (by decide +kernel) rfl rfl (Nat.le_of_ble_eq_true rfl) ?_
    refine J_ws (ws2 := [(a_this, .inr (9, [.int x1, .int (-1 : Int32)]))]) rfl ?_
    cases h
    exact J_vret (pc := 52) C dX9_check_52 hr ⟨rfl, rfl⟩
set_option maxHeartbeats 4000000 in
set_option maxRecDepth 100000 in
theorem c_X9_check (l : Launch) (D : va_G) (cI cB cL cO : ClassId) (pf : Nat → Nat) (N : Nat) (a_this : Nat) (v_this_tier : Int32) (v_this_since : Int32) (x1 : Int32) (x2 : Int32) (x3 : Int32) (o : Int32 × Int32) (h : f_X9_check x1 x2 x3 v_this_tier v_this_since = some o) : Ct l D [(cI, .int), (cB, .byte), (cL, .byte), (cO, .object RX0)] pf yX9_check cX9_check 4 (none : Option FieldType) { frames := 0, cells := 0, slots := 0, locals := 0 } [.ref a_this, .int x1, .int x2, .int x3] [(a_this, .inr (9, [.int v_this_tier, .int v_this_since]))] (is1 (none) [(a_this, .inr (9, [.int o.1, .int o.2]))]) := by
  refine Ct_of (own := RX9) (lv0 := [(0, .ref a_this), (1, .int x1), (2, .int x2), (3, .int x3)]) (by decide) rfl rfl (Nat.le_of_ble_eq_true rfl) ?_
  intro p e s m args below meth c C hr hnm
  unfold f_X9_check at h
  refine J_iload_n (pc := 0) C dX9_check_0 1 rfl ?_
  refine J_aload_n (pc := 1) C dX9_check_1 0 rfl ?_
  refine J_get (pc := 2) C dX9_check_2 jf_X9 0 rfl rfl 0 (by decide) rfl fl_RX9_9 rfl ?_
  refine J_ic_lt (pc := 5) (tgt := 19) C dX9_check_5 (by decide) h (fun h => ?_) (fun h => ?_)
  · refine J_aload_n (pc := 19) C dX9_check_19 0 rfl ?_
    refine J_get (pc := 20) C dX9_check_20 jf_X9 0 rfl rfl 1 (by decide) rfl fl_RX9_15 rfl ?_
    refine J_iconst (v := (-1 : Int32)) (pc := 23) C dX9_check_23 (by decide) ?_
    refine J_ic_ne (pc := 24) (tgt := 32) C dX9_check_24 (by decide) h (fun h => ?_) (fun h => ?_)
    · exact t_X9_check_b32 C hr h
    · refine J_aload_n (pc := 27) C dX9_check_27 0 rfl ?_
      refine J_iload_n (pc := 28) C dX9_check_28 2 rfl ?_
      refine J_put (tt := .int) (pc := 29) C dX9_check_29 jf_X9 0 rfl rfl 1 (by decide) rfl fl_RX9_15 rfl (by decide +kernel) rfl rfl (Nat.le_of_ble_eq_true rfl) ?_
      refine J_ws (ws2 := [(a_this, .inr (9, [.int v_this_tier, .int x2]))]) rfl ?_
      exact t_X9_check_b32 C hr h
  · refine J_aload_n (pc := 8) C dX9_check_8 0 rfl ?_
    refine J_iload_n (pc := 9) C dX9_check_9 1 rfl ?_
    refine J_put (tt := .int) (pc := 10) C dX9_check_10 jf_X9 0 rfl rfl 0 (by decide) rfl fl_RX9_9 rfl (by decide +kernel) rfl rfl (Nat.le_of_ble_eq_true rfl) ?_
    refine J_ws (ws2 := [(a_this, .inr (9, [.int x1, .int v_this_since]))]) rfl ?_
    refine J_aload_n (pc := 13) C dX9_check_13 0 rfl ?_
    refine J_iconst (v := (-1 : Int32)) (pc := 14) C dX9_check_14 (by decide) ?_
    refine J_put (tt := .int) (pc := 15) C dX9_check_15 jf_X9 0 rfl rfl 1 (by decide) rfl fl_RX9_15 rfl (by decide +kernel) rfl rfl (Nat.le_of_ble_eq_true rfl) ?_
    refine J_ws (ws2 := [(a_this, .inr (9, [.int x1, .int (-1 : Int32)]))]) rfl ?_
    cases h
    exact J_vret (pc := 18) C dX9_check_18 hr ⟨rfl, rfl⟩
-- PointsLedger$Standing.presentTier()I
theorem dX9_presentTier_0 : decode cX9_presentTier 0 = .ok (.aload_n 0, 1) := by decide +kernel
theorem dX9_presentTier_1 : decode cX9_presentTier 1 = .ok (.getfield 9, 3) := by decide +kernel
theorem dX9_presentTier_4 : decode cX9_presentTier 4 = .ok (.ireturn, 1) := by decide +kernel
def f_X9_presentTier (v_this_tier : Int32) : Option (Int32) :=
  (some v_this_tier)
set_option maxHeartbeats 4000000 in
set_option maxRecDepth 100000 in
theorem c_X9_presentTier (l : Launch) (D : va_G) (cI cB cL cO : ClassId) (pf : Nat → Nat) (N : Nat) (a_this : Nat) (v_this_tier : Int32) (v_this_since : Int32) (o : Int32) (h : f_X9_presentTier v_this_tier = some o) : Ct l D [(cI, .int), (cB, .byte), (cL, .byte), (cO, .object RX0)] pf yX9_presentTier cX9_presentTier 1 (some FieldType.int) { frames := 0, cells := 0, slots := 0, locals := 0 } [.ref a_this] [(a_this, .inr (9, [.int v_this_tier, .int v_this_since]))] (is1 (some (.int o)) [(a_this, .inr (9, [.int v_this_tier, .int v_this_since]))]) := by
  refine Ct_of (own := RX9) (lv0 := [(0, .ref a_this)]) (by decide) rfl rfl (Nat.le_of_ble_eq_true rfl) ?_
  intro p e s m args below meth c C hr hnm
  unfold f_X9_presentTier at h
  refine J_aload_n (pc := 0) C dX9_presentTier_0 0 rfl ?_
  refine J_get (pc := 1) C dX9_presentTier_1 jf_X9 0 rfl rfl 0 (by decide) rfl fl_RX9_9 rfl ?_
  cases h
  exact J_iret (pc := 4) C dX9_presentTier_4 hr ⟨rfl, rfl⟩
-- PointsLedger$Standing.start(II)V
theorem dX9_start_0 : decode cX9_start 0 = .ok (.aload_n 0, 1) := by decide +kernel
theorem dX9_start_1 : decode cX9_start 1 = .ok (.iload_n 1, 1) := by decide +kernel
theorem dX9_start_2 : decode cX9_start 2 = .ok (.putfield 9, 3) := by decide +kernel
theorem dX9_start_5 : decode cX9_start 5 = .ok (.aload_n 0, 1) := by decide +kernel
theorem dX9_start_6 : decode cX9_start 6 = .ok (.iload_n 2, 1) := by decide +kernel
theorem dX9_start_7 : decode cX9_start 7 = .ok (.putfield 15, 3) := by decide +kernel
theorem dX9_start_10 : decode cX9_start 10 = .ok (.return_, 1) := by decide +kernel
def f_X9_start (x1 : Int32) (x2 : Int32) : Option (Int32 × Int32) :=
  (some (x1, x2))
set_option maxHeartbeats 4000000 in
set_option maxRecDepth 100000 in
theorem c_X9_start (l : Launch) (D : va_G) (cI cB cL cO : ClassId) (pf : Nat → Nat) (N : Nat) (a_this : Nat) (v_this_tier : Int32) (v_this_since : Int32) (x1 : Int32) (x2 : Int32) (o : Int32 × Int32) (h : f_X9_start x1 x2 = some o) : Ct l D [(cI, .int), (cB, .byte), (cL, .byte), (cO, .object RX0)] pf yX9_start cX9_start 3 (none : Option FieldType) { frames := 0, cells := 0, slots := 0, locals := 0 } [.ref a_this, .int x1, .int x2] [(a_this, .inr (9, [.int v_this_tier, .int v_this_since]))] (is1 (none) [(a_this, .inr (9, [.int o.1, .int o.2]))]) := by
  refine Ct_of (own := RX9) (lv0 := [(0, .ref a_this), (1, .int x1), (2, .int x2)]) (by decide) rfl rfl (Nat.le_of_ble_eq_true rfl) ?_
  intro p e s m args below meth c C hr hnm
  unfold f_X9_start at h
  refine J_aload_n (pc := 0) C dX9_start_0 0 rfl ?_
  refine J_iload_n (pc := 1) C dX9_start_1 1 rfl ?_
  refine J_put (tt := .int) (pc := 2) C dX9_start_2 jf_X9 0 rfl rfl 0 (by decide) rfl fl_RX9_9 rfl (by decide +kernel) rfl rfl (Nat.le_of_ble_eq_true rfl) ?_
  refine J_ws (ws2 := [(a_this, .inr (9, [.int x1, .int v_this_since]))]) rfl ?_
  refine J_aload_n (pc := 5) C dX9_start_5 0 rfl ?_
  refine J_iload_n (pc := 6) C dX9_start_6 2 rfl ?_
  refine J_put (tt := .int) (pc := 7) C dX9_start_7 jf_X9 0 rfl rfl 1 (by decide) rfl fl_RX9_15 rfl (by decide +kernel) rfl rfl (Nat.le_of_ble_eq_true rfl) ?_
  refine J_ws (ws2 := [(a_this, .inr (9, [.int x1, .int x2]))]) rfl ?_
  cases h
  exact J_vret (pc := 10) C dX9_start_10 hr ⟨rfl, rfl⟩
-- PointsLedger$Books.checkTier(I)V
theorem dX0_checkTier_0 : decode cX0_checkTier 0 = .ok (.aload_n 0, 1) := by decide +kernel
theorem dX0_checkTier_1 : decode cX0_checkTier 1 = .ok (.getfield 41, 3) := by decide +kernel
theorem dX0_checkTier_4 : decode cX0_checkTier 4 = .ok (.iload_n 1, 1) := by decide +kernel
theorem dX0_checkTier_5 : decode cX0_checkTier 5 = .ok (.invokevirtual 121, 3) := by decide +kernel
theorem dX0_checkTier_8 : decode cX0_checkTier 8 = .ok (.istore_n 2, 1) := by decide +kernel
theorem dX0_checkTier_9 : decode cX0_checkTier 9 = .ok (.aload_n 0, 1) := by decide +kernel
theorem dX0_checkTier_10 : decode cX0_checkTier 10 = .ok (.getfield 75, 3) := by decide +kernel
theorem dX0_checkTier_13 : decode cX0_checkTier 13 = .ok (.iload_n 2, 1) := by decide +kernel
theorem dX0_checkTier_14 : decode cX0_checkTier 14 = .ok (.aload_n 0, 1) := by decide +kernel
theorem dX0_checkTier_15 : decode cX0_checkTier 15 = .ok (.getfield 45, 3) := by decide +kernel
theorem dX0_checkTier_18 : decode cX0_checkTier 18 = .ok (.iload_n 1, 1) := by decide +kernel
theorem dX0_checkTier_19 : decode cX0_checkTier 19 = .ok (.invokevirtual 121, 3) := by decide +kernel
theorem dX0_checkTier_22 : decode cX0_checkTier 22 = .ok (.invokevirtual 238, 3) := by decide +kernel
theorem dX0_checkTier_25 : decode cX0_checkTier 25 = .ok (.aload_n 0, 1) := by decide +kernel
theorem dX0_checkTier_26 : decode cX0_checkTier 26 = .ok (.getfield 75, 3) := by decide +kernel
theorem dX0_checkTier_29 : decode cX0_checkTier 29 = .ok (.aload_n 0, 1) := by decide +kernel
theorem dX0_checkTier_30 : decode cX0_checkTier 30 = .ok (.getfield 9, 3) := by decide +kernel
theorem dX0_checkTier_33 : decode cX0_checkTier 33 = .ok (.aload_n 0, 1) := by decide +kernel
theorem dX0_checkTier_34 : decode cX0_checkTier 34 = .ok (.getfield 54, 3) := by decide +kernel
theorem dX0_checkTier_37 : decode cX0_checkTier 37 = .ok (.iload_n 1, 1) := by decide +kernel
theorem dX0_checkTier_38 : decode cX0_checkTier 38 = .ok (.invokevirtual 121, 3) := by decide +kernel
theorem dX0_checkTier_41 : decode cX0_checkTier 41 = .ok (.invokevirtual 241, 3) := by decide +kernel
theorem dX0_checkTier_44 : decode cX0_checkTier 44 = .ok (.aload_n 0, 1) := by decide +kernel
theorem dX0_checkTier_45 : decode cX0_checkTier 45 = .ok (.getfield 100, 3) := by decide +kernel
theorem dX0_checkTier_48 : decode cX0_checkTier 48 = .ok (.aload_n 0, 1) := by decide +kernel
theorem dX0_checkTier_49 : decode cX0_checkTier 49 = .ok (.getfield 9, 3) := by decide +kernel
theorem dX0_checkTier_52 : decode cX0_checkTier 52 = .ok (.invokevirtual 244, 3) := by decide +kernel
theorem dX0_checkTier_55 : decode cX0_checkTier 55 = .ok (.invokevirtual 247, 3) := by decide +kernel
theorem dX0_checkTier_58 : decode cX0_checkTier 58 = .ok (.aload_n 0, 1) := by decide +kernel
theorem dX0_checkTier_59 : decode cX0_checkTier 59 = .ok (.getfield 41, 3) := by decide +kernel
theorem dX0_checkTier_62 : decode cX0_checkTier 62 = .ok (.iload_n 1, 1) := by decide +kernel
theorem dX0_checkTier_63 : decode cX0_checkTier 63 = .ok (.aload_n 0, 1) := by decide +kernel
theorem dX0_checkTier_64 : decode cX0_checkTier 64 = .ok (.getfield 75, 3) := by decide +kernel
theorem dX0_checkTier_67 : decode cX0_checkTier 67 = .ok (.invokevirtual 251, 3) := by decide +kernel
theorem dX0_checkTier_70 : decode cX0_checkTier 70 = .ok (.invokevirtual 96, 3) := by decide +kernel
theorem dX0_checkTier_73 : decode cX0_checkTier 73 = .ok (.aload_n 0, 1) := by decide +kernel
theorem dX0_checkTier_74 : decode cX0_checkTier 74 = .ok (.getfield 45, 3) := by decide +kernel
theorem dX0_checkTier_77 : decode cX0_checkTier 77 = .ok (.iload_n 1, 1) := by decide +kernel
theorem dX0_checkTier_78 : decode cX0_checkTier 78 = .ok (.aload_n 0, 1) := by decide +kernel
theorem dX0_checkTier_79 : decode cX0_checkTier 79 = .ok (.getfield 75, 3) := by decide +kernel
theorem dX0_checkTier_82 : decode cX0_checkTier 82 = .ok (.invokevirtual 254, 3) := by decide +kernel
theorem dX0_checkTier_85 : decode cX0_checkTier 85 = .ok (.invokevirtual 96, 3) := by decide +kernel
theorem dX0_checkTier_88 : decode cX0_checkTier 88 = .ok (.aload_n 0, 1) := by decide +kernel
theorem dX0_checkTier_89 : decode cX0_checkTier 89 = .ok (.getfield 75, 3) := by decide +kernel
theorem dX0_checkTier_92 : decode cX0_checkTier 92 = .ok (.invokevirtual 251, 3) := by decide +kernel
theorem dX0_checkTier_95 : decode cX0_checkTier 95 = .ok (.iload_n 2, 1) := by decide +kernel
theorem dX0_checkTier_96 : decode cX0_checkTier 96 = .ok (.if_icmp .eq 24, 3) := by decide +kernel
theorem dX0_checkTier_99 : decode cX0_checkTier 99 = .ok (.aload_n 0, 1) := by decide +kernel
theorem dX0_checkTier_100 : decode cX0_checkTier 100 = .ok (.getfield 32, 3) := by decide +kernel
theorem dX0_checkTier_103 : decode cX0_checkTier 103 = .ok (.bipush 6, 2) := by decide +kernel
theorem dX0_checkTier_105 : decode cX0_checkTier 105 = .ok (.aload_n 0, 1) := by decide +kernel
theorem dX0_checkTier_106 : decode cX0_checkTier 106 = .ok (.getfield 100, 3) := by decide +kernel
theorem dX0_checkTier_109 : decode cX0_checkTier 109 = .ok (.iload_n 1, 1) := by decide +kernel
theorem dX0_checkTier_110 : decode cX0_checkTier 110 = .ok (.aload_n 0, 1) := by decide +kernel
theorem dX0_checkTier_111 : decode cX0_checkTier 111 = .ok (.getfield 75, 3) := by decide +kernel
theorem dX0_checkTier_114 : decode cX0_checkTier 114 = .ok (.invokevirtual 251, 3) := by decide +kernel
theorem dX0_checkTier_117 : decode cX0_checkTier 117 = .ok (.invokevirtual 179, 3) := by decide +kernel
theorem dX0_checkTier_120 : decode cX0_checkTier 120 = .ok (.return_, 1) := by decide +kernel
def f_X0_checkTier (N : Nat) (x1 : Int32) (n_this_setup_counts_cells : Nat) (n_this_setup_thresholds_cells : Nat) (n_this_diary_parts_cells : Nat) (n_this_tiers_cells : Nat) (n_this_belowSince_cells : Nat) (n_this_qualifying_cells : Nat) (v_this_day : Int32) (v_this_setup_grace : Int32) (g_this_setup_counts_cells : Nat → Int32) (g_this_setup_thresholds_cells : Nat → Int32) (v_this_diary_next : Int32) (v_this_diary_size : Int32) (g_this_diary_parts_cells : Nat → Int32) (g_this_tiers_cells : Nat → Int32) (g_this_belowSince_cells : Nat → Int32) (g_this_qualifying_cells : Nat → Int32) : Option (Int32 × Int32 × (Nat → Int32) × (Nat → Int32) × (Nat → Int32) × Int32 × Int32) :=
  ((f_X6_at x1 n_this_tiers_cells g_this_tiers_cells).bind fun r5 => ((f_X6_at x1 n_this_belowSince_cells g_this_belowSince_cells).bind fun r19 => ((f_X9_start r5 r19).bind fun r22 => ((f_X6_at x1 n_this_qualifying_cells g_this_qualifying_cells).bind fun r38 => ((f_X7_tierFor N r38 n_this_setup_counts_cells n_this_setup_thresholds_cells g_this_setup_counts_cells g_this_setup_thresholds_cells).bind fun r41 => ((f_X7_grace v_this_setup_grace).bind fun r52 => ((f_X9_check r41 v_this_day r52 r22.1 r22.2).bind fun r55 => ((f_X9_presentTier r55.1).bind fun r67 => ((f_X6_put x1 r67 n_this_tiers_cells g_this_tiers_cells).bind fun r70 => ((f_X9_belowDay r55.2).bind fun r82 => ((f_X6_put x1 r82 n_this_belowSince_cells g_this_belowSince_cells).bind fun r85 => ((f_X9_presentTier r55.1).bind fun r92 => (if r92 = r5 then (some (v_this_diary_next, v_this_diary_size, g_this_diary_parts_cells, r70, r85, r55.1, r55.2)) else ((f_X9_presentTier r55.1).bind fun r114 => ((f_X4_add (6 : Int32) v_this_day x1 r114 n_this_diary_parts_cells v_this_diary_next v_this_diary_size g_this_diary_parts_cells).bind fun r117 => (some (r117.1, r117.2.1, r117.2.2, r70, r85, r55.1, r55.2)))))))))))))))))
set_option maxHeartbeats 4000000 in
set_option maxRecDepth 100000 in
theorem c_X0_checkTier (l : Launch) (D : va_G) (cI cB cL cO : ClassId) (pf : Nat → Nat) (N : Nat) (a_this a_this_setup a_this_cohorts a_this_purchases a_this_diary a_this_tiers a_this_belowSince a_this_debts a_this_homes a_this_qualifying a_this_shares a_this_redeemed a_this_totals a_this_losses a_this_balances a_this_standing a_this_setup_counts a_this_setup_names a_this_setup_thresholds a_this_setup_bonuses a_this_setup_rates a_this_setup_caps a_this_setup_promoCategories a_this_setup_promoFirstDays a_this_setup_promoLastDays a_this_setup_promoExtras a_this_setup_shares a_this_setup_counts_cells a_this_setup_thresholds_cells a_this_diary_parts a_this_diary_parts_cells a_this_tiers_cells a_this_belowSince_cells a_this_qualifying_cells : Nat) (n_this_setup_counts_cells : Nat) (n_this_setup_thresholds_cells : Nat) (n_this_diary_parts_cells : Nat) (n_this_tiers_cells : Nat) (n_this_belowSince_cells : Nat) (n_this_qualifying_cells : Nat) (v_this_day : Int32) (v_this_windowStart : Int32) (v_this_setup_life : Int32) (v_this_setup_window : Int32) (v_this_setup_grace : Int32) (g_this_setup_counts_cells : Nat → Int32) (g_this_setup_thresholds_cells : Nat → Int32) (v_this_diary_next : Int32) (v_this_diary_size : Int32) (g_this_diary_parts_cells : Nat → Int32) (g_this_tiers_cells : Nat → Int32) (g_this_belowSince_cells : Nat → Int32) (g_this_qualifying_cells : Nat → Int32) (v_this_standing_tier : Int32) (v_this_standing_since : Int32) (x1 : Int32) (o : Int32 × Int32 × (Nat → Int32) × (Nat → Int32) × (Nat → Int32) × Int32 × Int32) (h : f_X0_checkTier N x1 n_this_setup_counts_cells n_this_setup_thresholds_cells n_this_diary_parts_cells n_this_tiers_cells n_this_belowSince_cells n_this_qualifying_cells v_this_day v_this_setup_grace g_this_setup_counts_cells g_this_setup_thresholds_cells v_this_diary_next v_this_diary_size g_this_diary_parts_cells g_this_tiers_cells g_this_belowSince_cells g_this_qualifying_cells = some o) : Ct l D [(cI, .int), (cB, .byte), (cL, .byte), (cO, .object RX0)] pf yX0_checkTier cX0_checkTier 3 (none : Option FieldType) { frames := 2, cells := 0, slots := 0, locals := 49 } [.ref a_this, .int x1] [(a_this, .inr (0, [.ref a_this_setup, .ref a_this_cohorts, .ref a_this_purchases, .ref a_this_diary, .ref a_this_tiers, .ref a_this_belowSince, .ref a_this_debts, .ref a_this_homes, .ref a_this_qualifying, .ref a_this_shares, .ref a_this_redeemed, .ref a_this_totals, .ref a_this_losses, .ref a_this_balances, .ref a_this_standing, .int v_this_day, .int v_this_windowStart])), (a_this_setup, .inr (7, [.ref a_this_setup_counts, .ref a_this_setup_names, .ref a_this_setup_thresholds, .ref a_this_setup_bonuses, .ref a_this_setup_rates, .ref a_this_setup_caps, .ref a_this_setup_promoCategories, .ref a_this_setup_promoFirstDays, .ref a_this_setup_promoLastDays, .ref a_this_setup_promoExtras, .ref a_this_setup_shares, .int v_this_setup_life, .int v_this_setup_window, .int v_this_setup_grace])), (a_this_setup_counts, .inr (6, [.ref a_this_setup_counts_cells])), (a_this_setup_counts_cells, .inl (cI, n_this_setup_counts_cells, .inl g_this_setup_counts_cells)), (a_this_setup_thresholds, .inr (6, [.ref a_this_setup_thresholds_cells])), (a_this_setup_thresholds_cells, .inl (cI, n_this_setup_thresholds_cells, .inl g_this_setup_thresholds_cells)), (a_this_diary, .inr (4, [.ref a_this_diary_parts, .int v_this_diary_next, .int v_this_diary_size])), (a_this_diary_parts, .inr (6, [.ref a_this_diary_parts_cells])), (a_this_diary_parts_cells, .inl (cI, n_this_diary_parts_cells, .inl g_this_diary_parts_cells)), (a_this_tiers, .inr (6, [.ref a_this_tiers_cells])), (a_this_tiers_cells, .inl (cI, n_this_tiers_cells, .inl g_this_tiers_cells)), (a_this_belowSince, .inr (6, [.ref a_this_belowSince_cells])), (a_this_belowSince_cells, .inl (cI, n_this_belowSince_cells, .inl g_this_belowSince_cells)), (a_this_qualifying, .inr (6, [.ref a_this_qualifying_cells])), (a_this_qualifying_cells, .inl (cI, n_this_qualifying_cells, .inl g_this_qualifying_cells)), (a_this_standing, .inr (9, [.int v_this_standing_tier, .int v_this_standing_since]))] (is1 (none) [(a_this, .inr (0, [.ref a_this_setup, .ref a_this_cohorts, .ref a_this_purchases, .ref a_this_diary, .ref a_this_tiers, .ref a_this_belowSince, .ref a_this_debts, .ref a_this_homes, .ref a_this_qualifying, .ref a_this_shares, .ref a_this_redeemed, .ref a_this_totals, .ref a_this_losses, .ref a_this_balances, .ref a_this_standing, .int v_this_day, .int v_this_windowStart])), (a_this_setup, .inr (7, [.ref a_this_setup_counts, .ref a_this_setup_names, .ref a_this_setup_thresholds, .ref a_this_setup_bonuses, .ref a_this_setup_rates, .ref a_this_setup_caps, .ref a_this_setup_promoCategories, .ref a_this_setup_promoFirstDays, .ref a_this_setup_promoLastDays, .ref a_this_setup_promoExtras, .ref a_this_setup_shares, .int v_this_setup_life, .int v_this_setup_window, .int v_this_setup_grace])), (a_this_setup_counts, .inr (6, [.ref a_this_setup_counts_cells])), (a_this_setup_counts_cells, .inl (cI, n_this_setup_counts_cells, .inl g_this_setup_counts_cells)), (a_this_setup_thresholds, .inr (6, [.ref a_this_setup_thresholds_cells])), (a_this_setup_thresholds_cells, .inl (cI, n_this_setup_thresholds_cells, .inl g_this_setup_thresholds_cells)), (a_this_diary, .inr (4, [.ref a_this_diary_parts, .int o.1, .int o.2.1])), (a_this_diary_parts, .inr (6, [.ref a_this_diary_parts_cells])), (a_this_diary_parts_cells, .inl (cI, n_this_diary_parts_cells, .inl o.2.2.1)), (a_this_tiers, .inr (6, [.ref a_this_tiers_cells])), (a_this_tiers_cells, .inl (cI, n_this_tiers_cells, .inl o.2.2.2.1)), (a_this_belowSince, .inr (6, [.ref a_this_belowSince_cells])), (a_this_belowSince_cells, .inl (cI, n_this_belowSince_cells, .inl o.2.2.2.2.1)), (a_this_qualifying, .inr (6, [.ref a_this_qualifying_cells])), (a_this_qualifying_cells, .inl (cI, n_this_qualifying_cells, .inl g_this_qualifying_cells)), (a_this_standing, .inr (9, [.int o.2.2.2.2.2.1, .int o.2.2.2.2.2.2]))]) := by
  refine Ct_of (own := RX0) (lv0 := [(0, .ref a_this), (1, .int x1)]) (by decide) rfl rfl (Nat.le_of_ble_eq_true rfl) ?_
  intro p e s m args below meth c C hr hnm
  unfold f_X0_checkTier at h
  refine J_aload_n (pc := 0) C dX0_checkTier_0 0 rfl ?_
  refine J_get (pc := 1) C dX0_checkTier_1 jf_X0 0 rfl rfl 4 (by decide) rfl fl_RX0_41 rfl ?_
  refine J_iload_n (pc := 4) C dX0_checkTier_4 1 rfl ?_
  refine J_cvr (pc := 5) (As := [.int x1]) (st := []) C dX0_checkTier_5 ml_RX0_121 mi_yX6_at (fun r5 hr => c_X6_at l D cI cB cL cO pf 0 a_this_tiers a_this_tiers_cells n_this_tiers_cells g_this_tiers_cells x1 r5 hr) h [9, 10] rfl rfl rfl rfl rfl ⟨rfl, rfl⟩ ⟨(Nat.le_of_ble_eq_true rfl), (Nat.le_of_ble_eq_true rfl)⟩ ⟨Nat.zero_le _, Nat.zero_le _⟩ (Nat.le_of_ble_eq_true rfl) (fun r5 h => ?_)
  refine J_istore_n (lv2 := [(2, .int r5), (0, .ref a_this), (1, .int x1)]) (pc := 8) C dX0_checkTier_8 (by decide) rfl ?_
  refine J_aload_n (pc := 9) C dX0_checkTier_9 1 rfl ?_
  refine J_get (pc := 10) C dX0_checkTier_10 jf_X0 0 rfl rfl 14 (by decide) rfl fl_RX0_75 rfl ?_
  refine J_iload_n (pc := 13) C dX0_checkTier_13 0 rfl ?_
  refine J_aload_n (pc := 14) C dX0_checkTier_14 1 rfl ?_
  refine J_get (pc := 15) C dX0_checkTier_15 jf_X0 0 rfl rfl 5 (by decide) rfl fl_RX0_45 rfl ?_
  refine J_iload_n (pc := 18) C dX0_checkTier_18 2 rfl ?_
  refine J_cvr (pc := 19) (As := [.int x1]) (st := [.int r5, .ref a_this_standing]) C dX0_checkTier_19 ml_RX0_121 mi_yX6_at (fun r19 hr => c_X6_at l D cI cB cL cO pf 0 a_this_belowSince a_this_belowSince_cells n_this_belowSince_cells g_this_belowSince_cells x1 r19 hr) h [11, 12] rfl rfl rfl rfl rfl ⟨rfl, rfl⟩ ⟨(Nat.le_of_ble_eq_true rfl), (Nat.le_of_ble_eq_true rfl)⟩ ⟨Nat.zero_le _, Nat.zero_le _⟩ (Nat.le_of_ble_eq_true rfl) (fun r19 h => ?_)
  refine J_cvw (pc := 22) (As := [.int r5, .int r19]) (st := []) C (fun r22 => [(a_this, .inr (0, [.ref a_this_setup, .ref a_this_cohorts, .ref a_this_purchases, .ref a_this_diary, .ref a_this_tiers, .ref a_this_belowSince, .ref a_this_debts, .ref a_this_homes, .ref a_this_qualifying, .ref a_this_shares, .ref a_this_redeemed, .ref a_this_totals, .ref a_this_losses, .ref a_this_balances, .ref a_this_standing, .int v_this_day, .int v_this_windowStart])), (a_this_setup, .inr (7, [.ref a_this_setup_counts, .ref a_this_setup_names, .ref a_this_setup_thresholds, .ref a_this_setup_bonuses, .ref a_this_setup_rates, .ref a_this_setup_caps, .ref a_this_setup_promoCategories, .ref a_this_setup_promoFirstDays, .ref a_this_setup_promoLastDays, .ref a_this_setup_promoExtras, .ref a_this_setup_shares, .int v_this_setup_life, .int v_this_setup_window, .int v_this_setup_grace])), (a_this_setup_counts, .inr (6, [.ref a_this_setup_counts_cells])), (a_this_setup_counts_cells, .inl (cI, n_this_setup_counts_cells, .inl g_this_setup_counts_cells)), (a_this_setup_thresholds, .inr (6, [.ref a_this_setup_thresholds_cells])), (a_this_setup_thresholds_cells, .inl (cI, n_this_setup_thresholds_cells, .inl g_this_setup_thresholds_cells)), (a_this_diary, .inr (4, [.ref a_this_diary_parts, .int v_this_diary_next, .int v_this_diary_size])), (a_this_diary_parts, .inr (6, [.ref a_this_diary_parts_cells])), (a_this_diary_parts_cells, .inl (cI, n_this_diary_parts_cells, .inl g_this_diary_parts_cells)), (a_this_tiers, .inr (6, [.ref a_this_tiers_cells])), (a_this_tiers_cells, .inl (cI, n_this_tiers_cells, .inl g_this_tiers_cells)), (a_this_belowSince, .inr (6, [.ref a_this_belowSince_cells])), (a_this_belowSince_cells, .inl (cI, n_this_belowSince_cells, .inl g_this_belowSince_cells)), (a_this_qualifying, .inr (6, [.ref a_this_qualifying_cells])), (a_this_qualifying_cells, .inl (cI, n_this_qualifying_cells, .inl g_this_qualifying_cells)), (a_this_standing, .inr (9, [.int r22.1, .int r22.2]))]) dX0_checkTier_22 ml_RX0_238 mi_yX9_start (fun r22 hr => c_X9_start l D cI cB cL cO pf 0 a_this_standing v_this_standing_tier v_this_standing_since r5 r19 r22 hr) h [15] rfl rfl rfl rfl rfl ⟨rfl, rfl⟩ ⟨(Nat.le_of_ble_eq_true rfl), (Nat.le_of_ble_eq_true rfl)⟩ ⟨Nat.zero_le _, Nat.zero_le _⟩ (Nat.le_of_ble_eq_true rfl) (fun _ => rfl) (fun _ => rfl) (fun r22 h => ?_)
  refine J_aload_n (pc := 25) C dX0_checkTier_25 1 rfl ?_
  refine J_get (pc := 26) C dX0_checkTier_26 jf_X0 0 rfl rfl 14 (by decide) rfl fl_RX0_75 rfl ?_
  refine J_aload_n (pc := 29) C dX0_checkTier_29 1 rfl ?_
  refine J_get (pc := 30) C dX0_checkTier_30 jf_X0 0 rfl rfl 0 (by decide) rfl fl_RX0_9 rfl ?_
  refine J_aload_n (pc := 33) C dX0_checkTier_33 1 rfl ?_
  refine J_get (pc := 34) C dX0_checkTier_34 jf_X0 0 rfl rfl 8 (by decide) rfl fl_RX0_54 rfl ?_
  refine J_iload_n (pc := 37) C dX0_checkTier_37 2 rfl ?_
  refine J_cvr (pc := 38) (As := [.int x1]) (st := [.ref a_this_setup, .ref a_this_standing]) C dX0_checkTier_38 ml_RX0_121 mi_yX6_at (fun r38 hr => c_X6_at l D cI cB cL cO pf 0 a_this_qualifying a_this_qualifying_cells n_this_qualifying_cells g_this_qualifying_cells x1 r38 hr) h [13, 14] rfl rfl rfl rfl rfl ⟨rfl, rfl⟩ ⟨(Nat.le_of_ble_eq_true rfl), (Nat.le_of_ble_eq_true rfl)⟩ ⟨Nat.zero_le _, Nat.zero_le _⟩ (Nat.le_of_ble_eq_true rfl) (fun r38 h => ?_)
  refine J_cvr (pc := 41) (As := [.int r38]) (st := [.ref a_this_standing]) C dX0_checkTier_41 ml_RX0_241 mi_yX7_tierFor (fun r41 hr => c_X7_tierFor l D cI cB cL cO pf N a_this_setup a_this_setup_counts a_this_setup_names a_this_setup_thresholds a_this_setup_bonuses a_this_setup_rates a_this_setup_caps a_this_setup_promoCategories a_this_setup_promoFirstDays a_this_setup_promoLastDays a_this_setup_promoExtras a_this_setup_shares a_this_setup_counts_cells a_this_setup_thresholds_cells n_this_setup_counts_cells n_this_setup_thresholds_cells v_this_setup_life v_this_setup_window v_this_setup_grace g_this_setup_counts_cells g_this_setup_thresholds_cells r38 r41 hr) h [1, 2, 3, 4, 5] rfl rfl rfl rfl rfl ⟨rfl, rfl⟩ ⟨(Nat.le_of_ble_eq_true rfl), (Nat.le_of_ble_eq_true rfl)⟩ ⟨Nat.zero_le _, Nat.zero_le _⟩ (Nat.le_of_ble_eq_true rfl) (fun r41 h => ?_)
  refine J_aload_n (pc := 44) C dX0_checkTier_44 1 rfl ?_
  refine J_get (pc := 45) C dX0_checkTier_45 jf_X0 0 rfl rfl 15 (by decide) rfl fl_RX0_100 rfl ?_
  refine J_aload_n (pc := 48) C dX0_checkTier_48 1 rfl ?_
  refine J_get (pc := 49) C dX0_checkTier_49 jf_X0 0 rfl rfl 0 (by decide) rfl fl_RX0_9 rfl ?_
  refine J_cvr (pc := 52) (As := []) (st := [.int v_this_day, .int r41, .ref a_this_standing]) C dX0_checkTier_52 ml_RX0_244 mi_yX7_grace (fun r52 hr => c_X7_grace l D cI cB cL cO pf 0 a_this_setup a_this_setup_counts a_this_setup_names a_this_setup_thresholds a_this_setup_bonuses a_this_setup_rates a_this_setup_caps a_this_setup_promoCategories a_this_setup_promoFirstDays a_this_setup_promoLastDays a_this_setup_promoExtras a_this_setup_shares v_this_setup_life v_this_setup_window v_this_setup_grace r52 hr) h [1] rfl rfl rfl rfl rfl ⟨rfl, rfl⟩ ⟨(Nat.le_of_ble_eq_true rfl), (Nat.le_of_ble_eq_true rfl)⟩ ⟨Nat.zero_le _, Nat.zero_le _⟩ (Nat.le_of_ble_eq_true rfl) (fun r52 h => ?_)
  refine J_cvw (pc := 55) (As := [.int r41, .int v_this_day, .int r52]) (st := []) C (fun r55 => [(a_this, .inr (0, [.ref a_this_setup, .ref a_this_cohorts, .ref a_this_purchases, .ref a_this_diary, .ref a_this_tiers, .ref a_this_belowSince, .ref a_this_debts, .ref a_this_homes, .ref a_this_qualifying, .ref a_this_shares, .ref a_this_redeemed, .ref a_this_totals, .ref a_this_losses, .ref a_this_balances, .ref a_this_standing, .int v_this_day, .int v_this_windowStart])), (a_this_setup, .inr (7, [.ref a_this_setup_counts, .ref a_this_setup_names, .ref a_this_setup_thresholds, .ref a_this_setup_bonuses, .ref a_this_setup_rates, .ref a_this_setup_caps, .ref a_this_setup_promoCategories, .ref a_this_setup_promoFirstDays, .ref a_this_setup_promoLastDays, .ref a_this_setup_promoExtras, .ref a_this_setup_shares, .int v_this_setup_life, .int v_this_setup_window, .int v_this_setup_grace])), (a_this_setup_counts, .inr (6, [.ref a_this_setup_counts_cells])), (a_this_setup_counts_cells, .inl (cI, n_this_setup_counts_cells, .inl g_this_setup_counts_cells)), (a_this_setup_thresholds, .inr (6, [.ref a_this_setup_thresholds_cells])), (a_this_setup_thresholds_cells, .inl (cI, n_this_setup_thresholds_cells, .inl g_this_setup_thresholds_cells)), (a_this_diary, .inr (4, [.ref a_this_diary_parts, .int v_this_diary_next, .int v_this_diary_size])), (a_this_diary_parts, .inr (6, [.ref a_this_diary_parts_cells])), (a_this_diary_parts_cells, .inl (cI, n_this_diary_parts_cells, .inl g_this_diary_parts_cells)), (a_this_tiers, .inr (6, [.ref a_this_tiers_cells])), (a_this_tiers_cells, .inl (cI, n_this_tiers_cells, .inl g_this_tiers_cells)), (a_this_belowSince, .inr (6, [.ref a_this_belowSince_cells])), (a_this_belowSince_cells, .inl (cI, n_this_belowSince_cells, .inl g_this_belowSince_cells)), (a_this_qualifying, .inr (6, [.ref a_this_qualifying_cells])), (a_this_qualifying_cells, .inl (cI, n_this_qualifying_cells, .inl g_this_qualifying_cells)), (a_this_standing, .inr (9, [.int r55.1, .int r55.2]))]) dX0_checkTier_55 ml_RX0_247 mi_yX9_check (fun r55 hr => c_X9_check l D cI cB cL cO pf 0 a_this_standing r22.1 r22.2 r41 v_this_day r52 r55 hr) h [15] rfl rfl rfl rfl rfl ⟨rfl, rfl⟩ ⟨(Nat.le_of_ble_eq_true rfl), (Nat.le_of_ble_eq_true rfl)⟩ ⟨Nat.zero_le _, Nat.zero_le _⟩ (Nat.le_of_ble_eq_true rfl) (fun _ => rfl) (fun _ => rfl) (fun r55 h => ?_)
  refine J_aload_n (pc := 58) C dX0_checkTier_58 1 rfl ?_
  refine J_get (pc := 59) C dX0_checkTier_59 jf_X0 0 rfl rfl 4 (by decide) rfl fl_RX0_41 rfl ?_
  refine J_iload_n (pc := 62) C dX0_checkTier_62 2 rfl ?_
  refine J_aload_n (pc := 63) C dX0_checkTier_63 1 rfl ?_
  refine J_get (pc := 64) C dX0_checkTier_64 jf_X0 0 rfl rfl 14 (by decide) rfl fl_RX0_75 rfl ?_
  refine J_cvr (pc := 67) (As := []) (st := [.int x1, .ref a_this_tiers]) C dX0_checkTier_67 ml_RX0_251 mi_yX9_presentTier (fun r67 hr => c_X9_presentTier l D cI cB cL cO pf 0 a_this_standing r55.1 r55.2 r67 hr) h [15] rfl rfl rfl rfl rfl ⟨rfl, rfl⟩ ⟨(Nat.le_of_ble_eq_true rfl), (Nat.le_of_ble_eq_true rfl)⟩ ⟨Nat.zero_le _, Nat.zero_le _⟩ (Nat.le_of_ble_eq_true rfl) (fun r67 h => ?_)
  refine J_cvw (pc := 70) (As := [.int x1, .int r67]) (st := []) C (fun r70 => [(a_this, .inr (0, [.ref a_this_setup, .ref a_this_cohorts, .ref a_this_purchases, .ref a_this_diary, .ref a_this_tiers, .ref a_this_belowSince, .ref a_this_debts, .ref a_this_homes, .ref a_this_qualifying, .ref a_this_shares, .ref a_this_redeemed, .ref a_this_totals, .ref a_this_losses, .ref a_this_balances, .ref a_this_standing, .int v_this_day, .int v_this_windowStart])), (a_this_setup, .inr (7, [.ref a_this_setup_counts, .ref a_this_setup_names, .ref a_this_setup_thresholds, .ref a_this_setup_bonuses, .ref a_this_setup_rates, .ref a_this_setup_caps, .ref a_this_setup_promoCategories, .ref a_this_setup_promoFirstDays, .ref a_this_setup_promoLastDays, .ref a_this_setup_promoExtras, .ref a_this_setup_shares, .int v_this_setup_life, .int v_this_setup_window, .int v_this_setup_grace])), (a_this_setup_counts, .inr (6, [.ref a_this_setup_counts_cells])), (a_this_setup_counts_cells, .inl (cI, n_this_setup_counts_cells, .inl g_this_setup_counts_cells)), (a_this_setup_thresholds, .inr (6, [.ref a_this_setup_thresholds_cells])), (a_this_setup_thresholds_cells, .inl (cI, n_this_setup_thresholds_cells, .inl g_this_setup_thresholds_cells)), (a_this_diary, .inr (4, [.ref a_this_diary_parts, .int v_this_diary_next, .int v_this_diary_size])), (a_this_diary_parts, .inr (6, [.ref a_this_diary_parts_cells])), (a_this_diary_parts_cells, .inl (cI, n_this_diary_parts_cells, .inl g_this_diary_parts_cells)), (a_this_tiers, .inr (6, [.ref a_this_tiers_cells])), (a_this_tiers_cells, .inl (cI, n_this_tiers_cells, .inl r70)), (a_this_belowSince, .inr (6, [.ref a_this_belowSince_cells])), (a_this_belowSince_cells, .inl (cI, n_this_belowSince_cells, .inl g_this_belowSince_cells)), (a_this_qualifying, .inr (6, [.ref a_this_qualifying_cells])), (a_this_qualifying_cells, .inl (cI, n_this_qualifying_cells, .inl g_this_qualifying_cells)), (a_this_standing, .inr (9, [.int r55.1, .int r55.2]))]) dX0_checkTier_70 ml_RX0_96 mi_yX6_put (fun r70 hr => c_X6_put l D cI cB cL cO pf 0 a_this_tiers a_this_tiers_cells n_this_tiers_cells g_this_tiers_cells x1 r67 r70 hr) h [9, 10] rfl rfl rfl rfl rfl ⟨rfl, rfl⟩ ⟨(Nat.le_of_ble_eq_true rfl), (Nat.le_of_ble_eq_true rfl)⟩ ⟨Nat.zero_le _, Nat.zero_le _⟩ (Nat.le_of_ble_eq_true rfl) (fun _ => rfl) (fun _ => rfl) (fun r70 h => ?_)
  refine J_aload_n (pc := 73) C dX0_checkTier_73 1 rfl ?_
  refine J_get (pc := 74) C dX0_checkTier_74 jf_X0 0 rfl rfl 5 (by decide) rfl fl_RX0_45 rfl ?_
  refine J_iload_n (pc := 77) C dX0_checkTier_77 2 rfl ?_
  refine J_aload_n (pc := 78) C dX0_checkTier_78 1 rfl ?_
  refine J_get (pc := 79) C dX0_checkTier_79 jf_X0 0 rfl rfl 14 (by decide) rfl fl_RX0_75 rfl ?_
  refine J_cvr (pc := 82) (As := []) (st := [.int x1, .ref a_this_belowSince]) C dX0_checkTier_82 ml_RX0_254 mi_yX9_belowDay (fun r82 hr => c_X9_belowDay l D cI cB cL cO pf 0 a_this_standing r55.1 r55.2 r82 hr) h [15] rfl rfl rfl rfl rfl ⟨rfl, rfl⟩ ⟨(Nat.le_of_ble_eq_true rfl), (Nat.le_of_ble_eq_true rfl)⟩ ⟨Nat.zero_le _, Nat.zero_le _⟩ (Nat.le_of_ble_eq_true rfl) (fun r82 h => ?_)
  refine J_cvw (pc := 85) (As := [.int x1, .int r82]) (st := []) C (fun r85 => [(a_this, .inr (0, [.ref a_this_setup, .ref a_this_cohorts, .ref a_this_purchases, .ref a_this_diary, .ref a_this_tiers, .ref a_this_belowSince, .ref a_this_debts, .ref a_this_homes, .ref a_this_qualifying, .ref a_this_shares, .ref a_this_redeemed, .ref a_this_totals, .ref a_this_losses, .ref a_this_balances, .ref a_this_standing, .int v_this_day, .int v_this_windowStart])), (a_this_setup, .inr (7, [.ref a_this_setup_counts, .ref a_this_setup_names, .ref a_this_setup_thresholds, .ref a_this_setup_bonuses, .ref a_this_setup_rates, .ref a_this_setup_caps, .ref a_this_setup_promoCategories, .ref a_this_setup_promoFirstDays, .ref a_this_setup_promoLastDays, .ref a_this_setup_promoExtras, .ref a_this_setup_shares, .int v_this_setup_life, .int v_this_setup_window, .int v_this_setup_grace])), (a_this_setup_counts, .inr (6, [.ref a_this_setup_counts_cells])), (a_this_setup_counts_cells, .inl (cI, n_this_setup_counts_cells, .inl g_this_setup_counts_cells)), (a_this_setup_thresholds, .inr (6, [.ref a_this_setup_thresholds_cells])), (a_this_setup_thresholds_cells, .inl (cI, n_this_setup_thresholds_cells, .inl g_this_setup_thresholds_cells)), (a_this_diary, .inr (4, [.ref a_this_diary_parts, .int v_this_diary_next, .int v_this_diary_size])), (a_this_diary_parts, .inr (6, [.ref a_this_diary_parts_cells])), (a_this_diary_parts_cells, .inl (cI, n_this_diary_parts_cells, .inl g_this_diary_parts_cells)), (a_this_tiers, .inr (6, [.ref a_this_tiers_cells])), (a_this_tiers_cells, .inl (cI, n_this_tiers_cells, .inl r70)), (a_this_belowSince, .inr (6, [.ref a_this_belowSince_cells])), (a_this_belowSince_cells, .inl (cI, n_this_belowSince_cells, .inl r85)), (a_this_qualifying, .inr (6, [.ref a_this_qualifying_cells])), (a_this_qualifying_cells, .inl (cI, n_this_qualifying_cells, .inl g_this_qualifying_cells)), (a_this_standing, .inr (9, [.int r55.1, .int r55.2]))]) dX0_checkTier_85 ml_RX0_96 mi_yX6_put (fun r85 hr => c_X6_put l D cI cB cL cO pf 0 a_this_belowSince a_this_belowSince_cells n_this_belowSince_cells g_this_belowSince_cells x1 r82 r85 hr) h [11, 12] rfl rfl rfl rfl rfl ⟨rfl, rfl⟩ ⟨(Nat.le_of_ble_eq_true rfl), (Nat.le_of_ble_eq_true rfl)⟩ ⟨Nat.zero_le _, Nat.zero_le _⟩ (Nat.le_of_ble_eq_true rfl) (fun _ => rfl) (fun _ => rfl) (fun r85 h => ?_)
  refine J_aload_n (pc := 88) C dX0_checkTier_88 1 rfl ?_
  refine J_get (pc := 89) C dX0_checkTier_89 jf_X0 0 rfl rfl 14 (by decide) rfl fl_RX0_75 rfl ?_
  refine J_cvr (pc := 92) (As := []) (st := []) C dX0_checkTier_92 ml_RX0_251 mi_yX9_presentTier (fun r92 hr => c_X9_presentTier l D cI cB cL cO pf 0 a_this_standing r55.1 r55.2 r92 hr) h [15] rfl rfl rfl rfl rfl ⟨rfl, rfl⟩ ⟨(Nat.le_of_ble_eq_true rfl), (Nat.le_of_ble_eq_true rfl)⟩ ⟨Nat.zero_le _, Nat.zero_le _⟩ (Nat.le_of_ble_eq_true rfl) (fun r92 h => ?_)
  refine J_iload_n (pc := 95) C dX0_checkTier_95 0 rfl ?_
  refine J_ic_eq (pc := 96) (tgt := 120) C dX0_checkTier_96 (by decide) h (fun h => ?_) (fun h => ?_)
  · cases h
    exact J_vret (pc := 120) C dX0_checkTier_120 hr ⟨rfl, rfl⟩
  · refine J_aload_n (pc := 99) C dX0_checkTier_99 1 rfl ?_
    refine J_get (pc := 100) C dX0_checkTier_100 jf_X0 0 rfl rfl 3 (by decide) rfl fl_RX0_32 rfl ?_
    refine J_bipush (v := (6 : Int32)) (pc := 103) C dX0_checkTier_103 (by decide) ?_
    refine J_aload_n (pc := 105) C dX0_checkTier_105 1 rfl ?_
    refine J_get (pc := 106) C dX0_checkTier_106 jf_X0 0 rfl rfl 15 (by decide) rfl fl_RX0_100 rfl ?_
    refine J_iload_n (pc := 109) C dX0_checkTier_109 2 rfl ?_
    refine J_aload_n (pc := 110) C dX0_checkTier_110 1 rfl ?_
    refine J_get (pc := 111) C dX0_checkTier_111 jf_X0 0 rfl rfl 14 (by decide) rfl fl_RX0_75 rfl ?_
    refine J_cvr (pc := 114) (As := []) (st := [.int x1, .int v_this_day, .int (6 : Int32), .ref a_this_diary]) C dX0_checkTier_114 ml_RX0_251 mi_yX9_presentTier (fun r114 hr => c_X9_presentTier l D cI cB cL cO pf 0 a_this_standing r55.1 r55.2 r114 hr) h [15] rfl rfl rfl rfl rfl ⟨rfl, rfl⟩ ⟨(Nat.le_of_ble_eq_true rfl), (Nat.le_of_ble_eq_true rfl)⟩ ⟨Nat.zero_le _, Nat.zero_le _⟩ (Nat.le_of_ble_eq_true rfl) (fun r114 h => ?_)
    refine J_cvw (pc := 117) (As := [.int (6 : Int32), .int v_this_day, .int x1, .int r114]) (st := []) C (fun r117 => [(a_this, .inr (0, [.ref a_this_setup, .ref a_this_cohorts, .ref a_this_purchases, .ref a_this_diary, .ref a_this_tiers, .ref a_this_belowSince, .ref a_this_debts, .ref a_this_homes, .ref a_this_qualifying, .ref a_this_shares, .ref a_this_redeemed, .ref a_this_totals, .ref a_this_losses, .ref a_this_balances, .ref a_this_standing, .int v_this_day, .int v_this_windowStart])), (a_this_setup, .inr (7, [.ref a_this_setup_counts, .ref a_this_setup_names, .ref a_this_setup_thresholds, .ref a_this_setup_bonuses, .ref a_this_setup_rates, .ref a_this_setup_caps, .ref a_this_setup_promoCategories, .ref a_this_setup_promoFirstDays, .ref a_this_setup_promoLastDays, .ref a_this_setup_promoExtras, .ref a_this_setup_shares, .int v_this_setup_life, .int v_this_setup_window, .int v_this_setup_grace])), (a_this_setup_counts, .inr (6, [.ref a_this_setup_counts_cells])), (a_this_setup_counts_cells, .inl (cI, n_this_setup_counts_cells, .inl g_this_setup_counts_cells)), (a_this_setup_thresholds, .inr (6, [.ref a_this_setup_thresholds_cells])), (a_this_setup_thresholds_cells, .inl (cI, n_this_setup_thresholds_cells, .inl g_this_setup_thresholds_cells)), (a_this_diary, .inr (4, [.ref a_this_diary_parts, .int r117.1, .int r117.2.1])), (a_this_diary_parts, .inr (6, [.ref a_this_diary_parts_cells])), (a_this_diary_parts_cells, .inl (cI, n_this_diary_parts_cells, .inl r117.2.2)), (a_this_tiers, .inr (6, [.ref a_this_tiers_cells])), (a_this_tiers_cells, .inl (cI, n_this_tiers_cells, .inl r70)), (a_this_belowSince, .inr (6, [.ref a_this_belowSince_cells])), (a_this_belowSince_cells, .inl (cI, n_this_belowSince_cells, .inl r85)), (a_this_qualifying, .inr (6, [.ref a_this_qualifying_cells])), (a_this_qualifying_cells, .inl (cI, n_this_qualifying_cells, .inl g_this_qualifying_cells)), (a_this_standing, .inr (9, [.int r55.1, .int r55.2]))]) dX0_checkTier_117 ml_RX0_179 mi_yX4_add (fun r117 hr => c_X4_add l D cI cB cL cO pf 0 a_this_diary a_this_diary_parts a_this_diary_parts_cells n_this_diary_parts_cells v_this_diary_next v_this_diary_size g_this_diary_parts_cells (6 : Int32) v_this_day x1 r114 r117 hr) h [6, 7, 8] rfl rfl rfl rfl rfl ⟨rfl, rfl⟩ ⟨(Nat.le_of_ble_eq_true rfl), (Nat.le_of_ble_eq_true rfl)⟩ ⟨Nat.zero_le _, Nat.zero_le _⟩ (Nat.le_of_ble_eq_true rfl) (fun _ => rfl) (fun _ => rfl) (fun r117 h => ?_)
    cases h
    exact J_vret (pc := 120) C dX0_checkTier_120 hr ⟨rfl, rfl⟩
-- PointsLedger$Cohorts.isBefore(IIII)Z
theorem dX1_isBefore_0 : decode cX1_isBefore 0 = .ok (.aload_n 0, 1) := by decide +kernel
theorem dX1_isBefore_1 : decode cX1_isBefore 1 = .ok (.getfield 14, 3) := by decide +kernel
theorem dX1_isBefore_4 : decode cX1_isBefore 4 = .ok (.iload_n 1, 1) := by decide +kernel
theorem dX1_isBefore_5 : decode cX1_isBefore 5 = .ok (.invokevirtual 37, 3) := by decide +kernel
theorem dX1_isBefore_8 : decode cX1_isBefore 8 = .ok (.iload_n 2, 1) := by decide +kernel
theorem dX1_isBefore_9 : decode cX1_isBefore 9 = .ok (.if_icmp .eq 21, 3) := by decide +kernel
theorem dX1_isBefore_12 : decode cX1_isBefore 12 = .ok (.aload_n 0, 1) := by decide +kernel
theorem dX1_isBefore_13 : decode cX1_isBefore 13 = .ok (.getfield 14, 3) := by decide +kernel
theorem dX1_isBefore_16 : decode cX1_isBefore 16 = .ok (.iload_n 1, 1) := by decide +kernel
theorem dX1_isBefore_17 : decode cX1_isBefore 17 = .ok (.invokevirtual 37, 3) := by decide +kernel
theorem dX1_isBefore_20 : decode cX1_isBefore 20 = .ok (.iload_n 2, 1) := by decide +kernel
theorem dX1_isBefore_21 : decode cX1_isBefore 21 = .ok (.if_icmp .ge 7, 3) := by decide +kernel
theorem dX1_isBefore_24 : decode cX1_isBefore 24 = .ok (.iconst 1, 1) := by decide +kernel
theorem dX1_isBefore_25 : decode cX1_isBefore 25 = .ok (.goto 4, 3) := by decide +kernel
theorem dX1_isBefore_28 : decode cX1_isBefore 28 = .ok (.iconst 0, 1) := by decide +kernel
theorem dX1_isBefore_29 : decode cX1_isBefore 29 = .ok (.ireturn, 1) := by decide +kernel
theorem dX1_isBefore_30 : decode cX1_isBefore 30 = .ok (.aload_n 0, 1) := by decide +kernel
theorem dX1_isBefore_31 : decode cX1_isBefore 31 = .ok (.getfield 20, 3) := by decide +kernel
theorem dX1_isBefore_34 : decode cX1_isBefore 34 = .ok (.iload_n 1, 1) := by decide +kernel
theorem dX1_isBefore_35 : decode cX1_isBefore 35 = .ok (.invokevirtual 37, 3) := by decide +kernel
theorem dX1_isBefore_38 : decode cX1_isBefore 38 = .ok (.iload_n 3, 1) := by decide +kernel
theorem dX1_isBefore_39 : decode cX1_isBefore 39 = .ok (.if_icmp .eq 21, 3) := by decide +kernel
theorem dX1_isBefore_42 : decode cX1_isBefore 42 = .ok (.aload_n 0, 1) := by decide +kernel
theorem dX1_isBefore_43 : decode cX1_isBefore 43 = .ok (.getfield 20, 3) := by decide +kernel
theorem dX1_isBefore_46 : decode cX1_isBefore 46 = .ok (.iload_n 1, 1) := by decide +kernel
theorem dX1_isBefore_47 : decode cX1_isBefore 47 = .ok (.invokevirtual 37, 3) := by decide +kernel
theorem dX1_isBefore_50 : decode cX1_isBefore 50 = .ok (.iload_n 3, 1) := by decide +kernel
theorem dX1_isBefore_51 : decode cX1_isBefore 51 = .ok (.if_icmp .ge 7, 3) := by decide +kernel
theorem dX1_isBefore_54 : decode cX1_isBefore 54 = .ok (.iconst 1, 1) := by decide +kernel
theorem dX1_isBefore_55 : decode cX1_isBefore 55 = .ok (.goto 4, 3) := by decide +kernel
theorem dX1_isBefore_58 : decode cX1_isBefore 58 = .ok (.iconst 0, 1) := by decide +kernel
theorem dX1_isBefore_59 : decode cX1_isBefore 59 = .ok (.ireturn, 1) := by decide +kernel
theorem dX1_isBefore_60 : decode cX1_isBefore 60 = .ok (.aload_n 0, 1) := by decide +kernel
theorem dX1_isBefore_61 : decode cX1_isBefore 61 = .ok (.getfield 23, 3) := by decide +kernel
theorem dX1_isBefore_64 : decode cX1_isBefore 64 = .ok (.iload_n 1, 1) := by decide +kernel
theorem dX1_isBefore_65 : decode cX1_isBefore 65 = .ok (.invokevirtual 37, 3) := by decide +kernel
theorem dX1_isBefore_68 : decode cX1_isBefore 68 = .ok (.iload 4, 2) := by decide +kernel
theorem dX1_isBefore_70 : decode cX1_isBefore 70 = .ok (.if_icmp .ge 7, 3) := by decide +kernel
theorem dX1_isBefore_73 : decode cX1_isBefore 73 = .ok (.iconst 1, 1) := by decide +kernel
theorem dX1_isBefore_74 : decode cX1_isBefore 74 = .ok (.goto 4, 3) := by decide +kernel
theorem dX1_isBefore_77 : decode cX1_isBefore 77 = .ok (.iconst 0, 1) := by decide +kernel
theorem dX1_isBefore_78 : decode cX1_isBefore 78 = .ok (.ireturn, 1) := by decide +kernel
def f_X1_isBefore (x1 : Int32) (x2 : Int32) (x3 : Int32) (x4 : Int32) (n_this_lists_cells : Nat) (n_this_days_cells : Nat) (n_this_contributors_cells : Nat) (g_this_lists_cells : Nat → Int32) (g_this_days_cells : Nat → Int32) (g_this_contributors_cells : Nat → Int32) : Option (Int32) :=
  ((f_X6_at x1 n_this_lists_cells g_this_lists_cells).bind fun r5 => (if r5 = x2 then ((f_X6_at x1 n_this_days_cells g_this_days_cells).bind fun r35 => (if r35 = x3 then ((f_X6_at x1 n_this_contributors_cells g_this_contributors_cells).bind fun r65 => (if x4 ≤ r65 then (some (0 : Int32)) else (some (1 : Int32)))) else ((f_X6_at x1 n_this_days_cells g_this_days_cells).bind fun r47 => (if x3 ≤ r47 then (some (0 : Int32)) else (some (1 : Int32)))))) else ((f_X6_at x1 n_this_lists_cells g_this_lists_cells).bind fun r17 => (if x2 ≤ r17 then (some (0 : Int32)) else (some (1 : Int32))))))
set_option maxHeartbeats 4000000 in
set_option maxRecDepth 100000 in
theorem c_X1_isBefore (l : Launch) (D : va_G) (cI cB cL cO : ClassId) (pf : Nat → Nat) (N : Nat) (a_this a_this_lists a_this_days a_this_contributors a_this_points a_this_lists_cells a_this_days_cells a_this_contributors_cells : Nat) (n_this_lists_cells : Nat) (n_this_days_cells : Nat) (n_this_contributors_cells : Nat) (v_this_size : Int32) (g_this_lists_cells : Nat → Int32) (g_this_days_cells : Nat → Int32) (g_this_contributors_cells : Nat → Int32) (x1 : Int32) (x2 : Int32) (x3 : Int32) (x4 : Int32) (o : Int32) (h : f_X1_isBefore x1 x2 x3 x4 n_this_lists_cells n_this_days_cells n_this_contributors_cells g_this_lists_cells g_this_days_cells g_this_contributors_cells = some o) : Ct l D [(cI, .int), (cB, .byte), (cL, .byte), (cO, .object RX0)] pf yX1_isBefore cX1_isBefore 5 (some FieldType.boolean) { frames := 1, cells := 0, slots := 0, locals := 21 } [.ref a_this, .int x1, .int x2, .int x3, .int x4] [(a_this, .inr (1, [.ref a_this_lists, .ref a_this_days, .ref a_this_contributors, .ref a_this_points, .int v_this_size])), (a_this_lists, .inr (6, [.ref a_this_lists_cells])), (a_this_lists_cells, .inl (cI, n_this_lists_cells, .inl g_this_lists_cells)), (a_this_days, .inr (6, [.ref a_this_days_cells])), (a_this_days_cells, .inl (cI, n_this_days_cells, .inl g_this_days_cells)), (a_this_contributors, .inr (6, [.ref a_this_contributors_cells])), (a_this_contributors_cells, .inl (cI, n_this_contributors_cells, .inl g_this_contributors_cells))] (is1 (some (.int o)) [(a_this, .inr (1, [.ref a_this_lists, .ref a_this_days, .ref a_this_contributors, .ref a_this_points, .int v_this_size])), (a_this_lists, .inr (6, [.ref a_this_lists_cells])), (a_this_lists_cells, .inl (cI, n_this_lists_cells, .inl g_this_lists_cells)), (a_this_days, .inr (6, [.ref a_this_days_cells])), (a_this_days_cells, .inl (cI, n_this_days_cells, .inl g_this_days_cells)), (a_this_contributors, .inr (6, [.ref a_this_contributors_cells])), (a_this_contributors_cells, .inl (cI, n_this_contributors_cells, .inl g_this_contributors_cells))]) := by
  refine Ct_of (own := RX1) (lv0 := [(0, .ref a_this), (1, .int x1), (2, .int x2), (3, .int x3), (4, .int x4)]) (by decide) rfl rfl (Nat.le_of_ble_eq_true rfl) ?_
  intro p e s m args below meth c C hr hnm
  unfold f_X1_isBefore at h
  refine J_aload_n (pc := 0) C dX1_isBefore_0 0 rfl ?_
  refine J_get (pc := 1) C dX1_isBefore_1 jf_X1 0 rfl rfl 0 (by decide) rfl fl_RX1_14 rfl ?_
  refine J_iload_n (pc := 4) C dX1_isBefore_4 1 rfl ?_
  refine J_cvr (pc := 5) (As := [.int x1]) (st := []) C dX1_isBefore_5 ml_RX1_37 mi_yX6_at (fun r5 hr => c_X6_at l D cI cB cL cO pf 0 a_this_lists a_this_lists_cells n_this_lists_cells g_this_lists_cells x1 r5 hr) h [1, 2] rfl rfl rfl rfl rfl ⟨rfl, rfl⟩ ⟨(Nat.le_of_ble_eq_true rfl), (Nat.le_of_ble_eq_true rfl)⟩ ⟨Nat.zero_le _, Nat.zero_le _⟩ (Nat.le_of_ble_eq_true rfl) (fun r5 h => ?_)
  refine J_iload_n (pc := 8) C dX1_isBefore_8 2 rfl ?_
  refine J_ic_eq (pc := 9) (tgt := 30) C dX1_isBefore_9 (by decide) h (fun h => ?_) (fun h => ?_)
  · refine J_aload_n (pc := 30) C dX1_isBefore_30 0 rfl ?_
    refine J_get (pc := 31) C dX1_isBefore_31 jf_X1 0 rfl rfl 1 (by decide) rfl fl_RX1_20 rfl ?_
    refine J_iload_n (pc := 34) C dX1_isBefore_34 1 rfl ?_
    refine J_cvr (pc := 35) (As := [.int x1]) (st := []) C dX1_isBefore_35 ml_RX1_37 mi_yX6_at (fun r35 hr => c_X6_at l D cI cB cL cO pf 0 a_this_days a_this_days_cells n_this_days_cells g_this_days_cells x1 r35 hr) h [3, 4] rfl rfl rfl rfl rfl ⟨rfl, rfl⟩ ⟨(Nat.le_of_ble_eq_true rfl), (Nat.le_of_ble_eq_true rfl)⟩ ⟨Nat.zero_le _, Nat.zero_le _⟩ (Nat.le_of_ble_eq_true rfl) (fun r35 h => ?_)
    refine J_iload_n (pc := 38) C dX1_isBefore_38 3 rfl ?_
    refine J_ic_eq (pc := 39) (tgt := 60) C dX1_isBefore_39 (by decide) h (fun h => ?_) (fun h => ?_)
    · refine J_aload_n (pc := 60) C dX1_isBefore_60 0 rfl ?_
      refine J_get (pc := 61) C dX1_isBefore_61 jf_X1 0 rfl rfl 2 (by decide) rfl fl_RX1_23 rfl ?_
      refine J_iload_n (pc := 64) C dX1_isBefore_64 1 rfl ?_
      refine J_cvr (pc := 65) (As := [.int x1]) (st := []) C dX1_isBefore_65 ml_RX1_37 mi_yX6_at (fun r65 hr => c_X6_at l D cI cB cL cO pf 0 a_this_contributors a_this_contributors_cells n_this_contributors_cells g_this_contributors_cells x1 r65 hr) h [5, 6] rfl rfl rfl rfl rfl ⟨rfl, rfl⟩ ⟨(Nat.le_of_ble_eq_true rfl), (Nat.le_of_ble_eq_true rfl)⟩ ⟨Nat.zero_le _, Nat.zero_le _⟩ (Nat.le_of_ble_eq_true rfl) (fun r65 h => ?_)
      refine J_iload (pc := 68) C dX1_isBefore_68 4 rfl ?_
      refine J_ic_ge (pc := 70) (tgt := 77) C dX1_isBefore_70 (by decide) h (fun h => ?_) (fun h => ?_)
      · refine J_iconst (v := (0 : Int32)) (pc := 77) C dX1_isBefore_77 (by decide) ?_
        cases h
        exact J_zret (pc := 78) C dX1_isBefore_78 hr rfl ⟨rfl, rfl⟩
      · refine J_iconst (v := (1 : Int32)) (pc := 73) C dX1_isBefore_73 (by decide) ?_
        refine J_goto (tgt := 78) (pc := 74) C dX1_isBefore_74 (by decide) ?_
        cases h
        exact J_zret (pc := 78) C dX1_isBefore_78 hr rfl ⟨rfl, rfl⟩
    · refine J_aload_n (pc := 42) C dX1_isBefore_42 0 rfl ?_
      refine J_get (pc := 43) C dX1_isBefore_43 jf_X1 0 rfl rfl 1 (by decide) rfl fl_RX1_20 rfl ?_
      refine J_iload_n (pc := 46) C dX1_isBefore_46 1 rfl ?_
      refine J_cvr (pc := 47) (As := [.int x1]) (st := []) C dX1_isBefore_47 ml_RX1_37 mi_yX6_at (fun r47 hr => c_X6_at l D cI cB cL cO pf 0 a_this_days a_this_days_cells n_this_days_cells g_this_days_cells x1 r47 hr) h [3, 4] rfl rfl rfl rfl rfl ⟨rfl, rfl⟩ ⟨(Nat.le_of_ble_eq_true rfl), (Nat.le_of_ble_eq_true rfl)⟩ ⟨Nat.zero_le _, Nat.zero_le _⟩ (Nat.le_of_ble_eq_true rfl) (fun r47 h => ?_)
      refine J_iload_n (pc := 50) C dX1_isBefore_50 3 rfl ?_
      refine J_ic_ge (pc := 51) (tgt := 58) C dX1_isBefore_51 (by decide) h (fun h => ?_) (fun h => ?_)
      · refine J_iconst (v := (0 : Int32)) (pc := 58) C dX1_isBefore_58 (by decide) ?_
        cases h
        exact J_zret (pc := 59) C dX1_isBefore_59 hr rfl ⟨rfl, rfl⟩
      · refine J_iconst (v := (1 : Int32)) (pc := 54) C dX1_isBefore_54 (by decide) ?_
        refine J_goto (tgt := 59) (pc := 55) C dX1_isBefore_55 (by decide) ?_
        cases h
        exact J_zret (pc := 59) C dX1_isBefore_59 hr rfl ⟨rfl, rfl⟩
  · refine J_aload_n (pc := 12) C dX1_isBefore_12 0 rfl ?_
    refine J_get (pc := 13) C dX1_isBefore_13 jf_X1 0 rfl rfl 0 (by decide) rfl fl_RX1_14 rfl ?_
    refine J_iload_n (pc := 16) C dX1_isBefore_16 1 rfl ?_
    refine J_cvr (pc := 17) (As := [.int x1]) (st := []) C dX1_isBefore_17 ml_RX1_37 mi_yX6_at (fun r17 hr => c_X6_at l D cI cB cL cO pf 0 a_this_lists a_this_lists_cells n_this_lists_cells g_this_lists_cells x1 r17 hr) h [1, 2] rfl rfl rfl rfl rfl ⟨rfl, rfl⟩ ⟨(Nat.le_of_ble_eq_true rfl), (Nat.le_of_ble_eq_true rfl)⟩ ⟨Nat.zero_le _, Nat.zero_le _⟩ (Nat.le_of_ble_eq_true rfl) (fun r17 h => ?_)
    refine J_iload_n (pc := 20) C dX1_isBefore_20 2 rfl ?_
    refine J_ic_ge (pc := 21) (tgt := 28) C dX1_isBefore_21 (by decide) h (fun h => ?_) (fun h => ?_)
    · refine J_iconst (v := (0 : Int32)) (pc := 28) C dX1_isBefore_28 (by decide) ?_
      cases h
      exact J_zret (pc := 29) C dX1_isBefore_29 hr rfl ⟨rfl, rfl⟩
    · refine J_iconst (v := (1 : Int32)) (pc := 24) C dX1_isBefore_24 (by decide) ?_
      refine J_goto (tgt := 29) (pc := 25) C dX1_isBefore_25 (by decide) ?_
      cases h
      exact J_zret (pc := 29) C dX1_isBefore_29 hr rfl ⟨rfl, rfl⟩
-- PointsLedger$Row.move(III)V
theorem dX6_move_0 : decode cX6_move 0 = .ok (.iload_n 1, 1) := by decide +kernel
theorem dX6_move_1 : decode cX6_move 1 = .ok (.ifCond .lt 37, 3) := by decide +kernel
theorem dX6_move_4 : decode cX6_move 4 = .ok (.iload_n 2, 1) := by decide +kernel
theorem dX6_move_5 : decode cX6_move 5 = .ok (.ifCond .lt 33, 3) := by decide +kernel
theorem dX6_move_8 : decode cX6_move 8 = .ok (.iload_n 3, 1) := by decide +kernel
theorem dX6_move_9 : decode cX6_move 9 = .ok (.ifCond .le 29, 3) := by decide +kernel
theorem dX6_move_12 : decode cX6_move 12 = .ok (.iload_n 1, 1) := by decide +kernel
theorem dX6_move_13 : decode cX6_move 13 = .ok (.aload_n 0, 1) := by decide +kernel
theorem dX6_move_14 : decode cX6_move 14 = .ok (.getfield 7, 3) := by decide +kernel
theorem dX6_move_17 : decode cX6_move 17 = .ok (.arraylength, 1) := by decide +kernel
theorem dX6_move_18 : decode cX6_move 18 = .ok (.iload_n 3, 1) := by decide +kernel
theorem dX6_move_19 : decode cX6_move 19 = .ok (.isub, 1) := by decide +kernel
theorem dX6_move_20 : decode cX6_move 20 = .ok (.if_icmp .gt 18, 3) := by decide +kernel
theorem dX6_move_23 : decode cX6_move 23 = .ok (.iload_n 2, 1) := by decide +kernel
theorem dX6_move_24 : decode cX6_move 24 = .ok (.aload_n 0, 1) := by decide +kernel
theorem dX6_move_25 : decode cX6_move 25 = .ok (.getfield 7, 3) := by decide +kernel
theorem dX6_move_28 : decode cX6_move 28 = .ok (.arraylength, 1) := by decide +kernel
theorem dX6_move_29 : decode cX6_move 29 = .ok (.iload_n 3, 1) := by decide +kernel
theorem dX6_move_30 : decode cX6_move 30 = .ok (.isub, 1) := by decide +kernel
theorem dX6_move_31 : decode cX6_move 31 = .ok (.if_icmp .gt 7, 3) := by decide +kernel
theorem dX6_move_34 : decode cX6_move 34 = .ok (.iconst 1, 1) := by decide +kernel
theorem dX6_move_35 : decode cX6_move 35 = .ok (.goto 4, 3) := by decide +kernel
theorem dX6_move_38 : decode cX6_move 38 = .ok (.iconst 0, 1) := by decide +kernel
theorem dX6_move_39 : decode cX6_move 39 = .ok (.istore 4, 2) := by decide +kernel
theorem dX6_move_41 : decode cX6_move 41 = .ok (.iload 4, 2) := by decide +kernel
theorem dX6_move_43 : decode cX6_move 43 = .ok (.ifCond .eq 17, 3) := by decide +kernel
theorem dX6_move_46 : decode cX6_move 46 = .ok (.aload_n 0, 1) := by decide +kernel
theorem dX6_move_47 : decode cX6_move 47 = .ok (.getfield 7, 3) := by decide +kernel
theorem dX6_move_50 : decode cX6_move 50 = .ok (.iload_n 1, 1) := by decide +kernel
theorem dX6_move_51 : decode cX6_move 51 = .ok (.aload_n 0, 1) := by decide +kernel
theorem dX6_move_52 : decode cX6_move 52 = .ok (.getfield 7, 3) := by decide +kernel
theorem dX6_move_55 : decode cX6_move 55 = .ok (.iload_n 2, 1) := by decide +kernel
theorem dX6_move_56 : decode cX6_move 56 = .ok (.iload_n 3, 1) := by decide +kernel
theorem dX6_move_57 : decode cX6_move 57 = .ok (.invokestatic 26, 3) := by decide +kernel
theorem dX6_move_60 : decode cX6_move 60 = .ok (.return_, 1) := by decide +kernel
def f_X6_move_b39 (x1 : Int32) (x2 : Int32) (x3 : Int32) (s0 : Int32) (n_this_cells : Nat) (g_this_cells : Nat → Int32) : Option ((Nat → Int32)) :=
  (if s0 = 0 then (some g_this_cells) else (if x1 < 0 ∨ x2 < 0 ∨ x3 < 0 ∨ n_this_cells < x1.toNatClampNeg + x3.toNatClampNeg ∨ n_this_cells < x2.toNatClampNeg + x3.toNatClampNeg then none else ((some (va_cpy g_this_cells g_this_cells x1.toNatClampNeg x2.toNatClampNeg x3.toNatClampNeg)).bind fun h57 => (some h57))))
def f_X6_move_b38 (x1 : Int32) (x2 : Int32) (x3 : Int32) (n_this_cells : Nat) (g_this_cells : Nat → Int32) : Option ((Nat → Int32)) :=
  (f_X6_move_b39 x1 x2 x3 (0 : Int32) n_this_cells g_this_cells)
def f_X6_move (x1 : Int32) (x2 : Int32) (x3 : Int32) (n_this_cells : Nat) (g_this_cells : Nat → Int32) : Option ((Nat → Int32)) :=
  (if x1 < 0 then (f_X6_move_b38 x1 x2 x3 n_this_cells g_this_cells) else (if x2 < 0 then (f_X6_move_b38 x1 x2 x3 n_this_cells g_this_cells) else (if x3 ≤ 0 then (f_X6_move_b38 x1 x2 x3 n_this_cells g_this_cells) else (if ((nI n_this_cells) - x3) < x1 then (f_X6_move_b38 x1 x2 x3 n_this_cells g_this_cells) else (if ((nI n_this_cells) - x3) < x2 then (f_X6_move_b38 x1 x2 x3 n_this_cells g_this_cells) else (f_X6_move_b39 x1 x2 x3 (1 : Int32) n_this_cells g_this_cells))))))
set_option maxHeartbeats 4000000 in
set_option maxRecDepth 100000 in
theorem t_X6_move_b39 {l : Launch} {D : va_G} {cI cB cL cO : ClassId} {pf : Nat → Nat} {p : Program} {e : Env} {s : State} {m : MethodId} {args : Array Value} {below : List Frame} {meth : Method} {c : Code} {W0 : va_W} {a_this a_this_cells : Nat}  {n_this_cells : Nat} {g_this_cells : Nat → Int32} {x1 : Int32} {x2 : Int32} {x3 : Int32} {s0 : Int32} {o : (Nat → Int32)} (C : jC p s m args meth c cX6_move 5 RX6 D [(cI, .int), (cB, .byte), (cL, .byte), (cO, .object RX0)] pf (va_A W0 s.heap.size)) (hr : meth.sig.returnType = (none : Option FieldType)) (h : f_X6_move_b39 x1 x2 x3 s0 n_this_cells g_this_cells = some o) : J p l e { frames := 1, cells := 0, slots := 0, locals := 60 } s m args below meth c 5 D (va_A W0 s.heap.size) (MQ below (jQ D [(cI, .int), (cB, .byte), (cL, .byte), (cO, .object RX0)] W0 s.heap.size (is1 (none) [(a_this, .inr (6, [.ref a_this_cells])), (a_this_cells, .inl (cI, n_this_cells, .inl o))])) args s 0 0 (va_A W0 s.heap.size)) 0 0 39 [(0, .ref a_this), (1, .int x1), (2, .int x2), (3, .int x3)] [.int s0] [(a_this, .inr (6, [.ref a_this_cells])), (a_this_cells, .inl (cI, n_this_cells, .inl g_this_cells))] := by
  unfold f_X6_move_b39 at h
  refine J_istore (lv2 := [(4, .int s0), (0, .ref a_this), (1, .int x1), (2, .int x2), (3, .int x3)]) (pc := 39) C dX6_move_39 (by decide) rfl ?_
  refine J_iload (pc := 41) C dX6_move_41 0 rfl ?_
  refine J_if_eq (pc := 43) (tgt := 60) C dX6_move_43 (by decide) h (fun h => ?_) (fun h => ?_)
  · cases h
    exact J_vret (pc := 60) C dX6_move_60 hr ⟨rfl, rfl⟩
  · refine J_aload_n (pc := 46) C dX6_move_46 1 rfl ?_
    refine J_get (pc := 47) C dX6_move_47 jf_X6 0 rfl rfl 0 (by decide) rfl fl_RX6_7 rfl ?_
    refine J_iload_n (pc := 50) C dX6_move_50 2 rfl ?_
    refine J_aload_n (pc := 51) C dX6_move_51 1 rfl ?_
    refine J_get (pc := 52) C dX6_move_52 jf_X6 0 rfl rfl 0 (by decide) rfl fl_RX6_7 rfl ?_
    refine J_iload_n (pc := 55) C dX6_move_55 3 rfl ?_
    refine J_iload_n (pc := 56) C dX6_move_56 4 rfl ?_
    refine J_copyN (pc := 57) C (fun h57 => [(a_this, .inr (6, [.ref a_this_cells])), (a_this_cells, .inl (cI, n_this_cells, .inl h57))]) dX6_move_57 ml_RX6_26 1 1 0 0 rfl rfl rfl rfl h (Nat.le_of_ble_eq_true rfl) (Nat.le_of_ble_eq_true rfl) (fun _ => rfl) (fun h57 h => ?_)
    cases h
    exact J_vret (pc := 60) C dX6_move_60 hr ⟨rfl, rfl⟩
set_option maxHeartbeats 4000000 in
set_option maxRecDepth 100000 in
theorem t_X6_move_b38 {l : Launch} {D : va_G} {cI cB cL cO : ClassId} {pf : Nat → Nat} {p : Program} {e : Env} {s : State} {m : MethodId} {args : Array Value} {below : List Frame} {meth : Method} {c : Code} {W0 : va_W} {a_this a_this_cells : Nat}  {n_this_cells : Nat} {g_this_cells : Nat → Int32} {x1 : Int32} {x2 : Int32} {x3 : Int32} {o : (Nat → Int32)} (C : jC p s m args meth c cX6_move 5 RX6 D [(cI, .int), (cB, .byte), (cL, .byte), (cO, .object RX0)] pf (va_A W0 s.heap.size)) (hr : meth.sig.returnType = (none : Option FieldType)) (h : f_X6_move_b38 x1 x2 x3 n_this_cells g_this_cells = some o) : J p l e { frames := 1, cells := 0, slots := 0, locals := 60 } s m args below meth c 5 D (va_A W0 s.heap.size) (MQ below (jQ D [(cI, .int), (cB, .byte), (cL, .byte), (cO, .object RX0)] W0 s.heap.size (is1 (none) [(a_this, .inr (6, [.ref a_this_cells])), (a_this_cells, .inl (cI, n_this_cells, .inl o))])) args s 0 0 (va_A W0 s.heap.size)) 0 0 38 [(0, .ref a_this), (1, .int x1), (2, .int x2), (3, .int x3)] [] [(a_this, .inr (6, [.ref a_this_cells])), (a_this_cells, .inl (cI, n_this_cells, .inl g_this_cells))] := by
  unfold f_X6_move_b38 at h
  refine J_iconst (v := (0 : Int32)) (pc := 38) C dX6_move_38 (by decide) ?_
  exact t_X6_move_b39 C hr h
set_option maxHeartbeats 4000000 in
set_option maxRecDepth 100000 in
theorem c_X6_move (l : Launch) (D : va_G) (cI cB cL cO : ClassId) (pf : Nat → Nat) (N : Nat) (a_this a_this_cells : Nat) (n_this_cells : Nat) (g_this_cells : Nat → Int32) (x1 : Int32) (x2 : Int32) (x3 : Int32) (o : (Nat → Int32)) (h : f_X6_move x1 x2 x3 n_this_cells g_this_cells = some o) : Ct l D [(cI, .int), (cB, .byte), (cL, .byte), (cO, .object RX0)] pf yX6_move cX6_move 5 (none : Option FieldType) { frames := 1, cells := 0, slots := 0, locals := 60 } [.ref a_this, .int x1, .int x2, .int x3] [(a_this, .inr (6, [.ref a_this_cells])), (a_this_cells, .inl (cI, n_this_cells, .inl g_this_cells))] (is1 (none) [(a_this, .inr (6, [.ref a_this_cells])), (a_this_cells, .inl (cI, n_this_cells, .inl o))]) := by
  refine Ct_of (own := RX6) (lv0 := [(0, .ref a_this), (1, .int x1), (2, .int x2), (3, .int x3)]) (by decide) rfl rfl (Nat.le_of_ble_eq_true rfl) ?_
  intro p e s m args below meth c C hr hnm
  unfold f_X6_move at h
  refine J_iload_n (pc := 0) C dX6_move_0 1 rfl ?_
  refine J_if_lt (pc := 1) (tgt := 38) C dX6_move_1 (by decide) h (fun h => ?_) (fun h => ?_)
  · exact t_X6_move_b38 C hr h
  · refine J_iload_n (pc := 4) C dX6_move_4 2 rfl ?_
    refine J_if_lt (pc := 5) (tgt := 38) C dX6_move_5 (by decide) h (fun h => ?_) (fun h => ?_)
    · exact t_X6_move_b38 C hr h
    · refine J_iload_n (pc := 8) C dX6_move_8 3 rfl ?_
      refine J_if_le (pc := 9) (tgt := 38) C dX6_move_9 (by decide) h (fun h => ?_) (fun h => ?_)
      · exact t_X6_move_b38 C hr h
      · refine J_iload_n (pc := 12) C dX6_move_12 1 rfl ?_
        refine J_aload_n (pc := 13) C dX6_move_13 0 rfl ?_
        refine J_get (pc := 14) C dX6_move_14 jf_X6 0 rfl rfl 0 (by decide) rfl fl_RX6_7 rfl ?_
        refine J_alen (pc := 17) C dX6_move_17 1 0 rfl rfl ?_
        refine J_iload_n (pc := 18) C dX6_move_18 3 rfl ?_
        refine J_isub (pc := 19) C dX6_move_19 ?_
        refine J_ic_gt (pc := 20) (tgt := 38) C dX6_move_20 (by decide) h (fun h => ?_) (fun h => ?_)
        · exact t_X6_move_b38 C hr h
        · refine J_iload_n (pc := 23) C dX6_move_23 2 rfl ?_
          refine J_aload_n (pc := 24) C dX6_move_24 0 rfl ?_
          refine J_get (pc := 25) C dX6_move_25 jf_X6 0 rfl rfl 0 (by decide) rfl fl_RX6_7 rfl ?_
          refine J_alen (pc := 28) C dX6_move_28 1 0 rfl rfl ?_
          refine J_iload_n (pc := 29) C dX6_move_29 3 rfl ?_
          refine J_isub (pc := 30) C dX6_move_30 ?_
          refine J_ic_gt (pc := 31) (tgt := 38) C dX6_move_31 (by decide) h (fun h => ?_) (fun h => ?_)
          · exact t_X6_move_b38 C hr h
          · refine J_iconst (v := (1 : Int32)) (pc := 34) C dX6_move_34 (by decide) ?_
            refine J_goto (tgt := 39) (pc := 35) C dX6_move_35 (by decide) ?_
            exact t_X6_move_b39 C hr h
-- PointsLedger$Cohorts.shift(II)V
theorem dX1_shift_0 : decode cX1_shift 0 = .ok (.aload_n 0, 1) := by decide +kernel
theorem dX1_shift_1 : decode cX1_shift 1 = .ok (.getfield 14, 3) := by decide +kernel
theorem dX1_shift_4 : decode cX1_shift 4 = .ok (.iload_n 1, 1) := by decide +kernel
theorem dX1_shift_5 : decode cX1_shift 5 = .ok (.iload_n 2, 1) := by decide +kernel
theorem dX1_shift_6 : decode cX1_shift 6 = .ok (.aload_n 0, 1) := by decide +kernel
theorem dX1_shift_7 : decode cX1_shift 7 = .ok (.getfield 29, 3) := by decide +kernel
theorem dX1_shift_10 : decode cX1_shift 10 = .ok (.iload_n 1, 1) := by decide +kernel
theorem dX1_shift_11 : decode cX1_shift 11 = .ok (.isub, 1) := by decide +kernel
theorem dX1_shift_12 : decode cX1_shift 12 = .ok (.invokevirtual 63, 3) := by decide +kernel
theorem dX1_shift_15 : decode cX1_shift 15 = .ok (.aload_n 0, 1) := by decide +kernel
theorem dX1_shift_16 : decode cX1_shift 16 = .ok (.getfield 20, 3) := by decide +kernel
theorem dX1_shift_19 : decode cX1_shift 19 = .ok (.iload_n 1, 1) := by decide +kernel
theorem dX1_shift_20 : decode cX1_shift 20 = .ok (.iload_n 2, 1) := by decide +kernel
theorem dX1_shift_21 : decode cX1_shift 21 = .ok (.aload_n 0, 1) := by decide +kernel
theorem dX1_shift_22 : decode cX1_shift 22 = .ok (.getfield 29, 3) := by decide +kernel
theorem dX1_shift_25 : decode cX1_shift 25 = .ok (.iload_n 1, 1) := by decide +kernel
theorem dX1_shift_26 : decode cX1_shift 26 = .ok (.isub, 1) := by decide +kernel
theorem dX1_shift_27 : decode cX1_shift 27 = .ok (.invokevirtual 63, 3) := by decide +kernel
theorem dX1_shift_30 : decode cX1_shift 30 = .ok (.aload_n 0, 1) := by decide +kernel
theorem dX1_shift_31 : decode cX1_shift 31 = .ok (.getfield 23, 3) := by decide +kernel
theorem dX1_shift_34 : decode cX1_shift 34 = .ok (.iload_n 1, 1) := by decide +kernel
theorem dX1_shift_35 : decode cX1_shift 35 = .ok (.iload_n 2, 1) := by decide +kernel
theorem dX1_shift_36 : decode cX1_shift 36 = .ok (.aload_n 0, 1) := by decide +kernel
theorem dX1_shift_37 : decode cX1_shift 37 = .ok (.getfield 29, 3) := by decide +kernel
theorem dX1_shift_40 : decode cX1_shift 40 = .ok (.iload_n 1, 1) := by decide +kernel
theorem dX1_shift_41 : decode cX1_shift 41 = .ok (.isub, 1) := by decide +kernel
theorem dX1_shift_42 : decode cX1_shift 42 = .ok (.invokevirtual 63, 3) := by decide +kernel
theorem dX1_shift_45 : decode cX1_shift 45 = .ok (.aload_n 0, 1) := by decide +kernel
theorem dX1_shift_46 : decode cX1_shift 46 = .ok (.getfield 26, 3) := by decide +kernel
theorem dX1_shift_49 : decode cX1_shift 49 = .ok (.iload_n 1, 1) := by decide +kernel
theorem dX1_shift_50 : decode cX1_shift 50 = .ok (.iload_n 2, 1) := by decide +kernel
theorem dX1_shift_51 : decode cX1_shift 51 = .ok (.aload_n 0, 1) := by decide +kernel
theorem dX1_shift_52 : decode cX1_shift 52 = .ok (.getfield 29, 3) := by decide +kernel
theorem dX1_shift_55 : decode cX1_shift 55 = .ok (.iload_n 1, 1) := by decide +kernel
theorem dX1_shift_56 : decode cX1_shift 56 = .ok (.isub, 1) := by decide +kernel
theorem dX1_shift_57 : decode cX1_shift 57 = .ok (.invokevirtual 63, 3) := by decide +kernel
theorem dX1_shift_60 : decode cX1_shift 60 = .ok (.aload_n 0, 1) := by decide +kernel
theorem dX1_shift_61 : decode cX1_shift 61 = .ok (.dup, 1) := by decide +kernel
theorem dX1_shift_62 : decode cX1_shift 62 = .ok (.getfield 29, 3) := by decide +kernel
theorem dX1_shift_65 : decode cX1_shift 65 = .ok (.iload_n 2, 1) := by decide +kernel
theorem dX1_shift_66 : decode cX1_shift 66 = .ok (.iload_n 1, 1) := by decide +kernel
theorem dX1_shift_67 : decode cX1_shift 67 = .ok (.isub, 1) := by decide +kernel
theorem dX1_shift_68 : decode cX1_shift 68 = .ok (.iadd, 1) := by decide +kernel
theorem dX1_shift_69 : decode cX1_shift 69 = .ok (.putfield 29, 3) := by decide +kernel
theorem dX1_shift_72 : decode cX1_shift 72 = .ok (.return_, 1) := by decide +kernel
def f_X1_shift (x1 : Int32) (x2 : Int32) (n_this_lists_cells : Nat) (n_this_days_cells : Nat) (n_this_contributors_cells : Nat) (n_this_points_cells : Nat) (v_this_size : Int32) (g_this_lists_cells : Nat → Int32) (g_this_days_cells : Nat → Int32) (g_this_contributors_cells : Nat → Int32) (g_this_points_cells : Nat → Int32) : Option (Int32 × (Nat → Int32) × (Nat → Int32) × (Nat → Int32) × (Nat → Int32)) :=
  ((f_X6_move x1 x2 (v_this_size - x1) n_this_lists_cells g_this_lists_cells).bind fun r12 => ((f_X6_move x1 x2 (v_this_size - x1) n_this_days_cells g_this_days_cells).bind fun r27 => ((f_X6_move x1 x2 (v_this_size - x1) n_this_contributors_cells g_this_contributors_cells).bind fun r42 => ((f_X6_move x1 x2 (v_this_size - x1) n_this_points_cells g_this_points_cells).bind fun r57 => (some ((v_this_size + (x2 - x1)), r12, r27, r42, r57))))))
set_option maxHeartbeats 4000000 in
set_option maxRecDepth 100000 in
theorem c_X1_shift (l : Launch) (D : va_G) (cI cB cL cO : ClassId) (pf : Nat → Nat) (N : Nat) (a_this a_this_lists a_this_days a_this_contributors a_this_points a_this_lists_cells a_this_days_cells a_this_contributors_cells a_this_points_cells : Nat) (n_this_lists_cells : Nat) (n_this_days_cells : Nat) (n_this_contributors_cells : Nat) (n_this_points_cells : Nat) (v_this_size : Int32) (g_this_lists_cells : Nat → Int32) (g_this_days_cells : Nat → Int32) (g_this_contributors_cells : Nat → Int32) (g_this_points_cells : Nat → Int32) (x1 : Int32) (x2 : Int32) (o : Int32 × (Nat → Int32) × (Nat → Int32) × (Nat → Int32) × (Nat → Int32)) (h : f_X1_shift x1 x2 n_this_lists_cells n_this_days_cells n_this_contributors_cells n_this_points_cells v_this_size g_this_lists_cells g_this_days_cells g_this_contributors_cells g_this_points_cells = some o) : Ct l D [(cI, .int), (cB, .byte), (cL, .byte), (cO, .object RX0)] pf yX1_shift cX1_shift 3 (none : Option FieldType) { frames := 2, cells := 0, slots := 0, locals := 84 } [.ref a_this, .int x1, .int x2] [(a_this, .inr (1, [.ref a_this_lists, .ref a_this_days, .ref a_this_contributors, .ref a_this_points, .int v_this_size])), (a_this_lists, .inr (6, [.ref a_this_lists_cells])), (a_this_lists_cells, .inl (cI, n_this_lists_cells, .inl g_this_lists_cells)), (a_this_days, .inr (6, [.ref a_this_days_cells])), (a_this_days_cells, .inl (cI, n_this_days_cells, .inl g_this_days_cells)), (a_this_contributors, .inr (6, [.ref a_this_contributors_cells])), (a_this_contributors_cells, .inl (cI, n_this_contributors_cells, .inl g_this_contributors_cells)), (a_this_points, .inr (6, [.ref a_this_points_cells])), (a_this_points_cells, .inl (cI, n_this_points_cells, .inl g_this_points_cells))] (is1 (none) [(a_this, .inr (1, [.ref a_this_lists, .ref a_this_days, .ref a_this_contributors, .ref a_this_points, .int o.1])), (a_this_lists, .inr (6, [.ref a_this_lists_cells])), (a_this_lists_cells, .inl (cI, n_this_lists_cells, .inl o.2.1)), (a_this_days, .inr (6, [.ref a_this_days_cells])), (a_this_days_cells, .inl (cI, n_this_days_cells, .inl o.2.2.1)), (a_this_contributors, .inr (6, [.ref a_this_contributors_cells])), (a_this_contributors_cells, .inl (cI, n_this_contributors_cells, .inl o.2.2.2.1)), (a_this_points, .inr (6, [.ref a_this_points_cells])), (a_this_points_cells, .inl (cI, n_this_points_cells, .inl o.2.2.2.2))]) := by
  refine Ct_of (own := RX1) (lv0 := [(0, .ref a_this), (1, .int x1), (2, .int x2)]) (by decide) rfl rfl (Nat.le_of_ble_eq_true rfl) ?_
  intro p e s m args below meth c C hr hnm
  unfold f_X1_shift at h
  refine J_aload_n (pc := 0) C dX1_shift_0 0 rfl ?_
  refine J_get (pc := 1) C dX1_shift_1 jf_X1 0 rfl rfl 0 (by decide) rfl fl_RX1_14 rfl ?_
  refine J_iload_n (pc := 4) C dX1_shift_4 1 rfl ?_
  refine J_iload_n (pc := 5) C dX1_shift_5 2 rfl ?_
  refine J_aload_n (pc := 6) C dX1_shift_6 0 rfl ?_
  refine J_get (pc := 7) C dX1_shift_7 jf_X1 0 rfl rfl 4 (by decide) rfl fl_RX1_29 rfl ?_
  refine J_iload_n (pc := 10) C dX1_shift_10 1 rfl ?_
  refine J_isub (pc := 11) C dX1_shift_11 ?_
  refine J_cvw (pc := 12) (As := [.int x1, .int x2, .int (v_this_size - x1)]) (st := []) C (fun r12 => [(a_this, .inr (1, [.ref a_this_lists, .ref a_this_days, .ref a_this_contributors, .ref a_this_points, .int v_this_size])), (a_this_lists, .inr (6, [.ref a_this_lists_cells])), (a_this_lists_cells, .inl (cI, n_this_lists_cells, .inl r12)), (a_this_days, .inr (6, [.ref a_this_days_cells])), (a_this_days_cells, .inl (cI, n_this_days_cells, .inl g_this_days_cells)), (a_this_contributors, .inr (6, [.ref a_this_contributors_cells])), (a_this_contributors_cells, .inl (cI, n_this_contributors_cells, .inl g_this_contributors_cells)), (a_this_points, .inr (6, [.ref a_this_points_cells])), (a_this_points_cells, .inl (cI, n_this_points_cells, .inl g_this_points_cells))]) dX1_shift_12 ml_RX1_63 mi_yX6_move (fun r12 hr => c_X6_move l D cI cB cL cO pf 0 a_this_lists a_this_lists_cells n_this_lists_cells g_this_lists_cells x1 x2 (v_this_size - x1) r12 hr) h [1, 2] rfl rfl rfl rfl rfl ⟨rfl, rfl⟩ ⟨(Nat.le_of_ble_eq_true rfl), (Nat.le_of_ble_eq_true rfl)⟩ ⟨Nat.zero_le _, Nat.zero_le _⟩ (Nat.le_of_ble_eq_true rfl) (fun _ => rfl) (fun _ => rfl) (fun r12 h => ?_)
  refine J_aload_n (pc := 15) C dX1_shift_15 0 rfl ?_
  refine J_get (pc := 16) C dX1_shift_16 jf_X1 0 rfl rfl 1 (by decide) rfl fl_RX1_20 rfl ?_
  refine J_iload_n (pc := 19) C dX1_shift_19 1 rfl ?_
  refine J_iload_n (pc := 20) C dX1_shift_20 2 rfl ?_
  refine J_aload_n (pc := 21) C dX1_shift_21 0 rfl ?_
  refine J_get (pc := 22) C dX1_shift_22 jf_X1 0 rfl rfl 4 (by decide) rfl fl_RX1_29 rfl ?_
  refine J_iload_n (pc := 25) C dX1_shift_25 1 rfl ?_
  refine J_isub (pc := 26) C dX1_shift_26 ?_
  refine J_cvw (pc := 27) (As := [.int x1, .int x2, .int (v_this_size - x1)]) (st := []) C (fun r27 => [(a_this, .inr (1, [.ref a_this_lists, .ref a_this_days, .ref a_this_contributors, .ref a_this_points, .int v_this_size])), (a_this_lists, .inr (6, [.ref a_this_lists_cells])), (a_this_lists_cells, .inl (cI, n_this_lists_cells, .inl r12)), (a_this_days, .inr (6, [.ref a_this_days_cells])), (a_this_days_cells, .inl (cI, n_this_days_cells, .inl r27)), (a_this_contributors, .inr (6, [.ref a_this_contributors_cells])), (a_this_contributors_cells, .inl (cI, n_this_contributors_cells, .inl g_this_contributors_cells)), (a_this_points, .inr (6, [.ref a_this_points_cells])), (a_this_points_cells, .inl (cI, n_this_points_cells, .inl g_this_points_cells))]) dX1_shift_27 ml_RX1_63 mi_yX6_move (fun r27 hr => c_X6_move l D cI cB cL cO pf 0 a_this_days a_this_days_cells n_this_days_cells g_this_days_cells x1 x2 (v_this_size - x1) r27 hr) h [3, 4] rfl rfl rfl rfl rfl ⟨rfl, rfl⟩ ⟨(Nat.le_of_ble_eq_true rfl), (Nat.le_of_ble_eq_true rfl)⟩ ⟨Nat.zero_le _, Nat.zero_le _⟩ (Nat.le_of_ble_eq_true rfl) (fun _ => rfl) (fun _ => rfl) (fun r27 h => ?_)
  refine J_aload_n (pc := 30) C dX1_shift_30 0 rfl ?_
  refine J_get (pc := 31) C dX1_shift_31 jf_X1 0 rfl rfl 2 (by decide) rfl fl_RX1_23 rfl ?_
  refine J_iload_n (pc := 34) C dX1_shift_34 1 rfl ?_
  refine J_iload_n (pc := 35) C dX1_shift_35 2 rfl ?_
  refine J_aload_n (pc := 36) C dX1_shift_36 0 rfl ?_
  refine J_get (pc := 37) C dX1_shift_37 jf_X1 0 rfl rfl 4 (by decide) rfl fl_RX1_29 rfl ?_
  refine J_iload_n (pc := 40) C dX1_shift_40 1 rfl ?_
  refine J_isub (pc := 41) C dX1_shift_41 ?_
  refine J_cvw (pc := 42) (As := [.int x1, .int x2, .int (v_this_size - x1)]) (st := []) C (fun r42 => [(a_this, .inr (1, [.ref a_this_lists, .ref a_this_days, .ref a_this_contributors, .ref a_this_points, .int v_this_size])), (a_this_lists, .inr (6, [.ref a_this_lists_cells])), (a_this_lists_cells, .inl (cI, n_this_lists_cells, .inl r12)), (a_this_days, .inr (6, [.ref a_this_days_cells])), (a_this_days_cells, .inl (cI, n_this_days_cells, .inl r27)), (a_this_contributors, .inr (6, [.ref a_this_contributors_cells])), (a_this_contributors_cells, .inl (cI, n_this_contributors_cells, .inl r42)), (a_this_points, .inr (6, [.ref a_this_points_cells])), (a_this_points_cells, .inl (cI, n_this_points_cells, .inl g_this_points_cells))]) dX1_shift_42 ml_RX1_63 mi_yX6_move (fun r42 hr => c_X6_move l D cI cB cL cO pf 0 a_this_contributors a_this_contributors_cells n_this_contributors_cells g_this_contributors_cells x1 x2 (v_this_size - x1) r42 hr) h [5, 6] rfl rfl rfl rfl rfl ⟨rfl, rfl⟩ ⟨(Nat.le_of_ble_eq_true rfl), (Nat.le_of_ble_eq_true rfl)⟩ ⟨Nat.zero_le _, Nat.zero_le _⟩ (Nat.le_of_ble_eq_true rfl) (fun _ => rfl) (fun _ => rfl) (fun r42 h => ?_)
  refine J_aload_n (pc := 45) C dX1_shift_45 0 rfl ?_
  refine J_get (pc := 46) C dX1_shift_46 jf_X1 0 rfl rfl 3 (by decide) rfl fl_RX1_26 rfl ?_
  refine J_iload_n (pc := 49) C dX1_shift_49 1 rfl ?_
  refine J_iload_n (pc := 50) C dX1_shift_50 2 rfl ?_
  refine J_aload_n (pc := 51) C dX1_shift_51 0 rfl ?_
  refine J_get (pc := 52) C dX1_shift_52 jf_X1 0 rfl rfl 4 (by decide) rfl fl_RX1_29 rfl ?_
  refine J_iload_n (pc := 55) C dX1_shift_55 1 rfl ?_
  refine J_isub (pc := 56) C dX1_shift_56 ?_
  refine J_cvw (pc := 57) (As := [.int x1, .int x2, .int (v_this_size - x1)]) (st := []) C (fun r57 => [(a_this, .inr (1, [.ref a_this_lists, .ref a_this_days, .ref a_this_contributors, .ref a_this_points, .int v_this_size])), (a_this_lists, .inr (6, [.ref a_this_lists_cells])), (a_this_lists_cells, .inl (cI, n_this_lists_cells, .inl r12)), (a_this_days, .inr (6, [.ref a_this_days_cells])), (a_this_days_cells, .inl (cI, n_this_days_cells, .inl r27)), (a_this_contributors, .inr (6, [.ref a_this_contributors_cells])), (a_this_contributors_cells, .inl (cI, n_this_contributors_cells, .inl r42)), (a_this_points, .inr (6, [.ref a_this_points_cells])), (a_this_points_cells, .inl (cI, n_this_points_cells, .inl r57))]) dX1_shift_57 ml_RX1_63 mi_yX6_move (fun r57 hr => c_X6_move l D cI cB cL cO pf 0 a_this_points a_this_points_cells n_this_points_cells g_this_points_cells x1 x2 (v_this_size - x1) r57 hr) h [7, 8] rfl rfl rfl rfl rfl ⟨rfl, rfl⟩ ⟨(Nat.le_of_ble_eq_true rfl), (Nat.le_of_ble_eq_true rfl)⟩ ⟨Nat.zero_le _, Nat.zero_le _⟩ (Nat.le_of_ble_eq_true rfl) (fun _ => rfl) (fun _ => rfl) (fun r57 h => ?_)
  refine J_aload_n (pc := 60) C dX1_shift_60 0 rfl ?_
  refine J_dupr (pc := 61) C dX1_shift_61 ?_
  refine J_get (pc := 62) C dX1_shift_62 jf_X1 0 rfl rfl 4 (by decide) rfl fl_RX1_29 rfl ?_
  refine J_iload_n (pc := 65) C dX1_shift_65 2 rfl ?_
  refine J_iload_n (pc := 66) C dX1_shift_66 1 rfl ?_
  refine J_isub (pc := 67) C dX1_shift_67 ?_
  refine J_iadd (pc := 68) C dX1_shift_68 ?_
  refine J_put (tt := .int) (pc := 69) C dX1_shift_69 jf_X1 0 rfl rfl 4 (by decide) rfl fl_RX1_29 rfl (by decide +kernel) rfl rfl (Nat.le_of_ble_eq_true rfl) ?_
  refine J_ws (ws2 := [(a_this, .inr (1, [.ref a_this_lists, .ref a_this_days, .ref a_this_contributors, .ref a_this_points, .int (v_this_size + (x2 - x1))])), (a_this_lists, .inr (6, [.ref a_this_lists_cells])), (a_this_lists_cells, .inl (cI, n_this_lists_cells, .inl r12)), (a_this_days, .inr (6, [.ref a_this_days_cells])), (a_this_days_cells, .inl (cI, n_this_days_cells, .inl r27)), (a_this_contributors, .inr (6, [.ref a_this_contributors_cells])), (a_this_contributors_cells, .inl (cI, n_this_contributors_cells, .inl r42)), (a_this_points, .inr (6, [.ref a_this_points_cells])), (a_this_points_cells, .inl (cI, n_this_points_cells, .inl r57))]) rfl ?_
  cases h
  exact J_vret (pc := 72) C dX1_shift_72 hr ⟨rfl, rfl⟩
-- PointsLedger$Row.increase(II)V
theorem dX6_increase_0 : decode cX6_increase 0 = .ok (.iload_n 1, 1) := by decide +kernel
theorem dX6_increase_1 : decode cX6_increase 1 = .ok (.ifCond .lt 22, 3) := by decide +kernel
theorem dX6_increase_4 : decode cX6_increase 4 = .ok (.iload_n 1, 1) := by decide +kernel
theorem dX6_increase_5 : decode cX6_increase 5 = .ok (.aload_n 0, 1) := by decide +kernel
theorem dX6_increase_6 : decode cX6_increase 6 = .ok (.getfield 7, 3) := by decide +kernel
theorem dX6_increase_9 : decode cX6_increase 9 = .ok (.arraylength, 1) := by decide +kernel
theorem dX6_increase_10 : decode cX6_increase 10 = .ok (.if_icmp .ge 13, 3) := by decide +kernel
theorem dX6_increase_13 : decode cX6_increase 13 = .ok (.aload_n 0, 1) := by decide +kernel
theorem dX6_increase_14 : decode cX6_increase 14 = .ok (.getfield 7, 3) := by decide +kernel
theorem dX6_increase_17 : decode cX6_increase 17 = .ok (.iload_n 1, 1) := by decide +kernel
theorem dX6_increase_18 : decode cX6_increase 18 = .ok (.dup2, 1) := by decide +kernel
theorem dX6_increase_19 : decode cX6_increase 19 = .ok (.iaload, 1) := by decide +kernel
theorem dX6_increase_20 : decode cX6_increase 20 = .ok (.iload_n 2, 1) := by decide +kernel
theorem dX6_increase_21 : decode cX6_increase 21 = .ok (.iadd, 1) := by decide +kernel
theorem dX6_increase_22 : decode cX6_increase 22 = .ok (.iastore, 1) := by decide +kernel
theorem dX6_increase_23 : decode cX6_increase 23 = .ok (.return_, 1) := by decide +kernel
def f_X6_increase (x1 : Int32) (x2 : Int32) (n_this_cells : Nat) (g_this_cells : Nat → Int32) : Option ((Nat → Int32)) :=
  (if x1 < 0 then (some g_this_cells) else (if (nI n_this_cells) ≤ x1 then (some g_this_cells) else (if x1 < 0 ∨ n_this_cells ≤ x1.toNatClampNeg then none else (if x1 < 0 ∨ n_this_cells ≤ x1.toNatClampNeg then none else ((some (upd g_this_cells x1.toNatClampNeg ((g_this_cells x1.toNatClampNeg) + x2))).bind fun h22 => (some h22))))))
set_option maxHeartbeats 4000000 in
set_option maxRecDepth 100000 in
theorem c_X6_increase (l : Launch) (D : va_G) (cI cB cL cO : ClassId) (pf : Nat → Nat) (N : Nat) (a_this a_this_cells : Nat) (n_this_cells : Nat) (g_this_cells : Nat → Int32) (x1 : Int32) (x2 : Int32) (o : (Nat → Int32)) (h : f_X6_increase x1 x2 n_this_cells g_this_cells = some o) : Ct l D [(cI, .int), (cB, .byte), (cL, .byte), (cO, .object RX0)] pf yX6_increase cX6_increase 3 (none : Option FieldType) { frames := 0, cells := 0, slots := 0, locals := 0 } [.ref a_this, .int x1, .int x2] [(a_this, .inr (6, [.ref a_this_cells])), (a_this_cells, .inl (cI, n_this_cells, .inl g_this_cells))] (is1 (none) [(a_this, .inr (6, [.ref a_this_cells])), (a_this_cells, .inl (cI, n_this_cells, .inl o))]) := by
  refine Ct_of (own := RX6) (lv0 := [(0, .ref a_this), (1, .int x1), (2, .int x2)]) (by decide) rfl rfl (Nat.le_of_ble_eq_true rfl) ?_
  intro p e s m args below meth c C hr hnm
  unfold f_X6_increase at h
  refine J_iload_n (pc := 0) C dX6_increase_0 1 rfl ?_
  refine J_if_lt (pc := 1) (tgt := 23) C dX6_increase_1 (by decide) h (fun h => ?_) (fun h => ?_)
  · cases h
    exact J_vret (pc := 23) C dX6_increase_23 hr ⟨rfl, rfl⟩
  · refine J_iload_n (pc := 4) C dX6_increase_4 1 rfl ?_
    refine J_aload_n (pc := 5) C dX6_increase_5 0 rfl ?_
    refine J_get (pc := 6) C dX6_increase_6 jf_X6 0 rfl rfl 0 (by decide) rfl fl_RX6_7 rfl ?_
    refine J_alen (pc := 9) C dX6_increase_9 1 0 rfl rfl ?_
    refine J_ic_ge (pc := 10) (tgt := 23) C dX6_increase_10 (by decide) h (fun h => ?_) (fun h => ?_)
    · cases h
      exact J_vret (pc := 23) C dX6_increase_23 hr ⟨rfl, rfl⟩
    · refine J_aload_n (pc := 13) C dX6_increase_13 0 rfl ?_
      refine J_get (pc := 14) C dX6_increase_14 jf_X6 0 rfl rfl 0 (by decide) rfl fl_RX6_7 rfl ?_
      refine J_iload_n (pc := 17) C dX6_increase_17 1 rfl ?_
      refine J_dup2 (pc := 18) C dX6_increase_18 rfl rfl ?_
      refine J_iald (pc := 19) C dX6_increase_19 1 0 rfl rfl h (fun h => ?_)
      refine J_iload_n (pc := 20) C dX6_increase_20 2 rfl ?_
      refine J_iadd (pc := 21) C dX6_increase_21 ?_
      refine J_iastN (pc := 22) C (fun h22 => [(a_this, .inr (6, [.ref a_this_cells])), (a_this_cells, .inl (cI, n_this_cells, .inl h22))]) dX6_increase_22 1 0 rfl rfl h (fun _ => rfl) (fun h22 h => ?_)
      cases h
      exact J_vret (pc := 23) C dX6_increase_23 hr ⟨rfl, rfl⟩
-- PointsLedger$Cohorts.put(IIII)V
theorem dX1_put_0 : decode cX1_put 0 = .ok (.iload 4, 2) := by decide +kernel
theorem dX1_put_2 : decode cX1_put 2 = .ok (.iconst 1, 1) := by decide +kernel
theorem dX1_put_3 : decode cX1_put 3 = .ok (.if_icmp .ge 4, 3) := by decide +kernel
theorem dX1_put_6 : decode cX1_put 6 = .ok (.return_, 1) := by decide +kernel
theorem dX1_put_7 : decode cX1_put 7 = .ok (.iconst 0, 1) := by decide +kernel
theorem dX1_put_8 : decode cX1_put 8 = .ok (.istore 5, 2) := by decide +kernel
theorem dX1_put_10 : decode cX1_put 10 = .ok (.iload 5, 2) := by decide +kernel
theorem dX1_put_12 : decode cX1_put 12 = .ok (.aload_n 0, 1) := by decide +kernel
theorem dX1_put_13 : decode cX1_put 13 = .ok (.getfield 29, 3) := by decide +kernel
theorem dX1_put_16 : decode cX1_put 16 = .ok (.if_icmp .ge 21, 3) := by decide +kernel
theorem dX1_put_19 : decode cX1_put 19 = .ok (.aload_n 0, 1) := by decide +kernel
theorem dX1_put_20 : decode cX1_put 20 = .ok (.iload 5, 2) := by decide +kernel
theorem dX1_put_22 : decode cX1_put 22 = .ok (.iload_n 1, 1) := by decide +kernel
theorem dX1_put_23 : decode cX1_put 23 = .ok (.iload_n 2, 1) := by decide +kernel
theorem dX1_put_24 : decode cX1_put 24 = .ok (.iload_n 3, 1) := by decide +kernel
theorem dX1_put_25 : decode cX1_put 25 = .ok (.invokevirtual 49, 3) := by decide +kernel
theorem dX1_put_28 : decode cX1_put 28 = .ok (.ifCond .eq 9, 3) := by decide +kernel
theorem dX1_put_31 : decode cX1_put 31 = .ok (.iinc 5 1, 3) := by decide +kernel
theorem dX1_put_34 : decode cX1_put 34 = .ok (.goto (-24), 3) := by decide +kernel
theorem dX1_put_37 : decode cX1_put 37 = .ok (.iload 5, 2) := by decide +kernel
theorem dX1_put_39 : decode cX1_put 39 = .ok (.aload_n 0, 1) := by decide +kernel
theorem dX1_put_40 : decode cX1_put 40 = .ok (.getfield 29, 3) := by decide +kernel
theorem dX1_put_43 : decode cX1_put 43 = .ok (.if_icmp .ge 46, 3) := by decide +kernel
theorem dX1_put_46 : decode cX1_put 46 = .ok (.aload_n 0, 1) := by decide +kernel
theorem dX1_put_47 : decode cX1_put 47 = .ok (.getfield 14, 3) := by decide +kernel
theorem dX1_put_50 : decode cX1_put 50 = .ok (.iload 5, 2) := by decide +kernel
theorem dX1_put_52 : decode cX1_put 52 = .ok (.invokevirtual 37, 3) := by decide +kernel
theorem dX1_put_55 : decode cX1_put 55 = .ok (.iload_n 1, 1) := by decide +kernel
theorem dX1_put_56 : decode cX1_put 56 = .ok (.if_icmp .ne 33, 3) := by decide +kernel
theorem dX1_put_59 : decode cX1_put 59 = .ok (.aload_n 0, 1) := by decide +kernel
theorem dX1_put_60 : decode cX1_put 60 = .ok (.getfield 20, 3) := by decide +kernel
theorem dX1_put_63 : decode cX1_put 63 = .ok (.iload 5, 2) := by decide +kernel
theorem dX1_put_65 : decode cX1_put 65 = .ok (.invokevirtual 37, 3) := by decide +kernel
theorem dX1_put_68 : decode cX1_put 68 = .ok (.iload_n 2, 1) := by decide +kernel
theorem dX1_put_69 : decode cX1_put 69 = .ok (.if_icmp .ne 20, 3) := by decide +kernel
theorem dX1_put_72 : decode cX1_put 72 = .ok (.aload_n 0, 1) := by decide +kernel
theorem dX1_put_73 : decode cX1_put 73 = .ok (.getfield 23, 3) := by decide +kernel
theorem dX1_put_76 : decode cX1_put 76 = .ok (.iload 5, 2) := by decide +kernel
theorem dX1_put_78 : decode cX1_put 78 = .ok (.invokevirtual 37, 3) := by decide +kernel
theorem dX1_put_81 : decode cX1_put 81 = .ok (.iload_n 3, 1) := by decide +kernel
theorem dX1_put_82 : decode cX1_put 82 = .ok (.if_icmp .ne 7, 3) := by decide +kernel
theorem dX1_put_85 : decode cX1_put 85 = .ok (.iconst 1, 1) := by decide +kernel
theorem dX1_put_86 : decode cX1_put 86 = .ok (.goto 4, 3) := by decide +kernel
theorem dX1_put_89 : decode cX1_put 89 = .ok (.iconst 0, 1) := by decide +kernel
theorem dX1_put_90 : decode cX1_put 90 = .ok (.istore 6, 2) := by decide +kernel
theorem dX1_put_92 : decode cX1_put 92 = .ok (.iload 6, 2) := by decide +kernel
theorem dX1_put_94 : decode cX1_put 94 = .ok (.ifCond .eq 17, 3) := by decide +kernel
theorem dX1_put_97 : decode cX1_put 97 = .ok (.aload_n 0, 1) := by decide +kernel
theorem dX1_put_98 : decode cX1_put 98 = .ok (.getfield 26, 3) := by decide +kernel
theorem dX1_put_101 : decode cX1_put 101 = .ok (.iload 5, 2) := by decide +kernel
theorem dX1_put_103 : decode cX1_put 103 = .ok (.iload 4, 2) := by decide +kernel
theorem dX1_put_105 : decode cX1_put 105 = .ok (.invokevirtual 53, 3) := by decide +kernel
theorem dX1_put_108 : decode cX1_put 108 = .ok (.goto 64, 3) := by decide +kernel
theorem dX1_put_111 : decode cX1_put 111 = .ok (.aload_n 0, 1) := by decide +kernel
theorem dX1_put_112 : decode cX1_put 112 = .ok (.getfield 29, 3) := by decide +kernel
theorem dX1_put_115 : decode cX1_put 115 = .ok (.sipush 1024, 3) := by decide +kernel
theorem dX1_put_118 : decode cX1_put 118 = .ok (.if_icmp .ge 54, 3) := by decide +kernel
theorem dX1_put_121 : decode cX1_put 121 = .ok (.aload_n 0, 1) := by decide +kernel
theorem dX1_put_122 : decode cX1_put 122 = .ok (.iload 5, 2) := by decide +kernel
theorem dX1_put_124 : decode cX1_put 124 = .ok (.iload 5, 2) := by decide +kernel
theorem dX1_put_126 : decode cX1_put 126 = .ok (.iconst 1, 1) := by decide +kernel
theorem dX1_put_127 : decode cX1_put 127 = .ok (.iadd, 1) := by decide +kernel
theorem dX1_put_128 : decode cX1_put 128 = .ok (.invokevirtual 57, 3) := by decide +kernel
theorem dX1_put_131 : decode cX1_put 131 = .ok (.aload_n 0, 1) := by decide +kernel
theorem dX1_put_132 : decode cX1_put 132 = .ok (.getfield 14, 3) := by decide +kernel
theorem dX1_put_135 : decode cX1_put 135 = .ok (.iload 5, 2) := by decide +kernel
theorem dX1_put_137 : decode cX1_put 137 = .ok (.iload_n 1, 1) := by decide +kernel
theorem dX1_put_138 : decode cX1_put 138 = .ok (.invokevirtual 60, 3) := by decide +kernel
theorem dX1_put_141 : decode cX1_put 141 = .ok (.aload_n 0, 1) := by decide +kernel
theorem dX1_put_142 : decode cX1_put 142 = .ok (.getfield 20, 3) := by decide +kernel
theorem dX1_put_145 : decode cX1_put 145 = .ok (.iload 5, 2) := by decide +kernel
theorem dX1_put_147 : decode cX1_put 147 = .ok (.iload_n 2, 1) := by decide +kernel
theorem dX1_put_148 : decode cX1_put 148 = .ok (.invokevirtual 60, 3) := by decide +kernel
theorem dX1_put_151 : decode cX1_put 151 = .ok (.aload_n 0, 1) := by decide +kernel
theorem dX1_put_152 : decode cX1_put 152 = .ok (.getfield 23, 3) := by decide +kernel
theorem dX1_put_155 : decode cX1_put 155 = .ok (.iload 5, 2) := by decide +kernel
theorem dX1_put_157 : decode cX1_put 157 = .ok (.iload_n 3, 1) := by decide +kernel
theorem dX1_put_158 : decode cX1_put 158 = .ok (.invokevirtual 60, 3) := by decide +kernel
theorem dX1_put_161 : decode cX1_put 161 = .ok (.aload_n 0, 1) := by decide +kernel
theorem dX1_put_162 : decode cX1_put 162 = .ok (.getfield 26, 3) := by decide +kernel
theorem dX1_put_165 : decode cX1_put 165 = .ok (.iload 5, 2) := by decide +kernel
theorem dX1_put_167 : decode cX1_put 167 = .ok (.iload 4, 2) := by decide +kernel
theorem dX1_put_169 : decode cX1_put 169 = .ok (.invokevirtual 60, 3) := by decide +kernel
theorem dX1_put_172 : decode cX1_put 172 = .ok (.return_, 1) := by decide +kernel
def f_X1_put_b90 (x1 : Int32) (x2 : Int32) (x3 : Int32) (x4 : Int32) (x5 : Int32) (s0 : Int32) (n_this_lists_cells : Nat) (n_this_days_cells : Nat) (n_this_contributors_cells : Nat) (n_this_points_cells : Nat) (v_this_size : Int32) (g_this_lists_cells : Nat → Int32) (g_this_days_cells : Nat → Int32) (g_this_contributors_cells : Nat → Int32) (g_this_points_cells : Nat → Int32) : Option (Int32 × (Nat → Int32) × (Nat → Int32) × (Nat → Int32) × (Nat → Int32)) :=
  (if s0 = 0 then (if (1024 : Int32) ≤ v_this_size then (some (v_this_size, g_this_lists_cells, g_this_days_cells, g_this_contributors_cells, g_this_points_cells)) else ((f_X1_shift x5 (x5 + (1 : Int32)) n_this_lists_cells n_this_days_cells n_this_contributors_cells n_this_points_cells v_this_size g_this_lists_cells g_this_days_cells g_this_contributors_cells g_this_points_cells).bind fun r128 => ((f_X6_put x5 x1 n_this_lists_cells r128.2.1).bind fun r138 => ((f_X6_put x5 x2 n_this_days_cells r128.2.2.1).bind fun r148 => ((f_X6_put x5 x3 n_this_contributors_cells r128.2.2.2.1).bind fun r158 => ((f_X6_put x5 x4 n_this_points_cells r128.2.2.2.2).bind fun r169 => (some (r128.1, r138, r148, r158, r169)))))))) else ((f_X6_increase x5 x4 n_this_points_cells g_this_points_cells).bind fun r105 => (some (v_this_size, g_this_lists_cells, g_this_days_cells, g_this_contributors_cells, r105))))
def f_X1_put_b89 (x1 : Int32) (x2 : Int32) (x3 : Int32) (x4 : Int32) (x5 : Int32) (n_this_lists_cells : Nat) (n_this_days_cells : Nat) (n_this_contributors_cells : Nat) (n_this_points_cells : Nat) (v_this_size : Int32) (g_this_lists_cells : Nat → Int32) (g_this_days_cells : Nat → Int32) (g_this_contributors_cells : Nat → Int32) (g_this_points_cells : Nat → Int32) : Option (Int32 × (Nat → Int32) × (Nat → Int32) × (Nat → Int32) × (Nat → Int32)) :=
  (f_X1_put_b90 x1 x2 x3 x4 x5 (0 : Int32) n_this_lists_cells n_this_days_cells n_this_contributors_cells n_this_points_cells v_this_size g_this_lists_cells g_this_days_cells g_this_contributors_cells g_this_points_cells)
def f_X1_put_b37 (x1 : Int32) (x2 : Int32) (x3 : Int32) (x4 : Int32) (x5 : Int32) (n_this_lists_cells : Nat) (n_this_days_cells : Nat) (n_this_contributors_cells : Nat) (n_this_points_cells : Nat) (v_this_size : Int32) (g_this_lists_cells : Nat → Int32) (g_this_days_cells : Nat → Int32) (g_this_contributors_cells : Nat → Int32) (g_this_points_cells : Nat → Int32) : Option (Int32 × (Nat → Int32) × (Nat → Int32) × (Nat → Int32) × (Nat → Int32)) :=
  (if v_this_size ≤ x5 then (f_X1_put_b89 x1 x2 x3 x4 x5 n_this_lists_cells n_this_days_cells n_this_contributors_cells n_this_points_cells v_this_size g_this_lists_cells g_this_days_cells g_this_contributors_cells g_this_points_cells) else ((f_X6_at x5 n_this_lists_cells g_this_lists_cells).bind fun r52 => (if r52 = x1 then ((f_X6_at x5 n_this_days_cells g_this_days_cells).bind fun r65 => (if r65 = x2 then ((f_X6_at x5 n_this_contributors_cells g_this_contributors_cells).bind fun r78 => (if r78 = x3 then (f_X1_put_b90 x1 x2 x3 x4 x5 (1 : Int32) n_this_lists_cells n_this_days_cells n_this_contributors_cells n_this_points_cells v_this_size g_this_lists_cells g_this_days_cells g_this_contributors_cells g_this_points_cells) else (f_X1_put_b89 x1 x2 x3 x4 x5 n_this_lists_cells n_this_days_cells n_this_contributors_cells n_this_points_cells v_this_size g_this_lists_cells g_this_days_cells g_this_contributors_cells g_this_points_cells))) else (f_X1_put_b89 x1 x2 x3 x4 x5 n_this_lists_cells n_this_days_cells n_this_contributors_cells n_this_points_cells v_this_size g_this_lists_cells g_this_days_cells g_this_contributors_cells g_this_points_cells))) else (f_X1_put_b89 x1 x2 x3 x4 x5 n_this_lists_cells n_this_days_cells n_this_contributors_cells n_this_points_cells v_this_size g_this_lists_cells g_this_days_cells g_this_contributors_cells g_this_points_cells))))
def f_X1_put_b10 (x1 : Int32) (x2 : Int32) (x3 : Int32) (x4 : Int32) (n_this_lists_cells : Nat) (n_this_days_cells : Nat) (n_this_contributors_cells : Nat) (n_this_points_cells : Nat) (v_this_size : Int32) (g_this_lists_cells : Nat → Int32) (g_this_days_cells : Nat → Int32) (g_this_contributors_cells : Nat → Int32) (g_this_points_cells : Nat → Int32) : Nat → (Int32) → Option (Int32 × (Nat → Int32) × (Nat → Int32) × (Nat → Int32) × (Nat → Int32))
  | 0, _ => none
  | n + 1, x5 => (if v_this_size ≤ x5 then (f_X1_put_b37 x1 x2 x3 x4 x5 n_this_lists_cells n_this_days_cells n_this_contributors_cells n_this_points_cells v_this_size g_this_lists_cells g_this_days_cells g_this_contributors_cells g_this_points_cells) else ((f_X1_isBefore x5 x1 x2 x3 n_this_lists_cells n_this_days_cells n_this_contributors_cells g_this_lists_cells g_this_days_cells g_this_contributors_cells).bind fun r25 => (if r25 = 0 then (f_X1_put_b37 x1 x2 x3 x4 x5 n_this_lists_cells n_this_days_cells n_this_contributors_cells n_this_points_cells v_this_size g_this_lists_cells g_this_days_cells g_this_contributors_cells g_this_points_cells) else ((some (x5 + (1 : Int32))).bind fun y31 => (f_X1_put_b10 x1 x2 x3 x4 n_this_lists_cells n_this_days_cells n_this_contributors_cells n_this_points_cells v_this_size g_this_lists_cells g_this_days_cells g_this_contributors_cells g_this_points_cells n y31)))))
def f_X1_put (N : Nat) (x1 : Int32) (x2 : Int32) (x3 : Int32) (x4 : Int32) (n_this_lists_cells : Nat) (n_this_days_cells : Nat) (n_this_contributors_cells : Nat) (n_this_points_cells : Nat) (v_this_size : Int32) (g_this_lists_cells : Nat → Int32) (g_this_days_cells : Nat → Int32) (g_this_contributors_cells : Nat → Int32) (g_this_points_cells : Nat → Int32) : Option (Int32 × (Nat → Int32) × (Nat → Int32) × (Nat → Int32) × (Nat → Int32)) :=
  (if (1 : Int32) ≤ x4 then (f_X1_put_b10 x1 x2 x3 x4 n_this_lists_cells n_this_days_cells n_this_contributors_cells n_this_points_cells v_this_size g_this_lists_cells g_this_days_cells g_this_contributors_cells g_this_points_cells N (0 : Int32)) else (some (v_this_size, g_this_lists_cells, g_this_days_cells, g_this_contributors_cells, g_this_points_cells)))
set_option maxHeartbeats 4000000 in
set_option maxRecDepth 100000 in
theorem t_X1_put_b90 {l : Launch} {D : va_G} {cI cB cL cO : ClassId} {pf : Nat → Nat} {p : Program} {e : Env} {s : State} {m : MethodId} {args : Array Value} {below : List Frame} {meth : Method} {c : Code} {W0 : va_W} {a_this a_this_lists a_this_days a_this_contributors a_this_points a_this_lists_cells a_this_days_cells a_this_contributors_cells a_this_points_cells : Nat}  {n_this_lists_cells : Nat} {n_this_days_cells : Nat} {n_this_contributors_cells : Nat} {n_this_points_cells : Nat} {v_this_size : Int32} {g_this_lists_cells : Nat → Int32} {g_this_days_cells : Nat → Int32} {g_this_contributors_cells : Nat → Int32} {g_this_points_cells : Nat → Int32} {x1 : Int32} {x2 : Int32} {x3 : Int32} {x4 : Int32} {x5 : Int32} {s0 : Int32} {o : Int32 × (Nat → Int32) × (Nat → Int32) × (Nat → Int32) × (Nat → Int32)} (C : jC p s m args meth c cX1_put 7 RX1 D [(cI, .int), (cB, .byte), (cL, .byte), (cO, .object RX0)] pf (va_A W0 s.heap.size)) (hr : meth.sig.returnType = (none : Option FieldType)) (h : f_X1_put_b90 x1 x2 x3 x4 x5 s0 n_this_lists_cells n_this_days_cells n_this_contributors_cells n_this_points_cells v_this_size g_this_lists_cells g_this_days_cells g_this_contributors_cells g_this_points_cells = some o) : J p l e { frames := 3, cells := 0, slots := 0, locals := 106 } s m args below meth c 7 D (va_A W0 s.heap.size) (MQ below (jQ D [(cI, .int), (cB, .byte), (cL, .byte), (cO, .object RX0)] W0 s.heap.size (is1 (none) [(a_this, .inr (1, [.ref a_this_lists, .ref a_this_days, .ref a_this_contributors, .ref a_this_points, .int o.1])), (a_this_lists, .inr (6, [.ref a_this_lists_cells])), (a_this_lists_cells, .inl (cI, n_this_lists_cells, .inl o.2.1)), (a_this_days, .inr (6, [.ref a_this_days_cells])), (a_this_days_cells, .inl (cI, n_this_days_cells, .inl o.2.2.1)), (a_this_contributors, .inr (6, [.ref a_this_contributors_cells])), (a_this_contributors_cells, .inl (cI, n_this_contributors_cells, .inl o.2.2.2.1)), (a_this_points, .inr (6, [.ref a_this_points_cells])), (a_this_points_cells, .inl (cI, n_this_points_cells, .inl o.2.2.2.2))])) args s 0 0 (va_A W0 s.heap.size)) 0 0 90 [(0, .ref a_this), (1, .int x1), (2, .int x2), (3, .int x3), (4, .int x4), (5, .int x5)] [.int s0] [(a_this, .inr (1, [.ref a_this_lists, .ref a_this_days, .ref a_this_contributors, .ref a_this_points, .int v_this_size])), (a_this_lists, .inr (6, [.ref a_this_lists_cells])), (a_this_lists_cells, .inl (cI, n_this_lists_cells, .inl g_this_lists_cells)), (a_this_days, .inr (6, [.ref a_this_days_cells])), (a_this_days_cells, .inl (cI, n_this_days_cells, .inl g_this_days_cells)), (a_this_contributors, .inr (6, [.ref a_this_contributors_cells])), (a_this_contributors_cells, .inl (cI, n_this_contributors_cells, .inl g_this_contributors_cells)), (a_this_points, .inr (6, [.ref a_this_points_cells])), (a_this_points_cells, .inl (cI, n_this_points_cells, .inl g_this_points_cells))] := by
  unfold f_X1_put_b90 at h
  refine J_istore (lv2 := [(6, .int s0), (0, .ref a_this), (1, .int x1), (2, .int x2), (3, .int x3), (4, .int x4), (5, .int x5)]) (pc := 90) C dX1_put_90 (by decide) rfl ?_
  refine J_iload (pc := 92) C dX1_put_92 0 rfl ?_
  refine J_if_eq (pc := 94) (tgt := 111) C dX1_put_94 (by decide) h (fun h => ?_) (fun h => ?_)
  · refine J_aload_n (pc := 111) C dX1_put_111 1 rfl ?_
    refine J_get (pc := 112) C dX1_put_112 jf_X1 0 rfl rfl 4 (by decide) rfl fl_RX1_29 rfl ?_
    refine J_sipush (v := (1024 : Int32)) (pc := 115) C dX1_put_115 (by decide) ?_
    refine J_ic_ge (pc := 118) (tgt := 172) C dX1_put_118 (by decide) h (fun h => ?_) (fun h => ?_)
    · cases h
      exact J_vret (pc := 172) C dX1_put_172 hr ⟨rfl, rfl⟩
    · refine J_aload_n (pc := 121) C dX1_put_121 1 rfl ?_
      refine J_iload (pc := 122) C dX1_put_122 6 rfl ?_
      refine J_iload (pc := 124) C dX1_put_124 6 rfl ?_
      refine J_iconst (v := (1 : Int32)) (pc := 126) C dX1_put_126 (by decide) ?_
      refine J_iadd (pc := 127) C dX1_put_127 ?_
      refine J_cvwA (pc := 128) (As := [.int x5, .int (x5 + (1 : Int32))]) (st := []) C (fun r128 => [(a_this, .inr (1, [.ref a_this_lists, .ref a_this_days, .ref a_this_contributors, .ref a_this_points, .int r128.1])), (a_this_lists, .inr (6, [.ref a_this_lists_cells])), (a_this_lists_cells, .inl (cI, n_this_lists_cells, .inl r128.2.1)), (a_this_days, .inr (6, [.ref a_this_days_cells])), (a_this_days_cells, .inl (cI, n_this_days_cells, .inl r128.2.2.1)), (a_this_contributors, .inr (6, [.ref a_this_contributors_cells])), (a_this_contributors_cells, .inl (cI, n_this_contributors_cells, .inl r128.2.2.2.1)), (a_this_points, .inr (6, [.ref a_this_points_cells])), (a_this_points_cells, .inl (cI, n_this_points_cells, .inl r128.2.2.2.2))]) dX1_put_128 ml_RX1_57 mi_yX1_shift (fun r128 hr => c_X1_shift l D cI cB cL cO pf 0 a_this a_this_lists a_this_days a_this_contributors a_this_points a_this_lists_cells a_this_days_cells a_this_contributors_cells a_this_points_cells n_this_lists_cells n_this_days_cells n_this_contributors_cells n_this_points_cells v_this_size g_this_lists_cells g_this_days_cells g_this_contributors_cells g_this_points_cells x5 (x5 + (1 : Int32)) r128 hr) h rfl rfl rfl rfl ⟨rfl, rfl⟩ ⟨(Nat.le_of_ble_eq_true rfl), (Nat.le_of_ble_eq_true rfl)⟩ ⟨Nat.zero_le _, Nat.zero_le _⟩ (Nat.le_of_ble_eq_true rfl) (fun _ => rfl) (fun _ => rfl) (fun r128 h => ?_)
      refine J_aload_n (pc := 131) C dX1_put_131 1 rfl ?_
      refine J_get (pc := 132) C dX1_put_132 jf_X1 0 rfl rfl 0 (by decide) rfl fl_RX1_14 rfl ?_
      refine J_iload (pc := 135) C dX1_put_135 6 rfl ?_
      refine J_iload_n (pc := 137) C dX1_put_137 2 rfl ?_
      refine J_cvw (pc := 138) (As := [.int x5, .int x1]) (st := []) C (fun r138 => [(a_this, .inr (1, [.ref a_this_lists, .ref a_this_days, .ref a_this_contributors, .ref a_this_points, .int r128.1])), (a_this_lists, .inr (6, [.ref a_this_lists_cells])), (a_this_lists_cells, .inl (cI, n_this_lists_cells, .inl r138)), (a_this_days, .inr (6, [.ref a_this_days_cells])), (a_this_days_cells, .inl (cI, n_this_days_cells, .inl r128.2.2.1)), (a_this_contributors, .inr (6, [.ref a_this_contributors_cells])), (a_this_contributors_cells, .inl (cI, n_this_contributors_cells, .inl r128.2.2.2.1)), (a_this_points, .inr (6, [.ref a_this_points_cells])), (a_this_points_cells, .inl (cI, n_this_points_cells, .inl r128.2.2.2.2))]) dX1_put_138 ml_RX1_60 mi_yX6_put (fun r138 hr => c_X6_put l D cI cB cL cO pf 0 a_this_lists a_this_lists_cells n_this_lists_cells r128.2.1 x5 x1 r138 hr) h [1, 2] rfl rfl rfl rfl rfl ⟨rfl, rfl⟩ ⟨(Nat.le_of_ble_eq_true rfl), (Nat.le_of_ble_eq_true rfl)⟩ ⟨Nat.zero_le _, Nat.zero_le _⟩ (Nat.le_of_ble_eq_true rfl) (fun _ => rfl) (fun _ => rfl) (fun r138 h => ?_)
      refine J_aload_n (pc := 141) C dX1_put_141 1 rfl ?_
      refine J_get (pc := 142) C dX1_put_142 jf_X1 0 rfl rfl 1 (by decide) rfl fl_RX1_20 rfl ?_
      refine J_iload (pc := 145) C dX1_put_145 6 rfl ?_
      refine J_iload_n (pc := 147) C dX1_put_147 3 rfl ?_
      refine J_cvw (pc := 148) (As := [.int x5, .int x2]) (st := []) C (fun r148 => [(a_this, .inr (1, [.ref a_this_lists, .ref a_this_days, .ref a_this_contributors, .ref a_this_points, .int r128.1])), (a_this_lists, .inr (6, [.ref a_this_lists_cells])), (a_this_lists_cells, .inl (cI, n_this_lists_cells, .inl r138)), (a_this_days, .inr (6, [.ref a_this_days_cells])), (a_this_days_cells, .inl (cI, n_this_days_cells, .inl r148)), (a_this_contributors, .inr (6, [.ref a_this_contributors_cells])), (a_this_contributors_cells, .inl (cI, n_this_contributors_cells, .inl r128.2.2.2.1)), (a_this_points, .inr (6, [.ref a_this_points_cells])), (a_this_points_cells, .inl (cI, n_this_points_cells, .inl r128.2.2.2.2))]) dX1_put_148 ml_RX1_60 mi_yX6_put (fun r148 hr => c_X6_put l D cI cB cL cO pf 0 a_this_days a_this_days_cells n_this_days_cells r128.2.2.1 x5 x2 r148 hr) h [3, 4] rfl rfl rfl rfl rfl ⟨rfl, rfl⟩ ⟨(Nat.le_of_ble_eq_true rfl), (Nat.le_of_ble_eq_true rfl)⟩ ⟨Nat.zero_le _, Nat.zero_le _⟩ (Nat.le_of_ble_eq_true rfl) (fun _ => rfl) (fun _ => rfl) (fun r148 h => ?_)
      refine J_aload_n (pc := 151) C dX1_put_151 1 rfl ?_
      refine J_get (pc := 152) C dX1_put_152 jf_X1 0 rfl rfl 2 (by decide) rfl fl_RX1_23 rfl ?_
      refine J_iload (pc := 155) C dX1_put_155 6 rfl ?_
      refine J_iload_n (pc := 157) C dX1_put_157 4 rfl ?_
      refine J_cvw (pc := 158) (As := [.int x5, .int x3]) (st := []) C (fun r158 => [(a_this, .inr (1, [.ref a_this_lists, .ref a_this_days, .ref a_this_contributors, .ref a_this_points, .int r128.1])), (a_this_lists, .inr (6, [.ref a_this_lists_cells])), (a_this_lists_cells, .inl (cI, n_this_lists_cells, .inl r138)), (a_this_days, .inr (6, [.ref a_this_days_cells])), (a_this_days_cells, .inl (cI, n_this_days_cells, .inl r148)), (a_this_contributors, .inr (6, [.ref a_this_contributors_cells])), (a_this_contributors_cells, .inl (cI, n_this_contributors_cells, .inl r158)), (a_this_points, .inr (6, [.ref a_this_points_cells])), (a_this_points_cells, .inl (cI, n_this_points_cells, .inl r128.2.2.2.2))]) dX1_put_158 ml_RX1_60 mi_yX6_put (fun r158 hr => c_X6_put l D cI cB cL cO pf 0 a_this_contributors a_this_contributors_cells n_this_contributors_cells r128.2.2.2.1 x5 x3 r158 hr) h [5, 6] rfl rfl rfl rfl rfl ⟨rfl, rfl⟩ ⟨(Nat.le_of_ble_eq_true rfl), (Nat.le_of_ble_eq_true rfl)⟩ ⟨Nat.zero_le _, Nat.zero_le _⟩ (Nat.le_of_ble_eq_true rfl) (fun _ => rfl) (fun _ => rfl) (fun r158 h => ?_)
      refine J_aload_n (pc := 161) C dX1_put_161 1 rfl ?_
      refine J_get (pc := 162) C dX1_put_162 jf_X1 0 rfl rfl 3 (by decide) rfl fl_RX1_26 rfl ?_
      refine J_iload (pc := 165) C dX1_put_165 6 rfl ?_
      refine J_iload (pc := 167) C dX1_put_167 5 rfl ?_
      refine J_cvw (pc := 169) (As := [.int x5, .int x4]) (st := []) C (fun r169 => [(a_this, .inr (1, [.ref a_this_lists, .ref a_this_days, .ref a_this_contributors, .ref a_this_points, .int r128.1])), (a_this_lists, .inr (6, [.ref a_this_lists_cells])), (a_this_lists_cells, .inl (cI, n_this_lists_cells, .inl r138)), (a_this_days, .inr (6, [.ref a_this_days_cells])), (a_this_days_cells, .inl (cI, n_this_days_cells, .inl r148)), (a_this_contributors, .inr (6, [.ref a_this_contributors_cells])), (a_this_contributors_cells, .inl (cI, n_this_contributors_cells, .inl r158)), (a_this_points, .inr (6, [.ref a_this_points_cells])), (a_this_points_cells, .inl (cI, n_this_points_cells, .inl r169))]) dX1_put_169 ml_RX1_60 mi_yX6_put (fun r169 hr => c_X6_put l D cI cB cL cO pf 0 a_this_points a_this_points_cells n_this_points_cells r128.2.2.2.2 x5 x4 r169 hr) h [7, 8] rfl rfl rfl rfl rfl ⟨rfl, rfl⟩ ⟨(Nat.le_of_ble_eq_true rfl), (Nat.le_of_ble_eq_true rfl)⟩ ⟨Nat.zero_le _, Nat.zero_le _⟩ (Nat.le_of_ble_eq_true rfl) (fun _ => rfl) (fun _ => rfl) (fun r169 h => ?_)
      cases h
      exact J_vret (pc := 172) C dX1_put_172 hr ⟨rfl, rfl⟩
  · refine J_aload_n (pc := 97) C dX1_put_97 1 rfl ?_
    refine J_get (pc := 98) C dX1_put_98 jf_X1 0 rfl rfl 3 (by decide) rfl fl_RX1_26 rfl ?_
    refine J_iload (pc := 101) C dX1_put_101 6 rfl ?_
    refine J_iload (pc := 103) C dX1_put_103 5 rfl ?_
    refine J_cvw (pc := 105) (As := [.int x5, .int x4]) (st := []) C (fun r105 => [(a_this, .inr (1, [.ref a_this_lists, .ref a_this_days, .ref a_this_contributors, .ref a_this_points, .int v_this_size])), (a_this_lists, .inr (6, [.ref a_this_lists_cells])), (a_this_lists_cells, .inl (cI, n_this_lists_cells, .inl g_this_lists_cells)), (a_this_days, .inr (6, [.ref a_this_days_cells])), (a_this_days_cells, .inl (cI, n_this_days_cells, .inl g_this_days_cells)), (a_this_contributors, .inr (6, [.ref a_this_contributors_cells])), (a_this_contributors_cells, .inl (cI, n_this_contributors_cells, .inl g_this_contributors_cells)), (a_this_points, .inr (6, [.ref a_this_points_cells])), (a_this_points_cells, .inl (cI, n_this_points_cells, .inl r105))]) dX1_put_105 ml_RX1_53 mi_yX6_increase (fun r105 hr => c_X6_increase l D cI cB cL cO pf 0 a_this_points a_this_points_cells n_this_points_cells g_this_points_cells x5 x4 r105 hr) h [7, 8] rfl rfl rfl rfl rfl ⟨rfl, rfl⟩ ⟨(Nat.le_of_ble_eq_true rfl), (Nat.le_of_ble_eq_true rfl)⟩ ⟨Nat.zero_le _, Nat.zero_le _⟩ (Nat.le_of_ble_eq_true rfl) (fun _ => rfl) (fun _ => rfl) (fun r105 h => ?_)
    refine J_goto (tgt := 172) (pc := 108) C dX1_put_108 (by decide) ?_
    cases h
    exact J_vret (pc := 172) C dX1_put_172 hr ⟨rfl, rfl⟩
set_option maxHeartbeats 4000000 in
set_option maxRecDepth 100000 in
theorem t_X1_put_b89 {l : Launch} {D : va_G} {cI cB cL cO : ClassId} {pf : Nat → Nat} {p : Program} {e : Env} {s : State} {m : MethodId} {args : Array Value} {below : List Frame} {meth : Method} {c : Code} {W0 : va_W} {a_this a_this_lists a_this_days a_this_contributors a_this_points a_this_lists_cells a_this_days_cells a_this_contributors_cells a_this_points_cells : Nat}  {n_this_lists_cells : Nat} {n_this_days_cells : Nat} {n_this_contributors_cells : Nat} {n_this_points_cells : Nat} {v_this_size : Int32} {g_this_lists_cells : Nat → Int32} {g_this_days_cells : Nat → Int32} {g_this_contributors_cells : Nat → Int32} {g_this_points_cells : Nat → Int32} {x1 : Int32} {x2 : Int32} {x3 : Int32} {x4 : Int32} {x5 : Int32} {o : Int32 × (Nat → Int32) × (Nat → Int32) × (Nat → Int32) × (Nat → Int32)} (C : jC p s m args meth c cX1_put 7 RX1 D [(cI, .int), (cB, .byte), (cL, .byte), (cO, .object RX0)] pf (va_A W0 s.heap.size)) (hr : meth.sig.returnType = (none : Option FieldType)) (h : f_X1_put_b89 x1 x2 x3 x4 x5 n_this_lists_cells n_this_days_cells n_this_contributors_cells n_this_points_cells v_this_size g_this_lists_cells g_this_days_cells g_this_contributors_cells g_this_points_cells = some o) : J p l e { frames := 3, cells := 0, slots := 0, locals := 106 } s m args below meth c 7 D (va_A W0 s.heap.size) (MQ below (jQ D [(cI, .int), (cB, .byte), (cL, .byte), (cO, .object RX0)] W0 s.heap.size (is1 (none) [(a_this, .inr (1, [.ref a_this_lists, .ref a_this_days, .ref a_this_contributors, .ref a_this_points, .int o.1])), (a_this_lists, .inr (6, [.ref a_this_lists_cells])), (a_this_lists_cells, .inl (cI, n_this_lists_cells, .inl o.2.1)), (a_this_days, .inr (6, [.ref a_this_days_cells])), (a_this_days_cells, .inl (cI, n_this_days_cells, .inl o.2.2.1)), (a_this_contributors, .inr (6, [.ref a_this_contributors_cells])), (a_this_contributors_cells, .inl (cI, n_this_contributors_cells, .inl o.2.2.2.1)), (a_this_points, .inr (6, [.ref a_this_points_cells])), (a_this_points_cells, .inl (cI, n_this_points_cells, .inl o.2.2.2.2))])) args s 0 0 (va_A W0 s.heap.size)) 0 0 89 [(0, .ref a_this), (1, .int x1), (2, .int x2), (3, .int x3), (4, .int x4), (5, .int x5)] [] [(a_this, .inr (1, [.ref a_this_lists, .ref a_this_days, .ref a_this_contributors, .ref a_this_points, .int v_this_size])), (a_this_lists, .inr (6, [.ref a_this_lists_cells])), (a_this_lists_cells, .inl (cI, n_this_lists_cells, .inl g_this_lists_cells)), (a_this_days, .inr (6, [.ref a_this_days_cells])), (a_this_days_cells, .inl (cI, n_this_days_cells, .inl g_this_days_cells)), (a_this_contributors, .inr (6, [.ref a_this_contributors_cells])), (a_this_contributors_cells, .inl (cI, n_this_contributors_cells, .inl g_this_contributors_cells)), (a_this_points, .inr (6, [.ref a_this_points_cells])), (a_this_points_cells, .inl (cI, n_this_points_cells, .inl g_this_points_cells))] := by
  unfold f_X1_put_b89 at h
  refine J_iconst (v := (0 : Int32)) (pc := 89) C dX1_put_89 (by decide) ?_
  exact t_X1_put_b90 C hr h
set_option maxHeartbeats 4000000 in
set_option maxRecDepth 100000 in
theorem t_X1_put_b37 {l : Launch} {D : va_G} {cI cB cL cO : ClassId} {pf : Nat → Nat} {p : Program} {e : Env} {s : State} {m : MethodId} {args : Array Value} {below : List Frame} {meth : Method} {c : Code} {W0 : va_W} {a_this a_this_lists a_this_days a_this_contributors a_this_points a_this_lists_cells a_this_days_cells a_this_contributors_cells a_this_points_cells : Nat}  {n_this_lists_cells : Nat} {n_this_days_cells : Nat} {n_this_contributors_cells : Nat} {n_this_points_cells : Nat} {v_this_size : Int32} {g_this_lists_cells : Nat → Int32} {g_this_days_cells : Nat → Int32} {g_this_contributors_cells : Nat → Int32} {g_this_points_cells : Nat → Int32} {x1 : Int32} {x2 : Int32} {x3 : Int32} {x4 : Int32} {x5 : Int32} {o : Int32 × (Nat → Int32) × (Nat → Int32) × (Nat → Int32) × (Nat → Int32)} (C : jC p s m args meth c cX1_put 7 RX1 D [(cI, .int), (cB, .byte), (cL, .byte), (cO, .object RX0)] pf (va_A W0 s.heap.size)) (hr : meth.sig.returnType = (none : Option FieldType)) (h : f_X1_put_b37 x1 x2 x3 x4 x5 n_this_lists_cells n_this_days_cells n_this_contributors_cells n_this_points_cells v_this_size g_this_lists_cells g_this_days_cells g_this_contributors_cells g_this_points_cells = some o) : J p l e { frames := 3, cells := 0, slots := 0, locals := 106 } s m args below meth c 7 D (va_A W0 s.heap.size) (MQ below (jQ D [(cI, .int), (cB, .byte), (cL, .byte), (cO, .object RX0)] W0 s.heap.size (is1 (none) [(a_this, .inr (1, [.ref a_this_lists, .ref a_this_days, .ref a_this_contributors, .ref a_this_points, .int o.1])), (a_this_lists, .inr (6, [.ref a_this_lists_cells])), (a_this_lists_cells, .inl (cI, n_this_lists_cells, .inl o.2.1)), (a_this_days, .inr (6, [.ref a_this_days_cells])), (a_this_days_cells, .inl (cI, n_this_days_cells, .inl o.2.2.1)), (a_this_contributors, .inr (6, [.ref a_this_contributors_cells])), (a_this_contributors_cells, .inl (cI, n_this_contributors_cells, .inl o.2.2.2.1)), (a_this_points, .inr (6, [.ref a_this_points_cells])), (a_this_points_cells, .inl (cI, n_this_points_cells, .inl o.2.2.2.2))])) args s 0 0 (va_A W0 s.heap.size)) 0 0 37 [(0, .ref a_this), (1, .int x1), (2, .int x2), (3, .int x3), (4, .int x4), (5, .int x5)] [] [(a_this, .inr (1, [.ref a_this_lists, .ref a_this_days, .ref a_this_contributors, .ref a_this_points, .int v_this_size])), (a_this_lists, .inr (6, [.ref a_this_lists_cells])), (a_this_lists_cells, .inl (cI, n_this_lists_cells, .inl g_this_lists_cells)), (a_this_days, .inr (6, [.ref a_this_days_cells])), (a_this_days_cells, .inl (cI, n_this_days_cells, .inl g_this_days_cells)), (a_this_contributors, .inr (6, [.ref a_this_contributors_cells])), (a_this_contributors_cells, .inl (cI, n_this_contributors_cells, .inl g_this_contributors_cells)), (a_this_points, .inr (6, [.ref a_this_points_cells])), (a_this_points_cells, .inl (cI, n_this_points_cells, .inl g_this_points_cells))] := by
  unfold f_X1_put_b37 at h
  refine J_iload (pc := 37) C dX1_put_37 5 rfl ?_
  refine J_aload_n (pc := 39) C dX1_put_39 0 rfl ?_
  refine J_get (pc := 40) C dX1_put_40 jf_X1 0 rfl rfl 4 (by decide) rfl fl_RX1_29 rfl ?_
  refine J_ic_ge (pc := 43) (tgt := 89) C dX1_put_43 (by decide) h (fun h => ?_) (fun h => ?_)
  · exact t_X1_put_b89 C hr h
  · refine J_aload_n (pc := 46) C dX1_put_46 0 rfl ?_
    refine J_get (pc := 47) C dX1_put_47 jf_X1 0 rfl rfl 0 (by decide) rfl fl_RX1_14 rfl ?_
    refine J_iload (pc := 50) C dX1_put_50 5 rfl ?_
    refine J_cvr (pc := 52) (As := [.int x5]) (st := []) C dX1_put_52 ml_RX1_37 mi_yX6_at (fun r52 hr => c_X6_at l D cI cB cL cO pf 0 a_this_lists a_this_lists_cells n_this_lists_cells g_this_lists_cells x5 r52 hr) h [1, 2] rfl rfl rfl rfl rfl ⟨rfl, rfl⟩ ⟨(Nat.le_of_ble_eq_true rfl), (Nat.le_of_ble_eq_true rfl)⟩ ⟨Nat.zero_le _, Nat.zero_le _⟩ (Nat.le_of_ble_eq_true rfl) (fun r52 h => ?_)
    refine J_iload_n (pc := 55) C dX1_put_55 1 rfl ?_
    refine J_ic_ne (pc := 56) (tgt := 89) C dX1_put_56 (by decide) h (fun h => ?_) (fun h => ?_)
    · exact t_X1_put_b89 C hr h
    · refine J_aload_n (pc := 59) C dX1_put_59 0 rfl ?_
      refine J_get (pc := 60) C dX1_put_60 jf_X1 0 rfl rfl 1 (by decide) rfl fl_RX1_20 rfl ?_
      refine J_iload (pc := 63) C dX1_put_63 5 rfl ?_
      refine J_cvr (pc := 65) (As := [.int x5]) (st := []) C dX1_put_65 ml_RX1_37 mi_yX6_at (fun r65 hr => c_X6_at l D cI cB cL cO pf 0 a_this_days a_this_days_cells n_this_days_cells g_this_days_cells x5 r65 hr) h [3, 4] rfl rfl rfl rfl rfl ⟨rfl, rfl⟩ ⟨(Nat.le_of_ble_eq_true rfl), (Nat.le_of_ble_eq_true rfl)⟩ ⟨Nat.zero_le _, Nat.zero_le _⟩ (Nat.le_of_ble_eq_true rfl) (fun r65 h => ?_)
      refine J_iload_n (pc := 68) C dX1_put_68 2 rfl ?_
      refine J_ic_ne (pc := 69) (tgt := 89) C dX1_put_69 (by decide) h (fun h => ?_) (fun h => ?_)
      · exact t_X1_put_b89 C hr h
      · refine J_aload_n (pc := 72) C dX1_put_72 0 rfl ?_
        refine J_get (pc := 73) C dX1_put_73 jf_X1 0 rfl rfl 2 (by decide) rfl fl_RX1_23 rfl ?_
        refine J_iload (pc := 76) C dX1_put_76 5 rfl ?_
        refine J_cvr (pc := 78) (As := [.int x5]) (st := []) C dX1_put_78 ml_RX1_37 mi_yX6_at (fun r78 hr => c_X6_at l D cI cB cL cO pf 0 a_this_contributors a_this_contributors_cells n_this_contributors_cells g_this_contributors_cells x5 r78 hr) h [5, 6] rfl rfl rfl rfl rfl ⟨rfl, rfl⟩ ⟨(Nat.le_of_ble_eq_true rfl), (Nat.le_of_ble_eq_true rfl)⟩ ⟨Nat.zero_le _, Nat.zero_le _⟩ (Nat.le_of_ble_eq_true rfl) (fun r78 h => ?_)
        refine J_iload_n (pc := 81) C dX1_put_81 3 rfl ?_
        refine J_ic_ne (pc := 82) (tgt := 89) C dX1_put_82 (by decide) h (fun h => ?_) (fun h => ?_)
        · exact t_X1_put_b89 C hr h
        · refine J_iconst (v := (1 : Int32)) (pc := 85) C dX1_put_85 (by decide) ?_
          refine J_goto (tgt := 90) (pc := 86) C dX1_put_86 (by decide) ?_
          exact t_X1_put_b90 C hr h
set_option maxHeartbeats 4000000 in
set_option maxRecDepth 100000 in
theorem t_X1_put_b10 {l : Launch} {D : va_G} {cI cB cL cO : ClassId} {pf : Nat → Nat} {p : Program} {e : Env} {s : State} {m : MethodId} {args : Array Value} {below : List Frame} {meth : Method} {c : Code} {W0 : va_W} {a_this a_this_lists a_this_days a_this_contributors a_this_points a_this_lists_cells a_this_days_cells a_this_contributors_cells a_this_points_cells : Nat}  {n_this_lists_cells : Nat} {n_this_days_cells : Nat} {n_this_contributors_cells : Nat} {n_this_points_cells : Nat} {v_this_size : Int32} {g_this_lists_cells : Nat → Int32} {g_this_days_cells : Nat → Int32} {g_this_contributors_cells : Nat → Int32} {g_this_points_cells : Nat → Int32} {x1 : Int32} {x2 : Int32} {x3 : Int32} {x4 : Int32} {o : Int32 × (Nat → Int32) × (Nat → Int32) × (Nat → Int32) × (Nat → Int32)} (C : jC p s m args meth c cX1_put 7 RX1 D [(cI, .int), (cB, .byte), (cL, .byte), (cO, .object RX0)] pf (va_A W0 s.heap.size)) (hr : meth.sig.returnType = (none : Option FieldType)) : ∀ (n : Nat) (x5 : Int32), f_X1_put_b10 x1 x2 x3 x4 n_this_lists_cells n_this_days_cells n_this_contributors_cells n_this_points_cells v_this_size g_this_lists_cells g_this_days_cells g_this_contributors_cells g_this_points_cells n x5 = some o → J p l e { frames := 3, cells := 0, slots := 0, locals := 106 } s m args below meth c 7 D (va_A W0 s.heap.size) (MQ below (jQ D [(cI, .int), (cB, .byte), (cL, .byte), (cO, .object RX0)] W0 s.heap.size (is1 (none) [(a_this, .inr (1, [.ref a_this_lists, .ref a_this_days, .ref a_this_contributors, .ref a_this_points, .int o.1])), (a_this_lists, .inr (6, [.ref a_this_lists_cells])), (a_this_lists_cells, .inl (cI, n_this_lists_cells, .inl o.2.1)), (a_this_days, .inr (6, [.ref a_this_days_cells])), (a_this_days_cells, .inl (cI, n_this_days_cells, .inl o.2.2.1)), (a_this_contributors, .inr (6, [.ref a_this_contributors_cells])), (a_this_contributors_cells, .inl (cI, n_this_contributors_cells, .inl o.2.2.2.1)), (a_this_points, .inr (6, [.ref a_this_points_cells])), (a_this_points_cells, .inl (cI, n_this_points_cells, .inl o.2.2.2.2))])) args s 0 0 (va_A W0 s.heap.size)) 0 0 10 [(0, .ref a_this), (1, .int x1), (2, .int x2), (3, .int x3), (4, .int x4), (5, .int x5)] [] [(a_this, .inr (1, [.ref a_this_lists, .ref a_this_days, .ref a_this_contributors, .ref a_this_points, .int v_this_size])), (a_this_lists, .inr (6, [.ref a_this_lists_cells])), (a_this_lists_cells, .inl (cI, n_this_lists_cells, .inl g_this_lists_cells)), (a_this_days, .inr (6, [.ref a_this_days_cells])), (a_this_days_cells, .inl (cI, n_this_days_cells, .inl g_this_days_cells)), (a_this_contributors, .inr (6, [.ref a_this_contributors_cells])), (a_this_contributors_cells, .inl (cI, n_this_contributors_cells, .inl g_this_contributors_cells)), (a_this_points, .inr (6, [.ref a_this_points_cells])), (a_this_points_cells, .inl (cI, n_this_points_cells, .inl g_this_points_cells))] := by
  intro n
  induction n with
  | zero =>
    intro _ h
    rw [f_X1_put_b10] at h
    cases h
  | succ n ih =>
    intro x5 h
    rw [f_X1_put_b10] at h
    refine J_iload (pc := 10) C dX1_put_10 5 rfl ?_
    refine J_aload_n (pc := 12) C dX1_put_12 0 rfl ?_
    refine J_get (pc := 13) C dX1_put_13 jf_X1 0 rfl rfl 4 (by decide) rfl fl_RX1_29 rfl ?_
    refine J_ic_ge (pc := 16) (tgt := 37) C dX1_put_16 (by decide) h (fun h => ?_) (fun h => ?_)
    · exact t_X1_put_b37 C hr h
    · refine J_aload_n (pc := 19) C dX1_put_19 0 rfl ?_
      refine J_iload (pc := 20) C dX1_put_20 5 rfl ?_
      refine J_iload_n (pc := 22) C dX1_put_22 1 rfl ?_
      refine J_iload_n (pc := 23) C dX1_put_23 2 rfl ?_
      refine J_iload_n (pc := 24) C dX1_put_24 3 rfl ?_
      refine J_cvr (pc := 25) (As := [.int x5, .int x1, .int x2, .int x3]) (st := []) C dX1_put_25 ml_RX1_49 mi_yX1_isBefore (fun r25 hr => c_X1_isBefore l D cI cB cL cO pf 0 a_this a_this_lists a_this_days a_this_contributors a_this_points a_this_lists_cells a_this_days_cells a_this_contributors_cells n_this_lists_cells n_this_days_cells n_this_contributors_cells v_this_size g_this_lists_cells g_this_days_cells g_this_contributors_cells x5 x1 x2 x3 r25 hr) h [0, 1, 2, 3, 4, 5, 6] rfl rfl rfl rfl rfl ⟨rfl, rfl⟩ ⟨(Nat.le_of_ble_eq_true rfl), (Nat.le_of_ble_eq_true rfl)⟩ ⟨Nat.zero_le _, Nat.zero_le _⟩ (Nat.le_of_ble_eq_true rfl) (fun r25 h => ?_)
      refine J_if_eq (pc := 28) (tgt := 37) C dX1_put_28 (by decide) h (fun h => ?_) (fun h => ?_)
      · exact t_X1_put_b37 C hr h
      · refine J_iincN (pc := 31) (v := (1 : Int32)) C (fun y31 => [(5, .int y31), (0, .ref a_this), (1, .int x1), (2, .int x2), (3, .int x3), (4, .int x4)]) dX1_put_31 5 rfl (by decide) h (by decide) (fun _ => rfl) (fun y31 h => ?_)
        refine J_goto (tgt := 10) (pc := 34) C dX1_put_34 (by decide) ?_
        refine J_sub (lv2 := [(0, .ref a_this), (1, .int x1), (2, .int x2), (3, .int x3), (4, .int x4), (5, .int y31)]) [1, 2, 3, 4, 5, 0] rfl ?_
        exact ih _ h
set_option maxHeartbeats 4000000 in
set_option maxRecDepth 100000 in
theorem c_X1_put (l : Launch) (D : va_G) (cI cB cL cO : ClassId) (pf : Nat → Nat) (N : Nat) (a_this a_this_lists a_this_days a_this_contributors a_this_points a_this_lists_cells a_this_days_cells a_this_contributors_cells a_this_points_cells : Nat) (n_this_lists_cells : Nat) (n_this_days_cells : Nat) (n_this_contributors_cells : Nat) (n_this_points_cells : Nat) (v_this_size : Int32) (g_this_lists_cells : Nat → Int32) (g_this_days_cells : Nat → Int32) (g_this_contributors_cells : Nat → Int32) (g_this_points_cells : Nat → Int32) (x1 : Int32) (x2 : Int32) (x3 : Int32) (x4 : Int32) (o : Int32 × (Nat → Int32) × (Nat → Int32) × (Nat → Int32) × (Nat → Int32)) (h : f_X1_put N x1 x2 x3 x4 n_this_lists_cells n_this_days_cells n_this_contributors_cells n_this_points_cells v_this_size g_this_lists_cells g_this_days_cells g_this_contributors_cells g_this_points_cells = some o) : Ct l D [(cI, .int), (cB, .byte), (cL, .byte), (cO, .object RX0)] pf yX1_put cX1_put 7 (none : Option FieldType) { frames := 3, cells := 0, slots := 0, locals := 106 } [.ref a_this, .int x1, .int x2, .int x3, .int x4] [(a_this, .inr (1, [.ref a_this_lists, .ref a_this_days, .ref a_this_contributors, .ref a_this_points, .int v_this_size])), (a_this_lists, .inr (6, [.ref a_this_lists_cells])), (a_this_lists_cells, .inl (cI, n_this_lists_cells, .inl g_this_lists_cells)), (a_this_days, .inr (6, [.ref a_this_days_cells])), (a_this_days_cells, .inl (cI, n_this_days_cells, .inl g_this_days_cells)), (a_this_contributors, .inr (6, [.ref a_this_contributors_cells])), (a_this_contributors_cells, .inl (cI, n_this_contributors_cells, .inl g_this_contributors_cells)), (a_this_points, .inr (6, [.ref a_this_points_cells])), (a_this_points_cells, .inl (cI, n_this_points_cells, .inl g_this_points_cells))] (is1 (none) [(a_this, .inr (1, [.ref a_this_lists, .ref a_this_days, .ref a_this_contributors, .ref a_this_points, .int o.1])), (a_this_lists, .inr (6, [.ref a_this_lists_cells])), (a_this_lists_cells, .inl (cI, n_this_lists_cells, .inl o.2.1)), (a_this_days, .inr (6, [.ref a_this_days_cells])), (a_this_days_cells, .inl (cI, n_this_days_cells, .inl o.2.2.1)), (a_this_contributors, .inr (6, [.ref a_this_contributors_cells])), (a_this_contributors_cells, .inl (cI, n_this_contributors_cells, .inl o.2.2.2.1)), (a_this_points, .inr (6, [.ref a_this_points_cells])), (a_this_points_cells, .inl (cI, n_this_points_cells, .inl o.2.2.2.2))]) := by
  refine Ct_of (own := RX1) (lv0 := [(0, .ref a_this), (1, .int x1), (2, .int x2), (3, .int x3), (4, .int x4)]) (by decide) rfl rfl (Nat.le_of_ble_eq_true rfl) ?_
  intro p e s m args below meth c C hr hnm
  unfold f_X1_put at h
  refine J_iload (pc := 0) C dX1_put_0 4 rfl ?_
  refine J_iconst (v := (1 : Int32)) (pc := 2) C dX1_put_2 (by decide) ?_
  refine J_ic_ge (pc := 3) (tgt := 7) C dX1_put_3 (by decide) h (fun h => ?_) (fun h => ?_)
  · refine J_iconst (v := (0 : Int32)) (pc := 7) C dX1_put_7 (by decide) ?_
    refine J_istore (lv2 := [(5, .int (0 : Int32)), (0, .ref a_this), (1, .int x1), (2, .int x2), (3, .int x3), (4, .int x4)]) (pc := 8) C dX1_put_8 (by decide) rfl ?_
    refine J_sub (lv2 := [(0, .ref a_this), (1, .int x1), (2, .int x2), (3, .int x3), (4, .int x4), (5, .int (0 : Int32))]) [1, 2, 3, 4, 5, 0] rfl ?_
    exact t_X1_put_b10 C hr N _ h
  · cases h
    exact J_vret (pc := 6) C dX1_put_6 hr ⟨rfl, rfl⟩
-- PointsLedger$Books.credit(III)I
theorem dX0_credit_0 : decode cX0_credit 0 = .ok (.iload_n 3, 1) := by decide +kernel
theorem dX0_credit_1 : decode cX0_credit 1 = .ok (.aload_n 0, 1) := by decide +kernel
theorem dX0_credit_2 : decode cX0_credit 2 = .ok (.getfield 48, 3) := by decide +kernel
theorem dX0_credit_5 : decode cX0_credit 5 = .ok (.iload_n 1, 1) := by decide +kernel
theorem dX0_credit_6 : decode cX0_credit 6 = .ok (.invokevirtual 121, 3) := by decide +kernel
theorem dX0_credit_9 : decode cX0_credit 9 = .ok (.invokestatic 184, 3) := by decide +kernel
theorem dX0_credit_12 : decode cX0_credit 12 = .ok (.istore 4, 2) := by decide +kernel
theorem dX0_credit_14 : decode cX0_credit 14 = .ok (.aload_n 0, 1) := by decide +kernel
theorem dX0_credit_15 : decode cX0_credit 15 = .ok (.getfield 48, 3) := by decide +kernel
theorem dX0_credit_18 : decode cX0_credit 18 = .ok (.iload_n 1, 1) := by decide +kernel
theorem dX0_credit_19 : decode cX0_credit 19 = .ok (.iload 4, 2) := by decide +kernel
theorem dX0_credit_21 : decode cX0_credit 21 = .ok (.ineg, 1) := by decide +kernel
theorem dX0_credit_22 : decode cX0_credit 22 = .ok (.invokevirtual 166, 3) := by decide +kernel
theorem dX0_credit_25 : decode cX0_credit 25 = .ok (.aload_n 0, 1) := by decide +kernel
theorem dX0_credit_26 : decode cX0_credit 26 = .ok (.getfield 63, 3) := by decide +kernel
theorem dX0_credit_29 : decode cX0_credit 29 = .ok (.iconst 4, 1) := by decide +kernel
theorem dX0_credit_30 : decode cX0_credit 30 = .ok (.iload 4, 2) := by decide +kernel
theorem dX0_credit_32 : decode cX0_credit 32 = .ok (.invokevirtual 166, 3) := by decide +kernel
theorem dX0_credit_35 : decode cX0_credit 35 = .ok (.aload_n 0, 1) := by decide +kernel
theorem dX0_credit_36 : decode cX0_credit 36 = .ok (.getfield 18, 3) := by decide +kernel
theorem dX0_credit_39 : decode cX0_credit 39 = .ok (.iload_n 1, 1) := by decide +kernel
theorem dX0_credit_40 : decode cX0_credit 40 = .ok (.iload_n 2, 1) := by decide +kernel
theorem dX0_credit_41 : decode cX0_credit 41 = .ok (.iconst (-1), 1) := by decide +kernel
theorem dX0_credit_42 : decode cX0_credit 42 = .ok (.iload_n 3, 1) := by decide +kernel
theorem dX0_credit_43 : decode cX0_credit 43 = .ok (.iload 4, 2) := by decide +kernel
theorem dX0_credit_45 : decode cX0_credit 45 = .ok (.isub, 1) := by decide +kernel
theorem dX0_credit_46 : decode cX0_credit 46 = .ok (.invokevirtual 173, 3) := by decide +kernel
theorem dX0_credit_49 : decode cX0_credit 49 = .ok (.iload 4, 2) := by decide +kernel
theorem dX0_credit_51 : decode cX0_credit 51 = .ok (.ireturn, 1) := by decide +kernel
def f_X0_credit (N : Nat) (x1 : Int32) (x2 : Int32) (x3 : Int32) (n_this_cohorts_lists_cells : Nat) (n_this_cohorts_days_cells : Nat) (n_this_cohorts_contributors_cells : Nat) (n_this_cohorts_points_cells : Nat) (n_this_debts_cells : Nat) (n_this_totals_cells : Nat) (v_this_cohorts_size : Int32) (g_this_cohorts_lists_cells : Nat → Int32) (g_this_cohorts_days_cells : Nat → Int32) (g_this_cohorts_contributors_cells : Nat → Int32) (g_this_cohorts_points_cells : Nat → Int32) (g_this_debts_cells : Nat → Int32) (g_this_totals_cells : Nat → Int32) : Option (Int32 × Int32 × (Nat → Int32) × (Nat → Int32) × (Nat → Int32) × (Nat → Int32) × (Nat → Int32) × (Nat → Int32)) :=
  ((f_X6_at x1 n_this_debts_cells g_this_debts_cells).bind fun r6 => ((some (if r6 < x3 then r6 else x3)).bind fun y12 => ((f_X6_increase x1 (-y12) n_this_debts_cells g_this_debts_cells).bind fun r22 => ((f_X6_increase (4 : Int32) y12 n_this_totals_cells g_this_totals_cells).bind fun r32 => ((f_X1_put N x1 x2 (-1 : Int32) (x3 - y12) n_this_cohorts_lists_cells n_this_cohorts_days_cells n_this_cohorts_contributors_cells n_this_cohorts_points_cells v_this_cohorts_size g_this_cohorts_lists_cells g_this_cohorts_days_cells g_this_cohorts_contributors_cells g_this_cohorts_points_cells).bind fun r46 => (some (y12, r46.1, r46.2.1, r46.2.2.1, r46.2.2.2.1, r46.2.2.2.2, r22, r32)))))))
set_option maxHeartbeats 4000000 in
set_option maxRecDepth 100000 in
theorem c_X0_credit (l : Launch) (D : va_G) (cI cB cL cO : ClassId) (pf : Nat → Nat) (N : Nat) (a_this a_this_setup a_this_cohorts a_this_purchases a_this_diary a_this_tiers a_this_belowSince a_this_debts a_this_homes a_this_qualifying a_this_shares a_this_redeemed a_this_totals a_this_losses a_this_balances a_this_standing a_this_cohorts_lists a_this_cohorts_days a_this_cohorts_contributors a_this_cohorts_points a_this_cohorts_lists_cells a_this_cohorts_days_cells a_this_cohorts_contributors_cells a_this_cohorts_points_cells a_this_debts_cells a_this_totals_cells : Nat) (n_this_cohorts_lists_cells : Nat) (n_this_cohorts_days_cells : Nat) (n_this_cohorts_contributors_cells : Nat) (n_this_cohorts_points_cells : Nat) (n_this_debts_cells : Nat) (n_this_totals_cells : Nat) (v_this_day : Int32) (v_this_windowStart : Int32) (v_this_cohorts_size : Int32) (g_this_cohorts_lists_cells : Nat → Int32) (g_this_cohorts_days_cells : Nat → Int32) (g_this_cohorts_contributors_cells : Nat → Int32) (g_this_cohorts_points_cells : Nat → Int32) (g_this_debts_cells : Nat → Int32) (g_this_totals_cells : Nat → Int32) (x1 : Int32) (x2 : Int32) (x3 : Int32) (o : Int32 × Int32 × (Nat → Int32) × (Nat → Int32) × (Nat → Int32) × (Nat → Int32) × (Nat → Int32) × (Nat → Int32)) (h : f_X0_credit N x1 x2 x3 n_this_cohorts_lists_cells n_this_cohorts_days_cells n_this_cohorts_contributors_cells n_this_cohorts_points_cells n_this_debts_cells n_this_totals_cells v_this_cohorts_size g_this_cohorts_lists_cells g_this_cohorts_days_cells g_this_cohorts_contributors_cells g_this_cohorts_points_cells g_this_debts_cells g_this_totals_cells = some o) : Ct l D [(cI, .int), (cB, .byte), (cL, .byte), (cO, .object RX0)] pf yX0_credit cX0_credit 5 (some FieldType.int) { frames := 4, cells := 0, slots := 0, locals := 132 } [.ref a_this, .int x1, .int x2, .int x3] [(a_this, .inr (0, [.ref a_this_setup, .ref a_this_cohorts, .ref a_this_purchases, .ref a_this_diary, .ref a_this_tiers, .ref a_this_belowSince, .ref a_this_debts, .ref a_this_homes, .ref a_this_qualifying, .ref a_this_shares, .ref a_this_redeemed, .ref a_this_totals, .ref a_this_losses, .ref a_this_balances, .ref a_this_standing, .int v_this_day, .int v_this_windowStart])), (a_this_cohorts, .inr (1, [.ref a_this_cohorts_lists, .ref a_this_cohorts_days, .ref a_this_cohorts_contributors, .ref a_this_cohorts_points, .int v_this_cohorts_size])), (a_this_cohorts_lists, .inr (6, [.ref a_this_cohorts_lists_cells])), (a_this_cohorts_lists_cells, .inl (cI, n_this_cohorts_lists_cells, .inl g_this_cohorts_lists_cells)), (a_this_cohorts_days, .inr (6, [.ref a_this_cohorts_days_cells])), (a_this_cohorts_days_cells, .inl (cI, n_this_cohorts_days_cells, .inl g_this_cohorts_days_cells)), (a_this_cohorts_contributors, .inr (6, [.ref a_this_cohorts_contributors_cells])), (a_this_cohorts_contributors_cells, .inl (cI, n_this_cohorts_contributors_cells, .inl g_this_cohorts_contributors_cells)), (a_this_cohorts_points, .inr (6, [.ref a_this_cohorts_points_cells])), (a_this_cohorts_points_cells, .inl (cI, n_this_cohorts_points_cells, .inl g_this_cohorts_points_cells)), (a_this_debts, .inr (6, [.ref a_this_debts_cells])), (a_this_debts_cells, .inl (cI, n_this_debts_cells, .inl g_this_debts_cells)), (a_this_totals, .inr (6, [.ref a_this_totals_cells])), (a_this_totals_cells, .inl (cI, n_this_totals_cells, .inl g_this_totals_cells))] (is1 (some (.int o.1)) [(a_this, .inr (0, [.ref a_this_setup, .ref a_this_cohorts, .ref a_this_purchases, .ref a_this_diary, .ref a_this_tiers, .ref a_this_belowSince, .ref a_this_debts, .ref a_this_homes, .ref a_this_qualifying, .ref a_this_shares, .ref a_this_redeemed, .ref a_this_totals, .ref a_this_losses, .ref a_this_balances, .ref a_this_standing, .int v_this_day, .int v_this_windowStart])), (a_this_cohorts, .inr (1, [.ref a_this_cohorts_lists, .ref a_this_cohorts_days, .ref a_this_cohorts_contributors, .ref a_this_cohorts_points, .int o.2.1])), (a_this_cohorts_lists, .inr (6, [.ref a_this_cohorts_lists_cells])), (a_this_cohorts_lists_cells, .inl (cI, n_this_cohorts_lists_cells, .inl o.2.2.1)), (a_this_cohorts_days, .inr (6, [.ref a_this_cohorts_days_cells])), (a_this_cohorts_days_cells, .inl (cI, n_this_cohorts_days_cells, .inl o.2.2.2.1)), (a_this_cohorts_contributors, .inr (6, [.ref a_this_cohorts_contributors_cells])), (a_this_cohorts_contributors_cells, .inl (cI, n_this_cohorts_contributors_cells, .inl o.2.2.2.2.1)), (a_this_cohorts_points, .inr (6, [.ref a_this_cohorts_points_cells])), (a_this_cohorts_points_cells, .inl (cI, n_this_cohorts_points_cells, .inl o.2.2.2.2.2.1)), (a_this_debts, .inr (6, [.ref a_this_debts_cells])), (a_this_debts_cells, .inl (cI, n_this_debts_cells, .inl o.2.2.2.2.2.2.1)), (a_this_totals, .inr (6, [.ref a_this_totals_cells])), (a_this_totals_cells, .inl (cI, n_this_totals_cells, .inl o.2.2.2.2.2.2.2))]) := by
  refine Ct_of (own := RX0) (lv0 := [(0, .ref a_this), (1, .int x1), (2, .int x2), (3, .int x3)]) (by decide) rfl rfl (Nat.le_of_ble_eq_true rfl) ?_
  intro p e s m args below meth c C hr hnm
  unfold f_X0_credit at h
  refine J_iload_n (pc := 0) C dX0_credit_0 3 rfl ?_
  refine J_aload_n (pc := 1) C dX0_credit_1 0 rfl ?_
  refine J_get (pc := 2) C dX0_credit_2 jf_X0 0 rfl rfl 6 (by decide) rfl fl_RX0_48 rfl ?_
  refine J_iload_n (pc := 5) C dX0_credit_5 1 rfl ?_
  refine J_cvr (pc := 6) (As := [.int x1]) (st := [.int x3]) C dX0_credit_6 ml_RX0_121 mi_yX6_at (fun r6 hr => c_X6_at l D cI cB cL cO pf 0 a_this_debts a_this_debts_cells n_this_debts_cells g_this_debts_cells x1 r6 hr) h [10, 11] rfl rfl rfl rfl rfl ⟨rfl, rfl⟩ ⟨(Nat.le_of_ble_eq_true rfl), (Nat.le_of_ble_eq_true rfl)⟩ ⟨Nat.zero_le _, Nat.zero_le _⟩ (Nat.le_of_ble_eq_true rfl) (fun r6 h => ?_)
  refine J_mmin (pc := 9) C dX0_credit_9 ml_RX0_184 w_min (Nat.le_of_ble_eq_true rfl) (Nat.le_of_ble_eq_true rfl) ⟨Nat.zero_le _, Nat.zero_le _⟩ ?_
  refine J_istoreN (pc := 12) C (fun y12 => [(4, .int y12), (0, .ref a_this), (1, .int x1), (2, .int x2), (3, .int x3)]) dX0_credit_12 h (by decide) (fun _ => rfl) (fun y12 h => ?_)
  refine J_aload_n (pc := 14) C dX0_credit_14 1 rfl ?_
  refine J_get (pc := 15) C dX0_credit_15 jf_X0 0 rfl rfl 6 (by decide) rfl fl_RX0_48 rfl ?_
  refine J_iload_n (pc := 18) C dX0_credit_18 2 rfl ?_
  refine J_iload (pc := 19) C dX0_credit_19 0 rfl ?_
  refine J_ineg (pc := 21) C dX0_credit_21 ?_
  refine J_cvw (pc := 22) (As := [.int x1, .int (-y12)]) (st := []) C (fun r22 => [(a_this, .inr (0, [.ref a_this_setup, .ref a_this_cohorts, .ref a_this_purchases, .ref a_this_diary, .ref a_this_tiers, .ref a_this_belowSince, .ref a_this_debts, .ref a_this_homes, .ref a_this_qualifying, .ref a_this_shares, .ref a_this_redeemed, .ref a_this_totals, .ref a_this_losses, .ref a_this_balances, .ref a_this_standing, .int v_this_day, .int v_this_windowStart])), (a_this_cohorts, .inr (1, [.ref a_this_cohorts_lists, .ref a_this_cohorts_days, .ref a_this_cohorts_contributors, .ref a_this_cohorts_points, .int v_this_cohorts_size])), (a_this_cohorts_lists, .inr (6, [.ref a_this_cohorts_lists_cells])), (a_this_cohorts_lists_cells, .inl (cI, n_this_cohorts_lists_cells, .inl g_this_cohorts_lists_cells)), (a_this_cohorts_days, .inr (6, [.ref a_this_cohorts_days_cells])), (a_this_cohorts_days_cells, .inl (cI, n_this_cohorts_days_cells, .inl g_this_cohorts_days_cells)), (a_this_cohorts_contributors, .inr (6, [.ref a_this_cohorts_contributors_cells])), (a_this_cohorts_contributors_cells, .inl (cI, n_this_cohorts_contributors_cells, .inl g_this_cohorts_contributors_cells)), (a_this_cohorts_points, .inr (6, [.ref a_this_cohorts_points_cells])), (a_this_cohorts_points_cells, .inl (cI, n_this_cohorts_points_cells, .inl g_this_cohorts_points_cells)), (a_this_debts, .inr (6, [.ref a_this_debts_cells])), (a_this_debts_cells, .inl (cI, n_this_debts_cells, .inl r22)), (a_this_totals, .inr (6, [.ref a_this_totals_cells])), (a_this_totals_cells, .inl (cI, n_this_totals_cells, .inl g_this_totals_cells))]) dX0_credit_22 ml_RX0_166 mi_yX6_increase (fun r22 hr => c_X6_increase l D cI cB cL cO pf 0 a_this_debts a_this_debts_cells n_this_debts_cells g_this_debts_cells x1 (-y12) r22 hr) h [10, 11] rfl rfl rfl rfl rfl ⟨rfl, rfl⟩ ⟨(Nat.le_of_ble_eq_true rfl), (Nat.le_of_ble_eq_true rfl)⟩ ⟨Nat.zero_le _, Nat.zero_le _⟩ (Nat.le_of_ble_eq_true rfl) (fun _ => rfl) (fun _ => rfl) (fun r22 h => ?_)
  refine J_aload_n (pc := 25) C dX0_credit_25 1 rfl ?_
  refine J_get (pc := 26) C dX0_credit_26 jf_X0 0 rfl rfl 11 (by decide) rfl fl_RX0_63 rfl ?_
  refine J_iconst (v := (4 : Int32)) (pc := 29) C dX0_credit_29 (by decide) ?_
  refine J_iload (pc := 30) C dX0_credit_30 0 rfl ?_
  refine J_cvw (pc := 32) (As := [.int (4 : Int32), .int y12]) (st := []) C (fun r32 => [(a_this, .inr (0, [.ref a_this_setup, .ref a_this_cohorts, .ref a_this_purchases, .ref a_this_diary, .ref a_this_tiers, .ref a_this_belowSince, .ref a_this_debts, .ref a_this_homes, .ref a_this_qualifying, .ref a_this_shares, .ref a_this_redeemed, .ref a_this_totals, .ref a_this_losses, .ref a_this_balances, .ref a_this_standing, .int v_this_day, .int v_this_windowStart])), (a_this_cohorts, .inr (1, [.ref a_this_cohorts_lists, .ref a_this_cohorts_days, .ref a_this_cohorts_contributors, .ref a_this_cohorts_points, .int v_this_cohorts_size])), (a_this_cohorts_lists, .inr (6, [.ref a_this_cohorts_lists_cells])), (a_this_cohorts_lists_cells, .inl (cI, n_this_cohorts_lists_cells, .inl g_this_cohorts_lists_cells)), (a_this_cohorts_days, .inr (6, [.ref a_this_cohorts_days_cells])), (a_this_cohorts_days_cells, .inl (cI, n_this_cohorts_days_cells, .inl g_this_cohorts_days_cells)), (a_this_cohorts_contributors, .inr (6, [.ref a_this_cohorts_contributors_cells])), (a_this_cohorts_contributors_cells, .inl (cI, n_this_cohorts_contributors_cells, .inl g_this_cohorts_contributors_cells)), (a_this_cohorts_points, .inr (6, [.ref a_this_cohorts_points_cells])), (a_this_cohorts_points_cells, .inl (cI, n_this_cohorts_points_cells, .inl g_this_cohorts_points_cells)), (a_this_debts, .inr (6, [.ref a_this_debts_cells])), (a_this_debts_cells, .inl (cI, n_this_debts_cells, .inl r22)), (a_this_totals, .inr (6, [.ref a_this_totals_cells])), (a_this_totals_cells, .inl (cI, n_this_totals_cells, .inl r32))]) dX0_credit_32 ml_RX0_166 mi_yX6_increase (fun r32 hr => c_X6_increase l D cI cB cL cO pf 0 a_this_totals a_this_totals_cells n_this_totals_cells g_this_totals_cells (4 : Int32) y12 r32 hr) h [12, 13] rfl rfl rfl rfl rfl ⟨rfl, rfl⟩ ⟨(Nat.le_of_ble_eq_true rfl), (Nat.le_of_ble_eq_true rfl)⟩ ⟨Nat.zero_le _, Nat.zero_le _⟩ (Nat.le_of_ble_eq_true rfl) (fun _ => rfl) (fun _ => rfl) (fun r32 h => ?_)
  refine J_aload_n (pc := 35) C dX0_credit_35 1 rfl ?_
  refine J_get (pc := 36) C dX0_credit_36 jf_X0 0 rfl rfl 1 (by decide) rfl fl_RX0_18 rfl ?_
  refine J_iload_n (pc := 39) C dX0_credit_39 2 rfl ?_
  refine J_iload_n (pc := 40) C dX0_credit_40 3 rfl ?_
  refine J_iconst (v := (-1 : Int32)) (pc := 41) C dX0_credit_41 (by decide) ?_
  refine J_iload_n (pc := 42) C dX0_credit_42 4 rfl ?_
  refine J_iload (pc := 43) C dX0_credit_43 0 rfl ?_
  refine J_isub (pc := 45) C dX0_credit_45 ?_
  refine J_cvw (pc := 46) (As := [.int x1, .int x2, .int (-1 : Int32), .int (x3 - y12)]) (st := []) C (fun r46 => [(a_this, .inr (0, [.ref a_this_setup, .ref a_this_cohorts, .ref a_this_purchases, .ref a_this_diary, .ref a_this_tiers, .ref a_this_belowSince, .ref a_this_debts, .ref a_this_homes, .ref a_this_qualifying, .ref a_this_shares, .ref a_this_redeemed, .ref a_this_totals, .ref a_this_losses, .ref a_this_balances, .ref a_this_standing, .int v_this_day, .int v_this_windowStart])), (a_this_cohorts, .inr (1, [.ref a_this_cohorts_lists, .ref a_this_cohorts_days, .ref a_this_cohorts_contributors, .ref a_this_cohorts_points, .int r46.1])), (a_this_cohorts_lists, .inr (6, [.ref a_this_cohorts_lists_cells])), (a_this_cohorts_lists_cells, .inl (cI, n_this_cohorts_lists_cells, .inl r46.2.1)), (a_this_cohorts_days, .inr (6, [.ref a_this_cohorts_days_cells])), (a_this_cohorts_days_cells, .inl (cI, n_this_cohorts_days_cells, .inl r46.2.2.1)), (a_this_cohorts_contributors, .inr (6, [.ref a_this_cohorts_contributors_cells])), (a_this_cohorts_contributors_cells, .inl (cI, n_this_cohorts_contributors_cells, .inl r46.2.2.2.1)), (a_this_cohorts_points, .inr (6, [.ref a_this_cohorts_points_cells])), (a_this_cohorts_points_cells, .inl (cI, n_this_cohorts_points_cells, .inl r46.2.2.2.2)), (a_this_debts, .inr (6, [.ref a_this_debts_cells])), (a_this_debts_cells, .inl (cI, n_this_debts_cells, .inl r22)), (a_this_totals, .inr (6, [.ref a_this_totals_cells])), (a_this_totals_cells, .inl (cI, n_this_totals_cells, .inl r32))]) dX0_credit_46 ml_RX0_173 mi_yX1_put (fun r46 hr => c_X1_put l D cI cB cL cO pf N a_this_cohorts a_this_cohorts_lists a_this_cohorts_days a_this_cohorts_contributors a_this_cohorts_points a_this_cohorts_lists_cells a_this_cohorts_days_cells a_this_cohorts_contributors_cells a_this_cohorts_points_cells n_this_cohorts_lists_cells n_this_cohorts_days_cells n_this_cohorts_contributors_cells n_this_cohorts_points_cells v_this_cohorts_size g_this_cohorts_lists_cells g_this_cohorts_days_cells g_this_cohorts_contributors_cells g_this_cohorts_points_cells x1 x2 (-1 : Int32) (x3 - y12) r46 hr) h [1, 2, 3, 4, 5, 6, 7, 8, 9] rfl rfl rfl rfl rfl ⟨rfl, rfl⟩ ⟨(Nat.le_of_ble_eq_true rfl), (Nat.le_of_ble_eq_true rfl)⟩ ⟨Nat.zero_le _, Nat.zero_le _⟩ (Nat.le_of_ble_eq_true rfl) (fun _ => rfl) (fun _ => rfl) (fun r46 h => ?_)
  refine J_iload (pc := 49) C dX0_credit_49 0 rfl ?_
  cases h
  exact J_iret (pc := 51) C dX0_credit_51 hr ⟨rfl, rfl⟩
