/-! printed by a program of ours: the law's own methods without handlers -/
-- in
theorem dL_in_0 : decode cL_in 0 = .ok (.iload_n 0, 1) := by decide +kernel
theorem dL_in_1 : decode cL_in 1 = .ok (.ldc 7, 2) := by decide +kernel
theorem dL_in_3 : decode cL_in 3 = .ok (.iand, 1) := by decide +kernel
theorem dL_in_4 : decode cL_in 4 = .ok (.iload_n 1, 1) := by decide +kernel
theorem dL_in_5 : decode cL_in 5 = .ok (.irem, 1) := by decide +kernel
theorem dL_in_6 : decode cL_in 6 = .ok (.ireturn, 1) := by decide +kernel
def f_L_in (x0 : Int32) (x1 : Int32) : Option (Int32) :=
  (if x1 = 0 then none else (some ((x0 &&& (2147483647 : Int32)) - (x0 &&& (2147483647 : Int32)) / x1 * x1)))
set_option maxHeartbeats 4000000 in
set_option maxRecDepth 100000 in
theorem c_L_in (l : Launch) (D : va_G) (cI cB cL cO : ClassId) (pf : Nat → Nat) (N : Nat) (x0 : Int32) (x1 : Int32) (o : Int32) (h : f_L_in x0 x1 = some o) : Ct l D [(cI, .int), (cB, .byte), (cL, .byte), (cO, .object RX0)] pf yL_in cL_in 2 (some FieldType.int) { frames := 0, cells := 0, slots := 0, locals := 0 } [.int x0, .int x1] [] (is1 (some (.int o)) []) := by
  refine Ct_of (own := RL) (lv0 := [(0, .int x0), (1, .int x1)]) (by decide) rfl rfl (Nat.le_of_ble_eq_true rfl) ?_
  intro p e s m args below meth c C hr hnm
  unfold f_L_in at h
  refine J_iload_n (pc := 0) C dL_in_0 0 rfl ?_
  refine J_ldc (pc := 1) C dL_in_1 cw_RL_7 ?_
  refine J_iand (pc := 3) C dL_in_3 ?_
  refine J_iload_n (pc := 4) C dL_in_4 1 rfl ?_
  refine J_irem (pc := 5) C dL_in_5 h (fun h => ?_)
  cases h
  exact J_iret (pc := 6) C dL_in_6 hr ⟨rfl, rfl⟩
-- tiers
theorem dL_tiers_0 : decode cL_tiers 0 = .ok (.iconst 1, 1) := by decide +kernel
theorem dL_tiers_1 : decode cL_tiers 1 = .ok (.aload_n 0, 1) := by decide +kernel
theorem dL_tiers_2 : decode cL_tiers 2 = .ok (.iconst 0, 1) := by decide +kernel
theorem dL_tiers_3 : decode cL_tiers 3 = .ok (.invokestatic 41, 3) := by decide +kernel
theorem dL_tiers_6 : decode cL_tiers 6 = .ok (.iconst 4, 1) := by decide +kernel
theorem dL_tiers_7 : decode cL_tiers 7 = .ok (.invokestatic 45, 3) := by decide +kernel
theorem dL_tiers_10 : decode cL_tiers 10 = .ok (.iadd, 1) := by decide +kernel
theorem dL_tiers_11 : decode cL_tiers 11 = .ok (.ireturn, 1) := by decide +kernel
def f_L_tiers (pf : Nat → Nat) : Option (Int32) :=
  ((f_cell pf (0 : Int32)).bind fun r3 => ((f_L_in r3 (4 : Int32)).bind fun r7 => (some ((1 : Int32) + r7))))
set_option maxHeartbeats 4000000 in
set_option maxRecDepth 100000 in
theorem c_L_tiers (l : Launch) (D : va_G) (cI cB cL cO : ClassId) (pf : Nat → Nat) (N : Nat) (o : Int32) (h : f_L_tiers pf = some o) : Ct l D [(cI, .int), (cB, .byte), (cL, .byte), (cO, .object RX0)] pf yL_tiers cL_tiers 1 (some FieldType.int) { frames := 1, cells := 0, slots := 0, locals := 21 } [.ref (pf 92)] [] (is1 (some (.int o)) []) := by
  refine Ct_of (own := RL) (lv0 := [(0, .ref (pf 92))]) (by decide) rfl rfl (Nat.le_of_ble_eq_true rfl) ?_
  intro p e s m args below meth c C hr hnm
  unfold f_L_tiers at h
  refine J_iconst (v := (1 : Int32)) (pc := 0) C dL_tiers_0 (by decide) ?_
  refine J_aload_n (pc := 1) C dL_tiers_1 0 rfl ?_
  refine J_iconst (v := (0 : Int32)) (pc := 2) C dL_tiers_2 (by decide) ?_
  refine J_csL (b := 0) (pc := 3) (As := [.ref (pf 92), .int (0 : Int32)]) (st := [.int (1 : Int32)]) (V := fun r3 => some (.int r3)) C (fun _ => []) dL_tiers_3 ml_RL_41 mi_yL_cell (fun r hr => c_cell l D cI cB cL cO pf (0 : Int32) r hr) h rfl ⟨rfl, rfl⟩ ⟨(Nat.le_of_ble_eq_true rfl), (Nat.le_of_ble_eq_true rfl)⟩ ⟨Nat.zero_le _, Nat.zero_le _⟩ (Nat.le_of_ble_eq_true rfl) (fun r3 h => ?_)
  refine J_iconst (v := (4 : Int32)) (pc := 6) C dL_tiers_6 (by decide) ?_
  refine J_csL (b := 0) (pc := 7) (As := [.int r3, .int (4 : Int32)]) (st := [.int (1 : Int32)]) (V := fun r7 => some (.int r7)) C (fun _ => []) dL_tiers_7 ml_RL_45 mi_yL_in (fun r hr => c_L_in l D cI cB cL cO pf N r3 (4 : Int32) r hr) h rfl ⟨rfl, rfl⟩ ⟨(Nat.le_of_ble_eq_true rfl), (Nat.le_of_ble_eq_true rfl)⟩ ⟨Nat.zero_le _, Nat.zero_le _⟩ (Nat.le_of_ble_eq_true rfl) (fun r7 h => ?_)
  refine J_iadd (pc := 10) C dL_tiers_10 ?_
  cases h
  exact J_iret (pc := 11) C dL_tiers_11 hr ⟨rfl, rfl⟩
-- threshold
theorem dL_threshold_0 : decode cL_threshold 0 = .ok (.iload_n 1, 1) := by decide +kernel
theorem dL_threshold_1 : decode cL_threshold 1 = .ok (.ifCond .ne 7, 3) := by decide +kernel
theorem dL_threshold_4 : decode cL_threshold 4 = .ok (.iconst 0, 1) := by decide +kernel
theorem dL_threshold_5 : decode cL_threshold 5 = .ok (.goto 19, 3) := by decide +kernel
theorem dL_threshold_8 : decode cL_threshold 8 = .ok (.iload_n 1, 1) := by decide +kernel
theorem dL_threshold_9 : decode cL_threshold 9 = .ok (.bipush 50, 2) := by decide +kernel
theorem dL_threshold_11 : decode cL_threshold 11 = .ok (.aload_n 0, 1) := by decide +kernel
theorem dL_threshold_12 : decode cL_threshold 12 = .ok (.iconst 1, 1) := by decide +kernel
theorem dL_threshold_13 : decode cL_threshold 13 = .ok (.invokestatic 41, 3) := by decide +kernel
theorem dL_threshold_16 : decode cL_threshold 16 = .ok (.sipush 400, 3) := by decide +kernel
theorem dL_threshold_19 : decode cL_threshold 19 = .ok (.invokestatic 45, 3) := by decide +kernel
theorem dL_threshold_22 : decode cL_threshold 22 = .ok (.iadd, 1) := by decide +kernel
theorem dL_threshold_23 : decode cL_threshold 23 = .ok (.imul, 1) := by decide +kernel
theorem dL_threshold_24 : decode cL_threshold 24 = .ok (.ireturn, 1) := by decide +kernel
def f_L_threshold (pf : Nat → Nat) (x1 : Int32) : Option (Int32) :=
  (if x1 = 0 then (some (0 : Int32)) else ((f_cell pf (1 : Int32)).bind fun r13 => ((f_L_in r13 (400 : Int32)).bind fun r19 => (some (x1 * ((50 : Int32) + r19))))))
set_option maxHeartbeats 4000000 in
set_option maxRecDepth 100000 in
theorem c_L_threshold (l : Launch) (D : va_G) (cI cB cL cO : ClassId) (pf : Nat → Nat) (N : Nat) (x1 : Int32) (o : Int32) (h : f_L_threshold pf x1 = some o) : Ct l D [(cI, .int), (cB, .byte), (cL, .byte), (cO, .object RX0)] pf yL_threshold cL_threshold 2 (some FieldType.int) { frames := 1, cells := 0, slots := 0, locals := 21 } [.ref (pf 92), .int x1] [] (is1 (some (.int o)) []) := by
  refine Ct_of (own := RL) (lv0 := [(0, .ref (pf 92)), (1, .int x1)]) (by decide) rfl rfl (Nat.le_of_ble_eq_true rfl) ?_
  intro p e s m args below meth c C hr hnm
  unfold f_L_threshold at h
  refine J_iload_n (pc := 0) C dL_threshold_0 1 rfl ?_
  refine J_if_ne (pc := 1) (tgt := 8) C dL_threshold_1 (by decide) h (fun h => ?_) (fun h => ?_)
  · refine J_iload_n (pc := 8) C dL_threshold_8 1 rfl ?_
    refine J_bipush (v := (50 : Int32)) (pc := 9) C dL_threshold_9 (by decide) ?_
    refine J_aload_n (pc := 11) C dL_threshold_11 0 rfl ?_
    refine J_iconst (v := (1 : Int32)) (pc := 12) C dL_threshold_12 (by decide) ?_
    refine J_csL (b := 0) (pc := 13) (As := [.ref (pf 92), .int (1 : Int32)]) (st := [.int (50 : Int32), .int x1]) (V := fun r13 => some (.int r13)) C (fun _ => []) dL_threshold_13 ml_RL_41 mi_yL_cell (fun r hr => c_cell l D cI cB cL cO pf (1 : Int32) r hr) h rfl ⟨rfl, rfl⟩ ⟨(Nat.le_of_ble_eq_true rfl), (Nat.le_of_ble_eq_true rfl)⟩ ⟨Nat.zero_le _, Nat.zero_le _⟩ (Nat.le_of_ble_eq_true rfl) (fun r13 h => ?_)
    refine J_sipush (v := (400 : Int32)) (pc := 16) C dL_threshold_16 (by decide) ?_
    refine J_csL (b := 0) (pc := 19) (As := [.int r13, .int (400 : Int32)]) (st := [.int (50 : Int32), .int x1]) (V := fun r19 => some (.int r19)) C (fun _ => []) dL_threshold_19 ml_RL_45 mi_yL_in (fun r hr => c_L_in l D cI cB cL cO pf N r13 (400 : Int32) r hr) h rfl ⟨rfl, rfl⟩ ⟨(Nat.le_of_ble_eq_true rfl), (Nat.le_of_ble_eq_true rfl)⟩ ⟨Nat.zero_le _, Nat.zero_le _⟩ (Nat.le_of_ble_eq_true rfl) (fun r19 h => ?_)
    refine J_iadd (pc := 22) C dL_threshold_22 ?_
    refine J_imul (pc := 23) C dL_threshold_23 ?_
    cases h
    exact J_iret (pc := 24) C dL_threshold_24 hr ⟨rfl, rfl⟩
  · refine J_iconst (v := (0 : Int32)) (pc := 4) C dL_threshold_4 (by decide) ?_
    refine J_goto (tgt := 24) (pc := 5) C dL_threshold_5 (by decide) ?_
    cases h
    exact J_iret (pc := 24) C dL_threshold_24 hr ⟨rfl, rfl⟩
-- bonus
theorem dL_bonus_0 : decode cL_bonus 0 = .ok (.aload_n 0, 1) := by decide +kernel
theorem dL_bonus_1 : decode cL_bonus 1 = .ok (.iconst 1, 1) := by decide +kernel
theorem dL_bonus_2 : decode cL_bonus 2 = .ok (.invokestatic 41, 3) := by decide +kernel
theorem dL_bonus_5 : decode cL_bonus 5 = .ok (.bipush 9, 2) := by decide +kernel
theorem dL_bonus_7 : decode cL_bonus 7 = .ok (.iconst 3, 1) := by decide +kernel
theorem dL_bonus_8 : decode cL_bonus 8 = .ok (.iload_n 1, 1) := by decide +kernel
theorem dL_bonus_9 : decode cL_bonus 9 = .ok (.imul, 1) := by decide +kernel
theorem dL_bonus_10 : decode cL_bonus 10 = .ok (.iadd, 1) := by decide +kernel
theorem dL_bonus_11 : decode cL_bonus 11 = .ok (.ishr, 1) := by decide +kernel
theorem dL_bonus_12 : decode cL_bonus 12 = .ok (.sipush 301, 3) := by decide +kernel
theorem dL_bonus_15 : decode cL_bonus 15 = .ok (.invokestatic 45, 3) := by decide +kernel
theorem dL_bonus_18 : decode cL_bonus 18 = .ok (.ireturn, 1) := by decide +kernel
def f_L_bonus (pf : Nat → Nat) (x1 : Int32) : Option (Int32) :=
  ((f_cell pf (1 : Int32)).bind fun r2 => ((f_L_in (r2 >>> (((9 : Int32) + ((3 : Int32) * x1)) &&& 31)) (301 : Int32)).bind fun r15 => (some r15)))
set_option maxHeartbeats 4000000 in
set_option maxRecDepth 100000 in
theorem c_L_bonus (l : Launch) (D : va_G) (cI cB cL cO : ClassId) (pf : Nat → Nat) (N : Nat) (x1 : Int32) (o : Int32) (h : f_L_bonus pf x1 = some o) : Ct l D [(cI, .int), (cB, .byte), (cL, .byte), (cO, .object RX0)] pf yL_bonus cL_bonus 2 (some FieldType.int) { frames := 1, cells := 0, slots := 0, locals := 21 } [.ref (pf 92), .int x1] [] (is1 (some (.int o)) []) := by
  refine Ct_of (own := RL) (lv0 := [(0, .ref (pf 92)), (1, .int x1)]) (by decide) rfl rfl (Nat.le_of_ble_eq_true rfl) ?_
  intro p e s m args below meth c C hr hnm
  unfold f_L_bonus at h
  refine J_aload_n (pc := 0) C dL_bonus_0 0 rfl ?_
  refine J_iconst (v := (1 : Int32)) (pc := 1) C dL_bonus_1 (by decide) ?_
  refine J_csL (b := 0) (pc := 2) (As := [.ref (pf 92), .int (1 : Int32)]) (st := []) (V := fun r2 => some (.int r2)) C (fun _ => []) dL_bonus_2 ml_RL_41 mi_yL_cell (fun r hr => c_cell l D cI cB cL cO pf (1 : Int32) r hr) h rfl ⟨rfl, rfl⟩ ⟨(Nat.le_of_ble_eq_true rfl), (Nat.le_of_ble_eq_true rfl)⟩ ⟨Nat.zero_le _, Nat.zero_le _⟩ (Nat.le_of_ble_eq_true rfl) (fun r2 h => ?_)
  refine J_bipush (v := (9 : Int32)) (pc := 5) C dL_bonus_5 (by decide) ?_
  refine J_iconst (v := (3 : Int32)) (pc := 7) C dL_bonus_7 (by decide) ?_
  refine J_iload_n (pc := 8) C dL_bonus_8 1 rfl ?_
  refine J_imul (pc := 9) C dL_bonus_9 ?_
  refine J_iadd (pc := 10) C dL_bonus_10 ?_
  refine J_ishr (pc := 11) C dL_bonus_11 ?_
  refine J_sipush (v := (301 : Int32)) (pc := 12) C dL_bonus_12 (by decide) ?_
  refine J_csL (b := 0) (pc := 15) (As := [.int (r2 >>> (((9 : Int32) + ((3 : Int32) * x1)) &&& 31)), .int (301 : Int32)]) (st := []) (V := fun r15 => some (.int r15)) C (fun _ => []) dL_bonus_15 ml_RL_45 mi_yL_in (fun r hr => c_L_in l D cI cB cL cO pf N (r2 >>> (((9 : Int32) + ((3 : Int32) * x1)) &&& 31)) (301 : Int32) r hr) h rfl ⟨rfl, rfl⟩ ⟨(Nat.le_of_ble_eq_true rfl), (Nat.le_of_ble_eq_true rfl)⟩ ⟨Nat.zero_le _, Nat.zero_le _⟩ (Nat.le_of_ble_eq_true rfl) (fun r15 h => ?_)
  cases h
  exact J_iret (pc := 18) C dL_bonus_18 hr ⟨rfl, rfl⟩
-- categories
theorem dL_categories_0 : decode cL_categories 0 = .ok (.iconst 1, 1) := by decide +kernel
theorem dL_categories_1 : decode cL_categories 1 = .ok (.aload_n 0, 1) := by decide +kernel
theorem dL_categories_2 : decode cL_categories 2 = .ok (.iconst 0, 1) := by decide +kernel
theorem dL_categories_3 : decode cL_categories 3 = .ok (.invokestatic 41, 3) := by decide +kernel
theorem dL_categories_6 : decode cL_categories 6 = .ok (.iconst 2, 1) := by decide +kernel
theorem dL_categories_7 : decode cL_categories 7 = .ok (.ishr, 1) := by decide +kernel
theorem dL_categories_8 : decode cL_categories 8 = .ok (.iconst 3, 1) := by decide +kernel
theorem dL_categories_9 : decode cL_categories 9 = .ok (.invokestatic 45, 3) := by decide +kernel
theorem dL_categories_12 : decode cL_categories 12 = .ok (.iadd, 1) := by decide +kernel
theorem dL_categories_13 : decode cL_categories 13 = .ok (.ireturn, 1) := by decide +kernel
def f_L_categories (pf : Nat → Nat) : Option (Int32) :=
  ((f_cell pf (0 : Int32)).bind fun r3 => ((f_L_in (r3 >>> ((2 : Int32) &&& 31)) (3 : Int32)).bind fun r9 => (some ((1 : Int32) + r9))))
set_option maxHeartbeats 4000000 in
set_option maxRecDepth 100000 in
theorem c_L_categories (l : Launch) (D : va_G) (cI cB cL cO : ClassId) (pf : Nat → Nat) (N : Nat) (o : Int32) (h : f_L_categories pf = some o) : Ct l D [(cI, .int), (cB, .byte), (cL, .byte), (cO, .object RX0)] pf yL_categories cL_categories 1 (some FieldType.int) { frames := 1, cells := 0, slots := 0, locals := 21 } [.ref (pf 92)] [] (is1 (some (.int o)) []) := by
  refine Ct_of (own := RL) (lv0 := [(0, .ref (pf 92))]) (by decide) rfl rfl (Nat.le_of_ble_eq_true rfl) ?_
  intro p e s m args below meth c C hr hnm
  unfold f_L_categories at h
  refine J_iconst (v := (1 : Int32)) (pc := 0) C dL_categories_0 (by decide) ?_
  refine J_aload_n (pc := 1) C dL_categories_1 0 rfl ?_
  refine J_iconst (v := (0 : Int32)) (pc := 2) C dL_categories_2 (by decide) ?_
  refine J_csL (b := 0) (pc := 3) (As := [.ref (pf 92), .int (0 : Int32)]) (st := [.int (1 : Int32)]) (V := fun r3 => some (.int r3)) C (fun _ => []) dL_categories_3 ml_RL_41 mi_yL_cell (fun r hr => c_cell l D cI cB cL cO pf (0 : Int32) r hr) h rfl ⟨rfl, rfl⟩ ⟨(Nat.le_of_ble_eq_true rfl), (Nat.le_of_ble_eq_true rfl)⟩ ⟨Nat.zero_le _, Nat.zero_le _⟩ (Nat.le_of_ble_eq_true rfl) (fun r3 h => ?_)
  refine J_iconst (v := (2 : Int32)) (pc := 6) C dL_categories_6 (by decide) ?_
  refine J_ishr (pc := 7) C dL_categories_7 ?_
  refine J_iconst (v := (3 : Int32)) (pc := 8) C dL_categories_8 (by decide) ?_
  refine J_csL (b := 0) (pc := 9) (As := [.int (r3 >>> ((2 : Int32) &&& 31)), .int (3 : Int32)]) (st := [.int (1 : Int32)]) (V := fun r9 => some (.int r9)) C (fun _ => []) dL_categories_9 ml_RL_45 mi_yL_in (fun r hr => c_L_in l D cI cB cL cO pf N (r3 >>> ((2 : Int32) &&& 31)) (3 : Int32) r hr) h rfl ⟨rfl, rfl⟩ ⟨(Nat.le_of_ble_eq_true rfl), (Nat.le_of_ble_eq_true rfl)⟩ ⟨Nat.zero_le _, Nat.zero_le _⟩ (Nat.le_of_ble_eq_true rfl) (fun r9 h => ?_)
  refine J_iadd (pc := 12) C dL_categories_12 ?_
  cases h
  exact J_iret (pc := 13) C dL_categories_13 hr ⟨rfl, rfl⟩
-- rate
theorem dL_rate_0 : decode cL_rate 0 = .ok (.aload_n 0, 1) := by decide +kernel
theorem dL_rate_1 : decode cL_rate 1 = .ok (.iconst 2, 1) := by decide +kernel
theorem dL_rate_2 : decode cL_rate 2 = .ok (.invokestatic 41, 3) := by decide +kernel
theorem dL_rate_5 : decode cL_rate 5 = .ok (.bipush 6, 2) := by decide +kernel
theorem dL_rate_7 : decode cL_rate 7 = .ok (.iload_n 1, 1) := by decide +kernel
theorem dL_rate_8 : decode cL_rate 8 = .ok (.imul, 1) := by decide +kernel
theorem dL_rate_9 : decode cL_rate 9 = .ok (.ishr, 1) := by decide +kernel
theorem dL_rate_10 : decode cL_rate 10 = .ok (.bipush 51, 2) := by decide +kernel
theorem dL_rate_12 : decode cL_rate 12 = .ok (.invokestatic 45, 3) := by decide +kernel
theorem dL_rate_15 : decode cL_rate 15 = .ok (.ireturn, 1) := by decide +kernel
def f_L_rate (pf : Nat → Nat) (x1 : Int32) : Option (Int32) :=
  ((f_cell pf (2 : Int32)).bind fun r2 => ((f_L_in (r2 >>> (((6 : Int32) * x1) &&& 31)) (51 : Int32)).bind fun r12 => (some r12)))
set_option maxHeartbeats 4000000 in
set_option maxRecDepth 100000 in
theorem c_L_rate (l : Launch) (D : va_G) (cI cB cL cO : ClassId) (pf : Nat → Nat) (N : Nat) (x1 : Int32) (o : Int32) (h : f_L_rate pf x1 = some o) : Ct l D [(cI, .int), (cB, .byte), (cL, .byte), (cO, .object RX0)] pf yL_rate cL_rate 2 (some FieldType.int) { frames := 1, cells := 0, slots := 0, locals := 21 } [.ref (pf 92), .int x1] [] (is1 (some (.int o)) []) := by
  refine Ct_of (own := RL) (lv0 := [(0, .ref (pf 92)), (1, .int x1)]) (by decide) rfl rfl (Nat.le_of_ble_eq_true rfl) ?_
  intro p e s m args below meth c C hr hnm
  unfold f_L_rate at h
  refine J_aload_n (pc := 0) C dL_rate_0 0 rfl ?_
  refine J_iconst (v := (2 : Int32)) (pc := 1) C dL_rate_1 (by decide) ?_
  refine J_csL (b := 0) (pc := 2) (As := [.ref (pf 92), .int (2 : Int32)]) (st := []) (V := fun r2 => some (.int r2)) C (fun _ => []) dL_rate_2 ml_RL_41 mi_yL_cell (fun r hr => c_cell l D cI cB cL cO pf (2 : Int32) r hr) h rfl ⟨rfl, rfl⟩ ⟨(Nat.le_of_ble_eq_true rfl), (Nat.le_of_ble_eq_true rfl)⟩ ⟨Nat.zero_le _, Nat.zero_le _⟩ (Nat.le_of_ble_eq_true rfl) (fun r2 h => ?_)
  refine J_bipush (v := (6 : Int32)) (pc := 5) C dL_rate_5 (by decide) ?_
  refine J_iload_n (pc := 7) C dL_rate_7 1 rfl ?_
  refine J_imul (pc := 8) C dL_rate_8 ?_
  refine J_ishr (pc := 9) C dL_rate_9 ?_
  refine J_bipush (v := (51 : Int32)) (pc := 10) C dL_rate_10 (by decide) ?_
  refine J_csL (b := 0) (pc := 12) (As := [.int (r2 >>> (((6 : Int32) * x1) &&& 31)), .int (51 : Int32)]) (st := []) (V := fun r12 => some (.int r12)) C (fun _ => []) dL_rate_12 ml_RL_45 mi_yL_in (fun r hr => c_L_in l D cI cB cL cO pf N (r2 >>> (((6 : Int32) * x1) &&& 31)) (51 : Int32) r hr) h rfl ⟨rfl, rfl⟩ ⟨(Nat.le_of_ble_eq_true rfl), (Nat.le_of_ble_eq_true rfl)⟩ ⟨Nat.zero_le _, Nat.zero_le _⟩ (Nat.le_of_ble_eq_true rfl) (fun r12 h => ?_)
  cases h
  exact J_iret (pc := 15) C dL_rate_15 hr ⟨rfl, rfl⟩
-- cap
theorem dL_cap_0 : decode cL_cap 0 = .ok (.aload_n 0, 1) := by decide +kernel
theorem dL_cap_1 : decode cL_cap 1 = .ok (.iconst 2, 1) := by decide +kernel
theorem dL_cap_2 : decode cL_cap 2 = .ok (.invokestatic 41, 3) := by decide +kernel
theorem dL_cap_5 : decode cL_cap 5 = .ok (.bipush 20, 2) := by decide +kernel
theorem dL_cap_7 : decode cL_cap 7 = .ok (.ishr, 1) := by decide +kernel
theorem dL_cap_8 : decode cL_cap 8 = .ok (.iconst 2, 1) := by decide +kernel
theorem dL_cap_9 : decode cL_cap 9 = .ok (.invokestatic 45, 3) := by decide +kernel
theorem dL_cap_12 : decode cL_cap 12 = .ok (.ifCond .ne 7, 3) := by decide +kernel
theorem dL_cap_15 : decode cL_cap 15 = .ok (.iconst 0, 1) := by decide +kernel
theorem dL_cap_16 : decode cL_cap 16 = .ok (.goto 18, 3) := by decide +kernel
theorem dL_cap_19 : decode cL_cap 19 = .ok (.aload_n 0, 1) := by decide +kernel
theorem dL_cap_20 : decode cL_cap 20 = .ok (.iconst 3, 1) := by decide +kernel
theorem dL_cap_21 : decode cL_cap 21 = .ok (.invokestatic 41, 3) := by decide +kernel
theorem dL_cap_24 : decode cL_cap 24 = .ok (.iconst 5, 1) := by decide +kernel
theorem dL_cap_25 : decode cL_cap 25 = .ok (.iload_n 1, 1) := by decide +kernel
theorem dL_cap_26 : decode cL_cap 26 = .ok (.imul, 1) := by decide +kernel
theorem dL_cap_27 : decode cL_cap 27 = .ok (.ishr, 1) := by decide +kernel
theorem dL_cap_28 : decode cL_cap 28 = .ok (.sipush 3000, 3) := by decide +kernel
theorem dL_cap_31 : decode cL_cap 31 = .ok (.invokestatic 45, 3) := by decide +kernel
theorem dL_cap_34 : decode cL_cap 34 = .ok (.ireturn, 1) := by decide +kernel
def f_L_cap (pf : Nat → Nat) (x1 : Int32) : Option (Int32) :=
  ((f_cell pf (2 : Int32)).bind fun r2 => ((f_L_in (r2 >>> ((20 : Int32) &&& 31)) (2 : Int32)).bind fun r9 => (if r9 = 0 then (some (0 : Int32)) else ((f_cell pf (3 : Int32)).bind fun r21 => ((f_L_in (r21 >>> (((5 : Int32) * x1) &&& 31)) (3000 : Int32)).bind fun r31 => (some r31))))))
set_option maxHeartbeats 4000000 in
set_option maxRecDepth 100000 in
theorem c_L_cap (l : Launch) (D : va_G) (cI cB cL cO : ClassId) (pf : Nat → Nat) (N : Nat) (x1 : Int32) (o : Int32) (h : f_L_cap pf x1 = some o) : Ct l D [(cI, .int), (cB, .byte), (cL, .byte), (cO, .object RX0)] pf yL_cap cL_cap 2 (some FieldType.int) { frames := 1, cells := 0, slots := 0, locals := 21 } [.ref (pf 92), .int x1] [] (is1 (some (.int o)) []) := by
  refine Ct_of (own := RL) (lv0 := [(0, .ref (pf 92)), (1, .int x1)]) (by decide) rfl rfl (Nat.le_of_ble_eq_true rfl) ?_
  intro p e s m args below meth c C hr hnm
  unfold f_L_cap at h
  refine J_aload_n (pc := 0) C dL_cap_0 0 rfl ?_
  refine J_iconst (v := (2 : Int32)) (pc := 1) C dL_cap_1 (by decide) ?_
  refine J_csL (b := 0) (pc := 2) (As := [.ref (pf 92), .int (2 : Int32)]) (st := []) (V := fun r2 => some (.int r2)) C (fun _ => []) dL_cap_2 ml_RL_41 mi_yL_cell (fun r hr => c_cell l D cI cB cL cO pf (2 : Int32) r hr) h rfl ⟨rfl, rfl⟩ ⟨(Nat.le_of_ble_eq_true rfl), (Nat.le_of_ble_eq_true rfl)⟩ ⟨Nat.zero_le _, Nat.zero_le _⟩ (Nat.le_of_ble_eq_true rfl) (fun r2 h => ?_)
  refine J_bipush (v := (20 : Int32)) (pc := 5) C dL_cap_5 (by decide) ?_
  refine J_ishr (pc := 7) C dL_cap_7 ?_
  refine J_iconst (v := (2 : Int32)) (pc := 8) C dL_cap_8 (by decide) ?_
  refine J_csL (b := 0) (pc := 9) (As := [.int (r2 >>> ((20 : Int32) &&& 31)), .int (2 : Int32)]) (st := []) (V := fun r9 => some (.int r9)) C (fun _ => []) dL_cap_9 ml_RL_45 mi_yL_in (fun r hr => c_L_in l D cI cB cL cO pf N (r2 >>> ((20 : Int32) &&& 31)) (2 : Int32) r hr) h rfl ⟨rfl, rfl⟩ ⟨(Nat.le_of_ble_eq_true rfl), (Nat.le_of_ble_eq_true rfl)⟩ ⟨Nat.zero_le _, Nat.zero_le _⟩ (Nat.le_of_ble_eq_true rfl) (fun r9 h => ?_)
  refine J_if_ne (pc := 12) (tgt := 19) C dL_cap_12 (by decide) h (fun h => ?_) (fun h => ?_)
  · refine J_aload_n (pc := 19) C dL_cap_19 0 rfl ?_
    refine J_iconst (v := (3 : Int32)) (pc := 20) C dL_cap_20 (by decide) ?_
    refine J_csL (b := 0) (pc := 21) (As := [.ref (pf 92), .int (3 : Int32)]) (st := []) (V := fun r21 => some (.int r21)) C (fun _ => []) dL_cap_21 ml_RL_41 mi_yL_cell (fun r hr => c_cell l D cI cB cL cO pf (3 : Int32) r hr) h rfl ⟨rfl, rfl⟩ ⟨(Nat.le_of_ble_eq_true rfl), (Nat.le_of_ble_eq_true rfl)⟩ ⟨Nat.zero_le _, Nat.zero_le _⟩ (Nat.le_of_ble_eq_true rfl) (fun r21 h => ?_)
    refine J_iconst (v := (5 : Int32)) (pc := 24) C dL_cap_24 (by decide) ?_
    refine J_iload_n (pc := 25) C dL_cap_25 1 rfl ?_
    refine J_imul (pc := 26) C dL_cap_26 ?_
    refine J_ishr (pc := 27) C dL_cap_27 ?_
    refine J_sipush (v := (3000 : Int32)) (pc := 28) C dL_cap_28 (by decide) ?_
    refine J_csL (b := 0) (pc := 31) (As := [.int (r21 >>> (((5 : Int32) * x1) &&& 31)), .int (3000 : Int32)]) (st := []) (V := fun r31 => some (.int r31)) C (fun _ => []) dL_cap_31 ml_RL_45 mi_yL_in (fun r hr => c_L_in l D cI cB cL cO pf N (r21 >>> (((5 : Int32) * x1) &&& 31)) (3000 : Int32) r hr) h rfl ⟨rfl, rfl⟩ ⟨(Nat.le_of_ble_eq_true rfl), (Nat.le_of_ble_eq_true rfl)⟩ ⟨Nat.zero_le _, Nat.zero_le _⟩ (Nat.le_of_ble_eq_true rfl) (fun r31 h => ?_)
    cases h
    exact J_iret (pc := 34) C dL_cap_34 hr ⟨rfl, rfl⟩
  · refine J_iconst (v := (0 : Int32)) (pc := 15) C dL_cap_15 (by decide) ?_
    refine J_goto (tgt := 34) (pc := 16) C dL_cap_16 (by decide) ?_
    cases h
    exact J_iret (pc := 34) C dL_cap_34 hr ⟨rfl, rfl⟩
-- members
theorem dL_members_0 : decode cL_members 0 = .ok (.iconst 2, 1) := by decide +kernel
theorem dL_members_1 : decode cL_members 1 = .ok (.aload_n 0, 1) := by decide +kernel
theorem dL_members_2 : decode cL_members 2 = .ok (.iconst 0, 1) := by decide +kernel
theorem dL_members_3 : decode cL_members 3 = .ok (.invokestatic 41, 3) := by decide +kernel
theorem dL_members_6 : decode cL_members 6 = .ok (.iconst 5, 1) := by decide +kernel
theorem dL_members_7 : decode cL_members 7 = .ok (.ishr, 1) := by decide +kernel
theorem dL_members_8 : decode cL_members 8 = .ok (.iconst 3, 1) := by decide +kernel
theorem dL_members_9 : decode cL_members 9 = .ok (.invokestatic 45, 3) := by decide +kernel
theorem dL_members_12 : decode cL_members 12 = .ok (.iadd, 1) := by decide +kernel
theorem dL_members_13 : decode cL_members 13 = .ok (.ireturn, 1) := by decide +kernel
def f_L_members (pf : Nat → Nat) : Option (Int32) :=
  ((f_cell pf (0 : Int32)).bind fun r3 => ((f_L_in (r3 >>> ((5 : Int32) &&& 31)) (3 : Int32)).bind fun r9 => (some ((2 : Int32) + r9))))
set_option maxHeartbeats 4000000 in
set_option maxRecDepth 100000 in
theorem c_L_members (l : Launch) (D : va_G) (cI cB cL cO : ClassId) (pf : Nat → Nat) (N : Nat) (o : Int32) (h : f_L_members pf = some o) : Ct l D [(cI, .int), (cB, .byte), (cL, .byte), (cO, .object RX0)] pf yL_members cL_members 1 (some FieldType.int) { frames := 1, cells := 0, slots := 0, locals := 21 } [.ref (pf 92)] [] (is1 (some (.int o)) []) := by
  refine Ct_of (own := RL) (lv0 := [(0, .ref (pf 92))]) (by decide) rfl rfl (Nat.le_of_ble_eq_true rfl) ?_
  intro p e s m args below meth c C hr hnm
  unfold f_L_members at h
  refine J_iconst (v := (2 : Int32)) (pc := 0) C dL_members_0 (by decide) ?_
  refine J_aload_n (pc := 1) C dL_members_1 0 rfl ?_
  refine J_iconst (v := (0 : Int32)) (pc := 2) C dL_members_2 (by decide) ?_
  refine J_csL (b := 0) (pc := 3) (As := [.ref (pf 92), .int (0 : Int32)]) (st := [.int (2 : Int32)]) (V := fun r3 => some (.int r3)) C (fun _ => []) dL_members_3 ml_RL_41 mi_yL_cell (fun r hr => c_cell l D cI cB cL cO pf (0 : Int32) r hr) h rfl ⟨rfl, rfl⟩ ⟨(Nat.le_of_ble_eq_true rfl), (Nat.le_of_ble_eq_true rfl)⟩ ⟨Nat.zero_le _, Nat.zero_le _⟩ (Nat.le_of_ble_eq_true rfl) (fun r3 h => ?_)
  refine J_iconst (v := (5 : Int32)) (pc := 6) C dL_members_6 (by decide) ?_
  refine J_ishr (pc := 7) C dL_members_7 ?_
  refine J_iconst (v := (3 : Int32)) (pc := 8) C dL_members_8 (by decide) ?_
  refine J_csL (b := 0) (pc := 9) (As := [.int (r3 >>> ((5 : Int32) &&& 31)), .int (3 : Int32)]) (st := [.int (2 : Int32)]) (V := fun r9 => some (.int r9)) C (fun _ => []) dL_members_9 ml_RL_45 mi_yL_in (fun r hr => c_L_in l D cI cB cL cO pf N (r3 >>> ((5 : Int32) &&& 31)) (3 : Int32) r hr) h rfl ⟨rfl, rfl⟩ ⟨(Nat.le_of_ble_eq_true rfl), (Nat.le_of_ble_eq_true rfl)⟩ ⟨Nat.zero_le _, Nat.zero_le _⟩ (Nat.le_of_ble_eq_true rfl) (fun r9 h => ?_)
  refine J_iadd (pc := 12) C dL_members_12 ?_
  cases h
  exact J_iret (pc := 13) C dL_members_13 hr ⟨rfl, rfl⟩
-- share
theorem dL_share_0 : decode cL_share 0 = .ok (.aload_n 0, 1) := by decide +kernel
theorem dL_share_1 : decode cL_share 1 = .ok (.iconst 3, 1) := by decide +kernel
theorem dL_share_2 : decode cL_share 2 = .ok (.invokestatic 41, 3) := by decide +kernel
theorem dL_share_5 : decode cL_share 5 = .ok (.bipush 16, 2) := by decide +kernel
theorem dL_share_7 : decode cL_share 7 = .ok (.ishr, 1) := by decide +kernel
theorem dL_share_8 : decode cL_share 8 = .ok (.bipush 101, 2) := by decide +kernel
theorem dL_share_10 : decode cL_share 10 = .ok (.invokestatic 45, 3) := by decide +kernel
theorem dL_share_13 : decode cL_share 13 = .ok (.ireturn, 1) := by decide +kernel
def f_L_share (pf : Nat → Nat) : Option (Int32) :=
  ((f_cell pf (3 : Int32)).bind fun r2 => ((f_L_in (r2 >>> ((16 : Int32) &&& 31)) (101 : Int32)).bind fun r10 => (some r10)))
set_option maxHeartbeats 4000000 in
set_option maxRecDepth 100000 in
theorem c_L_share (l : Launch) (D : va_G) (cI cB cL cO : ClassId) (pf : Nat → Nat) (N : Nat) (o : Int32) (h : f_L_share pf = some o) : Ct l D [(cI, .int), (cB, .byte), (cL, .byte), (cO, .object RX0)] pf yL_share cL_share 1 (some FieldType.int) { frames := 1, cells := 0, slots := 0, locals := 21 } [.ref (pf 92)] [] (is1 (some (.int o)) []) := by
  refine Ct_of (own := RL) (lv0 := [(0, .ref (pf 92))]) (by decide) rfl rfl (Nat.le_of_ble_eq_true rfl) ?_
  intro p e s m args below meth c C hr hnm
  unfold f_L_share at h
  refine J_aload_n (pc := 0) C dL_share_0 0 rfl ?_
  refine J_iconst (v := (3 : Int32)) (pc := 1) C dL_share_1 (by decide) ?_
  refine J_csL (b := 0) (pc := 2) (As := [.ref (pf 92), .int (3 : Int32)]) (st := []) (V := fun r2 => some (.int r2)) C (fun _ => []) dL_share_2 ml_RL_41 mi_yL_cell (fun r hr => c_cell l D cI cB cL cO pf (3 : Int32) r hr) h rfl ⟨rfl, rfl⟩ ⟨(Nat.le_of_ble_eq_true rfl), (Nat.le_of_ble_eq_true rfl)⟩ ⟨Nat.zero_le _, Nat.zero_le _⟩ (Nat.le_of_ble_eq_true rfl) (fun r2 h => ?_)
  refine J_bipush (v := (16 : Int32)) (pc := 5) C dL_share_5 (by decide) ?_
  refine J_ishr (pc := 7) C dL_share_7 ?_
  refine J_bipush (v := (101 : Int32)) (pc := 8) C dL_share_8 (by decide) ?_
  refine J_csL (b := 0) (pc := 10) (As := [.int (r2 >>> ((16 : Int32) &&& 31)), .int (101 : Int32)]) (st := []) (V := fun r10 => some (.int r10)) C (fun _ => []) dL_share_10 ml_RL_45 mi_yL_in (fun r hr => c_L_in l D cI cB cL cO pf N (r2 >>> ((16 : Int32) &&& 31)) (101 : Int32) r hr) h rfl ⟨rfl, rfl⟩ ⟨(Nat.le_of_ble_eq_true rfl), (Nat.le_of_ble_eq_true rfl)⟩ ⟨Nat.zero_le _, Nat.zero_le _⟩ (Nat.le_of_ble_eq_true rfl) (fun r10 h => ?_)
  cases h
  exact J_iret (pc := 13) C dL_share_13 hr ⟨rfl, rfl⟩
-- life
theorem dL_life_0 : decode cL_life 0 = .ok (.iconst 1, 1) := by decide +kernel
theorem dL_life_1 : decode cL_life 1 = .ok (.aload_n 0, 1) := by decide +kernel
theorem dL_life_2 : decode cL_life 2 = .ok (.iconst 4, 1) := by decide +kernel
theorem dL_life_3 : decode cL_life 3 = .ok (.invokestatic 41, 3) := by decide +kernel
theorem dL_life_6 : decode cL_life 6 = .ok (.bipush 60, 2) := by decide +kernel
theorem dL_life_8 : decode cL_life 8 = .ok (.invokestatic 45, 3) := by decide +kernel
theorem dL_life_11 : decode cL_life 11 = .ok (.iadd, 1) := by decide +kernel
theorem dL_life_12 : decode cL_life 12 = .ok (.ireturn, 1) := by decide +kernel
def f_L_life (pf : Nat → Nat) : Option (Int32) :=
  ((f_cell pf (4 : Int32)).bind fun r3 => ((f_L_in r3 (60 : Int32)).bind fun r8 => (some ((1 : Int32) + r8))))
set_option maxHeartbeats 4000000 in
set_option maxRecDepth 100000 in
theorem c_L_life (l : Launch) (D : va_G) (cI cB cL cO : ClassId) (pf : Nat → Nat) (N : Nat) (o : Int32) (h : f_L_life pf = some o) : Ct l D [(cI, .int), (cB, .byte), (cL, .byte), (cO, .object RX0)] pf yL_life cL_life 1 (some FieldType.int) { frames := 1, cells := 0, slots := 0, locals := 21 } [.ref (pf 92)] [] (is1 (some (.int o)) []) := by
  refine Ct_of (own := RL) (lv0 := [(0, .ref (pf 92))]) (by decide) rfl rfl (Nat.le_of_ble_eq_true rfl) ?_
  intro p e s m args below meth c C hr hnm
  unfold f_L_life at h
  refine J_iconst (v := (1 : Int32)) (pc := 0) C dL_life_0 (by decide) ?_
  refine J_aload_n (pc := 1) C dL_life_1 0 rfl ?_
  refine J_iconst (v := (4 : Int32)) (pc := 2) C dL_life_2 (by decide) ?_
  refine J_csL (b := 0) (pc := 3) (As := [.ref (pf 92), .int (4 : Int32)]) (st := [.int (1 : Int32)]) (V := fun r3 => some (.int r3)) C (fun _ => []) dL_life_3 ml_RL_41 mi_yL_cell (fun r hr => c_cell l D cI cB cL cO pf (4 : Int32) r hr) h rfl ⟨rfl, rfl⟩ ⟨(Nat.le_of_ble_eq_true rfl), (Nat.le_of_ble_eq_true rfl)⟩ ⟨Nat.zero_le _, Nat.zero_le _⟩ (Nat.le_of_ble_eq_true rfl) (fun r3 h => ?_)
  refine J_bipush (v := (60 : Int32)) (pc := 6) C dL_life_6 (by decide) ?_
  refine J_csL (b := 0) (pc := 8) (As := [.int r3, .int (60 : Int32)]) (st := [.int (1 : Int32)]) (V := fun r8 => some (.int r8)) C (fun _ => []) dL_life_8 ml_RL_45 mi_yL_in (fun r hr => c_L_in l D cI cB cL cO pf N r3 (60 : Int32) r hr) h rfl ⟨rfl, rfl⟩ ⟨(Nat.le_of_ble_eq_true rfl), (Nat.le_of_ble_eq_true rfl)⟩ ⟨Nat.zero_le _, Nat.zero_le _⟩ (Nat.le_of_ble_eq_true rfl) (fun r8 h => ?_)
  refine J_iadd (pc := 11) C dL_life_11 ?_
  cases h
  exact J_iret (pc := 12) C dL_life_12 hr ⟨rfl, rfl⟩
-- window
theorem dL_window_0 : decode cL_window 0 = .ok (.iconst 1, 1) := by decide +kernel
theorem dL_window_1 : decode cL_window 1 = .ok (.aload_n 0, 1) := by decide +kernel
theorem dL_window_2 : decode cL_window 2 = .ok (.iconst 4, 1) := by decide +kernel
theorem dL_window_3 : decode cL_window 3 = .ok (.invokestatic 41, 3) := by decide +kernel
theorem dL_window_6 : decode cL_window 6 = .ok (.bipush 8, 2) := by decide +kernel
theorem dL_window_8 : decode cL_window 8 = .ok (.ishr, 1) := by decide +kernel
theorem dL_window_9 : decode cL_window 9 = .ok (.bipush 40, 2) := by decide +kernel
theorem dL_window_11 : decode cL_window 11 = .ok (.invokestatic 45, 3) := by decide +kernel
theorem dL_window_14 : decode cL_window 14 = .ok (.iadd, 1) := by decide +kernel
theorem dL_window_15 : decode cL_window 15 = .ok (.ireturn, 1) := by decide +kernel
def f_L_window (pf : Nat → Nat) : Option (Int32) :=
  ((f_cell pf (4 : Int32)).bind fun r3 => ((f_L_in (r3 >>> ((8 : Int32) &&& 31)) (40 : Int32)).bind fun r11 => (some ((1 : Int32) + r11))))
set_option maxHeartbeats 4000000 in
set_option maxRecDepth 100000 in
theorem c_L_window (l : Launch) (D : va_G) (cI cB cL cO : ClassId) (pf : Nat → Nat) (N : Nat) (o : Int32) (h : f_L_window pf = some o) : Ct l D [(cI, .int), (cB, .byte), (cL, .byte), (cO, .object RX0)] pf yL_window cL_window 1 (some FieldType.int) { frames := 1, cells := 0, slots := 0, locals := 21 } [.ref (pf 92)] [] (is1 (some (.int o)) []) := by
  refine Ct_of (own := RL) (lv0 := [(0, .ref (pf 92))]) (by decide) rfl rfl (Nat.le_of_ble_eq_true rfl) ?_
  intro p e s m args below meth c C hr hnm
  unfold f_L_window at h
  refine J_iconst (v := (1 : Int32)) (pc := 0) C dL_window_0 (by decide) ?_
  refine J_aload_n (pc := 1) C dL_window_1 0 rfl ?_
  refine J_iconst (v := (4 : Int32)) (pc := 2) C dL_window_2 (by decide) ?_
  refine J_csL (b := 0) (pc := 3) (As := [.ref (pf 92), .int (4 : Int32)]) (st := [.int (1 : Int32)]) (V := fun r3 => some (.int r3)) C (fun _ => []) dL_window_3 ml_RL_41 mi_yL_cell (fun r hr => c_cell l D cI cB cL cO pf (4 : Int32) r hr) h rfl ⟨rfl, rfl⟩ ⟨(Nat.le_of_ble_eq_true rfl), (Nat.le_of_ble_eq_true rfl)⟩ ⟨Nat.zero_le _, Nat.zero_le _⟩ (Nat.le_of_ble_eq_true rfl) (fun r3 h => ?_)
  refine J_bipush (v := (8 : Int32)) (pc := 6) C dL_window_6 (by decide) ?_
  refine J_ishr (pc := 8) C dL_window_8 ?_
  refine J_bipush (v := (40 : Int32)) (pc := 9) C dL_window_9 (by decide) ?_
  refine J_csL (b := 0) (pc := 11) (As := [.int (r3 >>> ((8 : Int32) &&& 31)), .int (40 : Int32)]) (st := [.int (1 : Int32)]) (V := fun r11 => some (.int r11)) C (fun _ => []) dL_window_11 ml_RL_45 mi_yL_in (fun r hr => c_L_in l D cI cB cL cO pf N (r3 >>> ((8 : Int32) &&& 31)) (40 : Int32) r hr) h rfl ⟨rfl, rfl⟩ ⟨(Nat.le_of_ble_eq_true rfl), (Nat.le_of_ble_eq_true rfl)⟩ ⟨Nat.zero_le _, Nat.zero_le _⟩ (Nat.le_of_ble_eq_true rfl) (fun r11 h => ?_)
  refine J_iadd (pc := 14) C dL_window_14 ?_
  cases h
  exact J_iret (pc := 15) C dL_window_15 hr ⟨rfl, rfl⟩
-- grace
theorem dL_grace_0 : decode cL_grace 0 = .ok (.aload_n 0, 1) := by decide +kernel
theorem dL_grace_1 : decode cL_grace 1 = .ok (.iconst 4, 1) := by decide +kernel
theorem dL_grace_2 : decode cL_grace 2 = .ok (.invokestatic 41, 3) := by decide +kernel
theorem dL_grace_5 : decode cL_grace 5 = .ok (.bipush 16, 2) := by decide +kernel
theorem dL_grace_7 : decode cL_grace 7 = .ok (.ishr, 1) := by decide +kernel
theorem dL_grace_8 : decode cL_grace 8 = .ok (.bipush 12, 2) := by decide +kernel
theorem dL_grace_10 : decode cL_grace 10 = .ok (.invokestatic 45, 3) := by decide +kernel
theorem dL_grace_13 : decode cL_grace 13 = .ok (.ireturn, 1) := by decide +kernel
def f_L_grace (pf : Nat → Nat) : Option (Int32) :=
  ((f_cell pf (4 : Int32)).bind fun r2 => ((f_L_in (r2 >>> ((16 : Int32) &&& 31)) (12 : Int32)).bind fun r10 => (some r10)))
set_option maxHeartbeats 4000000 in
set_option maxRecDepth 100000 in
theorem c_L_grace (l : Launch) (D : va_G) (cI cB cL cO : ClassId) (pf : Nat → Nat) (N : Nat) (o : Int32) (h : f_L_grace pf = some o) : Ct l D [(cI, .int), (cB, .byte), (cL, .byte), (cO, .object RX0)] pf yL_grace cL_grace 1 (some FieldType.int) { frames := 1, cells := 0, slots := 0, locals := 21 } [.ref (pf 92)] [] (is1 (some (.int o)) []) := by
  refine Ct_of (own := RL) (lv0 := [(0, .ref (pf 92))]) (by decide) rfl rfl (Nat.le_of_ble_eq_true rfl) ?_
  intro p e s m args below meth c C hr hnm
  unfold f_L_grace at h
  refine J_aload_n (pc := 0) C dL_grace_0 0 rfl ?_
  refine J_iconst (v := (4 : Int32)) (pc := 1) C dL_grace_1 (by decide) ?_
  refine J_csL (b := 0) (pc := 2) (As := [.ref (pf 92), .int (4 : Int32)]) (st := []) (V := fun r2 => some (.int r2)) C (fun _ => []) dL_grace_2 ml_RL_41 mi_yL_cell (fun r hr => c_cell l D cI cB cL cO pf (4 : Int32) r hr) h rfl ⟨rfl, rfl⟩ ⟨(Nat.le_of_ble_eq_true rfl), (Nat.le_of_ble_eq_true rfl)⟩ ⟨Nat.zero_le _, Nat.zero_le _⟩ (Nat.le_of_ble_eq_true rfl) (fun r2 h => ?_)
  refine J_bipush (v := (16 : Int32)) (pc := 5) C dL_grace_5 (by decide) ?_
  refine J_ishr (pc := 7) C dL_grace_7 ?_
  refine J_bipush (v := (12 : Int32)) (pc := 8) C dL_grace_8 (by decide) ?_
  refine J_csL (b := 0) (pc := 10) (As := [.int (r2 >>> ((16 : Int32) &&& 31)), .int (12 : Int32)]) (st := []) (V := fun r10 => some (.int r10)) C (fun _ => []) dL_grace_10 ml_RL_45 mi_yL_in (fun r hr => c_L_in l D cI cB cL cO pf N (r2 >>> ((16 : Int32) &&& 31)) (12 : Int32) r hr) h rfl ⟨rfl, rfl⟩ ⟨(Nat.le_of_ble_eq_true rfl), (Nat.le_of_ble_eq_true rfl)⟩ ⟨Nat.zero_le _, Nat.zero_le _⟩ (Nat.le_of_ble_eq_true rfl) (fun r10 h => ?_)
  cases h
  exact J_iret (pc := 13) C dL_grace_13 hr ⟨rfl, rfl⟩
-- from
theorem dL_from_0 : decode cL_from 0 = .ok (.aload_n 0, 1) := by decide +kernel
theorem dL_from_1 : decode cL_from 1 = .ok (.iconst 5, 1) := by decide +kernel
theorem dL_from_2 : decode cL_from 2 = .ok (.invokestatic 41, 3) := by decide +kernel
theorem dL_from_5 : decode cL_from 5 = .ok (.bipush 30, 2) := by decide +kernel
theorem dL_from_7 : decode cL_from 7 = .ok (.invokestatic 45, 3) := by decide +kernel
theorem dL_from_10 : decode cL_from 10 = .ok (.ireturn, 1) := by decide +kernel
def f_L_from (pf : Nat → Nat) : Option (Int32) :=
  ((f_cell pf (5 : Int32)).bind fun r2 => ((f_L_in r2 (30 : Int32)).bind fun r7 => (some r7)))
set_option maxHeartbeats 4000000 in
set_option maxRecDepth 100000 in
theorem c_L_from (l : Launch) (D : va_G) (cI cB cL cO : ClassId) (pf : Nat → Nat) (N : Nat) (o : Int32) (h : f_L_from pf = some o) : Ct l D [(cI, .int), (cB, .byte), (cL, .byte), (cO, .object RX0)] pf yL_from cL_from 1 (some FieldType.int) { frames := 1, cells := 0, slots := 0, locals := 21 } [.ref (pf 92)] [] (is1 (some (.int o)) []) := by
  refine Ct_of (own := RL) (lv0 := [(0, .ref (pf 92))]) (by decide) rfl rfl (Nat.le_of_ble_eq_true rfl) ?_
  intro p e s m args below meth c C hr hnm
  unfold f_L_from at h
  refine J_aload_n (pc := 0) C dL_from_0 0 rfl ?_
  refine J_iconst (v := (5 : Int32)) (pc := 1) C dL_from_1 (by decide) ?_
  refine J_csL (b := 0) (pc := 2) (As := [.ref (pf 92), .int (5 : Int32)]) (st := []) (V := fun r2 => some (.int r2)) C (fun _ => []) dL_from_2 ml_RL_41 mi_yL_cell (fun r hr => c_cell l D cI cB cL cO pf (5 : Int32) r hr) h rfl ⟨rfl, rfl⟩ ⟨(Nat.le_of_ble_eq_true rfl), (Nat.le_of_ble_eq_true rfl)⟩ ⟨Nat.zero_le _, Nat.zero_le _⟩ (Nat.le_of_ble_eq_true rfl) (fun r2 h => ?_)
  refine J_bipush (v := (30 : Int32)) (pc := 5) C dL_from_5 (by decide) ?_
  refine J_csL (b := 0) (pc := 7) (As := [.int r2, .int (30 : Int32)]) (st := []) (V := fun r7 => some (.int r7)) C (fun _ => []) dL_from_7 ml_RL_45 mi_yL_in (fun r hr => c_L_in l D cI cB cL cO pf N r2 (30 : Int32) r hr) h rfl ⟨rfl, rfl⟩ ⟨(Nat.le_of_ble_eq_true rfl), (Nat.le_of_ble_eq_true rfl)⟩ ⟨Nat.zero_le _, Nat.zero_le _⟩ (Nat.le_of_ble_eq_true rfl) (fun r7 h => ?_)
  cases h
  exact J_iret (pc := 10) C dL_from_10 hr ⟨rfl, rfl⟩
-- to
theorem dL_to_0 : decode cL_to 0 = .ok (.aload_n 0, 1) := by decide +kernel
theorem dL_to_1 : decode cL_to 1 = .ok (.invokestatic 49, 3) := by decide +kernel
theorem dL_to_4 : decode cL_to 4 = .ok (.aload_n 0, 1) := by decide +kernel
theorem dL_to_5 : decode cL_to 5 = .ok (.iconst 5, 1) := by decide +kernel
theorem dL_to_6 : decode cL_to 6 = .ok (.invokestatic 41, 3) := by decide +kernel
theorem dL_to_9 : decode cL_to 9 = .ok (.bipush 8, 2) := by decide +kernel
theorem dL_to_11 : decode cL_to 11 = .ok (.ishr, 1) := by decide +kernel
theorem dL_to_12 : decode cL_to 12 = .ok (.bipush 30, 2) := by decide +kernel
theorem dL_to_14 : decode cL_to 14 = .ok (.invokestatic 45, 3) := by decide +kernel
theorem dL_to_17 : decode cL_to 17 = .ok (.iadd, 1) := by decide +kernel
theorem dL_to_18 : decode cL_to 18 = .ok (.ireturn, 1) := by decide +kernel
def f_L_to (pf : Nat → Nat) : Option (Int32) :=
  ((f_L_from pf).bind fun r1 => ((f_cell pf (5 : Int32)).bind fun r6 => ((f_L_in (r6 >>> ((8 : Int32) &&& 31)) (30 : Int32)).bind fun r14 => (some (r1 + r14)))))
set_option maxHeartbeats 4000000 in
set_option maxRecDepth 100000 in
theorem c_L_to (l : Launch) (D : va_G) (cI cB cL cO : ClassId) (pf : Nat → Nat) (N : Nat) (o : Int32) (h : f_L_to pf = some o) : Ct l D [(cI, .int), (cB, .byte), (cL, .byte), (cO, .object RX0)] pf yL_to cL_to 1 (some FieldType.int) { frames := 2, cells := 0, slots := 0, locals := 41 } [.ref (pf 92)] [] (is1 (some (.int o)) []) := by
  refine Ct_of (own := RL) (lv0 := [(0, .ref (pf 92))]) (by decide) rfl rfl (Nat.le_of_ble_eq_true rfl) ?_
  intro p e s m args below meth c C hr hnm
  unfold f_L_to at h
  refine J_aload_n (pc := 0) C dL_to_0 0 rfl ?_
  refine J_csL (b := 0) (pc := 1) (As := [.ref (pf 92)]) (st := []) (V := fun r1 => some (.int r1)) C (fun _ => []) dL_to_1 ml_RL_49 mi_yL_from (fun r hr => c_L_from l D cI cB cL cO pf N r hr) h rfl ⟨rfl, rfl⟩ ⟨(Nat.le_of_ble_eq_true rfl), (Nat.le_of_ble_eq_true rfl)⟩ ⟨Nat.zero_le _, Nat.zero_le _⟩ (Nat.le_of_ble_eq_true rfl) (fun r1 h => ?_)
  refine J_aload_n (pc := 4) C dL_to_4 0 rfl ?_
  refine J_iconst (v := (5 : Int32)) (pc := 5) C dL_to_5 (by decide) ?_
  refine J_csL (b := 0) (pc := 6) (As := [.ref (pf 92), .int (5 : Int32)]) (st := [.int r1]) (V := fun r6 => some (.int r6)) C (fun _ => []) dL_to_6 ml_RL_41 mi_yL_cell (fun r hr => c_cell l D cI cB cL cO pf (5 : Int32) r hr) h rfl ⟨rfl, rfl⟩ ⟨(Nat.le_of_ble_eq_true rfl), (Nat.le_of_ble_eq_true rfl)⟩ ⟨Nat.zero_le _, Nat.zero_le _⟩ (Nat.le_of_ble_eq_true rfl) (fun r6 h => ?_)
  refine J_bipush (v := (8 : Int32)) (pc := 9) C dL_to_9 (by decide) ?_
  refine J_ishr (pc := 11) C dL_to_11 ?_
  refine J_bipush (v := (30 : Int32)) (pc := 12) C dL_to_12 (by decide) ?_
  refine J_csL (b := 0) (pc := 14) (As := [.int (r6 >>> ((8 : Int32) &&& 31)), .int (30 : Int32)]) (st := [.int r1]) (V := fun r14 => some (.int r14)) C (fun _ => []) dL_to_14 ml_RL_45 mi_yL_in (fun r hr => c_L_in l D cI cB cL cO pf N (r6 >>> ((8 : Int32) &&& 31)) (30 : Int32) r hr) h rfl ⟨rfl, rfl⟩ ⟨(Nat.le_of_ble_eq_true rfl), (Nat.le_of_ble_eq_true rfl)⟩ ⟨Nat.zero_le _, Nat.zero_le _⟩ (Nat.le_of_ble_eq_true rfl) (fun r14 h => ?_)
  refine J_iadd (pc := 17) C dL_to_17 ?_
  cases h
  exact J_iret (pc := 18) C dL_to_18 hr ⟨rfl, rfl⟩
-- extra
theorem dL_extra_0 : decode cL_extra 0 = .ok (.iconst 1, 1) := by decide +kernel
theorem dL_extra_1 : decode cL_extra 1 = .ok (.aload_n 0, 1) := by decide +kernel
theorem dL_extra_2 : decode cL_extra 2 = .ok (.iconst 5, 1) := by decide +kernel
theorem dL_extra_3 : decode cL_extra 3 = .ok (.invokestatic 41, 3) := by decide +kernel
theorem dL_extra_6 : decode cL_extra 6 = .ok (.bipush 16, 2) := by decide +kernel
theorem dL_extra_8 : decode cL_extra 8 = .ok (.ishr, 1) := by decide +kernel
theorem dL_extra_9 : decode cL_extra 9 = .ok (.sipush 500, 3) := by decide +kernel
theorem dL_extra_12 : decode cL_extra 12 = .ok (.invokestatic 45, 3) := by decide +kernel
theorem dL_extra_15 : decode cL_extra 15 = .ok (.iadd, 1) := by decide +kernel
theorem dL_extra_16 : decode cL_extra 16 = .ok (.ireturn, 1) := by decide +kernel
def f_L_extra (pf : Nat → Nat) : Option (Int32) :=
  ((f_cell pf (5 : Int32)).bind fun r3 => ((f_L_in (r3 >>> ((16 : Int32) &&& 31)) (500 : Int32)).bind fun r12 => (some ((1 : Int32) + r12))))
set_option maxHeartbeats 4000000 in
set_option maxRecDepth 100000 in
theorem c_L_extra (l : Launch) (D : va_G) (cI cB cL cO : ClassId) (pf : Nat → Nat) (N : Nat) (o : Int32) (h : f_L_extra pf = some o) : Ct l D [(cI, .int), (cB, .byte), (cL, .byte), (cO, .object RX0)] pf yL_extra cL_extra 1 (some FieldType.int) { frames := 1, cells := 0, slots := 0, locals := 21 } [.ref (pf 92)] [] (is1 (some (.int o)) []) := by
  refine Ct_of (own := RL) (lv0 := [(0, .ref (pf 92))]) (by decide) rfl rfl (Nat.le_of_ble_eq_true rfl) ?_
  intro p e s m args below meth c C hr hnm
  unfold f_L_extra at h
  refine J_iconst (v := (1 : Int32)) (pc := 0) C dL_extra_0 (by decide) ?_
  refine J_aload_n (pc := 1) C dL_extra_1 0 rfl ?_
  refine J_iconst (v := (5 : Int32)) (pc := 2) C dL_extra_2 (by decide) ?_
  refine J_csL (b := 0) (pc := 3) (As := [.ref (pf 92), .int (5 : Int32)]) (st := [.int (1 : Int32)]) (V := fun r3 => some (.int r3)) C (fun _ => []) dL_extra_3 ml_RL_41 mi_yL_cell (fun r hr => c_cell l D cI cB cL cO pf (5 : Int32) r hr) h rfl ⟨rfl, rfl⟩ ⟨(Nat.le_of_ble_eq_true rfl), (Nat.le_of_ble_eq_true rfl)⟩ ⟨Nat.zero_le _, Nat.zero_le _⟩ (Nat.le_of_ble_eq_true rfl) (fun r3 h => ?_)
  refine J_bipush (v := (16 : Int32)) (pc := 6) C dL_extra_6 (by decide) ?_
  refine J_ishr (pc := 8) C dL_extra_8 ?_
  refine J_sipush (v := (500 : Int32)) (pc := 9) C dL_extra_9 (by decide) ?_
  refine J_csL (b := 0) (pc := 12) (As := [.int (r3 >>> ((16 : Int32) &&& 31)), .int (500 : Int32)]) (st := [.int (1 : Int32)]) (V := fun r12 => some (.int r12)) C (fun _ => []) dL_extra_12 ml_RL_45 mi_yL_in (fun r hr => c_L_in l D cI cB cL cO pf N (r3 >>> ((16 : Int32) &&& 31)) (500 : Int32) r hr) h rfl ⟨rfl, rfl⟩ ⟨(Nat.le_of_ble_eq_true rfl), (Nat.le_of_ble_eq_true rfl)⟩ ⟨Nat.zero_le _, Nat.zero_le _⟩ (Nat.le_of_ble_eq_true rfl) (fun r12 h => ?_)
  refine J_iadd (pc := 15) C dL_extra_15 ?_
  cases h
  exact J_iret (pc := 16) C dL_extra_16 hr ⟨rfl, rfl⟩
-- all
theorem dL_all_0 : decode cL_all 0 = .ok (.ldc2_w 150, 3) := by decide +kernel
theorem dL_all_3 : decode cL_all 3 = .ok (.aload_n 0, 1) := by decide +kernel
theorem dL_all_4 : decode cL_all 4 = .ok (.invokevirtual 152, 3) := by decide +kernel
theorem dL_all_7 : decode cL_all 7 = .ok (.i2l, 1) := by decide +kernel
theorem dL_all_8 : decode cL_all 8 = .ok (.lmul, 1) := by decide +kernel
theorem dL_all_9 : decode cL_all 9 = .ok (.aload_n 0, 1) := by decide +kernel
theorem dL_all_10 : decode cL_all 10 = .ok (.invokevirtual 155, 3) := by decide +kernel
theorem dL_all_13 : decode cL_all 13 = .ok (.i2l, 1) := by decide +kernel
theorem dL_all_14 : decode cL_all 14 = .ok (.ladd, 1) := by decide +kernel
theorem dL_all_15 : decode cL_all 15 = .ok (.lstore_n 1, 1) := by decide +kernel
theorem dL_all_16 : decode cL_all 16 = .ok (.iconst 0, 1) := by decide +kernel
theorem dL_all_17 : decode cL_all 17 = .ok (.istore_n 3, 1) := by decide +kernel
theorem dL_all_18 : decode cL_all 18 = .ok (.iload_n 3, 1) := by decide +kernel
theorem dL_all_19 : decode cL_all 19 = .ok (.bipush 7, 2) := by decide +kernel
theorem dL_all_21 : decode cL_all 21 = .ok (.if_icmp .ge 22, 3) := by decide +kernel
theorem dL_all_24 : decode cL_all 24 = .ok (.ldc2_w 150, 3) := by decide +kernel
theorem dL_all_27 : decode cL_all 27 = .ok (.lload_n 1, 1) := by decide +kernel
theorem dL_all_28 : decode cL_all 28 = .ok (.lmul, 1) := by decide +kernel
theorem dL_all_29 : decode cL_all 29 = .ok (.aload_n 0, 1) := by decide +kernel
theorem dL_all_30 : decode cL_all 30 = .ok (.iload_n 3, 1) := by decide +kernel
theorem dL_all_31 : decode cL_all 31 = .ok (.invokevirtual 158, 3) := by decide +kernel
theorem dL_all_34 : decode cL_all 34 = .ok (.i2l, 1) := by decide +kernel
theorem dL_all_35 : decode cL_all 35 = .ok (.ladd, 1) := by decide +kernel
theorem dL_all_36 : decode cL_all 36 = .ok (.lstore_n 1, 1) := by decide +kernel
theorem dL_all_37 : decode cL_all 37 = .ok (.iinc 3 1, 3) := by decide +kernel
theorem dL_all_40 : decode cL_all 40 = .ok (.goto (-22), 3) := by decide +kernel
theorem dL_all_43 : decode cL_all 43 = .ok (.iconst 0, 1) := by decide +kernel
theorem dL_all_44 : decode cL_all 44 = .ok (.istore_n 3, 1) := by decide +kernel
theorem dL_all_45 : decode cL_all 45 = .ok (.iload_n 3, 1) := by decide +kernel
theorem dL_all_46 : decode cL_all 46 = .ok (.aload_n 0, 1) := by decide +kernel
theorem dL_all_47 : decode cL_all 47 = .ok (.iconst 3, 1) := by decide +kernel
theorem dL_all_48 : decode cL_all 48 = .ok (.invokevirtual 161, 3) := by decide +kernel
theorem dL_all_51 : decode cL_all 51 = .ok (.if_icmp .ge 117, 3) := by decide +kernel
theorem dL_all_54 : decode cL_all 54 = .ok (.ldc2_w 150, 3) := by decide +kernel
theorem dL_all_57 : decode cL_all 57 = .ok (.ldc2_w 150, 3) := by decide +kernel
theorem dL_all_60 : decode cL_all 60 = .ok (.ldc2_w 150, 3) := by decide +kernel
theorem dL_all_63 : decode cL_all 63 = .ok (.ldc2_w 150, 3) := by decide +kernel
theorem dL_all_66 : decode cL_all 66 = .ok (.lload_n 1, 1) := by decide +kernel
theorem dL_all_67 : decode cL_all 67 = .ok (.lmul, 1) := by decide +kernel
theorem dL_all_68 : decode cL_all 68 = .ok (.aload_n 0, 1) := by decide +kernel
theorem dL_all_69 : decode cL_all 69 = .ok (.iload_n 3, 1) := by decide +kernel
theorem dL_all_70 : decode cL_all 70 = .ok (.invokevirtual 164, 3) := by decide +kernel
theorem dL_all_73 : decode cL_all 73 = .ok (.i2l, 1) := by decide +kernel
theorem dL_all_74 : decode cL_all 74 = .ok (.ladd, 1) := by decide +kernel
theorem dL_all_75 : decode cL_all 75 = .ok (.lmul, 1) := by decide +kernel
theorem dL_all_76 : decode cL_all 76 = .ok (.aload_n 0, 1) := by decide +kernel
theorem dL_all_77 : decode cL_all 77 = .ok (.iload_n 3, 1) := by decide +kernel
theorem dL_all_78 : decode cL_all 78 = .ok (.invokevirtual 167, 3) := by decide +kernel
theorem dL_all_81 : decode cL_all 81 = .ok (.i2l, 1) := by decide +kernel
theorem dL_all_82 : decode cL_all 82 = .ok (.ladd, 1) := by decide +kernel
theorem dL_all_83 : decode cL_all 83 = .ok (.lmul, 1) := by decide +kernel
theorem dL_all_84 : decode cL_all 84 = .ok (.aload_n 0, 1) := by decide +kernel
theorem dL_all_85 : decode cL_all 85 = .ok (.iload_n 3, 1) := by decide +kernel
theorem dL_all_86 : decode cL_all 86 = .ok (.invokevirtual 170, 3) := by decide +kernel
theorem dL_all_89 : decode cL_all 89 = .ok (.i2l, 1) := by decide +kernel
theorem dL_all_90 : decode cL_all 90 = .ok (.ladd, 1) := by decide +kernel
theorem dL_all_91 : decode cL_all 91 = .ok (.lmul, 1) := by decide +kernel
theorem dL_all_92 : decode cL_all 92 = .ok (.aload_n 0, 1) := by decide +kernel
theorem dL_all_93 : decode cL_all 93 = .ok (.iload_n 3, 1) := by decide +kernel
theorem dL_all_94 : decode cL_all 94 = .ok (.invokevirtual 173, 3) := by decide +kernel
theorem dL_all_97 : decode cL_all 97 = .ok (.i2l, 1) := by decide +kernel
theorem dL_all_98 : decode cL_all 98 = .ok (.ladd, 1) := by decide +kernel
theorem dL_all_99 : decode cL_all 99 = .ok (.lstore_n 1, 1) := by decide +kernel
theorem dL_all_100 : decode cL_all 100 = .ok (.iconst 0, 1) := by decide +kernel
theorem dL_all_101 : decode cL_all 101 = .ok (.istore 4, 2) := by decide +kernel
theorem dL_all_103 : decode cL_all 103 = .ok (.iload 4, 2) := by decide +kernel
theorem dL_all_105 : decode cL_all 105 = .ok (.aload_n 0, 1) := by decide +kernel
theorem dL_all_106 : decode cL_all 106 = .ok (.iload_n 3, 1) := by decide +kernel
theorem dL_all_107 : decode cL_all 107 = .ok (.invokevirtual 176, 3) := by decide +kernel
theorem dL_all_110 : decode cL_all 110 = .ok (.if_icmp .ge 39, 3) := by decide +kernel
theorem dL_all_113 : decode cL_all 113 = .ok (.ldc2_w 150, 3) := by decide +kernel
theorem dL_all_116 : decode cL_all 116 = .ok (.ldc2_w 150, 3) := by decide +kernel
theorem dL_all_119 : decode cL_all 119 = .ok (.lload_n 1, 1) := by decide +kernel
theorem dL_all_120 : decode cL_all 120 = .ok (.lmul, 1) := by decide +kernel
theorem dL_all_121 : decode cL_all 121 = .ok (.aload_n 0, 1) := by decide +kernel
theorem dL_all_122 : decode cL_all 122 = .ok (.iload_n 3, 1) := by decide +kernel
theorem dL_all_123 : decode cL_all 123 = .ok (.iload 4, 2) := by decide +kernel
theorem dL_all_125 : decode cL_all 125 = .ok (.iconst 0, 1) := by decide +kernel
theorem dL_all_126 : decode cL_all 126 = .ok (.invokevirtual 179, 3) := by decide +kernel
theorem dL_all_129 : decode cL_all 129 = .ok (.i2l, 1) := by decide +kernel
theorem dL_all_130 : decode cL_all 130 = .ok (.ladd, 1) := by decide +kernel
theorem dL_all_131 : decode cL_all 131 = .ok (.lmul, 1) := by decide +kernel
theorem dL_all_132 : decode cL_all 132 = .ok (.aload_n 0, 1) := by decide +kernel
theorem dL_all_133 : decode cL_all 133 = .ok (.iload_n 3, 1) := by decide +kernel
theorem dL_all_134 : decode cL_all 134 = .ok (.iload 4, 2) := by decide +kernel
theorem dL_all_136 : decode cL_all 136 = .ok (.iconst 1, 1) := by decide +kernel
theorem dL_all_137 : decode cL_all 137 = .ok (.invokevirtual 179, 3) := by decide +kernel
theorem dL_all_140 : decode cL_all 140 = .ok (.i2l, 1) := by decide +kernel
theorem dL_all_141 : decode cL_all 141 = .ok (.ladd, 1) := by decide +kernel
theorem dL_all_142 : decode cL_all 142 = .ok (.lstore_n 1, 1) := by decide +kernel
theorem dL_all_143 : decode cL_all 143 = .ok (.iinc 4 1, 3) := by decide +kernel
theorem dL_all_146 : decode cL_all 146 = .ok (.goto (-43), 3) := by decide +kernel
theorem dL_all_149 : decode cL_all 149 = .ok (.ldc2_w 150, 3) := by decide +kernel
theorem dL_all_152 : decode cL_all 152 = .ok (.lload_n 1, 1) := by decide +kernel
theorem dL_all_153 : decode cL_all 153 = .ok (.lmul, 1) := by decide +kernel
theorem dL_all_154 : decode cL_all 154 = .ok (.aload_n 0, 1) := by decide +kernel
theorem dL_all_155 : decode cL_all 155 = .ok (.iload_n 3, 1) := by decide +kernel
theorem dL_all_156 : decode cL_all 156 = .ok (.invokevirtual 182, 3) := by decide +kernel
theorem dL_all_159 : decode cL_all 159 = .ok (.i2l, 1) := by decide +kernel
theorem dL_all_160 : decode cL_all 160 = .ok (.ladd, 1) := by decide +kernel
theorem dL_all_161 : decode cL_all 161 = .ok (.lstore_n 1, 1) := by decide +kernel
theorem dL_all_162 : decode cL_all 162 = .ok (.iinc 3 1, 3) := by decide +kernel
theorem dL_all_165 : decode cL_all 165 = .ok (.goto (-120), 3) := by decide +kernel
theorem dL_all_168 : decode cL_all 168 = .ok (.iconst 0, 1) := by decide +kernel
theorem dL_all_169 : decode cL_all 169 = .ok (.istore_n 3, 1) := by decide +kernel
theorem dL_all_170 : decode cL_all 170 = .ok (.iload_n 3, 1) := by decide +kernel
theorem dL_all_171 : decode cL_all 171 = .ok (.aload_n 0, 1) := by decide +kernel
theorem dL_all_172 : decode cL_all 172 = .ok (.iconst 0, 1) := by decide +kernel
theorem dL_all_173 : decode cL_all 173 = .ok (.invokevirtual 185, 3) := by decide +kernel
theorem dL_all_176 : decode cL_all 176 = .ok (.if_icmp .ge 50, 3) := by decide +kernel
theorem dL_all_179 : decode cL_all 179 = .ok (.ldc2_w 150, 3) := by decide +kernel
theorem dL_all_182 : decode cL_all 182 = .ok (.ldc2_w 150, 3) := by decide +kernel
theorem dL_all_185 : decode cL_all 185 = .ok (.ldc2_w 150, 3) := by decide +kernel
theorem dL_all_188 : decode cL_all 188 = .ok (.lload_n 1, 1) := by decide +kernel
theorem dL_all_189 : decode cL_all 189 = .ok (.lmul, 1) := by decide +kernel
theorem dL_all_190 : decode cL_all 190 = .ok (.aload_n 0, 1) := by decide +kernel
theorem dL_all_191 : decode cL_all 191 = .ok (.iconst 0, 1) := by decide +kernel
theorem dL_all_192 : decode cL_all 192 = .ok (.iload_n 3, 1) := by decide +kernel
theorem dL_all_193 : decode cL_all 193 = .ok (.iconst 0, 1) := by decide +kernel
theorem dL_all_194 : decode cL_all 194 = .ok (.invokevirtual 188, 3) := by decide +kernel
theorem dL_all_197 : decode cL_all 197 = .ok (.i2l, 1) := by decide +kernel
theorem dL_all_198 : decode cL_all 198 = .ok (.ladd, 1) := by decide +kernel
theorem dL_all_199 : decode cL_all 199 = .ok (.lmul, 1) := by decide +kernel
theorem dL_all_200 : decode cL_all 200 = .ok (.aload_n 0, 1) := by decide +kernel
theorem dL_all_201 : decode cL_all 201 = .ok (.iconst 0, 1) := by decide +kernel
theorem dL_all_202 : decode cL_all 202 = .ok (.iload_n 3, 1) := by decide +kernel
theorem dL_all_203 : decode cL_all 203 = .ok (.iconst 1, 1) := by decide +kernel
theorem dL_all_204 : decode cL_all 204 = .ok (.invokevirtual 188, 3) := by decide +kernel
theorem dL_all_207 : decode cL_all 207 = .ok (.i2l, 1) := by decide +kernel
theorem dL_all_208 : decode cL_all 208 = .ok (.ladd, 1) := by decide +kernel
theorem dL_all_209 : decode cL_all 209 = .ok (.lmul, 1) := by decide +kernel
theorem dL_all_210 : decode cL_all 210 = .ok (.aload_n 0, 1) := by decide +kernel
theorem dL_all_211 : decode cL_all 211 = .ok (.iconst 0, 1) := by decide +kernel
theorem dL_all_212 : decode cL_all 212 = .ok (.iload_n 3, 1) := by decide +kernel
theorem dL_all_213 : decode cL_all 213 = .ok (.iconst 2, 1) := by decide +kernel
theorem dL_all_214 : decode cL_all 214 = .ok (.invokevirtual 188, 3) := by decide +kernel
theorem dL_all_217 : decode cL_all 217 = .ok (.i2l, 1) := by decide +kernel
theorem dL_all_218 : decode cL_all 218 = .ok (.ladd, 1) := by decide +kernel
theorem dL_all_219 : decode cL_all 219 = .ok (.lstore_n 1, 1) := by decide +kernel
theorem dL_all_220 : decode cL_all 220 = .ok (.iinc 3 1, 3) := by decide +kernel
theorem dL_all_223 : decode cL_all 223 = .ok (.goto (-53), 3) := by decide +kernel
theorem dL_all_226 : decode cL_all 226 = .ok (.iconst 0, 1) := by decide +kernel
theorem dL_all_227 : decode cL_all 227 = .ok (.istore_n 3, 1) := by decide +kernel
theorem dL_all_228 : decode cL_all 228 = .ok (.iload_n 3, 1) := by decide +kernel
theorem dL_all_229 : decode cL_all 229 = .ok (.aload_n 0, 1) := by decide +kernel
theorem dL_all_230 : decode cL_all 230 = .ok (.invokevirtual 191, 3) := by decide +kernel
theorem dL_all_233 : decode cL_all 233 = .ok (.if_icmp .ge 35, 3) := by decide +kernel
theorem dL_all_236 : decode cL_all 236 = .ok (.ldc2_w 150, 3) := by decide +kernel
theorem dL_all_239 : decode cL_all 239 = .ok (.ldc2_w 150, 3) := by decide +kernel
theorem dL_all_242 : decode cL_all 242 = .ok (.lload_n 1, 1) := by decide +kernel
theorem dL_all_243 : decode cL_all 243 = .ok (.lmul, 1) := by decide +kernel
theorem dL_all_244 : decode cL_all 244 = .ok (.aload_n 0, 1) := by decide +kernel
theorem dL_all_245 : decode cL_all 245 = .ok (.iload_n 3, 1) := by decide +kernel
theorem dL_all_246 : decode cL_all 246 = .ok (.iconst 0, 1) := by decide +kernel
theorem dL_all_247 : decode cL_all 247 = .ok (.invokevirtual 194, 3) := by decide +kernel
theorem dL_all_250 : decode cL_all 250 = .ok (.i2l, 1) := by decide +kernel
theorem dL_all_251 : decode cL_all 251 = .ok (.ladd, 1) := by decide +kernel
theorem dL_all_252 : decode cL_all 252 = .ok (.lmul, 1) := by decide +kernel
theorem dL_all_253 : decode cL_all 253 = .ok (.aload_n 0, 1) := by decide +kernel
theorem dL_all_254 : decode cL_all 254 = .ok (.iload_n 3, 1) := by decide +kernel
theorem dL_all_255 : decode cL_all 255 = .ok (.iconst 3, 1) := by decide +kernel
theorem dL_all_256 : decode cL_all 256 = .ok (.invokevirtual 194, 3) := by decide +kernel
theorem dL_all_259 : decode cL_all 259 = .ok (.i2l, 1) := by decide +kernel
theorem dL_all_260 : decode cL_all 260 = .ok (.ladd, 1) := by decide +kernel
theorem dL_all_261 : decode cL_all 261 = .ok (.lstore_n 1, 1) := by decide +kernel
theorem dL_all_262 : decode cL_all 262 = .ok (.iinc 3 1, 3) := by decide +kernel
theorem dL_all_265 : decode cL_all 265 = .ok (.goto (-37), 3) := by decide +kernel
theorem dL_all_268 : decode cL_all 268 = .ok (.ldc2_w 150, 3) := by decide +kernel
theorem dL_all_271 : decode cL_all 271 = .ok (.lload_n 1, 1) := by decide +kernel
theorem dL_all_272 : decode cL_all 272 = .ok (.lmul, 1) := by decide +kernel
theorem dL_all_273 : decode cL_all 273 = .ok (.aload_n 0, 1) := by decide +kernel
theorem dL_all_274 : decode cL_all 274 = .ok (.invokevirtual 197, 3) := by decide +kernel
theorem dL_all_277 : decode cL_all 277 = .ok (.i2l, 1) := by decide +kernel
theorem dL_all_278 : decode cL_all 278 = .ok (.ladd, 1) := by decide +kernel
theorem dL_all_279 : decode cL_all 279 = .ok (.lreturn, 1) := by decide +kernel
def f_L_all_b228 (N : Nat) : Nat → (Int64) → (Int32) → (T_PL) → Option (Int64 × T_PL)
  | 0, _, _, _ => none
  | n + 1, x1, x3, zs => ((P_logSize N zs).bind fun r230 => (if r230.1 ≤ x3 then ((P_purchaseCount N r230.2).bind fun r274 => (some ((((31 : Int64) * x1) + r274.1.toInt64), r274.2))) else ((P_log N r230.2 x3 (0 : Int32)).bind fun r247 => (if ¬ r247.1 = 0 then none else ((P_log N r247.2.2 x3 (3 : Int32)).bind fun r256 => (if ¬ r256.1 = 0 then none else ((some (x3 + (1 : Int32))).bind fun y262 => (f_L_all_b228 N n (((31 : Int64) * (((31 : Int64) * x1) + r247.2.1.toInt64)) + r256.2.1.toInt64) y262 r256.2.2))))))))
def f_L_all_b170 (N : Nat) : Nat → (Int64) → (Int32) → (T_PL) → Option (Int64 × T_PL)
  | 0, _, _, _ => none
  | n + 1, x1, x3, zs => ((P_poolCohortCount N zs (0 : Int32)).bind fun r173 => (if ¬ r173.1 = 0 then none else (if r173.2.1 ≤ x3 then (f_L_all_b228 N N x1 (0 : Int32) r173.2.2) else ((P_poolCohort N r173.2.2 (0 : Int32) x3 (0 : Int32)).bind fun r194 => (if ¬ r194.1 = 0 then none else ((P_poolCohort N r194.2.2 (0 : Int32) x3 (1 : Int32)).bind fun r204 => (if ¬ r204.1 = 0 then none else ((P_poolCohort N r204.2.2 (0 : Int32) x3 (2 : Int32)).bind fun r214 => (if ¬ r214.1 = 0 then none else ((some (x3 + (1 : Int32))).bind fun y220 => (f_L_all_b170 N n (((31 : Int64) * (((31 : Int64) * (((31 : Int64) * x1) + r194.2.1.toInt64)) + r204.2.1.toInt64)) + r214.2.1.toInt64) y220 r214.2.2)))))))))))
def f_L_all_b103 (N : Nat) (k_45 : (Int64) → (Int32) → (T_PL) → Option (Int64 × T_PL)) (x3 : Int32) : Nat → (Int64) → (Int32) → (T_PL) → Option (Int64 × T_PL)
  | 0, _, _, _ => none
  | n + 1, x1, x4, zs => ((P_cohortCount N zs x3).bind fun r107 => (if ¬ r107.1 = 0 then none else (if r107.2.1 ≤ x4 then ((P_qualifying N r107.2.2 x3).bind fun r156 => (if ¬ r156.1 = 0 then none else ((some (x3 + (1 : Int32))).bind fun y162 => (k_45 (((31 : Int64) * x1) + r156.2.1.toInt64) y162 r156.2.2)))) else ((P_cohort N r107.2.2 x3 x4 (0 : Int32)).bind fun r126 => (if ¬ r126.1 = 0 then none else ((P_cohort N r126.2.2 x3 x4 (1 : Int32)).bind fun r137 => (if ¬ r137.1 = 0 then none else ((some (x4 + (1 : Int32))).bind fun y143 => (f_L_all_b103 N k_45 x3 n (((31 : Int64) * (((31 : Int64) * x1) + r126.2.1.toInt64)) + r137.2.1.toInt64) y143 r137.2.2)))))))))
def f_L_all_b45 (N : Nat) : Nat → (Int64) → (Int32) → (T_PL) → Option (Int64 × T_PL)
  | 0, _, _, _ => none
  | n + 1, x1, x3, zs => ((P_setup N zs (3 : Int32)).bind fun r48 => (if ¬ r48.1 = 0 then none else (if r48.2.1 ≤ x3 then (f_L_all_b170 N N x1 (0 : Int32) r48.2.2) else ((P_debt N r48.2.2 x3).bind fun r70 => (if ¬ r70.1 = 0 then none else ((P_tier N r70.2.2 x3).bind fun r78 => (if ¬ r78.1 = 0 then none else ((P_belowSince N r78.2.2 x3).bind fun r86 => (if ¬ r86.1 = 0 then none else ((P_household N r86.2.2 x3).bind fun r94 => (if ¬ r94.1 = 0 then none else (f_L_all_b103 N (f_L_all_b45 N n) x3 N (((31 : Int64) * (((31 : Int64) * (((31 : Int64) * (((31 : Int64) * x1) + r70.2.1.toInt64)) + r78.2.1.toInt64)) + r86.2.1.toInt64)) + r94.2.1.toInt64) (0 : Int32) r94.2.2))))))))))))
def f_L_all_b18 (N : Nat) : Nat → (Int64) → (Int32) → (T_PL) → Option (Int64 × T_PL)
  | 0, _, _, _ => none
  | n + 1, x1, x3, zs => (if (7 : Int32) ≤ x3 then (f_L_all_b45 N N x1 (0 : Int32) zs) else ((P_total N zs x3).bind fun r31 => (if ¬ r31.1 = 0 then none else ((some (x3 + (1 : Int32))).bind fun y37 => (f_L_all_b18 N n (((31 : Int64) * x1) + r31.2.1.toInt64) y37 r31.2.2)))))
def f_L_all (N : Nat) (zs : T_PL) : Option (Int64 × T_PL) :=
  ((P_today N zs).bind fun r4 => ((P_totalBreakage N r4.2).bind fun r10 => (f_L_all_b18 N N (((31 : Int64) * r4.1.toInt64) + r10.1.toInt64) (0 : Int32) r10.2)))
set_option maxHeartbeats 4000000 in
set_option maxRecDepth 100000 in
theorem t_L_all_b228 {l : Launch} {D : va_G} {A : Nat → Nat → Nat} {cI cB cL cO : ClassId} {pf : Nat → Nat} {p : Program} {e : Env} {s : State} {m : MethodId} {args : Array Value} {below : List Frame} {meth : Method} {c : Code} {W0 : va_W} {N : Nat}  {o : Int64 × T_PL} (C : jC p s m args meth c cL_all 5 RL D [(cI, .int), (cB, .byte), (cL, .byte), (cO, .object RX0)] pf (va_A W0 s.heap.size)) (hr : meth.sig.returnType = (some FieldType.long)) : ∀ (n : Nat) (x1 : Int64) (x3 : Int32) (zs : T_PL), f_L_all_b228 N n x1 x3 zs = some o → J p l e { frames := 9, cells := 0, slots := 0, locals := 175 } s m args below meth c 5 D (va_A W0 s.heap.size) (MQ below (jQ D [(cI, .int), (cB, .byte), (cL, .byte), (cO, .object RX0)] W0 s.heap.size (is1 (some (.long o.1)) (wPL cI cB cO A o.2))) args s 0 0 (va_A W0 s.heap.size)) 0 0 228 [(0, .ref (A 0 0)), (1, .long x1), (3, .int x3)] [] (wPL cI cB cO A zs) := by
  intro n
  induction n with
  | zero =>
    intro _ _ _ h
    rw [f_L_all_b228] at h
    cases h
  | succ n ih =>
    intro x1 x3 zs h
    rw [f_L_all_b228] at h
    refine J_iload_n (pc := 228) C dL_all_228 2 rfl ?_
    refine J_aload_n (pc := 229) C dL_all_229 0 rfl ?_
    refine J_cvL (pc := 230) (As := []) (st := [.int x3]) (V := fun r230 => some (.int r230.1)) C (fun r230 => (wPL cI cB cO A r230.2)) dL_all_230 ml_RL_191 mi_yX10_logSize (fun r hr => Q_logSize l D cI cB cL cO pf N A zs r hr) h at_this rfl rfl ⟨rfl, rfl⟩ ⟨(Nat.le_of_ble_eq_true rfl), (Nat.le_of_ble_eq_true rfl)⟩ ⟨Nat.zero_le _, Nat.zero_le _⟩ (Nat.le_of_ble_eq_true rfl) (fun r230 h => ?_)
    refine J_ic_ge (pc := 233) (tgt := 268) C dL_all_233 (by decide) h (fun h => ?_) (fun h => ?_)
    · refine J_ldc2 (pc := 268) C dL_all_268 cw_RL_150 ?_
      refine J_lload_n (pc := 271) C dL_all_271 1 rfl ?_
      refine J_lmul (pc := 272) C dL_all_272 ?_
      refine J_aload_n (pc := 273) C dL_all_273 0 rfl ?_
      refine J_cvL (pc := 274) (As := []) (st := [.long ((31 : Int64) * x1)]) (V := fun r274 => some (.int r274.1)) C (fun r274 => (wPL cI cB cO A r274.2)) dL_all_274 ml_RL_197 mi_yX10_purchaseCount (fun r hr => Q_purchaseCount l D cI cB cL cO pf N A r230.2 r hr) h at_this rfl rfl ⟨rfl, rfl⟩ ⟨(Nat.le_of_ble_eq_true rfl), (Nat.le_of_ble_eq_true rfl)⟩ ⟨Nat.zero_le _, Nat.zero_le _⟩ (Nat.le_of_ble_eq_true rfl) (fun r274 h => ?_)
      refine J_i2l (pc := 277) C dL_all_277 ?_
      refine J_ladd (pc := 278) C dL_all_278 ?_
      cases h
      exact J_lret (pc := 279) C dL_all_279 hr ⟨rfl, rfl⟩
    · refine J_ldc2 (pc := 236) C dL_all_236 cw_RL_150 ?_
      refine J_ldc2 (pc := 239) C dL_all_239 cw_RL_150 ?_
      refine J_lload_n (pc := 242) C dL_all_242 1 rfl ?_
      refine J_lmul (pc := 243) C dL_all_243 ?_
      refine J_aload_n (pc := 244) C dL_all_244 0 rfl ?_
      refine J_iload_n (pc := 245) C dL_all_245 2 rfl ?_
      refine J_iconst (v := (0 : Int32)) (pc := 246) C dL_all_246 (by decide) ?_
      refine J_cvP (pc := 247) (As := [.int x3, .int (0 : Int32)]) (st := [.long ((31 : Int64) * x1), .long (31 : Int64)]) C (fun z => (wPL cI cB cO A z)) dL_all_247 ml_RL_194 mi_yX10_log (fun a s2 hr => R_log l D cI cB cL cO pf N A r230.2 x3 (0 : Int32) hr) h at_this rfl rfl ⟨rfl, rfl⟩ ⟨(Nat.le_of_ble_eq_true rfl), (Nat.le_of_ble_eq_true rfl)⟩ ⟨Nat.zero_le _, Nat.zero_le _⟩ (Nat.le_of_ble_eq_true rfl) (fun r247 h => ?_)
      refine J_i2l (pc := 250) C dL_all_250 ?_
      refine J_ladd (pc := 251) C dL_all_251 ?_
      refine J_lmul (pc := 252) C dL_all_252 ?_
      refine J_aload_n (pc := 253) C dL_all_253 0 rfl ?_
      refine J_iload_n (pc := 254) C dL_all_254 2 rfl ?_
      refine J_iconst (v := (3 : Int32)) (pc := 255) C dL_all_255 (by decide) ?_
      refine J_cvP (pc := 256) (As := [.int x3, .int (3 : Int32)]) (st := [.long ((31 : Int64) * (((31 : Int64) * x1) + r247.2.1.toInt64))]) C (fun z => (wPL cI cB cO A z)) dL_all_256 ml_RL_194 mi_yX10_log (fun a s2 hr => R_log l D cI cB cL cO pf N A r247.2.2 x3 (3 : Int32) hr) h at_this rfl rfl ⟨rfl, rfl⟩ ⟨(Nat.le_of_ble_eq_true rfl), (Nat.le_of_ble_eq_true rfl)⟩ ⟨Nat.zero_le _, Nat.zero_le _⟩ (Nat.le_of_ble_eq_true rfl) (fun r256 h => ?_)
      refine J_i2l (pc := 259) C dL_all_259 ?_
      refine J_ladd (pc := 260) C dL_all_260 ?_
      refine J_lstore_n (lv2 := [(1, .long (((31 : Int64) * (((31 : Int64) * x1) + r247.2.1.toInt64)) + r256.2.1.toInt64)), (0, .ref (A 0 0)), (3, .int x3)]) (pc := 261) C dL_all_261 (by decide) rfl ?_
      refine J_iincN (pc := 262) (v := (1 : Int32)) C (fun y262 => [(3, .int y262), (1, .long (((31 : Int64) * (((31 : Int64) * x1) + r247.2.1.toInt64)) + r256.2.1.toInt64)), (0, .ref (A 0 0))]) dL_all_262 2 rfl (by decide) h (by decide) (fun _ => rfl) (fun y262 h => ?_)
      refine J_goto (tgt := 228) (pc := 265) C dL_all_265 (by decide) ?_
      refine J_sub (lv2 := [(0, .ref (A 0 0)), (1, .long (((31 : Int64) * (((31 : Int64) * x1) + r247.2.1.toInt64)) + r256.2.1.toInt64)), (3, .int y262)]) [2, 1, 0] rfl ?_
      exact ih _ _ _ h
set_option maxHeartbeats 4000000 in
set_option maxRecDepth 100000 in
theorem t_L_all_b170 {l : Launch} {D : va_G} {A : Nat → Nat → Nat} {cI cB cL cO : ClassId} {pf : Nat → Nat} {p : Program} {e : Env} {s : State} {m : MethodId} {args : Array Value} {below : List Frame} {meth : Method} {c : Code} {W0 : va_W} {N : Nat}  {o : Int64 × T_PL} (C : jC p s m args meth c cL_all 5 RL D [(cI, .int), (cB, .byte), (cL, .byte), (cO, .object RX0)] pf (va_A W0 s.heap.size)) (hr : meth.sig.returnType = (some FieldType.long)) : ∀ (n : Nat) (x1 : Int64) (x3 : Int32) (zs : T_PL), f_L_all_b170 N n x1 x3 zs = some o → J p l e { frames := 9, cells := 0, slots := 0, locals := 175 } s m args below meth c 5 D (va_A W0 s.heap.size) (MQ below (jQ D [(cI, .int), (cB, .byte), (cL, .byte), (cO, .object RX0)] W0 s.heap.size (is1 (some (.long o.1)) (wPL cI cB cO A o.2))) args s 0 0 (va_A W0 s.heap.size)) 0 0 170 [(0, .ref (A 0 0)), (1, .long x1), (3, .int x3)] [] (wPL cI cB cO A zs) := by
  intro n
  induction n with
  | zero =>
    intro _ _ _ h
    rw [f_L_all_b170] at h
    cases h
  | succ n ih =>
    intro x1 x3 zs h
    rw [f_L_all_b170] at h
    refine J_iload_n (pc := 170) C dL_all_170 2 rfl ?_
    refine J_aload_n (pc := 171) C dL_all_171 0 rfl ?_
    refine J_iconst (v := (0 : Int32)) (pc := 172) C dL_all_172 (by decide) ?_
    refine J_cvP (pc := 173) (As := [.int (0 : Int32)]) (st := [.int x3]) C (fun z => (wPL cI cB cO A z)) dL_all_173 ml_RL_185 mi_yX10_poolCohortCount (fun a s2 hr => R_poolCohortCount l D cI cB cL cO pf N A zs (0 : Int32) hr) h at_this rfl rfl ⟨rfl, rfl⟩ ⟨(Nat.le_of_ble_eq_true rfl), (Nat.le_of_ble_eq_true rfl)⟩ ⟨Nat.zero_le _, Nat.zero_le _⟩ (Nat.le_of_ble_eq_true rfl) (fun r173 h => ?_)
    refine J_ic_ge (pc := 176) (tgt := 226) C dL_all_176 (by decide) h (fun h => ?_) (fun h => ?_)
    · refine J_iconst (v := (0 : Int32)) (pc := 226) C dL_all_226 (by decide) ?_
      refine J_istore_n (lv2 := [(3, .int (0 : Int32)), (0, .ref (A 0 0)), (1, .long x1)]) (pc := 227) C dL_all_227 (by decide) rfl ?_
      refine J_sub (lv2 := [(0, .ref (A 0 0)), (1, .long x1), (3, .int (0 : Int32))]) [1, 2, 0] rfl ?_
      exact t_L_all_b228 C hr N _ _ _ h
    · refine J_ldc2 (pc := 179) C dL_all_179 cw_RL_150 ?_
      refine J_ldc2 (pc := 182) C dL_all_182 cw_RL_150 ?_
      refine J_ldc2 (pc := 185) C dL_all_185 cw_RL_150 ?_
      refine J_lload_n (pc := 188) C dL_all_188 1 rfl ?_
      refine J_lmul (pc := 189) C dL_all_189 ?_
      refine J_aload_n (pc := 190) C dL_all_190 0 rfl ?_
      refine J_iconst (v := (0 : Int32)) (pc := 191) C dL_all_191 (by decide) ?_
      refine J_iload_n (pc := 192) C dL_all_192 2 rfl ?_
      refine J_iconst (v := (0 : Int32)) (pc := 193) C dL_all_193 (by decide) ?_
      refine J_cvP (pc := 194) (As := [.int (0 : Int32), .int x3, .int (0 : Int32)]) (st := [.long ((31 : Int64) * x1), .long (31 : Int64), .long (31 : Int64)]) C (fun z => (wPL cI cB cO A z)) dL_all_194 ml_RL_188 mi_yX10_poolCohort (fun a s2 hr => R_poolCohort l D cI cB cL cO pf N A r173.2.2 (0 : Int32) x3 (0 : Int32) hr) h at_this rfl rfl ⟨rfl, rfl⟩ ⟨(Nat.le_of_ble_eq_true rfl), (Nat.le_of_ble_eq_true rfl)⟩ ⟨Nat.zero_le _, Nat.zero_le _⟩ (Nat.le_of_ble_eq_true rfl) (fun r194 h => ?_)
      refine J_i2l (pc := 197) C dL_all_197 ?_
      refine J_ladd (pc := 198) C dL_all_198 ?_
      refine J_lmul (pc := 199) C dL_all_199 ?_
      refine J_aload_n (pc := 200) C dL_all_200 0 rfl ?_
      refine J_iconst (v := (0 : Int32)) (pc := 201) C dL_all_201 (by decide) ?_
      refine J_iload_n (pc := 202) C dL_all_202 2 rfl ?_
      refine J_iconst (v := (1 : Int32)) (pc := 203) C dL_all_203 (by decide) ?_
      refine J_cvP (pc := 204) (As := [.int (0 : Int32), .int x3, .int (1 : Int32)]) (st := [.long ((31 : Int64) * (((31 : Int64) * x1) + r194.2.1.toInt64)), .long (31 : Int64)]) C (fun z => (wPL cI cB cO A z)) dL_all_204 ml_RL_188 mi_yX10_poolCohort (fun a s2 hr => R_poolCohort l D cI cB cL cO pf N A r194.2.2 (0 : Int32) x3 (1 : Int32) hr) h at_this rfl rfl ⟨rfl, rfl⟩ ⟨(Nat.le_of_ble_eq_true rfl), (Nat.le_of_ble_eq_true rfl)⟩ ⟨Nat.zero_le _, Nat.zero_le _⟩ (Nat.le_of_ble_eq_true rfl) (fun r204 h => ?_)
      refine J_i2l (pc := 207) C dL_all_207 ?_
      refine J_ladd (pc := 208) C dL_all_208 ?_
      refine J_lmul (pc := 209) C dL_all_209 ?_
      refine J_aload_n (pc := 210) C dL_all_210 0 rfl ?_
      refine J_iconst (v := (0 : Int32)) (pc := 211) C dL_all_211 (by decide) ?_
      refine J_iload_n (pc := 212) C dL_all_212 2 rfl ?_
      refine J_iconst (v := (2 : Int32)) (pc := 213) C dL_all_213 (by decide) ?_
      refine J_cvP (pc := 214) (As := [.int (0 : Int32), .int x3, .int (2 : Int32)]) (st := [.long ((31 : Int64) * (((31 : Int64) * (((31 : Int64) * x1) + r194.2.1.toInt64)) + r204.2.1.toInt64))]) C (fun z => (wPL cI cB cO A z)) dL_all_214 ml_RL_188 mi_yX10_poolCohort (fun a s2 hr => R_poolCohort l D cI cB cL cO pf N A r204.2.2 (0 : Int32) x3 (2 : Int32) hr) h at_this rfl rfl ⟨rfl, rfl⟩ ⟨(Nat.le_of_ble_eq_true rfl), (Nat.le_of_ble_eq_true rfl)⟩ ⟨Nat.zero_le _, Nat.zero_le _⟩ (Nat.le_of_ble_eq_true rfl) (fun r214 h => ?_)
      refine J_i2l (pc := 217) C dL_all_217 ?_
      refine J_ladd (pc := 218) C dL_all_218 ?_
      refine J_lstore_n (lv2 := [(1, .long (((31 : Int64) * (((31 : Int64) * (((31 : Int64) * x1) + r194.2.1.toInt64)) + r204.2.1.toInt64)) + r214.2.1.toInt64)), (0, .ref (A 0 0)), (3, .int x3)]) (pc := 219) C dL_all_219 (by decide) rfl ?_
      refine J_iincN (pc := 220) (v := (1 : Int32)) C (fun y220 => [(3, .int y220), (1, .long (((31 : Int64) * (((31 : Int64) * (((31 : Int64) * x1) + r194.2.1.toInt64)) + r204.2.1.toInt64)) + r214.2.1.toInt64)), (0, .ref (A 0 0))]) dL_all_220 2 rfl (by decide) h (by decide) (fun _ => rfl) (fun y220 h => ?_)
      refine J_goto (tgt := 170) (pc := 223) C dL_all_223 (by decide) ?_
      refine J_sub (lv2 := [(0, .ref (A 0 0)), (1, .long (((31 : Int64) * (((31 : Int64) * (((31 : Int64) * x1) + r194.2.1.toInt64)) + r204.2.1.toInt64)) + r214.2.1.toInt64)), (3, .int y220)]) [2, 1, 0] rfl ?_
      exact ih _ _ _ h
set_option maxHeartbeats 4000000 in
set_option maxRecDepth 100000 in
theorem t_L_all_b103 {l : Launch} {D : va_G} {A : Nat → Nat → Nat} {cI cB cL cO : ClassId} {pf : Nat → Nat} {p : Program} {e : Env} {s : State} {m : MethodId} {args : Array Value} {below : List Frame} {meth : Method} {c : Code} {W0 : va_W} {N : Nat}  {x3 : Int32} {o : Int64 × T_PL} (C : jC p s m args meth c cL_all 5 RL D [(cI, .int), (cB, .byte), (cL, .byte), (cO, .object RX0)] pf (va_A W0 s.heap.size)) (hr : meth.sig.returnType = (some FieldType.long)) {k_45 : (Int64) → (Int32) → (T_PL) → Option (Int64 × T_PL)} (hk_45 : ∀ (x1 : Int64) (x3 : Int32) (zs : T_PL), k_45 x1 x3 zs = some o → J p l e { frames := 9, cells := 0, slots := 0, locals := 175 } s m args below meth c 5 D (va_A W0 s.heap.size) (MQ below (jQ D [(cI, .int), (cB, .byte), (cL, .byte), (cO, .object RX0)] W0 s.heap.size (is1 (some (.long o.1)) (wPL cI cB cO A o.2))) args s 0 0 (va_A W0 s.heap.size)) 0 0 45 [(0, .ref (A 0 0)), (1, .long x1), (3, .int x3)] [] (wPL cI cB cO A zs)) : ∀ (n : Nat) (x1 : Int64) (x4 : Int32) (zs : T_PL), f_L_all_b103 N k_45 x3 n x1 x4 zs = some o → J p l e { frames := 9, cells := 0, slots := 0, locals := 175 } s m args below meth c 5 D (va_A W0 s.heap.size) (MQ below (jQ D [(cI, .int), (cB, .byte), (cL, .byte), (cO, .object RX0)] W0 s.heap.size (is1 (some (.long o.1)) (wPL cI cB cO A o.2))) args s 0 0 (va_A W0 s.heap.size)) 0 0 103 [(0, .ref (A 0 0)), (1, .long x1), (3, .int x3), (4, .int x4)] [] (wPL cI cB cO A zs) := by
  intro n
  induction n with
  | zero =>
    intro _ _ _ h
    rw [f_L_all_b103] at h
    cases h
  | succ n ih =>
    intro x1 x4 zs h
    rw [f_L_all_b103] at h
    refine J_iload (pc := 103) C dL_all_103 3 rfl ?_
    refine J_aload_n (pc := 105) C dL_all_105 0 rfl ?_
    refine J_iload_n (pc := 106) C dL_all_106 2 rfl ?_
    refine J_cvP (pc := 107) (As := [.int x3]) (st := [.int x4]) C (fun z => (wPL cI cB cO A z)) dL_all_107 ml_RL_176 mi_yX10_cohortCount (fun a s2 hr => R_cohortCount l D cI cB cL cO pf N A zs x3 hr) h at_this rfl rfl ⟨rfl, rfl⟩ ⟨(Nat.le_of_ble_eq_true rfl), (Nat.le_of_ble_eq_true rfl)⟩ ⟨Nat.zero_le _, Nat.zero_le _⟩ (Nat.le_of_ble_eq_true rfl) (fun r107 h => ?_)
    refine J_ic_ge (pc := 110) (tgt := 149) C dL_all_110 (by decide) h (fun h => ?_) (fun h => ?_)
    · refine J_ldc2 (pc := 149) C dL_all_149 cw_RL_150 ?_
      refine J_lload_n (pc := 152) C dL_all_152 1 rfl ?_
      refine J_lmul (pc := 153) C dL_all_153 ?_
      refine J_aload_n (pc := 154) C dL_all_154 0 rfl ?_
      refine J_iload_n (pc := 155) C dL_all_155 2 rfl ?_
      refine J_cvP (pc := 156) (As := [.int x3]) (st := [.long ((31 : Int64) * x1)]) C (fun z => (wPL cI cB cO A z)) dL_all_156 ml_RL_182 mi_yX10_qualifying (fun a s2 hr => R_qualifying l D cI cB cL cO pf N A r107.2.2 x3 hr) h at_this rfl rfl ⟨rfl, rfl⟩ ⟨(Nat.le_of_ble_eq_true rfl), (Nat.le_of_ble_eq_true rfl)⟩ ⟨Nat.zero_le _, Nat.zero_le _⟩ (Nat.le_of_ble_eq_true rfl) (fun r156 h => ?_)
      refine J_i2l (pc := 159) C dL_all_159 ?_
      refine J_ladd (pc := 160) C dL_all_160 ?_
      refine J_lstore_n (lv2 := [(1, .long (((31 : Int64) * x1) + r156.2.1.toInt64)), (0, .ref (A 0 0)), (3, .int x3), (4, .int x4)]) (pc := 161) C dL_all_161 (by decide) rfl ?_
      refine J_iincN (pc := 162) (v := (1 : Int32)) C (fun y162 => [(3, .int y162), (1, .long (((31 : Int64) * x1) + r156.2.1.toInt64)), (0, .ref (A 0 0)), (4, .int x4)]) dL_all_162 2 rfl (by decide) h (by decide) (fun _ => rfl) (fun y162 h => ?_)
      refine J_goto (tgt := 45) (pc := 165) C dL_all_165 (by decide) ?_
      refine J_sub (lv2 := [(0, .ref (A 0 0)), (1, .long (((31 : Int64) * x1) + r156.2.1.toInt64)), (3, .int y162)]) [2, 1, 0] rfl ?_
      exact hk_45 _ _ _ h
    · refine J_ldc2 (pc := 113) C dL_all_113 cw_RL_150 ?_
      refine J_ldc2 (pc := 116) C dL_all_116 cw_RL_150 ?_
      refine J_lload_n (pc := 119) C dL_all_119 1 rfl ?_
      refine J_lmul (pc := 120) C dL_all_120 ?_
      refine J_aload_n (pc := 121) C dL_all_121 0 rfl ?_
      refine J_iload_n (pc := 122) C dL_all_122 2 rfl ?_
      refine J_iload (pc := 123) C dL_all_123 3 rfl ?_
      refine J_iconst (v := (0 : Int32)) (pc := 125) C dL_all_125 (by decide) ?_
      refine J_cvP (pc := 126) (As := [.int x3, .int x4, .int (0 : Int32)]) (st := [.long ((31 : Int64) * x1), .long (31 : Int64)]) C (fun z => (wPL cI cB cO A z)) dL_all_126 ml_RL_179 mi_yX10_cohort (fun a s2 hr => R_cohort l D cI cB cL cO pf N A r107.2.2 x3 x4 (0 : Int32) hr) h at_this rfl rfl ⟨rfl, rfl⟩ ⟨(Nat.le_of_ble_eq_true rfl), (Nat.le_of_ble_eq_true rfl)⟩ ⟨Nat.zero_le _, Nat.zero_le _⟩ (Nat.le_of_ble_eq_true rfl) (fun r126 h => ?_)
      refine J_i2l (pc := 129) C dL_all_129 ?_
      refine J_ladd (pc := 130) C dL_all_130 ?_
      refine J_lmul (pc := 131) C dL_all_131 ?_
      refine J_aload_n (pc := 132) C dL_all_132 0 rfl ?_
      refine J_iload_n (pc := 133) C dL_all_133 2 rfl ?_
      refine J_iload (pc := 134) C dL_all_134 3 rfl ?_
      refine J_iconst (v := (1 : Int32)) (pc := 136) C dL_all_136 (by decide) ?_
      refine J_cvP (pc := 137) (As := [.int x3, .int x4, .int (1 : Int32)]) (st := [.long ((31 : Int64) * (((31 : Int64) * x1) + r126.2.1.toInt64))]) C (fun z => (wPL cI cB cO A z)) dL_all_137 ml_RL_179 mi_yX10_cohort (fun a s2 hr => R_cohort l D cI cB cL cO pf N A r126.2.2 x3 x4 (1 : Int32) hr) h at_this rfl rfl ⟨rfl, rfl⟩ ⟨(Nat.le_of_ble_eq_true rfl), (Nat.le_of_ble_eq_true rfl)⟩ ⟨Nat.zero_le _, Nat.zero_le _⟩ (Nat.le_of_ble_eq_true rfl) (fun r137 h => ?_)
      refine J_i2l (pc := 140) C dL_all_140 ?_
      refine J_ladd (pc := 141) C dL_all_141 ?_
      refine J_lstore_n (lv2 := [(1, .long (((31 : Int64) * (((31 : Int64) * x1) + r126.2.1.toInt64)) + r137.2.1.toInt64)), (0, .ref (A 0 0)), (3, .int x3), (4, .int x4)]) (pc := 142) C dL_all_142 (by decide) rfl ?_
      refine J_iincN (pc := 143) (v := (1 : Int32)) C (fun y143 => [(4, .int y143), (1, .long (((31 : Int64) * (((31 : Int64) * x1) + r126.2.1.toInt64)) + r137.2.1.toInt64)), (0, .ref (A 0 0)), (3, .int x3)]) dL_all_143 3 rfl (by decide) h (by decide) (fun _ => rfl) (fun y143 h => ?_)
      refine J_goto (tgt := 103) (pc := 146) C dL_all_146 (by decide) ?_
      refine J_sub (lv2 := [(0, .ref (A 0 0)), (1, .long (((31 : Int64) * (((31 : Int64) * x1) + r126.2.1.toInt64)) + r137.2.1.toInt64)), (3, .int x3), (4, .int y143)]) [2, 1, 3, 0] rfl ?_
      exact ih _ _ _ h
set_option maxHeartbeats 4000000 in
set_option maxRecDepth 100000 in
theorem t_L_all_b45 {l : Launch} {D : va_G} {A : Nat → Nat → Nat} {cI cB cL cO : ClassId} {pf : Nat → Nat} {p : Program} {e : Env} {s : State} {m : MethodId} {args : Array Value} {below : List Frame} {meth : Method} {c : Code} {W0 : va_W} {N : Nat}  {o : Int64 × T_PL} (C : jC p s m args meth c cL_all 5 RL D [(cI, .int), (cB, .byte), (cL, .byte), (cO, .object RX0)] pf (va_A W0 s.heap.size)) (hr : meth.sig.returnType = (some FieldType.long)) : ∀ (n : Nat) (x1 : Int64) (x3 : Int32) (zs : T_PL), f_L_all_b45 N n x1 x3 zs = some o → J p l e { frames := 9, cells := 0, slots := 0, locals := 175 } s m args below meth c 5 D (va_A W0 s.heap.size) (MQ below (jQ D [(cI, .int), (cB, .byte), (cL, .byte), (cO, .object RX0)] W0 s.heap.size (is1 (some (.long o.1)) (wPL cI cB cO A o.2))) args s 0 0 (va_A W0 s.heap.size)) 0 0 45 [(0, .ref (A 0 0)), (1, .long x1), (3, .int x3)] [] (wPL cI cB cO A zs) := by
  intro n
  induction n with
  | zero =>
    intro _ _ _ h
    rw [f_L_all_b45] at h
    cases h
  | succ n ih =>
    intro x1 x3 zs h
    rw [f_L_all_b45] at h
    refine J_iload_n (pc := 45) C dL_all_45 2 rfl ?_
    refine J_aload_n (pc := 46) C dL_all_46 0 rfl ?_
    refine J_iconst (v := (3 : Int32)) (pc := 47) C dL_all_47 (by decide) ?_
    refine J_cvP (pc := 48) (As := [.int (3 : Int32)]) (st := [.int x3]) C (fun z => (wPL cI cB cO A z)) dL_all_48 ml_RL_161 mi_yX10_setup (fun a s2 hr => R_setup l D cI cB cL cO pf N A zs (3 : Int32) hr) h at_this rfl rfl ⟨rfl, rfl⟩ ⟨(Nat.le_of_ble_eq_true rfl), (Nat.le_of_ble_eq_true rfl)⟩ ⟨Nat.zero_le _, Nat.zero_le _⟩ (Nat.le_of_ble_eq_true rfl) (fun r48 h => ?_)
    refine J_ic_ge (pc := 51) (tgt := 168) C dL_all_51 (by decide) h (fun h => ?_) (fun h => ?_)
    · refine J_iconst (v := (0 : Int32)) (pc := 168) C dL_all_168 (by decide) ?_
      refine J_istore_n (lv2 := [(3, .int (0 : Int32)), (0, .ref (A 0 0)), (1, .long x1)]) (pc := 169) C dL_all_169 (by decide) rfl ?_
      refine J_sub (lv2 := [(0, .ref (A 0 0)), (1, .long x1), (3, .int (0 : Int32))]) [1, 2, 0] rfl ?_
      exact t_L_all_b170 C hr N _ _ _ h
    · refine J_ldc2 (pc := 54) C dL_all_54 cw_RL_150 ?_
      refine J_ldc2 (pc := 57) C dL_all_57 cw_RL_150 ?_
      refine J_ldc2 (pc := 60) C dL_all_60 cw_RL_150 ?_
      refine J_ldc2 (pc := 63) C dL_all_63 cw_RL_150 ?_
      refine J_lload_n (pc := 66) C dL_all_66 1 rfl ?_
      refine J_lmul (pc := 67) C dL_all_67 ?_
      refine J_aload_n (pc := 68) C dL_all_68 0 rfl ?_
      refine J_iload_n (pc := 69) C dL_all_69 2 rfl ?_
      refine J_cvP (pc := 70) (As := [.int x3]) (st := [.long ((31 : Int64) * x1), .long (31 : Int64), .long (31 : Int64), .long (31 : Int64)]) C (fun z => (wPL cI cB cO A z)) dL_all_70 ml_RL_164 mi_yX10_debt (fun a s2 hr => R_debt l D cI cB cL cO pf N A r48.2.2 x3 hr) h at_this rfl rfl ⟨rfl, rfl⟩ ⟨(Nat.le_of_ble_eq_true rfl), (Nat.le_of_ble_eq_true rfl)⟩ ⟨Nat.zero_le _, Nat.zero_le _⟩ (Nat.le_of_ble_eq_true rfl) (fun r70 h => ?_)
      refine J_i2l (pc := 73) C dL_all_73 ?_
      refine J_ladd (pc := 74) C dL_all_74 ?_
      refine J_lmul (pc := 75) C dL_all_75 ?_
      refine J_aload_n (pc := 76) C dL_all_76 0 rfl ?_
      refine J_iload_n (pc := 77) C dL_all_77 2 rfl ?_
      refine J_cvP (pc := 78) (As := [.int x3]) (st := [.long ((31 : Int64) * (((31 : Int64) * x1) + r70.2.1.toInt64)), .long (31 : Int64), .long (31 : Int64)]) C (fun z => (wPL cI cB cO A z)) dL_all_78 ml_RL_167 mi_yX10_tier (fun a s2 hr => R_tier l D cI cB cL cO pf N A r70.2.2 x3 hr) h at_this rfl rfl ⟨rfl, rfl⟩ ⟨(Nat.le_of_ble_eq_true rfl), (Nat.le_of_ble_eq_true rfl)⟩ ⟨Nat.zero_le _, Nat.zero_le _⟩ (Nat.le_of_ble_eq_true rfl) (fun r78 h => ?_)
      refine J_i2l (pc := 81) C dL_all_81 ?_
      refine J_ladd (pc := 82) C dL_all_82 ?_
      refine J_lmul (pc := 83) C dL_all_83 ?_
      refine J_aload_n (pc := 84) C dL_all_84 0 rfl ?_
      refine J_iload_n (pc := 85) C dL_all_85 2 rfl ?_
      refine J_cvP (pc := 86) (As := [.int x3]) (st := [.long ((31 : Int64) * (((31 : Int64) * (((31 : Int64) * x1) + r70.2.1.toInt64)) + r78.2.1.toInt64)), .long (31 : Int64)]) C (fun z => (wPL cI cB cO A z)) dL_all_86 ml_RL_170 mi_yX10_belowSince (fun a s2 hr => R_belowSince l D cI cB cL cO pf N A r78.2.2 x3 hr) h at_this rfl rfl ⟨rfl, rfl⟩ ⟨(Nat.le_of_ble_eq_true rfl), (Nat.le_of_ble_eq_true rfl)⟩ ⟨Nat.zero_le _, Nat.zero_le _⟩ (Nat.le_of_ble_eq_true rfl) (fun r86 h => ?_)
      refine J_i2l (pc := 89) C dL_all_89 ?_
      refine J_ladd (pc := 90) C dL_all_90 ?_
      refine J_lmul (pc := 91) C dL_all_91 ?_
      refine J_aload_n (pc := 92) C dL_all_92 0 rfl ?_
      refine J_iload_n (pc := 93) C dL_all_93 2 rfl ?_
      refine J_cvP (pc := 94) (As := [.int x3]) (st := [.long ((31 : Int64) * (((31 : Int64) * (((31 : Int64) * (((31 : Int64) * x1) + r70.2.1.toInt64)) + r78.2.1.toInt64)) + r86.2.1.toInt64))]) C (fun z => (wPL cI cB cO A z)) dL_all_94 ml_RL_173 mi_yX10_household (fun a s2 hr => R_household l D cI cB cL cO pf N A r86.2.2 x3 hr) h at_this rfl rfl ⟨rfl, rfl⟩ ⟨(Nat.le_of_ble_eq_true rfl), (Nat.le_of_ble_eq_true rfl)⟩ ⟨Nat.zero_le _, Nat.zero_le _⟩ (Nat.le_of_ble_eq_true rfl) (fun r94 h => ?_)
      refine J_i2l (pc := 97) C dL_all_97 ?_
      refine J_ladd (pc := 98) C dL_all_98 ?_
      refine J_lstore_n (lv2 := [(1, .long (((31 : Int64) * (((31 : Int64) * (((31 : Int64) * (((31 : Int64) * x1) + r70.2.1.toInt64)) + r78.2.1.toInt64)) + r86.2.1.toInt64)) + r94.2.1.toInt64)), (0, .ref (A 0 0)), (3, .int x3)]) (pc := 99) C dL_all_99 (by decide) rfl ?_
      refine J_iconst (v := (0 : Int32)) (pc := 100) C dL_all_100 (by decide) ?_
      refine J_istore (lv2 := [(4, .int (0 : Int32)), (1, .long (((31 : Int64) * (((31 : Int64) * (((31 : Int64) * (((31 : Int64) * x1) + r70.2.1.toInt64)) + r78.2.1.toInt64)) + r86.2.1.toInt64)) + r94.2.1.toInt64)), (0, .ref (A 0 0)), (3, .int x3)]) (pc := 101) C dL_all_101 (by decide) rfl ?_
      refine J_sub (lv2 := [(0, .ref (A 0 0)), (1, .long (((31 : Int64) * (((31 : Int64) * (((31 : Int64) * (((31 : Int64) * x1) + r70.2.1.toInt64)) + r78.2.1.toInt64)) + r86.2.1.toInt64)) + r94.2.1.toInt64)), (3, .int x3), (4, .int (0 : Int32))]) [2, 1, 3, 0] rfl ?_
      exact t_L_all_b103 C hr ih N _ _ _ h
set_option maxHeartbeats 4000000 in
set_option maxRecDepth 100000 in
theorem t_L_all_b18 {l : Launch} {D : va_G} {A : Nat → Nat → Nat} {cI cB cL cO : ClassId} {pf : Nat → Nat} {p : Program} {e : Env} {s : State} {m : MethodId} {args : Array Value} {below : List Frame} {meth : Method} {c : Code} {W0 : va_W} {N : Nat}  {o : Int64 × T_PL} (C : jC p s m args meth c cL_all 5 RL D [(cI, .int), (cB, .byte), (cL, .byte), (cO, .object RX0)] pf (va_A W0 s.heap.size)) (hr : meth.sig.returnType = (some FieldType.long)) : ∀ (n : Nat) (x1 : Int64) (x3 : Int32) (zs : T_PL), f_L_all_b18 N n x1 x3 zs = some o → J p l e { frames := 9, cells := 0, slots := 0, locals := 175 } s m args below meth c 5 D (va_A W0 s.heap.size) (MQ below (jQ D [(cI, .int), (cB, .byte), (cL, .byte), (cO, .object RX0)] W0 s.heap.size (is1 (some (.long o.1)) (wPL cI cB cO A o.2))) args s 0 0 (va_A W0 s.heap.size)) 0 0 18 [(0, .ref (A 0 0)), (1, .long x1), (3, .int x3)] [] (wPL cI cB cO A zs) := by
  intro n
  induction n with
  | zero =>
    intro _ _ _ h
    rw [f_L_all_b18] at h
    cases h
  | succ n ih =>
    intro x1 x3 zs h
    rw [f_L_all_b18] at h
    refine J_iload_n (pc := 18) C dL_all_18 2 rfl ?_
    refine J_bipush (v := (7 : Int32)) (pc := 19) C dL_all_19 (by decide) ?_
    refine J_ic_ge (pc := 21) (tgt := 43) C dL_all_21 (by decide) h (fun h => ?_) (fun h => ?_)
    · refine J_iconst (v := (0 : Int32)) (pc := 43) C dL_all_43 (by decide) ?_
      refine J_istore_n (lv2 := [(3, .int (0 : Int32)), (0, .ref (A 0 0)), (1, .long x1)]) (pc := 44) C dL_all_44 (by decide) rfl ?_
      refine J_sub (lv2 := [(0, .ref (A 0 0)), (1, .long x1), (3, .int (0 : Int32))]) [1, 2, 0] rfl ?_
      exact t_L_all_b45 C hr N _ _ _ h
    · refine J_ldc2 (pc := 24) C dL_all_24 cw_RL_150 ?_
      refine J_lload_n (pc := 27) C dL_all_27 1 rfl ?_
      refine J_lmul (pc := 28) C dL_all_28 ?_
      refine J_aload_n (pc := 29) C dL_all_29 0 rfl ?_
      refine J_iload_n (pc := 30) C dL_all_30 2 rfl ?_
      refine J_cvP (pc := 31) (As := [.int x3]) (st := [.long ((31 : Int64) * x1)]) C (fun z => (wPL cI cB cO A z)) dL_all_31 ml_RL_158 mi_yX10_total (fun a s2 hr => R_total l D cI cB cL cO pf N A zs x3 hr) h at_this rfl rfl ⟨rfl, rfl⟩ ⟨(Nat.le_of_ble_eq_true rfl), (Nat.le_of_ble_eq_true rfl)⟩ ⟨Nat.zero_le _, Nat.zero_le _⟩ (Nat.le_of_ble_eq_true rfl) (fun r31 h => ?_)
      refine J_i2l (pc := 34) C dL_all_34 ?_
      refine J_ladd (pc := 35) C dL_all_35 ?_
      refine J_lstore_n (lv2 := [(1, .long (((31 : Int64) * x1) + r31.2.1.toInt64)), (0, .ref (A 0 0)), (3, .int x3)]) (pc := 36) C dL_all_36 (by decide) rfl ?_
      refine J_iincN (pc := 37) (v := (1 : Int32)) C (fun y37 => [(3, .int y37), (1, .long (((31 : Int64) * x1) + r31.2.1.toInt64)), (0, .ref (A 0 0))]) dL_all_37 2 rfl (by decide) h (by decide) (fun _ => rfl) (fun y37 h => ?_)
      refine J_goto (tgt := 18) (pc := 40) C dL_all_40 (by decide) ?_
      refine J_sub (lv2 := [(0, .ref (A 0 0)), (1, .long (((31 : Int64) * x1) + r31.2.1.toInt64)), (3, .int y37)]) [2, 1, 0] rfl ?_
      exact ih _ _ _ h
set_option maxHeartbeats 4000000 in
set_option maxRecDepth 100000 in
theorem c_L_all (l : Launch) (D : va_G) (cI cB cL cO : ClassId) (pf : Nat → Nat) (N : Nat) (A : Nat → Nat → Nat) (zs : T_PL) (o : Int64 × T_PL) (h : f_L_all N zs = some o) : Ct l D [(cI, .int), (cB, .byte), (cL, .byte), (cO, .object RX0)] pf yL_all cL_all 5 (some FieldType.long) { frames := 9, cells := 0, slots := 0, locals := 175 } [.ref (A 0 0)] (wPL cI cB cO A zs) (is1 (some (.long o.1)) (wPL cI cB cO A o.2)) := by
  refine Ct_of (own := RL) (lv0 := [(0, .ref (A 0 0))]) (by decide) rfl rfl (Nat.le_of_ble_eq_true rfl) ?_
  intro p e s m args below meth c C hr hnm
  unfold f_L_all at h
  refine J_ldc2 (pc := 0) C dL_all_0 cw_RL_150 ?_
  refine J_aload_n (pc := 3) C dL_all_3 0 rfl ?_
  refine J_cvL (pc := 4) (As := []) (st := [.long (31 : Int64)]) (V := fun r4 => some (.int r4.1)) C (fun r4 => (wPL cI cB cO A r4.2)) dL_all_4 ml_RL_152 mi_yX10_today (fun r hr => Q_today l D cI cB cL cO pf N A zs r hr) h at_this rfl rfl ⟨rfl, rfl⟩ ⟨(Nat.le_of_ble_eq_true rfl), (Nat.le_of_ble_eq_true rfl)⟩ ⟨Nat.zero_le _, Nat.zero_le _⟩ (Nat.le_of_ble_eq_true rfl) (fun r4 h => ?_)
  refine J_i2l (pc := 7) C dL_all_7 ?_
  refine J_lmul (pc := 8) C dL_all_8 ?_
  refine J_aload_n (pc := 9) C dL_all_9 0 rfl ?_
  refine J_cvL (pc := 10) (As := []) (st := [.long ((31 : Int64) * r4.1.toInt64)]) (V := fun r10 => some (.int r10.1)) C (fun r10 => (wPL cI cB cO A r10.2)) dL_all_10 ml_RL_155 mi_yX10_totalBreakage (fun r hr => Q_totalBreakage l D cI cB cL cO pf N A r4.2 r hr) h at_this rfl rfl ⟨rfl, rfl⟩ ⟨(Nat.le_of_ble_eq_true rfl), (Nat.le_of_ble_eq_true rfl)⟩ ⟨Nat.zero_le _, Nat.zero_le _⟩ (Nat.le_of_ble_eq_true rfl) (fun r10 h => ?_)
  refine J_i2l (pc := 13) C dL_all_13 ?_
  refine J_ladd (pc := 14) C dL_all_14 ?_
  refine J_lstore_n (lv2 := [(1, .long (((31 : Int64) * r4.1.toInt64) + r10.1.toInt64)), (0, .ref (A 0 0))]) (pc := 15) C dL_all_15 (by decide) rfl ?_
  refine J_iconst (v := (0 : Int32)) (pc := 16) C dL_all_16 (by decide) ?_
  refine J_istore_n (lv2 := [(3, .int (0 : Int32)), (1, .long (((31 : Int64) * r4.1.toInt64) + r10.1.toInt64)), (0, .ref (A 0 0))]) (pc := 17) C dL_all_17 (by decide) rfl ?_
  refine J_sub (lv2 := [(0, .ref (A 0 0)), (1, .long (((31 : Int64) * r4.1.toInt64) + r10.1.toInt64)), (3, .int (0 : Int32))]) [2, 1, 0] rfl ?_
  exact t_L_all_b18 C hr N _ _ _ h
-- isSound
theorem dL_isSound_0 : decode cL_isSound 0 = .ok (.iconst 0, 1) := by decide +kernel
theorem dL_isSound_1 : decode cL_isSound 1 = .ok (.istore_n 2, 1) := by decide +kernel
theorem dL_isSound_2 : decode cL_isSound 2 = .ok (.iconst 0, 1) := by decide +kernel
theorem dL_isSound_3 : decode cL_isSound 3 = .ok (.istore_n 3, 1) := by decide +kernel
theorem dL_isSound_4 : decode cL_isSound 4 = .ok (.iconst 0, 1) := by decide +kernel
theorem dL_isSound_5 : decode cL_isSound 5 = .ok (.istore 4, 2) := by decide +kernel
theorem dL_isSound_7 : decode cL_isSound 7 = .ok (.iload 4, 2) := by decide +kernel
theorem dL_isSound_9 : decode cL_isSound 9 = .ok (.aload_n 0, 1) := by decide +kernel
theorem dL_isSound_10 : decode cL_isSound 10 = .ok (.invokestatic 108, 3) := by decide +kernel
theorem dL_isSound_13 : decode cL_isSound 13 = .ok (.if_icmp .ge 267, 3) := by decide +kernel
theorem dL_isSound_16 : decode cL_isSound 16 = .ok (.aload_n 1, 1) := by decide +kernel
theorem dL_isSound_17 : decode cL_isSound 17 = .ok (.invokevirtual 152, 3) := by decide +kernel
theorem dL_isSound_20 : decode cL_isSound 20 = .ok (.istore 5, 2) := by decide +kernel
theorem dL_isSound_22 : decode cL_isSound 22 = .ok (.iconst 0, 1) := by decide +kernel
theorem dL_isSound_23 : decode cL_isSound 23 = .ok (.istore 6, 2) := by decide +kernel
theorem dL_isSound_25 : decode cL_isSound 25 = .ok (.iconst 0, 1) := by decide +kernel
theorem dL_isSound_26 : decode cL_isSound 26 = .ok (.istore 7, 2) := by decide +kernel
theorem dL_isSound_28 : decode cL_isSound 28 = .ok (.iload 7, 2) := by decide +kernel
theorem dL_isSound_30 : decode cL_isSound 30 = .ok (.aload_n 1, 1) := by decide +kernel
theorem dL_isSound_31 : decode cL_isSound 31 = .ok (.iload 4, 2) := by decide +kernel
theorem dL_isSound_33 : decode cL_isSound 33 = .ok (.invokevirtual 176, 3) := by decide +kernel
theorem dL_isSound_36 : decode cL_isSound 36 = .ok (.if_icmp .ge 84, 3) := by decide +kernel
theorem dL_isSound_39 : decode cL_isSound 39 = .ok (.aload_n 1, 1) := by decide +kernel
theorem dL_isSound_40 : decode cL_isSound 40 = .ok (.iload 4, 2) := by decide +kernel
theorem dL_isSound_42 : decode cL_isSound 42 = .ok (.iload 7, 2) := by decide +kernel
theorem dL_isSound_44 : decode cL_isSound 44 = .ok (.iconst 0, 1) := by decide +kernel
theorem dL_isSound_45 : decode cL_isSound 45 = .ok (.invokevirtual 179, 3) := by decide +kernel
theorem dL_isSound_48 : decode cL_isSound 48 = .ok (.iconst 1, 1) := by decide +kernel
theorem dL_isSound_49 : decode cL_isSound 49 = .ok (.if_icmp .lt 38, 3) := by decide +kernel
theorem dL_isSound_52 : decode cL_isSound 52 = .ok (.aload_n 1, 1) := by decide +kernel
theorem dL_isSound_53 : decode cL_isSound 53 = .ok (.iload 4, 2) := by decide +kernel
theorem dL_isSound_55 : decode cL_isSound 55 = .ok (.iload 7, 2) := by decide +kernel
theorem dL_isSound_57 : decode cL_isSound 57 = .ok (.iconst 1, 1) := by decide +kernel
theorem dL_isSound_58 : decode cL_isSound 58 = .ok (.invokevirtual 179, 3) := by decide +kernel
theorem dL_isSound_61 : decode cL_isSound 61 = .ok (.iload 5, 2) := by decide +kernel
theorem dL_isSound_63 : decode cL_isSound 63 = .ok (.if_icmp .le 24, 3) := by decide +kernel
theorem dL_isSound_66 : decode cL_isSound 66 = .ok (.aload_n 1, 1) := by decide +kernel
theorem dL_isSound_67 : decode cL_isSound 67 = .ok (.iload 4, 2) := by decide +kernel
theorem dL_isSound_69 : decode cL_isSound 69 = .ok (.iload 7, 2) := by decide +kernel
theorem dL_isSound_71 : decode cL_isSound 71 = .ok (.iconst 1, 1) := by decide +kernel
theorem dL_isSound_72 : decode cL_isSound 72 = .ok (.invokevirtual 179, 3) := by decide +kernel
theorem dL_isSound_75 : decode cL_isSound 75 = .ok (.aload_n 1, 1) := by decide +kernel
theorem dL_isSound_76 : decode cL_isSound 76 = .ok (.invokevirtual 152, 3) := by decide +kernel
theorem dL_isSound_79 : decode cL_isSound 79 = .ok (.aload_n 0, 1) := by decide +kernel
theorem dL_isSound_80 : decode cL_isSound 80 = .ok (.invokestatic 61, 3) := by decide +kernel
theorem dL_isSound_83 : decode cL_isSound 83 = .ok (.iadd, 1) := by decide +kernel
theorem dL_isSound_84 : decode cL_isSound 84 = .ok (.if_icmp .le 5, 3) := by decide +kernel
theorem dL_isSound_87 : decode cL_isSound 87 = .ok (.iconst 0, 1) := by decide +kernel
theorem dL_isSound_88 : decode cL_isSound 88 = .ok (.ireturn, 1) := by decide +kernel
theorem dL_isSound_89 : decode cL_isSound 89 = .ok (.aload_n 1, 1) := by decide +kernel
theorem dL_isSound_90 : decode cL_isSound 90 = .ok (.iload 4, 2) := by decide +kernel
theorem dL_isSound_92 : decode cL_isSound 92 = .ok (.iload 7, 2) := by decide +kernel
theorem dL_isSound_94 : decode cL_isSound 94 = .ok (.iconst 1, 1) := by decide +kernel
theorem dL_isSound_95 : decode cL_isSound 95 = .ok (.invokevirtual 179, 3) := by decide +kernel
theorem dL_isSound_98 : decode cL_isSound 98 = .ok (.istore 5, 2) := by decide +kernel
theorem dL_isSound_100 : decode cL_isSound 100 = .ok (.iload 6, 2) := by decide +kernel
theorem dL_isSound_102 : decode cL_isSound 102 = .ok (.aload_n 1, 1) := by decide +kernel
theorem dL_isSound_103 : decode cL_isSound 103 = .ok (.iload 4, 2) := by decide +kernel
theorem dL_isSound_105 : decode cL_isSound 105 = .ok (.iload 7, 2) := by decide +kernel
theorem dL_isSound_107 : decode cL_isSound 107 = .ok (.iconst 0, 1) := by decide +kernel
theorem dL_isSound_108 : decode cL_isSound 108 = .ok (.invokevirtual 179, 3) := by decide +kernel
theorem dL_isSound_111 : decode cL_isSound 111 = .ok (.iadd, 1) := by decide +kernel
theorem dL_isSound_112 : decode cL_isSound 112 = .ok (.istore 6, 2) := by decide +kernel
theorem dL_isSound_114 : decode cL_isSound 114 = .ok (.iinc 7 1, 3) := by decide +kernel
theorem dL_isSound_117 : decode cL_isSound 117 = .ok (.goto (-89), 3) := by decide +kernel
theorem dL_isSound_120 : decode cL_isSound 120 = .ok (.iload 6, 2) := by decide +kernel
theorem dL_isSound_122 : decode cL_isSound 122 = .ok (.aload_n 1, 1) := by decide +kernel
theorem dL_isSound_123 : decode cL_isSound 123 = .ok (.iload 4, 2) := by decide +kernel
theorem dL_isSound_125 : decode cL_isSound 125 = .ok (.invokevirtual 200, 3) := by decide +kernel
theorem dL_isSound_128 : decode cL_isSound 128 = .ok (.if_icmp .ne 27, 3) := by decide +kernel
theorem dL_isSound_131 : decode cL_isSound 131 = .ok (.aload_n 1, 1) := by decide +kernel
theorem dL_isSound_132 : decode cL_isSound 132 = .ok (.iload 4, 2) := by decide +kernel
theorem dL_isSound_134 : decode cL_isSound 134 = .ok (.invokevirtual 164, 3) := by decide +kernel
theorem dL_isSound_137 : decode cL_isSound 137 = .ok (.ifCond .lt 18, 3) := by decide +kernel
theorem dL_isSound_140 : decode cL_isSound 140 = .ok (.aload_n 1, 1) := by decide +kernel
theorem dL_isSound_141 : decode cL_isSound 141 = .ok (.iload 4, 2) := by decide +kernel
theorem dL_isSound_143 : decode cL_isSound 143 = .ok (.invokevirtual 167, 3) := by decide +kernel
theorem dL_isSound_146 : decode cL_isSound 146 = .ok (.aload_n 1, 1) := by decide +kernel
theorem dL_isSound_147 : decode cL_isSound 147 = .ok (.iload 4, 2) := by decide +kernel
theorem dL_isSound_149 : decode cL_isSound 149 = .ok (.invokevirtual 203, 3) := by decide +kernel
theorem dL_isSound_152 : decode cL_isSound 152 = .ok (.if_icmp .ge 5, 3) := by decide +kernel
theorem dL_isSound_155 : decode cL_isSound 155 = .ok (.iconst 0, 1) := by decide +kernel
theorem dL_isSound_156 : decode cL_isSound 156 = .ok (.ireturn, 1) := by decide +kernel
theorem dL_isSound_157 : decode cL_isSound 157 = .ok (.aload_n 1, 1) := by decide +kernel
theorem dL_isSound_158 : decode cL_isSound 158 = .ok (.iload 4, 2) := by decide +kernel
theorem dL_isSound_160 : decode cL_isSound 160 = .ok (.invokevirtual 170, 3) := by decide +kernel
theorem dL_isSound_163 : decode cL_isSound 163 = .ok (.ifCond .lt 7, 3) := by decide +kernel
theorem dL_isSound_166 : decode cL_isSound 166 = .ok (.iconst 1, 1) := by decide +kernel
theorem dL_isSound_167 : decode cL_isSound 167 = .ok (.goto 4, 3) := by decide +kernel
theorem dL_isSound_170 : decode cL_isSound 170 = .ok (.iconst 0, 1) := by decide +kernel
theorem dL_isSound_171 : decode cL_isSound 171 = .ok (.aload_n 1, 1) := by decide +kernel
theorem dL_isSound_172 : decode cL_isSound 172 = .ok (.iload 4, 2) := by decide +kernel
theorem dL_isSound_174 : decode cL_isSound 174 = .ok (.invokevirtual 167, 3) := by decide +kernel
theorem dL_isSound_177 : decode cL_isSound 177 = .ok (.aload_n 1, 1) := by decide +kernel
theorem dL_isSound_178 : decode cL_isSound 178 = .ok (.iload 4, 2) := by decide +kernel
theorem dL_isSound_180 : decode cL_isSound 180 = .ok (.invokevirtual 203, 3) := by decide +kernel
theorem dL_isSound_183 : decode cL_isSound 183 = .ok (.if_icmp .le 7, 3) := by decide +kernel
theorem dL_isSound_186 : decode cL_isSound 186 = .ok (.iconst 1, 1) := by decide +kernel
theorem dL_isSound_187 : decode cL_isSound 187 = .ok (.goto 4, 3) := by decide +kernel
theorem dL_isSound_190 : decode cL_isSound 190 = .ok (.iconst 0, 1) := by decide +kernel
theorem dL_isSound_191 : decode cL_isSound 191 = .ok (.if_icmp .ne 16, 3) := by decide +kernel
theorem dL_isSound_194 : decode cL_isSound 194 = .ok (.aload_n 1, 1) := by decide +kernel
theorem dL_isSound_195 : decode cL_isSound 195 = .ok (.iload 4, 2) := by decide +kernel
theorem dL_isSound_197 : decode cL_isSound 197 = .ok (.invokevirtual 170, 3) := by decide +kernel
theorem dL_isSound_200 : decode cL_isSound 200 = .ok (.aload_n 1, 1) := by decide +kernel
theorem dL_isSound_201 : decode cL_isSound 201 = .ok (.invokevirtual 152, 3) := by decide +kernel
theorem dL_isSound_204 : decode cL_isSound 204 = .ok (.if_icmp .le 5, 3) := by decide +kernel
theorem dL_isSound_207 : decode cL_isSound 207 = .ok (.iconst 0, 1) := by decide +kernel
theorem dL_isSound_208 : decode cL_isSound 208 = .ok (.ireturn, 1) := by decide +kernel
theorem dL_isSound_209 : decode cL_isSound 209 = .ok (.aload_n 1, 1) := by decide +kernel
theorem dL_isSound_210 : decode cL_isSound 210 = .ok (.iload 4, 2) := by decide +kernel
theorem dL_isSound_212 : decode cL_isSound 212 = .ok (.invokevirtual 173, 3) := by decide +kernel
theorem dL_isSound_215 : decode cL_isSound 215 = .ok (.ifCond .ge 26, 3) := by decide +kernel
theorem dL_isSound_218 : decode cL_isSound 218 = .ok (.aload_n 1, 1) := by decide +kernel
theorem dL_isSound_219 : decode cL_isSound 219 = .ok (.iload 4, 2) := by decide +kernel
theorem dL_isSound_221 : decode cL_isSound 221 = .ok (.invokevirtual 206, 3) := by decide +kernel
theorem dL_isSound_224 : decode cL_isSound 224 = .ok (.ifCond .ne 34, 3) := by decide +kernel
theorem dL_isSound_227 : decode cL_isSound 227 = .ok (.aload_n 1, 1) := by decide +kernel
theorem dL_isSound_228 : decode cL_isSound 228 = .ok (.iload 4, 2) := by decide +kernel
theorem dL_isSound_230 : decode cL_isSound 230 = .ok (.invokevirtual 209, 3) := by decide +kernel
theorem dL_isSound_233 : decode cL_isSound 233 = .ok (.iload 6, 2) := by decide +kernel
theorem dL_isSound_235 : decode cL_isSound 235 = .ok (.if_icmp .eq 25, 3) := by decide +kernel
theorem dL_isSound_238 : decode cL_isSound 238 = .ok (.goto 20, 3) := by decide +kernel
theorem dL_isSound_241 : decode cL_isSound 241 = .ok (.aload_n 1, 1) := by decide +kernel
theorem dL_isSound_242 : decode cL_isSound 242 = .ok (.iload 4, 2) := by decide +kernel
theorem dL_isSound_244 : decode cL_isSound 244 = .ok (.invokevirtual 209, 3) := by decide +kernel
theorem dL_isSound_247 : decode cL_isSound 247 = .ok (.iload 6, 2) := by decide +kernel
theorem dL_isSound_249 : decode cL_isSound 249 = .ok (.aload_n 1, 1) := by decide +kernel
theorem dL_isSound_250 : decode cL_isSound 250 = .ok (.iconst 0, 1) := by decide +kernel
theorem dL_isSound_251 : decode cL_isSound 251 = .ok (.invokevirtual 212, 3) := by decide +kernel
theorem dL_isSound_254 : decode cL_isSound 254 = .ok (.iadd, 1) := by decide +kernel
theorem dL_isSound_255 : decode cL_isSound 255 = .ok (.if_icmp .eq 5, 3) := by decide +kernel
theorem dL_isSound_258 : decode cL_isSound 258 = .ok (.iconst 0, 1) := by decide +kernel
theorem dL_isSound_259 : decode cL_isSound 259 = .ok (.ireturn, 1) := by decide +kernel
theorem dL_isSound_260 : decode cL_isSound 260 = .ok (.iload_n 2, 1) := by decide +kernel
theorem dL_isSound_261 : decode cL_isSound 261 = .ok (.iload 6, 2) := by decide +kernel
theorem dL_isSound_263 : decode cL_isSound 263 = .ok (.iadd, 1) := by decide +kernel
theorem dL_isSound_264 : decode cL_isSound 264 = .ok (.istore_n 2, 1) := by decide +kernel
theorem dL_isSound_265 : decode cL_isSound 265 = .ok (.iload_n 3, 1) := by decide +kernel
theorem dL_isSound_266 : decode cL_isSound 266 = .ok (.aload_n 1, 1) := by decide +kernel
theorem dL_isSound_267 : decode cL_isSound 267 = .ok (.iload 4, 2) := by decide +kernel
theorem dL_isSound_269 : decode cL_isSound 269 = .ok (.invokevirtual 164, 3) := by decide +kernel
theorem dL_isSound_272 : decode cL_isSound 272 = .ok (.iadd, 1) := by decide +kernel
theorem dL_isSound_273 : decode cL_isSound 273 = .ok (.istore_n 3, 1) := by decide +kernel
theorem dL_isSound_274 : decode cL_isSound 274 = .ok (.iinc 4 1, 3) := by decide +kernel
theorem dL_isSound_277 : decode cL_isSound 277 = .ok (.goto (-270), 3) := by decide +kernel
theorem dL_isSound_280 : decode cL_isSound 280 = .ok (.iconst 0, 1) := by decide +kernel
theorem dL_isSound_281 : decode cL_isSound 281 = .ok (.istore 4, 2) := by decide +kernel
theorem dL_isSound_283 : decode cL_isSound 283 = .ok (.iconst 0, 1) := by decide +kernel
theorem dL_isSound_284 : decode cL_isSound 284 = .ok (.istore 5, 2) := by decide +kernel
theorem dL_isSound_286 : decode cL_isSound 286 = .ok (.iconst 0, 1) := by decide +kernel
theorem dL_isSound_287 : decode cL_isSound 287 = .ok (.istore 6, 2) := by decide +kernel
theorem dL_isSound_289 : decode cL_isSound 289 = .ok (.iload 6, 2) := by decide +kernel
theorem dL_isSound_291 : decode cL_isSound 291 = .ok (.aload_n 1, 1) := by decide +kernel
theorem dL_isSound_292 : decode cL_isSound 292 = .ok (.iconst 0, 1) := by decide +kernel
theorem dL_isSound_293 : decode cL_isSound 293 = .ok (.invokevirtual 185, 3) := by decide +kernel
theorem dL_isSound_296 : decode cL_isSound 296 = .ok (.if_icmp .ge 87, 3) := by decide +kernel
theorem dL_isSound_299 : decode cL_isSound 299 = .ok (.bipush 12, 2) := by decide +kernel
theorem dL_isSound_301 : decode cL_isSound 301 = .ok (.aload_n 1, 1) := by decide +kernel
theorem dL_isSound_302 : decode cL_isSound 302 = .ok (.iconst 0, 1) := by decide +kernel
theorem dL_isSound_303 : decode cL_isSound 303 = .ok (.iload 6, 2) := by decide +kernel
theorem dL_isSound_305 : decode cL_isSound 305 = .ok (.iconst 1, 1) := by decide +kernel
theorem dL_isSound_306 : decode cL_isSound 306 = .ok (.invokevirtual 188, 3) := by decide +kernel
theorem dL_isSound_309 : decode cL_isSound 309 = .ok (.imul, 1) := by decide +kernel
theorem dL_isSound_310 : decode cL_isSound 310 = .ok (.aload_n 1, 1) := by decide +kernel
theorem dL_isSound_311 : decode cL_isSound 311 = .ok (.iconst 0, 1) := by decide +kernel
theorem dL_isSound_312 : decode cL_isSound 312 = .ok (.iload 6, 2) := by decide +kernel
theorem dL_isSound_314 : decode cL_isSound 314 = .ok (.iconst 2, 1) := by decide +kernel
theorem dL_isSound_315 : decode cL_isSound 315 = .ok (.invokevirtual 188, 3) := by decide +kernel
theorem dL_isSound_318 : decode cL_isSound 318 = .ok (.iadd, 1) := by decide +kernel
theorem dL_isSound_319 : decode cL_isSound 319 = .ok (.istore 7, 2) := by decide +kernel
theorem dL_isSound_321 : decode cL_isSound 321 = .ok (.iload 7, 2) := by decide +kernel
theorem dL_isSound_323 : decode cL_isSound 323 = .ok (.iload 5, 2) := by decide +kernel
theorem dL_isSound_325 : decode cL_isSound 325 = .ok (.if_icmp .le 33, 3) := by decide +kernel
theorem dL_isSound_328 : decode cL_isSound 328 = .ok (.aload_n 1, 1) := by decide +kernel
theorem dL_isSound_329 : decode cL_isSound 329 = .ok (.iconst 0, 1) := by decide +kernel
theorem dL_isSound_330 : decode cL_isSound 330 = .ok (.iload 6, 2) := by decide +kernel
theorem dL_isSound_332 : decode cL_isSound 332 = .ok (.iconst 1, 1) := by decide +kernel
theorem dL_isSound_333 : decode cL_isSound 333 = .ok (.invokevirtual 188, 3) := by decide +kernel
theorem dL_isSound_336 : decode cL_isSound 336 = .ok (.aload_n 1, 1) := by decide +kernel
theorem dL_isSound_337 : decode cL_isSound 337 = .ok (.invokevirtual 152, 3) := by decide +kernel
theorem dL_isSound_340 : decode cL_isSound 340 = .ok (.if_icmp .le 18, 3) := by decide +kernel
theorem dL_isSound_343 : decode cL_isSound 343 = .ok (.aload_n 1, 1) := by decide +kernel
theorem dL_isSound_344 : decode cL_isSound 344 = .ok (.aload_n 1, 1) := by decide +kernel
theorem dL_isSound_345 : decode cL_isSound 345 = .ok (.iconst 0, 1) := by decide +kernel
theorem dL_isSound_346 : decode cL_isSound 346 = .ok (.iload 6, 2) := by decide +kernel
theorem dL_isSound_348 : decode cL_isSound 348 = .ok (.iconst 2, 1) := by decide +kernel
theorem dL_isSound_349 : decode cL_isSound 349 = .ok (.invokevirtual 188, 3) := by decide +kernel
theorem dL_isSound_352 : decode cL_isSound 352 = .ok (.invokevirtual 173, 3) := by decide +kernel
theorem dL_isSound_355 : decode cL_isSound 355 = .ok (.ifCond .eq 5, 3) := by decide +kernel
theorem dL_isSound_358 : decode cL_isSound 358 = .ok (.iconst 0, 1) := by decide +kernel
theorem dL_isSound_359 : decode cL_isSound 359 = .ok (.ireturn, 1) := by decide +kernel
theorem dL_isSound_360 : decode cL_isSound 360 = .ok (.iload 7, 2) := by decide +kernel
theorem dL_isSound_362 : decode cL_isSound 362 = .ok (.istore 5, 2) := by decide +kernel
theorem dL_isSound_364 : decode cL_isSound 364 = .ok (.iload 4, 2) := by decide +kernel
theorem dL_isSound_366 : decode cL_isSound 366 = .ok (.aload_n 1, 1) := by decide +kernel
theorem dL_isSound_367 : decode cL_isSound 367 = .ok (.iconst 0, 1) := by decide +kernel
theorem dL_isSound_368 : decode cL_isSound 368 = .ok (.iload 6, 2) := by decide +kernel
theorem dL_isSound_370 : decode cL_isSound 370 = .ok (.iconst 0, 1) := by decide +kernel
theorem dL_isSound_371 : decode cL_isSound 371 = .ok (.invokevirtual 188, 3) := by decide +kernel
theorem dL_isSound_374 : decode cL_isSound 374 = .ok (.iadd, 1) := by decide +kernel
theorem dL_isSound_375 : decode cL_isSound 375 = .ok (.istore 4, 2) := by decide +kernel
theorem dL_isSound_377 : decode cL_isSound 377 = .ok (.iinc 6 1, 3) := by decide +kernel
theorem dL_isSound_380 : decode cL_isSound 380 = .ok (.goto (-91), 3) := by decide +kernel
theorem dL_isSound_383 : decode cL_isSound 383 = .ok (.iload 4, 2) := by decide +kernel
theorem dL_isSound_385 : decode cL_isSound 385 = .ok (.aload_n 1, 1) := by decide +kernel
theorem dL_isSound_386 : decode cL_isSound 386 = .ok (.iconst 0, 1) := by decide +kernel
theorem dL_isSound_387 : decode cL_isSound 387 = .ok (.invokevirtual 212, 3) := by decide +kernel
theorem dL_isSound_390 : decode cL_isSound 390 = .ok (.if_icmp .ne 25, 3) := by decide +kernel
theorem dL_isSound_393 : decode cL_isSound 393 = .ok (.aload_n 1, 1) := by decide +kernel
theorem dL_isSound_394 : decode cL_isSound 394 = .ok (.iconst 5, 1) := by decide +kernel
theorem dL_isSound_395 : decode cL_isSound 395 = .ok (.invokevirtual 158, 3) := by decide +kernel
theorem dL_isSound_398 : decode cL_isSound 398 = .ok (.iload_n 2, 1) := by decide +kernel
theorem dL_isSound_399 : decode cL_isSound 399 = .ok (.iload 4, 2) := by decide +kernel
theorem dL_isSound_401 : decode cL_isSound 401 = .ok (.iadd, 1) := by decide +kernel
theorem dL_isSound_402 : decode cL_isSound 402 = .ok (.if_icmp .ne 13, 3) := by decide +kernel
theorem dL_isSound_405 : decode cL_isSound 405 = .ok (.aload_n 1, 1) := by decide +kernel
theorem dL_isSound_406 : decode cL_isSound 406 = .ok (.bipush 6, 2) := by decide +kernel
theorem dL_isSound_408 : decode cL_isSound 408 = .ok (.invokevirtual 158, 3) := by decide +kernel
theorem dL_isSound_411 : decode cL_isSound 411 = .ok (.iload_n 3, 1) := by decide +kernel
theorem dL_isSound_412 : decode cL_isSound 412 = .ok (.if_icmp .eq 5, 3) := by decide +kernel
theorem dL_isSound_415 : decode cL_isSound 415 = .ok (.iconst 0, 1) := by decide +kernel
theorem dL_isSound_416 : decode cL_isSound 416 = .ok (.ireturn, 1) := by decide +kernel
theorem dL_isSound_417 : decode cL_isSound 417 = .ok (.iconst 0, 1) := by decide +kernel
theorem dL_isSound_418 : decode cL_isSound 418 = .ok (.istore 6, 2) := by decide +kernel
theorem dL_isSound_420 : decode cL_isSound 420 = .ok (.iconst 0, 1) := by decide +kernel
theorem dL_isSound_421 : decode cL_isSound 421 = .ok (.istore 7, 2) := by decide +kernel
theorem dL_isSound_423 : decode cL_isSound 423 = .ok (.iload 7, 2) := by decide +kernel
theorem dL_isSound_425 : decode cL_isSound 425 = .ok (.bipush 10, 2) := by decide +kernel
theorem dL_isSound_427 : decode cL_isSound 427 = .ok (.if_icmp .ge 20, 3) := by decide +kernel
theorem dL_isSound_430 : decode cL_isSound 430 = .ok (.iload 6, 2) := by decide +kernel
theorem dL_isSound_432 : decode cL_isSound 432 = .ok (.aload_n 1, 1) := by decide +kernel
theorem dL_isSound_433 : decode cL_isSound 433 = .ok (.iload 7, 2) := by decide +kernel
theorem dL_isSound_435 : decode cL_isSound 435 = .ok (.invokevirtual 215, 3) := by decide +kernel
theorem dL_isSound_438 : decode cL_isSound 438 = .ok (.iadd, 1) := by decide +kernel
theorem dL_isSound_439 : decode cL_isSound 439 = .ok (.istore 6, 2) := by decide +kernel
theorem dL_isSound_441 : decode cL_isSound 441 = .ok (.iinc 7 1, 3) := by decide +kernel
theorem dL_isSound_444 : decode cL_isSound 444 = .ok (.goto (-21), 3) := by decide +kernel
theorem dL_isSound_447 : decode cL_isSound 447 = .ok (.iload 6, 2) := by decide +kernel
theorem dL_isSound_449 : decode cL_isSound 449 = .ok (.aload_n 1, 1) := by decide +kernel
theorem dL_isSound_450 : decode cL_isSound 450 = .ok (.iconst 1, 1) := by decide +kernel
theorem dL_isSound_451 : decode cL_isSound 451 = .ok (.invokevirtual 158, 3) := by decide +kernel
theorem dL_isSound_454 : decode cL_isSound 454 = .ok (.if_icmp .ne 44, 3) := by decide +kernel
theorem dL_isSound_457 : decode cL_isSound 457 = .ok (.aload_n 1, 1) := by decide +kernel
theorem dL_isSound_458 : decode cL_isSound 458 = .ok (.iconst 0, 1) := by decide +kernel
theorem dL_isSound_459 : decode cL_isSound 459 = .ok (.invokevirtual 158, 3) := by decide +kernel
theorem dL_isSound_462 : decode cL_isSound 462 = .ok (.aload_n 1, 1) := by decide +kernel
theorem dL_isSound_463 : decode cL_isSound 463 = .ok (.iconst 1, 1) := by decide +kernel
theorem dL_isSound_464 : decode cL_isSound 464 = .ok (.invokevirtual 158, 3) := by decide +kernel
theorem dL_isSound_467 : decode cL_isSound 467 = .ok (.aload_n 1, 1) := by decide +kernel
theorem dL_isSound_468 : decode cL_isSound 468 = .ok (.iconst 2, 1) := by decide +kernel
theorem dL_isSound_469 : decode cL_isSound 469 = .ok (.invokevirtual 158, 3) := by decide +kernel
theorem dL_isSound_472 : decode cL_isSound 472 = .ok (.iadd, 1) := by decide +kernel
theorem dL_isSound_473 : decode cL_isSound 473 = .ok (.aload_n 1, 1) := by decide +kernel
theorem dL_isSound_474 : decode cL_isSound 474 = .ok (.iconst 3, 1) := by decide +kernel
theorem dL_isSound_475 : decode cL_isSound 475 = .ok (.invokevirtual 158, 3) := by decide +kernel
theorem dL_isSound_478 : decode cL_isSound 478 = .ok (.iadd, 1) := by decide +kernel
theorem dL_isSound_479 : decode cL_isSound 479 = .ok (.aload_n 1, 1) := by decide +kernel
theorem dL_isSound_480 : decode cL_isSound 480 = .ok (.iconst 4, 1) := by decide +kernel
theorem dL_isSound_481 : decode cL_isSound 481 = .ok (.invokevirtual 158, 3) := by decide +kernel
theorem dL_isSound_484 : decode cL_isSound 484 = .ok (.iadd, 1) := by decide +kernel
theorem dL_isSound_485 : decode cL_isSound 485 = .ok (.aload_n 1, 1) := by decide +kernel
theorem dL_isSound_486 : decode cL_isSound 486 = .ok (.iconst 5, 1) := by decide +kernel
theorem dL_isSound_487 : decode cL_isSound 487 = .ok (.invokevirtual 158, 3) := by decide +kernel
theorem dL_isSound_490 : decode cL_isSound 490 = .ok (.iadd, 1) := by decide +kernel
theorem dL_isSound_491 : decode cL_isSound 491 = .ok (.if_icmp .ne 7, 3) := by decide +kernel
theorem dL_isSound_494 : decode cL_isSound 494 = .ok (.iconst 1, 1) := by decide +kernel
theorem dL_isSound_495 : decode cL_isSound 495 = .ok (.goto 4, 3) := by decide +kernel
theorem dL_isSound_498 : decode cL_isSound 498 = .ok (.iconst 0, 1) := by decide +kernel
theorem dL_isSound_499 : decode cL_isSound 499 = .ok (.ireturn, 1) := by decide +kernel
def f_L_isSound_b423 (N : Nat) : Nat → (Int32) → (Int32) → (T_PL) → Option (Int32 × T_PL)
  | 0, _, _, _ => none
  | n + 1, x6, x7, zs => (if (10 : Int32) ≤ x7 then ((P_total N zs (1 : Int32)).bind fun r451 => (if ¬ r451.1 = 0 then none else (if x6 = r451.2.1 then ((P_total N r451.2.2 (0 : Int32)).bind fun r459 => (if ¬ r459.1 = 0 then none else ((P_total N r459.2.2 (1 : Int32)).bind fun r464 => (if ¬ r464.1 = 0 then none else ((P_total N r464.2.2 (2 : Int32)).bind fun r469 => (if ¬ r469.1 = 0 then none else ((P_total N r469.2.2 (3 : Int32)).bind fun r475 => (if ¬ r475.1 = 0 then none else ((P_total N r475.2.2 (4 : Int32)).bind fun r481 => (if ¬ r481.1 = 0 then none else ((P_total N r481.2.2 (5 : Int32)).bind fun r487 => (if ¬ r487.1 = 0 then none else (if r459.2.1 = ((((r464.2.1 + r469.2.1) + r475.2.1) + r481.2.1) + r487.2.1) then (some ((1 : Int32), r487.2.2)) else (some ((0 : Int32), r487.2.2))))))))))))))) else (some ((0 : Int32), r451.2.2))))) else ((P_redeemedWith N zs x7).bind fun r435 => (if ¬ r435.1 = 0 then none else ((some (x6 + r435.2.1)).bind fun y439 => ((some (x7 + (1 : Int32))).bind fun y441 => (f_L_isSound_b423 N n y439 y441 r435.2.2))))))
def f_L_isSound_b289 (N : Nat) (x2 : Int32) (x3 : Int32) : Nat → (Int32) → (Int32) → (Int32) → (T_PL) → Option (Int32 × T_PL)
  | 0, _, _, _, _ => none
  | n + 1, x4, x5, x6, zs => ((P_poolCohortCount N zs (0 : Int32)).bind fun r293 => (if ¬ r293.1 = 0 then none else (if r293.2.1 ≤ x6 then ((P_poolBalance N r293.2.2 (0 : Int32)).bind fun r387 => (if ¬ r387.1 = 0 then none else (if x4 = r387.2.1 then ((P_total N r387.2.2 (5 : Int32)).bind fun r395 => (if ¬ r395.1 = 0 then none else (if r395.2.1 = (x2 + x4) then ((P_total N r395.2.2 (6 : Int32)).bind fun r408 => (if ¬ r408.1 = 0 then none else (if r408.2.1 = x3 then (f_L_isSound_b423 N N (0 : Int32) (0 : Int32) r408.2.2) else (some ((0 : Int32), r408.2.2))))) else (some ((0 : Int32), r395.2.2))))) else (some ((0 : Int32), r387.2.2))))) else ((P_poolCohort N r293.2.2 (0 : Int32) x6 (1 : Int32)).bind fun r306 => (if ¬ r306.1 = 0 then none else ((P_poolCohort N r306.2.2 (0 : Int32) x6 (2 : Int32)).bind fun r315 => (if ¬ r315.1 = 0 then none else ((some (((12 : Int32) * r306.2.1) + r315.2.1)).bind fun y319 => (if y319 ≤ x5 then (some ((0 : Int32), r315.2.2)) else ((P_poolCohort N r315.2.2 (0 : Int32) x6 (1 : Int32)).bind fun r333 => (if ¬ r333.1 = 0 then none else ((P_today N r333.2.2).bind fun r337 => (if r333.2.1 ≤ r337.1 then (some ((0 : Int32), r337.2)) else ((P_poolCohort N r337.2 (0 : Int32) x6 (2 : Int32)).bind fun r349 => (if ¬ r349.1 = 0 then none else ((P_household N r349.2.2 r349.2.1).bind fun r352 => (if ¬ r352.1 = 0 then none else (if r352.2.1 = 0 then ((P_poolCohort N r352.2.2 (0 : Int32) x6 (0 : Int32)).bind fun r371 => (if ¬ r371.1 = 0 then none else ((some (x4 + r371.2.1)).bind fun y375 => ((some (x6 + (1 : Int32))).bind fun y377 => (f_L_isSound_b289 N x2 x3 n y375 y319 y377 r371.2.2))))) else (some ((0 : Int32), r352.2.2))))))))))))))))))))
def f_L_isSound_b260 (N : Nat) (k_7 : (Int32) → (Int32) → (Int32) → (T_PL) → Option (Int32 × T_PL)) (x2 : Int32) (x3 : Int32) (x4 : Int32) (x6 : Int32) (zs : T_PL) : Option (Int32 × T_PL) :=
  ((some (x2 + x6)).bind fun y264 => ((P_debt N zs x4).bind fun r269 => (if ¬ r269.1 = 0 then none else ((some (x3 + r269.2.1)).bind fun y273 => ((some (x4 + (1 : Int32))).bind fun y274 => (k_7 y264 y273 y274 r269.2.2))))))
def f_L_isSound_b191 (N : Nat) (k_7 : (Int32) → (Int32) → (Int32) → (T_PL) → Option (Int32 × T_PL)) (x2 : Int32) (x3 : Int32) (x4 : Int32) (x6 : Int32) (s0 : Int32) (s1 : Int32) (zs : T_PL) : Option (Int32 × T_PL) :=
  (if s0 = s1 then ((P_belowSince N zs x4).bind fun r197 => (if ¬ r197.1 = 0 then none else ((P_today N r197.2.2).bind fun r201 => (if r197.2.1 ≤ r201.1 then ((P_household N r201.2 x4).bind fun r212 => (if ¬ r212.1 = 0 then none else (if 0 ≤ r212.2.1 then ((P_available N r212.2.2 x4).bind fun r244 => (if ¬ r244.1 = 0 then none else ((P_poolBalance N r244.2.2 (0 : Int32)).bind fun r251 => (if ¬ r251.1 = 0 then none else (if r244.2.1 = (x6 + r251.2.1) then (f_L_isSound_b260 N k_7 x2 x3 x4 x6 r251.2.2) else (some ((0 : Int32), r251.2.2))))))) else ((P_contributed N r212.2.2 x4).bind fun r221 => (if ¬ r221.1 = 0 then none else (if r221.2.1 = 0 then ((P_available N r221.2.2 x4).bind fun r230 => (if ¬ r230.1 = 0 then none else (if r230.2.1 = x6 then (f_L_isSound_b260 N k_7 x2 x3 x4 x6 r230.2.2) else (some ((0 : Int32), r230.2.2))))) else (some ((0 : Int32), r221.2.2)))))))) else (some ((0 : Int32), r201.2)))))) else (some ((0 : Int32), zs)))
def f_L_isSound_b171 (N : Nat) (k_7 : (Int32) → (Int32) → (Int32) → (T_PL) → Option (Int32 × T_PL)) (x2 : Int32) (x3 : Int32) (x4 : Int32) (x6 : Int32) (s0 : Int32) (zs : T_PL) : Option (Int32 × T_PL) :=
  ((P_tier N zs x4).bind fun r174 => (if ¬ r174.1 = 0 then none else ((P_earnedTier N r174.2.2 x4).bind fun r180 => (if ¬ r180.1 = 0 then none else (if r174.2.1 ≤ r180.2.1 then (f_L_isSound_b191 N k_7 x2 x3 x4 x6 s0 (0 : Int32) r180.2.2) else (f_L_isSound_b191 N k_7 x2 x3 x4 x6 s0 (1 : Int32) r180.2.2))))))
def f_L_isSound_b28 (N : Nat) (pf : Nat → Nat) (k_7 : (Int32) → (Int32) → (Int32) → (T_PL) → Option (Int32 × T_PL)) (x2 : Int32) (x3 : Int32) (x4 : Int32) : Nat → (Int32) → (Int32) → (Int32) → (T_PL) → Option (Int32 × T_PL)
  | 0, _, _, _, _ => none
  | n + 1, x5, x6, x7, zs => ((P_cohortCount N zs x4).bind fun r33 => (if ¬ r33.1 = 0 then none else (if r33.2.1 ≤ x7 then ((P_balance N r33.2.2 x4).bind fun r125 => (if ¬ r125.1 = 0 then none else (if x6 = r125.2.1 then ((P_debt N r125.2.2 x4).bind fun r134 => (if ¬ r134.1 = 0 then none else (if r134.2.1 < 0 then (some ((0 : Int32), r134.2.2)) else ((P_tier N r134.2.2 x4).bind fun r143 => (if ¬ r143.1 = 0 then none else ((P_earnedTier N r143.2.2 x4).bind fun r149 => (if ¬ r149.1 = 0 then none else (if r149.2.1 ≤ r143.2.1 then ((P_belowSince N r149.2.2 x4).bind fun r160 => (if ¬ r160.1 = 0 then none else (if r160.2.1 < 0 then (f_L_isSound_b171 N k_7 x2 x3 x4 x6 (0 : Int32) r160.2.2) else (f_L_isSound_b171 N k_7 x2 x3 x4 x6 (1 : Int32) r160.2.2)))) else (some ((0 : Int32), r149.2.2)))))))))) else (some ((0 : Int32), r125.2.2))))) else ((P_cohort N r33.2.2 x4 x7 (0 : Int32)).bind fun r45 => (if ¬ r45.1 = 0 then none else (if r45.2.1 < (1 : Int32) then (some ((0 : Int32), r45.2.2)) else ((P_cohort N r45.2.2 x4 x7 (1 : Int32)).bind fun r58 => (if ¬ r58.1 = 0 then none else (if r58.2.1 ≤ x5 then (some ((0 : Int32), r58.2.2)) else ((P_cohort N r58.2.2 x4 x7 (1 : Int32)).bind fun r72 => (if ¬ r72.1 = 0 then none else ((P_today N r72.2.2).bind fun r76 => ((f_L_life pf).bind fun r80 => (if r72.2.1 ≤ (r76.1 + r80) then ((P_cohort N r76.2 x4 x7 (1 : Int32)).bind fun r95 => (if ¬ r95.1 = 0 then none else ((P_cohort N r95.2.2 x4 x7 (0 : Int32)).bind fun r108 => (if ¬ r108.1 = 0 then none else ((some (x6 + r108.2.1)).bind fun y112 => ((some (x7 + (1 : Int32))).bind fun y114 => (f_L_isSound_b28 N pf k_7 x2 x3 x4 n r95.2.1 y112 y114 r108.2.2))))))) else (some ((0 : Int32), r76.2))))))))))))))))
def f_L_isSound_b7 (N : Nat) (pf : Nat → Nat) : Nat → (Int32) → (Int32) → (Int32) → (T_PL) → Option (Int32 × T_PL)
  | 0, _, _, _, _ => none
  | n + 1, x2, x3, x4, zs => ((f_L_members pf).bind fun r10 => (if r10 ≤ x4 then (f_L_isSound_b289 N x2 x3 N (0 : Int32) (0 : Int32) (0 : Int32) zs) else ((P_today N zs).bind fun r17 => (f_L_isSound_b28 N pf (f_L_isSound_b7 N pf n) x2 x3 x4 N r17.1 (0 : Int32) (0 : Int32) r17.2))))
def f_L_isSound (N : Nat) (pf : Nat → Nat) (zs : T_PL) : Option (Int32 × T_PL) :=
  (f_L_isSound_b7 N pf N (0 : Int32) (0 : Int32) (0 : Int32) zs)
set_option maxHeartbeats 4000000 in
set_option maxRecDepth 100000 in
theorem t_L_isSound_b423 {l : Launch} {D : va_G} {A : Nat → Nat → Nat} {cI cB cL cO : ClassId} {pf : Nat → Nat} {p : Program} {e : Env} {s : State} {m : MethodId} {args : Array Value} {below : List Frame} {meth : Method} {c : Code} {W0 : va_W} {N : Nat}  {o : Int32 × T_PL} (C : jC p s m args meth c cL_isSound 8 RL D [(cI, .int), (cB, .byte), (cL, .byte), (cO, .object RX0)] pf (va_A W0 s.heap.size)) (hr : meth.sig.returnType = (some FieldType.boolean)) : ∀ (n : Nat) (x6 : Int32) (x7 : Int32) (zs : T_PL), f_L_isSound_b423 N n x6 x7 zs = some o → J p l e { frames := 9, cells := 0, slots := 0, locals := 175 } s m args below meth c 8 D (va_A W0 s.heap.size) (MQ below (jQ D [(cI, .int), (cB, .byte), (cL, .byte), (cO, .object RX0)] W0 s.heap.size (is1 (some (.int o.1)) (wPL cI cB cO A o.2))) args s 0 0 (va_A W0 s.heap.size)) 0 0 423 [(1, .ref (A 0 0)), (6, .int x6), (7, .int x7)] [] (wPL cI cB cO A zs) := by
  intro n
  induction n with
  | zero =>
    intro _ _ _ h
    rw [f_L_isSound_b423] at h
    cases h
  | succ n ih =>
    intro x6 x7 zs h
    rw [f_L_isSound_b423] at h
    refine J_iload (pc := 423) C dL_isSound_423 2 rfl ?_
    refine J_bipush (v := (10 : Int32)) (pc := 425) C dL_isSound_425 (by decide) ?_
    refine J_ic_ge (pc := 427) (tgt := 447) C dL_isSound_427 (by decide) h (fun h => ?_) (fun h => ?_)
    · refine J_iload (pc := 447) C dL_isSound_447 1 rfl ?_
      refine J_aload_n (pc := 449) C dL_isSound_449 0 rfl ?_
      refine J_iconst (v := (1 : Int32)) (pc := 450) C dL_isSound_450 (by decide) ?_
      refine J_cvP (pc := 451) (As := [.int (1 : Int32)]) (st := [.int x6]) C (fun z => (wPL cI cB cO A z)) dL_isSound_451 ml_RL_158 mi_yX10_total (fun a s2 hr => R_total l D cI cB cL cO pf N A zs (1 : Int32) hr) h at_this rfl rfl ⟨rfl, rfl⟩ ⟨(Nat.le_of_ble_eq_true rfl), (Nat.le_of_ble_eq_true rfl)⟩ ⟨Nat.zero_le _, Nat.zero_le _⟩ (Nat.le_of_ble_eq_true rfl) (fun r451 h => ?_)
      refine J_ic_ne (pc := 454) (tgt := 498) C dL_isSound_454 (by decide) h (fun h => ?_) (fun h => ?_)
      · refine J_iconst (v := (0 : Int32)) (pc := 498) C dL_isSound_498 (by decide) ?_
        cases h
        exact J_zret (pc := 499) C dL_isSound_499 hr rfl ⟨rfl, rfl⟩
      · refine J_aload_n (pc := 457) C dL_isSound_457 0 rfl ?_
        refine J_iconst (v := (0 : Int32)) (pc := 458) C dL_isSound_458 (by decide) ?_
        refine J_cvP (pc := 459) (As := [.int (0 : Int32)]) (st := []) C (fun z => (wPL cI cB cO A z)) dL_isSound_459 ml_RL_158 mi_yX10_total (fun a s2 hr => R_total l D cI cB cL cO pf N A r451.2.2 (0 : Int32) hr) h at_this rfl rfl ⟨rfl, rfl⟩ ⟨(Nat.le_of_ble_eq_true rfl), (Nat.le_of_ble_eq_true rfl)⟩ ⟨Nat.zero_le _, Nat.zero_le _⟩ (Nat.le_of_ble_eq_true rfl) (fun r459 h => ?_)
        refine J_aload_n (pc := 462) C dL_isSound_462 0 rfl ?_
        refine J_iconst (v := (1 : Int32)) (pc := 463) C dL_isSound_463 (by decide) ?_
        refine J_cvP (pc := 464) (As := [.int (1 : Int32)]) (st := [.int r459.2.1]) C (fun z => (wPL cI cB cO A z)) dL_isSound_464 ml_RL_158 mi_yX10_total (fun a s2 hr => R_total l D cI cB cL cO pf N A r459.2.2 (1 : Int32) hr) h at_this rfl rfl ⟨rfl, rfl⟩ ⟨(Nat.le_of_ble_eq_true rfl), (Nat.le_of_ble_eq_true rfl)⟩ ⟨Nat.zero_le _, Nat.zero_le _⟩ (Nat.le_of_ble_eq_true rfl) (fun r464 h => ?_)
        refine J_aload_n (pc := 467) C dL_isSound_467 0 rfl ?_
        refine J_iconst (v := (2 : Int32)) (pc := 468) C dL_isSound_468 (by decide) ?_
        refine J_cvP (pc := 469) (As := [.int (2 : Int32)]) (st := [.int r464.2.1, .int r459.2.1]) C (fun z => (wPL cI cB cO A z)) dL_isSound_469 ml_RL_158 mi_yX10_total (fun a s2 hr => R_total l D cI cB cL cO pf N A r464.2.2 (2 : Int32) hr) h at_this rfl rfl ⟨rfl, rfl⟩ ⟨(Nat.le_of_ble_eq_true rfl), (Nat.le_of_ble_eq_true rfl)⟩ ⟨Nat.zero_le _, Nat.zero_le _⟩ (Nat.le_of_ble_eq_true rfl) (fun r469 h => ?_)
        refine J_iadd (pc := 472) C dL_isSound_472 ?_
        refine J_aload_n (pc := 473) C dL_isSound_473 0 rfl ?_
        refine J_iconst (v := (3 : Int32)) (pc := 474) C dL_isSound_474 (by decide) ?_
        refine J_cvP (pc := 475) (As := [.int (3 : Int32)]) (st := [.int (r464.2.1 + r469.2.1), .int r459.2.1]) C (fun z => (wPL cI cB cO A z)) dL_isSound_475 ml_RL_158 mi_yX10_total (fun a s2 hr => R_total l D cI cB cL cO pf N A r469.2.2 (3 : Int32) hr) h at_this rfl rfl ⟨rfl, rfl⟩ ⟨(Nat.le_of_ble_eq_true rfl), (Nat.le_of_ble_eq_true rfl)⟩ ⟨Nat.zero_le _, Nat.zero_le _⟩ (Nat.le_of_ble_eq_true rfl) (fun r475 h => ?_)
        refine J_iadd (pc := 478) C dL_isSound_478 ?_
        refine J_aload_n (pc := 479) C dL_isSound_479 0 rfl ?_
        refine J_iconst (v := (4 : Int32)) (pc := 480) C dL_isSound_480 (by decide) ?_
        refine J_cvP (pc := 481) (As := [.int (4 : Int32)]) (st := [.int ((r464.2.1 + r469.2.1) + r475.2.1), .int r459.2.1]) C (fun z => (wPL cI cB cO A z)) dL_isSound_481 ml_RL_158 mi_yX10_total (fun a s2 hr => R_total l D cI cB cL cO pf N A r475.2.2 (4 : Int32) hr) h at_this rfl rfl ⟨rfl, rfl⟩ ⟨(Nat.le_of_ble_eq_true rfl), (Nat.le_of_ble_eq_true rfl)⟩ ⟨Nat.zero_le _, Nat.zero_le _⟩ (Nat.le_of_ble_eq_true rfl) (fun r481 h => ?_)
        refine J_iadd (pc := 484) C dL_isSound_484 ?_
        refine J_aload_n (pc := 485) C dL_isSound_485 0 rfl ?_
        refine J_iconst (v := (5 : Int32)) (pc := 486) C dL_isSound_486 (by decide) ?_
        refine J_cvP (pc := 487) (As := [.int (5 : Int32)]) (st := [.int (((r464.2.1 + r469.2.1) + r475.2.1) + r481.2.1), .int r459.2.1]) C (fun z => (wPL cI cB cO A z)) dL_isSound_487 ml_RL_158 mi_yX10_total (fun a s2 hr => R_total l D cI cB cL cO pf N A r481.2.2 (5 : Int32) hr) h at_this rfl rfl ⟨rfl, rfl⟩ ⟨(Nat.le_of_ble_eq_true rfl), (Nat.le_of_ble_eq_true rfl)⟩ ⟨Nat.zero_le _, Nat.zero_le _⟩ (Nat.le_of_ble_eq_true rfl) (fun r487 h => ?_)
        refine J_iadd (pc := 490) C dL_isSound_490 ?_
        refine J_ic_ne (pc := 491) (tgt := 498) C dL_isSound_491 (by decide) h (fun h => ?_) (fun h => ?_)
        · refine J_iconst (v := (0 : Int32)) (pc := 498) C dL_isSound_498 (by decide) ?_
          cases h
          exact J_zret (pc := 499) C dL_isSound_499 hr rfl ⟨rfl, rfl⟩
        · refine J_iconst (v := (1 : Int32)) (pc := 494) C dL_isSound_494 (by decide) ?_
          refine J_goto (tgt := 499) (pc := 495) C dL_isSound_495 (by decide) ?_
          cases h
          exact J_zret (pc := 499) C dL_isSound_499 hr rfl ⟨rfl, rfl⟩
    · refine J_iload (pc := 430) C dL_isSound_430 1 rfl ?_
      refine J_aload_n (pc := 432) C dL_isSound_432 0 rfl ?_
      refine J_iload (pc := 433) C dL_isSound_433 2 rfl ?_
      refine J_cvP (pc := 435) (As := [.int x7]) (st := [.int x6]) C (fun z => (wPL cI cB cO A z)) dL_isSound_435 ml_RL_215 mi_yX10_redeemedWith (fun a s2 hr => R_redeemedWith l D cI cB cL cO pf N A zs x7 hr) h at_this rfl rfl ⟨rfl, rfl⟩ ⟨(Nat.le_of_ble_eq_true rfl), (Nat.le_of_ble_eq_true rfl)⟩ ⟨Nat.zero_le _, Nat.zero_le _⟩ (Nat.le_of_ble_eq_true rfl) (fun r435 h => ?_)
      refine J_iadd (pc := 438) C dL_isSound_438 ?_
      refine J_istoreN (pc := 439) C (fun y439 => [(6, .int y439), (1, .ref (A 0 0)), (7, .int x7)]) dL_isSound_439 h (by decide) (fun _ => rfl) (fun y439 h => ?_)
      refine J_iincN (pc := 441) (v := (1 : Int32)) C (fun y441 => [(7, .int y441), (6, .int y439), (1, .ref (A 0 0))]) dL_isSound_441 2 rfl (by decide) h (by decide) (fun _ => rfl) (fun y441 h => ?_)
      refine J_goto (tgt := 423) (pc := 444) C dL_isSound_444 (by decide) ?_
      refine J_sub (lv2 := [(1, .ref (A 0 0)), (6, .int y439), (7, .int y441)]) [2, 1, 0] rfl ?_
      exact ih _ _ _ h
set_option maxHeartbeats 4000000 in
set_option maxRecDepth 100000 in
theorem t_L_isSound_b289 {l : Launch} {D : va_G} {A : Nat → Nat → Nat} {cI cB cL cO : ClassId} {pf : Nat → Nat} {p : Program} {e : Env} {s : State} {m : MethodId} {args : Array Value} {below : List Frame} {meth : Method} {c : Code} {W0 : va_W} {N : Nat}  {x2 : Int32} {x3 : Int32} {o : Int32 × T_PL} (C : jC p s m args meth c cL_isSound 8 RL D [(cI, .int), (cB, .byte), (cL, .byte), (cO, .object RX0)] pf (va_A W0 s.heap.size)) (hr : meth.sig.returnType = (some FieldType.boolean)) : ∀ (n : Nat) (x4 : Int32) (x5 : Int32) (x6 : Int32) (zs : T_PL), f_L_isSound_b289 N x2 x3 n x4 x5 x6 zs = some o → J p l e { frames := 9, cells := 0, slots := 0, locals := 175 } s m args below meth c 8 D (va_A W0 s.heap.size) (MQ below (jQ D [(cI, .int), (cB, .byte), (cL, .byte), (cO, .object RX0)] W0 s.heap.size (is1 (some (.int o.1)) (wPL cI cB cO A o.2))) args s 0 0 (va_A W0 s.heap.size)) 0 0 289 [(1, .ref (A 0 0)), (2, .int x2), (3, .int x3), (4, .int x4), (5, .int x5), (6, .int x6)] [] (wPL cI cB cO A zs) := by
  intro n
  induction n with
  | zero =>
    intro _ _ _ _ h
    rw [f_L_isSound_b289] at h
    cases h
  | succ n ih =>
    intro x4 x5 x6 zs h
    rw [f_L_isSound_b289] at h
    refine J_iload (pc := 289) C dL_isSound_289 5 rfl ?_
    refine J_aload_n (pc := 291) C dL_isSound_291 0 rfl ?_
    refine J_iconst (v := (0 : Int32)) (pc := 292) C dL_isSound_292 (by decide) ?_
    refine J_cvP (pc := 293) (As := [.int (0 : Int32)]) (st := [.int x6]) C (fun z => (wPL cI cB cO A z)) dL_isSound_293 ml_RL_185 mi_yX10_poolCohortCount (fun a s2 hr => R_poolCohortCount l D cI cB cL cO pf N A zs (0 : Int32) hr) h at_this rfl rfl ⟨rfl, rfl⟩ ⟨(Nat.le_of_ble_eq_true rfl), (Nat.le_of_ble_eq_true rfl)⟩ ⟨Nat.zero_le _, Nat.zero_le _⟩ (Nat.le_of_ble_eq_true rfl) (fun r293 h => ?_)
    refine J_ic_ge (pc := 296) (tgt := 383) C dL_isSound_296 (by decide) h (fun h => ?_) (fun h => ?_)
    · refine J_iload (pc := 383) C dL_isSound_383 3 rfl ?_
      refine J_aload_n (pc := 385) C dL_isSound_385 0 rfl ?_
      refine J_iconst (v := (0 : Int32)) (pc := 386) C dL_isSound_386 (by decide) ?_
      refine J_cvP (pc := 387) (As := [.int (0 : Int32)]) (st := [.int x4]) C (fun z => (wPL cI cB cO A z)) dL_isSound_387 ml_RL_212 mi_yX10_poolBalance (fun a s2 hr => R_poolBalance l D cI cB cL cO pf N A r293.2.2 (0 : Int32) hr) h at_this rfl rfl ⟨rfl, rfl⟩ ⟨(Nat.le_of_ble_eq_true rfl), (Nat.le_of_ble_eq_true rfl)⟩ ⟨Nat.zero_le _, Nat.zero_le _⟩ (Nat.le_of_ble_eq_true rfl) (fun r387 h => ?_)
      refine J_ic_ne (pc := 390) (tgt := 415) C dL_isSound_390 (by decide) h (fun h => ?_) (fun h => ?_)
      · refine J_iconst (v := (0 : Int32)) (pc := 415) C dL_isSound_415 (by decide) ?_
        cases h
        exact J_zret (pc := 416) C dL_isSound_416 hr rfl ⟨rfl, rfl⟩
      · refine J_aload_n (pc := 393) C dL_isSound_393 0 rfl ?_
        refine J_iconst (v := (5 : Int32)) (pc := 394) C dL_isSound_394 (by decide) ?_
        refine J_cvP (pc := 395) (As := [.int (5 : Int32)]) (st := []) C (fun z => (wPL cI cB cO A z)) dL_isSound_395 ml_RL_158 mi_yX10_total (fun a s2 hr => R_total l D cI cB cL cO pf N A r387.2.2 (5 : Int32) hr) h at_this rfl rfl ⟨rfl, rfl⟩ ⟨(Nat.le_of_ble_eq_true rfl), (Nat.le_of_ble_eq_true rfl)⟩ ⟨Nat.zero_le _, Nat.zero_le _⟩ (Nat.le_of_ble_eq_true rfl) (fun r395 h => ?_)
        refine J_iload_n (pc := 398) C dL_isSound_398 1 rfl ?_
        refine J_iload (pc := 399) C dL_isSound_399 3 rfl ?_
        refine J_iadd (pc := 401) C dL_isSound_401 ?_
        refine J_ic_ne (pc := 402) (tgt := 415) C dL_isSound_402 (by decide) h (fun h => ?_) (fun h => ?_)
        · refine J_iconst (v := (0 : Int32)) (pc := 415) C dL_isSound_415 (by decide) ?_
          cases h
          exact J_zret (pc := 416) C dL_isSound_416 hr rfl ⟨rfl, rfl⟩
        · refine J_aload_n (pc := 405) C dL_isSound_405 0 rfl ?_
          refine J_bipush (v := (6 : Int32)) (pc := 406) C dL_isSound_406 (by decide) ?_
          refine J_cvP (pc := 408) (As := [.int (6 : Int32)]) (st := []) C (fun z => (wPL cI cB cO A z)) dL_isSound_408 ml_RL_158 mi_yX10_total (fun a s2 hr => R_total l D cI cB cL cO pf N A r395.2.2 (6 : Int32) hr) h at_this rfl rfl ⟨rfl, rfl⟩ ⟨(Nat.le_of_ble_eq_true rfl), (Nat.le_of_ble_eq_true rfl)⟩ ⟨Nat.zero_le _, Nat.zero_le _⟩ (Nat.le_of_ble_eq_true rfl) (fun r408 h => ?_)
          refine J_iload_n (pc := 411) C dL_isSound_411 2 rfl ?_
          refine J_ic_eq (pc := 412) (tgt := 417) C dL_isSound_412 (by decide) h (fun h => ?_) (fun h => ?_)
          · refine J_iconst (v := (0 : Int32)) (pc := 417) C dL_isSound_417 (by decide) ?_
            refine J_istore (lv2 := [(6, .int (0 : Int32)), (1, .ref (A 0 0)), (2, .int x2), (3, .int x3), (4, .int x4), (5, .int x5)]) (pc := 418) C dL_isSound_418 (by decide) rfl ?_
            refine J_iconst (v := (0 : Int32)) (pc := 420) C dL_isSound_420 (by decide) ?_
            refine J_istore (lv2 := [(7, .int (0 : Int32)), (6, .int (0 : Int32)), (1, .ref (A 0 0)), (2, .int x2), (3, .int x3), (4, .int x4), (5, .int x5)]) (pc := 421) C dL_isSound_421 (by decide) rfl ?_
            refine J_sub (lv2 := [(1, .ref (A 0 0)), (6, .int (0 : Int32)), (7, .int (0 : Int32))]) [2, 1, 0] rfl ?_
            exact t_L_isSound_b423 C hr N _ _ _ h
          · refine J_iconst (v := (0 : Int32)) (pc := 415) C dL_isSound_415 (by decide) ?_
            cases h
            exact J_zret (pc := 416) C dL_isSound_416 hr rfl ⟨rfl, rfl⟩
    · refine J_bipush (v := (12 : Int32)) (pc := 299) C dL_isSound_299 (by decide) ?_
      refine J_aload_n (pc := 301) C dL_isSound_301 0 rfl ?_
      refine J_iconst (v := (0 : Int32)) (pc := 302) C dL_isSound_302 (by decide) ?_
      refine J_iload (pc := 303) C dL_isSound_303 5 rfl ?_
      refine J_iconst (v := (1 : Int32)) (pc := 305) C dL_isSound_305 (by decide) ?_
      refine J_cvP (pc := 306) (As := [.int (0 : Int32), .int x6, .int (1 : Int32)]) (st := [.int (12 : Int32)]) C (fun z => (wPL cI cB cO A z)) dL_isSound_306 ml_RL_188 mi_yX10_poolCohort (fun a s2 hr => R_poolCohort l D cI cB cL cO pf N A r293.2.2 (0 : Int32) x6 (1 : Int32) hr) h at_this rfl rfl ⟨rfl, rfl⟩ ⟨(Nat.le_of_ble_eq_true rfl), (Nat.le_of_ble_eq_true rfl)⟩ ⟨Nat.zero_le _, Nat.zero_le _⟩ (Nat.le_of_ble_eq_true rfl) (fun r306 h => ?_)
      refine J_imul (pc := 309) C dL_isSound_309 ?_
      refine J_aload_n (pc := 310) C dL_isSound_310 0 rfl ?_
      refine J_iconst (v := (0 : Int32)) (pc := 311) C dL_isSound_311 (by decide) ?_
      refine J_iload (pc := 312) C dL_isSound_312 5 rfl ?_
      refine J_iconst (v := (2 : Int32)) (pc := 314) C dL_isSound_314 (by decide) ?_
      refine J_cvP (pc := 315) (As := [.int (0 : Int32), .int x6, .int (2 : Int32)]) (st := [.int ((12 : Int32) * r306.2.1)]) C (fun z => (wPL cI cB cO A z)) dL_isSound_315 ml_RL_188 mi_yX10_poolCohort (fun a s2 hr => R_poolCohort l D cI cB cL cO pf N A r306.2.2 (0 : Int32) x6 (2 : Int32) hr) h at_this rfl rfl ⟨rfl, rfl⟩ ⟨(Nat.le_of_ble_eq_true rfl), (Nat.le_of_ble_eq_true rfl)⟩ ⟨Nat.zero_le _, Nat.zero_le _⟩ (Nat.le_of_ble_eq_true rfl) (fun r315 h => ?_)
      refine J_iadd (pc := 318) C dL_isSound_318 ?_
      refine J_istoreN (pc := 319) C (fun y319 => [(7, .int y319), (1, .ref (A 0 0)), (2, .int x2), (3, .int x3), (4, .int x4), (5, .int x5), (6, .int x6)]) dL_isSound_319 h (by decide) (fun _ => rfl) (fun y319 h => ?_)
      refine J_iload (pc := 321) C dL_isSound_321 0 rfl ?_
      refine J_iload (pc := 323) C dL_isSound_323 5 rfl ?_
      refine J_ic_le (pc := 325) (tgt := 358) C dL_isSound_325 (by decide) h (fun h => ?_) (fun h => ?_)
      · refine J_iconst (v := (0 : Int32)) (pc := 358) C dL_isSound_358 (by decide) ?_
        cases h
        exact J_zret (pc := 359) C dL_isSound_359 hr rfl ⟨rfl, rfl⟩
      · refine J_aload_n (pc := 328) C dL_isSound_328 1 rfl ?_
        refine J_iconst (v := (0 : Int32)) (pc := 329) C dL_isSound_329 (by decide) ?_
        refine J_iload (pc := 330) C dL_isSound_330 6 rfl ?_
        refine J_iconst (v := (1 : Int32)) (pc := 332) C dL_isSound_332 (by decide) ?_
        refine J_cvP (pc := 333) (As := [.int (0 : Int32), .int x6, .int (1 : Int32)]) (st := []) C (fun z => (wPL cI cB cO A z)) dL_isSound_333 ml_RL_188 mi_yX10_poolCohort (fun a s2 hr => R_poolCohort l D cI cB cL cO pf N A r315.2.2 (0 : Int32) x6 (1 : Int32) hr) h at_this rfl rfl ⟨rfl, rfl⟩ ⟨(Nat.le_of_ble_eq_true rfl), (Nat.le_of_ble_eq_true rfl)⟩ ⟨Nat.zero_le _, Nat.zero_le _⟩ (Nat.le_of_ble_eq_true rfl) (fun r333 h => ?_)
        refine J_aload_n (pc := 336) C dL_isSound_336 1 rfl ?_
        refine J_cvL (pc := 337) (As := []) (st := [.int r333.2.1]) (V := fun r337 => some (.int r337.1)) C (fun r337 => (wPL cI cB cO A r337.2)) dL_isSound_337 ml_RL_152 mi_yX10_today (fun r hr => Q_today l D cI cB cL cO pf N A r333.2.2 r hr) h at_this rfl rfl ⟨rfl, rfl⟩ ⟨(Nat.le_of_ble_eq_true rfl), (Nat.le_of_ble_eq_true rfl)⟩ ⟨Nat.zero_le _, Nat.zero_le _⟩ (Nat.le_of_ble_eq_true rfl) (fun r337 h => ?_)
        refine J_ic_le (pc := 340) (tgt := 358) C dL_isSound_340 (by decide) h (fun h => ?_) (fun h => ?_)
        · refine J_iconst (v := (0 : Int32)) (pc := 358) C dL_isSound_358 (by decide) ?_
          cases h
          exact J_zret (pc := 359) C dL_isSound_359 hr rfl ⟨rfl, rfl⟩
        · refine J_aload_n (pc := 343) C dL_isSound_343 1 rfl ?_
          refine J_aload_n (pc := 344) C dL_isSound_344 1 rfl ?_
          refine J_iconst (v := (0 : Int32)) (pc := 345) C dL_isSound_345 (by decide) ?_
          refine J_iload (pc := 346) C dL_isSound_346 6 rfl ?_
          refine J_iconst (v := (2 : Int32)) (pc := 348) C dL_isSound_348 (by decide) ?_
          refine J_cvP (pc := 349) (As := [.int (0 : Int32), .int x6, .int (2 : Int32)]) (st := [.ref (A 0 0)]) C (fun z => (wPL cI cB cO A z)) dL_isSound_349 ml_RL_188 mi_yX10_poolCohort (fun a s2 hr => R_poolCohort l D cI cB cL cO pf N A r337.2 (0 : Int32) x6 (2 : Int32) hr) h at_this rfl rfl ⟨rfl, rfl⟩ ⟨(Nat.le_of_ble_eq_true rfl), (Nat.le_of_ble_eq_true rfl)⟩ ⟨Nat.zero_le _, Nat.zero_le _⟩ (Nat.le_of_ble_eq_true rfl) (fun r349 h => ?_)
          refine J_cvP (pc := 352) (As := [.int r349.2.1]) (st := []) C (fun z => (wPL cI cB cO A z)) dL_isSound_352 ml_RL_173 mi_yX10_household (fun a s2 hr => R_household l D cI cB cL cO pf N A r349.2.2 r349.2.1 hr) h at_this rfl rfl ⟨rfl, rfl⟩ ⟨(Nat.le_of_ble_eq_true rfl), (Nat.le_of_ble_eq_true rfl)⟩ ⟨Nat.zero_le _, Nat.zero_le _⟩ (Nat.le_of_ble_eq_true rfl) (fun r352 h => ?_)
          refine J_if_eq (pc := 355) (tgt := 360) C dL_isSound_355 (by decide) h (fun h => ?_) (fun h => ?_)
          · refine J_iload (pc := 360) C dL_isSound_360 0 rfl ?_
            refine J_istore (lv2 := [(5, .int y319), (7, .int y319), (1, .ref (A 0 0)), (2, .int x2), (3, .int x3), (4, .int x4), (6, .int x6)]) (pc := 362) C dL_isSound_362 (by decide) rfl ?_
            refine J_iload (pc := 364) C dL_isSound_364 5 rfl ?_
            refine J_aload_n (pc := 366) C dL_isSound_366 2 rfl ?_
            refine J_iconst (v := (0 : Int32)) (pc := 367) C dL_isSound_367 (by decide) ?_
            refine J_iload (pc := 368) C dL_isSound_368 6 rfl ?_
            refine J_iconst (v := (0 : Int32)) (pc := 370) C dL_isSound_370 (by decide) ?_
            refine J_cvP (pc := 371) (As := [.int (0 : Int32), .int x6, .int (0 : Int32)]) (st := [.int x4]) C (fun z => (wPL cI cB cO A z)) dL_isSound_371 ml_RL_188 mi_yX10_poolCohort (fun a s2 hr => R_poolCohort l D cI cB cL cO pf N A r352.2.2 (0 : Int32) x6 (0 : Int32) hr) h at_this rfl rfl ⟨rfl, rfl⟩ ⟨(Nat.le_of_ble_eq_true rfl), (Nat.le_of_ble_eq_true rfl)⟩ ⟨Nat.zero_le _, Nat.zero_le _⟩ (Nat.le_of_ble_eq_true rfl) (fun r371 h => ?_)
            refine J_iadd (pc := 374) C dL_isSound_374 ?_
            refine J_istoreN (pc := 375) C (fun y375 => [(4, .int y375), (5, .int y319), (7, .int y319), (1, .ref (A 0 0)), (2, .int x2), (3, .int x3), (6, .int x6)]) dL_isSound_375 h (by decide) (fun _ => rfl) (fun y375 h => ?_)
            refine J_iincN (pc := 377) (v := (1 : Int32)) C (fun y377 => [(6, .int y377), (4, .int y375), (5, .int y319), (7, .int y319), (1, .ref (A 0 0)), (2, .int x2), (3, .int x3)]) dL_isSound_377 6 rfl (by decide) h (by decide) (fun _ => rfl) (fun y377 h => ?_)
            refine J_goto (tgt := 289) (pc := 380) C dL_isSound_380 (by decide) ?_
            refine J_sub (lv2 := [(1, .ref (A 0 0)), (2, .int x2), (3, .int x3), (4, .int y375), (5, .int y319), (6, .int y377)]) [4, 5, 6, 1, 2, 0] rfl ?_
            exact ih _ _ _ _ h
          · refine J_iconst (v := (0 : Int32)) (pc := 358) C dL_isSound_358 (by decide) ?_
            cases h
            exact J_zret (pc := 359) C dL_isSound_359 hr rfl ⟨rfl, rfl⟩
set_option maxHeartbeats 4000000 in
set_option maxRecDepth 100000 in
theorem t_L_isSound_b260 {l : Launch} {D : va_G} {A : Nat → Nat → Nat} {cI cB cL cO : ClassId} {pf : Nat → Nat} {p : Program} {e : Env} {s : State} {m : MethodId} {args : Array Value} {below : List Frame} {meth : Method} {c : Code} {W0 : va_W} {N : Nat}  {zs : T_PL} {x2 : Int32} {x3 : Int32} {x4 : Int32} {x6 : Int32} {o : Int32 × T_PL} (C : jC p s m args meth c cL_isSound 8 RL D [(cI, .int), (cB, .byte), (cL, .byte), (cO, .object RX0)] pf (va_A W0 s.heap.size)) (hr : meth.sig.returnType = (some FieldType.boolean)) {k_7 : (Int32) → (Int32) → (Int32) → (T_PL) → Option (Int32 × T_PL)} (hk_7 : ∀ (x2 : Int32) (x3 : Int32) (x4 : Int32) (zs : T_PL), k_7 x2 x3 x4 zs = some o → J p l e { frames := 9, cells := 0, slots := 0, locals := 175 } s m args below meth c 8 D (va_A W0 s.heap.size) (MQ below (jQ D [(cI, .int), (cB, .byte), (cL, .byte), (cO, .object RX0)] W0 s.heap.size (is1 (some (.int o.1)) (wPL cI cB cO A o.2))) args s 0 0 (va_A W0 s.heap.size)) 0 0 7 [(0, .ref (pf 92)), (1, .ref (A 0 0)), (2, .int x2), (3, .int x3), (4, .int x4)] [] (wPL cI cB cO A zs)) (h : f_L_isSound_b260 N k_7 x2 x3 x4 x6 zs = some o) : J p l e { frames := 9, cells := 0, slots := 0, locals := 175 } s m args below meth c 8 D (va_A W0 s.heap.size) (MQ below (jQ D [(cI, .int), (cB, .byte), (cL, .byte), (cO, .object RX0)] W0 s.heap.size (is1 (some (.int o.1)) (wPL cI cB cO A o.2))) args s 0 0 (va_A W0 s.heap.size)) 0 0 260 [(0, .ref (pf 92)), (1, .ref (A 0 0)), (2, .int x2), (3, .int x3), (4, .int x4), (6, .int x6)] [] (wPL cI cB cO A zs) := by
  unfold f_L_isSound_b260 at h
  refine J_iload_n (pc := 260) C dL_isSound_260 2 rfl ?_
  refine J_iload (pc := 261) C dL_isSound_261 5 rfl ?_
  refine J_iadd (pc := 263) C dL_isSound_263 ?_
  refine J_istore_nN (pc := 264) C (fun y264 => [(2, .int y264), (0, .ref (pf 92)), (1, .ref (A 0 0)), (3, .int x3), (4, .int x4), (6, .int x6)]) dL_isSound_264 h (by decide) (fun _ => rfl) (fun y264 h => ?_)
  refine J_iload_n (pc := 265) C dL_isSound_265 3 rfl ?_
  refine J_aload_n (pc := 266) C dL_isSound_266 2 rfl ?_
  refine J_iload (pc := 267) C dL_isSound_267 4 rfl ?_
  refine J_cvP (pc := 269) (As := [.int x4]) (st := [.int x3]) C (fun z => (wPL cI cB cO A z)) dL_isSound_269 ml_RL_164 mi_yX10_debt (fun a s2 hr => R_debt l D cI cB cL cO pf N A zs x4 hr) h at_this rfl rfl ⟨rfl, rfl⟩ ⟨(Nat.le_of_ble_eq_true rfl), (Nat.le_of_ble_eq_true rfl)⟩ ⟨Nat.zero_le _, Nat.zero_le _⟩ (Nat.le_of_ble_eq_true rfl) (fun r269 h => ?_)
  refine J_iadd (pc := 272) C dL_isSound_272 ?_
  refine J_istore_nN (pc := 273) C (fun y273 => [(3, .int y273), (2, .int y264), (0, .ref (pf 92)), (1, .ref (A 0 0)), (4, .int x4), (6, .int x6)]) dL_isSound_273 h (by decide) (fun _ => rfl) (fun y273 h => ?_)
  refine J_iincN (pc := 274) (v := (1 : Int32)) C (fun y274 => [(4, .int y274), (3, .int y273), (2, .int y264), (0, .ref (pf 92)), (1, .ref (A 0 0)), (6, .int x6)]) dL_isSound_274 4 rfl (by decide) h (by decide) (fun _ => rfl) (fun y274 h => ?_)
  refine J_goto (tgt := 7) (pc := 277) C dL_isSound_277 (by decide) ?_
  refine J_sub (lv2 := [(0, .ref (pf 92)), (1, .ref (A 0 0)), (2, .int y264), (3, .int y273), (4, .int y274)]) [3, 4, 2, 1, 0] rfl ?_
  exact hk_7 _ _ _ _ h
set_option maxHeartbeats 4000000 in
set_option maxRecDepth 100000 in
theorem t_L_isSound_b191 {l : Launch} {D : va_G} {A : Nat → Nat → Nat} {cI cB cL cO : ClassId} {pf : Nat → Nat} {p : Program} {e : Env} {s : State} {m : MethodId} {args : Array Value} {below : List Frame} {meth : Method} {c : Code} {W0 : va_W} {N : Nat}  {zs : T_PL} {x2 : Int32} {x3 : Int32} {x4 : Int32} {x6 : Int32} {s0 : Int32} {s1 : Int32} {o : Int32 × T_PL} (C : jC p s m args meth c cL_isSound 8 RL D [(cI, .int), (cB, .byte), (cL, .byte), (cO, .object RX0)] pf (va_A W0 s.heap.size)) (hr : meth.sig.returnType = (some FieldType.boolean)) {k_7 : (Int32) → (Int32) → (Int32) → (T_PL) → Option (Int32 × T_PL)} (hk_7 : ∀ (x2 : Int32) (x3 : Int32) (x4 : Int32) (zs : T_PL), k_7 x2 x3 x4 zs = some o → J p l e { frames := 9, cells := 0, slots := 0, locals := 175 } s m args below meth c 8 D (va_A W0 s.heap.size) (MQ below (jQ D [(cI, .int), (cB, .byte), (cL, .byte), (cO, .object RX0)] W0 s.heap.size (is1 (some (.int o.1)) (wPL cI cB cO A o.2))) args s 0 0 (va_A W0 s.heap.size)) 0 0 7 [(0, .ref (pf 92)), (1, .ref (A 0 0)), (2, .int x2), (3, .int x3), (4, .int x4)] [] (wPL cI cB cO A zs)) (h : f_L_isSound_b191 N k_7 x2 x3 x4 x6 s0 s1 zs = some o) : J p l e { frames := 9, cells := 0, slots := 0, locals := 175 } s m args below meth c 8 D (va_A W0 s.heap.size) (MQ below (jQ D [(cI, .int), (cB, .byte), (cL, .byte), (cO, .object RX0)] W0 s.heap.size (is1 (some (.int o.1)) (wPL cI cB cO A o.2))) args s 0 0 (va_A W0 s.heap.size)) 0 0 191 [(0, .ref (pf 92)), (1, .ref (A 0 0)), (2, .int x2), (3, .int x3), (4, .int x4), (6, .int x6)] [.int s1, .int s0] (wPL cI cB cO A zs) := by
  unfold f_L_isSound_b191 at h
  refine J_ic_ne (pc := 191) (tgt := 207) C dL_isSound_191 (by decide) h (fun h => ?_) (fun h => ?_)
  · refine J_iconst (v := (0 : Int32)) (pc := 207) C dL_isSound_207 (by decide) ?_
    cases h
    exact J_zret (pc := 208) C dL_isSound_208 hr rfl ⟨rfl, rfl⟩
  · refine J_aload_n (pc := 194) C dL_isSound_194 1 rfl ?_
    refine J_iload (pc := 195) C dL_isSound_195 4 rfl ?_
    refine J_cvP (pc := 197) (As := [.int x4]) (st := []) C (fun z => (wPL cI cB cO A z)) dL_isSound_197 ml_RL_170 mi_yX10_belowSince (fun a s2 hr => R_belowSince l D cI cB cL cO pf N A zs x4 hr) h at_this rfl rfl ⟨rfl, rfl⟩ ⟨(Nat.le_of_ble_eq_true rfl), (Nat.le_of_ble_eq_true rfl)⟩ ⟨Nat.zero_le _, Nat.zero_le _⟩ (Nat.le_of_ble_eq_true rfl) (fun r197 h => ?_)
    refine J_aload_n (pc := 200) C dL_isSound_200 1 rfl ?_
    refine J_cvL (pc := 201) (As := []) (st := [.int r197.2.1]) (V := fun r201 => some (.int r201.1)) C (fun r201 => (wPL cI cB cO A r201.2)) dL_isSound_201 ml_RL_152 mi_yX10_today (fun r hr => Q_today l D cI cB cL cO pf N A r197.2.2 r hr) h at_this rfl rfl ⟨rfl, rfl⟩ ⟨(Nat.le_of_ble_eq_true rfl), (Nat.le_of_ble_eq_true rfl)⟩ ⟨Nat.zero_le _, Nat.zero_le _⟩ (Nat.le_of_ble_eq_true rfl) (fun r201 h => ?_)
    refine J_ic_le (pc := 204) (tgt := 209) C dL_isSound_204 (by decide) h (fun h => ?_) (fun h => ?_)
    · refine J_aload_n (pc := 209) C dL_isSound_209 1 rfl ?_
      refine J_iload (pc := 210) C dL_isSound_210 4 rfl ?_
      refine J_cvP (pc := 212) (As := [.int x4]) (st := []) C (fun z => (wPL cI cB cO A z)) dL_isSound_212 ml_RL_173 mi_yX10_household (fun a s2 hr => R_household l D cI cB cL cO pf N A r201.2 x4 hr) h at_this rfl rfl ⟨rfl, rfl⟩ ⟨(Nat.le_of_ble_eq_true rfl), (Nat.le_of_ble_eq_true rfl)⟩ ⟨Nat.zero_le _, Nat.zero_le _⟩ (Nat.le_of_ble_eq_true rfl) (fun r212 h => ?_)
      refine J_if_ge (pc := 215) (tgt := 241) C dL_isSound_215 (by decide) h (fun h => ?_) (fun h => ?_)
      · refine J_aload_n (pc := 241) C dL_isSound_241 1 rfl ?_
        refine J_iload (pc := 242) C dL_isSound_242 4 rfl ?_
        refine J_cvP (pc := 244) (As := [.int x4]) (st := []) C (fun z => (wPL cI cB cO A z)) dL_isSound_244 ml_RL_209 mi_yX10_available (fun a s2 hr => R_available l D cI cB cL cO pf N A r212.2.2 x4 hr) h at_this rfl rfl ⟨rfl, rfl⟩ ⟨(Nat.le_of_ble_eq_true rfl), (Nat.le_of_ble_eq_true rfl)⟩ ⟨Nat.zero_le _, Nat.zero_le _⟩ (Nat.le_of_ble_eq_true rfl) (fun r244 h => ?_)
        refine J_iload (pc := 247) C dL_isSound_247 5 rfl ?_
        refine J_aload_n (pc := 249) C dL_isSound_249 1 rfl ?_
        refine J_iconst (v := (0 : Int32)) (pc := 250) C dL_isSound_250 (by decide) ?_
        refine J_cvP (pc := 251) (As := [.int (0 : Int32)]) (st := [.int x6, .int r244.2.1]) C (fun z => (wPL cI cB cO A z)) dL_isSound_251 ml_RL_212 mi_yX10_poolBalance (fun a s2 hr => R_poolBalance l D cI cB cL cO pf N A r244.2.2 (0 : Int32) hr) h at_this rfl rfl ⟨rfl, rfl⟩ ⟨(Nat.le_of_ble_eq_true rfl), (Nat.le_of_ble_eq_true rfl)⟩ ⟨Nat.zero_le _, Nat.zero_le _⟩ (Nat.le_of_ble_eq_true rfl) (fun r251 h => ?_)
        refine J_iadd (pc := 254) C dL_isSound_254 ?_
        refine J_ic_eq (pc := 255) (tgt := 260) C dL_isSound_255 (by decide) h (fun h => ?_) (fun h => ?_)
        · exact t_L_isSound_b260 C hr hk_7 h
        · refine J_iconst (v := (0 : Int32)) (pc := 258) C dL_isSound_258 (by decide) ?_
          cases h
          exact J_zret (pc := 259) C dL_isSound_259 hr rfl ⟨rfl, rfl⟩
      · refine J_aload_n (pc := 218) C dL_isSound_218 1 rfl ?_
        refine J_iload (pc := 219) C dL_isSound_219 4 rfl ?_
        refine J_cvP (pc := 221) (As := [.int x4]) (st := []) C (fun z => (wPL cI cB cO A z)) dL_isSound_221 ml_RL_206 mi_yX10_contributed (fun a s2 hr => R_contributed l D cI cB cL cO pf N A r212.2.2 x4 hr) h at_this rfl rfl ⟨rfl, rfl⟩ ⟨(Nat.le_of_ble_eq_true rfl), (Nat.le_of_ble_eq_true rfl)⟩ ⟨Nat.zero_le _, Nat.zero_le _⟩ (Nat.le_of_ble_eq_true rfl) (fun r221 h => ?_)
        refine J_if_ne (pc := 224) (tgt := 258) C dL_isSound_224 (by decide) h (fun h => ?_) (fun h => ?_)
        · refine J_iconst (v := (0 : Int32)) (pc := 258) C dL_isSound_258 (by decide) ?_
          cases h
          exact J_zret (pc := 259) C dL_isSound_259 hr rfl ⟨rfl, rfl⟩
        · refine J_aload_n (pc := 227) C dL_isSound_227 1 rfl ?_
          refine J_iload (pc := 228) C dL_isSound_228 4 rfl ?_
          refine J_cvP (pc := 230) (As := [.int x4]) (st := []) C (fun z => (wPL cI cB cO A z)) dL_isSound_230 ml_RL_209 mi_yX10_available (fun a s2 hr => R_available l D cI cB cL cO pf N A r221.2.2 x4 hr) h at_this rfl rfl ⟨rfl, rfl⟩ ⟨(Nat.le_of_ble_eq_true rfl), (Nat.le_of_ble_eq_true rfl)⟩ ⟨Nat.zero_le _, Nat.zero_le _⟩ (Nat.le_of_ble_eq_true rfl) (fun r230 h => ?_)
          refine J_iload (pc := 233) C dL_isSound_233 5 rfl ?_
          refine J_ic_eq (pc := 235) (tgt := 260) C dL_isSound_235 (by decide) h (fun h => ?_) (fun h => ?_)
          · exact t_L_isSound_b260 C hr hk_7 h
          · refine J_goto (tgt := 258) (pc := 238) C dL_isSound_238 (by decide) ?_
            refine J_iconst (v := (0 : Int32)) (pc := 258) C dL_isSound_258 (by decide) ?_
            cases h
            exact J_zret (pc := 259) C dL_isSound_259 hr rfl ⟨rfl, rfl⟩
    · refine J_iconst (v := (0 : Int32)) (pc := 207) C dL_isSound_207 (by decide) ?_
      cases h
      exact J_zret (pc := 208) C dL_isSound_208 hr rfl ⟨rfl, rfl⟩
set_option maxHeartbeats 4000000 in
set_option maxRecDepth 100000 in
theorem t_L_isSound_b171 {l : Launch} {D : va_G} {A : Nat → Nat → Nat} {cI cB cL cO : ClassId} {pf : Nat → Nat} {p : Program} {e : Env} {s : State} {m : MethodId} {args : Array Value} {below : List Frame} {meth : Method} {c : Code} {W0 : va_W} {N : Nat}  {zs : T_PL} {x2 : Int32} {x3 : Int32} {x4 : Int32} {x6 : Int32} {s0 : Int32} {o : Int32 × T_PL} (C : jC p s m args meth c cL_isSound 8 RL D [(cI, .int), (cB, .byte), (cL, .byte), (cO, .object RX0)] pf (va_A W0 s.heap.size)) (hr : meth.sig.returnType = (some FieldType.boolean)) {k_7 : (Int32) → (Int32) → (Int32) → (T_PL) → Option (Int32 × T_PL)} (hk_7 : ∀ (x2 : Int32) (x3 : Int32) (x4 : Int32) (zs : T_PL), k_7 x2 x3 x4 zs = some o → J p l e { frames := 9, cells := 0, slots := 0, locals := 175 } s m args below meth c 8 D (va_A W0 s.heap.size) (MQ below (jQ D [(cI, .int), (cB, .byte), (cL, .byte), (cO, .object RX0)] W0 s.heap.size (is1 (some (.int o.1)) (wPL cI cB cO A o.2))) args s 0 0 (va_A W0 s.heap.size)) 0 0 7 [(0, .ref (pf 92)), (1, .ref (A 0 0)), (2, .int x2), (3, .int x3), (4, .int x4)] [] (wPL cI cB cO A zs)) (h : f_L_isSound_b171 N k_7 x2 x3 x4 x6 s0 zs = some o) : J p l e { frames := 9, cells := 0, slots := 0, locals := 175 } s m args below meth c 8 D (va_A W0 s.heap.size) (MQ below (jQ D [(cI, .int), (cB, .byte), (cL, .byte), (cO, .object RX0)] W0 s.heap.size (is1 (some (.int o.1)) (wPL cI cB cO A o.2))) args s 0 0 (va_A W0 s.heap.size)) 0 0 171 [(0, .ref (pf 92)), (1, .ref (A 0 0)), (2, .int x2), (3, .int x3), (4, .int x4), (6, .int x6)] [.int s0] (wPL cI cB cO A zs) := by
  unfold f_L_isSound_b171 at h
  refine J_aload_n (pc := 171) C dL_isSound_171 1 rfl ?_
  refine J_iload (pc := 172) C dL_isSound_172 4 rfl ?_
  refine J_cvP (pc := 174) (As := [.int x4]) (st := [.int s0]) C (fun z => (wPL cI cB cO A z)) dL_isSound_174 ml_RL_167 mi_yX10_tier (fun a s2 hr => R_tier l D cI cB cL cO pf N A zs x4 hr) h at_this rfl rfl ⟨rfl, rfl⟩ ⟨(Nat.le_of_ble_eq_true rfl), (Nat.le_of_ble_eq_true rfl)⟩ ⟨Nat.zero_le _, Nat.zero_le _⟩ (Nat.le_of_ble_eq_true rfl) (fun r174 h => ?_)
  refine J_aload_n (pc := 177) C dL_isSound_177 1 rfl ?_
  refine J_iload (pc := 178) C dL_isSound_178 4 rfl ?_
  refine J_cvP (pc := 180) (As := [.int x4]) (st := [.int r174.2.1, .int s0]) C (fun z => (wPL cI cB cO A z)) dL_isSound_180 ml_RL_203 mi_yX10_earnedTier (fun a s2 hr => R_earnedTier l D cI cB cL cO pf N A r174.2.2 x4 hr) h at_this rfl rfl ⟨rfl, rfl⟩ ⟨(Nat.le_of_ble_eq_true rfl), (Nat.le_of_ble_eq_true rfl)⟩ ⟨Nat.zero_le _, Nat.zero_le _⟩ (Nat.le_of_ble_eq_true rfl) (fun r180 h => ?_)
  refine J_ic_le (pc := 183) (tgt := 190) C dL_isSound_183 (by decide) h (fun h => ?_) (fun h => ?_)
  · refine J_iconst (v := (0 : Int32)) (pc := 190) C dL_isSound_190 (by decide) ?_
    exact t_L_isSound_b191 C hr hk_7 h
  · refine J_iconst (v := (1 : Int32)) (pc := 186) C dL_isSound_186 (by decide) ?_
    refine J_goto (tgt := 191) (pc := 187) C dL_isSound_187 (by decide) ?_
    exact t_L_isSound_b191 C hr hk_7 h
set_option maxHeartbeats 4000000 in
set_option maxRecDepth 100000 in
theorem t_L_isSound_b28 {l : Launch} {D : va_G} {A : Nat → Nat → Nat} {cI cB cL cO : ClassId} {pf : Nat → Nat} {p : Program} {e : Env} {s : State} {m : MethodId} {args : Array Value} {below : List Frame} {meth : Method} {c : Code} {W0 : va_W} {N : Nat}  {x2 : Int32} {x3 : Int32} {x4 : Int32} {o : Int32 × T_PL} (C : jC p s m args meth c cL_isSound 8 RL D [(cI, .int), (cB, .byte), (cL, .byte), (cO, .object RX0)] pf (va_A W0 s.heap.size)) (hr : meth.sig.returnType = (some FieldType.boolean)) {k_7 : (Int32) → (Int32) → (Int32) → (T_PL) → Option (Int32 × T_PL)} (hk_7 : ∀ (x2 : Int32) (x3 : Int32) (x4 : Int32) (zs : T_PL), k_7 x2 x3 x4 zs = some o → J p l e { frames := 9, cells := 0, slots := 0, locals := 175 } s m args below meth c 8 D (va_A W0 s.heap.size) (MQ below (jQ D [(cI, .int), (cB, .byte), (cL, .byte), (cO, .object RX0)] W0 s.heap.size (is1 (some (.int o.1)) (wPL cI cB cO A o.2))) args s 0 0 (va_A W0 s.heap.size)) 0 0 7 [(0, .ref (pf 92)), (1, .ref (A 0 0)), (2, .int x2), (3, .int x3), (4, .int x4)] [] (wPL cI cB cO A zs)) : ∀ (n : Nat) (x5 : Int32) (x6 : Int32) (x7 : Int32) (zs : T_PL), f_L_isSound_b28 N pf k_7 x2 x3 x4 n x5 x6 x7 zs = some o → J p l e { frames := 9, cells := 0, slots := 0, locals := 175 } s m args below meth c 8 D (va_A W0 s.heap.size) (MQ below (jQ D [(cI, .int), (cB, .byte), (cL, .byte), (cO, .object RX0)] W0 s.heap.size (is1 (some (.int o.1)) (wPL cI cB cO A o.2))) args s 0 0 (va_A W0 s.heap.size)) 0 0 28 [(0, .ref (pf 92)), (1, .ref (A 0 0)), (2, .int x2), (3, .int x3), (4, .int x4), (5, .int x5), (6, .int x6), (7, .int x7)] [] (wPL cI cB cO A zs) := by
  intro n
  induction n with
  | zero =>
    intro _ _ _ _ h
    rw [f_L_isSound_b28] at h
    cases h
  | succ n ih =>
    intro x5 x6 x7 zs h
    rw [f_L_isSound_b28] at h
    refine J_iload (pc := 28) C dL_isSound_28 7 rfl ?_
    refine J_aload_n (pc := 30) C dL_isSound_30 1 rfl ?_
    refine J_iload (pc := 31) C dL_isSound_31 4 rfl ?_
    refine J_cvP (pc := 33) (As := [.int x4]) (st := [.int x7]) C (fun z => (wPL cI cB cO A z)) dL_isSound_33 ml_RL_176 mi_yX10_cohortCount (fun a s2 hr => R_cohortCount l D cI cB cL cO pf N A zs x4 hr) h at_this rfl rfl ⟨rfl, rfl⟩ ⟨(Nat.le_of_ble_eq_true rfl), (Nat.le_of_ble_eq_true rfl)⟩ ⟨Nat.zero_le _, Nat.zero_le _⟩ (Nat.le_of_ble_eq_true rfl) (fun r33 h => ?_)
    refine J_ic_ge (pc := 36) (tgt := 120) C dL_isSound_36 (by decide) h (fun h => ?_) (fun h => ?_)
    · refine J_iload (pc := 120) C dL_isSound_120 6 rfl ?_
      refine J_aload_n (pc := 122) C dL_isSound_122 1 rfl ?_
      refine J_iload (pc := 123) C dL_isSound_123 4 rfl ?_
      refine J_cvP (pc := 125) (As := [.int x4]) (st := [.int x6]) C (fun z => (wPL cI cB cO A z)) dL_isSound_125 ml_RL_200 mi_yX10_balance (fun a s2 hr => R_balance l D cI cB cL cO pf N A r33.2.2 x4 hr) h at_this rfl rfl ⟨rfl, rfl⟩ ⟨(Nat.le_of_ble_eq_true rfl), (Nat.le_of_ble_eq_true rfl)⟩ ⟨Nat.zero_le _, Nat.zero_le _⟩ (Nat.le_of_ble_eq_true rfl) (fun r125 h => ?_)
      refine J_ic_ne (pc := 128) (tgt := 155) C dL_isSound_128 (by decide) h (fun h => ?_) (fun h => ?_)
      · refine J_iconst (v := (0 : Int32)) (pc := 155) C dL_isSound_155 (by decide) ?_
        cases h
        exact J_zret (pc := 156) C dL_isSound_156 hr rfl ⟨rfl, rfl⟩
      · refine J_aload_n (pc := 131) C dL_isSound_131 1 rfl ?_
        refine J_iload (pc := 132) C dL_isSound_132 4 rfl ?_
        refine J_cvP (pc := 134) (As := [.int x4]) (st := []) C (fun z => (wPL cI cB cO A z)) dL_isSound_134 ml_RL_164 mi_yX10_debt (fun a s2 hr => R_debt l D cI cB cL cO pf N A r125.2.2 x4 hr) h at_this rfl rfl ⟨rfl, rfl⟩ ⟨(Nat.le_of_ble_eq_true rfl), (Nat.le_of_ble_eq_true rfl)⟩ ⟨Nat.zero_le _, Nat.zero_le _⟩ (Nat.le_of_ble_eq_true rfl) (fun r134 h => ?_)
        refine J_if_lt (pc := 137) (tgt := 155) C dL_isSound_137 (by decide) h (fun h => ?_) (fun h => ?_)
        · refine J_iconst (v := (0 : Int32)) (pc := 155) C dL_isSound_155 (by decide) ?_
          cases h
          exact J_zret (pc := 156) C dL_isSound_156 hr rfl ⟨rfl, rfl⟩
        · refine J_aload_n (pc := 140) C dL_isSound_140 1 rfl ?_
          refine J_iload (pc := 141) C dL_isSound_141 4 rfl ?_
          refine J_cvP (pc := 143) (As := [.int x4]) (st := []) C (fun z => (wPL cI cB cO A z)) dL_isSound_143 ml_RL_167 mi_yX10_tier (fun a s2 hr => R_tier l D cI cB cL cO pf N A r134.2.2 x4 hr) h at_this rfl rfl ⟨rfl, rfl⟩ ⟨(Nat.le_of_ble_eq_true rfl), (Nat.le_of_ble_eq_true rfl)⟩ ⟨Nat.zero_le _, Nat.zero_le _⟩ (Nat.le_of_ble_eq_true rfl) (fun r143 h => ?_)
          refine J_aload_n (pc := 146) C dL_isSound_146 1 rfl ?_
          refine J_iload (pc := 147) C dL_isSound_147 4 rfl ?_
          refine J_cvP (pc := 149) (As := [.int x4]) (st := [.int r143.2.1]) C (fun z => (wPL cI cB cO A z)) dL_isSound_149 ml_RL_203 mi_yX10_earnedTier (fun a s2 hr => R_earnedTier l D cI cB cL cO pf N A r143.2.2 x4 hr) h at_this rfl rfl ⟨rfl, rfl⟩ ⟨(Nat.le_of_ble_eq_true rfl), (Nat.le_of_ble_eq_true rfl)⟩ ⟨Nat.zero_le _, Nat.zero_le _⟩ (Nat.le_of_ble_eq_true rfl) (fun r149 h => ?_)
          refine J_ic_ge (pc := 152) (tgt := 157) C dL_isSound_152 (by decide) h (fun h => ?_) (fun h => ?_)
          · refine J_aload_n (pc := 157) C dL_isSound_157 1 rfl ?_
            refine J_iload (pc := 158) C dL_isSound_158 4 rfl ?_
            refine J_cvP (pc := 160) (As := [.int x4]) (st := []) C (fun z => (wPL cI cB cO A z)) dL_isSound_160 ml_RL_170 mi_yX10_belowSince (fun a s2 hr => R_belowSince l D cI cB cL cO pf N A r149.2.2 x4 hr) h at_this rfl rfl ⟨rfl, rfl⟩ ⟨(Nat.le_of_ble_eq_true rfl), (Nat.le_of_ble_eq_true rfl)⟩ ⟨Nat.zero_le _, Nat.zero_le _⟩ (Nat.le_of_ble_eq_true rfl) (fun r160 h => ?_)
            refine J_if_lt (pc := 163) (tgt := 170) C dL_isSound_163 (by decide) h (fun h => ?_) (fun h => ?_)
            · refine J_iconst (v := (0 : Int32)) (pc := 170) C dL_isSound_170 (by decide) ?_
              refine J_sub (lv2 := [(0, .ref (pf 92)), (1, .ref (A 0 0)), (2, .int x2), (3, .int x3), (4, .int x4), (6, .int x6)]) [0, 1, 2, 3, 4, 6] rfl ?_
              exact t_L_isSound_b171 C hr hk_7 h
            · refine J_iconst (v := (1 : Int32)) (pc := 166) C dL_isSound_166 (by decide) ?_
              refine J_goto (tgt := 171) (pc := 167) C dL_isSound_167 (by decide) ?_
              refine J_sub (lv2 := [(0, .ref (pf 92)), (1, .ref (A 0 0)), (2, .int x2), (3, .int x3), (4, .int x4), (6, .int x6)]) [0, 1, 2, 3, 4, 6] rfl ?_
              exact t_L_isSound_b171 C hr hk_7 h
          · refine J_iconst (v := (0 : Int32)) (pc := 155) C dL_isSound_155 (by decide) ?_
            cases h
            exact J_zret (pc := 156) C dL_isSound_156 hr rfl ⟨rfl, rfl⟩
    · refine J_aload_n (pc := 39) C dL_isSound_39 1 rfl ?_
      refine J_iload (pc := 40) C dL_isSound_40 4 rfl ?_
      refine J_iload (pc := 42) C dL_isSound_42 7 rfl ?_
      refine J_iconst (v := (0 : Int32)) (pc := 44) C dL_isSound_44 (by decide) ?_
      refine J_cvP (pc := 45) (As := [.int x4, .int x7, .int (0 : Int32)]) (st := []) C (fun z => (wPL cI cB cO A z)) dL_isSound_45 ml_RL_179 mi_yX10_cohort (fun a s2 hr => R_cohort l D cI cB cL cO pf N A r33.2.2 x4 x7 (0 : Int32) hr) h at_this rfl rfl ⟨rfl, rfl⟩ ⟨(Nat.le_of_ble_eq_true rfl), (Nat.le_of_ble_eq_true rfl)⟩ ⟨Nat.zero_le _, Nat.zero_le _⟩ (Nat.le_of_ble_eq_true rfl) (fun r45 h => ?_)
      refine J_iconst (v := (1 : Int32)) (pc := 48) C dL_isSound_48 (by decide) ?_
      refine J_ic_lt (pc := 49) (tgt := 87) C dL_isSound_49 (by decide) h (fun h => ?_) (fun h => ?_)
      · refine J_iconst (v := (0 : Int32)) (pc := 87) C dL_isSound_87 (by decide) ?_
        cases h
        exact J_zret (pc := 88) C dL_isSound_88 hr rfl ⟨rfl, rfl⟩
      · refine J_aload_n (pc := 52) C dL_isSound_52 1 rfl ?_
        refine J_iload (pc := 53) C dL_isSound_53 4 rfl ?_
        refine J_iload (pc := 55) C dL_isSound_55 7 rfl ?_
        refine J_iconst (v := (1 : Int32)) (pc := 57) C dL_isSound_57 (by decide) ?_
        refine J_cvP (pc := 58) (As := [.int x4, .int x7, .int (1 : Int32)]) (st := []) C (fun z => (wPL cI cB cO A z)) dL_isSound_58 ml_RL_179 mi_yX10_cohort (fun a s2 hr => R_cohort l D cI cB cL cO pf N A r45.2.2 x4 x7 (1 : Int32) hr) h at_this rfl rfl ⟨rfl, rfl⟩ ⟨(Nat.le_of_ble_eq_true rfl), (Nat.le_of_ble_eq_true rfl)⟩ ⟨Nat.zero_le _, Nat.zero_le _⟩ (Nat.le_of_ble_eq_true rfl) (fun r58 h => ?_)
        refine J_iload (pc := 61) C dL_isSound_61 5 rfl ?_
        refine J_ic_le (pc := 63) (tgt := 87) C dL_isSound_63 (by decide) h (fun h => ?_) (fun h => ?_)
        · refine J_iconst (v := (0 : Int32)) (pc := 87) C dL_isSound_87 (by decide) ?_
          cases h
          exact J_zret (pc := 88) C dL_isSound_88 hr rfl ⟨rfl, rfl⟩
        · refine J_aload_n (pc := 66) C dL_isSound_66 1 rfl ?_
          refine J_iload (pc := 67) C dL_isSound_67 4 rfl ?_
          refine J_iload (pc := 69) C dL_isSound_69 7 rfl ?_
          refine J_iconst (v := (1 : Int32)) (pc := 71) C dL_isSound_71 (by decide) ?_
          refine J_cvP (pc := 72) (As := [.int x4, .int x7, .int (1 : Int32)]) (st := []) C (fun z => (wPL cI cB cO A z)) dL_isSound_72 ml_RL_179 mi_yX10_cohort (fun a s2 hr => R_cohort l D cI cB cL cO pf N A r58.2.2 x4 x7 (1 : Int32) hr) h at_this rfl rfl ⟨rfl, rfl⟩ ⟨(Nat.le_of_ble_eq_true rfl), (Nat.le_of_ble_eq_true rfl)⟩ ⟨Nat.zero_le _, Nat.zero_le _⟩ (Nat.le_of_ble_eq_true rfl) (fun r72 h => ?_)
          refine J_aload_n (pc := 75) C dL_isSound_75 1 rfl ?_
          refine J_cvL (pc := 76) (As := []) (st := [.int r72.2.1]) (V := fun r76 => some (.int r76.1)) C (fun r76 => (wPL cI cB cO A r76.2)) dL_isSound_76 ml_RL_152 mi_yX10_today (fun r hr => Q_today l D cI cB cL cO pf N A r72.2.2 r hr) h at_this rfl rfl ⟨rfl, rfl⟩ ⟨(Nat.le_of_ble_eq_true rfl), (Nat.le_of_ble_eq_true rfl)⟩ ⟨Nat.zero_le _, Nat.zero_le _⟩ (Nat.le_of_ble_eq_true rfl) (fun r76 h => ?_)
          refine J_aload_n (pc := 79) C dL_isSound_79 0 rfl ?_
          refine J_csL (b := 0) (pc := 80) (As := [.ref (pf 92)]) (st := [.int r76.1, .int r72.2.1]) (V := fun r80 => some (.int r80)) C (fun _ => (wPL cI cB cO A r76.2)) dL_isSound_80 ml_RL_61 mi_yL_life (fun r hr => Ct_nil (c_L_life l D cI cB cL cO pf N r hr)) h rfl ⟨rfl, rfl⟩ ⟨(Nat.le_of_ble_eq_true rfl), (Nat.le_of_ble_eq_true rfl)⟩ ⟨Nat.zero_le _, Nat.zero_le _⟩ (Nat.le_of_ble_eq_true rfl) (fun r80 h => ?_)
          refine J_iadd (pc := 83) C dL_isSound_83 ?_
          refine J_ic_le (pc := 84) (tgt := 89) C dL_isSound_84 (by decide) h (fun h => ?_) (fun h => ?_)
          · refine J_aload_n (pc := 89) C dL_isSound_89 1 rfl ?_
            refine J_iload (pc := 90) C dL_isSound_90 4 rfl ?_
            refine J_iload (pc := 92) C dL_isSound_92 7 rfl ?_
            refine J_iconst (v := (1 : Int32)) (pc := 94) C dL_isSound_94 (by decide) ?_
            refine J_cvP (pc := 95) (As := [.int x4, .int x7, .int (1 : Int32)]) (st := []) C (fun z => (wPL cI cB cO A z)) dL_isSound_95 ml_RL_179 mi_yX10_cohort (fun a s2 hr => R_cohort l D cI cB cL cO pf N A r76.2 x4 x7 (1 : Int32) hr) h at_this rfl rfl ⟨rfl, rfl⟩ ⟨(Nat.le_of_ble_eq_true rfl), (Nat.le_of_ble_eq_true rfl)⟩ ⟨Nat.zero_le _, Nat.zero_le _⟩ (Nat.le_of_ble_eq_true rfl) (fun r95 h => ?_)
            refine J_istore (lv2 := [(5, .int r95.2.1), (0, .ref (pf 92)), (1, .ref (A 0 0)), (2, .int x2), (3, .int x3), (4, .int x4), (6, .int x6), (7, .int x7)]) (pc := 98) C dL_isSound_98 (by decide) rfl ?_
            refine J_iload (pc := 100) C dL_isSound_100 6 rfl ?_
            refine J_aload_n (pc := 102) C dL_isSound_102 2 rfl ?_
            refine J_iload (pc := 103) C dL_isSound_103 5 rfl ?_
            refine J_iload (pc := 105) C dL_isSound_105 7 rfl ?_
            refine J_iconst (v := (0 : Int32)) (pc := 107) C dL_isSound_107 (by decide) ?_
            refine J_cvP (pc := 108) (As := [.int x4, .int x7, .int (0 : Int32)]) (st := [.int x6]) C (fun z => (wPL cI cB cO A z)) dL_isSound_108 ml_RL_179 mi_yX10_cohort (fun a s2 hr => R_cohort l D cI cB cL cO pf N A r95.2.2 x4 x7 (0 : Int32) hr) h at_this rfl rfl ⟨rfl, rfl⟩ ⟨(Nat.le_of_ble_eq_true rfl), (Nat.le_of_ble_eq_true rfl)⟩ ⟨Nat.zero_le _, Nat.zero_le _⟩ (Nat.le_of_ble_eq_true rfl) (fun r108 h => ?_)
            refine J_iadd (pc := 111) C dL_isSound_111 ?_
            refine J_istoreN (pc := 112) C (fun y112 => [(6, .int y112), (5, .int r95.2.1), (0, .ref (pf 92)), (1, .ref (A 0 0)), (2, .int x2), (3, .int x3), (4, .int x4), (7, .int x7)]) dL_isSound_112 h (by decide) (fun _ => rfl) (fun y112 h => ?_)
            refine J_iincN (pc := 114) (v := (1 : Int32)) C (fun y114 => [(7, .int y114), (6, .int y112), (5, .int r95.2.1), (0, .ref (pf 92)), (1, .ref (A 0 0)), (2, .int x2), (3, .int x3), (4, .int x4)]) dL_isSound_114 7 rfl (by decide) h (by decide) (fun _ => rfl) (fun y114 h => ?_)
            refine J_goto (tgt := 28) (pc := 117) C dL_isSound_117 (by decide) ?_
            refine J_sub (lv2 := [(0, .ref (pf 92)), (1, .ref (A 0 0)), (2, .int x2), (3, .int x3), (4, .int x4), (5, .int r95.2.1), (6, .int y112), (7, .int y114)]) [3, 4, 5, 6, 7, 2, 1, 0] rfl ?_
            exact ih _ _ _ _ h
          · refine J_iconst (v := (0 : Int32)) (pc := 87) C dL_isSound_87 (by decide) ?_
            cases h
            exact J_zret (pc := 88) C dL_isSound_88 hr rfl ⟨rfl, rfl⟩
set_option maxHeartbeats 4000000 in
set_option maxRecDepth 100000 in
theorem t_L_isSound_b7 {l : Launch} {D : va_G} {A : Nat → Nat → Nat} {cI cB cL cO : ClassId} {pf : Nat → Nat} {p : Program} {e : Env} {s : State} {m : MethodId} {args : Array Value} {below : List Frame} {meth : Method} {c : Code} {W0 : va_W} {N : Nat}  {o : Int32 × T_PL} (C : jC p s m args meth c cL_isSound 8 RL D [(cI, .int), (cB, .byte), (cL, .byte), (cO, .object RX0)] pf (va_A W0 s.heap.size)) (hr : meth.sig.returnType = (some FieldType.boolean)) : ∀ (n : Nat) (x2 : Int32) (x3 : Int32) (x4 : Int32) (zs : T_PL), f_L_isSound_b7 N pf n x2 x3 x4 zs = some o → J p l e { frames := 9, cells := 0, slots := 0, locals := 175 } s m args below meth c 8 D (va_A W0 s.heap.size) (MQ below (jQ D [(cI, .int), (cB, .byte), (cL, .byte), (cO, .object RX0)] W0 s.heap.size (is1 (some (.int o.1)) (wPL cI cB cO A o.2))) args s 0 0 (va_A W0 s.heap.size)) 0 0 7 [(0, .ref (pf 92)), (1, .ref (A 0 0)), (2, .int x2), (3, .int x3), (4, .int x4)] [] (wPL cI cB cO A zs) := by
  intro n
  induction n with
  | zero =>
    intro _ _ _ _ h
    rw [f_L_isSound_b7] at h
    cases h
  | succ n ih =>
    intro x2 x3 x4 zs h
    rw [f_L_isSound_b7] at h
    refine J_iload (pc := 7) C dL_isSound_7 4 rfl ?_
    refine J_aload_n (pc := 9) C dL_isSound_9 0 rfl ?_
    refine J_csL (b := 0) (pc := 10) (As := [.ref (pf 92)]) (st := [.int x4]) (V := fun r10 => some (.int r10)) C (fun _ => (wPL cI cB cO A zs)) dL_isSound_10 ml_RL_108 mi_yL_members (fun r hr => Ct_nil (c_L_members l D cI cB cL cO pf N r hr)) h rfl ⟨rfl, rfl⟩ ⟨(Nat.le_of_ble_eq_true rfl), (Nat.le_of_ble_eq_true rfl)⟩ ⟨Nat.zero_le _, Nat.zero_le _⟩ (Nat.le_of_ble_eq_true rfl) (fun r10 h => ?_)
    refine J_ic_ge (pc := 13) (tgt := 280) C dL_isSound_13 (by decide) h (fun h => ?_) (fun h => ?_)
    · refine J_iconst (v := (0 : Int32)) (pc := 280) C dL_isSound_280 (by decide) ?_
      refine J_istore (lv2 := [(4, .int (0 : Int32)), (0, .ref (pf 92)), (1, .ref (A 0 0)), (2, .int x2), (3, .int x3)]) (pc := 281) C dL_isSound_281 (by decide) rfl ?_
      refine J_iconst (v := (0 : Int32)) (pc := 283) C dL_isSound_283 (by decide) ?_
      refine J_istore (lv2 := [(5, .int (0 : Int32)), (4, .int (0 : Int32)), (0, .ref (pf 92)), (1, .ref (A 0 0)), (2, .int x2), (3, .int x3)]) (pc := 284) C dL_isSound_284 (by decide) rfl ?_
      refine J_iconst (v := (0 : Int32)) (pc := 286) C dL_isSound_286 (by decide) ?_
      refine J_istore (lv2 := [(6, .int (0 : Int32)), (5, .int (0 : Int32)), (4, .int (0 : Int32)), (0, .ref (pf 92)), (1, .ref (A 0 0)), (2, .int x2), (3, .int x3)]) (pc := 287) C dL_isSound_287 (by decide) rfl ?_
      refine J_sub (lv2 := [(1, .ref (A 0 0)), (2, .int x2), (3, .int x3), (4, .int (0 : Int32)), (5, .int (0 : Int32)), (6, .int (0 : Int32))]) [4, 5, 6, 2, 1, 0] rfl ?_
      exact t_L_isSound_b289 C hr N _ _ _ _ h
    · refine J_aload_n (pc := 16) C dL_isSound_16 1 rfl ?_
      refine J_cvL (pc := 17) (As := []) (st := []) (V := fun r17 => some (.int r17.1)) C (fun r17 => (wPL cI cB cO A r17.2)) dL_isSound_17 ml_RL_152 mi_yX10_today (fun r hr => Q_today l D cI cB cL cO pf N A zs r hr) h at_this rfl rfl ⟨rfl, rfl⟩ ⟨(Nat.le_of_ble_eq_true rfl), (Nat.le_of_ble_eq_true rfl)⟩ ⟨Nat.zero_le _, Nat.zero_le _⟩ (Nat.le_of_ble_eq_true rfl) (fun r17 h => ?_)
      refine J_istore (lv2 := [(5, .int r17.1), (0, .ref (pf 92)), (1, .ref (A 0 0)), (2, .int x2), (3, .int x3), (4, .int x4)]) (pc := 20) C dL_isSound_20 (by decide) rfl ?_
      refine J_iconst (v := (0 : Int32)) (pc := 22) C dL_isSound_22 (by decide) ?_
      refine J_istore (lv2 := [(6, .int (0 : Int32)), (5, .int r17.1), (0, .ref (pf 92)), (1, .ref (A 0 0)), (2, .int x2), (3, .int x3), (4, .int x4)]) (pc := 23) C dL_isSound_23 (by decide) rfl ?_
      refine J_iconst (v := (0 : Int32)) (pc := 25) C dL_isSound_25 (by decide) ?_
      refine J_istore (lv2 := [(7, .int (0 : Int32)), (6, .int (0 : Int32)), (5, .int r17.1), (0, .ref (pf 92)), (1, .ref (A 0 0)), (2, .int x2), (3, .int x3), (4, .int x4)]) (pc := 26) C dL_isSound_26 (by decide) rfl ?_
      refine J_sub (lv2 := [(0, .ref (pf 92)), (1, .ref (A 0 0)), (2, .int x2), (3, .int x3), (4, .int x4), (5, .int r17.1), (6, .int (0 : Int32)), (7, .int (0 : Int32))]) [3, 4, 5, 6, 7, 2, 1, 0] rfl ?_
      exact t_L_isSound_b28 C hr ih N _ _ _ _ h
set_option maxHeartbeats 4000000 in
set_option maxRecDepth 100000 in
theorem c_L_isSound (l : Launch) (D : va_G) (cI cB cL cO : ClassId) (pf : Nat → Nat) (N : Nat) (A : Nat → Nat → Nat) (zs : T_PL) (o : Int32 × T_PL) (h : f_L_isSound N pf zs = some o) : Ct l D [(cI, .int), (cB, .byte), (cL, .byte), (cO, .object RX0)] pf yL_isSound cL_isSound 8 (some FieldType.boolean) { frames := 9, cells := 0, slots := 0, locals := 175 } [.ref (pf 92), .ref (A 0 0)] (wPL cI cB cO A zs) (is1 (some (.int o.1)) (wPL cI cB cO A o.2)) := by
  refine Ct_of (own := RL) (lv0 := [(0, .ref (pf 92)), (1, .ref (A 0 0))]) (by decide) rfl rfl (Nat.le_of_ble_eq_true rfl) ?_
  intro p e s m args below meth c C hr hnm
  unfold f_L_isSound at h
  refine J_iconst (v := (0 : Int32)) (pc := 0) C dL_isSound_0 (by decide) ?_
  refine J_istore_n (lv2 := [(2, .int (0 : Int32)), (0, .ref (pf 92)), (1, .ref (A 0 0))]) (pc := 1) C dL_isSound_1 (by decide) rfl ?_
  refine J_iconst (v := (0 : Int32)) (pc := 2) C dL_isSound_2 (by decide) ?_
  refine J_istore_n (lv2 := [(3, .int (0 : Int32)), (2, .int (0 : Int32)), (0, .ref (pf 92)), (1, .ref (A 0 0))]) (pc := 3) C dL_isSound_3 (by decide) rfl ?_
  refine J_iconst (v := (0 : Int32)) (pc := 4) C dL_isSound_4 (by decide) ?_
  refine J_istore (lv2 := [(4, .int (0 : Int32)), (3, .int (0 : Int32)), (2, .int (0 : Int32)), (0, .ref (pf 92)), (1, .ref (A 0 0))]) (pc := 5) C dL_isSound_5 (by decide) rfl ?_
  refine J_sub (lv2 := [(0, .ref (pf 92)), (1, .ref (A 0 0)), (2, .int (0 : Int32)), (3, .int (0 : Int32)), (4, .int (0 : Int32))]) [3, 4, 2, 1, 0] rfl ?_
  exact t_L_isSound_b7 C hr N _ _ _ _ h
