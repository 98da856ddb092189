theorem dX6_init_0 : decode cX6_init 0 = .ok (.aload_n 0, 1) := by decide +kernel
theorem dX6_init_1 : decode cX6_init 1 = .ok (.invokespecial 1, 3) := by decide +kernel
theorem dX6_init_4 : decode cX6_init 4 = .ok (.aload_n 0, 1) := by decide +kernel
theorem dX6_init_5 : decode cX6_init 5 = .ok (.iload_n 1, 1) := by decide +kernel
theorem dX6_init_6 : decode cX6_init 6 = .ok (.ifCond .ge 7, 3) := by decide +kernel
theorem dX6_init_9 : decode cX6_init 9 = .ok (.iconst 0, 1) := by decide +kernel
theorem dX6_init_10 : decode cX6_init 10 = .ok (.goto 4, 3) := by decide +kernel
theorem dX6_init_13 : decode cX6_init 13 = .ok (.iload_n 1, 1) := by decide +kernel
theorem dX6_init_14 : decode cX6_init 14 = .ok (.newarray .int, 2) := by decide +kernel
theorem dX6_init_16 : decode cX6_init 16 = .ok (.putfield 7, 3) := by decide +kernel
theorem dX6_init_19 : decode cX6_init 19 = .ok (.return_, 1) := by decide +kernel
set_option maxHeartbeats 4000000 in
set_option maxRecDepth 100000 in
theorem I_Row (l : Launch) (D : va_G) (cI cB cL cO : ClassId) (pf : Nat → Nat) (x : Nat) (v0 : Int32) (n : Nat) (hx : ¬ v0 < 0) (hn : v0.toNatClampNeg = n) (hb : n * componentBytes .int ≤ 536870912) : Ct l D [(cI, .int), (cB, .byte), (cL, .byte), (cO, .object RX0)] pf yX6_init cX6_init 2 none { frames := 1, cells := 1, slots := n, locals := 20 } [.ref x, .int v0] (List.flatten [[(x, .inr (6, [.null]))]]) (fun v w => v = none ∧ ∃ r, w = List.flatten [[(x, .inr (6, [.ref r])), (r, .inl (cI, n, .inl (fun _ => 0)))]]) := by
  refine Ct_of (own := RX6) (lv0 := [(0, .ref x), (1, .int v0)]) (by decide) rfl rfl (Nat.le_of_ble_eq_true rfl) ?_
  intro p e s m args below meth c C hr hnm
  refine J_aload_n (pc := 0) C dX6_init_0 0 rfl ?_
  refine J_objInit (pc := 1) C dX6_init_1 ml_RX6_1 ⟨(Nat.le_of_ble_eq_true rfl), (Nat.le_of_ble_eq_true rfl)⟩ (Nat.le_of_ble_eq_true rfl) ?_
  refine J_aload_n (pc := 4) C dX6_init_4 0 rfl ?_
  refine J_iload_n (pc := 5) C dX6_init_5 1 rfl ?_
  refine J_if_ge (α := Unit) (o := ()) (X := some ()) (Y := none) (pc := 6) (tgt := 13) C dX6_init_6 (by decide) (if_pos (Int32.not_lt.mp hx)) (fun _ => ?_) (fun h => by cases h)
  refine J_iload_n (pc := 13) C dX6_init_13 1 rfl ?_
  refine J_newa (atype := .int) (a0 := (n, .inl (fun _ => 0))) (N := n) (pc := 14) C dX6_init_14 w_arI rfl 0 rfl (by intro C h; cases h) (fun _ => rfl) hx hn hb ⟨(Nat.le_of_ble_eq_true rfl), (by simp)⟩ (fun r => ?_)
  refine J_ws (ws2 := List.flatten [[(x, .inr (6, [.null]))], [(r, .inl (cI, n, .inl (fun _ => 0)))]]) (flat_snoc _ _) ?_
  refine J_putF (tt := .array .int) (pc := 16) C dX6_init_16 jf_X6 0 (rfl : (List.flatten ([[(x, .inr (6, [.null]))], [(r, .inl (cI, n, .inl (fun _ => 0)))]] : List va_W))[0]? = some (x, .inr (6, [.null]))) rfl 0 (by decide) rfl fl_RX6_7 rfl hnm rfl (by decide +kernel) rfl rfl (Nat.le_of_ble_eq_true rfl) ?_
  refine J_ws (ws2 := List.flatten [[(x, .inr (6, [.ref r])), (r, .inl (cI, n, .inl (fun _ => 0)))]]) rfl ?_
  refine J_widen (k2 := 1) (n2 := n) (Nat.le_of_ble_eq_true rfl) (by simp) ?_
  exact J_vret (pc := 19) C dX6_init_19 hr ⟨rfl, r, rfl⟩
theorem dX1_init_0 : decode cX1_init 0 = .ok (.aload_n 0, 1) := by decide +kernel
theorem dX1_init_1 : decode cX1_init 1 = .ok (.invokespecial 3, 3) := by decide +kernel
theorem dX1_init_4 : decode cX1_init 4 = .ok (.aload_n 0, 1) := by decide +kernel
theorem dX1_init_5 : decode cX1_init 5 = .ok (.new 9, 3) := by decide +kernel
theorem dX1_init_8 : decode cX1_init 8 = .ok (.dup, 1) := by decide +kernel
theorem dX1_init_9 : decode cX1_init 9 = .ok (.sipush 1024, 3) := by decide +kernel
theorem dX1_init_12 : decode cX1_init 12 = .ok (.invokespecial 11, 3) := by decide +kernel
theorem dX1_init_15 : decode cX1_init 15 = .ok (.putfield 14, 3) := by decide +kernel
theorem dX1_init_18 : decode cX1_init 18 = .ok (.aload_n 0, 1) := by decide +kernel
theorem dX1_init_19 : decode cX1_init 19 = .ok (.new 9, 3) := by decide +kernel
theorem dX1_init_22 : decode cX1_init 22 = .ok (.dup, 1) := by decide +kernel
theorem dX1_init_23 : decode cX1_init 23 = .ok (.sipush 1024, 3) := by decide +kernel
theorem dX1_init_26 : decode cX1_init 26 = .ok (.invokespecial 11, 3) := by decide +kernel
theorem dX1_init_29 : decode cX1_init 29 = .ok (.putfield 20, 3) := by decide +kernel
theorem dX1_init_32 : decode cX1_init 32 = .ok (.aload_n 0, 1) := by decide +kernel
theorem dX1_init_33 : decode cX1_init 33 = .ok (.new 9, 3) := by decide +kernel
theorem dX1_init_36 : decode cX1_init 36 = .ok (.dup, 1) := by decide +kernel
theorem dX1_init_37 : decode cX1_init 37 = .ok (.sipush 1024, 3) := by decide +kernel
theorem dX1_init_40 : decode cX1_init 40 = .ok (.invokespecial 11, 3) := by decide +kernel
theorem dX1_init_43 : decode cX1_init 43 = .ok (.putfield 23, 3) := by decide +kernel
theorem dX1_init_46 : decode cX1_init 46 = .ok (.aload_n 0, 1) := by decide +kernel
theorem dX1_init_47 : decode cX1_init 47 = .ok (.new 9, 3) := by decide +kernel
theorem dX1_init_50 : decode cX1_init 50 = .ok (.dup, 1) := by decide +kernel
theorem dX1_init_51 : decode cX1_init 51 = .ok (.sipush 1024, 3) := by decide +kernel
theorem dX1_init_54 : decode cX1_init 54 = .ok (.invokespecial 11, 3) := by decide +kernel
theorem dX1_init_57 : decode cX1_init 57 = .ok (.putfield 26, 3) := by decide +kernel
theorem dX1_init_60 : decode cX1_init 60 = .ok (.aload_n 0, 1) := by decide +kernel
theorem dX1_init_61 : decode cX1_init 61 = .ok (.iconst 0, 1) := by decide +kernel
theorem dX1_init_62 : decode cX1_init 62 = .ok (.putfield 29, 3) := by decide +kernel
theorem dX1_init_65 : decode cX1_init 65 = .ok (.return_, 1) := by decide +kernel
set_option maxHeartbeats 4000000 in
set_option maxRecDepth 100000 in
theorem I_Cohorts (l : Launch) (D : va_G) (cI cB cL cO : ClassId) (pf : Nat → Nat) (x : Nat) : Ct l D [(cI, .int), (cB, .byte), (cL, .byte), (cO, .object RX0)] pf yX1_init cX1_init 1 none { frames := 2, cells := 8, slots := 4100, locals := 41 } [.ref x] (List.flatten [[(x, .inr (1, [.null, .null, .null, .null, .int 0]))]]) (fun v w => v = none ∧ ∃ q1 r2 q3 r4 q5 r6 q7 r8, w = List.flatten [[(x, .inr (1, [.ref q1, .ref q3, .ref q5, .ref q7, .int (0 : Int32)])), (q1, .inr (6, [.ref r2])), (r2, .inl (cI, 1024, .inl (fun _ => 0))), (q3, .inr (6, [.ref r4])), (r4, .inl (cI, 1024, .inl (fun _ => 0))), (q5, .inr (6, [.ref r6])), (r6, .inl (cI, 1024, .inl (fun _ => 0))), (q7, .inr (6, [.ref r8])), (r8, .inl (cI, 1024, .inl (fun _ => 0)))]]) := by
  refine Ct_of (own := RX1) (lv0 := [(0, .ref x)]) (by decide) rfl rfl (Nat.le_of_ble_eq_true rfl) ?_
  intro p e s m args below meth c C hr hnm
  refine J_aload_n (pc := 0) C dX1_init_0 0 rfl ?_
  refine J_objInit (pc := 1) C dX1_init_1 ml_RX1_3 ⟨(Nat.le_of_ble_eq_true rfl), (Nat.le_of_ble_eq_true rfl)⟩ (Nat.le_of_ble_eq_true rfl) ?_
  refine J_aload_n (pc := 4) C dX1_init_4 0 rfl ?_
  refine J_new (ci := 6) (fs := [.null]) (pc := 5) C dX1_init_5 jf_X6 clk_RX1_9 ins_RX6 ini_RX6 rfl (df_X6) ⟨(Nat.le_of_ble_eq_true rfl), (Nat.le_of_ble_eq_true rfl)⟩ (fun q1 => ?_)
  refine J_ws (ws2 := (List.flatten ([[(x, .inr (1, [.null, .null, .null, .null, .int 0]))], [(q1, .inr (6, [.null]))]] : List va_W))) (flat_snoc _ _) ?_
  refine J_dupr (pc := 8) C dX1_init_8 ?_
  refine J_sipush (v := (1024 : Int32)) (pc := 9) C dX1_init_9 (by decide) ?_
  refine J_ciF (pc := 12) (As := [.int (1024 : Int32)]) (st := [.ref q1, .ref x]) C dX1_init_12 ml_RX1_11 mi_yX6_init (I_Row l D cI cB cL cO pf q1 (1024 : Int32) 1024 (by decide) rfl (Nat.le_of_ble_eq_true rfl)) (List.flatten [[(x, .inr (1, [.null, .null, .null, .null, .int 0]))]]) (seg_split (segs := [[(x, .inr (1, [.null, .null, .null, .null, .int 0]))], [(q1, .inr (6, [.null]))]]) (Wc := [[(q1, .inr (6, [.null]))]]) (Wr := [[(x, .inr (1, [.null, .null, .null, .null, .int 0]))]]) [1] [0] rfl rfl 2 rfl (by decide +kernel)) rfl ⟨(Nat.le_of_ble_eq_true rfl), (Nat.le_of_ble_eq_true rfl)⟩ ⟨(Nat.le_of_ble_eq_true rfl), (Nat.le_of_ble_eq_true rfl)⟩ (Nat.le_of_ble_eq_true rfl) ?_
  rintro v w1 ⟨rfl, r2, rfl⟩
  refine J_perm (seg_split (segs := [[(x, .inr (1, [.null, .null, .null, .null, .int 0]))], [(q1, .inr (6, [.ref r2])), (r2, .inl (cI, 1024, .inl (fun _ => 0)))]]) (Wc := [[(q1, .inr (6, [.ref r2])), (r2, .inl (cI, 1024, .inl (fun _ => 0)))]]) (Wr := [[(x, .inr (1, [.null, .null, .null, .null, .int 0]))]]) [1] [0] rfl rfl 2 rfl (by decide +kernel)).symm ?_
  refine J_putF (tt := .object "PointsLedger$Row") (pc := 15) C dX1_init_15 jf_X1 0 (rfl : (List.flatten ([[(x, .inr (1, [.null, .null, .null, .null, .int 0]))], [(q1, .inr (6, [.ref r2])), (r2, .inl (cI, 1024, .inl (fun _ => 0)))]] : List va_W))[0]? = some (x, .inr (1, [.null, .null, .null, .null, .int 0]))) rfl 0 (by decide) rfl fl_RX1_14 rfl hnm rfl (by decide +kernel) rfl rfl (Nat.le_of_ble_eq_true rfl) ?_
  refine J_ws (ws2 := (List.flatten ([[(x, .inr (1, [.ref q1, .null, .null, .null, .int 0]))], [(q1, .inr (6, [.ref r2])), (r2, .inl (cI, 1024, .inl (fun _ => 0)))]] : List va_W))) rfl ?_
  refine J_aload_n (pc := 18) C dX1_init_18 0 rfl ?_
  refine J_new (ci := 6) (fs := [.null]) (pc := 19) C dX1_init_19 jf_X6 clk_RX1_9 ins_RX6 ini_RX6 rfl (df_X6) ⟨(Nat.le_of_ble_eq_true rfl), (Nat.le_of_ble_eq_true rfl)⟩ (fun q3 => ?_)
  refine J_ws (ws2 := (List.flatten ([[(x, .inr (1, [.ref q1, .null, .null, .null, .int 0]))], [(q1, .inr (6, [.ref r2])), (r2, .inl (cI, 1024, .inl (fun _ => 0)))], [(q3, .inr (6, [.null]))]] : List va_W))) (flat_snoc _ _) ?_
  refine J_dupr (pc := 22) C dX1_init_22 ?_
  refine J_sipush (v := (1024 : Int32)) (pc := 23) C dX1_init_23 (by decide) ?_
  refine J_ciF (pc := 26) (As := [.int (1024 : Int32)]) (st := [.ref q3, .ref x]) C dX1_init_26 ml_RX1_11 mi_yX6_init (I_Row l D cI cB cL cO pf q3 (1024 : Int32) 1024 (by decide) rfl (Nat.le_of_ble_eq_true rfl)) (List.flatten [[(x, .inr (1, [.ref q1, .null, .null, .null, .int 0]))], [(q1, .inr (6, [.ref r2])), (r2, .inl (cI, 1024, .inl (fun _ => 0)))]]) (seg_split (segs := [[(x, .inr (1, [.ref q1, .null, .null, .null, .int 0]))], [(q1, .inr (6, [.ref r2])), (r2, .inl (cI, 1024, .inl (fun _ => 0)))], [(q3, .inr (6, [.null]))]]) (Wc := [[(q3, .inr (6, [.null]))]]) (Wr := [[(x, .inr (1, [.ref q1, .null, .null, .null, .int 0]))], [(q1, .inr (6, [.ref r2])), (r2, .inl (cI, 1024, .inl (fun _ => 0)))]]) [2] [0, 1] rfl rfl 3 rfl (by decide +kernel)) rfl ⟨(Nat.le_of_ble_eq_true rfl), (Nat.le_of_ble_eq_true rfl)⟩ ⟨(Nat.le_of_ble_eq_true rfl), (Nat.le_of_ble_eq_true rfl)⟩ (Nat.le_of_ble_eq_true rfl) ?_
  rintro v w1 ⟨rfl, r4, rfl⟩
  refine J_perm (seg_split (segs := [[(x, .inr (1, [.ref q1, .null, .null, .null, .int 0]))], [(q1, .inr (6, [.ref r2])), (r2, .inl (cI, 1024, .inl (fun _ => 0)))], [(q3, .inr (6, [.ref r4])), (r4, .inl (cI, 1024, .inl (fun _ => 0)))]]) (Wc := [[(q3, .inr (6, [.ref r4])), (r4, .inl (cI, 1024, .inl (fun _ => 0)))]]) (Wr := [[(x, .inr (1, [.ref q1, .null, .null, .null, .int 0]))], [(q1, .inr (6, [.ref r2])), (r2, .inl (cI, 1024, .inl (fun _ => 0)))]]) [2] [0, 1] rfl rfl 3 rfl (by decide +kernel)).symm ?_
  refine J_putF (tt := .object "PointsLedger$Row") (pc := 29) C dX1_init_29 jf_X1 0 (rfl : (List.flatten ([[(x, .inr (1, [.ref q1, .null, .null, .null, .int 0]))], [(q1, .inr (6, [.ref r2])), (r2, .inl (cI, 1024, .inl (fun _ => 0)))], [(q3, .inr (6, [.ref r4])), (r4, .inl (cI, 1024, .inl (fun _ => 0)))]] : List va_W))[0]? = some (x, .inr (1, [.ref q1, .null, .null, .null, .int 0]))) rfl 1 (by decide) rfl fl_RX1_20 rfl hnm rfl (by decide +kernel) rfl rfl (Nat.le_of_ble_eq_true rfl) ?_
  refine J_ws (ws2 := (List.flatten ([[(x, .inr (1, [.ref q1, .ref q3, .null, .null, .int 0]))], [(q1, .inr (6, [.ref r2])), (r2, .inl (cI, 1024, .inl (fun _ => 0)))], [(q3, .inr (6, [.ref r4])), (r4, .inl (cI, 1024, .inl (fun _ => 0)))]] : List va_W))) rfl ?_
  refine J_aload_n (pc := 32) C dX1_init_32 0 rfl ?_
  refine J_new (ci := 6) (fs := [.null]) (pc := 33) C dX1_init_33 jf_X6 clk_RX1_9 ins_RX6 ini_RX6 rfl (df_X6) ⟨(Nat.le_of_ble_eq_true rfl), (Nat.le_of_ble_eq_true rfl)⟩ (fun q5 => ?_)
  refine J_ws (ws2 := (List.flatten ([[(x, .inr (1, [.ref q1, .ref q3, .null, .null, .int 0]))], [(q1, .inr (6, [.ref r2])), (r2, .inl (cI, 1024, .inl (fun _ => 0)))], [(q3, .inr (6, [.ref r4])), (r4, .inl (cI, 1024, .inl (fun _ => 0)))], [(q5, .inr (6, [.null]))]] : List va_W))) (flat_snoc _ _) ?_
  refine J_dupr (pc := 36) C dX1_init_36 ?_
  refine J_sipush (v := (1024 : Int32)) (pc := 37) C dX1_init_37 (by decide) ?_
  refine J_ciF (pc := 40) (As := [.int (1024 : Int32)]) (st := [.ref q5, .ref x]) C dX1_init_40 ml_RX1_11 mi_yX6_init (I_Row l D cI cB cL cO pf q5 (1024 : Int32) 1024 (by decide) rfl (Nat.le_of_ble_eq_true rfl)) (List.flatten [[(x, .inr (1, [.ref q1, .ref q3, .null, .null, .int 0]))], [(q1, .inr (6, [.ref r2])), (r2, .inl (cI, 1024, .inl (fun _ => 0)))], [(q3, .inr (6, [.ref r4])), (r4, .inl (cI, 1024, .inl (fun _ => 0)))]]) (seg_split (segs := [[(x, .inr (1, [.ref q1, .ref q3, .null, .null, .int 0]))], [(q1, .inr (6, [.ref r2])), (r2, .inl (cI, 1024, .inl (fun _ => 0)))], [(q3, .inr (6, [.ref r4])), (r4, .inl (cI, 1024, .inl (fun _ => 0)))], [(q5, .inr (6, [.null]))]]) (Wc := [[(q5, .inr (6, [.null]))]]) (Wr := [[(x, .inr (1, [.ref q1, .ref q3, .null, .null, .int 0]))], [(q1, .inr (6, [.ref r2])), (r2, .inl (cI, 1024, .inl (fun _ => 0)))], [(q3, .inr (6, [.ref r4])), (r4, .inl (cI, 1024, .inl (fun _ => 0)))]]) [3] [0, 1, 2] rfl rfl 4 rfl (by decide +kernel)) rfl ⟨(Nat.le_of_ble_eq_true rfl), (Nat.le_of_ble_eq_true rfl)⟩ ⟨(Nat.le_of_ble_eq_true rfl), (Nat.le_of_ble_eq_true rfl)⟩ (Nat.le_of_ble_eq_true rfl) ?_
  rintro v w1 ⟨rfl, r6, rfl⟩
  refine J_perm (seg_split (segs := [[(x, .inr (1, [.ref q1, .ref q3, .null, .null, .int 0]))], [(q1, .inr (6, [.ref r2])), (r2, .inl (cI, 1024, .inl (fun _ => 0)))], [(q3, .inr (6, [.ref r4])), (r4, .inl (cI, 1024, .inl (fun _ => 0)))], [(q5, .inr (6, [.ref r6])), (r6, .inl (cI, 1024, .inl (fun _ => 0)))]]) (Wc := [[(q5, .inr (6, [.ref r6])), (r6, .inl (cI, 1024, .inl (fun _ => 0)))]]) (Wr := [[(x, .inr (1, [.ref q1, .ref q3, .null, .null, .int 0]))], [(q1, .inr (6, [.ref r2])), (r2, .inl (cI, 1024, .inl (fun _ => 0)))], [(q3, .inr (6, [.ref r4])), (r4, .inl (cI, 1024, .inl (fun _ => 0)))]]) [3] [0, 1, 2] rfl rfl 4 rfl (by decide +kernel)).symm ?_
  refine J_putF (tt := .object "PointsLedger$Row") (pc := 43) C dX1_init_43 jf_X1 0 (rfl : (List.flatten ([[(x, .inr (1, [.ref q1, .ref q3, .null, .null, .int 0]))], [(q1, .inr (6, [.ref r2])), (r2, .inl (cI, 1024, .inl (fun _ => 0)))], [(q3, .inr (6, [.ref r4])), (r4, .inl (cI, 1024, .inl (fun _ => 0)))], [(q5, .inr (6, [.ref r6])), (r6, .inl (cI, 1024, .inl (fun _ => 0)))]] : List va_W))[0]? = some (x, .inr (1, [.ref q1, .ref q3, .null, .null, .int 0]))) rfl 2 (by decide) rfl fl_RX1_23 rfl hnm rfl (by decide +kernel) rfl rfl (Nat.le_of_ble_eq_true rfl) ?_
  refine J_ws (ws2 := (List.flatten ([[(x, .inr (1, [.ref q1, .ref q3, .ref q5, .null, .int 0]))], [(q1, .inr (6, [.ref r2])), (r2, .inl (cI, 1024, .inl (fun _ => 0)))], [(q3, .inr (6, [.ref r4])), (r4, .inl (cI, 1024, .inl (fun _ => 0)))], [(q5, .inr (6, [.ref r6])), (r6, .inl (cI, 1024, .inl (fun _ => 0)))]] : List va_W))) rfl ?_
  refine J_aload_n (pc := 46) C dX1_init_46 0 rfl ?_
  refine J_new (ci := 6) (fs := [.null]) (pc := 47) C dX1_init_47 jf_X6 clk_RX1_9 ins_RX6 ini_RX6 rfl (df_X6) ⟨(Nat.le_of_ble_eq_true rfl), (Nat.le_of_ble_eq_true rfl)⟩ (fun q7 => ?_)
  refine J_ws (ws2 := (List.flatten ([[(x, .inr (1, [.ref q1, .ref q3, .ref q5, .null, .int 0]))], [(q1, .inr (6, [.ref r2])), (r2, .inl (cI, 1024, .inl (fun _ => 0)))], [(q3, .inr (6, [.ref r4])), (r4, .inl (cI, 1024, .inl (fun _ => 0)))], [(q5, .inr (6, [.ref r6])), (r6, .inl (cI, 1024, .inl (fun _ => 0)))], [(q7, .inr (6, [.null]))]] : List va_W))) (flat_snoc _ _) ?_
  refine J_dupr (pc := 50) C dX1_init_50 ?_
  refine J_sipush (v := (1024 : Int32)) (pc := 51) C dX1_init_51 (by decide) ?_
  refine J_ciF (pc := 54) (As := [.int (1024 : Int32)]) (st := [.ref q7, .ref x]) C dX1_init_54 ml_RX1_11 mi_yX6_init (I_Row l D cI cB cL cO pf q7 (1024 : Int32) 1024 (by decide) rfl (Nat.le_of_ble_eq_true rfl)) (List.flatten [[(x, .inr (1, [.ref q1, .ref q3, .ref q5, .null, .int 0]))], [(q1, .inr (6, [.ref r2])), (r2, .inl (cI, 1024, .inl (fun _ => 0)))], [(q3, .inr (6, [.ref r4])), (r4, .inl (cI, 1024, .inl (fun _ => 0)))], [(q5, .inr (6, [.ref r6])), (r6, .inl (cI, 1024, .inl (fun _ => 0)))]]) (seg_split (segs := [[(x, .inr (1, [.ref q1, .ref q3, .ref q5, .null, .int 0]))], [(q1, .inr (6, [.ref r2])), (r2, .inl (cI, 1024, .inl (fun _ => 0)))], [(q3, .inr (6, [.ref r4])), (r4, .inl (cI, 1024, .inl (fun _ => 0)))], [(q5, .inr (6, [.ref r6])), (r6, .inl (cI, 1024, .inl (fun _ => 0)))], [(q7, .inr (6, [.null]))]]) (Wc := [[(q7, .inr (6, [.null]))]]) (Wr := [[(x, .inr (1, [.ref q1, .ref q3, .ref q5, .null, .int 0]))], [(q1, .inr (6, [.ref r2])), (r2, .inl (cI, 1024, .inl (fun _ => 0)))], [(q3, .inr (6, [.ref r4])), (r4, .inl (cI, 1024, .inl (fun _ => 0)))], [(q5, .inr (6, [.ref r6])), (r6, .inl (cI, 1024, .inl (fun _ => 0)))]]) [4] [0, 1, 2, 3] rfl rfl 5 rfl (by decide +kernel)) rfl ⟨(Nat.le_of_ble_eq_true rfl), (Nat.le_of_ble_eq_true rfl)⟩ ⟨(Nat.le_of_ble_eq_true rfl), (Nat.le_of_ble_eq_true rfl)⟩ (Nat.le_of_ble_eq_true rfl) ?_
  rintro v w1 ⟨rfl, r8, rfl⟩
  refine J_perm (seg_split (segs := [[(x, .inr (1, [.ref q1, .ref q3, .ref q5, .null, .int 0]))], [(q1, .inr (6, [.ref r2])), (r2, .inl (cI, 1024, .inl (fun _ => 0)))], [(q3, .inr (6, [.ref r4])), (r4, .inl (cI, 1024, .inl (fun _ => 0)))], [(q5, .inr (6, [.ref r6])), (r6, .inl (cI, 1024, .inl (fun _ => 0)))], [(q7, .inr (6, [.ref r8])), (r8, .inl (cI, 1024, .inl (fun _ => 0)))]]) (Wc := [[(q7, .inr (6, [.ref r8])), (r8, .inl (cI, 1024, .inl (fun _ => 0)))]]) (Wr := [[(x, .inr (1, [.ref q1, .ref q3, .ref q5, .null, .int 0]))], [(q1, .inr (6, [.ref r2])), (r2, .inl (cI, 1024, .inl (fun _ => 0)))], [(q3, .inr (6, [.ref r4])), (r4, .inl (cI, 1024, .inl (fun _ => 0)))], [(q5, .inr (6, [.ref r6])), (r6, .inl (cI, 1024, .inl (fun _ => 0)))]]) [4] [0, 1, 2, 3] rfl rfl 5 rfl (by decide +kernel)).symm ?_
  refine J_putF (tt := .object "PointsLedger$Row") (pc := 57) C dX1_init_57 jf_X1 0 (rfl : (List.flatten ([[(x, .inr (1, [.ref q1, .ref q3, .ref q5, .null, .int 0]))], [(q1, .inr (6, [.ref r2])), (r2, .inl (cI, 1024, .inl (fun _ => 0)))], [(q3, .inr (6, [.ref r4])), (r4, .inl (cI, 1024, .inl (fun _ => 0)))], [(q5, .inr (6, [.ref r6])), (r6, .inl (cI, 1024, .inl (fun _ => 0)))], [(q7, .inr (6, [.ref r8])), (r8, .inl (cI, 1024, .inl (fun _ => 0)))]] : List va_W))[0]? = some (x, .inr (1, [.ref q1, .ref q3, .ref q5, .null, .int 0]))) rfl 3 (by decide) rfl fl_RX1_26 rfl hnm rfl (by decide +kernel) rfl rfl (Nat.le_of_ble_eq_true rfl) ?_
  refine J_ws (ws2 := (List.flatten ([[(x, .inr (1, [.ref q1, .ref q3, .ref q5, .ref q7, .int 0]))], [(q1, .inr (6, [.ref r2])), (r2, .inl (cI, 1024, .inl (fun _ => 0)))], [(q3, .inr (6, [.ref r4])), (r4, .inl (cI, 1024, .inl (fun _ => 0)))], [(q5, .inr (6, [.ref r6])), (r6, .inl (cI, 1024, .inl (fun _ => 0)))], [(q7, .inr (6, [.ref r8])), (r8, .inl (cI, 1024, .inl (fun _ => 0)))]] : List va_W))) rfl ?_
  refine J_aload_n (pc := 60) C dX1_init_60 0 rfl ?_
  refine J_iconst (v := (0 : Int32)) (pc := 61) C dX1_init_61 (by decide) ?_
  refine J_put (tt := .int) (pc := 62) C dX1_init_62 jf_X1 0 (rfl : (List.flatten ([[(x, .inr (1, [.ref q1, .ref q3, .ref q5, .ref q7, .int 0]))], [(q1, .inr (6, [.ref r2])), (r2, .inl (cI, 1024, .inl (fun _ => 0)))], [(q3, .inr (6, [.ref r4])), (r4, .inl (cI, 1024, .inl (fun _ => 0)))], [(q5, .inr (6, [.ref r6])), (r6, .inl (cI, 1024, .inl (fun _ => 0)))], [(q7, .inr (6, [.ref r8])), (r8, .inl (cI, 1024, .inl (fun _ => 0)))]] : List va_W))[0]? = some (x, .inr (1, [.ref q1, .ref q3, .ref q5, .ref q7, .int 0]))) rfl 4 (by decide) rfl fl_RX1_29 rfl (by decide +kernel) rfl rfl (Nat.le_of_ble_eq_true rfl) ?_
  refine J_ws (ws2 := (List.flatten ([[(x, .inr (1, [.ref q1, .ref q3, .ref q5, .ref q7, .int (0 : Int32)]))], [(q1, .inr (6, [.ref r2])), (r2, .inl (cI, 1024, .inl (fun _ => 0)))], [(q3, .inr (6, [.ref r4])), (r4, .inl (cI, 1024, .inl (fun _ => 0)))], [(q5, .inr (6, [.ref r6])), (r6, .inl (cI, 1024, .inl (fun _ => 0)))], [(q7, .inr (6, [.ref r8])), (r8, .inl (cI, 1024, .inl (fun _ => 0)))]] : List va_W))) rfl ?_
  refine J_widen (k2 := 8) (n2 := 4100) (Nat.le_of_ble_eq_true rfl) (Nat.le_of_ble_eq_true rfl) ?_
  exact J_vret (pc := 65) C dX1_init_65 hr ⟨rfl, q1, r2, q3, r4, q5, r6, q7, r8, rfl⟩
theorem dX4_init_0 : decode cX4_init 0 = .ok (.aload_n 0, 1) := by decide +kernel
theorem dX4_init_1 : decode cX4_init 1 = .ok (.invokespecial 3, 3) := by decide +kernel
theorem dX4_init_4 : decode cX4_init 4 = .ok (.aload_n 0, 1) := by decide +kernel
theorem dX4_init_5 : decode cX4_init 5 = .ok (.new 9, 3) := by decide +kernel
theorem dX4_init_8 : decode cX4_init 8 = .ok (.dup, 1) := by decide +kernel
theorem dX4_init_9 : decode cX4_init 9 = .ok (.bipush 120, 2) := by decide +kernel
theorem dX4_init_11 : decode cX4_init 11 = .ok (.invokespecial 11, 3) := by decide +kernel
theorem dX4_init_14 : decode cX4_init 14 = .ok (.putfield 14, 3) := by decide +kernel
theorem dX4_init_17 : decode cX4_init 17 = .ok (.aload_n 0, 1) := by decide +kernel
theorem dX4_init_18 : decode cX4_init 18 = .ok (.iconst 0, 1) := by decide +kernel
theorem dX4_init_19 : decode cX4_init 19 = .ok (.putfield 20, 3) := by decide +kernel
theorem dX4_init_22 : decode cX4_init 22 = .ok (.aload_n 0, 1) := by decide +kernel
theorem dX4_init_23 : decode cX4_init 23 = .ok (.iconst 0, 1) := by decide +kernel
theorem dX4_init_24 : decode cX4_init 24 = .ok (.putfield 24, 3) := by decide +kernel
theorem dX4_init_27 : decode cX4_init 27 = .ok (.return_, 1) := by decide +kernel
set_option maxHeartbeats 4000000 in
set_option maxRecDepth 100000 in
theorem I_LogBook (l : Launch) (D : va_G) (cI cB cL cO : ClassId) (pf : Nat → Nat) (x : Nat) : Ct l D [(cI, .int), (cB, .byte), (cL, .byte), (cO, .object RX0)] pf yX4_init cX4_init 1 none { frames := 2, cells := 2, slots := 121, locals := 41 } [.ref x] (List.flatten [[(x, .inr (4, [.null, .int 0, .int 0]))]]) (fun v w => v = none ∧ ∃ q1 r2, w = List.flatten [[(x, .inr (4, [.ref q1, .int (0 : Int32), .int (0 : Int32)])), (q1, .inr (6, [.ref r2])), (r2, .inl (cI, 120, .inl (fun _ => 0)))]]) := by
  refine Ct_of (own := RX4) (lv0 := [(0, .ref x)]) (by decide) rfl rfl (Nat.le_of_ble_eq_true rfl) ?_
  intro p e s m args below meth c C hr hnm
  refine J_aload_n (pc := 0) C dX4_init_0 0 rfl ?_
  refine J_objInit (pc := 1) C dX4_init_1 ml_RX4_3 ⟨(Nat.le_of_ble_eq_true rfl), (Nat.le_of_ble_eq_true rfl)⟩ (Nat.le_of_ble_eq_true rfl) ?_
  refine J_aload_n (pc := 4) C dX4_init_4 0 rfl ?_
  refine J_new (ci := 6) (fs := [.null]) (pc := 5) C dX4_init_5 jf_X6 clk_RX4_9 ins_RX6 ini_RX6 rfl (df_X6) ⟨(Nat.le_of_ble_eq_true rfl), (Nat.le_of_ble_eq_true rfl)⟩ (fun q1 => ?_)
  refine J_ws (ws2 := (List.flatten ([[(x, .inr (4, [.null, .int 0, .int 0]))], [(q1, .inr (6, [.null]))]] : List va_W))) (flat_snoc _ _) ?_
  refine J_dupr (pc := 8) C dX4_init_8 ?_
  refine J_bipush (v := (120 : Int32)) (pc := 9) C dX4_init_9 (by decide) ?_
  refine J_ciF (pc := 11) (As := [.int (120 : Int32)]) (st := [.ref q1, .ref x]) C dX4_init_11 ml_RX4_11 mi_yX6_init (I_Row l D cI cB cL cO pf q1 (120 : Int32) 120 (by decide) rfl (Nat.le_of_ble_eq_true rfl)) (List.flatten [[(x, .inr (4, [.null, .int 0, .int 0]))]]) (seg_split (segs := [[(x, .inr (4, [.null, .int 0, .int 0]))], [(q1, .inr (6, [.null]))]]) (Wc := [[(q1, .inr (6, [.null]))]]) (Wr := [[(x, .inr (4, [.null, .int 0, .int 0]))]]) [1] [0] rfl rfl 2 rfl (by decide +kernel)) rfl ⟨(Nat.le_of_ble_eq_true rfl), (Nat.le_of_ble_eq_true rfl)⟩ ⟨(Nat.le_of_ble_eq_true rfl), (Nat.le_of_ble_eq_true rfl)⟩ (Nat.le_of_ble_eq_true rfl) ?_
  rintro v w1 ⟨rfl, r2, rfl⟩
  refine J_perm (seg_split (segs := [[(x, .inr (4, [.null, .int 0, .int 0]))], [(q1, .inr (6, [.ref r2])), (r2, .inl (cI, 120, .inl (fun _ => 0)))]]) (Wc := [[(q1, .inr (6, [.ref r2])), (r2, .inl (cI, 120, .inl (fun _ => 0)))]]) (Wr := [[(x, .inr (4, [.null, .int 0, .int 0]))]]) [1] [0] rfl rfl 2 rfl (by decide +kernel)).symm ?_
  refine J_putF (tt := .object "PointsLedger$Row") (pc := 14) C dX4_init_14 jf_X4 0 (rfl : (List.flatten ([[(x, .inr (4, [.null, .int 0, .int 0]))], [(q1, .inr (6, [.ref r2])), (r2, .inl (cI, 120, .inl (fun _ => 0)))]] : List va_W))[0]? = some (x, .inr (4, [.null, .int 0, .int 0]))) rfl 0 (by decide) rfl fl_RX4_14 rfl hnm rfl (by decide +kernel) rfl rfl (Nat.le_of_ble_eq_true rfl) ?_
  refine J_ws (ws2 := (List.flatten ([[(x, .inr (4, [.ref q1, .int 0, .int 0]))], [(q1, .inr (6, [.ref r2])), (r2, .inl (cI, 120, .inl (fun _ => 0)))]] : List va_W))) rfl ?_
  refine J_aload_n (pc := 17) C dX4_init_17 0 rfl ?_
  refine J_iconst (v := (0 : Int32)) (pc := 18) C dX4_init_18 (by decide) ?_
  refine J_put (tt := .int) (pc := 19) C dX4_init_19 jf_X4 0 (rfl : (List.flatten ([[(x, .inr (4, [.ref q1, .int 0, .int 0]))], [(q1, .inr (6, [.ref r2])), (r2, .inl (cI, 120, .inl (fun _ => 0)))]] : List va_W))[0]? = some (x, .inr (4, [.ref q1, .int 0, .int 0]))) rfl 1 (by decide) rfl fl_RX4_20 rfl (by decide +kernel) rfl rfl (Nat.le_of_ble_eq_true rfl) ?_
  refine J_ws (ws2 := (List.flatten ([[(x, .inr (4, [.ref q1, .int (0 : Int32), .int 0]))], [(q1, .inr (6, [.ref r2])), (r2, .inl (cI, 120, .inl (fun _ => 0)))]] : List va_W))) rfl ?_
  refine J_aload_n (pc := 22) C dX4_init_22 0 rfl ?_
  refine J_iconst (v := (0 : Int32)) (pc := 23) C dX4_init_23 (by decide) ?_
  refine J_put (tt := .int) (pc := 24) C dX4_init_24 jf_X4 0 (rfl : (List.flatten ([[(x, .inr (4, [.ref q1, .int (0 : Int32), .int 0]))], [(q1, .inr (6, [.ref r2])), (r2, .inl (cI, 120, .inl (fun _ => 0)))]] : List va_W))[0]? = some (x, .inr (4, [.ref q1, .int (0 : Int32), .int 0]))) rfl 2 (by decide) rfl fl_RX4_24 rfl (by decide +kernel) rfl rfl (Nat.le_of_ble_eq_true rfl) ?_
  refine J_ws (ws2 := (List.flatten ([[(x, .inr (4, [.ref q1, .int (0 : Int32), .int (0 : Int32)]))], [(q1, .inr (6, [.ref r2])), (r2, .inl (cI, 120, .inl (fun _ => 0)))]] : List va_W))) rfl ?_
  refine J_widen (k2 := 2) (n2 := 121) (Nat.le_of_ble_eq_true rfl) (Nat.le_of_ble_eq_true rfl) ?_
  exact J_vret (pc := 27) C dX4_init_27 hr ⟨rfl, q1, r2, rfl⟩
theorem dX5_init_0 : decode cX5_init 0 = .ok (.aload_n 0, 1) := by decide +kernel
theorem dX5_init_1 : decode cX5_init 1 = .ok (.invokespecial 3, 3) := by decide +kernel
theorem dX5_init_4 : decode cX5_init 4 = .ok (.aload_n 0, 1) := by decide +kernel
theorem dX5_init_5 : decode cX5_init 5 = .ok (.new 9, 3) := by decide +kernel
theorem dX5_init_8 : decode cX5_init 8 = .ok (.dup, 1) := by decide +kernel
theorem dX5_init_9 : decode cX5_init 9 = .ok (.sipush 3584, 3) := by decide +kernel
theorem dX5_init_12 : decode cX5_init 12 = .ok (.invokespecial 11, 3) := by decide +kernel
theorem dX5_init_15 : decode cX5_init 15 = .ok (.putfield 14, 3) := by decide +kernel
theorem dX5_init_18 : decode cX5_init 18 = .ok (.aload_n 0, 1) := by decide +kernel
theorem dX5_init_19 : decode cX5_init 19 = .ok (.iconst 0, 1) := by decide +kernel
theorem dX5_init_20 : decode cX5_init 20 = .ok (.putfield 20, 3) := by decide +kernel
theorem dX5_init_23 : decode cX5_init 23 = .ok (.return_, 1) := by decide +kernel
set_option maxHeartbeats 4000000 in
set_option maxRecDepth 100000 in
theorem I_Purchases (l : Launch) (D : va_G) (cI cB cL cO : ClassId) (pf : Nat → Nat) (x : Nat) : Ct l D [(cI, .int), (cB, .byte), (cL, .byte), (cO, .object RX0)] pf yX5_init cX5_init 1 none { frames := 2, cells := 2, slots := 3585, locals := 41 } [.ref x] (List.flatten [[(x, .inr (5, [.null, .int 0]))]]) (fun v w => v = none ∧ ∃ q1 r2, w = List.flatten [[(x, .inr (5, [.ref q1, .int (0 : Int32)])), (q1, .inr (6, [.ref r2])), (r2, .inl (cI, 3584, .inl (fun _ => 0)))]]) := by
  refine Ct_of (own := RX5) (lv0 := [(0, .ref x)]) (by decide) rfl rfl (Nat.le_of_ble_eq_true rfl) ?_
  intro p e s m args below meth c C hr hnm
  refine J_aload_n (pc := 0) C dX5_init_0 0 rfl ?_
  refine J_objInit (pc := 1) C dX5_init_1 ml_RX5_3 ⟨(Nat.le_of_ble_eq_true rfl), (Nat.le_of_ble_eq_true rfl)⟩ (Nat.le_of_ble_eq_true rfl) ?_
  refine J_aload_n (pc := 4) C dX5_init_4 0 rfl ?_
  refine J_new (ci := 6) (fs := [.null]) (pc := 5) C dX5_init_5 jf_X6 clk_RX5_9 ins_RX6 ini_RX6 rfl (df_X6) ⟨(Nat.le_of_ble_eq_true rfl), (Nat.le_of_ble_eq_true rfl)⟩ (fun q1 => ?_)
  refine J_ws (ws2 := (List.flatten ([[(x, .inr (5, [.null, .int 0]))], [(q1, .inr (6, [.null]))]] : List va_W))) (flat_snoc _ _) ?_
  refine J_dupr (pc := 8) C dX5_init_8 ?_
  refine J_sipush (v := (3584 : Int32)) (pc := 9) C dX5_init_9 (by decide) ?_
  refine J_ciF (pc := 12) (As := [.int (3584 : Int32)]) (st := [.ref q1, .ref x]) C dX5_init_12 ml_RX5_11 mi_yX6_init (I_Row l D cI cB cL cO pf q1 (3584 : Int32) 3584 (by decide) rfl (Nat.le_of_ble_eq_true rfl)) (List.flatten [[(x, .inr (5, [.null, .int 0]))]]) (seg_split (segs := [[(x, .inr (5, [.null, .int 0]))], [(q1, .inr (6, [.null]))]]) (Wc := [[(q1, .inr (6, [.null]))]]) (Wr := [[(x, .inr (5, [.null, .int 0]))]]) [1] [0] rfl rfl 2 rfl (by decide +kernel)) rfl ⟨(Nat.le_of_ble_eq_true rfl), (Nat.le_of_ble_eq_true rfl)⟩ ⟨(Nat.le_of_ble_eq_true rfl), (Nat.le_of_ble_eq_true rfl)⟩ (Nat.le_of_ble_eq_true rfl) ?_
  rintro v w1 ⟨rfl, r2, rfl⟩
  refine J_perm (seg_split (segs := [[(x, .inr (5, [.null, .int 0]))], [(q1, .inr (6, [.ref r2])), (r2, .inl (cI, 3584, .inl (fun _ => 0)))]]) (Wc := [[(q1, .inr (6, [.ref r2])), (r2, .inl (cI, 3584, .inl (fun _ => 0)))]]) (Wr := [[(x, .inr (5, [.null, .int 0]))]]) [1] [0] rfl rfl 2 rfl (by decide +kernel)).symm ?_
  refine J_putF (tt := .object "PointsLedger$Row") (pc := 15) C dX5_init_15 jf_X5 0 (rfl : (List.flatten ([[(x, .inr (5, [.null, .int 0]))], [(q1, .inr (6, [.ref r2])), (r2, .inl (cI, 3584, .inl (fun _ => 0)))]] : List va_W))[0]? = some (x, .inr (5, [.null, .int 0]))) rfl 0 (by decide) rfl fl_RX5_14 rfl hnm rfl (by decide +kernel) rfl rfl (Nat.le_of_ble_eq_true rfl) ?_
  refine J_ws (ws2 := (List.flatten ([[(x, .inr (5, [.ref q1, .int 0]))], [(q1, .inr (6, [.ref r2])), (r2, .inl (cI, 3584, .inl (fun _ => 0)))]] : List va_W))) rfl ?_
  refine J_aload_n (pc := 18) C dX5_init_18 0 rfl ?_
  refine J_iconst (v := (0 : Int32)) (pc := 19) C dX5_init_19 (by decide) ?_
  refine J_put (tt := .int) (pc := 20) C dX5_init_20 jf_X5 0 (rfl : (List.flatten ([[(x, .inr (5, [.ref q1, .int 0]))], [(q1, .inr (6, [.ref r2])), (r2, .inl (cI, 3584, .inl (fun _ => 0)))]] : List va_W))[0]? = some (x, .inr (5, [.ref q1, .int 0]))) rfl 1 (by decide) rfl fl_RX5_20 rfl (by decide +kernel) rfl rfl (Nat.le_of_ble_eq_true rfl) ?_
  refine J_ws (ws2 := (List.flatten ([[(x, .inr (5, [.ref q1, .int (0 : Int32)]))], [(q1, .inr (6, [.ref r2])), (r2, .inl (cI, 3584, .inl (fun _ => 0)))]] : List va_W))) rfl ?_
  refine J_widen (k2 := 2) (n2 := 3585) (Nat.le_of_ble_eq_true rfl) (Nat.le_of_ble_eq_true rfl) ?_
  exact J_vret (pc := 23) C dX5_init_23 hr ⟨rfl, q1, r2, rfl⟩
theorem dX9_init_0 : decode cX9_init 0 = .ok (.aload_n 0, 1) := by decide +kernel
theorem dX9_init_1 : decode cX9_init 1 = .ok (.invokespecial 3, 3) := by decide +kernel
theorem dX9_init_4 : decode cX9_init 4 = .ok (.return_, 1) := by decide +kernel
set_option maxHeartbeats 4000000 in
set_option maxRecDepth 100000 in
theorem I_Standing (l : Launch) (D : va_G) (cI cB cL cO : ClassId) (pf : Nat → Nat) (x : Nat) : Ct l D [(cI, .int), (cB, .byte), (cL, .byte), (cO, .object RX0)] pf yX9_init cX9_init 1 none { frames := 1, cells := 0, slots := 0, locals := 20 } [.ref x] (List.flatten [[(x, .inr (9, [.int 0, .int 0]))]]) (fun v w => v = none ∧ w = List.flatten [[(x, .inr (9, [.int 0, .int 0]))]]) := by
  refine Ct_of (own := RX9) (lv0 := [(0, .ref x)]) (by decide) rfl rfl (Nat.le_of_ble_eq_true rfl) ?_
  intro p e s m args below meth c C hr hnm
  refine J_aload_n (pc := 0) C dX9_init_0 0 rfl ?_
  refine J_objInit (pc := 1) C dX9_init_1 ml_RX9_3 ⟨(Nat.le_of_ble_eq_true rfl), (Nat.le_of_ble_eq_true rfl)⟩ (Nat.le_of_ble_eq_true rfl) ?_
  refine J_widen (k2 := 0) (n2 := 0) (Nat.le_of_ble_eq_true rfl) (Nat.le_of_ble_eq_true rfl) ?_
  exact J_vret (pc := 4) C dX9_init_4 hr ⟨rfl, rfl⟩
theorem dX3_init_0 : decode cX3_init 0 = .ok (.aload_n 0, 1) := by decide +kernel
theorem dX3_init_1 : decode cX3_init 1 = .ok (.invokespecial 3, 3) := by decide +kernel
theorem dX3_init_4 : decode cX3_init 4 = .ok (.aload_n 0, 1) := by decide +kernel
theorem dX3_init_5 : decode cX3_init 5 = .ok (.sipush 600, 3) := by decide +kernel
theorem dX3_init_8 : decode cX3_init 8 = .ok (.newarray .int, 2) := by decide +kernel
theorem dX3_init_10 : decode cX3_init 10 = .ok (.putfield 9, 3) := by decide +kernel
theorem dX3_init_13 : decode cX3_init 13 = .ok (.aload_n 0, 1) := by decide +kernel
theorem dX3_init_14 : decode cX3_init 14 = .ok (.iconst 0, 1) := by decide +kernel
theorem dX3_init_15 : decode cX3_init 15 = .ok (.putfield 15, 3) := by decide +kernel
theorem dX3_init_18 : decode cX3_init 18 = .ok (.return_, 1) := by decide +kernel
set_option maxHeartbeats 4000000 in
set_option maxRecDepth 100000 in
theorem I_InputBuffer (l : Launch) (D : va_G) (cI cB cL cO : ClassId) (pf : Nat → Nat) (x : Nat) : Ct l D [(cI, .int), (cB, .byte), (cL, .byte), (cO, .object RX0)] pf yX3_init cX3_init 1 none { frames := 1, cells := 1, slots := 600, locals := 20 } [.ref x] (List.flatten [[(x, .inr (3, [.null, .int 0]))]]) (fun v w => v = none ∧ ∃ r1, w = List.flatten [[(x, .inr (3, [.ref r1, .int (0 : Int32)])), (r1, .inl (cI, 600, .inl (fun _ => 0)))]]) := by
  refine Ct_of (own := RX3) (lv0 := [(0, .ref x)]) (by decide) rfl rfl (Nat.le_of_ble_eq_true rfl) ?_
  intro p e s m args below meth c C hr hnm
  refine J_aload_n (pc := 0) C dX3_init_0 0 rfl ?_
  refine J_objInit (pc := 1) C dX3_init_1 ml_RX3_3 ⟨(Nat.le_of_ble_eq_true rfl), (Nat.le_of_ble_eq_true rfl)⟩ (Nat.le_of_ble_eq_true rfl) ?_
  refine J_aload_n (pc := 4) C dX3_init_4 0 rfl ?_
  refine J_sipush (v := (600 : Int32)) (pc := 5) C dX3_init_5 (by decide) ?_
  refine J_newa (atype := .int) (a0 := (600, .inl (fun _ => 0))) (N := 600) (pc := 8) C dX3_init_8 w_arI rfl 0 rfl (by intro C h; cases h) (fun _ => rfl) (by decide) rfl (Nat.le_of_ble_eq_true rfl) ⟨(Nat.le_of_ble_eq_true rfl), (Nat.le_of_ble_eq_true rfl)⟩ (fun r1 => ?_)
  refine J_ws (ws2 := (List.flatten ([[(x, .inr (3, [.null, .int 0]))], [(r1, .inl (cI, 600, .inl (fun _ => 0)))]] : List va_W))) (flat_snoc _ _) ?_
  refine J_putF (tt := .array .int) (pc := 10) C dX3_init_10 jf_X3 0 (rfl : (List.flatten ([[(x, .inr (3, [.null, .int 0]))], [(r1, .inl (cI, 600, .inl (fun _ => 0)))]] : List va_W))[0]? = some (x, .inr (3, [.null, .int 0]))) rfl 0 (by decide) rfl fl_RX3_9 rfl hnm rfl (by decide +kernel) rfl rfl (Nat.le_of_ble_eq_true rfl) ?_
  refine J_ws (ws2 := (List.flatten ([[(x, .inr (3, [.ref r1, .int 0]))], [(r1, .inl (cI, 600, .inl (fun _ => 0)))]] : List va_W))) rfl ?_
  refine J_aload_n (pc := 13) C dX3_init_13 0 rfl ?_
  refine J_iconst (v := (0 : Int32)) (pc := 14) C dX3_init_14 (by decide) ?_
  refine J_put (tt := .int) (pc := 15) C dX3_init_15 jf_X3 0 (rfl : (List.flatten ([[(x, .inr (3, [.ref r1, .int 0]))], [(r1, .inl (cI, 600, .inl (fun _ => 0)))]] : List va_W))[0]? = some (x, .inr (3, [.ref r1, .int 0]))) rfl 1 (by decide) rfl fl_RX3_15 rfl (by decide +kernel) rfl rfl (Nat.le_of_ble_eq_true rfl) ?_
  refine J_ws (ws2 := (List.flatten ([[(x, .inr (3, [.ref r1, .int (0 : Int32)]))], [(r1, .inl (cI, 600, .inl (fun _ => 0)))]] : List va_W))) rfl ?_
  refine J_widen (k2 := 1) (n2 := 600) (Nat.le_of_ble_eq_true rfl) (Nat.le_of_ble_eq_true rfl) ?_
  exact J_vret (pc := 18) C dX3_init_18 hr ⟨rfl, r1, rfl⟩
