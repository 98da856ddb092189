/-! printed by a program of ours out of the bytecode: decode rows, functions, walks -/
-- PointsLedger$Cohorts.clear()V
theorem dX1_clear_0 : decode cX1_clear 0 = .ok (.aload_n 0, 1) := by decide +kernel
theorem dX1_clear_1 : decode cX1_clear 1 = .ok (.iconst 0, 1) := by decide +kernel
theorem dX1_clear_2 : decode cX1_clear 2 = .ok (.putfield 29, 3) := by decide +kernel
theorem dX1_clear_5 : decode cX1_clear 5 = .ok (.return_, 1) := by decide +kernel
def f_X1_clear : Option (Int32) :=
  (some (0 : Int32))
set_option maxHeartbeats 4000000 in
set_option maxRecDepth 100000 in
theorem c_X1_clear (l : Launch) (D : va_G) (cI cB cL cO : ClassId) (pf : Nat → Nat) (N : Nat) (a_this a_this_lists a_this_days a_this_contributors a_this_points : Nat) (v_this_size : Int32) (o : Int32) (h : f_X1_clear = some o) : Ct l D [(cI, .int), (cB, .byte), (cL, .long), (cO, .object RX0)] pf yX1_clear cX1_clear 1 (none : Option FieldType) { frames := 0, cells := 0, slots := 0, locals := 0 } [.ref a_this] [(a_this, .inr (1, [.ref a_this_lists, .ref a_this_days, .ref a_this_contributors, .ref a_this_points, .int v_this_size]))] (is1 (none) [(a_this, .inr (1, [.ref a_this_lists, .ref a_this_days, .ref a_this_contributors, .ref a_this_points, .int o]))]) := by
  refine Ct_of (own := RX1) (lv0 := [(0, .ref a_this)]) (by decide) rfl rfl (Nat.le_of_ble_eq_true rfl) ?_
  intro p e s m args below meth c C hr hnm
  unfold f_X1_clear at h
  refine J_aload_n (pc := 0) C dX1_clear_0 0 rfl ?_
  refine J_iconst (v := (0 : Int32)) (pc := 1) C dX1_clear_1 (by decide) ?_
  refine J_put (tt := .int) (pc := 2) C dX1_clear_2 jf_X1 0 rfl rfl 4 (by decide) rfl fl_RX1_29 rfl (by decide +kernel) rfl rfl (Nat.le_of_ble_eq_true rfl) ?_
  refine J_ws (ws2 := [(a_this, .inr (1, [.ref a_this_lists, .ref a_this_days, .ref a_this_contributors, .ref a_this_points, .int (0 : Int32)]))]) rfl ?_
  cases h
  exact J_vret (pc := 5) C dX1_clear_5 hr ⟨rfl, rfl⟩
-- PointsLedger$LogBook.clear()V
theorem dX4_clear_0 : decode cX4_clear 0 = .ok (.aload_n 0, 1) := by decide +kernel
theorem dX4_clear_1 : decode cX4_clear 1 = .ok (.iconst 0, 1) := by decide +kernel
theorem dX4_clear_2 : decode cX4_clear 2 = .ok (.putfield 20, 3) := by decide +kernel
theorem dX4_clear_5 : decode cX4_clear 5 = .ok (.aload_n 0, 1) := by decide +kernel
theorem dX4_clear_6 : decode cX4_clear 6 = .ok (.iconst 0, 1) := by decide +kernel
theorem dX4_clear_7 : decode cX4_clear 7 = .ok (.putfield 24, 3) := by decide +kernel
theorem dX4_clear_10 : decode cX4_clear 10 = .ok (.return_, 1) := by decide +kernel
def f_X4_clear : Option (Int32 × Int32) :=
  (some ((0 : Int32), (0 : Int32)))
set_option maxHeartbeats 4000000 in
set_option maxRecDepth 100000 in
theorem c_X4_clear (l : Launch) (D : va_G) (cI cB cL cO : ClassId) (pf : Nat → Nat) (N : Nat) (a_this a_this_parts : Nat) (v_this_next : Int32) (v_this_size : Int32) (o : Int32 × Int32) (h : f_X4_clear = some o) : Ct l D [(cI, .int), (cB, .byte), (cL, .long), (cO, .object RX0)] pf yX4_clear cX4_clear 1 (none : Option FieldType) { frames := 0, cells := 0, slots := 0, locals := 0 } [.ref a_this] [(a_this, .inr (4, [.ref a_this_parts, .int v_this_next, .int v_this_size]))] (is1 (none) [(a_this, .inr (4, [.ref a_this_parts, .int o.1, .int o.2]))]) := by
  refine Ct_of (own := RX4) (lv0 := [(0, .ref a_this)]) (by decide) rfl rfl (Nat.le_of_ble_eq_true rfl) ?_
  intro p e s m args below meth c C hr hnm
  unfold f_X4_clear at h
  refine J_aload_n (pc := 0) C dX4_clear_0 0 rfl ?_
  refine J_iconst (v := (0 : Int32)) (pc := 1) C dX4_clear_1 (by decide) ?_
  refine J_put (tt := .int) (pc := 2) C dX4_clear_2 jf_X4 0 rfl rfl 1 (by decide) rfl fl_RX4_20 rfl (by decide +kernel) rfl rfl (Nat.le_of_ble_eq_true rfl) ?_
  refine J_ws (ws2 := [(a_this, .inr (4, [.ref a_this_parts, .int (0 : Int32), .int v_this_size]))]) rfl ?_
  refine J_aload_n (pc := 5) C dX4_clear_5 0 rfl ?_
  refine J_iconst (v := (0 : Int32)) (pc := 6) C dX4_clear_6 (by decide) ?_
  refine J_put (tt := .int) (pc := 7) C dX4_clear_7 jf_X4 0 rfl rfl 2 (by decide) rfl fl_RX4_24 rfl (by decide +kernel) rfl rfl (Nat.le_of_ble_eq_true rfl) ?_
  refine J_ws (ws2 := [(a_this, .inr (4, [.ref a_this_parts, .int (0 : Int32), .int (0 : Int32)]))]) rfl ?_
  cases h
  exact J_vret (pc := 10) C dX4_clear_10 hr ⟨rfl, rfl⟩
-- PointsLedger$Purchases.clear()V
theorem dX5_clear_0 : decode cX5_clear 0 = .ok (.aload_n 0, 1) := by decide +kernel
theorem dX5_clear_1 : decode cX5_clear 1 = .ok (.iconst 0, 1) := by decide +kernel
theorem dX5_clear_2 : decode cX5_clear 2 = .ok (.putfield 20, 3) := by decide +kernel
theorem dX5_clear_5 : decode cX5_clear 5 = .ok (.return_, 1) := by decide +kernel
def f_X5_clear : Option (Int32) :=
  (some (0 : Int32))
set_option maxHeartbeats 4000000 in
set_option maxRecDepth 100000 in
theorem c_X5_clear (l : Launch) (D : va_G) (cI cB cL cO : ClassId) (pf : Nat → Nat) (N : Nat) (a_this a_this_parts : Nat) (v_this_count : Int32) (o : Int32) (h : f_X5_clear = some o) : Ct l D [(cI, .int), (cB, .byte), (cL, .long), (cO, .object RX0)] pf yX5_clear cX5_clear 1 (none : Option FieldType) { frames := 0, cells := 0, slots := 0, locals := 0 } [.ref a_this] [(a_this, .inr (5, [.ref a_this_parts, .int v_this_count]))] (is1 (none) [(a_this, .inr (5, [.ref a_this_parts, .int o]))]) := by
  refine Ct_of (own := RX5) (lv0 := [(0, .ref a_this)]) (by decide) rfl rfl (Nat.le_of_ble_eq_true rfl) ?_
  intro p e s m args below meth c C hr hnm
  unfold f_X5_clear at h
  refine J_aload_n (pc := 0) C dX5_clear_0 0 rfl ?_
  refine J_iconst (v := (0 : Int32)) (pc := 1) C dX5_clear_1 (by decide) ?_
  refine J_put (tt := .int) (pc := 2) C dX5_clear_2 jf_X5 0 rfl rfl 1 (by decide) rfl fl_RX5_20 rfl (by decide +kernel) rfl rfl (Nat.le_of_ble_eq_true rfl) ?_
  refine J_ws (ws2 := [(a_this, .inr (5, [.ref a_this_parts, .int (0 : Int32)]))]) rfl ?_
  cases h
  exact J_vret (pc := 5) C dX5_clear_5 hr ⟨rfl, rfl⟩
-- PointsLedger$Row.fill(I)V
theorem dX6_fill_0 : decode cX6_fill 0 = .ok (.iconst 0, 1) := by decide +kernel
theorem dX6_fill_1 : decode cX6_fill 1 = .ok (.istore_n 2, 1) := by decide +kernel
theorem dX6_fill_2 : decode cX6_fill 2 = .ok (.iload_n 2, 1) := by decide +kernel
theorem dX6_fill_3 : decode cX6_fill 3 = .ok (.aload_n 0, 1) := by decide +kernel
theorem dX6_fill_4 : decode cX6_fill 4 = .ok (.getfield 7, 3) := by decide +kernel
theorem dX6_fill_7 : decode cX6_fill 7 = .ok (.arraylength, 1) := by decide +kernel
theorem dX6_fill_8 : decode cX6_fill 8 = .ok (.if_icmp .ge 16, 3) := by decide +kernel
theorem dX6_fill_11 : decode cX6_fill 11 = .ok (.aload_n 0, 1) := by decide +kernel
theorem dX6_fill_12 : decode cX6_fill 12 = .ok (.getfield 7, 3) := by decide +kernel
theorem dX6_fill_15 : decode cX6_fill 15 = .ok (.iload_n 2, 1) := by decide +kernel
theorem dX6_fill_16 : decode cX6_fill 16 = .ok (.iload_n 1, 1) := by decide +kernel
theorem dX6_fill_17 : decode cX6_fill 17 = .ok (.iastore, 1) := by decide +kernel
theorem dX6_fill_18 : decode cX6_fill 18 = .ok (.iinc 2 1, 3) := by decide +kernel
theorem dX6_fill_21 : decode cX6_fill 21 = .ok (.goto (-19), 3) := by decide +kernel
theorem dX6_fill_24 : decode cX6_fill 24 = .ok (.return_, 1) := by decide +kernel
def f_X6_fill_b2 (x1 : Int32) (n_this_cells : Nat) : Nat → (Int32) → (Nat → Int32) → Option ((Nat → Int32))
  | 0, _, _ => none
  | n + 1, x2, g_this_cells => (if (nI n_this_cells) ≤ x2 then (some g_this_cells) else (if x2 < 0 ∨ n_this_cells ≤ x2.toNatClampNeg then none else ((some (upd g_this_cells x2.toNatClampNeg x1)).bind fun h17 => ((some (x2 + (1 : Int32))).bind fun y18 => (f_X6_fill_b2 x1 n_this_cells n y18 h17)))))
def f_X6_fill (N : Nat) (x1 : Int32) (n_this_cells : Nat) (g_this_cells : Nat → Int32) : Option ((Nat → Int32)) :=
  (f_X6_fill_b2 x1 n_this_cells N (0 : Int32) g_this_cells)
set_option maxHeartbeats 4000000 in
set_option maxRecDepth 100000 in
theorem t_X6_fill_b2 {l : Launch} {D : va_G} {cI cB cL cO : ClassId} {pf : Nat → Nat} {p : Program} {e : Env} {s : State} {m : MethodId} {args : Array Value} {below : List Frame} {meth : Method} {c : Code} {W0 : va_W} {a_this a_this_cells : Nat}  {n_this_cells : Nat} {x1 : Int32} {o : (Nat → Int32)} (C : jC p s m args meth c cX6_fill 3 RX6 D [(cI, .int), (cB, .byte), (cL, .long), (cO, .object RX0)] pf (va_A W0 s.heap.size)) (hr : meth.sig.returnType = (none : Option FieldType)) : ∀ (n : Nat) (x2 : Int32) (g_this_cells : Nat → Int32), f_X6_fill_b2 x1 n_this_cells n x2 g_this_cells = some o → J p l e { frames := 0, cells := 0, slots := 0, locals := 0 } s m args below meth c 3 D (va_A W0 s.heap.size) (MQ below (jQ D [(cI, .int), (cB, .byte), (cL, .long), (cO, .object RX0)] W0 s.heap.size (is1 (none) [(a_this, .inr (6, [.ref a_this_cells])), (a_this_cells, .inl (cI, n_this_cells, .inl o))])) args s 0 0 (va_A W0 s.heap.size)) 0 0 2 [(0, .ref a_this), (1, .int x1), (2, .int x2)] [] [(a_this, .inr (6, [.ref a_this_cells])), (a_this_cells, .inl (cI, n_this_cells, .inl g_this_cells))] := by
  intro n
  induction n with
  | zero =>
    intro _ _ h
    rw [f_X6_fill_b2] at h
    cases h
  | succ n ih =>
    intro x2 g_this_cells h
    rw [f_X6_fill_b2] at h
    refine J_iload_n (pc := 2) C dX6_fill_2 2 rfl ?_
    refine J_aload_n (pc := 3) C dX6_fill_3 0 rfl ?_
    refine J_get (pc := 4) C dX6_fill_4 jf_X6 0 rfl rfl 0 (by decide) rfl fl_RX6_7 rfl ?_
    refine J_alen (pc := 7) C dX6_fill_7 1 0 rfl rfl ?_
    refine J_ic_ge (pc := 8) (tgt := 24) C dX6_fill_8 (by decide) h (fun h => ?_) (fun h => ?_)
    · cases h
      exact J_vret (pc := 24) C dX6_fill_24 hr ⟨rfl, rfl⟩
    · refine J_aload_n (pc := 11) C dX6_fill_11 0 rfl ?_
      refine J_get (pc := 12) C dX6_fill_12 jf_X6 0 rfl rfl 0 (by decide) rfl fl_RX6_7 rfl ?_
      refine J_iload_n (pc := 15) C dX6_fill_15 2 rfl ?_
      refine J_iload_n (pc := 16) C dX6_fill_16 1 rfl ?_
      refine J_iastN (pc := 17) C (fun h17 => [(a_this, .inr (6, [.ref a_this_cells])), (a_this_cells, .inl (cI, n_this_cells, .inl h17))]) dX6_fill_17 1 0 rfl rfl h (fun _ => rfl) (fun h17 h => ?_)
      refine J_iincN (pc := 18) (v := (1 : Int32)) C (fun y18 => [(2, .int y18), (0, .ref a_this), (1, .int x1)]) dX6_fill_18 2 rfl (by decide) h (by decide) (fun _ => rfl) (fun y18 h => ?_)
      refine J_goto (tgt := 2) (pc := 21) C dX6_fill_21 (by decide) ?_
      refine J_sub (lv2 := [(0, .ref a_this), (1, .int x1), (2, .int y18)]) [1, 2, 0] rfl ?_
      exact ih _ _ h
set_option maxHeartbeats 4000000 in
set_option maxRecDepth 100000 in
theorem c_X6_fill (l : Launch) (D : va_G) (cI cB cL cO : ClassId) (pf : Nat → Nat) (N : Nat) (a_this a_this_cells : Nat) (n_this_cells : Nat) (g_this_cells : Nat → Int32) (x1 : Int32) (o : (Nat → Int32)) (h : f_X6_fill N x1 n_this_cells g_this_cells = some o) : Ct l D [(cI, .int), (cB, .byte), (cL, .long), (cO, .object RX0)] pf yX6_fill cX6_fill 3 (none : Option FieldType) { frames := 0, cells := 0, slots := 0, locals := 0 } [.ref a_this, .int x1] [(a_this, .inr (6, [.ref a_this_cells])), (a_this_cells, .inl (cI, n_this_cells, .inl g_this_cells))] (is1 (none) [(a_this, .inr (6, [.ref a_this_cells])), (a_this_cells, .inl (cI, n_this_cells, .inl o))]) := by
  refine Ct_of (own := RX6) (lv0 := [(0, .ref a_this), (1, .int x1)]) (by decide) rfl rfl (Nat.le_of_ble_eq_true rfl) ?_
  intro p e s m args below meth c C hr hnm
  unfold f_X6_fill at h
  refine J_iconst (v := (0 : Int32)) (pc := 0) C dX6_fill_0 (by decide) ?_
  refine J_istore_n (lv2 := [(2, .int (0 : Int32)), (0, .ref a_this), (1, .int x1)]) (pc := 1) C dX6_fill_1 (by decide) rfl ?_
  refine J_sub (lv2 := [(0, .ref a_this), (1, .int x1), (2, .int (0 : Int32))]) [1, 2, 0] rfl ?_
  exact t_X6_fill_b2 C hr N _ _ h
-- PointsLedger$Row.put(II)V
theorem dX6_put_0 : decode cX6_put 0 = .ok (.iload_n 1, 1) := by decide +kernel
theorem dX6_put_1 : decode cX6_put 1 = .ok (.ifCond .lt 19, 3) := by decide +kernel
theorem dX6_put_4 : decode cX6_put 4 = .ok (.iload_n 1, 1) := by decide +kernel
theorem dX6_put_5 : decode cX6_put 5 = .ok (.aload_n 0, 1) := by decide +kernel
theorem dX6_put_6 : decode cX6_put 6 = .ok (.getfield 7, 3) := by decide +kernel
theorem dX6_put_9 : decode cX6_put 9 = .ok (.arraylength, 1) := by decide +kernel
theorem dX6_put_10 : decode cX6_put 10 = .ok (.if_icmp .ge 10, 3) := by decide +kernel
theorem dX6_put_13 : decode cX6_put 13 = .ok (.aload_n 0, 1) := by decide +kernel
theorem dX6_put_14 : decode cX6_put 14 = .ok (.getfield 7, 3) := by decide +kernel
theorem dX6_put_17 : decode cX6_put 17 = .ok (.iload_n 1, 1) := by decide +kernel
theorem dX6_put_18 : decode cX6_put 18 = .ok (.iload_n 2, 1) := by decide +kernel
theorem dX6_put_19 : decode cX6_put 19 = .ok (.iastore, 1) := by decide +kernel
theorem dX6_put_20 : decode cX6_put 20 = .ok (.return_, 1) := by decide +kernel
def f_X6_put (x1 : Int32) (x2 : Int32) (n_this_cells : Nat) (g_this_cells : Nat → Int32) : Option ((Nat → Int32)) :=
  (if x1 < 0 then (some g_this_cells) else (if (nI n_this_cells) ≤ x1 then (some g_this_cells) else (if x1 < 0 ∨ n_this_cells ≤ x1.toNatClampNeg then none else ((some (upd g_this_cells x1.toNatClampNeg x2)).bind fun h19 => (some h19)))))
set_option maxHeartbeats 4000000 in
set_option maxRecDepth 100000 in
theorem c_X6_put (l : Launch) (D : va_G) (cI cB cL cO : ClassId) (pf : Nat → Nat) (N : Nat) (a_this a_this_cells : Nat) (n_this_cells : Nat) (g_this_cells : Nat → Int32) (x1 : Int32) (x2 : Int32) (o : (Nat → Int32)) (h : f_X6_put x1 x2 n_this_cells g_this_cells = some o) : Ct l D [(cI, .int), (cB, .byte), (cL, .long), (cO, .object RX0)] pf yX6_put cX6_put 3 (none : Option FieldType) { frames := 0, cells := 0, slots := 0, locals := 0 } [.ref a_this, .int x1, .int x2] [(a_this, .inr (6, [.ref a_this_cells])), (a_this_cells, .inl (cI, n_this_cells, .inl g_this_cells))] (is1 (none) [(a_this, .inr (6, [.ref a_this_cells])), (a_this_cells, .inl (cI, n_this_cells, .inl o))]) := by
  refine Ct_of (own := RX6) (lv0 := [(0, .ref a_this), (1, .int x1), (2, .int x2)]) (by decide) rfl rfl (Nat.le_of_ble_eq_true rfl) ?_
  intro p e s m args below meth c C hr hnm
  unfold f_X6_put at h
  refine J_iload_n (pc := 0) C dX6_put_0 1 rfl ?_
  refine J_if_lt (pc := 1) (tgt := 20) C dX6_put_1 (by decide) h (fun h => ?_) (fun h => ?_)
  · cases h
    exact J_vret (pc := 20) C dX6_put_20 hr ⟨rfl, rfl⟩
  · refine J_iload_n (pc := 4) C dX6_put_4 1 rfl ?_
    refine J_aload_n (pc := 5) C dX6_put_5 0 rfl ?_
    refine J_get (pc := 6) C dX6_put_6 jf_X6 0 rfl rfl 0 (by decide) rfl fl_RX6_7 rfl ?_
    refine J_alen (pc := 9) C dX6_put_9 1 0 rfl rfl ?_
    refine J_ic_ge (pc := 10) (tgt := 20) C dX6_put_10 (by decide) h (fun h => ?_) (fun h => ?_)
    · cases h
      exact J_vret (pc := 20) C dX6_put_20 hr ⟨rfl, rfl⟩
    · refine J_aload_n (pc := 13) C dX6_put_13 0 rfl ?_
      refine J_get (pc := 14) C dX6_put_14 jf_X6 0 rfl rfl 0 (by decide) rfl fl_RX6_7 rfl ?_
      refine J_iload_n (pc := 17) C dX6_put_17 1 rfl ?_
      refine J_iload_n (pc := 18) C dX6_put_18 2 rfl ?_
      refine J_iastN (pc := 19) C (fun h19 => [(a_this, .inr (6, [.ref a_this_cells])), (a_this_cells, .inl (cI, n_this_cells, .inl h19))]) dX6_put_19 1 0 rfl rfl h (fun _ => rfl) (fun h19 h => ?_)
      cases h
      exact J_vret (pc := 20) C dX6_put_20 hr ⟨rfl, rfl⟩
-- PointsLedger$Row.at(I)I
theorem dX6_at_0 : decode cX6_at 0 = .ok (.iload_n 1, 1) := by decide +kernel
theorem dX6_at_1 : decode cX6_at 1 = .ok (.ifCond .lt 21, 3) := by decide +kernel
theorem dX6_at_4 : decode cX6_at 4 = .ok (.iload_n 1, 1) := by decide +kernel
theorem dX6_at_5 : decode cX6_at 5 = .ok (.aload_n 0, 1) := by decide +kernel
theorem dX6_at_6 : decode cX6_at 6 = .ok (.getfield 7, 3) := by decide +kernel
theorem dX6_at_9 : decode cX6_at 9 = .ok (.arraylength, 1) := by decide +kernel
theorem dX6_at_10 : decode cX6_at 10 = .ok (.if_icmp .ge 12, 3) := by decide +kernel
theorem dX6_at_13 : decode cX6_at 13 = .ok (.aload_n 0, 1) := by decide +kernel
theorem dX6_at_14 : decode cX6_at 14 = .ok (.getfield 7, 3) := by decide +kernel
theorem dX6_at_17 : decode cX6_at 17 = .ok (.iload_n 1, 1) := by decide +kernel
theorem dX6_at_18 : decode cX6_at 18 = .ok (.iaload, 1) := by decide +kernel
theorem dX6_at_19 : decode cX6_at 19 = .ok (.goto 4, 3) := by decide +kernel
theorem dX6_at_22 : decode cX6_at 22 = .ok (.iconst 0, 1) := by decide +kernel
theorem dX6_at_23 : decode cX6_at 23 = .ok (.ireturn, 1) := by decide +kernel
def f_X6_at (x1 : Int32) (n_this_cells : Nat) (g_this_cells : Nat → Int32) : Option (Int32) :=
  (if x1 < 0 then (some (0 : Int32)) else (if (nI n_this_cells) ≤ x1 then (some (0 : Int32)) else (if x1 < 0 ∨ n_this_cells ≤ x1.toNatClampNeg then none else (some (g_this_cells x1.toNatClampNeg)))))
set_option maxHeartbeats 4000000 in
set_option maxRecDepth 100000 in
theorem c_X6_at (l : Launch) (D : va_G) (cI cB cL cO : ClassId) (pf : Nat → Nat) (N : Nat) (a_this a_this_cells : Nat) (n_this_cells : Nat) (g_this_cells : Nat → Int32) (x1 : Int32) (o : Int32) (h : f_X6_at x1 n_this_cells g_this_cells = some o) : Ct l D [(cI, .int), (cB, .byte), (cL, .long), (cO, .object RX0)] pf yX6_at cX6_at 2 (some FieldType.int) { frames := 0, cells := 0, slots := 0, locals := 0 } [.ref a_this, .int x1] [(a_this, .inr (6, [.ref a_this_cells])), (a_this_cells, .inl (cI, n_this_cells, .inl g_this_cells))] (is1 (some (.int o)) [(a_this, .inr (6, [.ref a_this_cells])), (a_this_cells, .inl (cI, n_this_cells, .inl g_this_cells))]) := by
  refine Ct_of (own := RX6) (lv0 := [(0, .ref a_this), (1, .int x1)]) (by decide) rfl rfl (Nat.le_of_ble_eq_true rfl) ?_
  intro p e s m args below meth c C hr hnm
  unfold f_X6_at at h
  refine J_iload_n (pc := 0) C dX6_at_0 1 rfl ?_
  refine J_if_lt (pc := 1) (tgt := 22) C dX6_at_1 (by decide) h (fun h => ?_) (fun h => ?_)
  · refine J_iconst (v := (0 : Int32)) (pc := 22) C dX6_at_22 (by decide) ?_
    cases h
    exact J_iret (pc := 23) C dX6_at_23 hr ⟨rfl, rfl⟩
  · refine J_iload_n (pc := 4) C dX6_at_4 1 rfl ?_
    refine J_aload_n (pc := 5) C dX6_at_5 0 rfl ?_
    refine J_get (pc := 6) C dX6_at_6 jf_X6 0 rfl rfl 0 (by decide) rfl fl_RX6_7 rfl ?_
    refine J_alen (pc := 9) C dX6_at_9 1 0 rfl rfl ?_
    refine J_ic_ge (pc := 10) (tgt := 22) C dX6_at_10 (by decide) h (fun h => ?_) (fun h => ?_)
    · refine J_iconst (v := (0 : Int32)) (pc := 22) C dX6_at_22 (by decide) ?_
      cases h
      exact J_iret (pc := 23) C dX6_at_23 hr ⟨rfl, rfl⟩
    · refine J_aload_n (pc := 13) C dX6_at_13 0 rfl ?_
      refine J_get (pc := 14) C dX6_at_14 jf_X6 0 rfl rfl 0 (by decide) rfl fl_RX6_7 rfl ?_
      refine J_iload_n (pc := 17) C dX6_at_17 1 rfl ?_
      refine J_iald (pc := 18) C dX6_at_18 1 0 rfl rfl h (fun h => ?_)
      refine J_goto (tgt := 23) (pc := 19) C dX6_at_19 (by decide) ?_
      cases h
      exact J_iret (pc := 23) C dX6_at_23 hr ⟨rfl, rfl⟩
-- PointsLedger$Row.copyFirst(LPointsLedger$Row;I)V
theorem dX6_copyFirst_0 : decode cX6_copyFirst 0 = .ok (.iload_n 2, 1) := by decide +kernel
theorem dX6_copyFirst_1 : decode cX6_copyFirst 1 = .ok (.aload_n 0, 1) := by decide +kernel
theorem dX6_copyFirst_2 : decode cX6_copyFirst 2 = .ok (.getfield 7, 3) := by decide +kernel
theorem dX6_copyFirst_5 : decode cX6_copyFirst 5 = .ok (.arraylength, 1) := by decide +kernel
theorem dX6_copyFirst_6 : decode cX6_copyFirst 6 = .ok (.aload_n 1, 1) := by decide +kernel
theorem dX6_copyFirst_7 : decode cX6_copyFirst 7 = .ok (.getfield 7, 3) := by decide +kernel
theorem dX6_copyFirst_10 : decode cX6_copyFirst 10 = .ok (.arraylength, 1) := by decide +kernel
theorem dX6_copyFirst_11 : decode cX6_copyFirst 11 = .ok (.invokestatic 23, 3) := by decide +kernel
theorem dX6_copyFirst_14 : decode cX6_copyFirst 14 = .ok (.invokestatic 23, 3) := by decide +kernel
theorem dX6_copyFirst_17 : decode cX6_copyFirst 17 = .ok (.istore_n 3, 1) := by decide +kernel
theorem dX6_copyFirst_18 : decode cX6_copyFirst 18 = .ok (.iload_n 3, 1) := by decide +kernel
theorem dX6_copyFirst_19 : decode cX6_copyFirst 19 = .ok (.ifCond .le 17, 3) := by decide +kernel
theorem dX6_copyFirst_22 : decode cX6_copyFirst 22 = .ok (.aload_n 1, 1) := by decide +kernel
theorem dX6_copyFirst_23 : decode cX6_copyFirst 23 = .ok (.getfield 7, 3) := by decide +kernel
theorem dX6_copyFirst_26 : decode cX6_copyFirst 26 = .ok (.iconst 0, 1) := by decide +kernel
theorem dX6_copyFirst_27 : decode cX6_copyFirst 27 = .ok (.aload_n 0, 1) := by decide +kernel
theorem dX6_copyFirst_28 : decode cX6_copyFirst 28 = .ok (.getfield 7, 3) := by decide +kernel
theorem dX6_copyFirst_31 : decode cX6_copyFirst 31 = .ok (.iconst 0, 1) := by decide +kernel
theorem dX6_copyFirst_32 : decode cX6_copyFirst 32 = .ok (.iload_n 3, 1) := by decide +kernel
theorem dX6_copyFirst_33 : decode cX6_copyFirst 33 = .ok (.invokestatic 26, 3) := by decide +kernel
theorem dX6_copyFirst_36 : decode cX6_copyFirst 36 = .ok (.return_, 1) := by decide +kernel
def f_X6_copyFirst (x2 : Int32) (n_this_cells : Nat) (n_p1_cells : Nat) (g_this_cells : Nat → Int32) (g_p1_cells : Nat → Int32) : Option ((Nat → Int32)) :=
  ((some (if (if (nI n_p1_cells) < (nI n_this_cells) then (nI n_p1_cells) else (nI n_this_cells)) < x2 then (if (nI n_p1_cells) < (nI n_this_cells) then (nI n_p1_cells) else (nI n_this_cells)) else x2)).bind fun y17 => (if y17 ≤ 0 then (some g_this_cells) else (if (0 : Int32) < 0 ∨ (0 : Int32) < 0 ∨ y17 < 0 ∨ n_p1_cells < (0 : Int32).toNatClampNeg + y17.toNatClampNeg ∨ n_this_cells < (0 : Int32).toNatClampNeg + y17.toNatClampNeg then none else ((some (va_cpy g_p1_cells g_this_cells (0 : Int32).toNatClampNeg (0 : Int32).toNatClampNeg y17.toNatClampNeg)).bind fun h33 => (some h33)))))
set_option maxHeartbeats 4000000 in
set_option maxRecDepth 100000 in
theorem c_X6_copyFirst (l : Launch) (D : va_G) (cI cB cL cO : ClassId) (pf : Nat → Nat) (N : Nat) (a_this a_p1 a_this_cells a_p1_cells : Nat) (n_this_cells : Nat) (n_p1_cells : Nat) (g_this_cells : Nat → Int32) (g_p1_cells : Nat → Int32) (x2 : Int32) (o : (Nat → Int32)) (h : f_X6_copyFirst x2 n_this_cells n_p1_cells g_this_cells g_p1_cells = some o) : Ct l D [(cI, .int), (cB, .byte), (cL, .long), (cO, .object RX0)] pf yX6_copyFirst cX6_copyFirst 4 (none : Option FieldType) { frames := 1, cells := 0, slots := 0, locals := 60 } [.ref a_this, .ref a_p1, .int x2] [(a_this, .inr (6, [.ref a_this_cells])), (a_this_cells, .inl (cI, n_this_cells, .inl g_this_cells)), (a_p1, .inr (6, [.ref a_p1_cells])), (a_p1_cells, .inl (cI, n_p1_cells, .inl g_p1_cells))] (is1 (none) [(a_this, .inr (6, [.ref a_this_cells])), (a_this_cells, .inl (cI, n_this_cells, .inl o)), (a_p1, .inr (6, [.ref a_p1_cells])), (a_p1_cells, .inl (cI, n_p1_cells, .inl g_p1_cells))]) := by
  refine Ct_of (own := RX6) (lv0 := [(0, .ref a_this), (1, .ref a_p1), (2, .int x2)]) (by decide) rfl rfl (Nat.le_of_ble_eq_true rfl) ?_
  intro p e s m args below meth c C hr hnm
  unfold f_X6_copyFirst at h
  refine J_iload_n (pc := 0) C dX6_copyFirst_0 2 rfl ?_
  refine J_aload_n (pc := 1) C dX6_copyFirst_1 0 rfl ?_
  refine J_get (pc := 2) C dX6_copyFirst_2 jf_X6 0 rfl rfl 0 (by decide) rfl fl_RX6_7 rfl ?_
  refine J_alen (pc := 5) C dX6_copyFirst_5 1 0 rfl rfl ?_
  refine J_aload_n (pc := 6) C dX6_copyFirst_6 1 rfl ?_
  refine J_get (pc := 7) C dX6_copyFirst_7 jf_X6 2 rfl rfl 0 (by decide) rfl fl_RX6_7 rfl ?_
  refine J_alen (pc := 10) C dX6_copyFirst_10 3 0 rfl rfl ?_
  refine J_mmin (pc := 11) C dX6_copyFirst_11 ml_RX6_23 w_min (Nat.le_of_ble_eq_true rfl) (Nat.le_of_ble_eq_true rfl) ⟨Nat.zero_le _, Nat.zero_le _⟩ ?_
  refine J_mmin (pc := 14) C dX6_copyFirst_14 ml_RX6_23 w_min (Nat.le_of_ble_eq_true rfl) (Nat.le_of_ble_eq_true rfl) ⟨Nat.zero_le _, Nat.zero_le _⟩ ?_
  refine J_istore_nN (pc := 17) C (fun y17 => [(3, .int y17), (0, .ref a_this), (1, .ref a_p1), (2, .int x2)]) dX6_copyFirst_17 h (by decide) (fun _ => rfl) (fun y17 h => ?_)
  refine J_iload_n (pc := 18) C dX6_copyFirst_18 0 rfl ?_
  refine J_if_le (pc := 19) (tgt := 36) C dX6_copyFirst_19 (by decide) h (fun h => ?_) (fun h => ?_)
  · cases h
    exact J_vret (pc := 36) C dX6_copyFirst_36 hr ⟨rfl, rfl⟩
  · refine J_aload_n (pc := 22) C dX6_copyFirst_22 2 rfl ?_
    refine J_get (pc := 23) C dX6_copyFirst_23 jf_X6 2 rfl rfl 0 (by decide) rfl fl_RX6_7 rfl ?_
    refine J_iconst (v := (0 : Int32)) (pc := 26) C dX6_copyFirst_26 (by decide) ?_
    refine J_aload_n (pc := 27) C dX6_copyFirst_27 1 rfl ?_
    refine J_get (pc := 28) C dX6_copyFirst_28 jf_X6 0 rfl rfl 0 (by decide) rfl fl_RX6_7 rfl ?_
    refine J_iconst (v := (0 : Int32)) (pc := 31) C dX6_copyFirst_31 (by decide) ?_
    refine J_iload_n (pc := 32) C dX6_copyFirst_32 0 rfl ?_
    refine J_copyN (pc := 33) C (fun h33 => [(a_this, .inr (6, [.ref a_this_cells])), (a_this_cells, .inl (cI, n_this_cells, .inl h33)), (a_p1, .inr (6, [.ref a_p1_cells])), (a_p1_cells, .inl (cI, n_p1_cells, .inl g_p1_cells))]) dX6_copyFirst_33 ml_RX6_26 3 1 0 0 rfl rfl rfl rfl h (Nat.le_of_ble_eq_true rfl) (Nat.le_of_ble_eq_true rfl) (fun _ => rfl) (fun h33 h => ?_)
    cases h
    exact J_vret (pc := 36) C dX6_copyFirst_36 hr ⟨rfl, rfl⟩
-- PointsLedger$Cohorts.copyFrom(LPointsLedger$Cohorts;)V
theorem dX1_copyFrom_0 : decode cX1_copyFrom 0 = .ok (.aload_n 0, 1) := by decide +kernel
theorem dX1_copyFrom_1 : decode cX1_copyFrom 1 = .ok (.getfield 14, 3) := by decide +kernel
theorem dX1_copyFrom_4 : decode cX1_copyFrom 4 = .ok (.aload_n 1, 1) := by decide +kernel
theorem dX1_copyFrom_5 : decode cX1_copyFrom 5 = .ok (.getfield 14, 3) := by decide +kernel
theorem dX1_copyFrom_8 : decode cX1_copyFrom 8 = .ok (.aload_n 1, 1) := by decide +kernel
theorem dX1_copyFrom_9 : decode cX1_copyFrom 9 = .ok (.getfield 29, 3) := by decide +kernel
theorem dX1_copyFrom_12 : decode cX1_copyFrom 12 = .ok (.invokevirtual 33, 3) := by decide +kernel
theorem dX1_copyFrom_15 : decode cX1_copyFrom 15 = .ok (.aload_n 0, 1) := by decide +kernel
theorem dX1_copyFrom_16 : decode cX1_copyFrom 16 = .ok (.getfield 20, 3) := by decide +kernel
theorem dX1_copyFrom_19 : decode cX1_copyFrom 19 = .ok (.aload_n 1, 1) := by decide +kernel
theorem dX1_copyFrom_20 : decode cX1_copyFrom 20 = .ok (.getfield 20, 3) := by decide +kernel
theorem dX1_copyFrom_23 : decode cX1_copyFrom 23 = .ok (.aload_n 1, 1) := by decide +kernel
theorem dX1_copyFrom_24 : decode cX1_copyFrom 24 = .ok (.getfield 29, 3) := by decide +kernel
theorem dX1_copyFrom_27 : decode cX1_copyFrom 27 = .ok (.invokevirtual 33, 3) := by decide +kernel
theorem dX1_copyFrom_30 : decode cX1_copyFrom 30 = .ok (.aload_n 0, 1) := by decide +kernel
theorem dX1_copyFrom_31 : decode cX1_copyFrom 31 = .ok (.getfield 23, 3) := by decide +kernel
theorem dX1_copyFrom_34 : decode cX1_copyFrom 34 = .ok (.aload_n 1, 1) := by decide +kernel
theorem dX1_copyFrom_35 : decode cX1_copyFrom 35 = .ok (.getfield 23, 3) := by decide +kernel
theorem dX1_copyFrom_38 : decode cX1_copyFrom 38 = .ok (.aload_n 1, 1) := by decide +kernel
theorem dX1_copyFrom_39 : decode cX1_copyFrom 39 = .ok (.getfield 29, 3) := by decide +kernel
theorem dX1_copyFrom_42 : decode cX1_copyFrom 42 = .ok (.invokevirtual 33, 3) := by decide +kernel
theorem dX1_copyFrom_45 : decode cX1_copyFrom 45 = .ok (.aload_n 0, 1) := by decide +kernel
theorem dX1_copyFrom_46 : decode cX1_copyFrom 46 = .ok (.getfield 26, 3) := by decide +kernel
theorem dX1_copyFrom_49 : decode cX1_copyFrom 49 = .ok (.aload_n 1, 1) := by decide +kernel
theorem dX1_copyFrom_50 : decode cX1_copyFrom 50 = .ok (.getfield 26, 3) := by decide +kernel
theorem dX1_copyFrom_53 : decode cX1_copyFrom 53 = .ok (.aload_n 1, 1) := by decide +kernel
theorem dX1_copyFrom_54 : decode cX1_copyFrom 54 = .ok (.getfield 29, 3) := by decide +kernel
theorem dX1_copyFrom_57 : decode cX1_copyFrom 57 = .ok (.invokevirtual 33, 3) := by decide +kernel
theorem dX1_copyFrom_60 : decode cX1_copyFrom 60 = .ok (.aload_n 0, 1) := by decide +kernel
theorem dX1_copyFrom_61 : decode cX1_copyFrom 61 = .ok (.aload_n 1, 1) := by decide +kernel
theorem dX1_copyFrom_62 : decode cX1_copyFrom 62 = .ok (.getfield 29, 3) := by decide +kernel
theorem dX1_copyFrom_65 : decode cX1_copyFrom 65 = .ok (.putfield 29, 3) := by decide +kernel
theorem dX1_copyFrom_68 : decode cX1_copyFrom 68 = .ok (.return_, 1) := by decide +kernel
def f_X1_copyFrom (n_this_lists_cells : Nat) (n_this_days_cells : Nat) (n_this_contributors_cells : Nat) (n_this_points_cells : Nat) (n_p1_lists_cells : Nat) (n_p1_days_cells : Nat) (n_p1_contributors_cells : Nat) (n_p1_points_cells : Nat) (g_this_lists_cells : Nat → Int32) (g_this_days_cells : Nat → Int32) (g_this_contributors_cells : Nat → Int32) (g_this_points_cells : Nat → Int32) (v_p1_size : Int32) (g_p1_lists_cells : Nat → Int32) (g_p1_days_cells : Nat → Int32) (g_p1_contributors_cells : Nat → Int32) (g_p1_points_cells : Nat → Int32) : Option (Int32 × (Nat → Int32) × (Nat → Int32) × (Nat → Int32) × (Nat → Int32)) :=
  ((f_X6_copyFirst v_p1_size n_this_lists_cells n_p1_lists_cells g_this_lists_cells g_p1_lists_cells).bind fun r12 => ((f_X6_copyFirst v_p1_size n_this_days_cells n_p1_days_cells g_this_days_cells g_p1_days_cells).bind fun r27 => ((f_X6_copyFirst v_p1_size n_this_contributors_cells n_p1_contributors_cells g_this_contributors_cells g_p1_contributors_cells).bind fun r42 => ((f_X6_copyFirst v_p1_size n_this_points_cells n_p1_points_cells g_this_points_cells g_p1_points_cells).bind fun r57 => (some (v_p1_size, r12, r27, r42, r57))))))
set_option maxHeartbeats 4000000 in
set_option maxRecDepth 100000 in
theorem c_X1_copyFrom (l : Launch) (D : va_G) (cI cB cL cO : ClassId) (pf : Nat → Nat) (N : Nat) (a_this a_p1 a_this_lists a_this_days a_this_contributors a_this_points a_this_lists_cells a_this_days_cells a_this_contributors_cells a_this_points_cells a_p1_lists a_p1_days a_p1_contributors a_p1_points a_p1_lists_cells a_p1_days_cells a_p1_contributors_cells a_p1_points_cells : Nat) (n_this_lists_cells : Nat) (n_this_days_cells : Nat) (n_this_contributors_cells : Nat) (n_this_points_cells : Nat) (n_p1_lists_cells : Nat) (n_p1_days_cells : Nat) (n_p1_contributors_cells : Nat) (n_p1_points_cells : Nat) (v_this_size : Int32) (g_this_lists_cells : Nat → Int32) (g_this_days_cells : Nat → Int32) (g_this_contributors_cells : Nat → Int32) (g_this_points_cells : Nat → Int32) (v_p1_size : Int32) (g_p1_lists_cells : Nat → Int32) (g_p1_days_cells : Nat → Int32) (g_p1_contributors_cells : Nat → Int32) (g_p1_points_cells : Nat → Int32) (o : Int32 × (Nat → Int32) × (Nat → Int32) × (Nat → Int32) × (Nat → Int32)) (h : f_X1_copyFrom n_this_lists_cells n_this_days_cells n_this_contributors_cells n_this_points_cells n_p1_lists_cells n_p1_days_cells n_p1_contributors_cells n_p1_points_cells g_this_lists_cells g_this_days_cells g_this_contributors_cells g_this_points_cells v_p1_size g_p1_lists_cells g_p1_days_cells g_p1_contributors_cells g_p1_points_cells = some o) : Ct l D [(cI, .int), (cB, .byte), (cL, .long), (cO, .object RX0)] pf yX1_copyFrom cX1_copyFrom 2 (none : Option FieldType) { frames := 2, cells := 0, slots := 0, locals := 83 } [.ref a_this, .ref a_p1] [(a_this, .inr (1, [.ref a_this_lists, .ref a_this_days, .ref a_this_contributors, .ref a_this_points, .int v_this_size])), (a_this_lists, .inr (6, [.ref a_this_lists_cells])), (a_this_lists_cells, .inl (cI, n_this_lists_cells, .inl g_this_lists_cells)), (a_this_days, .inr (6, [.ref a_this_days_cells])), (a_this_days_cells, .inl (cI, n_this_days_cells, .inl g_this_days_cells)), (a_this_contributors, .inr (6, [.ref a_this_contributors_cells])), (a_this_contributors_cells, .inl (cI, n_this_contributors_cells, .inl g_this_contributors_cells)), (a_this_points, .inr (6, [.ref a_this_points_cells])), (a_this_points_cells, .inl (cI, n_this_points_cells, .inl g_this_points_cells)), (a_p1, .inr (1, [.ref a_p1_lists, .ref a_p1_days, .ref a_p1_contributors, .ref a_p1_points, .int v_p1_size])), (a_p1_lists, .inr (6, [.ref a_p1_lists_cells])), (a_p1_lists_cells, .inl (cI, n_p1_lists_cells, .inl g_p1_lists_cells)), (a_p1_days, .inr (6, [.ref a_p1_days_cells])), (a_p1_days_cells, .inl (cI, n_p1_days_cells, .inl g_p1_days_cells)), (a_p1_contributors, .inr (6, [.ref a_p1_contributors_cells])), (a_p1_contributors_cells, .inl (cI, n_p1_contributors_cells, .inl g_p1_contributors_cells)), (a_p1_points, .inr (6, [.ref a_p1_points_cells])), (a_p1_points_cells, .inl (cI, n_p1_points_cells, .inl g_p1_points_cells))] (is1 (none) [(a_this, .inr (1, [.ref a_this_lists, .ref a_this_days, .ref a_this_contributors, .ref a_this_points, .int o.1])), (a_this_lists, .inr (6, [.ref a_this_lists_cells])), (a_this_lists_cells, .inl (cI, n_this_lists_cells, .inl o.2.1)), (a_this_days, .inr (6, [.ref a_this_days_cells])), (a_this_days_cells, .inl (cI, n_this_days_cells, .inl o.2.2.1)), (a_this_contributors, .inr (6, [.ref a_this_contributors_cells])), (a_this_contributors_cells, .inl (cI, n_this_contributors_cells, .inl o.2.2.2.1)), (a_this_points, .inr (6, [.ref a_this_points_cells])), (a_this_points_cells, .inl (cI, n_this_points_cells, .inl o.2.2.2.2)), (a_p1, .inr (1, [.ref a_p1_lists, .ref a_p1_days, .ref a_p1_contributors, .ref a_p1_points, .int v_p1_size])), (a_p1_lists, .inr (6, [.ref a_p1_lists_cells])), (a_p1_lists_cells, .inl (cI, n_p1_lists_cells, .inl g_p1_lists_cells)), (a_p1_days, .inr (6, [.ref a_p1_days_cells])), (a_p1_days_cells, .inl (cI, n_p1_days_cells, .inl g_p1_days_cells)), (a_p1_contributors, .inr (6, [.ref a_p1_contributors_cells])), (a_p1_contributors_cells, .inl (cI, n_p1_contributors_cells, .inl g_p1_contributors_cells)), (a_p1_points, .inr (6, [.ref a_p1_points_cells])), (a_p1_points_cells, .inl (cI, n_p1_points_cells, .inl g_p1_points_cells))]) := by
  refine Ct_of (own := RX1) (lv0 := [(0, .ref a_this), (1, .ref a_p1)]) (by decide) rfl rfl (Nat.le_of_ble_eq_true rfl) ?_
  intro p e s m args below meth c C hr hnm
  unfold f_X1_copyFrom at h
  refine J_aload_n (pc := 0) C dX1_copyFrom_0 0 rfl ?_
  refine J_get (pc := 1) C dX1_copyFrom_1 jf_X1 0 rfl rfl 0 (by decide) rfl fl_RX1_14 rfl ?_
  refine J_aload_n (pc := 4) C dX1_copyFrom_4 1 rfl ?_
  refine J_get (pc := 5) C dX1_copyFrom_5 jf_X1 9 rfl rfl 0 (by decide) rfl fl_RX1_14 rfl ?_
  refine J_aload_n (pc := 8) C dX1_copyFrom_8 1 rfl ?_
  refine J_get (pc := 9) C dX1_copyFrom_9 jf_X1 9 rfl rfl 4 (by decide) rfl fl_RX1_29 rfl ?_
  refine J_cvw (pc := 12) (As := [.ref a_p1_lists, .int v_p1_size]) (st := []) C (fun r12 => [(a_this, .inr (1, [.ref a_this_lists, .ref a_this_days, .ref a_this_contributors, .ref a_this_points, .int v_this_size])), (a_this_lists, .inr (6, [.ref a_this_lists_cells])), (a_this_lists_cells, .inl (cI, n_this_lists_cells, .inl r12)), (a_this_days, .inr (6, [.ref a_this_days_cells])), (a_this_days_cells, .inl (cI, n_this_days_cells, .inl g_this_days_cells)), (a_this_contributors, .inr (6, [.ref a_this_contributors_cells])), (a_this_contributors_cells, .inl (cI, n_this_contributors_cells, .inl g_this_contributors_cells)), (a_this_points, .inr (6, [.ref a_this_points_cells])), (a_this_points_cells, .inl (cI, n_this_points_cells, .inl g_this_points_cells)), (a_p1, .inr (1, [.ref a_p1_lists, .ref a_p1_days, .ref a_p1_contributors, .ref a_p1_points, .int v_p1_size])), (a_p1_lists, .inr (6, [.ref a_p1_lists_cells])), (a_p1_lists_cells, .inl (cI, n_p1_lists_cells, .inl g_p1_lists_cells)), (a_p1_days, .inr (6, [.ref a_p1_days_cells])), (a_p1_days_cells, .inl (cI, n_p1_days_cells, .inl g_p1_days_cells)), (a_p1_contributors, .inr (6, [.ref a_p1_contributors_cells])), (a_p1_contributors_cells, .inl (cI, n_p1_contributors_cells, .inl g_p1_contributors_cells)), (a_p1_points, .inr (6, [.ref a_p1_points_cells])), (a_p1_points_cells, .inl (cI, n_p1_points_cells, .inl g_p1_points_cells))]) dX1_copyFrom_12 ml_RX1_33 mi_yX6_copyFirst (fun r12 hr => c_X6_copyFirst l D cI cB cL cO pf 0 a_this_lists a_p1_lists a_this_lists_cells a_p1_lists_cells n_this_lists_cells n_p1_lists_cells g_this_lists_cells g_p1_lists_cells v_p1_size r12 hr) h [1, 2, 10, 11] rfl rfl rfl rfl rfl ⟨rfl, rfl⟩ ⟨(Nat.le_of_ble_eq_true rfl), (Nat.le_of_ble_eq_true rfl)⟩ ⟨Nat.zero_le _, Nat.zero_le _⟩ (Nat.le_of_ble_eq_true rfl) (fun _ => rfl) (fun _ => rfl) (fun r12 h => ?_)
  refine J_aload_n (pc := 15) C dX1_copyFrom_15 0 rfl ?_
  refine J_get (pc := 16) C dX1_copyFrom_16 jf_X1 0 rfl rfl 1 (by decide) rfl fl_RX1_20 rfl ?_
  refine J_aload_n (pc := 19) C dX1_copyFrom_19 1 rfl ?_
  refine J_get (pc := 20) C dX1_copyFrom_20 jf_X1 9 rfl rfl 1 (by decide) rfl fl_RX1_20 rfl ?_
  refine J_aload_n (pc := 23) C dX1_copyFrom_23 1 rfl ?_
  refine J_get (pc := 24) C dX1_copyFrom_24 jf_X1 9 rfl rfl 4 (by decide) rfl fl_RX1_29 rfl ?_
  refine J_cvw (pc := 27) (As := [.ref a_p1_days, .int v_p1_size]) (st := []) C (fun r27 => [(a_this, .inr (1, [.ref a_this_lists, .ref a_this_days, .ref a_this_contributors, .ref a_this_points, .int v_this_size])), (a_this_lists, .inr (6, [.ref a_this_lists_cells])), (a_this_lists_cells, .inl (cI, n_this_lists_cells, .inl r12)), (a_this_days, .inr (6, [.ref a_this_days_cells])), (a_this_days_cells, .inl (cI, n_this_days_cells, .inl r27)), (a_this_contributors, .inr (6, [.ref a_this_contributors_cells])), (a_this_contributors_cells, .inl (cI, n_this_contributors_cells, .inl g_this_contributors_cells)), (a_this_points, .inr (6, [.ref a_this_points_cells])), (a_this_points_cells, .inl (cI, n_this_points_cells, .inl g_this_points_cells)), (a_p1, .inr (1, [.ref a_p1_lists, .ref a_p1_days, .ref a_p1_contributors, .ref a_p1_points, .int v_p1_size])), (a_p1_lists, .inr (6, [.ref a_p1_lists_cells])), (a_p1_lists_cells, .inl (cI, n_p1_lists_cells, .inl g_p1_lists_cells)), (a_p1_days, .inr (6, [.ref a_p1_days_cells])), (a_p1_days_cells, .inl (cI, n_p1_days_cells, .inl g_p1_days_cells)), (a_p1_contributors, .inr (6, [.ref a_p1_contributors_cells])), (a_p1_contributors_cells, .inl (cI, n_p1_contributors_cells, .inl g_p1_contributors_cells)), (a_p1_points, .inr (6, [.ref a_p1_points_cells])), (a_p1_points_cells, .inl (cI, n_p1_points_cells, .inl g_p1_points_cells))]) dX1_copyFrom_27 ml_RX1_33 mi_yX6_copyFirst (fun r27 hr => c_X6_copyFirst l D cI cB cL cO pf 0 a_this_days a_p1_days a_this_days_cells a_p1_days_cells n_this_days_cells n_p1_days_cells g_this_days_cells g_p1_days_cells v_p1_size r27 hr) h [3, 4, 12, 13] rfl rfl rfl rfl rfl ⟨rfl, rfl⟩ ⟨(Nat.le_of_ble_eq_true rfl), (Nat.le_of_ble_eq_true rfl)⟩ ⟨Nat.zero_le _, Nat.zero_le _⟩ (Nat.le_of_ble_eq_true rfl) (fun _ => rfl) (fun _ => rfl) (fun r27 h => ?_)
  refine J_aload_n (pc := 30) C dX1_copyFrom_30 0 rfl ?_
  refine J_get (pc := 31) C dX1_copyFrom_31 jf_X1 0 rfl rfl 2 (by decide) rfl fl_RX1_23 rfl ?_
  refine J_aload_n (pc := 34) C dX1_copyFrom_34 1 rfl ?_
  refine J_get (pc := 35) C dX1_copyFrom_35 jf_X1 9 rfl rfl 2 (by decide) rfl fl_RX1_23 rfl ?_
  refine J_aload_n (pc := 38) C dX1_copyFrom_38 1 rfl ?_
  refine J_get (pc := 39) C dX1_copyFrom_39 jf_X1 9 rfl rfl 4 (by decide) rfl fl_RX1_29 rfl ?_
  refine J_cvw (pc := 42) (As := [.ref a_p1_contributors, .int v_p1_size]) (st := []) C (fun r42 => [(a_this, .inr (1, [.ref a_this_lists, .ref a_this_days, .ref a_this_contributors, .ref a_this_points, .int v_this_size])), (a_this_lists, .inr (6, [.ref a_this_lists_cells])), (a_this_lists_cells, .inl (cI, n_this_lists_cells, .inl r12)), (a_this_days, .inr (6, [.ref a_this_days_cells])), (a_this_days_cells, .inl (cI, n_this_days_cells, .inl r27)), (a_this_contributors, .inr (6, [.ref a_this_contributors_cells])), (a_this_contributors_cells, .inl (cI, n_this_contributors_cells, .inl r42)), (a_this_points, .inr (6, [.ref a_this_points_cells])), (a_this_points_cells, .inl (cI, n_this_points_cells, .inl g_this_points_cells)), (a_p1, .inr (1, [.ref a_p1_lists, .ref a_p1_days, .ref a_p1_contributors, .ref a_p1_points, .int v_p1_size])), (a_p1_lists, .inr (6, [.ref a_p1_lists_cells])), (a_p1_lists_cells, .inl (cI, n_p1_lists_cells, .inl g_p1_lists_cells)), (a_p1_days, .inr (6, [.ref a_p1_days_cells])), (a_p1_days_cells, .inl (cI, n_p1_days_cells, .inl g_p1_days_cells)), (a_p1_contributors, .inr (6, [.ref a_p1_contributors_cells])), (a_p1_contributors_cells, .inl (cI, n_p1_contributors_cells, .inl g_p1_contributors_cells)), (a_p1_points, .inr (6, [.ref a_p1_points_cells])), (a_p1_points_cells, .inl (cI, n_p1_points_cells, .inl g_p1_points_cells))]) dX1_copyFrom_42 ml_RX1_33 mi_yX6_copyFirst (fun r42 hr => c_X6_copyFirst l D cI cB cL cO pf 0 a_this_contributors a_p1_contributors a_this_contributors_cells a_p1_contributors_cells n_this_contributors_cells n_p1_contributors_cells g_this_contributors_cells g_p1_contributors_cells v_p1_size r42 hr) h [5, 6, 14, 15] rfl rfl rfl rfl rfl ⟨rfl, rfl⟩ ⟨(Nat.le_of_ble_eq_true rfl), (Nat.le_of_ble_eq_true rfl)⟩ ⟨Nat.zero_le _, Nat.zero_le _⟩ (Nat.le_of_ble_eq_true rfl) (fun _ => rfl) (fun _ => rfl) (fun r42 h => ?_)
  refine J_aload_n (pc := 45) C dX1_copyFrom_45 0 rfl ?_
  refine J_get (pc := 46) C dX1_copyFrom_46 jf_X1 0 rfl rfl 3 (by decide) rfl fl_RX1_26 rfl ?_
  refine J_aload_n (pc := 49) C dX1_copyFrom_49 1 rfl ?_
  refine J_get (pc := 50) C dX1_copyFrom_50 jf_X1 9 rfl rfl 3 (by decide) rfl fl_RX1_26 rfl ?_
  refine J_aload_n (pc := 53) C dX1_copyFrom_53 1 rfl ?_
  refine J_get (pc := 54) C dX1_copyFrom_54 jf_X1 9 rfl rfl 4 (by decide) rfl fl_RX1_29 rfl ?_
  refine J_cvw (pc := 57) (As := [.ref a_p1_points, .int v_p1_size]) (st := []) C (fun r57 => [(a_this, .inr (1, [.ref a_this_lists, .ref a_this_days, .ref a_this_contributors, .ref a_this_points, .int v_this_size])), (a_this_lists, .inr (6, [.ref a_this_lists_cells])), (a_this_lists_cells, .inl (cI, n_this_lists_cells, .inl r12)), (a_this_days, .inr (6, [.ref a_this_days_cells])), (a_this_days_cells, .inl (cI, n_this_days_cells, .inl r27)), (a_this_contributors, .inr (6, [.ref a_this_contributors_cells])), (a_this_contributors_cells, .inl (cI, n_this_contributors_cells, .inl r42)), (a_this_points, .inr (6, [.ref a_this_points_cells])), (a_this_points_cells, .inl (cI, n_this_points_cells, .inl r57)), (a_p1, .inr (1, [.ref a_p1_lists, .ref a_p1_days, .ref a_p1_contributors, .ref a_p1_points, .int v_p1_size])), (a_p1_lists, .inr (6, [.ref a_p1_lists_cells])), (a_p1_lists_cells, .inl (cI, n_p1_lists_cells, .inl g_p1_lists_cells)), (a_p1_days, .inr (6, [.ref a_p1_days_cells])), (a_p1_days_cells, .inl (cI, n_p1_days_cells, .inl g_p1_days_cells)), (a_p1_contributors, .inr (6, [.ref a_p1_contributors_cells])), (a_p1_contributors_cells, .inl (cI, n_p1_contributors_cells, .inl g_p1_contributors_cells)), (a_p1_points, .inr (6, [.ref a_p1_points_cells])), (a_p1_points_cells, .inl (cI, n_p1_points_cells, .inl g_p1_points_cells))]) dX1_copyFrom_57 ml_RX1_33 mi_yX6_copyFirst (fun r57 hr => c_X6_copyFirst l D cI cB cL cO pf 0 a_this_points a_p1_points a_this_points_cells a_p1_points_cells n_this_points_cells n_p1_points_cells g_this_points_cells g_p1_points_cells v_p1_size r57 hr) h [7, 8, 16, 17] rfl rfl rfl rfl rfl ⟨rfl, rfl⟩ ⟨(Nat.le_of_ble_eq_true rfl), (Nat.le_of_ble_eq_true rfl)⟩ ⟨Nat.zero_le _, Nat.zero_le _⟩ (Nat.le_of_ble_eq_true rfl) (fun _ => rfl) (fun _ => rfl) (fun r57 h => ?_)
  refine J_aload_n (pc := 60) C dX1_copyFrom_60 0 rfl ?_
  refine J_aload_n (pc := 61) C dX1_copyFrom_61 1 rfl ?_
  refine J_get (pc := 62) C dX1_copyFrom_62 jf_X1 9 rfl rfl 4 (by decide) rfl fl_RX1_29 rfl ?_
  refine J_put (tt := .int) (pc := 65) C dX1_copyFrom_65 jf_X1 0 rfl rfl 4 (by decide) rfl fl_RX1_29 rfl (by decide +kernel) rfl rfl (Nat.le_of_ble_eq_true rfl) ?_
  refine J_ws (ws2 := [(a_this, .inr (1, [.ref a_this_lists, .ref a_this_days, .ref a_this_contributors, .ref a_this_points, .int v_p1_size])), (a_this_lists, .inr (6, [.ref a_this_lists_cells])), (a_this_lists_cells, .inl (cI, n_this_lists_cells, .inl r12)), (a_this_days, .inr (6, [.ref a_this_days_cells])), (a_this_days_cells, .inl (cI, n_this_days_cells, .inl r27)), (a_this_contributors, .inr (6, [.ref a_this_contributors_cells])), (a_this_contributors_cells, .inl (cI, n_this_contributors_cells, .inl r42)), (a_this_points, .inr (6, [.ref a_this_points_cells])), (a_this_points_cells, .inl (cI, n_this_points_cells, .inl r57)), (a_p1, .inr (1, [.ref a_p1_lists, .ref a_p1_days, .ref a_p1_contributors, .ref a_p1_points, .int v_p1_size])), (a_p1_lists, .inr (6, [.ref a_p1_lists_cells])), (a_p1_lists_cells, .inl (cI, n_p1_lists_cells, .inl g_p1_lists_cells)), (a_p1_days, .inr (6, [.ref a_p1_days_cells])), (a_p1_days_cells, .inl (cI, n_p1_days_cells, .inl g_p1_days_cells)), (a_p1_contributors, .inr (6, [.ref a_p1_contributors_cells])), (a_p1_contributors_cells, .inl (cI, n_p1_contributors_cells, .inl g_p1_contributors_cells)), (a_p1_points, .inr (6, [.ref a_p1_points_cells])), (a_p1_points_cells, .inl (cI, n_p1_points_cells, .inl g_p1_points_cells))]) rfl ?_
  cases h
  exact J_vret (pc := 68) C dX1_copyFrom_68 hr ⟨rfl, rfl⟩
-- PointsLedger$Row.copyAll(LPointsLedger$Row;)V
theorem dX6_copyAll_0 : decode cX6_copyAll 0 = .ok (.aload_n 0, 1) := by decide +kernel
theorem dX6_copyAll_1 : decode cX6_copyAll 1 = .ok (.aload_n 1, 1) := by decide +kernel
theorem dX6_copyAll_2 : decode cX6_copyAll 2 = .ok (.aload_n 0, 1) := by decide +kernel
theorem dX6_copyAll_3 : decode cX6_copyAll 3 = .ok (.getfield 7, 3) := by decide +kernel
theorem dX6_copyAll_6 : decode cX6_copyAll 6 = .ok (.arraylength, 1) := by decide +kernel
theorem dX6_copyAll_7 : decode cX6_copyAll 7 = .ok (.invokevirtual 19, 3) := by decide +kernel
theorem dX6_copyAll_10 : decode cX6_copyAll 10 = .ok (.return_, 1) := by decide +kernel
def f_X6_copyAll (n_this_cells : Nat) (n_p1_cells : Nat) (g_this_cells : Nat → Int32) (g_p1_cells : Nat → Int32) : Option ((Nat → Int32)) :=
  ((f_X6_copyFirst (nI n_this_cells) n_this_cells n_p1_cells g_this_cells g_p1_cells).bind fun r7 => (some r7))
set_option maxHeartbeats 4000000 in
set_option maxRecDepth 100000 in
theorem c_X6_copyAll (l : Launch) (D : va_G) (cI cB cL cO : ClassId) (pf : Nat → Nat) (N : Nat) (a_this a_p1 a_this_cells a_p1_cells : Nat) (n_this_cells : Nat) (n_p1_cells : Nat) (g_this_cells : Nat → Int32) (g_p1_cells : Nat → Int32) (o : (Nat → Int32)) (h : f_X6_copyAll n_this_cells n_p1_cells g_this_cells g_p1_cells = some o) : Ct l D [(cI, .int), (cB, .byte), (cL, .long), (cO, .object RX0)] pf yX6_copyAll cX6_copyAll 2 (none : Option FieldType) { frames := 2, cells := 0, slots := 0, locals := 83 } [.ref a_this, .ref a_p1] [(a_this, .inr (6, [.ref a_this_cells])), (a_this_cells, .inl (cI, n_this_cells, .inl g_this_cells)), (a_p1, .inr (6, [.ref a_p1_cells])), (a_p1_cells, .inl (cI, n_p1_cells, .inl g_p1_cells))] (is1 (none) [(a_this, .inr (6, [.ref a_this_cells])), (a_this_cells, .inl (cI, n_this_cells, .inl o)), (a_p1, .inr (6, [.ref a_p1_cells])), (a_p1_cells, .inl (cI, n_p1_cells, .inl g_p1_cells))]) := by
  refine Ct_of (own := RX6) (lv0 := [(0, .ref a_this), (1, .ref a_p1)]) (by decide) rfl rfl (Nat.le_of_ble_eq_true rfl) ?_
  intro p e s m args below meth c C hr hnm
  unfold f_X6_copyAll at h
  refine J_aload_n (pc := 0) C dX6_copyAll_0 0 rfl ?_
  refine J_aload_n (pc := 1) C dX6_copyAll_1 1 rfl ?_
  refine J_aload_n (pc := 2) C dX6_copyAll_2 0 rfl ?_
  refine J_get (pc := 3) C dX6_copyAll_3 jf_X6 0 rfl rfl 0 (by decide) rfl fl_RX6_7 rfl ?_
  refine J_alen (pc := 6) C dX6_copyAll_6 1 0 rfl rfl ?_
  refine J_cvw (pc := 7) (As := [.ref a_p1, .int (nI n_this_cells)]) (st := []) C (fun r7 => [(a_this, .inr (6, [.ref a_this_cells])), (a_this_cells, .inl (cI, n_this_cells, .inl r7)), (a_p1, .inr (6, [.ref a_p1_cells])), (a_p1_cells, .inl (cI, n_p1_cells, .inl g_p1_cells))]) dX6_copyAll_7 ml_RX6_19 mi_yX6_copyFirst (fun r7 hr => c_X6_copyFirst l D cI cB cL cO pf 0 a_this a_p1 a_this_cells a_p1_cells n_this_cells n_p1_cells g_this_cells g_p1_cells (nI n_this_cells) r7 hr) h [0, 1, 2, 3] rfl rfl rfl rfl rfl ⟨rfl, rfl⟩ ⟨(Nat.le_of_ble_eq_true rfl), (Nat.le_of_ble_eq_true rfl)⟩ ⟨Nat.zero_le _, Nat.zero_le _⟩ (Nat.le_of_ble_eq_true rfl) (fun _ => rfl) (fun _ => rfl) (fun r7 h => ?_)
  cases h
  exact J_vret (pc := 10) C dX6_copyAll_10 hr ⟨rfl, rfl⟩
-- PointsLedger$LogBook.copyFrom(LPointsLedger$LogBook;)V
theorem dX4_copyFrom_0 : decode cX4_copyFrom 0 = .ok (.aload_n 0, 1) := by decide +kernel
theorem dX4_copyFrom_1 : decode cX4_copyFrom 1 = .ok (.getfield 14, 3) := by decide +kernel
theorem dX4_copyFrom_4 : decode cX4_copyFrom 4 = .ok (.aload_n 1, 1) := by decide +kernel
theorem dX4_copyFrom_5 : decode cX4_copyFrom 5 = .ok (.getfield 14, 3) := by decide +kernel
theorem dX4_copyFrom_8 : decode cX4_copyFrom 8 = .ok (.invokevirtual 27, 3) := by decide +kernel
theorem dX4_copyFrom_11 : decode cX4_copyFrom 11 = .ok (.aload_n 0, 1) := by decide +kernel
theorem dX4_copyFrom_12 : decode cX4_copyFrom 12 = .ok (.aload_n 1, 1) := by decide +kernel
theorem dX4_copyFrom_13 : decode cX4_copyFrom 13 = .ok (.getfield 20, 3) := by decide +kernel
theorem dX4_copyFrom_16 : decode cX4_copyFrom 16 = .ok (.putfield 20, 3) := by decide +kernel
theorem dX4_copyFrom_19 : decode cX4_copyFrom 19 = .ok (.aload_n 0, 1) := by decide +kernel
theorem dX4_copyFrom_20 : decode cX4_copyFrom 20 = .ok (.aload_n 1, 1) := by decide +kernel
theorem dX4_copyFrom_21 : decode cX4_copyFrom 21 = .ok (.getfield 24, 3) := by decide +kernel
theorem dX4_copyFrom_24 : decode cX4_copyFrom 24 = .ok (.putfield 24, 3) := by decide +kernel
theorem dX4_copyFrom_27 : decode cX4_copyFrom 27 = .ok (.return_, 1) := by decide +kernel
def f_X4_copyFrom (n_this_parts_cells : Nat) (n_p1_parts_cells : Nat) (g_this_parts_cells : Nat → Int32) (v_p1_next : Int32) (v_p1_size : Int32) (g_p1_parts_cells : Nat → Int32) : Option (Int32 × Int32 × (Nat → Int32)) :=
  ((f_X6_copyAll n_this_parts_cells n_p1_parts_cells g_this_parts_cells g_p1_parts_cells).bind fun r8 => (some (v_p1_next, v_p1_size, r8)))
set_option maxHeartbeats 4000000 in
set_option maxRecDepth 100000 in
theorem c_X4_copyFrom (l : Launch) (D : va_G) (cI cB cL cO : ClassId) (pf : Nat → Nat) (N : Nat) (a_this a_p1 a_this_parts a_this_parts_cells a_p1_parts a_p1_parts_cells : Nat) (n_this_parts_cells : Nat) (n_p1_parts_cells : Nat) (v_this_next : Int32) (v_this_size : Int32) (g_this_parts_cells : Nat → Int32) (v_p1_next : Int32) (v_p1_size : Int32) (g_p1_parts_cells : Nat → Int32) (o : Int32 × Int32 × (Nat → Int32)) (h : f_X4_copyFrom n_this_parts_cells n_p1_parts_cells g_this_parts_cells v_p1_next v_p1_size g_p1_parts_cells = some o) : Ct l D [(cI, .int), (cB, .byte), (cL, .long), (cO, .object RX0)] pf yX4_copyFrom cX4_copyFrom 2 (none : Option FieldType) { frames := 3, cells := 0, slots := 0, locals := 104 } [.ref a_this, .ref a_p1] [(a_this, .inr (4, [.ref a_this_parts, .int v_this_next, .int v_this_size])), (a_this_parts, .inr (6, [.ref a_this_parts_cells])), (a_this_parts_cells, .inl (cI, n_this_parts_cells, .inl g_this_parts_cells)), (a_p1, .inr (4, [.ref a_p1_parts, .int v_p1_next, .int v_p1_size])), (a_p1_parts, .inr (6, [.ref a_p1_parts_cells])), (a_p1_parts_cells, .inl (cI, n_p1_parts_cells, .inl g_p1_parts_cells))] (is1 (none) [(a_this, .inr (4, [.ref a_this_parts, .int o.1, .int o.2.1])), (a_this_parts, .inr (6, [.ref a_this_parts_cells])), (a_this_parts_cells, .inl (cI, n_this_parts_cells, .inl o.2.2)), (a_p1, .inr (4, [.ref a_p1_parts, .int v_p1_next, .int v_p1_size])), (a_p1_parts, .inr (6, [.ref a_p1_parts_cells])), (a_p1_parts_cells, .inl (cI, n_p1_parts_cells, .inl g_p1_parts_cells))]) := by
  refine Ct_of (own := RX4) (lv0 := [(0, .ref a_this), (1, .ref a_p1)]) (by decide) rfl rfl (Nat.le_of_ble_eq_true rfl) ?_
  intro p e s m args below meth c C hr hnm
  unfold f_X4_copyFrom at h
  refine J_aload_n (pc := 0) C dX4_copyFrom_0 0 rfl ?_
  refine J_get (pc := 1) C dX4_copyFrom_1 jf_X4 0 rfl rfl 0 (by decide) rfl fl_RX4_14 rfl ?_
  refine J_aload_n (pc := 4) C dX4_copyFrom_4 1 rfl ?_
  refine J_get (pc := 5) C dX4_copyFrom_5 jf_X4 3 rfl rfl 0 (by decide) rfl fl_RX4_14 rfl ?_
  refine J_cvw (pc := 8) (As := [.ref a_p1_parts]) (st := []) C (fun r8 => [(a_this, .inr (4, [.ref a_this_parts, .int v_this_next, .int v_this_size])), (a_this_parts, .inr (6, [.ref a_this_parts_cells])), (a_this_parts_cells, .inl (cI, n_this_parts_cells, .inl r8)), (a_p1, .inr (4, [.ref a_p1_parts, .int v_p1_next, .int v_p1_size])), (a_p1_parts, .inr (6, [.ref a_p1_parts_cells])), (a_p1_parts_cells, .inl (cI, n_p1_parts_cells, .inl g_p1_parts_cells))]) dX4_copyFrom_8 ml_RX4_27 mi_yX6_copyAll (fun r8 hr => c_X6_copyAll l D cI cB cL cO pf 0 a_this_parts a_p1_parts a_this_parts_cells a_p1_parts_cells n_this_parts_cells n_p1_parts_cells g_this_parts_cells g_p1_parts_cells r8 hr) h [1, 2, 4, 5] rfl rfl rfl rfl rfl ⟨rfl, rfl⟩ ⟨(Nat.le_of_ble_eq_true rfl), (Nat.le_of_ble_eq_true rfl)⟩ ⟨Nat.zero_le _, Nat.zero_le _⟩ (Nat.le_of_ble_eq_true rfl) (fun _ => rfl) (fun _ => rfl) (fun r8 h => ?_)
  refine J_aload_n (pc := 11) C dX4_copyFrom_11 0 rfl ?_
  refine J_aload_n (pc := 12) C dX4_copyFrom_12 1 rfl ?_
  refine J_get (pc := 13) C dX4_copyFrom_13 jf_X4 3 rfl rfl 1 (by decide) rfl fl_RX4_20 rfl ?_
  refine J_put (tt := .int) (pc := 16) C dX4_copyFrom_16 jf_X4 0 rfl rfl 1 (by decide) rfl fl_RX4_20 rfl (by decide +kernel) rfl rfl (Nat.le_of_ble_eq_true rfl) ?_
  refine J_ws (ws2 := [(a_this, .inr (4, [.ref a_this_parts, .int v_p1_next, .int v_this_size])), (a_this_parts, .inr (6, [.ref a_this_parts_cells])), (a_this_parts_cells, .inl (cI, n_this_parts_cells, .inl r8)), (a_p1, .inr (4, [.ref a_p1_parts, .int v_p1_next, .int v_p1_size])), (a_p1_parts, .inr (6, [.ref a_p1_parts_cells])), (a_p1_parts_cells, .inl (cI, n_p1_parts_cells, .inl g_p1_parts_cells))]) rfl ?_
  refine J_aload_n (pc := 19) C dX4_copyFrom_19 0 rfl ?_
  refine J_aload_n (pc := 20) C dX4_copyFrom_20 1 rfl ?_
  refine J_get (pc := 21) C dX4_copyFrom_21 jf_X4 3 rfl rfl 2 (by decide) rfl fl_RX4_24 rfl ?_
  refine J_put (tt := .int) (pc := 24) C dX4_copyFrom_24 jf_X4 0 rfl rfl 2 (by decide) rfl fl_RX4_24 rfl (by decide +kernel) rfl rfl (Nat.le_of_ble_eq_true rfl) ?_
  refine J_ws (ws2 := [(a_this, .inr (4, [.ref a_this_parts, .int v_p1_next, .int v_p1_size])), (a_this_parts, .inr (6, [.ref a_this_parts_cells])), (a_this_parts_cells, .inl (cI, n_this_parts_cells, .inl r8)), (a_p1, .inr (4, [.ref a_p1_parts, .int v_p1_next, .int v_p1_size])), (a_p1_parts, .inr (6, [.ref a_p1_parts_cells])), (a_p1_parts_cells, .inl (cI, n_p1_parts_cells, .inl g_p1_parts_cells))]) rfl ?_
  cases h
  exact J_vret (pc := 27) C dX4_copyFrom_27 hr ⟨rfl, rfl⟩
-- PointsLedger$Purchases.copyFrom(LPointsLedger$Purchases;)V
theorem dX5_copyFrom_0 : decode cX5_copyFrom 0 = .ok (.aload_n 0, 1) := by decide +kernel
theorem dX5_copyFrom_1 : decode cX5_copyFrom 1 = .ok (.getfield 14, 3) := by decide +kernel
theorem dX5_copyFrom_4 : decode cX5_copyFrom 4 = .ok (.aload_n 1, 1) := by decide +kernel
theorem dX5_copyFrom_5 : decode cX5_copyFrom 5 = .ok (.getfield 14, 3) := by decide +kernel
theorem dX5_copyFrom_8 : decode cX5_copyFrom 8 = .ok (.aload_n 1, 1) := by decide +kernel
theorem dX5_copyFrom_9 : decode cX5_copyFrom 9 = .ok (.getfield 20, 3) := by decide +kernel
theorem dX5_copyFrom_12 : decode cX5_copyFrom 12 = .ok (.bipush 7, 2) := by decide +kernel
theorem dX5_copyFrom_14 : decode cX5_copyFrom 14 = .ok (.imul, 1) := by decide +kernel
theorem dX5_copyFrom_15 : decode cX5_copyFrom 15 = .ok (.invokevirtual 24, 3) := by decide +kernel
theorem dX5_copyFrom_18 : decode cX5_copyFrom 18 = .ok (.aload_n 0, 1) := by decide +kernel
theorem dX5_copyFrom_19 : decode cX5_copyFrom 19 = .ok (.aload_n 1, 1) := by decide +kernel
theorem dX5_copyFrom_20 : decode cX5_copyFrom 20 = .ok (.getfield 20, 3) := by decide +kernel
theorem dX5_copyFrom_23 : decode cX5_copyFrom 23 = .ok (.putfield 20, 3) := by decide +kernel
theorem dX5_copyFrom_26 : decode cX5_copyFrom 26 = .ok (.return_, 1) := by decide +kernel
def f_X5_copyFrom (n_this_parts_cells : Nat) (n_p1_parts_cells : Nat) (g_this_parts_cells : Nat → Int32) (v_p1_count : Int32) (g_p1_parts_cells : Nat → Int32) : Option (Int32 × (Nat → Int32)) :=
  ((f_X6_copyFirst (v_p1_count * (7 : Int32)) n_this_parts_cells n_p1_parts_cells g_this_parts_cells g_p1_parts_cells).bind fun r15 => (some (v_p1_count, r15)))
set_option maxHeartbeats 4000000 in
set_option maxRecDepth 100000 in
theorem c_X5_copyFrom (l : Launch) (D : va_G) (cI cB cL cO : ClassId) (pf : Nat → Nat) (N : Nat) (a_this a_p1 a_this_parts a_this_parts_cells a_p1_parts a_p1_parts_cells : Nat) (n_this_parts_cells : Nat) (n_p1_parts_cells : Nat) (v_this_count : Int32) (g_this_parts_cells : Nat → Int32) (v_p1_count : Int32) (g_p1_parts_cells : Nat → Int32) (o : Int32 × (Nat → Int32)) (h : f_X5_copyFrom n_this_parts_cells n_p1_parts_cells g_this_parts_cells v_p1_count g_p1_parts_cells = some o) : Ct l D [(cI, .int), (cB, .byte), (cL, .long), (cO, .object RX0)] pf yX5_copyFrom cX5_copyFrom 2 (none : Option FieldType) { frames := 2, cells := 0, slots := 0, locals := 83 } [.ref a_this, .ref a_p1] [(a_this, .inr (5, [.ref a_this_parts, .int v_this_count])), (a_this_parts, .inr (6, [.ref a_this_parts_cells])), (a_this_parts_cells, .inl (cI, n_this_parts_cells, .inl g_this_parts_cells)), (a_p1, .inr (5, [.ref a_p1_parts, .int v_p1_count])), (a_p1_parts, .inr (6, [.ref a_p1_parts_cells])), (a_p1_parts_cells, .inl (cI, n_p1_parts_cells, .inl g_p1_parts_cells))] (is1 (none) [(a_this, .inr (5, [.ref a_this_parts, .int o.1])), (a_this_parts, .inr (6, [.ref a_this_parts_cells])), (a_this_parts_cells, .inl (cI, n_this_parts_cells, .inl o.2)), (a_p1, .inr (5, [.ref a_p1_parts, .int v_p1_count])), (a_p1_parts, .inr (6, [.ref a_p1_parts_cells])), (a_p1_parts_cells, .inl (cI, n_p1_parts_cells, .inl g_p1_parts_cells))]) := by
  refine Ct_of (own := RX5) (lv0 := [(0, .ref a_this), (1, .ref a_p1)]) (by decide) rfl rfl (Nat.le_of_ble_eq_true rfl) ?_
  intro p e s m args below meth c C hr hnm
  unfold f_X5_copyFrom at h
  refine J_aload_n (pc := 0) C dX5_copyFrom_0 0 rfl ?_
  refine J_get (pc := 1) C dX5_copyFrom_1 jf_X5 0 rfl rfl 0 (by decide) rfl fl_RX5_14 rfl ?_
  refine J_aload_n (pc := 4) C dX5_copyFrom_4 1 rfl ?_
  refine J_get (pc := 5) C dX5_copyFrom_5 jf_X5 3 rfl rfl 0 (by decide) rfl fl_RX5_14 rfl ?_
  refine J_aload_n (pc := 8) C dX5_copyFrom_8 1 rfl ?_
  refine J_get (pc := 9) C dX5_copyFrom_9 jf_X5 3 rfl rfl 1 (by decide) rfl fl_RX5_20 rfl ?_
  refine J_bipush (v := (7 : Int32)) (pc := 12) C dX5_copyFrom_12 (by decide) ?_
  refine J_imul (pc := 14) C dX5_copyFrom_14 ?_
  refine J_cvw (pc := 15) (As := [.ref a_p1_parts, .int (v_p1_count * (7 : Int32))]) (st := []) C (fun r15 => [(a_this, .inr (5, [.ref a_this_parts, .int v_this_count])), (a_this_parts, .inr (6, [.ref a_this_parts_cells])), (a_this_parts_cells, .inl (cI, n_this_parts_cells, .inl r15)), (a_p1, .inr (5, [.ref a_p1_parts, .int v_p1_count])), (a_p1_parts, .inr (6, [.ref a_p1_parts_cells])), (a_p1_parts_cells, .inl (cI, n_p1_parts_cells, .inl g_p1_parts_cells))]) dX5_copyFrom_15 ml_RX5_24 mi_yX6_copyFirst (fun r15 hr => c_X6_copyFirst l D cI cB cL cO pf 0 a_this_parts a_p1_parts a_this_parts_cells a_p1_parts_cells n_this_parts_cells n_p1_parts_cells g_this_parts_cells g_p1_parts_cells (v_p1_count * (7 : Int32)) r15 hr) h [1, 2, 4, 5] rfl rfl rfl rfl rfl ⟨rfl, rfl⟩ ⟨(Nat.le_of_ble_eq_true rfl), (Nat.le_of_ble_eq_true rfl)⟩ ⟨Nat.zero_le _, Nat.zero_le _⟩ (Nat.le_of_ble_eq_true rfl) (fun _ => rfl) (fun _ => rfl) (fun r15 h => ?_)
  refine J_aload_n (pc := 18) C dX5_copyFrom_18 0 rfl ?_
  refine J_aload_n (pc := 19) C dX5_copyFrom_19 1 rfl ?_
  refine J_get (pc := 20) C dX5_copyFrom_20 jf_X5 3 rfl rfl 1 (by decide) rfl fl_RX5_20 rfl ?_
  refine J_put (tt := .int) (pc := 23) C dX5_copyFrom_23 jf_X5 0 rfl rfl 1 (by decide) rfl fl_RX5_20 rfl (by decide +kernel) rfl rfl (Nat.le_of_ble_eq_true rfl) ?_
  refine J_ws (ws2 := [(a_this, .inr (5, [.ref a_this_parts, .int v_p1_count])), (a_this_parts, .inr (6, [.ref a_this_parts_cells])), (a_this_parts_cells, .inl (cI, n_this_parts_cells, .inl r15)), (a_p1, .inr (5, [.ref a_p1_parts, .int v_p1_count])), (a_p1_parts, .inr (6, [.ref a_p1_parts_cells])), (a_p1_parts_cells, .inl (cI, n_p1_parts_cells, .inl g_p1_parts_cells))]) rfl ?_
  cases h
  exact J_vret (pc := 26) C dX5_copyFrom_26 hr ⟨rfl, rfl⟩
-- PointsLedger$Cohorts.isIn(II)Z
theorem dX1_isIn_0 : decode cX1_isIn 0 = .ok (.iload_n 2, 1) := by decide +kernel
theorem dX1_isIn_1 : decode cX1_isIn 1 = .ok (.bipush (-2), 2) := by decide +kernel
theorem dX1_isIn_3 : decode cX1_isIn 3 = .ok (.if_icmp .eq 15, 3) := by decide +kernel
theorem dX1_isIn_6 : decode cX1_isIn 6 = .ok (.aload_n 0, 1) := by decide +kernel
theorem dX1_isIn_7 : decode cX1_isIn 7 = .ok (.getfield 14, 3) := by decide +kernel
theorem dX1_isIn_10 : decode cX1_isIn 10 = .ok (.iload_n 1, 1) := by decide +kernel
theorem dX1_isIn_11 : decode cX1_isIn 11 = .ok (.invokevirtual 37, 3) := by decide +kernel
theorem dX1_isIn_14 : decode cX1_isIn 14 = .ok (.iload_n 2, 1) := by decide +kernel
theorem dX1_isIn_15 : decode cX1_isIn 15 = .ok (.if_icmp .ne 7, 3) := by decide +kernel
theorem dX1_isIn_18 : decode cX1_isIn 18 = .ok (.iconst 1, 1) := by decide +kernel
theorem dX1_isIn_19 : decode cX1_isIn 19 = .ok (.goto 4, 3) := by decide +kernel
theorem dX1_isIn_22 : decode cX1_isIn 22 = .ok (.iconst 0, 1) := by decide +kernel
theorem dX1_isIn_23 : decode cX1_isIn 23 = .ok (.ireturn, 1) := by decide +kernel
def f_X1_isIn (x1 : Int32) (x2 : Int32) (n_this_lists_cells : Nat) (g_this_lists_cells : Nat → Int32) : Option (Int32) :=
  (if x2 = (-2 : Int32) then (some (1 : Int32)) else ((f_X6_at x1 n_this_lists_cells g_this_lists_cells).bind fun r11 => (if r11 = x2 then (some (1 : Int32)) else (some (0 : Int32)))))
set_option maxHeartbeats 4000000 in
set_option maxRecDepth 100000 in
theorem c_X1_isIn (l : Launch) (D : va_G) (cI cB cL cO : ClassId) (pf : Nat → Nat) (N : Nat) (a_this a_this_lists a_this_days a_this_contributors a_this_points a_this_lists_cells : Nat) (n_this_lists_cells : Nat) (v_this_size : Int32) (g_this_lists_cells : Nat → Int32) (x1 : Int32) (x2 : Int32) (o : Int32) (h : f_X1_isIn x1 x2 n_this_lists_cells g_this_lists_cells = some o) : Ct l D [(cI, .int), (cB, .byte), (cL, .long), (cO, .object RX0)] pf yX1_isIn cX1_isIn 3 (some FieldType.boolean) { frames := 1, cells := 0, slots := 0, locals := 21 } [.ref a_this, .int x1, .int x2] [(a_this, .inr (1, [.ref a_this_lists, .ref a_this_days, .ref a_this_contributors, .ref a_this_points, .int v_this_size])), (a_this_lists, .inr (6, [.ref a_this_lists_cells])), (a_this_lists_cells, .inl (cI, n_this_lists_cells, .inl g_this_lists_cells))] (is1 (some (.int o)) [(a_this, .inr (1, [.ref a_this_lists, .ref a_this_days, .ref a_this_contributors, .ref a_this_points, .int v_this_size])), (a_this_lists, .inr (6, [.ref a_this_lists_cells])), (a_this_lists_cells, .inl (cI, n_this_lists_cells, .inl g_this_lists_cells))]) := by
  refine Ct_of (own := RX1) (lv0 := [(0, .ref a_this), (1, .int x1), (2, .int x2)]) (by decide) rfl rfl (Nat.le_of_ble_eq_true rfl) ?_
  intro p e s m args below meth c C hr hnm
  unfold f_X1_isIn at h
  refine J_iload_n (pc := 0) C dX1_isIn_0 2 rfl ?_
  refine J_bipush (v := (-2 : Int32)) (pc := 1) C dX1_isIn_1 (by decide) ?_
  refine J_ic_eq (pc := 3) (tgt := 18) C dX1_isIn_3 (by decide) h (fun h => ?_) (fun h => ?_)
  · refine J_iconst (v := (1 : Int32)) (pc := 18) C dX1_isIn_18 (by decide) ?_
    refine J_goto (tgt := 23) (pc := 19) C dX1_isIn_19 (by decide) ?_
    cases h
    exact J_zret (pc := 23) C dX1_isIn_23 hr rfl ⟨rfl, rfl⟩
  · refine J_aload_n (pc := 6) C dX1_isIn_6 0 rfl ?_
    refine J_get (pc := 7) C dX1_isIn_7 jf_X1 0 rfl rfl 0 (by decide) rfl fl_RX1_14 rfl ?_
    refine J_iload_n (pc := 10) C dX1_isIn_10 1 rfl ?_
    refine J_cvr (pc := 11) (As := [.int x1]) (st := []) C dX1_isIn_11 ml_RX1_37 mi_yX6_at (fun r11 hr => c_X6_at l D cI cB cL cO pf 0 a_this_lists a_this_lists_cells n_this_lists_cells g_this_lists_cells x1 r11 hr) h [1, 2] rfl rfl rfl rfl rfl ⟨rfl, rfl⟩ ⟨(Nat.le_of_ble_eq_true rfl), (Nat.le_of_ble_eq_true rfl)⟩ ⟨Nat.zero_le _, Nat.zero_le _⟩ (Nat.le_of_ble_eq_true rfl) (fun r11 h => ?_)
    refine J_iload_n (pc := 14) C dX1_isIn_14 2 rfl ?_
    refine J_ic_ne (pc := 15) (tgt := 22) C dX1_isIn_15 (by decide) h (fun h => ?_) (fun h => ?_)
    · refine J_iconst (v := (0 : Int32)) (pc := 22) C dX1_isIn_22 (by decide) ?_
      cases h
      exact J_zret (pc := 23) C dX1_isIn_23 hr rfl ⟨rfl, rfl⟩
    · refine J_iconst (v := (1 : Int32)) (pc := 18) C dX1_isIn_18 (by decide) ?_
      refine J_goto (tgt := 23) (pc := 19) C dX1_isIn_19 (by decide) ?_
      cases h
      exact J_zret (pc := 23) C dX1_isIn_23 hr rfl ⟨rfl, rfl⟩
-- PointsLedger$Cohorts.sum(II)I
theorem dX1_sum_0 : decode cX1_sum 0 = .ok (.iconst 0, 1) := by decide +kernel
theorem dX1_sum_1 : decode cX1_sum 1 = .ok (.istore_n 3, 1) := by decide +kernel
theorem dX1_sum_2 : decode cX1_sum 2 = .ok (.iconst 0, 1) := by decide +kernel
theorem dX1_sum_3 : decode cX1_sum 3 = .ok (.istore 4, 2) := by decide +kernel
theorem dX1_sum_5 : decode cX1_sum 5 = .ok (.iload 4, 2) := by decide +kernel
theorem dX1_sum_7 : decode cX1_sum 7 = .ok (.aload_n 0, 1) := by decide +kernel
theorem dX1_sum_8 : decode cX1_sum 8 = .ok (.getfield 29, 3) := by decide +kernel
theorem dX1_sum_11 : decode cX1_sum 11 = .ok (.if_icmp .ge 50, 3) := by decide +kernel
theorem dX1_sum_14 : decode cX1_sum 14 = .ok (.aload_n 0, 1) := by decide +kernel
theorem dX1_sum_15 : decode cX1_sum 15 = .ok (.iload 4, 2) := by decide +kernel
theorem dX1_sum_17 : decode cX1_sum 17 = .ok (.iload_n 1, 1) := by decide +kernel
theorem dX1_sum_18 : decode cX1_sum 18 = .ok (.invokevirtual 41, 3) := by decide +kernel
theorem dX1_sum_21 : decode cX1_sum 21 = .ok (.ifCond .eq 34, 3) := by decide +kernel
theorem dX1_sum_24 : decode cX1_sum 24 = .ok (.iload_n 2, 1) := by decide +kernel
theorem dX1_sum_25 : decode cX1_sum 25 = .ok (.bipush (-2), 2) := by decide +kernel
theorem dX1_sum_27 : decode cX1_sum 27 = .ok (.if_icmp .eq 16, 3) := by decide +kernel
theorem dX1_sum_30 : decode cX1_sum 30 = .ok (.aload_n 0, 1) := by decide +kernel
theorem dX1_sum_31 : decode cX1_sum 31 = .ok (.getfield 23, 3) := by decide +kernel
theorem dX1_sum_34 : decode cX1_sum 34 = .ok (.iload 4, 2) := by decide +kernel
theorem dX1_sum_36 : decode cX1_sum 36 = .ok (.invokevirtual 37, 3) := by decide +kernel
theorem dX1_sum_39 : decode cX1_sum 39 = .ok (.iload_n 2, 1) := by decide +kernel
theorem dX1_sum_40 : decode cX1_sum 40 = .ok (.if_icmp .ne 15, 3) := by decide +kernel
theorem dX1_sum_43 : decode cX1_sum 43 = .ok (.iload_n 3, 1) := by decide +kernel
theorem dX1_sum_44 : decode cX1_sum 44 = .ok (.aload_n 0, 1) := by decide +kernel
theorem dX1_sum_45 : decode cX1_sum 45 = .ok (.getfield 26, 3) := by decide +kernel
theorem dX1_sum_48 : decode cX1_sum 48 = .ok (.iload 4, 2) := by decide +kernel
theorem dX1_sum_50 : decode cX1_sum 50 = .ok (.invokevirtual 37, 3) := by decide +kernel
theorem dX1_sum_53 : decode cX1_sum 53 = .ok (.iadd, 1) := by decide +kernel
theorem dX1_sum_54 : decode cX1_sum 54 = .ok (.istore_n 3, 1) := by decide +kernel
theorem dX1_sum_55 : decode cX1_sum 55 = .ok (.iinc 4 1, 3) := by decide +kernel
theorem dX1_sum_58 : decode cX1_sum 58 = .ok (.goto (-53), 3) := by decide +kernel
theorem dX1_sum_61 : decode cX1_sum 61 = .ok (.iload_n 3, 1) := by decide +kernel
theorem dX1_sum_62 : decode cX1_sum 62 = .ok (.ireturn, 1) := by decide +kernel
def f_X1_sum_b43 (k_5 : (Int32) → (Int32) → Option (Int32)) (x3 : Int32) (x4 : Int32) (n_this_points_cells : Nat) (g_this_points_cells : Nat → Int32) : Option (Int32) :=
  ((f_X6_at x4 n_this_points_cells g_this_points_cells).bind fun r50 => ((some (x3 + r50)).bind fun y54 => ((some (x4 + (1 : Int32))).bind fun y55 => (k_5 y54 y55))))
def f_X1_sum_b5 (x1 : Int32) (x2 : Int32) (n_this_lists_cells : Nat) (n_this_contributors_cells : Nat) (n_this_points_cells : Nat) (v_this_size : Int32) (g_this_lists_cells : Nat → Int32) (g_this_contributors_cells : Nat → Int32) (g_this_points_cells : Nat → Int32) : Nat → (Int32) → (Int32) → Option (Int32)
  | 0, _, _ => none
  | n + 1, x3, x4 => (if v_this_size ≤ x4 then (some x3) else ((f_X1_isIn x4 x1 n_this_lists_cells g_this_lists_cells).bind fun r18 => (if r18 = 0 then ((some (x4 + (1 : Int32))).bind fun y55 => (f_X1_sum_b5 x1 x2 n_this_lists_cells n_this_contributors_cells n_this_points_cells v_this_size g_this_lists_cells g_this_contributors_cells g_this_points_cells n x3 y55)) else (if x2 = (-2 : Int32) then (f_X1_sum_b43 (f_X1_sum_b5 x1 x2 n_this_lists_cells n_this_contributors_cells n_this_points_cells v_this_size g_this_lists_cells g_this_contributors_cells g_this_points_cells n) x3 x4 n_this_points_cells g_this_points_cells) else ((f_X6_at x4 n_this_contributors_cells g_this_contributors_cells).bind fun r36 => (if r36 = x2 then (f_X1_sum_b43 (f_X1_sum_b5 x1 x2 n_this_lists_cells n_this_contributors_cells n_this_points_cells v_this_size g_this_lists_cells g_this_contributors_cells g_this_points_cells n) x3 x4 n_this_points_cells g_this_points_cells) else ((some (x4 + (1 : Int32))).bind fun y55 => (f_X1_sum_b5 x1 x2 n_this_lists_cells n_this_contributors_cells n_this_points_cells v_this_size g_this_lists_cells g_this_contributors_cells g_this_points_cells n x3 y55))))))))
def f_X1_sum (N : Nat) (x1 : Int32) (x2 : Int32) (n_this_lists_cells : Nat) (n_this_contributors_cells : Nat) (n_this_points_cells : Nat) (v_this_size : Int32) (g_this_lists_cells : Nat → Int32) (g_this_contributors_cells : Nat → Int32) (g_this_points_cells : Nat → Int32) : Option (Int32) :=
  (f_X1_sum_b5 x1 x2 n_this_lists_cells n_this_contributors_cells n_this_points_cells v_this_size g_this_lists_cells g_this_contributors_cells g_this_points_cells N (0 : Int32) (0 : Int32))
set_option maxHeartbeats 4000000 in
set_option maxRecDepth 100000 in
theorem t_X1_sum_b43 {l : Launch} {D : va_G} {cI cB cL cO : ClassId} {pf : Nat → Nat} {p : Program} {e : Env} {s : State} {m : MethodId} {args : Array Value} {below : List Frame} {meth : Method} {c : Code} {W0 : va_W} {a_this a_this_lists a_this_days a_this_contributors a_this_points a_this_lists_cells a_this_contributors_cells a_this_points_cells : Nat}  {n_this_lists_cells : Nat} {n_this_contributors_cells : Nat} {n_this_points_cells : Nat} {v_this_size : Int32} {g_this_lists_cells : Nat → Int32} {g_this_contributors_cells : Nat → Int32} {g_this_points_cells : Nat → Int32} {x1 : Int32} {x2 : Int32} {x3 : Int32} {x4 : Int32} {o : Int32} (C : jC p s m args meth c cX1_sum 5 RX1 D [(cI, .int), (cB, .byte), (cL, .long), (cO, .object RX0)] pf (va_A W0 s.heap.size)) (hr : meth.sig.returnType = (some FieldType.int)) {k_5 : (Int32) → (Int32) → Option (Int32)} (hk_5 : ∀ (x3 : Int32) (x4 : Int32), k_5 x3 x4 = some o → J p l e { frames := 2, cells := 0, slots := 0, locals := 43 } s m args below meth c 5 D (va_A W0 s.heap.size) (MQ below (jQ D [(cI, .int), (cB, .byte), (cL, .long), (cO, .object RX0)] W0 s.heap.size (is1 (some (.int o)) [(a_this, .inr (1, [.ref a_this_lists, .ref a_this_days, .ref a_this_contributors, .ref a_this_points, .int v_this_size])), (a_this_lists, .inr (6, [.ref a_this_lists_cells])), (a_this_lists_cells, .inl (cI, n_this_lists_cells, .inl g_this_lists_cells)), (a_this_contributors, .inr (6, [.ref a_this_contributors_cells])), (a_this_contributors_cells, .inl (cI, n_this_contributors_cells, .inl g_this_contributors_cells)), (a_this_points, .inr (6, [.ref a_this_points_cells])), (a_this_points_cells, .inl (cI, n_this_points_cells, .inl g_this_points_cells))])) args s 0 0 (va_A W0 s.heap.size)) 0 0 5 [(0, .ref a_this), (1, .int x1), (2, .int x2), (3, .int x3), (4, .int x4)] [] [(a_this, .inr (1, [.ref a_this_lists, .ref a_this_days, .ref a_this_contributors, .ref a_this_points, .int v_this_size])), (a_this_lists, .inr (6, [.ref a_this_lists_cells])), (a_this_lists_cells, .inl (cI, n_this_lists_cells, .inl g_this_lists_cells)), (a_this_contributors, .inr (6, [.ref a_this_contributors_cells])), (a_this_contributors_cells, .inl (cI, n_this_contributors_cells, .inl g_this_contributors_cells)), (a_this_points, .inr (6, [.ref a_this_points_cells])), (a_this_points_cells, .inl (cI, n_this_points_cells, .inl g_this_points_cells))]) (h : f_X1_sum_b43 k_5 x3 x4 n_this_points_cells g_this_points_cells = some o) : J p l e { frames := 2, cells := 0, slots := 0, locals := 43 } s m args below meth c 5 D (va_A W0 s.heap.size) (MQ below (jQ D [(cI, .int), (cB, .byte), (cL, .long), (cO, .object RX0)] W0 s.heap.size (is1 (some (.int o)) [(a_this, .inr (1, [.ref a_this_lists, .ref a_this_days, .ref a_this_contributors, .ref a_this_points, .int v_this_size])), (a_this_lists, .inr (6, [.ref a_this_lists_cells])), (a_this_lists_cells, .inl (cI, n_this_lists_cells, .inl g_this_lists_cells)), (a_this_contributors, .inr (6, [.ref a_this_contributors_cells])), (a_this_contributors_cells, .inl (cI, n_this_contributors_cells, .inl g_this_contributors_cells)), (a_this_points, .inr (6, [.ref a_this_points_cells])), (a_this_points_cells, .inl (cI, n_this_points_cells, .inl g_this_points_cells))])) args s 0 0 (va_A W0 s.heap.size)) 0 0 43 [(0, .ref a_this), (1, .int x1), (2, .int x2), (3, .int x3), (4, .int x4)] [] [(a_this, .inr (1, [.ref a_this_lists, .ref a_this_days, .ref a_this_contributors, .ref a_this_points, .int v_this_size])), (a_this_lists, .inr (6, [.ref a_this_lists_cells])), (a_this_lists_cells, .inl (cI, n_this_lists_cells, .inl g_this_lists_cells)), (a_this_contributors, .inr (6, [.ref a_this_contributors_cells])), (a_this_contributors_cells, .inl (cI, n_this_contributors_cells, .inl g_this_contributors_cells)), (a_this_points, .inr (6, [.ref a_this_points_cells])), (a_this_points_cells, .inl (cI, n_this_points_cells, .inl g_this_points_cells))] := by
  unfold f_X1_sum_b43 at h
  refine J_iload_n (pc := 43) C dX1_sum_43 3 rfl ?_
  refine J_aload_n (pc := 44) C dX1_sum_44 0 rfl ?_
  refine J_get (pc := 45) C dX1_sum_45 jf_X1 0 rfl rfl 3 (by decide) rfl fl_RX1_26 rfl ?_
  refine J_iload (pc := 48) C dX1_sum_48 4 rfl ?_
  refine J_cvr (pc := 50) (As := [.int x4]) (st := [.int x3]) C dX1_sum_50 ml_RX1_37 mi_yX6_at (fun r50 hr => c_X6_at l D cI cB cL cO pf 0 a_this_points a_this_points_cells n_this_points_cells g_this_points_cells x4 r50 hr) h [5, 6] rfl rfl rfl rfl rfl ⟨rfl, rfl⟩ ⟨(Nat.le_of_ble_eq_true rfl), (Nat.le_of_ble_eq_true rfl)⟩ ⟨Nat.zero_le _, Nat.zero_le _⟩ (Nat.le_of_ble_eq_true rfl) (fun r50 h => ?_)
  refine J_iadd (pc := 53) C dX1_sum_53 ?_
  refine J_istore_nN (pc := 54) C (fun y54 => [(3, .int y54), (0, .ref a_this), (1, .int x1), (2, .int x2), (4, .int x4)]) dX1_sum_54 h (by decide) (fun _ => rfl) (fun y54 h => ?_)
  refine J_iincN (pc := 55) (v := (1 : Int32)) C (fun y55 => [(4, .int y55), (3, .int y54), (0, .ref a_this), (1, .int x1), (2, .int x2)]) dX1_sum_55 4 rfl (by decide) h (by decide) (fun _ => rfl) (fun y55 h => ?_)
  refine J_goto (tgt := 5) (pc := 58) C dX1_sum_58 (by decide) ?_
  refine J_sub (lv2 := [(0, .ref a_this), (1, .int x1), (2, .int x2), (3, .int y54), (4, .int y55)]) [2, 3, 4, 1, 0] rfl ?_
  exact hk_5 _ _ h
set_option maxHeartbeats 4000000 in
set_option maxRecDepth 100000 in
theorem t_X1_sum_b5 {l : Launch} {D : va_G} {cI cB cL cO : ClassId} {pf : Nat → Nat} {p : Program} {e : Env} {s : State} {m : MethodId} {args : Array Value} {below : List Frame} {meth : Method} {c : Code} {W0 : va_W} {a_this a_this_lists a_this_days a_this_contributors a_this_points a_this_lists_cells a_this_contributors_cells a_this_points_cells : Nat}  {n_this_lists_cells : Nat} {n_this_contributors_cells : Nat} {n_this_points_cells : Nat} {v_this_size : Int32} {g_this_lists_cells : Nat → Int32} {g_this_contributors_cells : Nat → Int32} {g_this_points_cells : Nat → Int32} {x1 : Int32} {x2 : Int32} {o : Int32} (C : jC p s m args meth c cX1_sum 5 RX1 D [(cI, .int), (cB, .byte), (cL, .long), (cO, .object RX0)] pf (va_A W0 s.heap.size)) (hr : meth.sig.returnType = (some FieldType.int)) : ∀ (n : Nat) (x3 : Int32) (x4 : Int32), f_X1_sum_b5 x1 x2 n_this_lists_cells n_this_contributors_cells n_this_points_cells v_this_size g_this_lists_cells g_this_contributors_cells g_this_points_cells n x3 x4 = some o → J p l e { frames := 2, cells := 0, slots := 0, locals := 43 } s m args below meth c 5 D (va_A W0 s.heap.size) (MQ below (jQ D [(cI, .int), (cB, .byte), (cL, .long), (cO, .object RX0)] W0 s.heap.size (is1 (some (.int o)) [(a_this, .inr (1, [.ref a_this_lists, .ref a_this_days, .ref a_this_contributors, .ref a_this_points, .int v_this_size])), (a_this_lists, .inr (6, [.ref a_this_lists_cells])), (a_this_lists_cells, .inl (cI, n_this_lists_cells, .inl g_this_lists_cells)), (a_this_contributors, .inr (6, [.ref a_this_contributors_cells])), (a_this_contributors_cells, .inl (cI, n_this_contributors_cells, .inl g_this_contributors_cells)), (a_this_points, .inr (6, [.ref a_this_points_cells])), (a_this_points_cells, .inl (cI, n_this_points_cells, .inl g_this_points_cells))])) args s 0 0 (va_A W0 s.heap.size)) 0 0 5 [(0, .ref a_this), (1, .int x1), (2, .int x2), (3, .int x3), (4, .int x4)] [] [(a_this, .inr (1, [.ref a_this_lists, .ref a_this_days, .ref a_this_contributors, .ref a_this_points, .int v_this_size])), (a_this_lists, .inr (6, [.ref a_this_lists_cells])), (a_this_lists_cells, .inl (cI, n_this_lists_cells, .inl g_this_lists_cells)), (a_this_contributors, .inr (6, [.ref a_this_contributors_cells])), (a_this_contributors_cells, .inl (cI, n_this_contributors_cells, .inl g_this_contributors_cells)), (a_this_points, .inr (6, [.ref a_this_points_cells])), (a_this_points_cells, .inl (cI, n_this_points_cells, .inl g_this_points_cells))] := by
  intro n
  induction n with
  | zero =>
    intro _ _ h
    rw [f_X1_sum_b5] at h
    cases h
  | succ n ih =>
    intro x3 x4 h
    rw [f_X1_sum_b5] at h
    refine J_iload (pc := 5) C dX1_sum_5 4 rfl ?_
    refine J_aload_n (pc := 7) C dX1_sum_7 0 rfl ?_
    refine J_get (pc := 8) C dX1_sum_8 jf_X1 0 rfl rfl 4 (by decide) rfl fl_RX1_29 rfl ?_
    refine J_ic_ge (pc := 11) (tgt := 61) C dX1_sum_11 (by decide) h (fun h => ?_) (fun h => ?_)
    · refine J_iload_n (pc := 61) C dX1_sum_61 3 rfl ?_
      cases h
      exact J_iret (pc := 62) C dX1_sum_62 hr ⟨rfl, rfl⟩
    · refine J_aload_n (pc := 14) C dX1_sum_14 0 rfl ?_
      refine J_iload (pc := 15) C dX1_sum_15 4 rfl ?_
      refine J_iload_n (pc := 17) C dX1_sum_17 1 rfl ?_
      refine J_cvr (pc := 18) (As := [.int x4, .int x1]) (st := []) C dX1_sum_18 ml_RX1_41 mi_yX1_isIn (fun r18 hr => c_X1_isIn l D cI cB cL cO pf 0 a_this a_this_lists a_this_days a_this_contributors a_this_points a_this_lists_cells n_this_lists_cells v_this_size g_this_lists_cells x4 x1 r18 hr) h [0, 1, 2] rfl rfl rfl rfl rfl ⟨rfl, rfl⟩ ⟨(Nat.le_of_ble_eq_true rfl), (Nat.le_of_ble_eq_true rfl)⟩ ⟨Nat.zero_le _, Nat.zero_le _⟩ (Nat.le_of_ble_eq_true rfl) (fun r18 h => ?_)
      refine J_if_eq (pc := 21) (tgt := 55) C dX1_sum_21 (by decide) h (fun h => ?_) (fun h => ?_)
      · refine J_iincN (pc := 55) (v := (1 : Int32)) C (fun y55 => [(4, .int y55), (0, .ref a_this), (1, .int x1), (2, .int x2), (3, .int x3)]) dX1_sum_55 4 rfl (by decide) h (by decide) (fun _ => rfl) (fun y55 h => ?_)
        refine J_goto (tgt := 5) (pc := 58) C dX1_sum_58 (by decide) ?_
        refine J_sub (lv2 := [(0, .ref a_this), (1, .int x1), (2, .int x2), (3, .int x3), (4, .int y55)]) [1, 2, 3, 4, 0] rfl ?_
        exact ih _ _ h
      · refine J_iload_n (pc := 24) C dX1_sum_24 2 rfl ?_
        refine J_bipush (v := (-2 : Int32)) (pc := 25) C dX1_sum_25 (by decide) ?_
        refine J_ic_eq (pc := 27) (tgt := 43) C dX1_sum_27 (by decide) h (fun h => ?_) (fun h => ?_)
        · exact t_X1_sum_b43 C hr ih h
        · refine J_aload_n (pc := 30) C dX1_sum_30 0 rfl ?_
          refine J_get (pc := 31) C dX1_sum_31 jf_X1 0 rfl rfl 2 (by decide) rfl fl_RX1_23 rfl ?_
          refine J_iload (pc := 34) C dX1_sum_34 4 rfl ?_
          refine J_cvr (pc := 36) (As := [.int x4]) (st := []) C dX1_sum_36 ml_RX1_37 mi_yX6_at (fun r36 hr => c_X6_at l D cI cB cL cO pf 0 a_this_contributors a_this_contributors_cells n_this_contributors_cells g_this_contributors_cells x4 r36 hr) h [3, 4] rfl rfl rfl rfl rfl ⟨rfl, rfl⟩ ⟨(Nat.le_of_ble_eq_true rfl), (Nat.le_of_ble_eq_true rfl)⟩ ⟨Nat.zero_le _, Nat.zero_le _⟩ (Nat.le_of_ble_eq_true rfl) (fun r36 h => ?_)
          refine J_iload_n (pc := 39) C dX1_sum_39 2 rfl ?_
          refine J_ic_ne (pc := 40) (tgt := 55) C dX1_sum_40 (by decide) h (fun h => ?_) (fun h => ?_)
          · refine J_iincN (pc := 55) (v := (1 : Int32)) C (fun y55 => [(4, .int y55), (0, .ref a_this), (1, .int x1), (2, .int x2), (3, .int x3)]) dX1_sum_55 4 rfl (by decide) h (by decide) (fun _ => rfl) (fun y55 h => ?_)
            refine J_goto (tgt := 5) (pc := 58) C dX1_sum_58 (by decide) ?_
            refine J_sub (lv2 := [(0, .ref a_this), (1, .int x1), (2, .int x2), (3, .int x3), (4, .int y55)]) [1, 2, 3, 4, 0] rfl ?_
            exact ih _ _ h
          · exact t_X1_sum_b43 C hr ih h
set_option maxHeartbeats 4000000 in
set_option maxRecDepth 100000 in
theorem c_X1_sum (l : Launch) (D : va_G) (cI cB cL cO : ClassId) (pf : Nat → Nat) (N : Nat) (a_this a_this_lists a_this_days a_this_contributors a_this_points a_this_lists_cells a_this_contributors_cells a_this_points_cells : Nat) (n_this_lists_cells : Nat) (n_this_contributors_cells : Nat) (n_this_points_cells : Nat) (v_this_size : Int32) (g_this_lists_cells : Nat → Int32) (g_this_contributors_cells : Nat → Int32) (g_this_points_cells : Nat → Int32) (x1 : Int32) (x2 : Int32) (o : Int32) (h : f_X1_sum N x1 x2 n_this_lists_cells n_this_contributors_cells n_this_points_cells v_this_size g_this_lists_cells g_this_contributors_cells g_this_points_cells = some o) : Ct l D [(cI, .int), (cB, .byte), (cL, .long), (cO, .object RX0)] pf yX1_sum cX1_sum 5 (some FieldType.int) { frames := 2, cells := 0, slots := 0, locals := 43 } [.ref a_this, .int x1, .int x2] [(a_this, .inr (1, [.ref a_this_lists, .ref a_this_days, .ref a_this_contributors, .ref a_this_points, .int v_this_size])), (a_this_lists, .inr (6, [.ref a_this_lists_cells])), (a_this_lists_cells, .inl (cI, n_this_lists_cells, .inl g_this_lists_cells)), (a_this_contributors, .inr (6, [.ref a_this_contributors_cells])), (a_this_contributors_cells, .inl (cI, n_this_contributors_cells, .inl g_this_contributors_cells)), (a_this_points, .inr (6, [.ref a_this_points_cells])), (a_this_points_cells, .inl (cI, n_this_points_cells, .inl g_this_points_cells))] (is1 (some (.int o)) [(a_this, .inr (1, [.ref a_this_lists, .ref a_this_days, .ref a_this_contributors, .ref a_this_points, .int v_this_size])), (a_this_lists, .inr (6, [.ref a_this_lists_cells])), (a_this_lists_cells, .inl (cI, n_this_lists_cells, .inl g_this_lists_cells)), (a_this_contributors, .inr (6, [.ref a_this_contributors_cells])), (a_this_contributors_cells, .inl (cI, n_this_contributors_cells, .inl g_this_contributors_cells)), (a_this_points, .inr (6, [.ref a_this_points_cells])), (a_this_points_cells, .inl (cI, n_this_points_cells, .inl g_this_points_cells))]) := by
  refine Ct_of (own := RX1) (lv0 := [(0, .ref a_this), (1, .int x1), (2, .int x2)]) (by decide) rfl rfl (Nat.le_of_ble_eq_true rfl) ?_
  intro p e s m args below meth c C hr hnm
  unfold f_X1_sum at h
  refine J_iconst (v := (0 : Int32)) (pc := 0) C dX1_sum_0 (by decide) ?_
  refine J_istore_n (lv2 := [(3, .int (0 : Int32)), (0, .ref a_this), (1, .int x1), (2, .int x2)]) (pc := 1) C dX1_sum_1 (by decide) rfl ?_
  refine J_iconst (v := (0 : Int32)) (pc := 2) C dX1_sum_2 (by decide) ?_
  refine J_istore (lv2 := [(4, .int (0 : Int32)), (3, .int (0 : Int32)), (0, .ref a_this), (1, .int x1), (2, .int x2)]) (pc := 3) C dX1_sum_3 (by decide) rfl ?_
  refine J_sub (lv2 := [(0, .ref a_this), (1, .int x1), (2, .int x2), (3, .int (0 : Int32)), (4, .int (0 : Int32))]) [2, 3, 4, 1, 0] rfl ?_
  exact t_X1_sum_b5 C hr N _ _ h
-- PointsLedger$Row.sumFrom(I)I
theorem dX6_sumFrom_0 : decode cX6_sumFrom 0 = .ok (.iconst 0, 1) := by decide +kernel
theorem dX6_sumFrom_1 : decode cX6_sumFrom 1 = .ok (.istore_n 2, 1) := by decide +kernel
theorem dX6_sumFrom_2 : decode cX6_sumFrom 2 = .ok (.iload_n 1, 1) := by decide +kernel
theorem dX6_sumFrom_3 : decode cX6_sumFrom 3 = .ok (.iconst 0, 1) := by decide +kernel
theorem dX6_sumFrom_4 : decode cX6_sumFrom 4 = .ok (.invokestatic 13, 3) := by decide +kernel
theorem dX6_sumFrom_7 : decode cX6_sumFrom 7 = .ok (.istore_n 3, 1) := by decide +kernel
theorem dX6_sumFrom_8 : decode cX6_sumFrom 8 = .ok (.iload_n 3, 1) := by decide +kernel
theorem dX6_sumFrom_9 : decode cX6_sumFrom 9 = .ok (.aload_n 0, 1) := by decide +kernel
theorem dX6_sumFrom_10 : decode cX6_sumFrom 10 = .ok (.getfield 7, 3) := by decide +kernel
theorem dX6_sumFrom_13 : decode cX6_sumFrom 13 = .ok (.arraylength, 1) := by decide +kernel
theorem dX6_sumFrom_14 : decode cX6_sumFrom 14 = .ok (.if_icmp .ge 18, 3) := by decide +kernel
theorem dX6_sumFrom_17 : decode cX6_sumFrom 17 = .ok (.iload_n 2, 1) := by decide +kernel
theorem dX6_sumFrom_18 : decode cX6_sumFrom 18 = .ok (.aload_n 0, 1) := by decide +kernel
theorem dX6_sumFrom_19 : decode cX6_sumFrom 19 = .ok (.getfield 7, 3) := by decide +kernel
theorem dX6_sumFrom_22 : decode cX6_sumFrom 22 = .ok (.iload_n 3, 1) := by decide +kernel
theorem dX6_sumFrom_23 : decode cX6_sumFrom 23 = .ok (.iaload, 1) := by decide +kernel
theorem dX6_sumFrom_24 : decode cX6_sumFrom 24 = .ok (.iadd, 1) := by decide +kernel
theorem dX6_sumFrom_25 : decode cX6_sumFrom 25 = .ok (.istore_n 2, 1) := by decide +kernel
theorem dX6_sumFrom_26 : decode cX6_sumFrom 26 = .ok (.iinc 3 1, 3) := by decide +kernel
theorem dX6_sumFrom_29 : decode cX6_sumFrom 29 = .ok (.goto (-21), 3) := by decide +kernel
theorem dX6_sumFrom_32 : decode cX6_sumFrom 32 = .ok (.iload_n 2, 1) := by decide +kernel
theorem dX6_sumFrom_33 : decode cX6_sumFrom 33 = .ok (.ireturn, 1) := by decide +kernel
def f_X6_sumFrom_b8 (n_this_cells : Nat) (g_this_cells : Nat → Int32) : Nat → (Int32) → (Int32) → Option (Int32)
  | 0, _, _ => none
  | n + 1, x2, x3 => (if (nI n_this_cells) ≤ x3 then (some x2) else (if x3 < 0 ∨ n_this_cells ≤ x3.toNatClampNeg then none else ((some (x2 + (g_this_cells x3.toNatClampNeg))).bind fun y25 => ((some (x3 + (1 : Int32))).bind fun y26 => (f_X6_sumFrom_b8 n_this_cells g_this_cells n y25 y26)))))
def f_X6_sumFrom (N : Nat) (x1 : Int32) (n_this_cells : Nat) (g_this_cells : Nat → Int32) : Option (Int32) :=
  ((some (if x1 < (0 : Int32) then (0 : Int32) else x1)).bind fun y7 => (f_X6_sumFrom_b8 n_this_cells g_this_cells N (0 : Int32) y7))
set_option maxHeartbeats 4000000 in
set_option maxRecDepth 100000 in
theorem t_X6_sumFrom_b8 {l : Launch} {D : va_G} {cI cB cL cO : ClassId} {pf : Nat → Nat} {p : Program} {e : Env} {s : State} {m : MethodId} {args : Array Value} {below : List Frame} {meth : Method} {c : Code} {W0 : va_W} {a_this a_this_cells : Nat}  {n_this_cells : Nat} {g_this_cells : Nat → Int32} {o : Int32} (C : jC p s m args meth c cX6_sumFrom 4 RX6 D [(cI, .int), (cB, .byte), (cL, .long), (cO, .object RX0)] pf (va_A W0 s.heap.size)) (hr : meth.sig.returnType = (some FieldType.int)) : ∀ (n : Nat) (x2 : Int32) (x3 : Int32), f_X6_sumFrom_b8 n_this_cells g_this_cells n x2 x3 = some o → J p l e { frames := 1, cells := 0, slots := 0, locals := 24 } s m args below meth c 4 D (va_A W0 s.heap.size) (MQ below (jQ D [(cI, .int), (cB, .byte), (cL, .long), (cO, .object RX0)] W0 s.heap.size (is1 (some (.int o)) [(a_this, .inr (6, [.ref a_this_cells])), (a_this_cells, .inl (cI, n_this_cells, .inl g_this_cells))])) args s 0 0 (va_A W0 s.heap.size)) 0 0 8 [(0, .ref a_this), (2, .int x2), (3, .int x3)] [] [(a_this, .inr (6, [.ref a_this_cells])), (a_this_cells, .inl (cI, n_this_cells, .inl g_this_cells))] := by
  intro n
  induction n with
  | zero =>
    intro _ _ h
    rw [f_X6_sumFrom_b8] at h
    cases h
  | succ n ih =>
    intro x2 x3 h
    rw [f_X6_sumFrom_b8] at h
    refine J_iload_n (pc := 8) C dX6_sumFrom_8 2 rfl ?_
    refine J_aload_n (pc := 9) C dX6_sumFrom_9 0 rfl ?_
    refine J_get (pc := 10) C dX6_sumFrom_10 jf_X6 0 rfl rfl 0 (by decide) rfl fl_RX6_7 rfl ?_
    refine J_alen (pc := 13) C dX6_sumFrom_13 1 0 rfl rfl ?_
    refine J_ic_ge (pc := 14) (tgt := 32) C dX6_sumFrom_14 (by decide) h (fun h => ?_) (fun h => ?_)
    · refine J_iload_n (pc := 32) C dX6_sumFrom_32 1 rfl ?_
      cases h
      exact J_iret (pc := 33) C dX6_sumFrom_33 hr ⟨rfl, rfl⟩
    · refine J_iload_n (pc := 17) C dX6_sumFrom_17 1 rfl ?_
      refine J_aload_n (pc := 18) C dX6_sumFrom_18 0 rfl ?_
      refine J_get (pc := 19) C dX6_sumFrom_19 jf_X6 0 rfl rfl 0 (by decide) rfl fl_RX6_7 rfl ?_
      refine J_iload_n (pc := 22) C dX6_sumFrom_22 2 rfl ?_
      refine J_iald (pc := 23) C dX6_sumFrom_23 1 0 rfl rfl h (fun h => ?_)
      refine J_iadd (pc := 24) C dX6_sumFrom_24 ?_
      refine J_istore_nN (pc := 25) C (fun y25 => [(2, .int y25), (0, .ref a_this), (3, .int x3)]) dX6_sumFrom_25 h (by decide) (fun _ => rfl) (fun y25 h => ?_)
      refine J_iincN (pc := 26) (v := (1 : Int32)) C (fun y26 => [(3, .int y26), (2, .int y25), (0, .ref a_this)]) dX6_sumFrom_26 2 rfl (by decide) h (by decide) (fun _ => rfl) (fun y26 h => ?_)
      refine J_goto (tgt := 8) (pc := 29) C dX6_sumFrom_29 (by decide) ?_
      refine J_sub (lv2 := [(0, .ref a_this), (2, .int y25), (3, .int y26)]) [2, 1, 0] rfl ?_
      exact ih _ _ h
set_option maxHeartbeats 4000000 in
set_option maxRecDepth 100000 in
theorem c_X6_sumFrom (l : Launch) (D : va_G) (cI cB cL cO : ClassId) (pf : Nat → Nat) (N : Nat) (a_this a_this_cells : Nat) (n_this_cells : Nat) (g_this_cells : Nat → Int32) (x1 : Int32) (o : Int32) (h : f_X6_sumFrom N x1 n_this_cells g_this_cells = some o) : Ct l D [(cI, .int), (cB, .byte), (cL, .long), (cO, .object RX0)] pf yX6_sumFrom cX6_sumFrom 4 (some FieldType.int) { frames := 1, cells := 0, slots := 0, locals := 24 } [.ref a_this, .int x1] [(a_this, .inr (6, [.ref a_this_cells])), (a_this_cells, .inl (cI, n_this_cells, .inl g_this_cells))] (is1 (some (.int o)) [(a_this, .inr (6, [.ref a_this_cells])), (a_this_cells, .inl (cI, n_this_cells, .inl g_this_cells))]) := by
  refine Ct_of (own := RX6) (lv0 := [(0, .ref a_this), (1, .int x1)]) (by decide) rfl rfl (Nat.le_of_ble_eq_true rfl) ?_
  intro p e s m args below meth c C hr hnm
  unfold f_X6_sumFrom at h
  refine J_iconst (v := (0 : Int32)) (pc := 0) C dX6_sumFrom_0 (by decide) ?_
  refine J_istore_n (lv2 := [(2, .int (0 : Int32)), (0, .ref a_this), (1, .int x1)]) (pc := 1) C dX6_sumFrom_1 (by decide) rfl ?_
  refine J_iload_n (pc := 2) C dX6_sumFrom_2 2 rfl ?_
  refine J_iconst (v := (0 : Int32)) (pc := 3) C dX6_sumFrom_3 (by decide) ?_
  refine J_mmax (pc := 4) C dX6_sumFrom_4 ml_RX6_13 w_max (Nat.le_of_ble_eq_true rfl) (Nat.le_of_ble_eq_true rfl) ⟨Nat.zero_le _, Nat.zero_le _⟩ ?_
  refine J_istore_nN (pc := 7) C (fun y7 => [(3, .int y7), (2, .int (0 : Int32)), (0, .ref a_this), (1, .int x1)]) dX6_sumFrom_7 h (by decide) (fun _ => rfl) (fun y7 h => ?_)
  refine J_sub (lv2 := [(0, .ref a_this), (2, .int (0 : Int32)), (3, .int y7)]) [2, 1, 0] rfl ?_
  exact t_X6_sumFrom_b8 C hr N _ _ h
-- PointsLedger$LogBook.add(IIII)V
theorem dX4_add_0 : decode cX4_add 0 = .ok (.aload_n 0, 1) := by decide +kernel
theorem dX4_add_1 : decode cX4_add 1 = .ok (.getfield 20, 3) := by decide +kernel
theorem dX4_add_4 : decode cX4_add 4 = .ok (.iconst 4, 1) := by decide +kernel
theorem dX4_add_5 : decode cX4_add 5 = .ok (.imul, 1) := by decide +kernel
theorem dX4_add_6 : decode cX4_add 6 = .ok (.istore 5, 2) := by decide +kernel
theorem dX4_add_8 : decode cX4_add 8 = .ok (.aload_n 0, 1) := by decide +kernel
theorem dX4_add_9 : decode cX4_add 9 = .ok (.getfield 14, 3) := by decide +kernel
theorem dX4_add_12 : decode cX4_add 12 = .ok (.iload 5, 2) := by decide +kernel
theorem dX4_add_14 : decode cX4_add 14 = .ok (.iload_n 1, 1) := by decide +kernel
theorem dX4_add_15 : decode cX4_add 15 = .ok (.invokevirtual 35, 3) := by decide +kernel
theorem dX4_add_18 : decode cX4_add 18 = .ok (.aload_n 0, 1) := by decide +kernel
theorem dX4_add_19 : decode cX4_add 19 = .ok (.getfield 14, 3) := by decide +kernel
theorem dX4_add_22 : decode cX4_add 22 = .ok (.iload 5, 2) := by decide +kernel
theorem dX4_add_24 : decode cX4_add 24 = .ok (.iconst 1, 1) := by decide +kernel
theorem dX4_add_25 : decode cX4_add 25 = .ok (.iadd, 1) := by decide +kernel
theorem dX4_add_26 : decode cX4_add 26 = .ok (.iload_n 2, 1) := by decide +kernel
theorem dX4_add_27 : decode cX4_add 27 = .ok (.invokevirtual 35, 3) := by decide +kernel
theorem dX4_add_30 : decode cX4_add 30 = .ok (.aload_n 0, 1) := by decide +kernel
theorem dX4_add_31 : decode cX4_add 31 = .ok (.getfield 14, 3) := by decide +kernel
theorem dX4_add_34 : decode cX4_add 34 = .ok (.iload 5, 2) := by decide +kernel
theorem dX4_add_36 : decode cX4_add 36 = .ok (.iconst 2, 1) := by decide +kernel
theorem dX4_add_37 : decode cX4_add 37 = .ok (.iadd, 1) := by decide +kernel
theorem dX4_add_38 : decode cX4_add 38 = .ok (.iload_n 3, 1) := by decide +kernel
theorem dX4_add_39 : decode cX4_add 39 = .ok (.invokevirtual 35, 3) := by decide +kernel
theorem dX4_add_42 : decode cX4_add 42 = .ok (.aload_n 0, 1) := by decide +kernel
theorem dX4_add_43 : decode cX4_add 43 = .ok (.getfield 14, 3) := by decide +kernel
theorem dX4_add_46 : decode cX4_add 46 = .ok (.iload 5, 2) := by decide +kernel
theorem dX4_add_48 : decode cX4_add 48 = .ok (.iconst 3, 1) := by decide +kernel
theorem dX4_add_49 : decode cX4_add 49 = .ok (.iadd, 1) := by decide +kernel
theorem dX4_add_50 : decode cX4_add 50 = .ok (.iload 4, 2) := by decide +kernel
theorem dX4_add_52 : decode cX4_add 52 = .ok (.invokevirtual 35, 3) := by decide +kernel
theorem dX4_add_55 : decode cX4_add 55 = .ok (.aload_n 0, 1) := by decide +kernel
theorem dX4_add_56 : decode cX4_add 56 = .ok (.aload_n 0, 1) := by decide +kernel
theorem dX4_add_57 : decode cX4_add 57 = .ok (.getfield 20, 3) := by decide +kernel
theorem dX4_add_60 : decode cX4_add 60 = .ok (.iconst 1, 1) := by decide +kernel
theorem dX4_add_61 : decode cX4_add 61 = .ok (.iadd, 1) := by decide +kernel
theorem dX4_add_62 : decode cX4_add 62 = .ok (.bipush 30, 2) := by decide +kernel
theorem dX4_add_64 : decode cX4_add 64 = .ok (.if_icmp .ge 12, 3) := by decide +kernel
theorem dX4_add_67 : decode cX4_add 67 = .ok (.aload_n 0, 1) := by decide +kernel
theorem dX4_add_68 : decode cX4_add 68 = .ok (.getfield 20, 3) := by decide +kernel
theorem dX4_add_71 : decode cX4_add 71 = .ok (.iconst 1, 1) := by decide +kernel
theorem dX4_add_72 : decode cX4_add 72 = .ok (.iadd, 1) := by decide +kernel
theorem dX4_add_73 : decode cX4_add 73 = .ok (.goto 4, 3) := by decide +kernel
theorem dX4_add_76 : decode cX4_add 76 = .ok (.iconst 0, 1) := by decide +kernel
theorem dX4_add_77 : decode cX4_add 77 = .ok (.putfield 20, 3) := by decide +kernel
theorem dX4_add_80 : decode cX4_add 80 = .ok (.aload_n 0, 1) := by decide +kernel
theorem dX4_add_81 : decode cX4_add 81 = .ok (.aload_n 0, 1) := by decide +kernel
theorem dX4_add_82 : decode cX4_add 82 = .ok (.getfield 24, 3) := by decide +kernel
theorem dX4_add_85 : decode cX4_add 85 = .ok (.iconst 1, 1) := by decide +kernel
theorem dX4_add_86 : decode cX4_add 86 = .ok (.iadd, 1) := by decide +kernel
theorem dX4_add_87 : decode cX4_add 87 = .ok (.bipush 30, 2) := by decide +kernel
theorem dX4_add_89 : decode cX4_add 89 = .ok (.invokestatic 39, 3) := by decide +kernel
theorem dX4_add_92 : decode cX4_add 92 = .ok (.putfield 24, 3) := by decide +kernel
theorem dX4_add_95 : decode cX4_add 95 = .ok (.return_, 1) := by decide +kernel
def f_X4_add_b77 (s1 : Int32) (v_this_size : Int32) (g_this_parts_cells : Nat → Int32) : Option (Int32 × Int32 × (Nat → Int32)) :=
  (some (s1, (if (30 : Int32) < (v_this_size + (1 : Int32)) then (30 : Int32) else (v_this_size + (1 : Int32))), g_this_parts_cells))
def f_X4_add (x1 : Int32) (x2 : Int32) (x3 : Int32) (x4 : Int32) (n_this_parts_cells : Nat) (v_this_next : Int32) (v_this_size : Int32) (g_this_parts_cells : Nat → Int32) : Option (Int32 × Int32 × (Nat → Int32)) :=
  ((some (v_this_next * (4 : Int32))).bind fun y6 => ((f_X6_put y6 x1 n_this_parts_cells g_this_parts_cells).bind fun r15 => ((f_X6_put (y6 + (1 : Int32)) x2 n_this_parts_cells r15).bind fun r27 => ((f_X6_put (y6 + (2 : Int32)) x3 n_this_parts_cells r27).bind fun r39 => ((f_X6_put (y6 + (3 : Int32)) x4 n_this_parts_cells r39).bind fun r52 => (if (30 : Int32) ≤ (v_this_next + (1 : Int32)) then (f_X4_add_b77 (0 : Int32) v_this_size r52) else (f_X4_add_b77 (v_this_next + (1 : Int32)) v_this_size r52)))))))
set_option maxHeartbeats 4000000 in
set_option maxRecDepth 100000 in
theorem t_X4_add_b77 {l : Launch} {D : va_G} {cI cB cL cO : ClassId} {pf : Nat → Nat} {p : Program} {e : Env} {s : State} {m : MethodId} {args : Array Value} {below : List Frame} {meth : Method} {c : Code} {W0 : va_W} {a_this a_this_parts a_this_parts_cells : Nat}  {n_this_parts_cells : Nat} {v_this_next : Int32} {v_this_size : Int32} {g_this_parts_cells : Nat → Int32} {s1 : Int32} {o : Int32 × Int32 × (Nat → Int32)} (C : jC p s m args meth c cX4_add 6 RX4 D [(cI, .int), (cB, .byte), (cL, .long), (cO, .object RX0)] pf (va_A W0 s.heap.size)) (hr : meth.sig.returnType = (none : Option FieldType)) (h : f_X4_add_b77 s1 v_this_size g_this_parts_cells = some o) : J p l e { frames := 1, cells := 0, slots := 0, locals := 24 } s m args below meth c 6 D (va_A W0 s.heap.size) (MQ below (jQ D [(cI, .int), (cB, .byte), (cL, .long), (cO, .object RX0)] W0 s.heap.size (is1 (none) [(a_this, .inr (4, [.ref a_this_parts, .int o.1, .int o.2.1])), (a_this_parts, .inr (6, [.ref a_this_parts_cells])), (a_this_parts_cells, .inl (cI, n_this_parts_cells, .inl o.2.2))])) args s 0 0 (va_A W0 s.heap.size)) 0 0 77 [(0, .ref a_this)] [.int s1, .ref a_this] [(a_this, .inr (4, [.ref a_this_parts, .int v_this_next, .int v_this_size])), (a_this_parts, .inr (6, [.ref a_this_parts_cells])), (a_this_parts_cells, .inl (cI, n_this_parts_cells, .inl g_this_parts_cells))] := by
  unfold f_X4_add_b77 at h
  refine J_put (tt := .int) (pc := 77) C dX4_add_77 jf_X4 0 rfl rfl 1 (by decide) rfl fl_RX4_20 rfl (by decide +kernel) rfl rfl (Nat.le_of_ble_eq_true rfl) ?_
  refine J_ws (ws2 := [(a_this, .inr (4, [.ref a_this_parts, .int s1, .int v_this_size])), (a_this_parts, .inr (6, [.ref a_this_parts_cells])), (a_this_parts_cells, .inl (cI, n_this_parts_cells, .inl g_this_parts_cells))]) rfl ?_
  refine J_aload_n (pc := 80) C dX4_add_80 0 rfl ?_
  refine J_aload_n (pc := 81) C dX4_add_81 0 rfl ?_
  refine J_get (pc := 82) C dX4_add_82 jf_X4 0 rfl rfl 2 (by decide) rfl fl_RX4_24 rfl ?_
  refine J_iconst (v := (1 : Int32)) (pc := 85) C dX4_add_85 (by decide) ?_
  refine J_iadd (pc := 86) C dX4_add_86 ?_
  refine J_bipush (v := (30 : Int32)) (pc := 87) C dX4_add_87 (by decide) ?_
  refine J_mmin (pc := 89) C dX4_add_89 ml_RX4_39 w_min (Nat.le_of_ble_eq_true rfl) (Nat.le_of_ble_eq_true rfl) ⟨Nat.zero_le _, Nat.zero_le _⟩ ?_
  refine J_put (tt := .int) (pc := 92) C dX4_add_92 jf_X4 0 rfl rfl 2 (by decide) rfl fl_RX4_24 rfl (by decide +kernel) rfl rfl (Nat.le_of_ble_eq_true rfl) ?_
  refine J_ws (ws2 := [(a_this, .inr (4, [.ref a_this_parts, .int s1, .int (if (30 : Int32) < (v_this_size + (1 : Int32)) then (30 : Int32) else (v_this_size + (1 : Int32)))])), (a_this_parts, .inr (6, [.ref a_this_parts_cells])), (a_this_parts_cells, .inl (cI, n_this_parts_cells, .inl g_this_parts_cells))]) rfl ?_
  cases h
  exact J_vret (pc := 95) C dX4_add_95 hr ⟨rfl, rfl⟩
set_option maxHeartbeats 4000000 in
set_option maxRecDepth 100000 in
theorem c_X4_add (l : Launch) (D : va_G) (cI cB cL cO : ClassId) (pf : Nat → Nat) (N : Nat) (a_this a_this_parts a_this_parts_cells : Nat) (n_this_parts_cells : Nat) (v_this_next : Int32) (v_this_size : Int32) (g_this_parts_cells : Nat → Int32) (x1 : Int32) (x2 : Int32) (x3 : Int32) (x4 : Int32) (o : Int32 × Int32 × (Nat → Int32)) (h : f_X4_add x1 x2 x3 x4 n_this_parts_cells v_this_next v_this_size g_this_parts_cells = some o) : Ct l D [(cI, .int), (cB, .byte), (cL, .long), (cO, .object RX0)] pf yX4_add cX4_add 6 (none : Option FieldType) { frames := 1, cells := 0, slots := 0, locals := 24 } [.ref a_this, .int x1, .int x2, .int x3, .int x4] [(a_this, .inr (4, [.ref a_this_parts, .int v_this_next, .int v_this_size])), (a_this_parts, .inr (6, [.ref a_this_parts_cells])), (a_this_parts_cells, .inl (cI, n_this_parts_cells, .inl g_this_parts_cells))] (is1 (none) [(a_this, .inr (4, [.ref a_this_parts, .int o.1, .int o.2.1])), (a_this_parts, .inr (6, [.ref a_this_parts_cells])), (a_this_parts_cells, .inl (cI, n_this_parts_cells, .inl o.2.2))]) := by
  refine Ct_of (own := RX4) (lv0 := [(0, .ref a_this), (1, .int x1), (2, .int x2), (3, .int x3), (4, .int x4)]) (by decide) rfl rfl (Nat.le_of_ble_eq_true rfl) ?_
  intro p e s m args below meth c C hr hnm
  unfold f_X4_add at h
  refine J_aload_n (pc := 0) C dX4_add_0 0 rfl ?_
  refine J_get (pc := 1) C dX4_add_1 jf_X4 0 rfl rfl 1 (by decide) rfl fl_RX4_20 rfl ?_
  refine J_iconst (v := (4 : Int32)) (pc := 4) C dX4_add_4 (by decide) ?_
  refine J_imul (pc := 5) C dX4_add_5 ?_
  refine J_istoreN (pc := 6) C (fun y6 => [(5, .int y6), (0, .ref a_this), (1, .int x1), (2, .int x2), (3, .int x3), (4, .int x4)]) dX4_add_6 h (by decide) (fun _ => rfl) (fun y6 h => ?_)
  refine J_aload_n (pc := 8) C dX4_add_8 1 rfl ?_
  refine J_get (pc := 9) C dX4_add_9 jf_X4 0 rfl rfl 0 (by decide) rfl fl_RX4_14 rfl ?_
  refine J_iload (pc := 12) C dX4_add_12 0 rfl ?_
  refine J_iload_n (pc := 14) C dX4_add_14 2 rfl ?_
  refine J_cvw (pc := 15) (As := [.int y6, .int x1]) (st := []) C (fun r15 => [(a_this, .inr (4, [.ref a_this_parts, .int v_this_next, .int v_this_size])), (a_this_parts, .inr (6, [.ref a_this_parts_cells])), (a_this_parts_cells, .inl (cI, n_this_parts_cells, .inl r15))]) dX4_add_15 ml_RX4_35 mi_yX6_put (fun r15 hr => c_X6_put l D cI cB cL cO pf 0 a_this_parts a_this_parts_cells n_this_parts_cells g_this_parts_cells y6 x1 r15 hr) h [1, 2] rfl rfl rfl rfl rfl ⟨rfl, rfl⟩ ⟨(Nat.le_of_ble_eq_true rfl), (Nat.le_of_ble_eq_true rfl)⟩ ⟨Nat.zero_le _, Nat.zero_le _⟩ (Nat.le_of_ble_eq_true rfl) (fun _ => rfl) (fun _ => rfl) (fun r15 h => ?_)
  refine J_aload_n (pc := 18) C dX4_add_18 1 rfl ?_
  refine J_get (pc := 19) C dX4_add_19 jf_X4 0 rfl rfl 0 (by decide) rfl fl_RX4_14 rfl ?_
  refine J_iload (pc := 22) C dX4_add_22 0 rfl ?_
  refine J_iconst (v := (1 : Int32)) (pc := 24) C dX4_add_24 (by decide) ?_
  refine J_iadd (pc := 25) C dX4_add_25 ?_
  refine J_iload_n (pc := 26) C dX4_add_26 3 rfl ?_
  refine J_cvw (pc := 27) (As := [.int (y6 + (1 : Int32)), .int x2]) (st := []) C (fun r27 => [(a_this, .inr (4, [.ref a_this_parts, .int v_this_next, .int v_this_size])), (a_this_parts, .inr (6, [.ref a_this_parts_cells])), (a_this_parts_cells, .inl (cI, n_this_parts_cells, .inl r27))]) dX4_add_27 ml_RX4_35 mi_yX6_put (fun r27 hr => c_X6_put l D cI cB cL cO pf 0 a_this_parts a_this_parts_cells n_this_parts_cells r15 (y6 + (1 : Int32)) x2 r27 hr) h [1, 2] rfl rfl rfl rfl rfl ⟨rfl, rfl⟩ ⟨(Nat.le_of_ble_eq_true rfl), (Nat.le_of_ble_eq_true rfl)⟩ ⟨Nat.zero_le _, Nat.zero_le _⟩ (Nat.le_of_ble_eq_true rfl) (fun _ => rfl) (fun _ => rfl) (fun r27 h => ?_)
  refine J_aload_n (pc := 30) C dX4_add_30 1 rfl ?_
  refine J_get (pc := 31) C dX4_add_31 jf_X4 0 rfl rfl 0 (by decide) rfl fl_RX4_14 rfl ?_
  refine J_iload (pc := 34) C dX4_add_34 0 rfl ?_
  refine J_iconst (v := (2 : Int32)) (pc := 36) C dX4_add_36 (by decide) ?_
  refine J_iadd (pc := 37) C dX4_add_37 ?_
  refine J_iload_n (pc := 38) C dX4_add_38 4 rfl ?_
  refine J_cvw (pc := 39) (As := [.int (y6 + (2 : Int32)), .int x3]) (st := []) C (fun r39 => [(a_this, .inr (4, [.ref a_this_parts, .int v_this_next, .int v_this_size])), (a_this_parts, .inr (6, [.ref a_this_parts_cells])), (a_this_parts_cells, .inl (cI, n_this_parts_cells, .inl r39))]) dX4_add_39 ml_RX4_35 mi_yX6_put (fun r39 hr => c_X6_put l D cI cB cL cO pf 0 a_this_parts a_this_parts_cells n_this_parts_cells r27 (y6 + (2 : Int32)) x3 r39 hr) h [1, 2] rfl rfl rfl rfl rfl ⟨rfl, rfl⟩ ⟨(Nat.le_of_ble_eq_true rfl), (Nat.le_of_ble_eq_true rfl)⟩ ⟨Nat.zero_le _, Nat.zero_le _⟩ (Nat.le_of_ble_eq_true rfl) (fun _ => rfl) (fun _ => rfl) (fun r39 h => ?_)
  refine J_aload_n (pc := 42) C dX4_add_42 1 rfl ?_
  refine J_get (pc := 43) C dX4_add_43 jf_X4 0 rfl rfl 0 (by decide) rfl fl_RX4_14 rfl ?_
  refine J_iload (pc := 46) C dX4_add_46 0 rfl ?_
  refine J_iconst (v := (3 : Int32)) (pc := 48) C dX4_add_48 (by decide) ?_
  refine J_iadd (pc := 49) C dX4_add_49 ?_
  refine J_iload (pc := 50) C dX4_add_50 5 rfl ?_
  refine J_cvw (pc := 52) (As := [.int (y6 + (3 : Int32)), .int x4]) (st := []) C (fun r52 => [(a_this, .inr (4, [.ref a_this_parts, .int v_this_next, .int v_this_size])), (a_this_parts, .inr (6, [.ref a_this_parts_cells])), (a_this_parts_cells, .inl (cI, n_this_parts_cells, .inl r52))]) dX4_add_52 ml_RX4_35 mi_yX6_put (fun r52 hr => c_X6_put l D cI cB cL cO pf 0 a_this_parts a_this_parts_cells n_this_parts_cells r39 (y6 + (3 : Int32)) x4 r52 hr) h [1, 2] rfl rfl rfl rfl rfl ⟨rfl, rfl⟩ ⟨(Nat.le_of_ble_eq_true rfl), (Nat.le_of_ble_eq_true rfl)⟩ ⟨Nat.zero_le _, Nat.zero_le _⟩ (Nat.le_of_ble_eq_true rfl) (fun _ => rfl) (fun _ => rfl) (fun r52 h => ?_)
  refine J_aload_n (pc := 55) C dX4_add_55 1 rfl ?_
  refine J_aload_n (pc := 56) C dX4_add_56 1 rfl ?_
  refine J_get (pc := 57) C dX4_add_57 jf_X4 0 rfl rfl 1 (by decide) rfl fl_RX4_20 rfl ?_
  refine J_iconst (v := (1 : Int32)) (pc := 60) C dX4_add_60 (by decide) ?_
  refine J_iadd (pc := 61) C dX4_add_61 ?_
  refine J_bipush (v := (30 : Int32)) (pc := 62) C dX4_add_62 (by decide) ?_
  refine J_ic_ge (pc := 64) (tgt := 76) C dX4_add_64 (by decide) h (fun h => ?_) (fun h => ?_)
  · refine J_iconst (v := (0 : Int32)) (pc := 76) C dX4_add_76 (by decide) ?_
    refine J_sub (lv2 := [(0, .ref a_this)]) [1] rfl ?_
    exact t_X4_add_b77 C hr h
  · refine J_aload_n (pc := 67) C dX4_add_67 1 rfl ?_
    refine J_get (pc := 68) C dX4_add_68 jf_X4 0 rfl rfl 1 (by decide) rfl fl_RX4_20 rfl ?_
    refine J_iconst (v := (1 : Int32)) (pc := 71) C dX4_add_71 (by decide) ?_
    refine J_iadd (pc := 72) C dX4_add_72 ?_
    refine J_goto (tgt := 77) (pc := 73) C dX4_add_73 (by decide) ?_
    refine J_sub (lv2 := [(0, .ref a_this)]) [1] rfl ?_
    exact t_X4_add_b77 C hr h
-- PointsLedger$Standing.belowDay()I
theorem dX9_belowDay_0 : decode cX9_belowDay 0 = .ok (.aload_n 0, 1) := by decide +kernel
theorem dX9_belowDay_1 : decode cX9_belowDay 1 = .ok (.getfield 15, 3) := by decide +kernel
theorem dX9_belowDay_4 : decode cX9_belowDay 4 = .ok (.ireturn, 1) := by decide +kernel
def f_X9_belowDay (v_this_since : Int32) : Option (Int32) :=
  (some v_this_since)
set_option maxHeartbeats 4000000 in
set_option maxRecDepth 100000 in
theorem c_X9_belowDay (l : Launch) (D : va_G) (cI cB cL cO : ClassId) (pf : Nat → Nat) (N : Nat) (a_this : Nat) (v_this_tier : Int32) (v_this_since : Int32) (o : Int32) (h : f_X9_belowDay v_this_since = some o) : Ct l D [(cI, .int), (cB, .byte), (cL, .long), (cO, .object RX0)] pf yX9_belowDay cX9_belowDay 1 (some FieldType.int) { frames := 0, cells := 0, slots := 0, locals := 0 } [.ref a_this] [(a_this, .inr (9, [.int v_this_tier, .int v_this_since]))] (is1 (some (.int o)) [(a_this, .inr (9, [.int v_this_tier, .int v_this_since]))]) := by
  refine Ct_of (own := RX9) (lv0 := [(0, .ref a_this)]) (by decide) rfl rfl (Nat.le_of_ble_eq_true rfl) ?_
  intro p e s m args below meth c C hr hnm
  unfold f_X9_belowDay at h
  refine J_aload_n (pc := 0) C dX9_belowDay_0 0 rfl ?_
  refine J_get (pc := 1) C dX9_belowDay_1 jf_X9 0 rfl rfl 1 (by decide) rfl fl_RX9_15 rfl ?_
  cases h
  exact J_iret (pc := 4) C dX9_belowDay_4 hr ⟨rfl, rfl⟩
-- PointsLedger$Standing.check(III)V
theorem dX9_check_0 : decode cX9_check 0 = .ok (.iload_n 1, 1) := by decide +kernel
theorem dX9_check_1 : decode cX9_check 1 = .ok (.aload_n 0, 1) := by decide +kernel
theorem dX9_check_2 : decode cX9_check 2 = .ok (.getfield 9, 3) := by decide +kernel
theorem dX9_check_5 : decode cX9_check 5 = .ok (.if_icmp .lt 14, 3) := by decide +kernel
theorem dX9_check_8 : decode cX9_check 8 = .ok (.aload_n 0, 1) := by decide +kernel
theorem dX9_check_9 : decode cX9_check 9 = .ok (.iload_n 1, 1) := by decide +kernel
theorem dX9_check_10 : decode cX9_check 10 = .ok (.putfield 9, 3) := by decide +kernel
theorem dX9_check_13 : decode cX9_check 13 = .ok (.aload_n 0, 1) := by decide +kernel
theorem dX9_check_14 : decode cX9_check 14 = .ok (.iconst (-1), 1) := by decide +kernel
theorem dX9_check_15 : decode cX9_check 15 = .ok (.putfield 15, 3) := by decide +kernel
theorem dX9_check_18 : decode cX9_check 18 = .ok (.return_, 1) := by decide +kernel
theorem dX9_check_19 : decode cX9_check 19 = .ok (.aload_n 0, 1) := by decide +kernel
theorem dX9_check_20 : decode cX9_check 20 = .ok (.getfield 15, 3) := by decide +kernel
theorem dX9_check_23 : decode cX9_check 23 = .ok (.iconst (-1), 1) := by decide +kernel
theorem dX9_check_24 : decode cX9_check 24 = .ok (.if_icmp .ne 8, 3) := by decide +kernel
theorem dX9_check_27 : decode cX9_check 27 = .ok (.aload_n 0, 1) := by decide +kernel
theorem dX9_check_28 : decode cX9_check 28 = .ok (.iload_n 2, 1) := by decide +kernel
theorem dX9_check_29 : decode cX9_check 29 = .ok (.putfield 15, 3) := by decide +kernel
theorem dX9_check_32 : decode cX9_check 32 = .ok (.iload_n 2, 1) := by decide +kernel
theorem dX9_check_33 : decode cX9_check 33 = .ok (.aload_n 0, 1) := by decide +kernel
theorem dX9_check_34 : decode cX9_check 34 = .ok (.getfield 15, 3) := by decide +kernel
theorem dX9_check_37 : decode cX9_check 37 = .ok (.isub, 1) := by decide +kernel
theorem dX9_check_38 : decode cX9_check 38 = .ok (.iload_n 3, 1) := by decide +kernel
theorem dX9_check_39 : decode cX9_check 39 = .ok (.if_icmp .lt 13, 3) := by decide +kernel
theorem dX9_check_42 : decode cX9_check 42 = .ok (.aload_n 0, 1) := by decide +kernel
theorem dX9_check_43 : decode cX9_check 43 = .ok (.iload_n 1, 1) := by decide +kernel
theorem dX9_check_44 : decode cX9_check 44 = .ok (.putfield 9, 3) := by decide +kernel
theorem dX9_check_47 : decode cX9_check 47 = .ok (.aload_n 0, 1) := by decide +kernel
theorem dX9_check_48 : decode cX9_check 48 = .ok (.iconst (-1), 1) := by decide +kernel
theorem dX9_check_49 : decode cX9_check 49 = .ok (.putfield 15, 3) := by decide +kernel
theorem dX9_check_52 : decode cX9_check 52 = .ok (.return_, 1) := by decide +kernel
def f_X9_check_b32 (x1 : Int32) (x2 : Int32) (x3 : Int32) (v_this_tier : Int32) (v_this_since : Int32) : Option (Int32 × Int32) :=
  (if (x2 - v_this_since) < x3 then (some (v_this_tier, v_this_since)) else (some (x1, (-1 : Int32))))
def f_X9_check (x1 : Int32) (x2 : Int32) (x3 : Int32) (v_this_tier : Int32) (v_this_since : Int32) : Option (Int32 × Int32) :=
  (if x1 < v_this_tier then (if v_this_since = (-1 : Int32) then (f_X9_check_b32 x1 x2 x3 v_this_tier x2) else (f_X9_check_b32 x1 x2 x3 v_this_tier v_this_since)) else (some (x1, (-1 : Int32))))
set_option maxHeartbeats 4000000 in
set_option maxRecDepth 100000 in
theorem t_X9_check_b32 {l : Launch} {D : va_G} {cI cB cL cO : ClassId} {pf : Nat → Nat} {p : Program} {e : Env} {s : State} {m : MethodId} {args : Array Value} {below : List Frame} {meth : Method} {c : Code} {W0 : va_W} {a_this : Nat}  {v_this_tier : Int32} {v_this_since : Int32} {x1 : Int32} {x2 : Int32} {x3 : Int32} {o : Int32 × Int32} (C : jC p s m args meth c cX9_check 4 RX9 D [(cI, .int), (cB, .byte), (cL, .long), (cO, .object RX0)] pf (va_A W0 s.heap.size)) (hr : meth.sig.returnType = (none : Option FieldType)) (h : f_X9_check_b32 x1 x2 x3 v_this_tier v_this_since = some o) : J p l e { frames := 0, cells := 0, slots := 0, locals := 0 } s m args below meth c 4 D (va_A W0 s.heap.size) (MQ below (jQ D [(cI, .int), (cB, .byte), (cL, .long), (cO, .object RX0)] W0 s.heap.size (is1 (none) [(a_this, .inr (9, [.int o.1, .int o.2]))])) args s 0 0 (va_A W0 s.heap.size)) 0 0 32 [(0, .ref a_this), (1, .int x1), (2, .int x2), (3, .int x3)] [] [(a_this, .inr (9, [.int v_this_tier, .int v_this_since]))] := by
  unfold f_X9_check_b32 at h
  refine J_iload_n (pc := 32) C dX9_check_32 2 rfl ?_
  refine J_aload_n (pc := 33) C dX9_check_33 0 rfl ?_
  refine J_get (pc := 34) C dX9_check_34 jf_X9 0 rfl rfl 1 (by decide) rfl fl_RX9_15 rfl ?_
  refine J_isub (pc := 37) C dX9_check_37 ?_
  refine J_iload_n (pc := 38) C dX9_check_38 3 rfl ?_
  refine J_ic_lt (pc := 39) (tgt := 52) C dX9_check_39 (by decide) h (fun h => ?_) (fun h => ?_)
  · cases h
    exact J_vret (pc := 52) C dX9_check_52 hr ⟨rfl, rfl⟩
  · refine J_aload_n (pc := 42) C dX9_check_42 0 rfl ?_
    refine J_iload_n (pc := 43) C dX9_check_43 1 rfl ?_
    refine J_put (tt := .int) (pc := 44) C dX9_check_44 jf_X9 0 rfl rfl 0 (by decide) rfl fl_RX9_9 rfl (by decide +kernel) rfl rfl (Nat.le_of_ble_eq_true rfl) ?_
    refine J_ws (ws2 := [(a_this, .inr (9, [.int x1, .int v_this_since]))]) rfl ?_
    refine J_aload_n (pc := 47) C dX9_check_47 0 rfl ?_
    refine J_iconst (v := (-1 : Int32)) (pc := 48) C dX9_check_48 (by decide) ?_
    refine J_put (tt := .int) (pc := 49) C dX9_check_49 jf_X9 0 rfl rfl 1 (by decide) rfl fl_RX9_15 rfl (by decide +kernel) rfl rfl (Nat.le_of_ble_eq_true rfl) ?_
    refine J_ws (ws2 := [(a_this, .inr (9, [.int x1, .int (-1 : Int32)]))]) rfl ?_
    cases h
    exact J_vret (pc := 52) C dX9_check_52 hr ⟨rfl, rfl⟩
set_option maxHeartbeats 4000000 in
set_option maxRecDepth 100000 in
theorem c_X9_check (l : Launch) (D : va_G) (cI cB cL cO : ClassId) (pf : Nat → Nat) (N : Nat) (a_this : Nat) (v_this_tier : Int32) (v_this_since : Int32) (x1 : Int32) (x2 : Int32) (x3 : Int32) (o : Int32 × Int32) (h : f_X9_check x1 x2 x3 v_this_tier v_this_since = some o) : Ct l D [(cI, .int), (cB, .byte), (cL, .long), (cO, .object RX0)] pf yX9_check cX9_check 4 (none : Option FieldType) { frames := 0, cells := 0, slots := 0, locals := 0 } [.ref a_this, .int x1, .int x2, .int x3] [(a_this, .inr (9, [.int v_this_tier, .int v_this_since]))] (is1 (none) [(a_this, .inr (9, [.int o.1, .int o.2]))]) := by
  refine Ct_of (own := RX9) (lv0 := [(0, .ref a_this), (1, .int x1), (2, .int x2), (3, .int x3)]) (by decide) rfl rfl (Nat.le_of_ble_eq_true rfl) ?_
  intro p e s m args below meth c C hr hnm
  unfold f_X9_check at h
  refine J_iload_n (pc := 0) C dX9_check_0 1 rfl ?_
  refine J_aload_n (pc := 1) C dX9_check_1 0 rfl ?_
  refine J_get (pc := 2) C dX9_check_2 jf_X9 0 rfl rfl 0 (by decide) rfl fl_RX9_9 rfl ?_
  refine J_ic_lt (pc := 5) (tgt := 19) C dX9_check_5 (by decide) h (fun h => ?_) (fun h => ?_)
  · refine J_aload_n (pc := 19) C dX9_check_19 0 rfl ?_
    refine J_get (pc := 20) C dX9_check_20 jf_X9 0 rfl rfl 1 (by decide) rfl fl_RX9_15 rfl ?_
    refine J_iconst (v := (-1 : Int32)) (pc := 23) C dX9_check_23 (by decide) ?_
    refine J_ic_ne (pc := 24) (tgt := 32) C dX9_check_24 (by decide) h (fun h => ?_) (fun h => ?_)
    · exact t_X9_check_b32 C hr h
    · refine J_aload_n (pc := 27) C dX9_check_27 0 rfl ?_
      refine J_iload_n (pc := 28) C dX9_check_28 2 rfl ?_
      refine J_put (tt := .int) (pc := 29) C dX9_check_29 jf_X9 0 rfl rfl 1 (by decide) rfl fl_RX9_15 rfl (by decide +kernel) rfl rfl (Nat.le_of_ble_eq_true rfl) ?_
      refine J_ws (ws2 := [(a_this, .inr (9, [.int v_this_tier, .int x2]))]) rfl ?_
      exact t_X9_check_b32 C hr h
  · refine J_aload_n (pc := 8) C dX9_check_8 0 rfl ?_
    refine J_iload_n (pc := 9) C dX9_check_9 1 rfl ?_
    refine J_put (tt := .int) (pc := 10) C dX9_check_10 jf_X9 0 rfl rfl 0 (by decide) rfl fl_RX9_9 rfl (by decide +kernel) rfl rfl (Nat.le_of_ble_eq_true rfl) ?_
    refine J_ws (ws2 := [(a_this, .inr (9, [.int x1, .int v_this_since]))]) rfl ?_
    refine J_aload_n (pc := 13) C dX9_check_13 0 rfl ?_
    refine J_iconst (v := (-1 : Int32)) (pc := 14) C dX9_check_14 (by decide) ?_
    refine J_put (tt := .int) (pc := 15) C dX9_check_15 jf_X9 0 rfl rfl 1 (by decide) rfl fl_RX9_15 rfl (by decide +kernel) rfl rfl (Nat.le_of_ble_eq_true rfl) ?_
    refine J_ws (ws2 := [(a_this, .inr (9, [.int x1, .int (-1 : Int32)]))]) rfl ?_
    cases h
    exact J_vret (pc := 18) C dX9_check_18 hr ⟨rfl, rfl⟩
-- PointsLedger$Standing.presentTier()I
theorem dX9_presentTier_0 : decode cX9_presentTier 0 = .ok (.aload_n 0, 1) := by decide +kernel
theorem dX9_presentTier_1 : decode cX9_presentTier 1 = .ok (.getfield 9, 3) := by decide +kernel
theorem dX9_presentTier_4 : decode cX9_presentTier 4 = .ok (.ireturn, 1) := by decide +kernel
def f_X9_presentTier (v_this_tier : Int32) : Option (Int32) :=
  (some v_this_tier)
set_option maxHeartbeats 4000000 in
set_option maxRecDepth 100000 in
theorem c_X9_presentTier (l : Launch) (D : va_G) (cI cB cL cO : ClassId) (pf : Nat → Nat) (N : Nat) (a_this : Nat) (v_this_tier : Int32) (v_this_since : Int32) (o : Int32) (h : f_X9_presentTier v_this_tier = some o) : Ct l D [(cI, .int), (cB, .byte), (cL, .long), (cO, .object RX0)] pf yX9_presentTier cX9_presentTier 1 (some FieldType.int) { frames := 0, cells := 0, slots := 0, locals := 0 } [.ref a_this] [(a_this, .inr (9, [.int v_this_tier, .int v_this_since]))] (is1 (some (.int o)) [(a_this, .inr (9, [.int v_this_tier, .int v_this_since]))]) := by
  refine Ct_of (own := RX9) (lv0 := [(0, .ref a_this)]) (by decide) rfl rfl (Nat.le_of_ble_eq_true rfl) ?_
  intro p e s m args below meth c C hr hnm
  unfold f_X9_presentTier at h
  refine J_aload_n (pc := 0) C dX9_presentTier_0 0 rfl ?_
  refine J_get (pc := 1) C dX9_presentTier_1 jf_X9 0 rfl rfl 0 (by decide) rfl fl_RX9_9 rfl ?_
  cases h
  exact J_iret (pc := 4) C dX9_presentTier_4 hr ⟨rfl, rfl⟩
-- PointsLedger$Standing.start(II)V
theorem dX9_start_0 : decode cX9_start 0 = .ok (.aload_n 0, 1) := by decide +kernel
theorem dX9_start_1 : decode cX9_start 1 = .ok (.iload_n 1, 1) := by decide +kernel
theorem dX9_start_2 : decode cX9_start 2 = .ok (.putfield 9, 3) := by decide +kernel
theorem dX9_start_5 : decode cX9_start 5 = .ok (.aload_n 0, 1) := by decide +kernel
theorem dX9_start_6 : decode cX9_start 6 = .ok (.iload_n 2, 1) := by decide +kernel
theorem dX9_start_7 : decode cX9_start 7 = .ok (.putfield 15, 3) := by decide +kernel
theorem dX9_start_10 : decode cX9_start 10 = .ok (.return_, 1) := by decide +kernel
def f_X9_start (x1 : Int32) (x2 : Int32) : Option (Int32 × Int32) :=
  (some (x1, x2))
set_option maxHeartbeats 4000000 in
set_option maxRecDepth 100000 in
theorem c_X9_start (l : Launch) (D : va_G) (cI cB cL cO : ClassId) (pf : Nat → Nat) (N : Nat) (a_this : Nat) (v_this_tier : Int32) (v_this_since : Int32) (x1 : Int32) (x2 : Int32) (o : Int32 × Int32) (h : f_X9_start x1 x2 = some o) : Ct l D [(cI, .int), (cB, .byte), (cL, .long), (cO, .object RX0)] pf yX9_start cX9_start 3 (none : Option FieldType) { frames := 0, cells := 0, slots := 0, locals := 0 } [.ref a_this, .int x1, .int x2] [(a_this, .inr (9, [.int v_this_tier, .int v_this_since]))] (is1 (none) [(a_this, .inr (9, [.int o.1, .int o.2]))]) := by
  refine Ct_of (own := RX9) (lv0 := [(0, .ref a_this), (1, .int x1), (2, .int x2)]) (by decide) rfl rfl (Nat.le_of_ble_eq_true rfl) ?_
  intro p e s m args below meth c C hr hnm
  unfold f_X9_start at h
  refine J_aload_n (pc := 0) C dX9_start_0 0 rfl ?_
  refine J_iload_n (pc := 1) C dX9_start_1 1 rfl ?_
  refine J_put (tt := .int) (pc := 2) C dX9_start_2 jf_X9 0 rfl rfl 0 (by decide) rfl fl_RX9_9 rfl (by decide +kernel) rfl rfl (Nat.le_of_ble_eq_true rfl) ?_
  refine J_ws (ws2 := [(a_this, .inr (9, [.int x1, .int v_this_since]))]) rfl ?_
  refine J_aload_n (pc := 5) C dX9_start_5 0 rfl ?_
  refine J_iload_n (pc := 6) C dX9_start_6 2 rfl ?_
  refine J_put (tt := .int) (pc := 7) C dX9_start_7 jf_X9 0 rfl rfl 1 (by decide) rfl fl_RX9_15 rfl (by decide +kernel) rfl rfl (Nat.le_of_ble_eq_true rfl) ?_
  refine J_ws (ws2 := [(a_this, .inr (9, [.int x1, .int x2]))]) rfl ?_
  cases h
  exact J_vret (pc := 10) C dX9_start_10 hr ⟨rfl, rfl⟩
-- PointsLedger$Cohorts.isBefore(IIII)Z
theorem dX1_isBefore_0 : decode cX1_isBefore 0 = .ok (.aload_n 0, 1) := by decide +kernel
theorem dX1_isBefore_1 : decode cX1_isBefore 1 = .ok (.getfield 14, 3) := by decide +kernel
theorem dX1_isBefore_4 : decode cX1_isBefore 4 = .ok (.iload_n 1, 1) := by decide +kernel
theorem dX1_isBefore_5 : decode cX1_isBefore 5 = .ok (.invokevirtual 37, 3) := by decide +kernel
theorem dX1_isBefore_8 : decode cX1_isBefore 8 = .ok (.iload_n 2, 1) := by decide +kernel
theorem dX1_isBefore_9 : decode cX1_isBefore 9 = .ok (.if_icmp .eq 21, 3) := by decide +kernel
theorem dX1_isBefore_12 : decode cX1_isBefore 12 = .ok (.aload_n 0, 1) := by decide +kernel
theorem dX1_isBefore_13 : decode cX1_isBefore 13 = .ok (.getfield 14, 3) := by decide +kernel
theorem dX1_isBefore_16 : decode cX1_isBefore 16 = .ok (.iload_n 1, 1) := by decide +kernel
theorem dX1_isBefore_17 : decode cX1_isBefore 17 = .ok (.invokevirtual 37, 3) := by decide +kernel
theorem dX1_isBefore_20 : decode cX1_isBefore 20 = .ok (.iload_n 2, 1) := by decide +kernel
theorem dX1_isBefore_21 : decode cX1_isBefore 21 = .ok (.if_icmp .ge 7, 3) := by decide +kernel
theorem dX1_isBefore_24 : decode cX1_isBefore 24 = .ok (.iconst 1, 1) := by decide +kernel
theorem dX1_isBefore_25 : decode cX1_isBefore 25 = .ok (.goto 4, 3) := by decide +kernel
theorem dX1_isBefore_28 : decode cX1_isBefore 28 = .ok (.iconst 0, 1) := by decide +kernel
theorem dX1_isBefore_29 : decode cX1_isBefore 29 = .ok (.ireturn, 1) := by decide +kernel
theorem dX1_isBefore_30 : decode cX1_isBefore 30 = .ok (.aload_n 0, 1) := by decide +kernel
theorem dX1_isBefore_31 : decode cX1_isBefore 31 = .ok (.getfield 20, 3) := by decide +kernel
theorem dX1_isBefore_34 : decode cX1_isBefore 34 = .ok (.iload_n 1, 1) := by decide +kernel
theorem dX1_isBefore_35 : decode cX1_isBefore 35 = .ok (.invokevirtual 37, 3) := by decide +kernel
theorem dX1_isBefore_38 : decode cX1_isBefore 38 = .ok (.iload_n 3, 1) := by decide +kernel
theorem dX1_isBefore_39 : decode cX1_isBefore 39 = .ok (.if_icmp .eq 21, 3) := by decide +kernel
theorem dX1_isBefore_42 : decode cX1_isBefore 42 = .ok (.aload_n 0, 1) := by decide +kernel
theorem dX1_isBefore_43 : decode cX1_isBefore 43 = .ok (.getfield 20, 3) := by decide +kernel
theorem dX1_isBefore_46 : decode cX1_isBefore 46 = .ok (.iload_n 1, 1) := by decide +kernel
theorem dX1_isBefore_47 : decode cX1_isBefore 47 = .ok (.invokevirtual 37, 3) := by decide +kernel
theorem dX1_isBefore_50 : decode cX1_isBefore 50 = .ok (.iload_n 3, 1) := by decide +kernel
theorem dX1_isBefore_51 : decode cX1_isBefore 51 = .ok (.if_icmp .ge 7, 3) := by decide +kernel
theorem dX1_isBefore_54 : decode cX1_isBefore 54 = .ok (.iconst 1, 1) := by decide +kernel
theorem dX1_isBefore_55 : decode cX1_isBefore 55 = .ok (.goto 4, 3) := by decide +kernel
theorem dX1_isBefore_58 : decode cX1_isBefore 58 = .ok (.iconst 0, 1) := by decide +kernel
theorem dX1_isBefore_59 : decode cX1_isBefore 59 = .ok (.ireturn, 1) := by decide +kernel
theorem dX1_isBefore_60 : decode cX1_isBefore 60 = .ok (.aload_n 0, 1) := by decide +kernel
theorem dX1_isBefore_61 : decode cX1_isBefore 61 = .ok (.getfield 23, 3) := by decide +kernel
theorem dX1_isBefore_64 : decode cX1_isBefore 64 = .ok (.iload_n 1, 1) := by decide +kernel
theorem dX1_isBefore_65 : decode cX1_isBefore 65 = .ok (.invokevirtual 37, 3) := by decide +kernel
theorem dX1_isBefore_68 : decode cX1_isBefore 68 = .ok (.iload 4, 2) := by decide +kernel
theorem dX1_isBefore_70 : decode cX1_isBefore 70 = .ok (.if_icmp .ge 7, 3) := by decide +kernel
theorem dX1_isBefore_73 : decode cX1_isBefore 73 = .ok (.iconst 1, 1) := by decide +kernel
theorem dX1_isBefore_74 : decode cX1_isBefore 74 = .ok (.goto 4, 3) := by decide +kernel
theorem dX1_isBefore_77 : decode cX1_isBefore 77 = .ok (.iconst 0, 1) := by decide +kernel
theorem dX1_isBefore_78 : decode cX1_isBefore 78 = .ok (.ireturn, 1) := by decide +kernel
def f_X1_isBefore (x1 : Int32) (x2 : Int32) (x3 : Int32) (x4 : Int32) (n_this_lists_cells : Nat) (n_this_days_cells : Nat) (n_this_contributors_cells : Nat) (g_this_lists_cells : Nat → Int32) (g_this_days_cells : Nat → Int32) (g_this_contributors_cells : Nat → Int32) : Option (Int32) :=
  ((f_X6_at x1 n_this_lists_cells g_this_lists_cells).bind fun r5 => (if r5 = x2 then ((f_X6_at x1 n_this_days_cells g_this_days_cells).bind fun r35 => (if r35 = x3 then ((f_X6_at x1 n_this_contributors_cells g_this_contributors_cells).bind fun r65 => (if x4 ≤ r65 then (some (0 : Int32)) else (some (1 : Int32)))) else ((f_X6_at x1 n_this_days_cells g_this_days_cells).bind fun r47 => (if x3 ≤ r47 then (some (0 : Int32)) else (some (1 : Int32)))))) else ((f_X6_at x1 n_this_lists_cells g_this_lists_cells).bind fun r17 => (if x2 ≤ r17 then (some (0 : Int32)) else (some (1 : Int32))))))
set_option maxHeartbeats 4000000 in
set_option maxRecDepth 100000 in
theorem c_X1_isBefore (l : Launch) (D : va_G) (cI cB cL cO : ClassId) (pf : Nat → Nat) (N : Nat) (a_this a_this_lists a_this_days a_this_contributors a_this_points a_this_lists_cells a_this_days_cells a_this_contributors_cells : Nat) (n_this_lists_cells : Nat) (n_this_days_cells : Nat) (n_this_contributors_cells : Nat) (v_this_size : Int32) (g_this_lists_cells : Nat → Int32) (g_this_days_cells : Nat → Int32) (g_this_contributors_cells : Nat → Int32) (x1 : Int32) (x2 : Int32) (x3 : Int32) (x4 : Int32) (o : Int32) (h : f_X1_isBefore x1 x2 x3 x4 n_this_lists_cells n_this_days_cells n_this_contributors_cells g_this_lists_cells g_this_days_cells g_this_contributors_cells = some o) : Ct l D [(cI, .int), (cB, .byte), (cL, .long), (cO, .object RX0)] pf yX1_isBefore cX1_isBefore 5 (some FieldType.boolean) { frames := 1, cells := 0, slots := 0, locals := 21 } [.ref a_this, .int x1, .int x2, .int x3, .int x4] [(a_this, .inr (1, [.ref a_this_lists, .ref a_this_days, .ref a_this_contributors, .ref a_this_points, .int v_this_size])), (a_this_lists, .inr (6, [.ref a_this_lists_cells])), (a_this_lists_cells, .inl (cI, n_this_lists_cells, .inl g_this_lists_cells)), (a_this_days, .inr (6, [.ref a_this_days_cells])), (a_this_days_cells, .inl (cI, n_this_days_cells, .inl g_this_days_cells)), (a_this_contributors, .inr (6, [.ref a_this_contributors_cells])), (a_this_contributors_cells, .inl (cI, n_this_contributors_cells, .inl g_this_contributors_cells))] (is1 (some (.int o)) [(a_this, .inr (1, [.ref a_this_lists, .ref a_this_days, .ref a_this_contributors, .ref a_this_points, .int v_this_size])), (a_this_lists, .inr (6, [.ref a_this_lists_cells])), (a_this_lists_cells, .inl (cI, n_this_lists_cells, .inl g_this_lists_cells)), (a_this_days, .inr (6, [.ref a_this_days_cells])), (a_this_days_cells, .inl (cI, n_this_days_cells, .inl g_this_days_cells)), (a_this_contributors, .inr (6, [.ref a_this_contributors_cells])), (a_this_contributors_cells, .inl (cI, n_this_contributors_cells, .inl g_this_contributors_cells))]) := by
  refine Ct_of (own := RX1) (lv0 := [(0, .ref a_this), (1, .int x1), (2, .int x2), (3, .int x3), (4, .int x4)]) (by decide) rfl rfl (Nat.le_of_ble_eq_true rfl) ?_
  intro p e s m args below meth c C hr hnm
  unfold f_X1_isBefore at h
  refine J_aload_n (pc := 0) C dX1_isBefore_0 0 rfl ?_
  refine J_get (pc := 1) C dX1_isBefore_1 jf_X1 0 rfl rfl 0 (by decide) rfl fl_RX1_14 rfl ?_
  refine J_iload_n (pc := 4) C dX1_isBefore_4 1 rfl ?_
  refine J_cvr (pc := 5) (As := [.int x1]) (st := []) C dX1_isBefore_5 ml_RX1_37 mi_yX6_at (fun r5 hr => c_X6_at l D cI cB cL cO pf 0 a_this_lists a_this_lists_cells n_this_lists_cells g_this_lists_cells x1 r5 hr) h [1, 2] rfl rfl rfl rfl rfl ⟨rfl, rfl⟩ ⟨(Nat.le_of_ble_eq_true rfl), (Nat.le_of_ble_eq_true rfl)⟩ ⟨Nat.zero_le _, Nat.zero_le _⟩ (Nat.le_of_ble_eq_true rfl) (fun r5 h => ?_)
  refine J_iload_n (pc := 8) C dX1_isBefore_8 2 rfl ?_
  refine J_ic_eq (pc := 9) (tgt := 30) C dX1_isBefore_9 (by decide) h (fun h => ?_) (fun h => ?_)
  · refine J_aload_n (pc := 30) C dX1_isBefore_30 0 rfl ?_
    refine J_get (pc := 31) C dX1_isBefore_31 jf_X1 0 rfl rfl 1 (by decide) rfl fl_RX1_20 rfl ?_
    refine J_iload_n (pc := 34) C dX1_isBefore_34 1 rfl ?_
    refine J_cvr (pc := 35) (As := [.int x1]) (st := []) C dX1_isBefore_35 ml_RX1_37 mi_yX6_at (fun r35 hr => c_X6_at l D cI cB cL cO pf 0 a_this_days a_this_days_cells n_this_days_cells g_this_days_cells x1 r35 hr) h [3, 4] rfl rfl rfl rfl rfl ⟨rfl, rfl⟩ ⟨(Nat.le_of_ble_eq_true rfl), (Nat.le_of_ble_eq_true rfl)⟩ ⟨Nat.zero_le _, Nat.zero_le _⟩ (Nat.le_of_ble_eq_true rfl) (fun r35 h => ?_)
    refine J_iload_n (pc := 38) C dX1_isBefore_38 3 rfl ?_
    refine J_ic_eq (pc := 39) (tgt := 60) C dX1_isBefore_39 (by decide) h (fun h => ?_) (fun h => ?_)
    · refine J_aload_n (pc := 60) C dX1_isBefore_60 0 rfl ?_
      refine J_get (pc := 61) C dX1_isBefore_61 jf_X1 0 rfl rfl 2 (by decide) rfl fl_RX1_23 rfl ?_
      refine J_iload_n (pc := 64) C dX1_isBefore_64 1 rfl ?_
      refine J_cvr (pc := 65) (As := [.int x1]) (st := []) C dX1_isBefore_65 ml_RX1_37 mi_yX6_at (fun r65 hr => c_X6_at l D cI cB cL cO pf 0 a_this_contributors a_this_contributors_cells n_this_contributors_cells g_this_contributors_cells x1 r65 hr) h [5, 6] rfl rfl rfl rfl rfl ⟨rfl, rfl⟩ ⟨(Nat.le_of_ble_eq_true rfl), (Nat.le_of_ble_eq_true rfl)⟩ ⟨Nat.zero_le _, Nat.zero_le _⟩ (Nat.le_of_ble_eq_true rfl) (fun r65 h => ?_)
      refine J_iload (pc := 68) C dX1_isBefore_68 4 rfl ?_
      refine J_ic_ge (pc := 70) (tgt := 77) C dX1_isBefore_70 (by decide) h (fun h => ?_) (fun h => ?_)
      · refine J_iconst (v := (0 : Int32)) (pc := 77) C dX1_isBefore_77 (by decide) ?_
        cases h
        exact J_zret (pc := 78) C dX1_isBefore_78 hr rfl ⟨rfl, rfl⟩
      · refine J_iconst (v := (1 : Int32)) (pc := 73) C dX1_isBefore_73 (by decide) ?_
        refine J_goto (tgt := 78) (pc := 74) C dX1_isBefore_74 (by decide) ?_
        cases h
        exact J_zret (pc := 78) C dX1_isBefore_78 hr rfl ⟨rfl, rfl⟩
    · refine J_aload_n (pc := 42) C dX1_isBefore_42 0 rfl ?_
      refine J_get (pc := 43) C dX1_isBefore_43 jf_X1 0 rfl rfl 1 (by decide) rfl fl_RX1_20 rfl ?_
      refine J_iload_n (pc := 46) C dX1_isBefore_46 1 rfl ?_
      refine J_cvr (pc := 47) (As := [.int x1]) (st := []) C dX1_isBefore_47 ml_RX1_37 mi_yX6_at (fun r47 hr => c_X6_at l D cI cB cL cO pf 0 a_this_days a_this_days_cells n_this_days_cells g_this_days_cells x1 r47 hr) h [3, 4] rfl rfl rfl rfl rfl ⟨rfl, rfl⟩ ⟨(Nat.le_of_ble_eq_true rfl), (Nat.le_of_ble_eq_true rfl)⟩ ⟨Nat.zero_le _, Nat.zero_le _⟩ (Nat.le_of_ble_eq_true rfl) (fun r47 h => ?_)
      refine J_iload_n (pc := 50) C dX1_isBefore_50 3 rfl ?_
      refine J_ic_ge (pc := 51) (tgt := 58) C dX1_isBefore_51 (by decide) h (fun h => ?_) (fun h => ?_)
      · refine J_iconst (v := (0 : Int32)) (pc := 58) C dX1_isBefore_58 (by decide) ?_
        cases h
        exact J_zret (pc := 59) C dX1_isBefore_59 hr rfl ⟨rfl, rfl⟩
      · refine J_iconst (v := (1 : Int32)) (pc := 54) C dX1_isBefore_54 (by decide) ?_
        refine J_goto (tgt := 59) (pc := 55) C dX1_isBefore_55 (by decide) ?_
        cases h
        exact J_zret (pc := 59) C dX1_isBefore_59 hr rfl ⟨rfl, rfl⟩
  · refine J_aload_n (pc := 12) C dX1_isBefore_12 0 rfl ?_
    refine J_get (pc := 13) C dX1_isBefore_13 jf_X1 0 rfl rfl 0 (by decide) rfl fl_RX1_14 rfl ?_
    refine J_iload_n (pc := 16) C dX1_isBefore_16 1 rfl ?_
    refine J_cvr (pc := 17) (As := [.int x1]) (st := []) C dX1_isBefore_17 ml_RX1_37 mi_yX6_at (fun r17 hr => c_X6_at l D cI cB cL cO pf 0 a_this_lists a_this_lists_cells n_this_lists_cells g_this_lists_cells x1 r17 hr) h [1, 2] rfl rfl rfl rfl rfl ⟨rfl, rfl⟩ ⟨(Nat.le_of_ble_eq_true rfl), (Nat.le_of_ble_eq_true rfl)⟩ ⟨Nat.zero_le _, Nat.zero_le _⟩ (Nat.le_of_ble_eq_true rfl) (fun r17 h => ?_)
    refine J_iload_n (pc := 20) C dX1_isBefore_20 2 rfl ?_
    refine J_ic_ge (pc := 21) (tgt := 28) C dX1_isBefore_21 (by decide) h (fun h => ?_) (fun h => ?_)
    · refine J_iconst (v := (0 : Int32)) (pc := 28) C dX1_isBefore_28 (by decide) ?_
      cases h
      exact J_zret (pc := 29) C dX1_isBefore_29 hr rfl ⟨rfl, rfl⟩
    · refine J_iconst (v := (1 : Int32)) (pc := 24) C dX1_isBefore_24 (by decide) ?_
      refine J_goto (tgt := 29) (pc := 25) C dX1_isBefore_25 (by decide) ?_
      cases h
      exact J_zret (pc := 29) C dX1_isBefore_29 hr rfl ⟨rfl, rfl⟩
-- PointsLedger$Row.move(III)V
theorem dX6_move_0 : decode cX6_move 0 = .ok (.iload_n 1, 1) := by decide +kernel
theorem dX6_move_1 : decode cX6_move 1 = .ok (.ifCond .lt 37, 3) := by decide +kernel
theorem dX6_move_4 : decode cX6_move 4 = .ok (.iload_n 2, 1) := by decide +kernel
theorem dX6_move_5 : decode cX6_move 5 = .ok (.ifCond .lt 33, 3) := by decide +kernel
theorem dX6_move_8 : decode cX6_move 8 = .ok (.iload_n 3, 1) := by decide +kernel
theorem dX6_move_9 : decode cX6_move 9 = .ok (.ifCond .le 29, 3) := by decide +kernel
theorem dX6_move_12 : decode cX6_move 12 = .ok (.iload_n 1, 1) := by decide +kernel
theorem dX6_move_13 : decode cX6_move 13 = .ok (.aload_n 0, 1) := by decide +kernel
theorem dX6_move_14 : decode cX6_move 14 = .ok (.getfield 7, 3) := by decide +kernel
theorem dX6_move_17 : decode cX6_move 17 = .ok (.arraylength, 1) := by decide +kernel
theorem dX6_move_18 : decode cX6_move 18 = .ok (.iload_n 3, 1) := by decide +kernel
theorem dX6_move_19 : decode cX6_move 19 = .ok (.isub, 1) := by decide +kernel
theorem dX6_move_20 : decode cX6_move 20 = .ok (.if_icmp .gt 18, 3) := by decide +kernel
theorem dX6_move_23 : decode cX6_move 23 = .ok (.iload_n 2, 1) := by decide +kernel
theorem dX6_move_24 : decode cX6_move 24 = .ok (.aload_n 0, 1) := by decide +kernel
theorem dX6_move_25 : decode cX6_move 25 = .ok (.getfield 7, 3) := by decide +kernel
theorem dX6_move_28 : decode cX6_move 28 = .ok (.arraylength, 1) := by decide +kernel
theorem dX6_move_29 : decode cX6_move 29 = .ok (.iload_n 3, 1) := by decide +kernel
theorem dX6_move_30 : decode cX6_move 30 = .ok (.isub, 1) := by decide +kernel
theorem dX6_move_31 : decode cX6_move 31 = .ok (.if_icmp .gt 7, 3) := by decide +kernel
theorem dX6_move_34 : decode cX6_move 34 = .ok (.iconst 1, 1) := by decide +kernel
theorem dX6_move_35 : decode cX6_move 35 = .ok (.goto 4, 3) := by decide +kernel
theorem dX6_move_38 : decode cX6_move 38 = .ok (.iconst 0, 1) := by decide +kernel
theorem dX6_move_39 : decode cX6_move 39 = .ok (.istore 4, 2) := by decide +kernel
theorem dX6_move_41 : decode cX6_move 41 = .ok (.iload 4, 2) := by decide +kernel
theorem dX6_move_43 : decode cX6_move 43 = .ok (.ifCond .eq 17, 3) := by decide +kernel
theorem dX6_move_46 : decode cX6_move 46 = .ok (.aload_n 0, 1) := by decide +kernel
theorem dX6_move_47 : decode cX6_move 47 = .ok (.getfield 7, 3) := by decide +kernel
theorem dX6_move_50 : decode cX6_move 50 = .ok (.iload_n 1, 1) := by decide +kernel
theorem dX6_move_51 : decode cX6_move 51 = .ok (.aload_n 0, 1) := by decide +kernel
theorem dX6_move_52 : decode cX6_move 52 = .ok (.getfield 7, 3) := by decide +kernel
theorem dX6_move_55 : decode cX6_move 55 = .ok (.iload_n 2, 1) := by decide +kernel
theorem dX6_move_56 : decode cX6_move 56 = .ok (.iload_n 3, 1) := by decide +kernel
theorem dX6_move_57 : decode cX6_move 57 = .ok (.invokestatic 26, 3) := by decide +kernel
theorem dX6_move_60 : decode cX6_move 60 = .ok (.return_, 1) := by decide +kernel
def f_X6_move_b39 (x1 : Int32) (x2 : Int32) (x3 : Int32) (s0 : Int32) (n_this_cells : Nat) (g_this_cells : Nat → Int32) : Option ((Nat → Int32)) :=
  (if s0 = 0 then (some g_this_cells) else (if x1 < 0 ∨ x2 < 0 ∨ x3 < 0 ∨ n_this_cells < x1.toNatClampNeg + x3.toNatClampNeg ∨ n_this_cells < x2.toNatClampNeg + x3.toNatClampNeg then none else ((some (va_cpy g_this_cells g_this_cells x1.toNatClampNeg x2.toNatClampNeg x3.toNatClampNeg)).bind fun h57 => (some h57))))
def f_X6_move_b38 (x1 : Int32) (x2 : Int32) (x3 : Int32) (n_this_cells : Nat) (g_this_cells : Nat → Int32) : Option ((Nat → Int32)) :=
  (f_X6_move_b39 x1 x2 x3 (0 : Int32) n_this_cells g_this_cells)
def f_X6_move (x1 : Int32) (x2 : Int32) (x3 : Int32) (n_this_cells : Nat) (g_this_cells : Nat → Int32) : Option ((Nat → Int32)) :=
  (if x1 < 0 then (f_X6_move_b38 x1 x2 x3 n_this_cells g_this_cells) else (if x2 < 0 then (f_X6_move_b38 x1 x2 x3 n_this_cells g_this_cells) else (if x3 ≤ 0 then (f_X6_move_b38 x1 x2 x3 n_this_cells g_this_cells) else (if ((nI n_this_cells) - x3) < x1 then (f_X6_move_b38 x1 x2 x3 n_this_cells g_this_cells) else (if ((nI n_this_cells) - x3) < x2 then (f_X6_move_b38 x1 x2 x3 n_this_cells g_this_cells) else (f_X6_move_b39 x1 x2 x3 (1 : Int32) n_this_cells g_this_cells))))))
set_option maxHeartbeats 4000000 in
set_option maxRecDepth 100000 in
theorem t_X6_move_b39 {l : Launch} {D : va_G} {cI cB cL cO : ClassId} {pf : Nat → Nat} {p : Program} {e : Env} {s : State} {m : MethodId} {args : Array Value} {below : List Frame} {meth : Method} {c : Code} {W0 : va_W} {a_this a_this_cells : Nat}  {n_this_cells : Nat} {g_this_cells : Nat → Int32} {x1 : Int32} {x2 : Int32} {x3 : Int32} {s0 : Int32} {o : (Nat → Int32)} (C : jC p s m args meth c cX6_move 5 RX6 D [(cI, .int), (cB, .byte), (cL, .long), (cO, .object RX0)] pf (va_A W0 s.heap.size)) (hr : meth.sig.returnType = (none : Option FieldType)) (h : f_X6_move_b39 x1 x2 x3 s0 n_this_cells g_this_cells = some o) : J p l e { frames := 1, cells := 0, slots := 0, locals := 60 } s m args below meth c 5 D (va_A W0 s.heap.size) (MQ below (jQ D [(cI, .int), (cB, .byte), (cL, .long), (cO, .object RX0)] W0 s.heap.size (is1 (none) [(a_this, .inr (6, [.ref a_this_cells])), (a_this_cells, .inl (cI, n_this_cells, .inl o))])) args s 0 0 (va_A W0 s.heap.size)) 0 0 39 [(0, .ref a_this), (1, .int x1), (2, .int x2), (3, .int x3)] [.int s0] [(a_this, .inr (6, [.ref a_this_cells])), (a_this_cells, .inl (cI, n_this_cells, .inl g_this_cells))] := by
  unfold f_X6_move_b39 at h
  refine J_istore (lv2 := [(4, .int s0), (0, .ref a_this), (1, .int x1), (2, .int x2), (3, .int x3)]) (pc := 39) C dX6_move_39 (by decide) rfl ?_
  refine J_iload (pc := 41) C dX6_move_41 0 rfl ?_
  refine J_if_eq (pc := 43) (tgt := 60) C dX6_move_43 (by decide) h (fun h => ?_) (fun h => ?_)
  · cases h
    exact J_vret (pc := 60) C dX6_move_60 hr ⟨rfl, rfl⟩
  · refine J_aload_n (pc := 46) C dX6_move_46 1 rfl ?_
    refine J_get (pc := 47) C dX6_move_47 jf_X6 0 rfl rfl 0 (by decide) rfl fl_RX6_7 rfl ?_
    refine J_iload_n (pc := 50) C dX6_move_50 2 rfl ?_
    refine J_aload_n (pc := 51) C dX6_move_51 1 rfl ?_
    refine J_get (pc := 52) C dX6_move_52 jf_X6 0 rfl rfl 0 (by decide) rfl fl_RX6_7 rfl ?_
    refine J_iload_n (pc := 55) C dX6_move_55 3 rfl ?_
    refine J_iload_n (pc := 56) C dX6_move_56 4 rfl ?_
    refine J_copyN (pc := 57) C (fun h57 => [(a_this, .inr (6, [.ref a_this_cells])), (a_this_cells, .inl (cI, n_this_cells, .inl h57))]) dX6_move_57 ml_RX6_26 1 1 0 0 rfl rfl rfl rfl h (Nat.le_of_ble_eq_true rfl) (Nat.le_of_ble_eq_true rfl) (fun _ => rfl) (fun h57 h => ?_)
    cases h
    exact J_vret (pc := 60) C dX6_move_60 hr ⟨rfl, rfl⟩
set_option maxHeartbeats 4000000 in
set_option maxRecDepth 100000 in
theorem t_X6_move_b38 {l : Launch} {D : va_G} {cI cB cL cO : ClassId} {pf : Nat → Nat} {p : Program} {e : Env} {s : State} {m : MethodId} {args : Array Value} {below : List Frame} {meth : Method} {c : Code} {W0 : va_W} {a_this a_this_cells : Nat}  {n_this_cells : Nat} {g_this_cells : Nat → Int32} {x1 : Int32} {x2 : Int32} {x3 : Int32} {o : (Nat → Int32)} (C : jC p s m args meth c cX6_move 5 RX6 D [(cI, .int), (cB, .byte), (cL, .long), (cO, .object RX0)] pf (va_A W0 s.heap.size)) (hr : meth.sig.returnType = (none : Option FieldType)) (h : f_X6_move_b38 x1 x2 x3 n_this_cells g_this_cells = some o) : J p l e { frames := 1, cells := 0, slots := 0, locals := 60 } s m args below meth c 5 D (va_A W0 s.heap.size) (MQ below (jQ D [(cI, .int), (cB, .byte), (cL, .long), (cO, .object RX0)] W0 s.heap.size (is1 (none) [(a_this, .inr (6, [.ref a_this_cells])), (a_this_cells, .inl (cI, n_this_cells, .inl o))])) args s 0 0 (va_A W0 s.heap.size)) 0 0 38 [(0, .ref a_this), (1, .int x1), (2, .int x2), (3, .int x3)] [] [(a_this, .inr (6, [.ref a_this_cells])), (a_this_cells, .inl (cI, n_this_cells, .inl g_this_cells))] := by
  unfold f_X6_move_b38 at h
  refine J_iconst (v := (0 : Int32)) (pc := 38) C dX6_move_38 (by decide) ?_
  exact t_X6_move_b39 C hr h
set_option maxHeartbeats 4000000 in
set_option maxRecDepth 100000 in
theorem c_X6_move (l : Launch) (D : va_G) (cI cB cL cO : ClassId) (pf : Nat → Nat) (N : Nat) (a_this a_this_cells : Nat) (n_this_cells : Nat) (g_this_cells : Nat → Int32) (x1 : Int32) (x2 : Int32) (x3 : Int32) (o : (Nat → Int32)) (h : f_X6_move x1 x2 x3 n_this_cells g_this_cells = some o) : Ct l D [(cI, .int), (cB, .byte), (cL, .long), (cO, .object RX0)] pf yX6_move cX6_move 5 (none : Option FieldType) { frames := 1, cells := 0, slots := 0, locals := 60 } [.ref a_this, .int x1, .int x2, .int x3] [(a_this, .inr (6, [.ref a_this_cells])), (a_this_cells, .inl (cI, n_this_cells, .inl g_this_cells))] (is1 (none) [(a_this, .inr (6, [.ref a_this_cells])), (a_this_cells, .inl (cI, n_this_cells, .inl o))]) := by
  refine Ct_of (own := RX6) (lv0 := [(0, .ref a_this), (1, .int x1), (2, .int x2), (3, .int x3)]) (by decide) rfl rfl (Nat.le_of_ble_eq_true rfl) ?_
  intro p e s m args below meth c C hr hnm
  unfold f_X6_move at h
  refine J_iload_n (pc := 0) C dX6_move_0 1 rfl ?_
  refine J_if_lt (pc := 1) (tgt := 38) C dX6_move_1 (by decide) h (fun h => ?_) (fun h => ?_)
  · exact t_X6_move_b38 C hr h
  · refine J_iload_n (pc := 4) C dX6_move_4 2 rfl ?_
    refine J_if_lt (pc := 5) (tgt := 38) C dX6_move_5 (by decide) h (fun h => ?_) (fun h => ?_)
    · exact t_X6_move_b38 C hr h
    · refine J_iload_n (pc := 8) C dX6_move_8 3 rfl ?_
      refine J_if_le (pc := 9) (tgt := 38) C dX6_move_9 (by decide) h (fun h => ?_) (fun h => ?_)
      · exact t_X6_move_b38 C hr h
      · refine J_iload_n (pc := 12) C dX6_move_12 1 rfl ?_
        refine J_aload_n (pc := 13) C dX6_move_13 0 rfl ?_
        refine J_get (pc := 14) C dX6_move_14 jf_X6 0 rfl rfl 0 (by decide) rfl fl_RX6_7 rfl ?_
        refine J_alen (pc := 17) C dX6_move_17 1 0 rfl rfl ?_
        refine J_iload_n (pc := 18) C dX6_move_18 3 rfl ?_
        refine J_isub (pc := 19) C dX6_move_19 ?_
        refine J_ic_gt (pc := 20) (tgt := 38) C dX6_move_20 (by decide) h (fun h => ?_) (fun h => ?_)
        · exact t_X6_move_b38 C hr h
        · refine J_iload_n (pc := 23) C dX6_move_23 2 rfl ?_
          refine J_aload_n (pc := 24) C dX6_move_24 0 rfl ?_
          refine J_get (pc := 25) C dX6_move_25 jf_X6 0 rfl rfl 0 (by decide) rfl fl_RX6_7 rfl ?_
          refine J_alen (pc := 28) C dX6_move_28 1 0 rfl rfl ?_
          refine J_iload_n (pc := 29) C dX6_move_29 3 rfl ?_
          refine J_isub (pc := 30) C dX6_move_30 ?_
          refine J_ic_gt (pc := 31) (tgt := 38) C dX6_move_31 (by decide) h (fun h => ?_) (fun h => ?_)
          · exact t_X6_move_b38 C hr h
          · refine J_iconst (v := (1 : Int32)) (pc := 34) C dX6_move_34 (by decide) ?_
            refine J_goto (tgt := 39) (pc := 35) C dX6_move_35 (by decide) ?_
            exact t_X6_move_b39 C hr h
-- PointsLedger$Cohorts.shift(II)V
theorem dX1_shift_0 : decode cX1_shift 0 = .ok (.aload_n 0, 1) := by decide +kernel
theorem dX1_shift_1 : decode cX1_shift 1 = .ok (.getfield 14, 3) := by decide +kernel
theorem dX1_shift_4 : decode cX1_shift 4 = .ok (.iload_n 1, 1) := by decide +kernel
theorem dX1_shift_5 : decode cX1_shift 5 = .ok (.iload_n 2, 1) := by decide +kernel
theorem dX1_shift_6 : decode cX1_shift 6 = .ok (.aload_n 0, 1) := by decide +kernel
theorem dX1_shift_7 : decode cX1_shift 7 = .ok (.getfield 29, 3) := by decide +kernel
theorem dX1_shift_10 : decode cX1_shift 10 = .ok (.iload_n 1, 1) := by decide +kernel
theorem dX1_shift_11 : decode cX1_shift 11 = .ok (.isub, 1) := by decide +kernel
theorem dX1_shift_12 : decode cX1_shift 12 = .ok (.invokevirtual 63, 3) := by decide +kernel
theorem dX1_shift_15 : decode cX1_shift 15 = .ok (.aload_n 0, 1) := by decide +kernel
theorem dX1_shift_16 : decode cX1_shift 16 = .ok (.getfield 20, 3) := by decide +kernel
theorem dX1_shift_19 : decode cX1_shift 19 = .ok (.iload_n 1, 1) := by decide +kernel
theorem dX1_shift_20 : decode cX1_shift 20 = .ok (.iload_n 2, 1) := by decide +kernel
theorem dX1_shift_21 : decode cX1_shift 21 = .ok (.aload_n 0, 1) := by decide +kernel
theorem dX1_shift_22 : decode cX1_shift 22 = .ok (.getfield 29, 3) := by decide +kernel
theorem dX1_shift_25 : decode cX1_shift 25 = .ok (.iload_n 1, 1) := by decide +kernel
theorem dX1_shift_26 : decode cX1_shift 26 = .ok (.isub, 1) := by decide +kernel
theorem dX1_shift_27 : decode cX1_shift 27 = .ok (.invokevirtual 63, 3) := by decide +kernel
theorem dX1_shift_30 : decode cX1_shift 30 = .ok (.aload_n 0, 1) := by decide +kernel
theorem dX1_shift_31 : decode cX1_shift 31 = .ok (.getfield 23, 3) := by decide +kernel
theorem dX1_shift_34 : decode cX1_shift 34 = .ok (.iload_n 1, 1) := by decide +kernel
theorem dX1_shift_35 : decode cX1_shift 35 = .ok (.iload_n 2, 1) := by decide +kernel
theorem dX1_shift_36 : decode cX1_shift 36 = .ok (.aload_n 0, 1) := by decide +kernel
theorem dX1_shift_37 : decode cX1_shift 37 = .ok (.getfield 29, 3) := by decide +kernel
theorem dX1_shift_40 : decode cX1_shift 40 = .ok (.iload_n 1, 1) := by decide +kernel
theorem dX1_shift_41 : decode cX1_shift 41 = .ok (.isub, 1) := by decide +kernel
theorem dX1_shift_42 : decode cX1_shift 42 = .ok (.invokevirtual 63, 3) := by decide +kernel
theorem dX1_shift_45 : decode cX1_shift 45 = .ok (.aload_n 0, 1) := by decide +kernel
theorem dX1_shift_46 : decode cX1_shift 46 = .ok (.getfield 26, 3) := by decide +kernel
theorem dX1_shift_49 : decode cX1_shift 49 = .ok (.iload_n 1, 1) := by decide +kernel
theorem dX1_shift_50 : decode cX1_shift 50 = .ok (.iload_n 2, 1) := by decide +kernel
theorem dX1_shift_51 : decode cX1_shift 51 = .ok (.aload_n 0, 1) := by decide +kernel
theorem dX1_shift_52 : decode cX1_shift 52 = .ok (.getfield 29, 3) := by decide +kernel
theorem dX1_shift_55 : decode cX1_shift 55 = .ok (.iload_n 1, 1) := by decide +kernel
theorem dX1_shift_56 : decode cX1_shift 56 = .ok (.isub, 1) := by decide +kernel
theorem dX1_shift_57 : decode cX1_shift 57 = .ok (.invokevirtual 63, 3) := by decide +kernel
theorem dX1_shift_60 : decode cX1_shift 60 = .ok (.aload_n 0, 1) := by decide +kernel
theorem dX1_shift_61 : decode cX1_shift 61 = .ok (.dup, 1) := by decide +kernel
theorem dX1_shift_62 : decode cX1_shift 62 = .ok (.getfield 29, 3) := by decide +kernel
theorem dX1_shift_65 : decode cX1_shift 65 = .ok (.iload_n 2, 1) := by decide +kernel
theorem dX1_shift_66 : decode cX1_shift 66 = .ok (.iload_n 1, 1) := by decide +kernel
theorem dX1_shift_67 : decode cX1_shift 67 = .ok (.isub, 1) := by decide +kernel
theorem dX1_shift_68 : decode cX1_shift 68 = .ok (.iadd, 1) := by decide +kernel
theorem dX1_shift_69 : decode cX1_shift 69 = .ok (.putfield 29, 3) := by decide +kernel
theorem dX1_shift_72 : decode cX1_shift 72 = .ok (.return_, 1) := by decide +kernel
def f_X1_shift (x1 : Int32) (x2 : Int32) (n_this_lists_cells : Nat) (n_this_days_cells : Nat) (n_this_contributors_cells : Nat) (n_this_points_cells : Nat) (v_this_size : Int32) (g_this_lists_cells : Nat → Int32) (g_this_days_cells : Nat → Int32) (g_this_contributors_cells : Nat → Int32) (g_this_points_cells : Nat → Int32) : Option (Int32 × (Nat → Int32) × (Nat → Int32) × (Nat → Int32) × (Nat → Int32)) :=
  ((f_X6_move x1 x2 (v_this_size - x1) n_this_lists_cells g_this_lists_cells).bind fun r12 => ((f_X6_move x1 x2 (v_this_size - x1) n_this_days_cells g_this_days_cells).bind fun r27 => ((f_X6_move x1 x2 (v_this_size - x1) n_this_contributors_cells g_this_contributors_cells).bind fun r42 => ((f_X6_move x1 x2 (v_this_size - x1) n_this_points_cells g_this_points_cells).bind fun r57 => (some ((v_this_size + (x2 - x1)), r12, r27, r42, r57))))))
set_option maxHeartbeats 4000000 in
set_option maxRecDepth 100000 in
theorem c_X1_shift (l : Launch) (D : va_G) (cI cB cL cO : ClassId) (pf : Nat → Nat) (N : Nat) (a_this a_this_lists a_this_days a_this_contributors a_this_points a_this_lists_cells a_this_days_cells a_this_contributors_cells a_this_points_cells : Nat) (n_this_lists_cells : Nat) (n_this_days_cells : Nat) (n_this_contributors_cells : Nat) (n_this_points_cells : Nat) (v_this_size : Int32) (g_this_lists_cells : Nat → Int32) (g_this_days_cells : Nat → Int32) (g_this_contributors_cells : Nat → Int32) (g_this_points_cells : Nat → Int32) (x1 : Int32) (x2 : Int32) (o : Int32 × (Nat → Int32) × (Nat → Int32) × (Nat → Int32) × (Nat → Int32)) (h : f_X1_shift x1 x2 n_this_lists_cells n_this_days_cells n_this_contributors_cells n_this_points_cells v_this_size g_this_lists_cells g_this_days_cells g_this_contributors_cells g_this_points_cells = some o) : Ct l D [(cI, .int), (cB, .byte), (cL, .long), (cO, .object RX0)] pf yX1_shift cX1_shift 3 (none : Option FieldType) { frames := 2, cells := 0, slots := 0, locals := 84 } [.ref a_this, .int x1, .int x2] [(a_this, .inr (1, [.ref a_this_lists, .ref a_this_days, .ref a_this_contributors, .ref a_this_points, .int v_this_size])), (a_this_lists, .inr (6, [.ref a_this_lists_cells])), (a_this_lists_cells, .inl (cI, n_this_lists_cells, .inl g_this_lists_cells)), (a_this_days, .inr (6, [.ref a_this_days_cells])), (a_this_days_cells, .inl (cI, n_this_days_cells, .inl g_this_days_cells)), (a_this_contributors, .inr (6, [.ref a_this_contributors_cells])), (a_this_contributors_cells, .inl (cI, n_this_contributors_cells, .inl g_this_contributors_cells)), (a_this_points, .inr (6, [.ref a_this_points_cells])), (a_this_points_cells, .inl (cI, n_this_points_cells, .inl g_this_points_cells))] (is1 (none) [(a_this, .inr (1, [.ref a_this_lists, .ref a_this_days, .ref a_this_contributors, .ref a_this_points, .int o.1])), (a_this_lists, .inr (6, [.ref a_this_lists_cells])), (a_this_lists_cells, .inl (cI, n_this_lists_cells, .inl o.2.1)), (a_this_days, .inr (6, [.ref a_this_days_cells])), (a_this_days_cells, .inl (cI, n_this_days_cells, .inl o.2.2.1)), (a_this_contributors, .inr (6, [.ref a_this_contributors_cells])), (a_this_contributors_cells, .inl (cI, n_this_contributors_cells, .inl o.2.2.2.1)), (a_this_points, .inr (6, [.ref a_this_points_cells])), (a_this_points_cells, .inl (cI, n_this_points_cells, .inl o.2.2.2.2))]) := by
  refine Ct_of (own := RX1) (lv0 := [(0, .ref a_this), (1, .int x1), (2, .int x2)]) (by decide) rfl rfl (Nat.le_of_ble_eq_true rfl) ?_
  intro p e s m args below meth c C hr hnm
  unfold f_X1_shift at h
  refine J_aload_n (pc := 0) C dX1_shift_0 0 rfl ?_
  refine J_get (pc := 1) C dX1_shift_1 jf_X1 0 rfl rfl 0 (by decide) rfl fl_RX1_14 rfl ?_
  refine J_iload_n (pc := 4) C dX1_shift_4 1 rfl ?_
  refine J_iload_n (pc := 5) C dX1_shift_5 2 rfl ?_
  refine J_aload_n (pc := 6) C dX1_shift_6 0 rfl ?_
  refine J_get (pc := 7) C dX1_shift_7 jf_X1 0 rfl rfl 4 (by decide) rfl fl_RX1_29 rfl ?_
  refine J_iload_n (pc := 10) C dX1_shift_10 1 rfl ?_
  refine J_isub (pc := 11) C dX1_shift_11 ?_
  refine J_cvw (pc := 12) (As := [.int x1, .int x2, .int (v_this_size - x1)]) (st := []) C (fun r12 => [(a_this, .inr (1, [.ref a_this_lists, .ref a_this_days, .ref a_this_contributors, .ref a_this_points, .int v_this_size])), (a_this_lists, .inr (6, [.ref a_this_lists_cells])), (a_this_lists_cells, .inl (cI, n_this_lists_cells, .inl r12)), (a_this_days, .inr (6, [.ref a_this_days_cells])), (a_this_days_cells, .inl (cI, n_this_days_cells, .inl g_this_days_cells)), (a_this_contributors, .inr (6, [.ref a_this_contributors_cells])), (a_this_contributors_cells, .inl (cI, n_this_contributors_cells, .inl g_this_contributors_cells)), (a_this_points, .inr (6, [.ref a_this_points_cells])), (a_this_points_cells, .inl (cI, n_this_points_cells, .inl g_this_points_cells))]) dX1_shift_12 ml_RX1_63 mi_yX6_move (fun r12 hr => c_X6_move l D cI cB cL cO pf 0 a_this_lists a_this_lists_cells n_this_lists_cells g_this_lists_cells x1 x2 (v_this_size - x1) r12 hr) h [1, 2] rfl rfl rfl rfl rfl ⟨rfl, rfl⟩ ⟨(Nat.le_of_ble_eq_true rfl), (Nat.le_of_ble_eq_true rfl)⟩ ⟨Nat.zero_le _, Nat.zero_le _⟩ (Nat.le_of_ble_eq_true rfl) (fun _ => rfl) (fun _ => rfl) (fun r12 h => ?_)
  refine J_aload_n (pc := 15) C dX1_shift_15 0 rfl ?_
  refine J_get (pc := 16) C dX1_shift_16 jf_X1 0 rfl rfl 1 (by decide) rfl fl_RX1_20 rfl ?_
  refine J_iload_n (pc := 19) C dX1_shift_19 1 rfl ?_
  refine J_iload_n (pc := 20) C dX1_shift_20 2 rfl ?_
  refine J_aload_n (pc := 21) C dX1_shift_21 0 rfl ?_
  refine J_get (pc := 22) C dX1_shift_22 jf_X1 0 rfl rfl 4 (by decide) rfl fl_RX1_29 rfl ?_
  refine J_iload_n (pc := 25) C dX1_shift_25 1 rfl ?_
  refine J_isub (pc := 26) C dX1_shift_26 ?_
  refine J_cvw (pc := 27) (As := [.int x1, .int x2, .int (v_this_size - x1)]) (st := []) C (fun r27 => [(a_this, .inr (1, [.ref a_this_lists, .ref a_this_days, .ref a_this_contributors, .ref a_this_points, .int v_this_size])), (a_this_lists, .inr (6, [.ref a_this_lists_cells])), (a_this_lists_cells, .inl (cI, n_this_lists_cells, .inl r12)), (a_this_days, .inr (6, [.ref a_this_days_cells])), (a_this_days_cells, .inl (cI, n_this_days_cells, .inl r27)), (a_this_contributors, .inr (6, [.ref a_this_contributors_cells])), (a_this_contributors_cells, .inl (cI, n_this_contributors_cells, .inl g_this_contributors_cells)), (a_this_points, .inr (6, [.ref a_this_points_cells])), (a_this_points_cells, .inl (cI, n_this_points_cells, .inl g_this_points_cells))]) dX1_shift_27 ml_RX1_63 mi_yX6_move (fun r27 hr => c_X6_move l D cI cB cL cO pf 0 a_this_days a_this_days_cells n_this_days_cells g_this_days_cells x1 x2 (v_this_size - x1) r27 hr) h [3, 4] rfl rfl rfl rfl rfl ⟨rfl, rfl⟩ ⟨(Nat.le_of_ble_eq_true rfl), (Nat.le_of_ble_eq_true rfl)⟩ ⟨Nat.zero_le _, Nat.zero_le _⟩ (Nat.le_of_ble_eq_true rfl) (fun _ => rfl) (fun _ => rfl) (fun r27 h => ?_)
  refine J_aload_n (pc := 30) C dX1_shift_30 0 rfl ?_
  refine J_get (pc := 31) C dX1_shift_31 jf_X1 0 rfl rfl 2 (by decide) rfl fl_RX1_23 rfl ?_
  refine J_iload_n (pc := 34) C dX1_shift_34 1 rfl ?_
  refine J_iload_n (pc := 35) C dX1_shift_35 2 rfl ?_
  refine J_aload_n (pc := 36) C dX1_shift_36 0 rfl ?_
  refine J_get (pc := 37) C dX1_shift_37 jf_X1 0 rfl rfl 4 (by decide) rfl fl_RX1_29 rfl ?_
  refine J_iload_n (pc := 40) C dX1_shift_40 1 rfl ?_
  refine J_isub (pc := 41) C dX1_shift_41 ?_
  refine J_cvw (pc := 42) (As := [.int x1, .int x2, .int (v_this_size - x1)]) (st := []) C (fun r42 => [(a_this, .inr (1, [.ref a_this_lists, .ref a_this_days, .ref a_this_contributors, .ref a_this_points, .int v_this_size])), (a_this_lists, .inr (6, [.ref a_this_lists_cells])), (a_this_lists_cells, .inl (cI, n_this_lists_cells, .inl r12)), (a_this_days, .inr (6, [.ref a_this_days_cells])), (a_this_days_cells, .inl (cI, n_this_days_cells, .inl r27)), (a_this_contributors, .inr (6, [.ref a_this_contributors_cells])), (a_this_contributors_cells, .inl (cI, n_this_contributors_cells, .inl r42)), (a_this_points, .inr (6, [.ref a_this_points_cells])), (a_this_points_cells, .inl (cI, n_this_points_cells, .inl g_this_points_cells))]) dX1_shift_42 ml_RX1_63 mi_yX6_move (fun r42 hr => c_X6_move l D cI cB cL cO pf 0 a_this_contributors a_this_contributors_cells n_this_contributors_cells g_this_contributors_cells x1 x2 (v_this_size - x1) r42 hr) h [5, 6] rfl rfl rfl rfl rfl ⟨rfl, rfl⟩ ⟨(Nat.le_of_ble_eq_true rfl), (Nat.le_of_ble_eq_true rfl)⟩ ⟨Nat.zero_le _, Nat.zero_le _⟩ (Nat.le_of_ble_eq_true rfl) (fun _ => rfl) (fun _ => rfl) (fun r42 h => ?_)
  refine J_aload_n (pc := 45) C dX1_shift_45 0 rfl ?_
  refine J_get (pc := 46) C dX1_shift_46 jf_X1 0 rfl rfl 3 (by decide) rfl fl_RX1_26 rfl ?_
  refine J_iload_n (pc := 49) C dX1_shift_49 1 rfl ?_
  refine J_iload_n (pc := 50) C dX1_shift_50 2 rfl ?_
  refine J_aload_n (pc := 51) C dX1_shift_51 0 rfl ?_
  refine J_get (pc := 52) C dX1_shift_52 jf_X1 0 rfl rfl 4 (by decide) rfl fl_RX1_29 rfl ?_
  refine J_iload_n (pc := 55) C dX1_shift_55 1 rfl ?_
  refine J_isub (pc := 56) C dX1_shift_56 ?_
  refine J_cvw (pc := 57) (As := [.int x1, .int x2, .int (v_this_size - x1)]) (st := []) C (fun r57 => [(a_this, .inr (1, [.ref a_this_lists, .ref a_this_days, .ref a_this_contributors, .ref a_this_points, .int v_this_size])), (a_this_lists, .inr (6, [.ref a_this_lists_cells])), (a_this_lists_cells, .inl (cI, n_this_lists_cells, .inl r12)), (a_this_days, .inr (6, [.ref a_this_days_cells])), (a_this_days_cells, .inl (cI, n_this_days_cells, .inl r27)), (a_this_contributors, .inr (6, [.ref a_this_contributors_cells])), (a_this_contributors_cells, .inl (cI, n_this_contributors_cells, .inl r42)), (a_this_points, .inr (6, [.ref a_this_points_cells])), (a_this_points_cells, .inl (cI, n_this_points_cells, .inl r57))]) dX1_shift_57 ml_RX1_63 mi_yX6_move (fun r57 hr => c_X6_move l D cI cB cL cO pf 0 a_this_points a_this_points_cells n_this_points_cells g_this_points_cells x1 x2 (v_this_size - x1) r57 hr) h [7, 8] rfl rfl rfl rfl rfl ⟨rfl, rfl⟩ ⟨(Nat.le_of_ble_eq_true rfl), (Nat.le_of_ble_eq_true rfl)⟩ ⟨Nat.zero_le _, Nat.zero_le _⟩ (Nat.le_of_ble_eq_true rfl) (fun _ => rfl) (fun _ => rfl) (fun r57 h => ?_)
  refine J_aload_n (pc := 60) C dX1_shift_60 0 rfl ?_
  refine J_dupr (pc := 61) C dX1_shift_61 ?_
  refine J_get (pc := 62) C dX1_shift_62 jf_X1 0 rfl rfl 4 (by decide) rfl fl_RX1_29 rfl ?_
  refine J_iload_n (pc := 65) C dX1_shift_65 2 rfl ?_
  refine J_iload_n (pc := 66) C dX1_shift_66 1 rfl ?_
  refine J_isub (pc := 67) C dX1_shift_67 ?_
  refine J_iadd (pc := 68) C dX1_shift_68 ?_
  refine J_put (tt := .int) (pc := 69) C dX1_shift_69 jf_X1 0 rfl rfl 4 (by decide) rfl fl_RX1_29 rfl (by decide +kernel) rfl rfl (Nat.le_of_ble_eq_true rfl) ?_
  refine J_ws (ws2 := [(a_this, .inr (1, [.ref a_this_lists, .ref a_this_days, .ref a_this_contributors, .ref a_this_points, .int (v_this_size + (x2 - x1))])), (a_this_lists, .inr (6, [.ref a_this_lists_cells])), (a_this_lists_cells, .inl (cI, n_this_lists_cells, .inl r12)), (a_this_days, .inr (6, [.ref a_this_days_cells])), (a_this_days_cells, .inl (cI, n_this_days_cells, .inl r27)), (a_this_contributors, .inr (6, [.ref a_this_contributors_cells])), (a_this_contributors_cells, .inl (cI, n_this_contributors_cells, .inl r42)), (a_this_points, .inr (6, [.ref a_this_points_cells])), (a_this_points_cells, .inl (cI, n_this_points_cells, .inl r57))]) rfl ?_
  cases h
  exact J_vret (pc := 72) C dX1_shift_72 hr ⟨rfl, rfl⟩
-- PointsLedger$Row.increase(II)V
theorem dX6_increase_0 : decode cX6_increase 0 = .ok (.iload_n 1, 1) := by decide +kernel
theorem dX6_increase_1 : decode cX6_increase 1 = .ok (.ifCond .lt 22, 3) := by decide +kernel
theorem dX6_increase_4 : decode cX6_increase 4 = .ok (.iload_n 1, 1) := by decide +kernel
theorem dX6_increase_5 : decode cX6_increase 5 = .ok (.aload_n 0, 1) := by decide +kernel
theorem dX6_increase_6 : decode cX6_increase 6 = .ok (.getfield 7, 3) := by decide +kernel
theorem dX6_increase_9 : decode cX6_increase 9 = .ok (.arraylength, 1) := by decide +kernel
theorem dX6_increase_10 : decode cX6_increase 10 = .ok (.if_icmp .ge 13, 3) := by decide +kernel
theorem dX6_increase_13 : decode cX6_increase 13 = .ok (.aload_n 0, 1) := by decide +kernel
theorem dX6_increase_14 : decode cX6_increase 14 = .ok (.getfield 7, 3) := by decide +kernel
theorem dX6_increase_17 : decode cX6_increase 17 = .ok (.iload_n 1, 1) := by decide +kernel
theorem dX6_increase_18 : decode cX6_increase 18 = .ok (.dup2, 1) := by decide +kernel
theorem dX6_increase_19 : decode cX6_increase 19 = .ok (.iaload, 1) := by decide +kernel
theorem dX6_increase_20 : decode cX6_increase 20 = .ok (.iload_n 2, 1) := by decide +kernel
theorem dX6_increase_21 : decode cX6_increase 21 = .ok (.iadd, 1) := by decide +kernel
theorem dX6_increase_22 : decode cX6_increase 22 = .ok (.iastore, 1) := by decide +kernel
theorem dX6_increase_23 : decode cX6_increase 23 = .ok (.return_, 1) := by decide +kernel
def f_X6_increase (x1 : Int32) (x2 : Int32) (n_this_cells : Nat) (g_this_cells : Nat → Int32) : Option ((Nat → Int32)) :=
  (if x1 < 0 then (some g_this_cells) else (if (nI n_this_cells) ≤ x1 then (some g_this_cells) else (if x1 < 0 ∨ n_this_cells ≤ x1.toNatClampNeg then none else (if x1 < 0 ∨ n_this_cells ≤ x1.toNatClampNeg then none else ((some (upd g_this_cells x1.toNatClampNeg ((g_this_cells x1.toNatClampNeg) + x2))).bind fun h22 => (some h22))))))
set_option maxHeartbeats 4000000 in
set_option maxRecDepth 100000 in
theorem c_X6_increase (l : Launch) (D : va_G) (cI cB cL cO : ClassId) (pf : Nat → Nat) (N : Nat) (a_this a_this_cells : Nat) (n_this_cells : Nat) (g_this_cells : Nat → Int32) (x1 : Int32) (x2 : Int32) (o : (Nat → Int32)) (h : f_X6_increase x1 x2 n_this_cells g_this_cells = some o) : Ct l D [(cI, .int), (cB, .byte), (cL, .long), (cO, .object RX0)] pf yX6_increase cX6_increase 3 (none : Option FieldType) { frames := 0, cells := 0, slots := 0, locals := 0 } [.ref a_this, .int x1, .int x2] [(a_this, .inr (6, [.ref a_this_cells])), (a_this_cells, .inl (cI, n_this_cells, .inl g_this_cells))] (is1 (none) [(a_this, .inr (6, [.ref a_this_cells])), (a_this_cells, .inl (cI, n_this_cells, .inl o))]) := by
  refine Ct_of (own := RX6) (lv0 := [(0, .ref a_this), (1, .int x1), (2, .int x2)]) (by decide) rfl rfl (Nat.le_of_ble_eq_true rfl) ?_
  intro p e s m args below meth c C hr hnm
  unfold f_X6_increase at h
  refine J_iload_n (pc := 0) C dX6_increase_0 1 rfl ?_
  refine J_if_lt (pc := 1) (tgt := 23) C dX6_increase_1 (by decide) h (fun h => ?_) (fun h => ?_)
  · cases h
    exact J_vret (pc := 23) C dX6_increase_23 hr ⟨rfl, rfl⟩
  · refine J_iload_n (pc := 4) C dX6_increase_4 1 rfl ?_
    refine J_aload_n (pc := 5) C dX6_increase_5 0 rfl ?_
    refine J_get (pc := 6) C dX6_increase_6 jf_X6 0 rfl rfl 0 (by decide) rfl fl_RX6_7 rfl ?_
    refine J_alen (pc := 9) C dX6_increase_9 1 0 rfl rfl ?_
    refine J_ic_ge (pc := 10) (tgt := 23) C dX6_increase_10 (by decide) h (fun h => ?_) (fun h => ?_)
    · cases h
      exact J_vret (pc := 23) C dX6_increase_23 hr ⟨rfl, rfl⟩
    · refine J_aload_n (pc := 13) C dX6_increase_13 0 rfl ?_
      refine J_get (pc := 14) C dX6_increase_14 jf_X6 0 rfl rfl 0 (by decide) rfl fl_RX6_7 rfl ?_
      refine J_iload_n (pc := 17) C dX6_increase_17 1 rfl ?_
      refine J_dup2 (pc := 18) C dX6_increase_18 rfl rfl ?_
      refine J_iald (pc := 19) C dX6_increase_19 1 0 rfl rfl h (fun h => ?_)
      refine J_iload_n (pc := 20) C dX6_increase_20 2 rfl ?_
      refine J_iadd (pc := 21) C dX6_increase_21 ?_
      refine J_iastN (pc := 22) C (fun h22 => [(a_this, .inr (6, [.ref a_this_cells])), (a_this_cells, .inl (cI, n_this_cells, .inl h22))]) dX6_increase_22 1 0 rfl rfl h (fun _ => rfl) (fun h22 h => ?_)
      cases h
      exact J_vret (pc := 23) C dX6_increase_23 hr ⟨rfl, rfl⟩
-- PointsLedger$Cohorts.put(IIII)V
theorem dX1_put_0 : decode cX1_put 0 = .ok (.iload 4, 2) := by decide +kernel
theorem dX1_put_2 : decode cX1_put 2 = .ok (.iconst 1, 1) := by decide +kernel
theorem dX1_put_3 : decode cX1_put 3 = .ok (.if_icmp .ge 4, 3) := by decide +kernel
theorem dX1_put_6 : decode cX1_put 6 = .ok (.return_, 1) := by decide +kernel
theorem dX1_put_7 : decode cX1_put 7 = .ok (.iconst 0, 1) := by decide +kernel
theorem dX1_put_8 : decode cX1_put 8 = .ok (.istore 5, 2) := by decide +kernel
theorem dX1_put_10 : decode cX1_put 10 = .ok (.iload 5, 2) := by decide +kernel
theorem dX1_put_12 : decode cX1_put 12 = .ok (.aload_n 0, 1) := by decide +kernel
theorem dX1_put_13 : decode cX1_put 13 = .ok (.getfield 29, 3) := by decide +kernel
theorem dX1_put_16 : decode cX1_put 16 = .ok (.if_icmp .ge 21, 3) := by decide +kernel
theorem dX1_put_19 : decode cX1_put 19 = .ok (.aload_n 0, 1) := by decide +kernel
theorem dX1_put_20 : decode cX1_put 20 = .ok (.iload 5, 2) := by decide +kernel
theorem dX1_put_22 : decode cX1_put 22 = .ok (.iload_n 1, 1) := by decide +kernel
theorem dX1_put_23 : decode cX1_put 23 = .ok (.iload_n 2, 1) := by decide +kernel
theorem dX1_put_24 : decode cX1_put 24 = .ok (.iload_n 3, 1) := by decide +kernel
theorem dX1_put_25 : decode cX1_put 25 = .ok (.invokevirtual 49, 3) := by decide +kernel
theorem dX1_put_28 : decode cX1_put 28 = .ok (.ifCond .eq 9, 3) := by decide +kernel
theorem dX1_put_31 : decode cX1_put 31 = .ok (.iinc 5 1, 3) := by decide +kernel
theorem dX1_put_34 : decode cX1_put 34 = .ok (.goto (-24), 3) := by decide +kernel
theorem dX1_put_37 : decode cX1_put 37 = .ok (.iload 5, 2) := by decide +kernel
theorem dX1_put_39 : decode cX1_put 39 = .ok (.aload_n 0, 1) := by decide +kernel
theorem dX1_put_40 : decode cX1_put 40 = .ok (.getfield 29, 3) := by decide +kernel
theorem dX1_put_43 : decode cX1_put 43 = .ok (.if_icmp .ge 46, 3) := by decide +kernel
theorem dX1_put_46 : decode cX1_put 46 = .ok (.aload_n 0, 1) := by decide +kernel
theorem dX1_put_47 : decode cX1_put 47 = .ok (.getfield 14, 3) := by decide +kernel
theorem dX1_put_50 : decode cX1_put 50 = .ok (.iload 5, 2) := by decide +kernel
theorem dX1_put_52 : decode cX1_put 52 = .ok (.invokevirtual 37, 3) := by decide +kernel
theorem dX1_put_55 : decode cX1_put 55 = .ok (.iload_n 1, 1) := by decide +kernel
theorem dX1_put_56 : decode cX1_put 56 = .ok (.if_icmp .ne 33, 3) := by decide +kernel
theorem dX1_put_59 : decode cX1_put 59 = .ok (.aload_n 0, 1) := by decide +kernel
theorem dX1_put_60 : decode cX1_put 60 = .ok (.getfield 20, 3) := by decide +kernel
theorem dX1_put_63 : decode cX1_put 63 = .ok (.iload 5, 2) := by decide +kernel
theorem dX1_put_65 : decode cX1_put 65 = .ok (.invokevirtual 37, 3) := by decide +kernel
theorem dX1_put_68 : decode cX1_put 68 = .ok (.iload_n 2, 1) := by decide +kernel
theorem dX1_put_69 : decode cX1_put 69 = .ok (.if_icmp .ne 20, 3) := by decide +kernel
theorem dX1_put_72 : decode cX1_put 72 = .ok (.aload_n 0, 1) := by decide +kernel
theorem dX1_put_73 : decode cX1_put 73 = .ok (.getfield 23, 3) := by decide +kernel
theorem dX1_put_76 : decode cX1_put 76 = .ok (.iload 5, 2) := by decide +kernel
theorem dX1_put_78 : decode cX1_put 78 = .ok (.invokevirtual 37, 3) := by decide +kernel
theorem dX1_put_81 : decode cX1_put 81 = .ok (.iload_n 3, 1) := by decide +kernel
theorem dX1_put_82 : decode cX1_put 82 = .ok (.if_icmp .ne 7, 3) := by decide +kernel
theorem dX1_put_85 : decode cX1_put 85 = .ok (.iconst 1, 1) := by decide +kernel
theorem dX1_put_86 : decode cX1_put 86 = .ok (.goto 4, 3) := by decide +kernel
theorem dX1_put_89 : decode cX1_put 89 = .ok (.iconst 0, 1) := by decide +kernel
theorem dX1_put_90 : decode cX1_put 90 = .ok (.istore 6, 2) := by decide +kernel
theorem dX1_put_92 : decode cX1_put 92 = .ok (.iload 6, 2) := by decide +kernel
theorem dX1_put_94 : decode cX1_put 94 = .ok (.ifCond .eq 17, 3) := by decide +kernel
theorem dX1_put_97 : decode cX1_put 97 = .ok (.aload_n 0, 1) := by decide +kernel
theorem dX1_put_98 : decode cX1_put 98 = .ok (.getfield 26, 3) := by decide +kernel
theorem dX1_put_101 : decode cX1_put 101 = .ok (.iload 5, 2) := by decide +kernel
theorem dX1_put_103 : decode cX1_put 103 = .ok (.iload 4, 2) := by decide +kernel
theorem dX1_put_105 : decode cX1_put 105 = .ok (.invokevirtual 53, 3) := by decide +kernel
theorem dX1_put_108 : decode cX1_put 108 = .ok (.goto 64, 3) := by decide +kernel
theorem dX1_put_111 : decode cX1_put 111 = .ok (.aload_n 0, 1) := by decide +kernel
theorem dX1_put_112 : decode cX1_put 112 = .ok (.getfield 29, 3) := by decide +kernel
theorem dX1_put_115 : decode cX1_put 115 = .ok (.sipush 1024, 3) := by decide +kernel
theorem dX1_put_118 : decode cX1_put 118 = .ok (.if_icmp .ge 54, 3) := by decide +kernel
theorem dX1_put_121 : decode cX1_put 121 = .ok (.aload_n 0, 1) := by decide +kernel
theorem dX1_put_122 : decode cX1_put 122 = .ok (.iload 5, 2) := by decide +kernel
theorem dX1_put_124 : decode cX1_put 124 = .ok (.iload 5, 2) := by decide +kernel
theorem dX1_put_126 : decode cX1_put 126 = .ok (.iconst 1, 1) := by decide +kernel
theorem dX1_put_127 : decode cX1_put 127 = .ok (.iadd, 1) := by decide +kernel
theorem dX1_put_128 : decode cX1_put 128 = .ok (.invokevirtual 57, 3) := by decide +kernel
theorem dX1_put_131 : decode cX1_put 131 = .ok (.aload_n 0, 1) := by decide +kernel
theorem dX1_put_132 : decode cX1_put 132 = .ok (.getfield 14, 3) := by decide +kernel
theorem dX1_put_135 : decode cX1_put 135 = .ok (.iload 5, 2) := by decide +kernel
theorem dX1_put_137 : decode cX1_put 137 = .ok (.iload_n 1, 1) := by decide +kernel
theorem dX1_put_138 : decode cX1_put 138 = .ok (.invokevirtual 60, 3) := by decide +kernel
theorem dX1_put_141 : decode cX1_put 141 = .ok (.aload_n 0, 1) := by decide +kernel
theorem dX1_put_142 : decode cX1_put 142 = .ok (.getfield 20, 3) := by decide +kernel
theorem dX1_put_145 : decode cX1_put 145 = .ok (.iload 5, 2) := by decide +kernel
theorem dX1_put_147 : decode cX1_put 147 = .ok (.iload_n 2, 1) := by decide +kernel
theorem dX1_put_148 : decode cX1_put 148 = .ok (.invokevirtual 60, 3) := by decide +kernel
theorem dX1_put_151 : decode cX1_put 151 = .ok (.aload_n 0, 1) := by decide +kernel
theorem dX1_put_152 : decode cX1_put 152 = .ok (.getfield 23, 3) := by decide +kernel
theorem dX1_put_155 : decode cX1_put 155 = .ok (.iload 5, 2) := by decide +kernel
theorem dX1_put_157 : decode cX1_put 157 = .ok (.iload_n 3, 1) := by decide +kernel
theorem dX1_put_158 : decode cX1_put 158 = .ok (.invokevirtual 60, 3) := by decide +kernel
theorem dX1_put_161 : decode cX1_put 161 = .ok (.aload_n 0, 1) := by decide +kernel
theorem dX1_put_162 : decode cX1_put 162 = .ok (.getfield 26, 3) := by decide +kernel
theorem dX1_put_165 : decode cX1_put 165 = .ok (.iload 5, 2) := by decide +kernel
theorem dX1_put_167 : decode cX1_put 167 = .ok (.iload 4, 2) := by decide +kernel
theorem dX1_put_169 : decode cX1_put 169 = .ok (.invokevirtual 60, 3) := by decide +kernel
theorem dX1_put_172 : decode cX1_put 172 = .ok (.return_, 1) := by decide +kernel
def f_X1_put_b90 (x1 : Int32) (x2 : Int32) (x3 : Int32) (x4 : Int32) (x5 : Int32) (s0 : Int32) (n_this_lists_cells : Nat) (n_this_days_cells : Nat) (n_this_contributors_cells : Nat) (n_this_points_cells : Nat) (v_this_size : Int32) (g_this_lists_cells : Nat → Int32) (g_this_days_cells : Nat → Int32) (g_this_contributors_cells : Nat → Int32) (g_this_points_cells : Nat → Int32) : Option (Int32 × (Nat → Int32) × (Nat → Int32) × (Nat → Int32) × (Nat → Int32)) :=
  (if s0 = 0 then (if (1024 : Int32) ≤ v_this_size then (some (v_this_size, g_this_lists_cells, g_this_days_cells, g_this_contributors_cells, g_this_points_cells)) else ((f_X1_shift x5 (x5 + (1 : Int32)) n_this_lists_cells n_this_days_cells n_this_contributors_cells n_this_points_cells v_this_size g_this_lists_cells g_this_days_cells g_this_contributors_cells g_this_points_cells).bind fun r128 => ((f_X6_put x5 x1 n_this_lists_cells r128.2.1).bind fun r138 => ((f_X6_put x5 x2 n_this_days_cells r128.2.2.1).bind fun r148 => ((f_X6_put x5 x3 n_this_contributors_cells r128.2.2.2.1).bind fun r158 => ((f_X6_put x5 x4 n_this_points_cells r128.2.2.2.2).bind fun r169 => (some (r128.1, r138, r148, r158, r169)))))))) else ((f_X6_increase x5 x4 n_this_points_cells g_this_points_cells).bind fun r105 => (some (v_this_size, g_this_lists_cells, g_this_days_cells, g_this_contributors_cells, r105))))
def f_X1_put_b89 (x1 : Int32) (x2 : Int32) (x3 : Int32) (x4 : Int32) (x5 : Int32) (n_this_lists_cells : Nat) (n_this_days_cells : Nat) (n_this_contributors_cells : Nat) (n_this_points_cells : Nat) (v_this_size : Int32) (g_this_lists_cells : Nat → Int32) (g_this_days_cells : Nat → Int32) (g_this_contributors_cells : Nat → Int32) (g_this_points_cells : Nat → Int32) : Option (Int32 × (Nat → Int32) × (Nat → Int32) × (Nat → Int32) × (Nat → Int32)) :=
  (f_X1_put_b90 x1 x2 x3 x4 x5 (0 : Int32) n_this_lists_cells n_this_days_cells n_this_contributors_cells n_this_points_cells v_this_size g_this_lists_cells g_this_days_cells g_this_contributors_cells g_this_points_cells)
def f_X1_put_b37 (x1 : Int32) (x2 : Int32) (x3 : Int32) (x4 : Int32) (x5 : Int32) (n_this_lists_cells : Nat) (n_this_days_cells : Nat) (n_this_contributors_cells : Nat) (n_this_points_cells : Nat) (v_this_size : Int32) (g_this_lists_cells : Nat → Int32) (g_this_days_cells : Nat → Int32) (g_this_contributors_cells : Nat → Int32) (g_this_points_cells : Nat → Int32) : Option (Int32 × (Nat → Int32) × (Nat → Int32) × (Nat → Int32) × (Nat → Int32)) :=
  (if v_this_size ≤ x5 then (f_X1_put_b89 x1 x2 x3 x4 x5 n_this_lists_cells n_this_days_cells n_this_contributors_cells n_this_points_cells v_this_size g_this_lists_cells g_this_days_cells g_this_contributors_cells g_this_points_cells) else ((f_X6_at x5 n_this_lists_cells g_this_lists_cells).bind fun r52 => (if r52 = x1 then ((f_X6_at x5 n_this_days_cells g_this_days_cells).bind fun r65 => (if r65 = x2 then ((f_X6_at x5 n_this_contributors_cells g_this_contributors_cells).bind fun r78 => (if r78 = x3 then (f_X1_put_b90 x1 x2 x3 x4 x5 (1 : Int32) n_this_lists_cells n_this_days_cells n_this_contributors_cells n_this_points_cells v_this_size g_this_lists_cells g_this_days_cells g_this_contributors_cells g_this_points_cells) else (f_X1_put_b89 x1 x2 x3 x4 x5 n_this_lists_cells n_this_days_cells n_this_contributors_cells n_this_points_cells v_this_size g_this_lists_cells g_this_days_cells g_this_contributors_cells g_this_points_cells))) else (f_X1_put_b89 x1 x2 x3 x4 x5 n_this_lists_cells n_this_days_cells n_this_contributors_cells n_this_points_cells v_this_size g_this_lists_cells g_this_days_cells g_this_contributors_cells g_this_points_cells))) else (f_X1_put_b89 x1 x2 x3 x4 x5 n_this_lists_cells n_this_days_cells n_this_contributors_cells n_this_points_cells v_this_size g_this_lists_cells g_this_days_cells g_this_contributors_cells g_this_points_cells))))
def f_X1_put_b10 (x1 : Int32) (x2 : Int32) (x3 : Int32) (x4 : Int32) (n_this_lists_cells : Nat) (n_this_days_cells : Nat) (n_this_contributors_cells : Nat) (n_this_points_cells : Nat) (v_this_size : Int32) (g_this_lists_cells : Nat → Int32) (g_this_days_cells : Nat → Int32) (g_this_contributors_cells : Nat → Int32) (g_this_points_cells : Nat → Int32) : Nat → (Int32) → Option (Int32 × (Nat → Int32) × (Nat → Int32) × (Nat → Int32) × (Nat → Int32))
  | 0, _ => none
  | n + 1, x5 => (if v_this_size ≤ x5 then (f_X1_put_b37 x1 x2 x3 x4 x5 n_this_lists_cells n_this_days_cells n_this_contributors_cells n_this_points_cells v_this_size g_this_lists_cells g_this_days_cells g_this_contributors_cells g_this_points_cells) else ((f_X1_isBefore x5 x1 x2 x3 n_this_lists_cells n_this_days_cells n_this_contributors_cells g_this_lists_cells g_this_days_cells g_this_contributors_cells).bind fun r25 => (if r25 = 0 then (f_X1_put_b37 x1 x2 x3 x4 x5 n_this_lists_cells n_this_days_cells n_this_contributors_cells n_this_points_cells v_this_size g_this_lists_cells g_this_days_cells g_this_contributors_cells g_this_points_cells) else ((some (x5 + (1 : Int32))).bind fun y31 => (f_X1_put_b10 x1 x2 x3 x4 n_this_lists_cells n_this_days_cells n_this_contributors_cells n_this_points_cells v_this_size g_this_lists_cells g_this_days_cells g_this_contributors_cells g_this_points_cells n y31)))))
def f_X1_put (N : Nat) (x1 : Int32) (x2 : Int32) (x3 : Int32) (x4 : Int32) (n_this_lists_cells : Nat) (n_this_days_cells : Nat) (n_this_contributors_cells : Nat) (n_this_points_cells : Nat) (v_this_size : Int32) (g_this_lists_cells : Nat → Int32) (g_this_days_cells : Nat → Int32) (g_this_contributors_cells : Nat → Int32) (g_this_points_cells : Nat → Int32) : Option (Int32 × (Nat → Int32) × (Nat → Int32) × (Nat → Int32) × (Nat → Int32)) :=
  (if (1 : Int32) ≤ x4 then (f_X1_put_b10 x1 x2 x3 x4 n_this_lists_cells n_this_days_cells n_this_contributors_cells n_this_points_cells v_this_size g_this_lists_cells g_this_days_cells g_this_contributors_cells g_this_points_cells N (0 : Int32)) else (some (v_this_size, g_this_lists_cells, g_this_days_cells, g_this_contributors_cells, g_this_points_cells)))
set_option maxHeartbeats 4000000 in
set_option maxRecDepth 100000 in
theorem t_X1_put_b90 {l : Launch} {D : va_G} {cI cB cL cO : ClassId} {pf : Nat → Nat} {p : Program} {e : Env} {s : State} {m : MethodId} {args : Array Value} {below : List Frame} {meth : Method} {c : Code} {W0 : va_W} {a_this a_this_lists a_this_days a_this_contributors a_this_points a_this_lists_cells a_this_days_cells a_this_contributors_cells a_this_points_cells : Nat}  {n_this_lists_cells : Nat} {n_this_days_cells : Nat} {n_this_contributors_cells : Nat} {n_this_points_cells : Nat} {v_this_size : Int32} {g_this_lists_cells : Nat → Int32} {g_this_days_cells : Nat → Int32} {g_this_contributors_cells : Nat → Int32} {g_this_points_cells : Nat → Int32} {x1 : Int32} {x2 : Int32} {x3 : Int32} {x4 : Int32} {x5 : Int32} {s0 : Int32} {o : Int32 × (Nat → Int32) × (Nat → Int32) × (Nat → Int32) × (Nat → Int32)} (C : jC p s m args meth c cX1_put 7 RX1 D [(cI, .int), (cB, .byte), (cL, .long), (cO, .object RX0)] pf (va_A W0 s.heap.size)) (hr : meth.sig.returnType = (none : Option FieldType)) (h : f_X1_put_b90 x1 x2 x3 x4 x5 s0 n_this_lists_cells n_this_days_cells n_this_contributors_cells n_this_points_cells v_this_size g_this_lists_cells g_this_days_cells g_this_contributors_cells g_this_points_cells = some o) : J p l e { frames := 3, cells := 0, slots := 0, locals := 106 } s m args below meth c 7 D (va_A W0 s.heap.size) (MQ below (jQ D [(cI, .int), (cB, .byte), (cL, .long), (cO, .object RX0)] W0 s.heap.size (is1 (none) [(a_this, .inr (1, [.ref a_this_lists, .ref a_this_days, .ref a_this_contributors, .ref a_this_points, .int o.1])), (a_this_lists, .inr (6, [.ref a_this_lists_cells])), (a_this_lists_cells, .inl (cI, n_this_lists_cells, .inl o.2.1)), (a_this_days, .inr (6, [.ref a_this_days_cells])), (a_this_days_cells, .inl (cI, n_this_days_cells, .inl o.2.2.1)), (a_this_contributors, .inr (6, [.ref a_this_contributors_cells])), (a_this_contributors_cells, .inl (cI, n_this_contributors_cells, .inl o.2.2.2.1)), (a_this_points, .inr (6, [.ref a_this_points_cells])), (a_this_points_cells, .inl (cI, n_this_points_cells, .inl o.2.2.2.2))])) args s 0 0 (va_A W0 s.heap.size)) 0 0 90 [(0, .ref a_this), (1, .int x1), (2, .int x2), (3, .int x3), (4, .int x4), (5, .int x5)] [.int s0] [(a_this, .inr (1, [.ref a_this_lists, .ref a_this_days, .ref a_this_contributors, .ref a_this_points, .int v_this_size])), (a_this_lists, .inr (6, [.ref a_this_lists_cells])), (a_this_lists_cells, .inl (cI, n_this_lists_cells, .inl g_this_lists_cells)), (a_this_days, .inr (6, [.ref a_this_days_cells])), (a_this_days_cells, .inl (cI, n_this_days_cells, .inl g_this_days_cells)), (a_this_contributors, .inr (6, [.ref a_this_contributors_cells])), (a_this_contributors_cells, .inl (cI, n_this_contributors_cells, .inl g_this_contributors_cells)), (a_this_points, .inr (6, [.ref a_this_points_cells])), (a_this_points_cells, .inl (cI, n_this_points_cells, .inl g_this_points_cells))] := by
  unfold f_X1_put_b90 at h
  refine J_istore (lv2 := [(6, .int s0), (0, .ref a_this), (1, .int x1), (2, .int x2), (3, .int x3), (4, .int x4), (5, .int x5)]) (pc := 90) C dX1_put_90 (by decide) rfl ?_
  refine J_iload (pc := 92) C dX1_put_92 0 rfl ?_
  refine J_if_eq (pc := 94) (tgt := 111) C dX1_put_94 (by decide) h (fun h => ?_) (fun h => ?_)
  · refine J_aload_n (pc := 111) C dX1_put_111 1 rfl ?_
    refine J_get (pc := 112) C dX1_put_112 jf_X1 0 rfl rfl 4 (by decide) rfl fl_RX1_29 rfl ?_
    refine J_sipush (v := (1024 : Int32)) (pc := 115) C dX1_put_115 (by decide) ?_
    refine J_ic_ge (pc := 118) (tgt := 172) C dX1_put_118 (by decide) h (fun h => ?_) (fun h => ?_)
    · cases h
      exact J_vret (pc := 172) C dX1_put_172 hr ⟨rfl, rfl⟩
    · refine J_aload_n (pc := 121) C dX1_put_121 1 rfl ?_
      refine J_iload (pc := 122) C dX1_put_122 6 rfl ?_
      refine J_iload (pc := 124) C dX1_put_124 6 rfl ?_
      refine J_iconst (v := (1 : Int32)) (pc := 126) C dX1_put_126 (by decide) ?_
      refine J_iadd (pc := 127) C dX1_put_127 ?_
      refine J_cvw (pc := 128) (As := [.int x5, .int (x5 + (1 : Int32))]) (st := []) C (fun r128 => [(a_this, .inr (1, [.ref a_this_lists, .ref a_this_days, .ref a_this_contributors, .ref a_this_points, .int r128.1])), (a_this_lists, .inr (6, [.ref a_this_lists_cells])), (a_this_lists_cells, .inl (cI, n_this_lists_cells, .inl r128.2.1)), (a_this_days, .inr (6, [.ref a_this_days_cells])), (a_this_days_cells, .inl (cI, n_this_days_cells, .inl r128.2.2.1)), (a_this_contributors, .inr (6, [.ref a_this_contributors_cells])), (a_this_contributors_cells, .inl (cI, n_this_contributors_cells, .inl r128.2.2.2.1)), (a_this_points, .inr (6, [.ref a_this_points_cells])), (a_this_points_cells, .inl (cI, n_this_points_cells, .inl r128.2.2.2.2))]) dX1_put_128 ml_RX1_57 mi_yX1_shift (fun r128 hr => c_X1_shift l D cI cB cL cO pf 0 a_this a_this_lists a_this_days a_this_contributors a_this_points a_this_lists_cells a_this_days_cells a_this_contributors_cells a_this_points_cells n_this_lists_cells n_this_days_cells n_this_contributors_cells n_this_points_cells v_this_size g_this_lists_cells g_this_days_cells g_this_contributors_cells g_this_points_cells x5 (x5 + (1 : Int32)) r128 hr) h [0, 1, 2, 3, 4, 5, 6, 7, 8] rfl rfl rfl rfl rfl ⟨rfl, rfl⟩ ⟨(Nat.le_of_ble_eq_true rfl), (Nat.le_of_ble_eq_true rfl)⟩ ⟨Nat.zero_le _, Nat.zero_le _⟩ (Nat.le_of_ble_eq_true rfl) (fun _ => rfl) (fun _ => rfl) (fun r128 h => ?_)
      refine J_aload_n (pc := 131) C dX1_put_131 1 rfl ?_
      refine J_get (pc := 132) C dX1_put_132 jf_X1 0 rfl rfl 0 (by decide) rfl fl_RX1_14 rfl ?_
      refine J_iload (pc := 135) C dX1_put_135 6 rfl ?_
      refine J_iload_n (pc := 137) C dX1_put_137 2 rfl ?_
      refine J_cvw (pc := 138) (As := [.int x5, .int x1]) (st := []) C (fun r138 => [(a_this, .inr (1, [.ref a_this_lists, .ref a_this_days, .ref a_this_contributors, .ref a_this_points, .int r128.1])), (a_this_lists, .inr (6, [.ref a_this_lists_cells])), (a_this_lists_cells, .inl (cI, n_this_lists_cells, .inl r138)), (a_this_days, .inr (6, [.ref a_this_days_cells])), (a_this_days_cells, .inl (cI, n_this_days_cells, .inl r128.2.2.1)), (a_this_contributors, .inr (6, [.ref a_this_contributors_cells])), (a_this_contributors_cells, .inl (cI, n_this_contributors_cells, .inl r128.2.2.2.1)), (a_this_points, .inr (6, [.ref a_this_points_cells])), (a_this_points_cells, .inl (cI, n_this_points_cells, .inl r128.2.2.2.2))]) dX1_put_138 ml_RX1_60 mi_yX6_put (fun r138 hr => c_X6_put l D cI cB cL cO pf 0 a_this_lists a_this_lists_cells n_this_lists_cells r128.2.1 x5 x1 r138 hr) h [1, 2] rfl rfl rfl rfl rfl ⟨rfl, rfl⟩ ⟨(Nat.le_of_ble_eq_true rfl), (Nat.le_of_ble_eq_true rfl)⟩ ⟨Nat.zero_le _, Nat.zero_le _⟩ (Nat.le_of_ble_eq_true rfl) (fun _ => rfl) (fun _ => rfl) (fun r138 h => ?_)
      refine J_aload_n (pc := 141) C dX1_put_141 1 rfl ?_
      refine J_get (pc := 142) C dX1_put_142 jf_X1 0 rfl rfl 1 (by decide) rfl fl_RX1_20 rfl ?_
      refine J_iload (pc := 145) C dX1_put_145 6 rfl ?_
      refine J_iload_n (pc := 147) C dX1_put_147 3 rfl ?_
      refine J_cvw (pc := 148) (As := [.int x5, .int x2]) (st := []) C (fun r148 => [(a_this, .inr (1, [.ref a_this_lists, .ref a_this_days, .ref a_this_contributors, .ref a_this_points, .int r128.1])), (a_this_lists, .inr (6, [.ref a_this_lists_cells])), (a_this_lists_cells, .inl (cI, n_this_lists_cells, .inl r138)), (a_this_days, .inr (6, [.ref a_this_days_cells])), (a_this_days_cells, .inl (cI, n_this_days_cells, .inl r148)), (a_this_contributors, .inr (6, [.ref a_this_contributors_cells])), (a_this_contributors_cells, .inl (cI, n_this_contributors_cells, .inl r128.2.2.2.1)), (a_this_points, .inr (6, [.ref a_this_points_cells])), (a_this_points_cells, .inl (cI, n_this_points_cells, .inl r128.2.2.2.2))]) dX1_put_148 ml_RX1_60 mi_yX6_put (fun r148 hr => c_X6_put l D cI cB cL cO pf 0 a_this_days a_this_days_cells n_this_days_cells r128.2.2.1 x5 x2 r148 hr) h [3, 4] rfl rfl rfl rfl rfl ⟨rfl, rfl⟩ ⟨(Nat.le_of_ble_eq_true rfl), (Nat.le_of_ble_eq_true rfl)⟩ ⟨Nat.zero_le _, Nat.zero_le _⟩ (Nat.le_of_ble_eq_true rfl) (fun _ => rfl) (fun _ => rfl) (fun r148 h => ?_)
      refine J_aload_n (pc := 151) C dX1_put_151 1 rfl ?_
      refine J_get (pc := 152) C dX1_put_152 jf_X1 0 rfl rfl 2 (by decide) rfl fl_RX1_23 rfl ?_
      refine J_iload (pc := 155) C dX1_put_155 6 rfl ?_
      refine J_iload_n (pc := 157) C dX1_put_157 4 rfl ?_
      refine J_cvw (pc := 158) (As := [.int x5, .int x3]) (st := []) C (fun r158 => [(a_this, .inr (1, [.ref a_this_lists, .ref a_this_days, .ref a_this_contributors, .ref a_this_points, .int r128.1])), (a_this_lists, .inr (6, [.ref a_this_lists_cells])), (a_this_lists_cells, .inl (cI, n_this_lists_cells, .inl r138)), (a_this_days, .inr (6, [.ref a_this_days_cells])), (a_this_days_cells, .inl (cI, n_this_days_cells, .inl r148)), (a_this_contributors, .inr (6, [.ref a_this_contributors_cells])), (a_this_contributors_cells, .inl (cI, n_this_contributors_cells, .inl r158)), (a_this_points, .inr (6, [.ref a_this_points_cells])), (a_this_points_cells, .inl (cI, n_this_points_cells, .inl r128.2.2.2.2))]) dX1_put_158 ml_RX1_60 mi_yX6_put (fun r158 hr => c_X6_put l D cI cB cL cO pf 0 a_this_contributors a_this_contributors_cells n_this_contributors_cells r128.2.2.2.1 x5 x3 r158 hr) h [5, 6] rfl rfl rfl rfl rfl ⟨rfl, rfl⟩ ⟨(Nat.le_of_ble_eq_true rfl), (Nat.le_of_ble_eq_true rfl)⟩ ⟨Nat.zero_le _, Nat.zero_le _⟩ (Nat.le_of_ble_eq_true rfl) (fun _ => rfl) (fun _ => rfl) (fun r158 h => ?_)
      refine J_aload_n (pc := 161) C dX1_put_161 1 rfl ?_
      refine J_get (pc := 162) C dX1_put_162 jf_X1 0 rfl rfl 3 (by decide) rfl fl_RX1_26 rfl ?_
      refine J_iload (pc := 165) C dX1_put_165 6 rfl ?_
      refine J_iload (pc := 167) C dX1_put_167 5 rfl ?_
      refine J_cvw (pc := 169) (As := [.int x5, .int x4]) (st := []) C (fun r169 => [(a_this, .inr (1, [.ref a_this_lists, .ref a_this_days, .ref a_this_contributors, .ref a_this_points, .int r128.1])), (a_this_lists, .inr (6, [.ref a_this_lists_cells])), (a_this_lists_cells, .inl (cI, n_this_lists_cells, .inl r138)), (a_this_days, .inr (6, [.ref a_this_days_cells])), (a_this_days_cells, .inl (cI, n_this_days_cells, .inl r148)), (a_this_contributors, .inr (6, [.ref a_this_contributors_cells])), (a_this_contributors_cells, .inl (cI, n_this_contributors_cells, .inl r158)), (a_this_points, .inr (6, [.ref a_this_points_cells])), (a_this_points_cells, .inl (cI, n_this_points_cells, .inl r169))]) dX1_put_169 ml_RX1_60 mi_yX6_put (fun r169 hr => c_X6_put l D cI cB cL cO pf 0 a_this_points a_this_points_cells n_this_points_cells r128.2.2.2.2 x5 x4 r169 hr) h [7, 8] rfl rfl rfl rfl rfl ⟨rfl, rfl⟩ ⟨(Nat.le_of_ble_eq_true rfl), (Nat.le_of_ble_eq_true rfl)⟩ ⟨Nat.zero_le _, Nat.zero_le _⟩ (Nat.le_of_ble_eq_true rfl) (fun _ => rfl) (fun _ => rfl) (fun r169 h => ?_)
      cases h
      exact J_vret (pc := 172) C dX1_put_172 hr ⟨rfl, rfl⟩
  · refine J_aload_n (pc := 97) C dX1_put_97 1 rfl ?_
    refine J_get (pc := 98) C dX1_put_98 jf_X1 0 rfl rfl 3 (by decide) rfl fl_RX1_26 rfl ?_
    refine J_iload (pc := 101) C dX1_put_101 6 rfl ?_
    refine J_iload (pc := 103) C dX1_put_103 5 rfl ?_
    refine J_cvw (pc := 105) (As := [.int x5, .int x4]) (st := []) C (fun r105 => [(a_this, .inr (1, [.ref a_this_lists, .ref a_this_days, .ref a_this_contributors, .ref a_this_points, .int v_this_size])), (a_this_lists, .inr (6, [.ref a_this_lists_cells])), (a_this_lists_cells, .inl (cI, n_this_lists_cells, .inl g_this_lists_cells)), (a_this_days, .inr (6, [.ref a_this_days_cells])), (a_this_days_cells, .inl (cI, n_this_days_cells, .inl g_this_days_cells)), (a_this_contributors, .inr (6, [.ref a_this_contributors_cells])), (a_this_contributors_cells, .inl (cI, n_this_contributors_cells, .inl g_this_contributors_cells)), (a_this_points, .inr (6, [.ref a_this_points_cells])), (a_this_points_cells, .inl (cI, n_this_points_cells, .inl r105))]) dX1_put_105 ml_RX1_53 mi_yX6_increase (fun r105 hr => c_X6_increase l D cI cB cL cO pf 0 a_this_points a_this_points_cells n_this_points_cells g_this_points_cells x5 x4 r105 hr) h [7, 8] rfl rfl rfl rfl rfl ⟨rfl, rfl⟩ ⟨(Nat.le_of_ble_eq_true rfl), (Nat.le_of_ble_eq_true rfl)⟩ ⟨Nat.zero_le _, Nat.zero_le _⟩ (Nat.le_of_ble_eq_true rfl) (fun _ => rfl) (fun _ => rfl) (fun r105 h => ?_)
    refine J_goto (tgt := 172) (pc := 108) C dX1_put_108 (by decide) ?_
    cases h
    exact J_vret (pc := 172) C dX1_put_172 hr ⟨rfl, rfl⟩
set_option maxHeartbeats 4000000 in
set_option maxRecDepth 100000 in
theorem t_X1_put_b89 {l : Launch} {D : va_G} {cI cB cL cO : ClassId} {pf : Nat → Nat} {p : Program} {e : Env} {s : State} {m : MethodId} {args : Array Value} {below : List Frame} {meth : Method} {c : Code} {W0 : va_W} {a_this a_this_lists a_this_days a_this_contributors a_this_points a_this_lists_cells a_this_days_cells a_this_contributors_cells a_this_points_cells : Nat}  {n_this_lists_cells : Nat} {n_this_days_cells : Nat} {n_this_contributors_cells : Nat} {n_this_points_cells : Nat} {v_this_size : Int32} {g_this_lists_cells : Nat → Int32} {g_this_days_cells : Nat → Int32} {g_this_contributors_cells : Nat → Int32} {g_this_points_cells : Nat → Int32} {x1 : Int32} {x2 : Int32} {x3 : Int32} {x4 : Int32} {x5 : Int32} {o : Int32 × (Nat → Int32) × (Nat → Int32) × (Nat → Int32) × (Nat → Int32)} (C : jC p s m args meth c cX1_put 7 RX1 D [(cI, .int), (cB, .byte), (cL, .long), (cO, .object RX0)] pf (va_A W0 s.heap.size)) (hr : meth.sig.returnType = (none : Option FieldType)) (h : f_X1_put_b89 x1 x2 x3 x4 x5 n_this_lists_cells n_this_days_cells n_this_contributors_cells n_this_points_cells v_this_size g_this_lists_cells g_this_days_cells g_this_contributors_cells g_this_points_cells = some o) : J p l e { frames := 3, cells := 0, slots := 0, locals := 106 } s m args below meth c 7 D (va_A W0 s.heap.size) (MQ below (jQ D [(cI, .int), (cB, .byte), (cL, .long), (cO, .object RX0)] W0 s.heap.size (is1 (none) [(a_this, .inr (1, [.ref a_this_lists, .ref a_this_days, .ref a_this_contributors, .ref a_this_points, .int o.1])), (a_this_lists, .inr (6, [.ref a_this_lists_cells])), (a_this_lists_cells, .inl (cI, n_this_lists_cells, .inl o.2.1)), (a_this_days, .inr (6, [.ref a_this_days_cells])), (a_this_days_cells, .inl (cI, n_this_days_cells, .inl o.2.2.1)), (a_this_contributors, .inr (6, [.ref a_this_contributors_cells])), (a_this_contributors_cells, .inl (cI, n_this_contributors_cells, .inl o.2.2.2.1)), (a_this_points, .inr (6, [.ref a_this_points_cells])), (a_this_points_cells, .inl (cI, n_this_points_cells, .inl o.2.2.2.2))])) args s 0 0 (va_A W0 s.heap.size)) 0 0 89 [(0, .ref a_this), (1, .int x1), (2, .int x2), (3, .int x3), (4, .int x4), (5, .int x5)] [] [(a_this, .inr (1, [.ref a_this_lists, .ref a_this_days, .ref a_this_contributors, .ref a_this_points, .int v_this_size])), (a_this_lists, .inr (6, [.ref a_this_lists_cells])), (a_this_lists_cells, .inl (cI, n_this_lists_cells, .inl g_this_lists_cells)), (a_this_days, .inr (6, [.ref a_this_days_cells])), (a_this_days_cells, .inl (cI, n_this_days_cells, .inl g_this_days_cells)), (a_this_contributors, .inr (6, [.ref a_this_contributors_cells])), (a_this_contributors_cells, .inl (cI, n_this_contributors_cells, .inl g_this_contributors_cells)), (a_this_points, .inr (6, [.ref a_this_points_cells])), (a_this_points_cells, .inl (cI, n_this_points_cells, .inl g_this_points_cells))] := by
  unfold f_X1_put_b89 at h
  refine J_iconst (v := (0 : Int32)) (pc := 89) C dX1_put_89 (by decide) ?_
  exact t_X1_put_b90 C hr h
set_option maxHeartbeats 4000000 in
set_option maxRecDepth 100000 in
theorem t_X1_put_b37 {l : Launch} {D : va_G} {cI cB cL cO : ClassId} {pf : Nat → Nat} {p : Program} {e : Env} {s : State} {m : MethodId} {args : Array Value} {below : List Frame} {meth : Method} {c : Code} {W0 : va_W} {a_this a_this_lists a_this_days a_this_contributors a_this_points a_this_lists_cells a_this_days_cells a_this_contributors_cells a_this_points_cells : Nat}  {n_this_lists_cells : Nat} {n_this_days_cells : Nat} {n_this_contributors_cells : Nat} {n_this_points_cells : Nat} {v_this_size : Int32} {g_this_lists_cells : Nat → Int32} {g_this_days_cells : Nat → Int32} {g_this_contributors_cells : Nat → Int32} {g_this_points_cells : Nat → Int32} {x1 : Int32} {x2 : Int32} {x3 : Int32} {x4 : Int32} {x5 : Int32} {o : Int32 × (Nat → Int32) × (Nat → Int32) × (Nat → Int32) × (Nat → Int32)} (C : jC p s m args meth c cX1_put 7 RX1 D [(cI, .int), (cB, .byte), (cL, .long), (cO, .object RX0)] pf (va_A W0 s.heap.size)) (hr : meth.sig.returnType = (none : Option FieldType)) (h : f_X1_put_b37 x1 x2 x3 x4 x5 n_this_lists_cells n_this_days_cells n_this_contributors_cells n_this_points_cells v_this_size g_this_lists_cells g_this_days_cells g_this_contributors_cells g_this_points_cells = some o) : J p l e { frames := 3, cells := 0, slots := 0, locals := 106 } s m args below meth c 7 D (va_A W0 s.heap.size) (MQ below (jQ D [(cI, .int), (cB, .byte), (cL, .long), (cO, .object RX0)] W0 s.heap.size (is1 (none) [(a_this, .inr (1, [.ref a_this_lists, .ref a_this_days, .ref a_this_contributors, .ref a_this_points, .int o.1])), (a_this_lists, .inr (6, [.ref a_this_lists_cells])), (a_this_lists_cells, .inl (cI, n_this_lists_cells, .inl o.2.1)), (a_this_days, .inr (6, [.ref a_this_days_cells])), (a_this_days_cells, .inl (cI, n_this_days_cells, .inl o.2.2.1)), (a_this_contributors, .inr (6, [.ref a_this_contributors_cells])), (a_this_contributors_cells, .inl (cI, n_this_contributors_cells, .inl o.2.2.2.1)), (a_this_points, .inr (6, [.ref a_this_points_cells])), (a_this_points_cells, .inl (cI, n_this_points_cells, .inl o.2.2.2.2))])) args s 0 0 (va_A W0 s.heap.size)) 0 0 37 [(0, .ref a_this), (1, .int x1), (2, .int x2), (3, .int x3), (4, .int x4), (5, .int x5)] [] [(a_this, .inr (1, [.ref a_this_lists, .ref a_this_days, .ref a_this_contributors, .ref a_this_points, .int v_this_size])), (a_this_lists, .inr (6, [.ref a_this_lists_cells])), (a_this_lists_cells, .inl (cI, n_this_lists_cells, .inl g_this_lists_cells)), (a_this_days, .inr (6, [.ref a_this_days_cells])), (a_this_days_cells, .inl (cI, n_this_days_cells, .inl g_this_days_cells)), (a_this_contributors, .inr (6, [.ref a_this_contributors_cells])), (a_this_contributors_cells, .inl (cI, n_this_contributors_cells, .inl g_this_contributors_cells)), (a_this_points, .inr (6, [.ref a_this_points_cells])), (a_this_points_cells, .inl (cI, n_this_points_cells, .inl g_this_points_cells))] := by
  unfold f_X1_put_b37 at h
  refine J_iload (pc := 37) C dX1_put_37 5 rfl ?_
  refine J_aload_n (pc := 39) C dX1_put_39 0 rfl ?_
  refine J_get (pc := 40) C dX1_put_40 jf_X1 0 rfl rfl 4 (by decide) rfl fl_RX1_29 rfl ?_
  refine J_ic_ge (pc := 43) (tgt := 89) C dX1_put_43 (by decide) h (fun h => ?_) (fun h => ?_)
  · exact t_X1_put_b89 C hr h
  · refine J_aload_n (pc := 46) C dX1_put_46 0 rfl ?_
    refine J_get (pc := 47) C dX1_put_47 jf_X1 0 rfl rfl 0 (by decide) rfl fl_RX1_14 rfl ?_
    refine J_iload (pc := 50) C dX1_put_50 5 rfl ?_
    refine J_cvr (pc := 52) (As := [.int x5]) (st := []) C dX1_put_52 ml_RX1_37 mi_yX6_at (fun r52 hr => c_X6_at l D cI cB cL cO pf 0 a_this_lists a_this_lists_cells n_this_lists_cells g_this_lists_cells x5 r52 hr) h [1, 2] rfl rfl rfl rfl rfl ⟨rfl, rfl⟩ ⟨(Nat.le_of_ble_eq_true rfl), (Nat.le_of_ble_eq_true rfl)⟩ ⟨Nat.zero_le _, Nat.zero_le _⟩ (Nat.le_of_ble_eq_true rfl) (fun r52 h => ?_)
    refine J_iload_n (pc := 55) C dX1_put_55 1 rfl ?_
    refine J_ic_ne (pc := 56) (tgt := 89) C dX1_put_56 (by decide) h (fun h => ?_) (fun h => ?_)
    · exact t_X1_put_b89 C hr h
    · refine J_aload_n (pc := 59) C dX1_put_59 0 rfl ?_
      refine J_get (pc := 60) C dX1_put_60 jf_X1 0 rfl rfl 1 (by decide) rfl fl_RX1_20 rfl ?_
      refine J_iload (pc := 63) C dX1_put_63 5 rfl ?_
      refine J_cvr (pc := 65) (As := [.int x5]) (st := []) C dX1_put_65 ml_RX1_37 mi_yX6_at (fun r65 hr => c_X6_at l D cI cB cL cO pf 0 a_this_days a_this_days_cells n_this_days_cells g_this_days_cells x5 r65 hr) h [3, 4] rfl rfl rfl rfl rfl ⟨rfl, rfl⟩ ⟨(Nat.le_of_ble_eq_true rfl), (Nat.le_of_ble_eq_true rfl)⟩ ⟨Nat.zero_le _, Nat.zero_le _⟩ (Nat.le_of_ble_eq_true rfl) (fun r65 h => ?_)
      refine J_iload_n (pc := 68) C dX1_put_68 2 rfl ?_
      refine J_ic_ne (pc := 69) (tgt := 89) C dX1_put_69 (by decide) h (fun h => ?_) (fun h => ?_)
      · exact t_X1_put_b89 C hr h
      · refine J_aload_n (pc := 72) C dX1_put_72 0 rfl ?_
        refine J_get (pc := 73) C dX1_put_73 jf_X1 0 rfl rfl 2 (by decide) rfl fl_RX1_23 rfl ?_
        refine J_iload (pc := 76) C dX1_put_76 5 rfl ?_
        refine J_cvr (pc := 78) (As := [.int x5]) (st := []) C dX1_put_78 ml_RX1_37 mi_yX6_at (fun r78 hr => c_X6_at l D cI cB cL cO pf 0 a_this_contributors a_this_contributors_cells n_this_contributors_cells g_this_contributors_cells x5 r78 hr) h [5, 6] rfl rfl rfl rfl rfl ⟨rfl, rfl⟩ ⟨(Nat.le_of_ble_eq_true rfl), (Nat.le_of_ble_eq_true rfl)⟩ ⟨Nat.zero_le _, Nat.zero_le _⟩ (Nat.le_of_ble_eq_true rfl) (fun r78 h => ?_)
        refine J_iload_n (pc := 81) C dX1_put_81 3 rfl ?_
        refine J_ic_ne (pc := 82) (tgt := 89) C dX1_put_82 (by decide) h (fun h => ?_) (fun h => ?_)
        · exact t_X1_put_b89 C hr h
        · refine J_iconst (v := (1 : Int32)) (pc := 85) C dX1_put_85 (by decide) ?_
          refine J_goto (tgt := 90) (pc := 86) C dX1_put_86 (by decide) ?_
          exact t_X1_put_b90 C hr h
set_option maxHeartbeats 4000000 in
set_option maxRecDepth 100000 in
theorem t_X1_put_b10 {l : Launch} {D : va_G} {cI cB cL cO : ClassId} {pf : Nat → Nat} {p : Program} {e : Env} {s : State} {m : MethodId} {args : Array Value} {below : List Frame} {meth : Method} {c : Code} {W0 : va_W} {a_this a_this_lists a_this_days a_this_contributors a_this_points a_this_lists_cells a_this_days_cells a_this_contributors_cells a_this_points_cells : Nat}  {n_this_lists_cells : Nat} {n_this_days_cells : Nat} {n_this_contributors_cells : Nat} {n_this_points_cells : Nat} {v_this_size : Int32} {g_this_lists_cells : Nat → Int32} {g_this_days_cells : Nat → Int32} {g_this_contributors_cells : Nat → Int32} {g_this_points_cells : Nat → Int32} {x1 : Int32} {x2 : Int32} {x3 : Int32} {x4 : Int32} {o : Int32 × (Nat → Int32) × (Nat → Int32) × (Nat → Int32) × (Nat → Int32)} (C : jC p s m args meth c cX1_put 7 RX1 D [(cI, .int), (cB, .byte), (cL, .long), (cO, .object RX0)] pf (va_A W0 s.heap.size)) (hr : meth.sig.returnType = (none : Option FieldType)) : ∀ (n : Nat) (x5 : Int32), f_X1_put_b10 x1 x2 x3 x4 n_this_lists_cells n_this_days_cells n_this_contributors_cells n_this_points_cells v_this_size g_this_lists_cells g_this_days_cells g_this_contributors_cells g_this_points_cells n x5 = some o → J p l e { frames := 3, cells := 0, slots := 0, locals := 106 } s m args below meth c 7 D (va_A W0 s.heap.size) (MQ below (jQ D [(cI, .int), (cB, .byte), (cL, .long), (cO, .object RX0)] W0 s.heap.size (is1 (none) [(a_this, .inr (1, [.ref a_this_lists, .ref a_this_days, .ref a_this_contributors, .ref a_this_points, .int o.1])), (a_this_lists, .inr (6, [.ref a_this_lists_cells])), (a_this_lists_cells, .inl (cI, n_this_lists_cells, .inl o.2.1)), (a_this_days, .inr (6, [.ref a_this_days_cells])), (a_this_days_cells, .inl (cI, n_this_days_cells, .inl o.2.2.1)), (a_this_contributors, .inr (6, [.ref a_this_contributors_cells])), (a_this_contributors_cells, .inl (cI, n_this_contributors_cells, .inl o.2.2.2.1)), (a_this_points, .inr (6, [.ref a_this_points_cells])), (a_this_points_cells, .inl (cI, n_this_points_cells, .inl o.2.2.2.2))])) args s 0 0 (va_A W0 s.heap.size)) 0 0 10 [(0, .ref a_this), (1, .int x1), (2, .int x2), (3, .int x3), (4, .int x4), (5, .int x5)] [] [(a_this, .inr (1, [.ref a_this_lists, .ref a_this_days, .ref a_this_contributors, .ref a_this_points, .int v_this_size])), (a_this_lists, .inr (6, [.ref a_this_lists_cells])), (a_this_lists_cells, .inl (cI, n_this_lists_cells, .inl g_this_lists_cells)), (a_this_days, .inr (6, [.ref a_this_days_cells])), (a_this_days_cells, .inl (cI, n_this_days_cells, .inl g_this_days_cells)), (a_this_contributors, .inr (6, [.ref a_this_contributors_cells])), (a_this_contributors_cells, .inl (cI, n_this_contributors_cells, .inl g_this_contributors_cells)), (a_this_points, .inr (6, [.ref a_this_points_cells])), (a_this_points_cells, .inl (cI, n_this_points_cells, .inl g_this_points_cells))] := by
  intro n
  induction n with
  | zero =>
    intro _ h
    rw [f_X1_put_b10] at h
    cases h
  | succ n ih =>
    intro x5 h
    rw [f_X1_put_b10] at h
    refine J_iload (pc := 10) C dX1_put_10 5 rfl ?_
    refine J_aload_n (pc := 12) C dX1_put_12 0 rfl ?_
    refine J_get (pc := 13) C dX1_put_13 jf_X1 0 rfl rfl 4 (by decide) rfl fl_RX1_29 rfl ?_
    refine J_ic_ge (pc := 16) (tgt := 37) C dX1_put_16 (by decide) h (fun h => ?_) (fun h => ?_)
    · exact t_X1_put_b37 C hr h
    · refine J_aload_n (pc := 19) C dX1_put_19 0 rfl ?_
      refine J_iload (pc := 20) C dX1_put_20 5 rfl ?_
      refine J_iload_n (pc := 22) C dX1_put_22 1 rfl ?_
      refine J_iload_n (pc := 23) C dX1_put_23 2 rfl ?_
      refine J_iload_n (pc := 24) C dX1_put_24 3 rfl ?_
      refine J_cvr (pc := 25) (As := [.int x5, .int x1, .int x2, .int x3]) (st := []) C dX1_put_25 ml_RX1_49 mi_yX1_isBefore (fun r25 hr => c_X1_isBefore l D cI cB cL cO pf 0 a_this a_this_lists a_this_days a_this_contributors a_this_points a_this_lists_cells a_this_days_cells a_this_contributors_cells n_this_lists_cells n_this_days_cells n_this_contributors_cells v_this_size g_this_lists_cells g_this_days_cells g_this_contributors_cells x5 x1 x2 x3 r25 hr) h [0, 1, 2, 3, 4, 5, 6] rfl rfl rfl rfl rfl ⟨rfl, rfl⟩ ⟨(Nat.le_of_ble_eq_true rfl), (Nat.le_of_ble_eq_true rfl)⟩ ⟨Nat.zero_le _, Nat.zero_le _⟩ (Nat.le_of_ble_eq_true rfl) (fun r25 h => ?_)
      refine J_if_eq (pc := 28) (tgt := 37) C dX1_put_28 (by decide) h (fun h => ?_) (fun h => ?_)
      · exact t_X1_put_b37 C hr h
      · refine J_iincN (pc := 31) (v := (1 : Int32)) C (fun y31 => [(5, .int y31), (0, .ref a_this), (1, .int x1), (2, .int x2), (3, .int x3), (4, .int x4)]) dX1_put_31 5 rfl (by decide) h (by decide) (fun _ => rfl) (fun y31 h => ?_)
        refine J_goto (tgt := 10) (pc := 34) C dX1_put_34 (by decide) ?_
        refine J_sub (lv2 := [(0, .ref a_this), (1, .int x1), (2, .int x2), (3, .int x3), (4, .int x4), (5, .int y31)]) [1, 2, 3, 4, 5, 0] rfl ?_
        exact ih _ h
set_option maxHeartbeats 4000000 in
set_option maxRecDepth 100000 in
theorem c_X1_put (l : Launch) (D : va_G) (cI cB cL cO : ClassId) (pf : Nat → Nat) (N : Nat) (a_this a_this_lists a_this_days a_this_contributors a_this_points a_this_lists_cells a_this_days_cells a_this_contributors_cells a_this_points_cells : Nat) (n_this_lists_cells : Nat) (n_this_days_cells : Nat) (n_this_contributors_cells : Nat) (n_this_points_cells : Nat) (v_this_size : Int32) (g_this_lists_cells : Nat → Int32) (g_this_days_cells : Nat → Int32) (g_this_contributors_cells : Nat → Int32) (g_this_points_cells : Nat → Int32) (x1 : Int32) (x2 : Int32) (x3 : Int32) (x4 : Int32) (o : Int32 × (Nat → Int32) × (Nat → Int32) × (Nat → Int32) × (Nat → Int32)) (h : f_X1_put N x1 x2 x3 x4 n_this_lists_cells n_this_days_cells n_this_contributors_cells n_this_points_cells v_this_size g_this_lists_cells g_this_days_cells g_this_contributors_cells g_this_points_cells = some o) : Ct l D [(cI, .int), (cB, .byte), (cL, .long), (cO, .object RX0)] pf yX1_put cX1_put 7 (none : Option FieldType) { frames := 3, cells := 0, slots := 0, locals := 106 } [.ref a_this, .int x1, .int x2, .int x3, .int x4] [(a_this, .inr (1, [.ref a_this_lists, .ref a_this_days, .ref a_this_contributors, .ref a_this_points, .int v_this_size])), (a_this_lists, .inr (6, [.ref a_this_lists_cells])), (a_this_lists_cells, .inl (cI, n_this_lists_cells, .inl g_this_lists_cells)), (a_this_days, .inr (6, [.ref a_this_days_cells])), (a_this_days_cells, .inl (cI, n_this_days_cells, .inl g_this_days_cells)), (a_this_contributors, .inr (6, [.ref a_this_contributors_cells])), (a_this_contributors_cells, .inl (cI, n_this_contributors_cells, .inl g_this_contributors_cells)), (a_this_points, .inr (6, [.ref a_this_points_cells])), (a_this_points_cells, .inl (cI, n_this_points_cells, .inl g_this_points_cells))] (is1 (none) [(a_this, .inr (1, [.ref a_this_lists, .ref a_this_days, .ref a_this_contributors, .ref a_this_points, .int o.1])), (a_this_lists, .inr (6, [.ref a_this_lists_cells])), (a_this_lists_cells, .inl (cI, n_this_lists_cells, .inl o.2.1)), (a_this_days, .inr (6, [.ref a_this_days_cells])), (a_this_days_cells, .inl (cI, n_this_days_cells, .inl o.2.2.1)), (a_this_contributors, .inr (6, [.ref a_this_contributors_cells])), (a_this_contributors_cells, .inl (cI, n_this_contributors_cells, .inl o.2.2.2.1)), (a_this_points, .inr (6, [.ref a_this_points_cells])), (a_this_points_cells, .inl (cI, n_this_points_cells, .inl o.2.2.2.2))]) := by
  refine Ct_of (own := RX1) (lv0 := [(0, .ref a_this), (1, .int x1), (2, .int x2), (3, .int x3), (4, .int x4)]) (by decide) rfl rfl (Nat.le_of_ble_eq_true rfl) ?_
  intro p e s m args below meth c C hr hnm
  unfold f_X1_put at h
  refine J_iload (pc := 0) C dX1_put_0 4 rfl ?_
  refine J_iconst (v := (1 : Int32)) (pc := 2) C dX1_put_2 (by decide) ?_
  refine J_ic_ge (pc := 3) (tgt := 7) C dX1_put_3 (by decide) h (fun h => ?_) (fun h => ?_)
  · refine J_iconst (v := (0 : Int32)) (pc := 7) C dX1_put_7 (by decide) ?_
    refine J_istore (lv2 := [(5, .int (0 : Int32)), (0, .ref a_this), (1, .int x1), (2, .int x2), (3, .int x3), (4, .int x4)]) (pc := 8) C dX1_put_8 (by decide) rfl ?_
    refine J_sub (lv2 := [(0, .ref a_this), (1, .int x1), (2, .int x2), (3, .int x3), (4, .int x4), (5, .int (0 : Int32))]) [1, 2, 3, 4, 5, 0] rfl ?_
    exact t_X1_put_b10 C hr N _ h
  · cases h
    exact J_vret (pc := 6) C dX1_put_6 hr ⟨rfl, rfl⟩
-- PointsLedger$Purchases.add(IIIIII)V
theorem dX5_add_0 : decode cX5_add 0 = .ok (.aload_n 0, 1) := by decide +kernel
theorem dX5_add_1 : decode cX5_add 1 = .ok (.getfield 20, 3) := by decide +kernel
theorem dX5_add_4 : decode cX5_add 4 = .ok (.bipush 7, 2) := by decide +kernel
theorem dX5_add_6 : decode cX5_add 6 = .ok (.imul, 1) := by decide +kernel
theorem dX5_add_7 : decode cX5_add 7 = .ok (.istore 7, 2) := by decide +kernel
theorem dX5_add_9 : decode cX5_add 9 = .ok (.aload_n 0, 1) := by decide +kernel
theorem dX5_add_10 : decode cX5_add 10 = .ok (.getfield 14, 3) := by decide +kernel
theorem dX5_add_13 : decode cX5_add 13 = .ok (.iload 7, 2) := by decide +kernel
theorem dX5_add_15 : decode cX5_add 15 = .ok (.iconst 0, 1) := by decide +kernel
theorem dX5_add_16 : decode cX5_add 16 = .ok (.iadd, 1) := by decide +kernel
theorem dX5_add_17 : decode cX5_add 17 = .ok (.iload_n 1, 1) := by decide +kernel
theorem dX5_add_18 : decode cX5_add 18 = .ok (.invokevirtual 32, 3) := by decide +kernel
theorem dX5_add_21 : decode cX5_add 21 = .ok (.aload_n 0, 1) := by decide +kernel
theorem dX5_add_22 : decode cX5_add 22 = .ok (.getfield 14, 3) := by decide +kernel
theorem dX5_add_25 : decode cX5_add 25 = .ok (.iload 7, 2) := by decide +kernel
theorem dX5_add_27 : decode cX5_add 27 = .ok (.iconst 1, 1) := by decide +kernel
theorem dX5_add_28 : decode cX5_add 28 = .ok (.iadd, 1) := by decide +kernel
theorem dX5_add_29 : decode cX5_add 29 = .ok (.iload_n 2, 1) := by decide +kernel
theorem dX5_add_30 : decode cX5_add 30 = .ok (.invokevirtual 32, 3) := by decide +kernel
theorem dX5_add_33 : decode cX5_add 33 = .ok (.aload_n 0, 1) := by decide +kernel
theorem dX5_add_34 : decode cX5_add 34 = .ok (.getfield 14, 3) := by decide +kernel
theorem dX5_add_37 : decode cX5_add 37 = .ok (.iload 7, 2) := by decide +kernel
theorem dX5_add_39 : decode cX5_add 39 = .ok (.iconst 2, 1) := by decide +kernel
theorem dX5_add_40 : decode cX5_add 40 = .ok (.iadd, 1) := by decide +kernel
theorem dX5_add_41 : decode cX5_add 41 = .ok (.iload_n 3, 1) := by decide +kernel
theorem dX5_add_42 : decode cX5_add 42 = .ok (.invokevirtual 32, 3) := by decide +kernel
theorem dX5_add_45 : decode cX5_add 45 = .ok (.aload_n 0, 1) := by decide +kernel
theorem dX5_add_46 : decode cX5_add 46 = .ok (.getfield 14, 3) := by decide +kernel
theorem dX5_add_49 : decode cX5_add 49 = .ok (.iload 7, 2) := by decide +kernel
theorem dX5_add_51 : decode cX5_add 51 = .ok (.iconst 3, 1) := by decide +kernel
theorem dX5_add_52 : decode cX5_add 52 = .ok (.iadd, 1) := by decide +kernel
theorem dX5_add_53 : decode cX5_add 53 = .ok (.iload 4, 2) := by decide +kernel
theorem dX5_add_55 : decode cX5_add 55 = .ok (.invokevirtual 32, 3) := by decide +kernel
theorem dX5_add_58 : decode cX5_add 58 = .ok (.aload_n 0, 1) := by decide +kernel
theorem dX5_add_59 : decode cX5_add 59 = .ok (.getfield 14, 3) := by decide +kernel
theorem dX5_add_62 : decode cX5_add 62 = .ok (.iload 7, 2) := by decide +kernel
theorem dX5_add_64 : decode cX5_add 64 = .ok (.iconst 4, 1) := by decide +kernel
theorem dX5_add_65 : decode cX5_add 65 = .ok (.iadd, 1) := by decide +kernel
theorem dX5_add_66 : decode cX5_add 66 = .ok (.iload 5, 2) := by decide +kernel
theorem dX5_add_68 : decode cX5_add 68 = .ok (.invokevirtual 32, 3) := by decide +kernel
theorem dX5_add_71 : decode cX5_add 71 = .ok (.aload_n 0, 1) := by decide +kernel
theorem dX5_add_72 : decode cX5_add 72 = .ok (.getfield 14, 3) := by decide +kernel
theorem dX5_add_75 : decode cX5_add 75 = .ok (.iload 7, 2) := by decide +kernel
theorem dX5_add_77 : decode cX5_add 77 = .ok (.iconst 5, 1) := by decide +kernel
theorem dX5_add_78 : decode cX5_add 78 = .ok (.iadd, 1) := by decide +kernel
theorem dX5_add_79 : decode cX5_add 79 = .ok (.iload 6, 2) := by decide +kernel
theorem dX5_add_81 : decode cX5_add 81 = .ok (.invokevirtual 32, 3) := by decide +kernel
theorem dX5_add_84 : decode cX5_add 84 = .ok (.aload_n 0, 1) := by decide +kernel
theorem dX5_add_85 : decode cX5_add 85 = .ok (.getfield 14, 3) := by decide +kernel
theorem dX5_add_88 : decode cX5_add 88 = .ok (.iload 7, 2) := by decide +kernel
theorem dX5_add_90 : decode cX5_add 90 = .ok (.bipush 6, 2) := by decide +kernel
theorem dX5_add_92 : decode cX5_add 92 = .ok (.iadd, 1) := by decide +kernel
theorem dX5_add_93 : decode cX5_add 93 = .ok (.iconst 0, 1) := by decide +kernel
theorem dX5_add_94 : decode cX5_add 94 = .ok (.invokevirtual 32, 3) := by decide +kernel
theorem dX5_add_97 : decode cX5_add 97 = .ok (.aload_n 0, 1) := by decide +kernel
theorem dX5_add_98 : decode cX5_add 98 = .ok (.dup, 1) := by decide +kernel
theorem dX5_add_99 : decode cX5_add 99 = .ok (.getfield 20, 3) := by decide +kernel
theorem dX5_add_102 : decode cX5_add 102 = .ok (.iconst 1, 1) := by decide +kernel
theorem dX5_add_103 : decode cX5_add 103 = .ok (.iadd, 1) := by decide +kernel
theorem dX5_add_104 : decode cX5_add 104 = .ok (.putfield 20, 3) := by decide +kernel
theorem dX5_add_107 : decode cX5_add 107 = .ok (.return_, 1) := by decide +kernel
def f_X5_add (x1 : Int32) (x2 : Int32) (x3 : Int32) (x4 : Int32) (x5 : Int32) (x6 : Int32) (n_this_parts_cells : Nat) (v_this_count : Int32) (g_this_parts_cells : Nat → Int32) : Option (Int32 × (Nat → Int32)) :=
  ((some (v_this_count * (7 : Int32))).bind fun y7 => ((f_X6_put (y7 + (0 : Int32)) x1 n_this_parts_cells g_this_parts_cells).bind fun r18 => ((f_X6_put (y7 + (1 : Int32)) x2 n_this_parts_cells r18).bind fun r30 => ((f_X6_put (y7 + (2 : Int32)) x3 n_this_parts_cells r30).bind fun r42 => ((f_X6_put (y7 + (3 : Int32)) x4 n_this_parts_cells r42).bind fun r55 => ((f_X6_put (y7 + (4 : Int32)) x5 n_this_parts_cells r55).bind fun r68 => ((f_X6_put (y7 + (5 : Int32)) x6 n_this_parts_cells r68).bind fun r81 => ((f_X6_put (y7 + (6 : Int32)) (0 : Int32) n_this_parts_cells r81).bind fun r94 => (some ((v_this_count + (1 : Int32)), r94))))))))))
set_option maxHeartbeats 4000000 in
set_option maxRecDepth 100000 in
theorem c_X5_add (l : Launch) (D : va_G) (cI cB cL cO : ClassId) (pf : Nat → Nat) (N : Nat) (a_this a_this_parts a_this_parts_cells : Nat) (n_this_parts_cells : Nat) (v_this_count : Int32) (g_this_parts_cells : Nat → Int32) (x1 : Int32) (x2 : Int32) (x3 : Int32) (x4 : Int32) (x5 : Int32) (x6 : Int32) (o : Int32 × (Nat → Int32)) (h : f_X5_add x1 x2 x3 x4 x5 x6 n_this_parts_cells v_this_count g_this_parts_cells = some o) : Ct l D [(cI, .int), (cB, .byte), (cL, .long), (cO, .object RX0)] pf yX5_add cX5_add 8 (none : Option FieldType) { frames := 1, cells := 0, slots := 0, locals := 22 } [.ref a_this, .int x1, .int x2, .int x3, .int x4, .int x5, .int x6] [(a_this, .inr (5, [.ref a_this_parts, .int v_this_count])), (a_this_parts, .inr (6, [.ref a_this_parts_cells])), (a_this_parts_cells, .inl (cI, n_this_parts_cells, .inl g_this_parts_cells))] (is1 (none) [(a_this, .inr (5, [.ref a_this_parts, .int o.1])), (a_this_parts, .inr (6, [.ref a_this_parts_cells])), (a_this_parts_cells, .inl (cI, n_this_parts_cells, .inl o.2))]) := by
  refine Ct_of (own := RX5) (lv0 := [(0, .ref a_this), (1, .int x1), (2, .int x2), (3, .int x3), (4, .int x4), (5, .int x5), (6, .int x6)]) (by decide) rfl rfl (Nat.le_of_ble_eq_true rfl) ?_
  intro p e s m args below meth c C hr hnm
  unfold f_X5_add at h
  refine J_aload_n (pc := 0) C dX5_add_0 0 rfl ?_
  refine J_get (pc := 1) C dX5_add_1 jf_X5 0 rfl rfl 1 (by decide) rfl fl_RX5_20 rfl ?_
  refine J_bipush (v := (7 : Int32)) (pc := 4) C dX5_add_4 (by decide) ?_
  refine J_imul (pc := 6) C dX5_add_6 ?_
  refine J_istoreN (pc := 7) C (fun y7 => [(7, .int y7), (0, .ref a_this), (1, .int x1), (2, .int x2), (3, .int x3), (4, .int x4), (5, .int x5), (6, .int x6)]) dX5_add_7 h (by decide) (fun _ => rfl) (fun y7 h => ?_)
  refine J_aload_n (pc := 9) C dX5_add_9 1 rfl ?_
  refine J_get (pc := 10) C dX5_add_10 jf_X5 0 rfl rfl 0 (by decide) rfl fl_RX5_14 rfl ?_
  refine J_iload (pc := 13) C dX5_add_13 0 rfl ?_
  refine J_iconst (v := (0 : Int32)) (pc := 15) C dX5_add_15 (by decide) ?_
  refine J_iadd (pc := 16) C dX5_add_16 ?_
  refine J_iload_n (pc := 17) C dX5_add_17 2 rfl ?_
  refine J_cvw (pc := 18) (As := [.int (y7 + (0 : Int32)), .int x1]) (st := []) C (fun r18 => [(a_this, .inr (5, [.ref a_this_parts, .int v_this_count])), (a_this_parts, .inr (6, [.ref a_this_parts_cells])), (a_this_parts_cells, .inl (cI, n_this_parts_cells, .inl r18))]) dX5_add_18 ml_RX5_32 mi_yX6_put (fun r18 hr => c_X6_put l D cI cB cL cO pf 0 a_this_parts a_this_parts_cells n_this_parts_cells g_this_parts_cells (y7 + (0 : Int32)) x1 r18 hr) h [1, 2] rfl rfl rfl rfl rfl ⟨rfl, rfl⟩ ⟨(Nat.le_of_ble_eq_true rfl), (Nat.le_of_ble_eq_true rfl)⟩ ⟨Nat.zero_le _, Nat.zero_le _⟩ (Nat.le_of_ble_eq_true rfl) (fun _ => rfl) (fun _ => rfl) (fun r18 h => ?_)
  refine J_aload_n (pc := 21) C dX5_add_21 1 rfl ?_
  refine J_get (pc := 22) C dX5_add_22 jf_X5 0 rfl rfl 0 (by decide) rfl fl_RX5_14 rfl ?_
  refine J_iload (pc := 25) C dX5_add_25 0 rfl ?_
  refine J_iconst (v := (1 : Int32)) (pc := 27) C dX5_add_27 (by decide) ?_
  refine J_iadd (pc := 28) C dX5_add_28 ?_
  refine J_iload_n (pc := 29) C dX5_add_29 3 rfl ?_
  refine J_cvw (pc := 30) (As := [.int (y7 + (1 : Int32)), .int x2]) (st := []) C (fun r30 => [(a_this, .inr (5, [.ref a_this_parts, .int v_this_count])), (a_this_parts, .inr (6, [.ref a_this_parts_cells])), (a_this_parts_cells, .inl (cI, n_this_parts_cells, .inl r30))]) dX5_add_30 ml_RX5_32 mi_yX6_put (fun r30 hr => c_X6_put l D cI cB cL cO pf 0 a_this_parts a_this_parts_cells n_this_parts_cells r18 (y7 + (1 : Int32)) x2 r30 hr) h [1, 2] rfl rfl rfl rfl rfl ⟨rfl, rfl⟩ ⟨(Nat.le_of_ble_eq_true rfl), (Nat.le_of_ble_eq_true rfl)⟩ ⟨Nat.zero_le _, Nat.zero_le _⟩ (Nat.le_of_ble_eq_true rfl) (fun _ => rfl) (fun _ => rfl) (fun r30 h => ?_)
  refine J_aload_n (pc := 33) C dX5_add_33 1 rfl ?_
  refine J_get (pc := 34) C dX5_add_34 jf_X5 0 rfl rfl 0 (by decide) rfl fl_RX5_14 rfl ?_
  refine J_iload (pc := 37) C dX5_add_37 0 rfl ?_
  refine J_iconst (v := (2 : Int32)) (pc := 39) C dX5_add_39 (by decide) ?_
  refine J_iadd (pc := 40) C dX5_add_40 ?_
  refine J_iload_n (pc := 41) C dX5_add_41 4 rfl ?_
  refine J_cvw (pc := 42) (As := [.int (y7 + (2 : Int32)), .int x3]) (st := []) C (fun r42 => [(a_this, .inr (5, [.ref a_this_parts, .int v_this_count])), (a_this_parts, .inr (6, [.ref a_this_parts_cells])), (a_this_parts_cells, .inl (cI, n_this_parts_cells, .inl r42))]) dX5_add_42 ml_RX5_32 mi_yX6_put (fun r42 hr => c_X6_put l D cI cB cL cO pf 0 a_this_parts a_this_parts_cells n_this_parts_cells r30 (y7 + (2 : Int32)) x3 r42 hr) h [1, 2] rfl rfl rfl rfl rfl ⟨rfl, rfl⟩ ⟨(Nat.le_of_ble_eq_true rfl), (Nat.le_of_ble_eq_true rfl)⟩ ⟨Nat.zero_le _, Nat.zero_le _⟩ (Nat.le_of_ble_eq_true rfl) (fun _ => rfl) (fun _ => rfl) (fun r42 h => ?_)
  refine J_aload_n (pc := 45) C dX5_add_45 1 rfl ?_
  refine J_get (pc := 46) C dX5_add_46 jf_X5 0 rfl rfl 0 (by decide) rfl fl_RX5_14 rfl ?_
  refine J_iload (pc := 49) C dX5_add_49 0 rfl ?_
  refine J_iconst (v := (3 : Int32)) (pc := 51) C dX5_add_51 (by decide) ?_
  refine J_iadd (pc := 52) C dX5_add_52 ?_
  refine J_iload (pc := 53) C dX5_add_53 5 rfl ?_
  refine J_cvw (pc := 55) (As := [.int (y7 + (3 : Int32)), .int x4]) (st := []) C (fun r55 => [(a_this, .inr (5, [.ref a_this_parts, .int v_this_count])), (a_this_parts, .inr (6, [.ref a_this_parts_cells])), (a_this_parts_cells, .inl (cI, n_this_parts_cells, .inl r55))]) dX5_add_55 ml_RX5_32 mi_yX6_put (fun r55 hr => c_X6_put l D cI cB cL cO pf 0 a_this_parts a_this_parts_cells n_this_parts_cells r42 (y7 + (3 : Int32)) x4 r55 hr) h [1, 2] rfl rfl rfl rfl rfl ⟨rfl, rfl⟩ ⟨(Nat.le_of_ble_eq_true rfl), (Nat.le_of_ble_eq_true rfl)⟩ ⟨Nat.zero_le _, Nat.zero_le _⟩ (Nat.le_of_ble_eq_true rfl) (fun _ => rfl) (fun _ => rfl) (fun r55 h => ?_)
  refine J_aload_n (pc := 58) C dX5_add_58 1 rfl ?_
  refine J_get (pc := 59) C dX5_add_59 jf_X5 0 rfl rfl 0 (by decide) rfl fl_RX5_14 rfl ?_
  refine J_iload (pc := 62) C dX5_add_62 0 rfl ?_
  refine J_iconst (v := (4 : Int32)) (pc := 64) C dX5_add_64 (by decide) ?_
  refine J_iadd (pc := 65) C dX5_add_65 ?_
  refine J_iload (pc := 66) C dX5_add_66 6 rfl ?_
  refine J_cvw (pc := 68) (As := [.int (y7 + (4 : Int32)), .int x5]) (st := []) C (fun r68 => [(a_this, .inr (5, [.ref a_this_parts, .int v_this_count])), (a_this_parts, .inr (6, [.ref a_this_parts_cells])), (a_this_parts_cells, .inl (cI, n_this_parts_cells, .inl r68))]) dX5_add_68 ml_RX5_32 mi_yX6_put (fun r68 hr => c_X6_put l D cI cB cL cO pf 0 a_this_parts a_this_parts_cells n_this_parts_cells r55 (y7 + (4 : Int32)) x5 r68 hr) h [1, 2] rfl rfl rfl rfl rfl ⟨rfl, rfl⟩ ⟨(Nat.le_of_ble_eq_true rfl), (Nat.le_of_ble_eq_true rfl)⟩ ⟨Nat.zero_le _, Nat.zero_le _⟩ (Nat.le_of_ble_eq_true rfl) (fun _ => rfl) (fun _ => rfl) (fun r68 h => ?_)
  refine J_aload_n (pc := 71) C dX5_add_71 1 rfl ?_
  refine J_get (pc := 72) C dX5_add_72 jf_X5 0 rfl rfl 0 (by decide) rfl fl_RX5_14 rfl ?_
  refine J_iload (pc := 75) C dX5_add_75 0 rfl ?_
  refine J_iconst (v := (5 : Int32)) (pc := 77) C dX5_add_77 (by decide) ?_
  refine J_iadd (pc := 78) C dX5_add_78 ?_
  refine J_iload (pc := 79) C dX5_add_79 7 rfl ?_
  refine J_cvw (pc := 81) (As := [.int (y7 + (5 : Int32)), .int x6]) (st := []) C (fun r81 => [(a_this, .inr (5, [.ref a_this_parts, .int v_this_count])), (a_this_parts, .inr (6, [.ref a_this_parts_cells])), (a_this_parts_cells, .inl (cI, n_this_parts_cells, .inl r81))]) dX5_add_81 ml_RX5_32 mi_yX6_put (fun r81 hr => c_X6_put l D cI cB cL cO pf 0 a_this_parts a_this_parts_cells n_this_parts_cells r68 (y7 + (5 : Int32)) x6 r81 hr) h [1, 2] rfl rfl rfl rfl rfl ⟨rfl, rfl⟩ ⟨(Nat.le_of_ble_eq_true rfl), (Nat.le_of_ble_eq_true rfl)⟩ ⟨Nat.zero_le _, Nat.zero_le _⟩ (Nat.le_of_ble_eq_true rfl) (fun _ => rfl) (fun _ => rfl) (fun r81 h => ?_)
  refine J_aload_n (pc := 84) C dX5_add_84 1 rfl ?_
  refine J_get (pc := 85) C dX5_add_85 jf_X5 0 rfl rfl 0 (by decide) rfl fl_RX5_14 rfl ?_
  refine J_iload (pc := 88) C dX5_add_88 0 rfl ?_
  refine J_bipush (v := (6 : Int32)) (pc := 90) C dX5_add_90 (by decide) ?_
  refine J_iadd (pc := 92) C dX5_add_92 ?_
  refine J_iconst (v := (0 : Int32)) (pc := 93) C dX5_add_93 (by decide) ?_
  refine J_cvw (pc := 94) (As := [.int (y7 + (6 : Int32)), .int (0 : Int32)]) (st := []) C (fun r94 => [(a_this, .inr (5, [.ref a_this_parts, .int v_this_count])), (a_this_parts, .inr (6, [.ref a_this_parts_cells])), (a_this_parts_cells, .inl (cI, n_this_parts_cells, .inl r94))]) dX5_add_94 ml_RX5_32 mi_yX6_put (fun r94 hr => c_X6_put l D cI cB cL cO pf 0 a_this_parts a_this_parts_cells n_this_parts_cells r81 (y7 + (6 : Int32)) (0 : Int32) r94 hr) h [1, 2] rfl rfl rfl rfl rfl ⟨rfl, rfl⟩ ⟨(Nat.le_of_ble_eq_true rfl), (Nat.le_of_ble_eq_true rfl)⟩ ⟨Nat.zero_le _, Nat.zero_le _⟩ (Nat.le_of_ble_eq_true rfl) (fun _ => rfl) (fun _ => rfl) (fun r94 h => ?_)
  refine J_aload_n (pc := 97) C dX5_add_97 1 rfl ?_
  refine J_dupr (pc := 98) C dX5_add_98 ?_
  refine J_get (pc := 99) C dX5_add_99 jf_X5 0 rfl rfl 1 (by decide) rfl fl_RX5_20 rfl ?_
  refine J_iconst (v := (1 : Int32)) (pc := 102) C dX5_add_102 (by decide) ?_
  refine J_iadd (pc := 103) C dX5_add_103 ?_
  refine J_put (tt := .int) (pc := 104) C dX5_add_104 jf_X5 0 rfl rfl 1 (by decide) rfl fl_RX5_20 rfl (by decide +kernel) rfl rfl (Nat.le_of_ble_eq_true rfl) ?_
  refine J_ws (ws2 := [(a_this, .inr (5, [.ref a_this_parts, .int (v_this_count + (1 : Int32))])), (a_this_parts, .inr (6, [.ref a_this_parts_cells])), (a_this_parts_cells, .inl (cI, n_this_parts_cells, .inl r94))]) rfl ?_
  cases h
  exact J_vret (pc := 107) C dX5_add_107 hr ⟨rfl, rfl⟩
-- PointsLedger$Cohorts.first(III)I
theorem dX1_first_0 : decode cX1_first 0 = .ok (.iconst 0, 1) := by decide +kernel
theorem dX1_first_1 : decode cX1_first 1 = .ok (.istore 4, 2) := by decide +kernel
theorem dX1_first_3 : decode cX1_first 3 = .ok (.iload 4, 2) := by decide +kernel
theorem dX1_first_5 : decode cX1_first 5 = .ok (.aload_n 0, 1) := by decide +kernel
theorem dX1_first_6 : decode cX1_first 6 = .ok (.getfield 29, 3) := by decide +kernel
theorem dX1_first_9 : decode cX1_first 9 = .ok (.if_icmp .ge 60, 3) := by decide +kernel
theorem dX1_first_12 : decode cX1_first 12 = .ok (.aload_n 0, 1) := by decide +kernel
theorem dX1_first_13 : decode cX1_first 13 = .ok (.iload 4, 2) := by decide +kernel
theorem dX1_first_15 : decode cX1_first 15 = .ok (.iload_n 1, 1) := by decide +kernel
theorem dX1_first_16 : decode cX1_first 16 = .ok (.invokevirtual 41, 3) := by decide +kernel
theorem dX1_first_19 : decode cX1_first 19 = .ok (.ifCond .eq 44, 3) := by decide +kernel
theorem dX1_first_22 : decode cX1_first 22 = .ok (.iload_n 2, 1) := by decide +kernel
theorem dX1_first_23 : decode cX1_first 23 = .ok (.bipush (-2), 2) := by decide +kernel
theorem dX1_first_25 : decode cX1_first 25 = .ok (.if_icmp .eq 16, 3) := by decide +kernel
theorem dX1_first_28 : decode cX1_first 28 = .ok (.aload_n 0, 1) := by decide +kernel
theorem dX1_first_29 : decode cX1_first 29 = .ok (.getfield 20, 3) := by decide +kernel
theorem dX1_first_32 : decode cX1_first 32 = .ok (.iload 4, 2) := by decide +kernel
theorem dX1_first_34 : decode cX1_first 34 = .ok (.invokevirtual 37, 3) := by decide +kernel
theorem dX1_first_37 : decode cX1_first 37 = .ok (.iload_n 2, 1) := by decide +kernel
theorem dX1_first_38 : decode cX1_first 38 = .ok (.if_icmp .ne 25, 3) := by decide +kernel
theorem dX1_first_41 : decode cX1_first 41 = .ok (.iload_n 3, 1) := by decide +kernel
theorem dX1_first_42 : decode cX1_first 42 = .ok (.bipush (-2), 2) := by decide +kernel
theorem dX1_first_44 : decode cX1_first 44 = .ok (.if_icmp .eq 16, 3) := by decide +kernel
theorem dX1_first_47 : decode cX1_first 47 = .ok (.aload_n 0, 1) := by decide +kernel
theorem dX1_first_48 : decode cX1_first 48 = .ok (.getfield 23, 3) := by decide +kernel
theorem dX1_first_51 : decode cX1_first 51 = .ok (.iload 4, 2) := by decide +kernel
theorem dX1_first_53 : decode cX1_first 53 = .ok (.invokevirtual 37, 3) := by decide +kernel
theorem dX1_first_56 : decode cX1_first 56 = .ok (.iload_n 3, 1) := by decide +kernel
theorem dX1_first_57 : decode cX1_first 57 = .ok (.if_icmp .ne 6, 3) := by decide +kernel
theorem dX1_first_60 : decode cX1_first 60 = .ok (.iload 4, 2) := by decide +kernel
theorem dX1_first_62 : decode cX1_first 62 = .ok (.ireturn, 1) := by decide +kernel
theorem dX1_first_63 : decode cX1_first 63 = .ok (.iinc 4 1, 3) := by decide +kernel
theorem dX1_first_66 : decode cX1_first 66 = .ok (.goto (-63), 3) := by decide +kernel
theorem dX1_first_69 : decode cX1_first 69 = .ok (.iconst (-1), 1) := by decide +kernel
theorem dX1_first_70 : decode cX1_first 70 = .ok (.ireturn, 1) := by decide +kernel
def f_X1_first_b41 (k_3 : (Int32) → Option (Int32)) (x3 : Int32) (x4 : Int32) (n_this_contributors_cells : Nat) (g_this_contributors_cells : Nat → Int32) : Option (Int32) :=
  (if x3 = (-2 : Int32) then (some x4) else ((f_X6_at x4 n_this_contributors_cells g_this_contributors_cells).bind fun r53 => (if r53 = x3 then (some x4) else ((some (x4 + (1 : Int32))).bind fun y63 => (k_3 y63)))))
def f_X1_first_b3 (x1 : Int32) (x2 : Int32) (x3 : Int32) (n_this_lists_cells : Nat) (n_this_days_cells : Nat) (n_this_contributors_cells : Nat) (v_this_size : Int32) (g_this_lists_cells : Nat → Int32) (g_this_days_cells : Nat → Int32) (g_this_contributors_cells : Nat → Int32) : Nat → (Int32) → Option (Int32)
  | 0, _ => none
  | n + 1, x4 => (if v_this_size ≤ x4 then (some (-1 : Int32)) else ((f_X1_isIn x4 x1 n_this_lists_cells g_this_lists_cells).bind fun r16 => (if r16 = 0 then ((some (x4 + (1 : Int32))).bind fun y63 => (f_X1_first_b3 x1 x2 x3 n_this_lists_cells n_this_days_cells n_this_contributors_cells v_this_size g_this_lists_cells g_this_days_cells g_this_contributors_cells n y63)) else (if x2 = (-2 : Int32) then (f_X1_first_b41 (f_X1_first_b3 x1 x2 x3 n_this_lists_cells n_this_days_cells n_this_contributors_cells v_this_size g_this_lists_cells g_this_days_cells g_this_contributors_cells n) x3 x4 n_this_contributors_cells g_this_contributors_cells) else ((f_X6_at x4 n_this_days_cells g_this_days_cells).bind fun r34 => (if r34 = x2 then (f_X1_first_b41 (f_X1_first_b3 x1 x2 x3 n_this_lists_cells n_this_days_cells n_this_contributors_cells v_this_size g_this_lists_cells g_this_days_cells g_this_contributors_cells n) x3 x4 n_this_contributors_cells g_this_contributors_cells) else ((some (x4 + (1 : Int32))).bind fun y63 => (f_X1_first_b3 x1 x2 x3 n_this_lists_cells n_this_days_cells n_this_contributors_cells v_this_size g_this_lists_cells g_this_days_cells g_this_contributors_cells n y63))))))))
def f_X1_first (N : Nat) (x1 : Int32) (x2 : Int32) (x3 : Int32) (n_this_lists_cells : Nat) (n_this_days_cells : Nat) (n_this_contributors_cells : Nat) (v_this_size : Int32) (g_this_lists_cells : Nat → Int32) (g_this_days_cells : Nat → Int32) (g_this_contributors_cells : Nat → Int32) : Option (Int32) :=
  (f_X1_first_b3 x1 x2 x3 n_this_lists_cells n_this_days_cells n_this_contributors_cells v_this_size g_this_lists_cells g_this_days_cells g_this_contributors_cells N (0 : Int32))
set_option maxHeartbeats 4000000 in
set_option maxRecDepth 100000 in
theorem t_X1_first_b41 {l : Launch} {D : va_G} {cI cB cL cO : ClassId} {pf : Nat → Nat} {p : Program} {e : Env} {s : State} {m : MethodId} {args : Array Value} {below : List Frame} {meth : Method} {c : Code} {W0 : va_W} {a_this a_this_lists a_this_days a_this_contributors a_this_points a_this_lists_cells a_this_days_cells a_this_contributors_cells : Nat}  {n_this_lists_cells : Nat} {n_this_days_cells : Nat} {n_this_contributors_cells : Nat} {v_this_size : Int32} {g_this_lists_cells : Nat → Int32} {g_this_days_cells : Nat → Int32} {g_this_contributors_cells : Nat → Int32} {x1 : Int32} {x2 : Int32} {x3 : Int32} {x4 : Int32} {o : Int32} (C : jC p s m args meth c cX1_first 5 RX1 D [(cI, .int), (cB, .byte), (cL, .long), (cO, .object RX0)] pf (va_A W0 s.heap.size)) (hr : meth.sig.returnType = (some FieldType.int)) {k_3 : (Int32) → Option (Int32)} (hk_3 : ∀ (x4 : Int32), k_3 x4 = some o → J p l e { frames := 2, cells := 0, slots := 0, locals := 43 } s m args below meth c 5 D (va_A W0 s.heap.size) (MQ below (jQ D [(cI, .int), (cB, .byte), (cL, .long), (cO, .object RX0)] W0 s.heap.size (is1 (some (.int o)) [(a_this, .inr (1, [.ref a_this_lists, .ref a_this_days, .ref a_this_contributors, .ref a_this_points, .int v_this_size])), (a_this_lists, .inr (6, [.ref a_this_lists_cells])), (a_this_lists_cells, .inl (cI, n_this_lists_cells, .inl g_this_lists_cells)), (a_this_days, .inr (6, [.ref a_this_days_cells])), (a_this_days_cells, .inl (cI, n_this_days_cells, .inl g_this_days_cells)), (a_this_contributors, .inr (6, [.ref a_this_contributors_cells])), (a_this_contributors_cells, .inl (cI, n_this_contributors_cells, .inl g_this_contributors_cells))])) args s 0 0 (va_A W0 s.heap.size)) 0 0 3 [(0, .ref a_this), (1, .int x1), (2, .int x2), (3, .int x3), (4, .int x4)] [] [(a_this, .inr (1, [.ref a_this_lists, .ref a_this_days, .ref a_this_contributors, .ref a_this_points, .int v_this_size])), (a_this_lists, .inr (6, [.ref a_this_lists_cells])), (a_this_lists_cells, .inl (cI, n_this_lists_cells, .inl g_this_lists_cells)), (a_this_days, .inr (6, [.ref a_this_days_cells])), (a_this_days_cells, .inl (cI, n_this_days_cells, .inl g_this_days_cells)), (a_this_contributors, .inr (6, [.ref a_this_contributors_cells])), (a_this_contributors_cells, .inl (cI, n_this_contributors_cells, .inl g_this_contributors_cells))]) (h : f_X1_first_b41 k_3 x3 x4 n_this_contributors_cells g_this_contributors_cells = some o) : J p l e { frames := 2, cells := 0, slots := 0, locals := 43 } s m args below meth c 5 D (va_A W0 s.heap.size) (MQ below (jQ D [(cI, .int), (cB, .byte), (cL, .long), (cO, .object RX0)] W0 s.heap.size (is1 (some (.int o)) [(a_this, .inr (1, [.ref a_this_lists, .ref a_this_days, .ref a_this_contributors, .ref a_this_points, .int v_this_size])), (a_this_lists, .inr (6, [.ref a_this_lists_cells])), (a_this_lists_cells, .inl (cI, n_this_lists_cells, .inl g_this_lists_cells)), (a_this_days, .inr (6, [.ref a_this_days_cells])), (a_this_days_cells, .inl (cI, n_this_days_cells, .inl g_this_days_cells)), (a_this_contributors, .inr (6, [.ref a_this_contributors_cells])), (a_this_contributors_cells, .inl (cI, n_this_contributors_cells, .inl g_this_contributors_cells))])) args s 0 0 (va_A W0 s.heap.size)) 0 0 41 [(0, .ref a_this), (1, .int x1), (2, .int x2), (3, .int x3), (4, .int x4)] [] [(a_this, .inr (1, [.ref a_this_lists, .ref a_this_days, .ref a_this_contributors, .ref a_this_points, .int v_this_size])), (a_this_lists, .inr (6, [.ref a_this_lists_cells])), (a_this_lists_cells, .inl (cI, n_this_lists_cells, .inl g_this_lists_cells)), (a_this_days, .inr (6, [.ref a_this_days_cells])), (a_this_days_cells, .inl (cI, n_this_days_cells, .inl g_this_days_cells)), (a_this_contributors, .inr (6, [.ref a_this_contributors_cells])), (a_this_contributors_cells, .inl (cI, n_this_contributors_cells, .inl g_this_contributors_cells))] := by
  unfold f_X1_first_b41 at h
  refine J_iload_n (pc := 41) C dX1_first_41 3 rfl ?_
  refine J_bipush (v := (-2 : Int32)) (pc := 42) C dX1_first_42 (by decide) ?_
  refine J_ic_eq (pc := 44) (tgt := 60) C dX1_first_44 (by decide) h (fun h => ?_) (fun h => ?_)
  · refine J_iload (pc := 60) C dX1_first_60 4 rfl ?_
    cases h
    exact J_iret (pc := 62) C dX1_first_62 hr ⟨rfl, rfl⟩
  · refine J_aload_n (pc := 47) C dX1_first_47 0 rfl ?_
    refine J_get (pc := 48) C dX1_first_48 jf_X1 0 rfl rfl 2 (by decide) rfl fl_RX1_23 rfl ?_
    refine J_iload (pc := 51) C dX1_first_51 4 rfl ?_
    refine J_cvr (pc := 53) (As := [.int x4]) (st := []) C dX1_first_53 ml_RX1_37 mi_yX6_at (fun r53 hr => c_X6_at l D cI cB cL cO pf 0 a_this_contributors a_this_contributors_cells n_this_contributors_cells g_this_contributors_cells x4 r53 hr) h [5, 6] rfl rfl rfl rfl rfl ⟨rfl, rfl⟩ ⟨(Nat.le_of_ble_eq_true rfl), (Nat.le_of_ble_eq_true rfl)⟩ ⟨Nat.zero_le _, Nat.zero_le _⟩ (Nat.le_of_ble_eq_true rfl) (fun r53 h => ?_)
    refine J_iload_n (pc := 56) C dX1_first_56 3 rfl ?_
    refine J_ic_ne (pc := 57) (tgt := 63) C dX1_first_57 (by decide) h (fun h => ?_) (fun h => ?_)
    · refine J_iincN (pc := 63) (v := (1 : Int32)) C (fun y63 => [(4, .int y63), (0, .ref a_this), (1, .int x1), (2, .int x2), (3, .int x3)]) dX1_first_63 4 rfl (by decide) h (by decide) (fun _ => rfl) (fun y63 h => ?_)
      refine J_goto (tgt := 3) (pc := 66) C dX1_first_66 (by decide) ?_
      refine J_sub (lv2 := [(0, .ref a_this), (1, .int x1), (2, .int x2), (3, .int x3), (4, .int y63)]) [1, 2, 3, 4, 0] rfl ?_
      exact hk_3 _ h
    · refine J_iload (pc := 60) C dX1_first_60 4 rfl ?_
      cases h
      exact J_iret (pc := 62) C dX1_first_62 hr ⟨rfl, rfl⟩
set_option maxHeartbeats 4000000 in
set_option maxRecDepth 100000 in
theorem t_X1_first_b3 {l : Launch} {D : va_G} {cI cB cL cO : ClassId} {pf : Nat → Nat} {p : Program} {e : Env} {s : State} {m : MethodId} {args : Array Value} {below : List Frame} {meth : Method} {c : Code} {W0 : va_W} {a_this a_this_lists a_this_days a_this_contributors a_this_points a_this_lists_cells a_this_days_cells a_this_contributors_cells : Nat}  {n_this_lists_cells : Nat} {n_this_days_cells : Nat} {n_this_contributors_cells : Nat} {v_this_size : Int32} {g_this_lists_cells : Nat → Int32} {g_this_days_cells : Nat → Int32} {g_this_contributors_cells : Nat → Int32} {x1 : Int32} {x2 : Int32} {x3 : Int32} {o : Int32} (C : jC p s m args meth c cX1_first 5 RX1 D [(cI, .int), (cB, .byte), (cL, .long), (cO, .object RX0)] pf (va_A W0 s.heap.size)) (hr : meth.sig.returnType = (some FieldType.int)) : ∀ (n : Nat) (x4 : Int32), f_X1_first_b3 x1 x2 x3 n_this_lists_cells n_this_days_cells n_this_contributors_cells v_this_size g_this_lists_cells g_this_days_cells g_this_contributors_cells n x4 = some o → J p l e { frames := 2, cells := 0, slots := 0, locals := 43 } s m args below meth c 5 D (va_A W0 s.heap.size) (MQ below (jQ D [(cI, .int), (cB, .byte), (cL, .long), (cO, .object RX0)] W0 s.heap.size (is1 (some (.int o)) [(a_this, .inr (1, [.ref a_this_lists, .ref a_this_days, .ref a_this_contributors, .ref a_this_points, .int v_this_size])), (a_this_lists, .inr (6, [.ref a_this_lists_cells])), (a_this_lists_cells, .inl (cI, n_this_lists_cells, .inl g_this_lists_cells)), (a_this_days, .inr (6, [.ref a_this_days_cells])), (a_this_days_cells, .inl (cI, n_this_days_cells, .inl g_this_days_cells)), (a_this_contributors, .inr (6, [.ref a_this_contributors_cells])), (a_this_contributors_cells, .inl (cI, n_this_contributors_cells, .inl g_this_contributors_cells))])) args s 0 0 (va_A W0 s.heap.size)) 0 0 3 [(0, .ref a_this), (1, .int x1), (2, .int x2), (3, .int x3), (4, .int x4)] [] [(a_this, .inr (1, [.ref a_this_lists, .ref a_this_days, .ref a_this_contributors, .ref a_this_points, .int v_this_size])), (a_this_lists, .inr (6, [.ref a_this_lists_cells])), (a_this_lists_cells, .inl (cI, n_this_lists_cells, .inl g_this_lists_cells)), (a_this_days, .inr (6, [.ref a_this_days_cells])), (a_this_days_cells, .inl (cI, n_this_days_cells, .inl g_this_days_cells)), (a_this_contributors, .inr (6, [.ref a_this_contributors_cells])), (a_this_contributors_cells, .inl (cI, n_this_contributors_cells, .inl g_this_contributors_cells))] := by
  intro n
  induction n with
  | zero =>
    intro _ h
    rw [f_X1_first_b3] at h
    cases h
  | succ n ih =>
    intro x4 h
    rw [f_X1_first_b3] at h
    refine J_iload (pc := 3) C dX1_first_3 4 rfl ?_
    refine J_aload_n (pc := 5) C dX1_first_5 0 rfl ?_
    refine J_get (pc := 6) C dX1_first_6 jf_X1 0 rfl rfl 4 (by decide) rfl fl_RX1_29 rfl ?_
    refine J_ic_ge (pc := 9) (tgt := 69) C dX1_first_9 (by decide) h (fun h => ?_) (fun h => ?_)
    · refine J_iconst (v := (-1 : Int32)) (pc := 69) C dX1_first_69 (by decide) ?_
      cases h
      exact J_iret (pc := 70) C dX1_first_70 hr ⟨rfl, rfl⟩
    · refine J_aload_n (pc := 12) C dX1_first_12 0 rfl ?_
      refine J_iload (pc := 13) C dX1_first_13 4 rfl ?_
      refine J_iload_n (pc := 15) C dX1_first_15 1 rfl ?_
      refine J_cvr (pc := 16) (As := [.int x4, .int x1]) (st := []) C dX1_first_16 ml_RX1_41 mi_yX1_isIn (fun r16 hr => c_X1_isIn l D cI cB cL cO pf 0 a_this a_this_lists a_this_days a_this_contributors a_this_points a_this_lists_cells n_this_lists_cells v_this_size g_this_lists_cells x4 x1 r16 hr) h [0, 1, 2] rfl rfl rfl rfl rfl ⟨rfl, rfl⟩ ⟨(Nat.le_of_ble_eq_true rfl), (Nat.le_of_ble_eq_true rfl)⟩ ⟨Nat.zero_le _, Nat.zero_le _⟩ (Nat.le_of_ble_eq_true rfl) (fun r16 h => ?_)
      refine J_if_eq (pc := 19) (tgt := 63) C dX1_first_19 (by decide) h (fun h => ?_) (fun h => ?_)
      · refine J_iincN (pc := 63) (v := (1 : Int32)) C (fun y63 => [(4, .int y63), (0, .ref a_this), (1, .int x1), (2, .int x2), (3, .int x3)]) dX1_first_63 4 rfl (by decide) h (by decide) (fun _ => rfl) (fun y63 h => ?_)
        refine J_goto (tgt := 3) (pc := 66) C dX1_first_66 (by decide) ?_
        refine J_sub (lv2 := [(0, .ref a_this), (1, .int x1), (2, .int x2), (3, .int x3), (4, .int y63)]) [1, 2, 3, 4, 0] rfl ?_
        exact ih _ h
      · refine J_iload_n (pc := 22) C dX1_first_22 2 rfl ?_
        refine J_bipush (v := (-2 : Int32)) (pc := 23) C dX1_first_23 (by decide) ?_
        refine J_ic_eq (pc := 25) (tgt := 41) C dX1_first_25 (by decide) h (fun h => ?_) (fun h => ?_)
        · exact t_X1_first_b41 C hr ih h
        · refine J_aload_n (pc := 28) C dX1_first_28 0 rfl ?_
          refine J_get (pc := 29) C dX1_first_29 jf_X1 0 rfl rfl 1 (by decide) rfl fl_RX1_20 rfl ?_
          refine J_iload (pc := 32) C dX1_first_32 4 rfl ?_
          refine J_cvr (pc := 34) (As := [.int x4]) (st := []) C dX1_first_34 ml_RX1_37 mi_yX6_at (fun r34 hr => c_X6_at l D cI cB cL cO pf 0 a_this_days a_this_days_cells n_this_days_cells g_this_days_cells x4 r34 hr) h [3, 4] rfl rfl rfl rfl rfl ⟨rfl, rfl⟩ ⟨(Nat.le_of_ble_eq_true rfl), (Nat.le_of_ble_eq_true rfl)⟩ ⟨Nat.zero_le _, Nat.zero_le _⟩ (Nat.le_of_ble_eq_true rfl) (fun r34 h => ?_)
          refine J_iload_n (pc := 37) C dX1_first_37 2 rfl ?_
          refine J_ic_ne (pc := 38) (tgt := 63) C dX1_first_38 (by decide) h (fun h => ?_) (fun h => ?_)
          · refine J_iincN (pc := 63) (v := (1 : Int32)) C (fun y63 => [(4, .int y63), (0, .ref a_this), (1, .int x1), (2, .int x2), (3, .int x3)]) dX1_first_63 4 rfl (by decide) h (by decide) (fun _ => rfl) (fun y63 h => ?_)
            refine J_goto (tgt := 3) (pc := 66) C dX1_first_66 (by decide) ?_
            refine J_sub (lv2 := [(0, .ref a_this), (1, .int x1), (2, .int x2), (3, .int x3), (4, .int y63)]) [1, 2, 3, 4, 0] rfl ?_
            exact ih _ h
          · exact t_X1_first_b41 C hr ih h
set_option maxHeartbeats 4000000 in
set_option maxRecDepth 100000 in
theorem c_X1_first (l : Launch) (D : va_G) (cI cB cL cO : ClassId) (pf : Nat → Nat) (N : Nat) (a_this a_this_lists a_this_days a_this_contributors a_this_points a_this_lists_cells a_this_days_cells a_this_contributors_cells : Nat) (n_this_lists_cells : Nat) (n_this_days_cells : Nat) (n_this_contributors_cells : Nat) (v_this_size : Int32) (g_this_lists_cells : Nat → Int32) (g_this_days_cells : Nat → Int32) (g_this_contributors_cells : Nat → Int32) (x1 : Int32) (x2 : Int32) (x3 : Int32) (o : Int32) (h : f_X1_first N x1 x2 x3 n_this_lists_cells n_this_days_cells n_this_contributors_cells v_this_size g_this_lists_cells g_this_days_cells g_this_contributors_cells = some o) : Ct l D [(cI, .int), (cB, .byte), (cL, .long), (cO, .object RX0)] pf yX1_first cX1_first 5 (some FieldType.int) { frames := 2, cells := 0, slots := 0, locals := 43 } [.ref a_this, .int x1, .int x2, .int x3] [(a_this, .inr (1, [.ref a_this_lists, .ref a_this_days, .ref a_this_contributors, .ref a_this_points, .int v_this_size])), (a_this_lists, .inr (6, [.ref a_this_lists_cells])), (a_this_lists_cells, .inl (cI, n_this_lists_cells, .inl g_this_lists_cells)), (a_this_days, .inr (6, [.ref a_this_days_cells])), (a_this_days_cells, .inl (cI, n_this_days_cells, .inl g_this_days_cells)), (a_this_contributors, .inr (6, [.ref a_this_contributors_cells])), (a_this_contributors_cells, .inl (cI, n_this_contributors_cells, .inl g_this_contributors_cells))] (is1 (some (.int o)) [(a_this, .inr (1, [.ref a_this_lists, .ref a_this_days, .ref a_this_contributors, .ref a_this_points, .int v_this_size])), (a_this_lists, .inr (6, [.ref a_this_lists_cells])), (a_this_lists_cells, .inl (cI, n_this_lists_cells, .inl g_this_lists_cells)), (a_this_days, .inr (6, [.ref a_this_days_cells])), (a_this_days_cells, .inl (cI, n_this_days_cells, .inl g_this_days_cells)), (a_this_contributors, .inr (6, [.ref a_this_contributors_cells])), (a_this_contributors_cells, .inl (cI, n_this_contributors_cells, .inl g_this_contributors_cells))]) := by
  refine Ct_of (own := RX1) (lv0 := [(0, .ref a_this), (1, .int x1), (2, .int x2), (3, .int x3)]) (by decide) rfl rfl (Nat.le_of_ble_eq_true rfl) ?_
  intro p e s m args below meth c C hr hnm
  unfold f_X1_first at h
  refine J_iconst (v := (0 : Int32)) (pc := 0) C dX1_first_0 (by decide) ?_
  refine J_istore (lv2 := [(4, .int (0 : Int32)), (0, .ref a_this), (1, .int x1), (2, .int x2), (3, .int x3)]) (pc := 1) C dX1_first_1 (by decide) rfl ?_
  refine J_sub (lv2 := [(0, .ref a_this), (1, .int x1), (2, .int x2), (3, .int x3), (4, .int (0 : Int32))]) [1, 2, 3, 4, 0] rfl ?_
  exact t_X1_first_b3 C hr N _ h
-- PointsLedger$Cohorts.take(II)I
theorem dX1_take_0 : decode cX1_take 0 = .ok (.iload_n 2, 1) := by decide +kernel
theorem dX1_take_1 : decode cX1_take 1 = .ok (.aload_n 0, 1) := by decide +kernel
theorem dX1_take_2 : decode cX1_take 2 = .ok (.getfield 26, 3) := by decide +kernel
theorem dX1_take_5 : decode cX1_take 5 = .ok (.iload_n 1, 1) := by decide +kernel
theorem dX1_take_6 : decode cX1_take 6 = .ok (.invokevirtual 37, 3) := by decide +kernel
theorem dX1_take_9 : decode cX1_take 9 = .ok (.invokestatic 67, 3) := by decide +kernel
theorem dX1_take_12 : decode cX1_take 12 = .ok (.istore_n 3, 1) := by decide +kernel
theorem dX1_take_13 : decode cX1_take 13 = .ok (.aload_n 0, 1) := by decide +kernel
theorem dX1_take_14 : decode cX1_take 14 = .ok (.getfield 26, 3) := by decide +kernel
theorem dX1_take_17 : decode cX1_take 17 = .ok (.iload_n 1, 1) := by decide +kernel
theorem dX1_take_18 : decode cX1_take 18 = .ok (.iload_n 3, 1) := by decide +kernel
theorem dX1_take_19 : decode cX1_take 19 = .ok (.ineg, 1) := by decide +kernel
theorem dX1_take_20 : decode cX1_take 20 = .ok (.invokevirtual 53, 3) := by decide +kernel
theorem dX1_take_23 : decode cX1_take 23 = .ok (.aload_n 0, 1) := by decide +kernel
theorem dX1_take_24 : decode cX1_take 24 = .ok (.getfield 26, 3) := by decide +kernel
theorem dX1_take_27 : decode cX1_take 27 = .ok (.iload_n 1, 1) := by decide +kernel
theorem dX1_take_28 : decode cX1_take 28 = .ok (.invokevirtual 37, 3) := by decide +kernel
theorem dX1_take_31 : decode cX1_take 31 = .ok (.ifCond .ne 11, 3) := by decide +kernel
theorem dX1_take_34 : decode cX1_take 34 = .ok (.aload_n 0, 1) := by decide +kernel
theorem dX1_take_35 : decode cX1_take 35 = .ok (.iload_n 1, 1) := by decide +kernel
theorem dX1_take_36 : decode cX1_take 36 = .ok (.iconst 1, 1) := by decide +kernel
theorem dX1_take_37 : decode cX1_take 37 = .ok (.iadd, 1) := by decide +kernel
theorem dX1_take_38 : decode cX1_take 38 = .ok (.iload_n 1, 1) := by decide +kernel
theorem dX1_take_39 : decode cX1_take 39 = .ok (.invokevirtual 57, 3) := by decide +kernel
theorem dX1_take_42 : decode cX1_take 42 = .ok (.iload_n 3, 1) := by decide +kernel
theorem dX1_take_43 : decode cX1_take 43 = .ok (.ireturn, 1) := by decide +kernel
def f_X1_take (x1 : Int32) (x2 : Int32) (n_this_lists_cells : Nat) (n_this_days_cells : Nat) (n_this_contributors_cells : Nat) (n_this_points_cells : Nat) (v_this_size : Int32) (g_this_lists_cells : Nat → Int32) (g_this_days_cells : Nat → Int32) (g_this_contributors_cells : Nat → Int32) (g_this_points_cells : Nat → Int32) : Option (Int32 × Int32 × (Nat → Int32) × (Nat → Int32) × (Nat → Int32) × (Nat → Int32)) :=
  ((f_X6_at x1 n_this_points_cells g_this_points_cells).bind fun r6 => ((some (if r6 < x2 then r6 else x2)).bind fun y12 => ((f_X6_increase x1 (-y12) n_this_points_cells g_this_points_cells).bind fun r20 => ((f_X6_at x1 n_this_points_cells r20).bind fun r28 => (if r28 = 0 then ((f_X1_shift (x1 + (1 : Int32)) x1 n_this_lists_cells n_this_days_cells n_this_contributors_cells n_this_points_cells v_this_size g_this_lists_cells g_this_days_cells g_this_contributors_cells r20).bind fun r39 => (some (y12, r39.1, r39.2.1, r39.2.2.1, r39.2.2.2.1, r39.2.2.2.2))) else (some (y12, v_this_size, g_this_lists_cells, g_this_days_cells, g_this_contributors_cells, r20)))))))
set_option maxHeartbeats 4000000 in
set_option maxRecDepth 100000 in
theorem c_X1_take (l : Launch) (D : va_G) (cI cB cL cO : ClassId) (pf : Nat → Nat) (N : Nat) (a_this a_this_lists a_this_days a_this_contributors a_this_points a_this_lists_cells a_this_days_cells a_this_contributors_cells a_this_points_cells : Nat) (n_this_lists_cells : Nat) (n_this_days_cells : Nat) (n_this_contributors_cells : Nat) (n_this_points_cells : Nat) (v_this_size : Int32) (g_this_lists_cells : Nat → Int32) (g_this_days_cells : Nat → Int32) (g_this_contributors_cells : Nat → Int32) (g_this_points_cells : Nat → Int32) (x1 : Int32) (x2 : Int32) (o : Int32 × Int32 × (Nat → Int32) × (Nat → Int32) × (Nat → Int32) × (Nat → Int32)) (h : f_X1_take x1 x2 n_this_lists_cells n_this_days_cells n_this_contributors_cells n_this_points_cells v_this_size g_this_lists_cells g_this_days_cells g_this_contributors_cells g_this_points_cells = some o) : Ct l D [(cI, .int), (cB, .byte), (cL, .long), (cO, .object RX0)] pf yX1_take cX1_take 4 (some FieldType.int) { frames := 3, cells := 0, slots := 0, locals := 106 } [.ref a_this, .int x1, .int x2] [(a_this, .inr (1, [.ref a_this_lists, .ref a_this_days, .ref a_this_contributors, .ref a_this_points, .int v_this_size])), (a_this_lists, .inr (6, [.ref a_this_lists_cells])), (a_this_lists_cells, .inl (cI, n_this_lists_cells, .inl g_this_lists_cells)), (a_this_days, .inr (6, [.ref a_this_days_cells])), (a_this_days_cells, .inl (cI, n_this_days_cells, .inl g_this_days_cells)), (a_this_contributors, .inr (6, [.ref a_this_contributors_cells])), (a_this_contributors_cells, .inl (cI, n_this_contributors_cells, .inl g_this_contributors_cells)), (a_this_points, .inr (6, [.ref a_this_points_cells])), (a_this_points_cells, .inl (cI, n_this_points_cells, .inl g_this_points_cells))] (is1 (some (.int o.1)) [(a_this, .inr (1, [.ref a_this_lists, .ref a_this_days, .ref a_this_contributors, .ref a_this_points, .int o.2.1])), (a_this_lists, .inr (6, [.ref a_this_lists_cells])), (a_this_lists_cells, .inl (cI, n_this_lists_cells, .inl o.2.2.1)), (a_this_days, .inr (6, [.ref a_this_days_cells])), (a_this_days_cells, .inl (cI, n_this_days_cells, .inl o.2.2.2.1)), (a_this_contributors, .inr (6, [.ref a_this_contributors_cells])), (a_this_contributors_cells, .inl (cI, n_this_contributors_cells, .inl o.2.2.2.2.1)), (a_this_points, .inr (6, [.ref a_this_points_cells])), (a_this_points_cells, .inl (cI, n_this_points_cells, .inl o.2.2.2.2.2))]) := by
  refine Ct_of (own := RX1) (lv0 := [(0, .ref a_this), (1, .int x1), (2, .int x2)]) (by decide) rfl rfl (Nat.le_of_ble_eq_true rfl) ?_
  intro p e s m args below meth c C hr hnm
  unfold f_X1_take at h
  refine J_iload_n (pc := 0) C dX1_take_0 2 rfl ?_
  refine J_aload_n (pc := 1) C dX1_take_1 0 rfl ?_
  refine J_get (pc := 2) C dX1_take_2 jf_X1 0 rfl rfl 3 (by decide) rfl fl_RX1_26 rfl ?_
  refine J_iload_n (pc := 5) C dX1_take_5 1 rfl ?_
  refine J_cvr (pc := 6) (As := [.int x1]) (st := [.int x2]) C dX1_take_6 ml_RX1_37 mi_yX6_at (fun r6 hr => c_X6_at l D cI cB cL cO pf 0 a_this_points a_this_points_cells n_this_points_cells g_this_points_cells x1 r6 hr) h [7, 8] rfl rfl rfl rfl rfl ⟨rfl, rfl⟩ ⟨(Nat.le_of_ble_eq_true rfl), (Nat.le_of_ble_eq_true rfl)⟩ ⟨Nat.zero_le _, Nat.zero_le _⟩ (Nat.le_of_ble_eq_true rfl) (fun r6 h => ?_)
  refine J_mmin (pc := 9) C dX1_take_9 ml_RX1_67 w_min (Nat.le_of_ble_eq_true rfl) (Nat.le_of_ble_eq_true rfl) ⟨Nat.zero_le _, Nat.zero_le _⟩ ?_
  refine J_istore_nN (pc := 12) C (fun y12 => [(3, .int y12), (0, .ref a_this), (1, .int x1), (2, .int x2)]) dX1_take_12 h (by decide) (fun _ => rfl) (fun y12 h => ?_)
  refine J_aload_n (pc := 13) C dX1_take_13 1 rfl ?_
  refine J_get (pc := 14) C dX1_take_14 jf_X1 0 rfl rfl 3 (by decide) rfl fl_RX1_26 rfl ?_
  refine J_iload_n (pc := 17) C dX1_take_17 2 rfl ?_
  refine J_iload_n (pc := 18) C dX1_take_18 0 rfl ?_
  refine J_ineg (pc := 19) C dX1_take_19 ?_
  refine J_cvw (pc := 20) (As := [.int x1, .int (-y12)]) (st := []) C (fun r20 => [(a_this, .inr (1, [.ref a_this_lists, .ref a_this_days, .ref a_this_contributors, .ref a_this_points, .int v_this_size])), (a_this_lists, .inr (6, [.ref a_this_lists_cells])), (a_this_lists_cells, .inl (cI, n_this_lists_cells, .inl g_this_lists_cells)), (a_this_days, .inr (6, [.ref a_this_days_cells])), (a_this_days_cells, .inl (cI, n_this_days_cells, .inl g_this_days_cells)), (a_this_contributors, .inr (6, [.ref a_this_contributors_cells])), (a_this_contributors_cells, .inl (cI, n_this_contributors_cells, .inl g_this_contributors_cells)), (a_this_points, .inr (6, [.ref a_this_points_cells])), (a_this_points_cells, .inl (cI, n_this_points_cells, .inl r20))]) dX1_take_20 ml_RX1_53 mi_yX6_increase (fun r20 hr => c_X6_increase l D cI cB cL cO pf 0 a_this_points a_this_points_cells n_this_points_cells g_this_points_cells x1 (-y12) r20 hr) h [7, 8] rfl rfl rfl rfl rfl ⟨rfl, rfl⟩ ⟨(Nat.le_of_ble_eq_true rfl), (Nat.le_of_ble_eq_true rfl)⟩ ⟨Nat.zero_le _, Nat.zero_le _⟩ (Nat.le_of_ble_eq_true rfl) (fun _ => rfl) (fun _ => rfl) (fun r20 h => ?_)
  refine J_aload_n (pc := 23) C dX1_take_23 1 rfl ?_
  refine J_get (pc := 24) C dX1_take_24 jf_X1 0 rfl rfl 3 (by decide) rfl fl_RX1_26 rfl ?_
  refine J_iload_n (pc := 27) C dX1_take_27 2 rfl ?_
  refine J_cvr (pc := 28) (As := [.int x1]) (st := []) C dX1_take_28 ml_RX1_37 mi_yX6_at (fun r28 hr => c_X6_at l D cI cB cL cO pf 0 a_this_points a_this_points_cells n_this_points_cells r20 x1 r28 hr) h [7, 8] rfl rfl rfl rfl rfl ⟨rfl, rfl⟩ ⟨(Nat.le_of_ble_eq_true rfl), (Nat.le_of_ble_eq_true rfl)⟩ ⟨Nat.zero_le _, Nat.zero_le _⟩ (Nat.le_of_ble_eq_true rfl) (fun r28 h => ?_)
  refine J_if_ne (pc := 31) (tgt := 42) C dX1_take_31 (by decide) h (fun h => ?_) (fun h => ?_)
  · refine J_iload_n (pc := 42) C dX1_take_42 0 rfl ?_
    cases h
    exact J_iret (pc := 43) C dX1_take_43 hr ⟨rfl, rfl⟩
  · refine J_aload_n (pc := 34) C dX1_take_34 1 rfl ?_
    refine J_iload_n (pc := 35) C dX1_take_35 2 rfl ?_
    refine J_iconst (v := (1 : Int32)) (pc := 36) C dX1_take_36 (by decide) ?_
    refine J_iadd (pc := 37) C dX1_take_37 ?_
    refine J_iload_n (pc := 38) C dX1_take_38 2 rfl ?_
    refine J_cvw (pc := 39) (As := [.int (x1 + (1 : Int32)), .int x1]) (st := []) C (fun r39 => [(a_this, .inr (1, [.ref a_this_lists, .ref a_this_days, .ref a_this_contributors, .ref a_this_points, .int r39.1])), (a_this_lists, .inr (6, [.ref a_this_lists_cells])), (a_this_lists_cells, .inl (cI, n_this_lists_cells, .inl r39.2.1)), (a_this_days, .inr (6, [.ref a_this_days_cells])), (a_this_days_cells, .inl (cI, n_this_days_cells, .inl r39.2.2.1)), (a_this_contributors, .inr (6, [.ref a_this_contributors_cells])), (a_this_contributors_cells, .inl (cI, n_this_contributors_cells, .inl r39.2.2.2.1)), (a_this_points, .inr (6, [.ref a_this_points_cells])), (a_this_points_cells, .inl (cI, n_this_points_cells, .inl r39.2.2.2.2))]) dX1_take_39 ml_RX1_57 mi_yX1_shift (fun r39 hr => c_X1_shift l D cI cB cL cO pf 0 a_this a_this_lists a_this_days a_this_contributors a_this_points a_this_lists_cells a_this_days_cells a_this_contributors_cells a_this_points_cells n_this_lists_cells n_this_days_cells n_this_contributors_cells n_this_points_cells v_this_size g_this_lists_cells g_this_days_cells g_this_contributors_cells r20 (x1 + (1 : Int32)) x1 r39 hr) h [0, 1, 2, 3, 4, 5, 6, 7, 8] rfl rfl rfl rfl rfl ⟨rfl, rfl⟩ ⟨(Nat.le_of_ble_eq_true rfl), (Nat.le_of_ble_eq_true rfl)⟩ ⟨Nat.zero_le _, Nat.zero_le _⟩ (Nat.le_of_ble_eq_true rfl) (fun _ => rfl) (fun _ => rfl) (fun r39 h => ?_)
    refine J_iload_n (pc := 42) C dX1_take_42 0 rfl ?_
    cases h
    exact J_iret (pc := 43) C dX1_take_43 hr ⟨rfl, rfl⟩
-- PointsLedger$Cohorts.takeFromAll(IIII)I
theorem dX1_takeFromAll_0 : decode cX1_takeFromAll 0 = .ok (.iload 4, 2) := by decide +kernel
theorem dX1_takeFromAll_2 : decode cX1_takeFromAll 2 = .ok (.istore 5, 2) := by decide +kernel
theorem dX1_takeFromAll_4 : decode cX1_takeFromAll 4 = .ok (.aload_n 0, 1) := by decide +kernel
theorem dX1_takeFromAll_5 : decode cX1_takeFromAll 5 = .ok (.getfield 29, 3) := by decide +kernel
theorem dX1_takeFromAll_8 : decode cX1_takeFromAll 8 = .ok (.istore 6, 2) := by decide +kernel
theorem dX1_takeFromAll_10 : decode cX1_takeFromAll 10 = .ok (.iload 6, 2) := by decide +kernel
theorem dX1_takeFromAll_12 : decode cX1_takeFromAll 12 = .ok (.ifCond .le 45, 3) := by decide +kernel
theorem dX1_takeFromAll_15 : decode cX1_takeFromAll 15 = .ok (.iload 5, 2) := by decide +kernel
theorem dX1_takeFromAll_17 : decode cX1_takeFromAll 17 = .ok (.ifCond .le 40, 3) := by decide +kernel
theorem dX1_takeFromAll_20 : decode cX1_takeFromAll 20 = .ok (.aload_n 0, 1) := by decide +kernel
theorem dX1_takeFromAll_21 : decode cX1_takeFromAll 21 = .ok (.iload_n 1, 1) := by decide +kernel
theorem dX1_takeFromAll_22 : decode cX1_takeFromAll 22 = .ok (.iload_n 2, 1) := by decide +kernel
theorem dX1_takeFromAll_23 : decode cX1_takeFromAll 23 = .ok (.iload_n 3, 1) := by decide +kernel
theorem dX1_takeFromAll_24 : decode cX1_takeFromAll 24 = .ok (.invokevirtual 45, 3) := by decide +kernel
theorem dX1_takeFromAll_27 : decode cX1_takeFromAll 27 = .ok (.istore 7, 2) := by decide +kernel
theorem dX1_takeFromAll_29 : decode cX1_takeFromAll 29 = .ok (.iload 7, 2) := by decide +kernel
theorem dX1_takeFromAll_31 : decode cX1_takeFromAll 31 = .ok (.iconst (-1), 1) := by decide +kernel
theorem dX1_takeFromAll_32 : decode cX1_takeFromAll 32 = .ok (.if_icmp .ne 6, 3) := by decide +kernel
theorem dX1_takeFromAll_35 : decode cX1_takeFromAll 35 = .ok (.goto 22, 3) := by decide +kernel
theorem dX1_takeFromAll_38 : decode cX1_takeFromAll 38 = .ok (.iload 5, 2) := by decide +kernel
theorem dX1_takeFromAll_40 : decode cX1_takeFromAll 40 = .ok (.aload_n 0, 1) := by decide +kernel
theorem dX1_takeFromAll_41 : decode cX1_takeFromAll 41 = .ok (.iload 7, 2) := by decide +kernel
theorem dX1_takeFromAll_43 : decode cX1_takeFromAll 43 = .ok (.iload 5, 2) := by decide +kernel
theorem dX1_takeFromAll_45 : decode cX1_takeFromAll 45 = .ok (.invokevirtual 73, 3) := by decide +kernel
theorem dX1_takeFromAll_48 : decode cX1_takeFromAll 48 = .ok (.isub, 1) := by decide +kernel
theorem dX1_takeFromAll_49 : decode cX1_takeFromAll 49 = .ok (.istore 5, 2) := by decide +kernel
theorem dX1_takeFromAll_51 : decode cX1_takeFromAll 51 = .ok (.iinc 6 (-1), 3) := by decide +kernel
theorem dX1_takeFromAll_54 : decode cX1_takeFromAll 54 = .ok (.goto (-44), 3) := by decide +kernel
theorem dX1_takeFromAll_57 : decode cX1_takeFromAll 57 = .ok (.iload 4, 2) := by decide +kernel
theorem dX1_takeFromAll_59 : decode cX1_takeFromAll 59 = .ok (.iload 5, 2) := by decide +kernel
theorem dX1_takeFromAll_61 : decode cX1_takeFromAll 61 = .ok (.isub, 1) := by decide +kernel
theorem dX1_takeFromAll_62 : decode cX1_takeFromAll 62 = .ok (.ireturn, 1) := by decide +kernel
def f_X1_takeFromAll_b10 (N : Nat) (x1 : Int32) (x2 : Int32) (x3 : Int32) (x4 : Int32) (n_this_lists_cells : Nat) (n_this_days_cells : Nat) (n_this_contributors_cells : Nat) (n_this_points_cells : Nat) : Nat → (Int32) → (Int32) → (Int32) → (Nat → Int32) → (Nat → Int32) → (Nat → Int32) → (Nat → Int32) → Option (Int32 × Int32 × (Nat → Int32) × (Nat → Int32) × (Nat → Int32) × (Nat → Int32))
  | 0, _, _, _, _, _, _, _ => none
  | n + 1, x5, x6, v_this_size, g_this_lists_cells, g_this_days_cells, g_this_contributors_cells, g_this_points_cells => (if x6 ≤ 0 then (some ((x4 - x5), v_this_size, g_this_lists_cells, g_this_days_cells, g_this_contributors_cells, g_this_points_cells)) else (if x5 ≤ 0 then (some ((x4 - x5), v_this_size, g_this_lists_cells, g_this_days_cells, g_this_contributors_cells, g_this_points_cells)) else ((f_X1_first N x1 x2 x3 n_this_lists_cells n_this_days_cells n_this_contributors_cells v_this_size g_this_lists_cells g_this_days_cells g_this_contributors_cells).bind fun r24 => (if r24 = (-1 : Int32) then (some ((x4 - x5), v_this_size, g_this_lists_cells, g_this_days_cells, g_this_contributors_cells, g_this_points_cells)) else ((f_X1_take r24 x5 n_this_lists_cells n_this_days_cells n_this_contributors_cells n_this_points_cells v_this_size g_this_lists_cells g_this_days_cells g_this_contributors_cells g_this_points_cells).bind fun r45 => ((some (x5 - r45.1)).bind fun y49 => ((some (x6 + (-1 : Int32))).bind fun y51 => (f_X1_takeFromAll_b10 N x1 x2 x3 x4 n_this_lists_cells n_this_days_cells n_this_contributors_cells n_this_points_cells n y49 y51 r45.2.1 r45.2.2.1 r45.2.2.2.1 r45.2.2.2.2.1 r45.2.2.2.2.2))))))))
def f_X1_takeFromAll (N : Nat) (x1 : Int32) (x2 : Int32) (x3 : Int32) (x4 : Int32) (n_this_lists_cells : Nat) (n_this_days_cells : Nat) (n_this_contributors_cells : Nat) (n_this_points_cells : Nat) (v_this_size : Int32) (g_this_lists_cells : Nat → Int32) (g_this_days_cells : Nat → Int32) (g_this_contributors_cells : Nat → Int32) (g_this_points_cells : Nat → Int32) : Option (Int32 × Int32 × (Nat → Int32) × (Nat → Int32) × (Nat → Int32) × (Nat → Int32)) :=
  (f_X1_takeFromAll_b10 N x1 x2 x3 x4 n_this_lists_cells n_this_days_cells n_this_contributors_cells n_this_points_cells N x4 v_this_size v_this_size g_this_lists_cells g_this_days_cells g_this_contributors_cells g_this_points_cells)
set_option maxHeartbeats 4000000 in
set_option maxRecDepth 100000 in
theorem t_X1_takeFromAll_b10 {l : Launch} {D : va_G} {cI cB cL cO : ClassId} {pf : Nat → Nat} {p : Program} {e : Env} {s : State} {m : MethodId} {args : Array Value} {below : List Frame} {meth : Method} {c : Code} {W0 : va_W} {a_this a_this_lists a_this_days a_this_contributors a_this_points a_this_lists_cells a_this_days_cells a_this_contributors_cells a_this_points_cells : Nat} {N : Nat}  {n_this_lists_cells : Nat} {n_this_days_cells : Nat} {n_this_contributors_cells : Nat} {n_this_points_cells : Nat} {x1 : Int32} {x2 : Int32} {x3 : Int32} {x4 : Int32} {o : Int32 × Int32 × (Nat → Int32) × (Nat → Int32) × (Nat → Int32) × (Nat → Int32)} (C : jC p s m args meth c cX1_takeFromAll 8 RX1 D [(cI, .int), (cB, .byte), (cL, .long), (cO, .object RX0)] pf (va_A W0 s.heap.size)) (hr : meth.sig.returnType = (some FieldType.int)) : ∀ (n : Nat) (x5 : Int32) (x6 : Int32) (v_this_size : Int32) (g_this_lists_cells : Nat → Int32) (g_this_days_cells : Nat → Int32) (g_this_contributors_cells : Nat → Int32) (g_this_points_cells : Nat → Int32), f_X1_takeFromAll_b10 N x1 x2 x3 x4 n_this_lists_cells n_this_days_cells n_this_contributors_cells n_this_points_cells n x5 x6 v_this_size g_this_lists_cells g_this_days_cells g_this_contributors_cells g_this_points_cells = some o → J p l e { frames := 4, cells := 0, slots := 0, locals := 129 } s m args below meth c 8 D (va_A W0 s.heap.size) (MQ below (jQ D [(cI, .int), (cB, .byte), (cL, .long), (cO, .object RX0)] W0 s.heap.size (is1 (some (.int o.1)) [(a_this, .inr (1, [.ref a_this_lists, .ref a_this_days, .ref a_this_contributors, .ref a_this_points, .int o.2.1])), (a_this_lists, .inr (6, [.ref a_this_lists_cells])), (a_this_lists_cells, .inl (cI, n_this_lists_cells, .inl o.2.2.1)), (a_this_days, .inr (6, [.ref a_this_days_cells])), (a_this_days_cells, .inl (cI, n_this_days_cells, .inl o.2.2.2.1)), (a_this_contributors, .inr (6, [.ref a_this_contributors_cells])), (a_this_contributors_cells, .inl (cI, n_this_contributors_cells, .inl o.2.2.2.2.1)), (a_this_points, .inr (6, [.ref a_this_points_cells])), (a_this_points_cells, .inl (cI, n_this_points_cells, .inl o.2.2.2.2.2))])) args s 0 0 (va_A W0 s.heap.size)) 0 0 10 [(0, .ref a_this), (1, .int x1), (2, .int x2), (3, .int x3), (4, .int x4), (5, .int x5), (6, .int x6)] [] [(a_this, .inr (1, [.ref a_this_lists, .ref a_this_days, .ref a_this_contributors, .ref a_this_points, .int v_this_size])), (a_this_lists, .inr (6, [.ref a_this_lists_cells])), (a_this_lists_cells, .inl (cI, n_this_lists_cells, .inl g_this_lists_cells)), (a_this_days, .inr (6, [.ref a_this_days_cells])), (a_this_days_cells, .inl (cI, n_this_days_cells, .inl g_this_days_cells)), (a_this_contributors, .inr (6, [.ref a_this_contributors_cells])), (a_this_contributors_cells, .inl (cI, n_this_contributors_cells, .inl g_this_contributors_cells)), (a_this_points, .inr (6, [.ref a_this_points_cells])), (a_this_points_cells, .inl (cI, n_this_points_cells, .inl g_this_points_cells))] := by
  intro n
  induction n with
  | zero =>
    intro _ _ _ _ _ _ _ h
    rw [f_X1_takeFromAll_b10] at h
    cases h
  | succ n ih =>
    intro x5 x6 v_this_size g_this_lists_cells g_this_days_cells g_this_contributors_cells g_this_points_cells h
    rw [f_X1_takeFromAll_b10] at h
    refine J_iload (pc := 10) C dX1_takeFromAll_10 6 rfl ?_
    refine J_if_le (pc := 12) (tgt := 57) C dX1_takeFromAll_12 (by decide) h (fun h => ?_) (fun h => ?_)
    · refine J_iload (pc := 57) C dX1_takeFromAll_57 4 rfl ?_
      refine J_iload (pc := 59) C dX1_takeFromAll_59 5 rfl ?_
      refine J_isub (pc := 61) C dX1_takeFromAll_61 ?_
      cases h
      exact J_iret (pc := 62) C dX1_takeFromAll_62 hr ⟨rfl, rfl⟩
    · refine J_iload (pc := 15) C dX1_takeFromAll_15 5 rfl ?_
      refine J_if_le (pc := 17) (tgt := 57) C dX1_takeFromAll_17 (by decide) h (fun h => ?_) (fun h => ?_)
      · refine J_iload (pc := 57) C dX1_takeFromAll_57 4 rfl ?_
        refine J_iload (pc := 59) C dX1_takeFromAll_59 5 rfl ?_
        refine J_isub (pc := 61) C dX1_takeFromAll_61 ?_
        cases h
        exact J_iret (pc := 62) C dX1_takeFromAll_62 hr ⟨rfl, rfl⟩
      · refine J_aload_n (pc := 20) C dX1_takeFromAll_20 0 rfl ?_
        refine J_iload_n (pc := 21) C dX1_takeFromAll_21 1 rfl ?_
        refine J_iload_n (pc := 22) C dX1_takeFromAll_22 2 rfl ?_
        refine J_iload_n (pc := 23) C dX1_takeFromAll_23 3 rfl ?_
        refine J_cvr (pc := 24) (As := [.int x1, .int x2, .int x3]) (st := []) C dX1_takeFromAll_24 ml_RX1_45 mi_yX1_first (fun r24 hr => c_X1_first l D cI cB cL cO pf N a_this a_this_lists a_this_days a_this_contributors a_this_points a_this_lists_cells a_this_days_cells a_this_contributors_cells n_this_lists_cells n_this_days_cells n_this_contributors_cells v_this_size g_this_lists_cells g_this_days_cells g_this_contributors_cells x1 x2 x3 r24 hr) h [0, 1, 2, 3, 4, 5, 6] rfl rfl rfl rfl rfl ⟨rfl, rfl⟩ ⟨(Nat.le_of_ble_eq_true rfl), (Nat.le_of_ble_eq_true rfl)⟩ ⟨Nat.zero_le _, Nat.zero_le _⟩ (Nat.le_of_ble_eq_true rfl) (fun r24 h => ?_)
        refine J_istore (lv2 := [(7, .int r24), (0, .ref a_this), (1, .int x1), (2, .int x2), (3, .int x3), (4, .int x4), (5, .int x5), (6, .int x6)]) (pc := 27) C dX1_takeFromAll_27 (by decide) rfl ?_
        refine J_iload (pc := 29) C dX1_takeFromAll_29 0 rfl ?_
        refine J_iconst (v := (-1 : Int32)) (pc := 31) C dX1_takeFromAll_31 (by decide) ?_
        refine J_ic_ne (pc := 32) (tgt := 38) C dX1_takeFromAll_32 (by decide) h (fun h => ?_) (fun h => ?_)
        · refine J_iload (pc := 38) C dX1_takeFromAll_38 6 rfl ?_
          refine J_aload_n (pc := 40) C dX1_takeFromAll_40 1 rfl ?_
          refine J_iload (pc := 41) C dX1_takeFromAll_41 0 rfl ?_
          refine J_iload (pc := 43) C dX1_takeFromAll_43 6 rfl ?_
          refine J_cvw (pc := 45) (As := [.int r24, .int x5]) (st := [.int x5]) C (fun r45 => [(a_this, .inr (1, [.ref a_this_lists, .ref a_this_days, .ref a_this_contributors, .ref a_this_points, .int r45.2.1])), (a_this_lists, .inr (6, [.ref a_this_lists_cells])), (a_this_lists_cells, .inl (cI, n_this_lists_cells, .inl r45.2.2.1)), (a_this_days, .inr (6, [.ref a_this_days_cells])), (a_this_days_cells, .inl (cI, n_this_days_cells, .inl r45.2.2.2.1)), (a_this_contributors, .inr (6, [.ref a_this_contributors_cells])), (a_this_contributors_cells, .inl (cI, n_this_contributors_cells, .inl r45.2.2.2.2.1)), (a_this_points, .inr (6, [.ref a_this_points_cells])), (a_this_points_cells, .inl (cI, n_this_points_cells, .inl r45.2.2.2.2.2))]) dX1_takeFromAll_45 ml_RX1_73 mi_yX1_take (fun r45 hr => c_X1_take l D cI cB cL cO pf 0 a_this a_this_lists a_this_days a_this_contributors a_this_points a_this_lists_cells a_this_days_cells a_this_contributors_cells a_this_points_cells n_this_lists_cells n_this_days_cells n_this_contributors_cells n_this_points_cells v_this_size g_this_lists_cells g_this_days_cells g_this_contributors_cells g_this_points_cells r24 x5 r45 hr) h [0, 1, 2, 3, 4, 5, 6, 7, 8] rfl rfl rfl rfl rfl ⟨rfl, rfl⟩ ⟨(Nat.le_of_ble_eq_true rfl), (Nat.le_of_ble_eq_true rfl)⟩ ⟨Nat.zero_le _, Nat.zero_le _⟩ (Nat.le_of_ble_eq_true rfl) (fun _ => rfl) (fun _ => rfl) (fun r45 h => ?_)
          refine J_isub (pc := 48) C dX1_takeFromAll_48 ?_
          refine J_istoreN (pc := 49) C (fun y49 => [(5, .int y49), (7, .int r24), (0, .ref a_this), (1, .int x1), (2, .int x2), (3, .int x3), (4, .int x4), (6, .int x6)]) dX1_takeFromAll_49 h (by decide) (fun _ => rfl) (fun y49 h => ?_)
          refine J_iincN (pc := 51) (v := (-1 : Int32)) C (fun y51 => [(6, .int y51), (5, .int y49), (7, .int r24), (0, .ref a_this), (1, .int x1), (2, .int x2), (3, .int x3), (4, .int x4)]) dX1_takeFromAll_51 7 rfl (by decide) h (by decide) (fun _ => rfl) (fun y51 h => ?_)
          refine J_goto (tgt := 10) (pc := 54) C dX1_takeFromAll_54 (by decide) ?_
          refine J_sub (lv2 := [(0, .ref a_this), (1, .int x1), (2, .int x2), (3, .int x3), (4, .int x4), (5, .int y49), (6, .int y51)]) [3, 4, 5, 6, 7, 1, 0] rfl ?_
          exact ih _ _ _ _ _ _ _ h
        · refine J_goto (tgt := 57) (pc := 35) C dX1_takeFromAll_35 (by decide) ?_
          refine J_iload (pc := 57) C dX1_takeFromAll_57 5 rfl ?_
          refine J_iload (pc := 59) C dX1_takeFromAll_59 6 rfl ?_
          refine J_isub (pc := 61) C dX1_takeFromAll_61 ?_
          cases h
          exact J_iret (pc := 62) C dX1_takeFromAll_62 hr ⟨rfl, rfl⟩
set_option maxHeartbeats 4000000 in
set_option maxRecDepth 100000 in
theorem c_X1_takeFromAll (l : Launch) (D : va_G) (cI cB cL cO : ClassId) (pf : Nat → Nat) (N : Nat) (a_this a_this_lists a_this_days a_this_contributors a_this_points a_this_lists_cells a_this_days_cells a_this_contributors_cells a_this_points_cells : Nat) (n_this_lists_cells : Nat) (n_this_days_cells : Nat) (n_this_contributors_cells : Nat) (n_this_points_cells : Nat) (v_this_size : Int32) (g_this_lists_cells : Nat → Int32) (g_this_days_cells : Nat → Int32) (g_this_contributors_cells : Nat → Int32) (g_this_points_cells : Nat → Int32) (x1 : Int32) (x2 : Int32) (x3 : Int32) (x4 : Int32) (o : Int32 × Int32 × (Nat → Int32) × (Nat → Int32) × (Nat → Int32) × (Nat → Int32)) (h : f_X1_takeFromAll N x1 x2 x3 x4 n_this_lists_cells n_this_days_cells n_this_contributors_cells n_this_points_cells v_this_size g_this_lists_cells g_this_days_cells g_this_contributors_cells g_this_points_cells = some o) : Ct l D [(cI, .int), (cB, .byte), (cL, .long), (cO, .object RX0)] pf yX1_takeFromAll cX1_takeFromAll 8 (some FieldType.int) { frames := 4, cells := 0, slots := 0, locals := 129 } [.ref a_this, .int x1, .int x2, .int x3, .int x4] [(a_this, .inr (1, [.ref a_this_lists, .ref a_this_days, .ref a_this_contributors, .ref a_this_points, .int v_this_size])), (a_this_lists, .inr (6, [.ref a_this_lists_cells])), (a_this_lists_cells, .inl (cI, n_this_lists_cells, .inl g_this_lists_cells)), (a_this_days, .inr (6, [.ref a_this_days_cells])), (a_this_days_cells, .inl (cI, n_this_days_cells, .inl g_this_days_cells)), (a_this_contributors, .inr (6, [.ref a_this_contributors_cells])), (a_this_contributors_cells, .inl (cI, n_this_contributors_cells, .inl g_this_contributors_cells)), (a_this_points, .inr (6, [.ref a_this_points_cells])), (a_this_points_cells, .inl (cI, n_this_points_cells, .inl g_this_points_cells))] (is1 (some (.int o.1)) [(a_this, .inr (1, [.ref a_this_lists, .ref a_this_days, .ref a_this_contributors, .ref a_this_points, .int o.2.1])), (a_this_lists, .inr (6, [.ref a_this_lists_cells])), (a_this_lists_cells, .inl (cI, n_this_lists_cells, .inl o.2.2.1)), (a_this_days, .inr (6, [.ref a_this_days_cells])), (a_this_days_cells, .inl (cI, n_this_days_cells, .inl o.2.2.2.1)), (a_this_contributors, .inr (6, [.ref a_this_contributors_cells])), (a_this_contributors_cells, .inl (cI, n_this_contributors_cells, .inl o.2.2.2.2.1)), (a_this_points, .inr (6, [.ref a_this_points_cells])), (a_this_points_cells, .inl (cI, n_this_points_cells, .inl o.2.2.2.2.2))]) := by
  refine Ct_of (own := RX1) (lv0 := [(0, .ref a_this), (1, .int x1), (2, .int x2), (3, .int x3), (4, .int x4)]) (by decide) rfl rfl (Nat.le_of_ble_eq_true rfl) ?_
  intro p e s m args below meth c C hr hnm
  unfold f_X1_takeFromAll at h
  refine J_iload (pc := 0) C dX1_takeFromAll_0 4 rfl ?_
  refine J_istore (lv2 := [(5, .int x4), (0, .ref a_this), (1, .int x1), (2, .int x2), (3, .int x3), (4, .int x4)]) (pc := 2) C dX1_takeFromAll_2 (by decide) rfl ?_
  refine J_aload_n (pc := 4) C dX1_takeFromAll_4 1 rfl ?_
  refine J_get (pc := 5) C dX1_takeFromAll_5 jf_X1 0 rfl rfl 4 (by decide) rfl fl_RX1_29 rfl ?_
  refine J_istore (lv2 := [(6, .int v_this_size), (5, .int x4), (0, .ref a_this), (1, .int x1), (2, .int x2), (3, .int x3), (4, .int x4)]) (pc := 8) C dX1_takeFromAll_8 (by decide) rfl ?_
  refine J_sub (lv2 := [(0, .ref a_this), (1, .int x1), (2, .int x2), (3, .int x3), (4, .int x4), (5, .int x4), (6, .int v_this_size)]) [2, 3, 4, 5, 6, 1, 0] rfl ?_
  exact t_X1_takeFromAll_b10 C hr N _ _ _ _ _ _ _ h
-- PointsLedger$Purchases.markRefunded(I)V
theorem dX5_markRefunded_0 : decode cX5_markRefunded 0 = .ok (.aload_n 0, 1) := by decide +kernel
theorem dX5_markRefunded_1 : decode cX5_markRefunded 1 = .ok (.getfield 14, 3) := by decide +kernel
theorem dX5_markRefunded_4 : decode cX5_markRefunded 4 = .ok (.iload_n 1, 1) := by decide +kernel
theorem dX5_markRefunded_5 : decode cX5_markRefunded 5 = .ok (.bipush 7, 2) := by decide +kernel
theorem dX5_markRefunded_7 : decode cX5_markRefunded 7 = .ok (.imul, 1) := by decide +kernel
theorem dX5_markRefunded_8 : decode cX5_markRefunded 8 = .ok (.bipush 6, 2) := by decide +kernel
theorem dX5_markRefunded_10 : decode cX5_markRefunded 10 = .ok (.iadd, 1) := by decide +kernel
theorem dX5_markRefunded_11 : decode cX5_markRefunded 11 = .ok (.iconst 1, 1) := by decide +kernel
theorem dX5_markRefunded_12 : decode cX5_markRefunded 12 = .ok (.invokevirtual 32, 3) := by decide +kernel
theorem dX5_markRefunded_15 : decode cX5_markRefunded 15 = .ok (.return_, 1) := by decide +kernel
def f_X5_markRefunded (x1 : Int32) (n_this_parts_cells : Nat) (g_this_parts_cells : Nat → Int32) : Option ((Nat → Int32)) :=
  ((f_X6_put ((x1 * (7 : Int32)) + (6 : Int32)) (1 : Int32) n_this_parts_cells g_this_parts_cells).bind fun r12 => (some r12))
set_option maxHeartbeats 4000000 in
set_option maxRecDepth 100000 in
theorem c_X5_markRefunded (l : Launch) (D : va_G) (cI cB cL cO : ClassId) (pf : Nat → Nat) (N : Nat) (a_this a_this_parts a_this_parts_cells : Nat) (n_this_parts_cells : Nat) (v_this_count : Int32) (g_this_parts_cells : Nat → Int32) (x1 : Int32) (o : (Nat → Int32)) (h : f_X5_markRefunded x1 n_this_parts_cells g_this_parts_cells = some o) : Ct l D [(cI, .int), (cB, .byte), (cL, .long), (cO, .object RX0)] pf yX5_markRefunded cX5_markRefunded 2 (none : Option FieldType) { frames := 1, cells := 0, slots := 0, locals := 22 } [.ref a_this, .int x1] [(a_this, .inr (5, [.ref a_this_parts, .int v_this_count])), (a_this_parts, .inr (6, [.ref a_this_parts_cells])), (a_this_parts_cells, .inl (cI, n_this_parts_cells, .inl g_this_parts_cells))] (is1 (none) [(a_this, .inr (5, [.ref a_this_parts, .int v_this_count])), (a_this_parts, .inr (6, [.ref a_this_parts_cells])), (a_this_parts_cells, .inl (cI, n_this_parts_cells, .inl o))]) := by
  refine Ct_of (own := RX5) (lv0 := [(0, .ref a_this), (1, .int x1)]) (by decide) rfl rfl (Nat.le_of_ble_eq_true rfl) ?_
  intro p e s m args below meth c C hr hnm
  unfold f_X5_markRefunded at h
  refine J_aload_n (pc := 0) C dX5_markRefunded_0 0 rfl ?_
  refine J_get (pc := 1) C dX5_markRefunded_1 jf_X5 0 rfl rfl 0 (by decide) rfl fl_RX5_14 rfl ?_
  refine J_iload_n (pc := 4) C dX5_markRefunded_4 1 rfl ?_
  refine J_bipush (v := (7 : Int32)) (pc := 5) C dX5_markRefunded_5 (by decide) ?_
  refine J_imul (pc := 7) C dX5_markRefunded_7 ?_
  refine J_bipush (v := (6 : Int32)) (pc := 8) C dX5_markRefunded_8 (by decide) ?_
  refine J_iadd (pc := 10) C dX5_markRefunded_10 ?_
  refine J_iconst (v := (1 : Int32)) (pc := 11) C dX5_markRefunded_11 (by decide) ?_
  refine J_cvw (pc := 12) (As := [.int ((x1 * (7 : Int32)) + (6 : Int32)), .int (1 : Int32)]) (st := []) C (fun r12 => [(a_this, .inr (5, [.ref a_this_parts, .int v_this_count])), (a_this_parts, .inr (6, [.ref a_this_parts_cells])), (a_this_parts_cells, .inl (cI, n_this_parts_cells, .inl r12))]) dX5_markRefunded_12 ml_RX5_32 mi_yX6_put (fun r12 hr => c_X6_put l D cI cB cL cO pf 0 a_this_parts a_this_parts_cells n_this_parts_cells g_this_parts_cells ((x1 * (7 : Int32)) + (6 : Int32)) (1 : Int32) r12 hr) h [1, 2] rfl rfl rfl rfl rfl ⟨rfl, rfl⟩ ⟨(Nat.le_of_ble_eq_true rfl), (Nat.le_of_ble_eq_true rfl)⟩ ⟨Nat.zero_le _, Nat.zero_le _⟩ (Nat.le_of_ble_eq_true rfl) (fun _ => rfl) (fun _ => rfl) (fun r12 h => ?_)
  cases h
  exact J_vret (pc := 15) C dX5_markRefunded_15 hr ⟨rfl, rfl⟩
-- PointsLedger$Purchases.part(II)I
theorem dX5_part_0 : decode cX5_part 0 = .ok (.aload_n 0, 1) := by decide +kernel
theorem dX5_part_1 : decode cX5_part 1 = .ok (.getfield 14, 3) := by decide +kernel
theorem dX5_part_4 : decode cX5_part 4 = .ok (.iload_n 1, 1) := by decide +kernel
theorem dX5_part_5 : decode cX5_part 5 = .ok (.bipush 7, 2) := by decide +kernel
theorem dX5_part_7 : decode cX5_part 7 = .ok (.imul, 1) := by decide +kernel
theorem dX5_part_8 : decode cX5_part 8 = .ok (.iload_n 2, 1) := by decide +kernel
theorem dX5_part_9 : decode cX5_part 9 = .ok (.iadd, 1) := by decide +kernel
theorem dX5_part_10 : decode cX5_part 10 = .ok (.invokevirtual 28, 3) := by decide +kernel
theorem dX5_part_13 : decode cX5_part 13 = .ok (.ireturn, 1) := by decide +kernel
def f_X5_part (x1 : Int32) (x2 : Int32) (n_this_parts_cells : Nat) (g_this_parts_cells : Nat → Int32) : Option (Int32) :=
  ((f_X6_at ((x1 * (7 : Int32)) + x2) n_this_parts_cells g_this_parts_cells).bind fun r10 => (some r10))
set_option maxHeartbeats 4000000 in
set_option maxRecDepth 100000 in
theorem c_X5_part (l : Launch) (D : va_G) (cI cB cL cO : ClassId) (pf : Nat → Nat) (N : Nat) (a_this a_this_parts a_this_parts_cells : Nat) (n_this_parts_cells : Nat) (v_this_count : Int32) (g_this_parts_cells : Nat → Int32) (x1 : Int32) (x2 : Int32) (o : Int32) (h : f_X5_part x1 x2 n_this_parts_cells g_this_parts_cells = some o) : Ct l D [(cI, .int), (cB, .byte), (cL, .long), (cO, .object RX0)] pf yX5_part cX5_part 3 (some FieldType.int) { frames := 1, cells := 0, slots := 0, locals := 21 } [.ref a_this, .int x1, .int x2] [(a_this, .inr (5, [.ref a_this_parts, .int v_this_count])), (a_this_parts, .inr (6, [.ref a_this_parts_cells])), (a_this_parts_cells, .inl (cI, n_this_parts_cells, .inl g_this_parts_cells))] (is1 (some (.int o)) [(a_this, .inr (5, [.ref a_this_parts, .int v_this_count])), (a_this_parts, .inr (6, [.ref a_this_parts_cells])), (a_this_parts_cells, .inl (cI, n_this_parts_cells, .inl g_this_parts_cells))]) := by
  refine Ct_of (own := RX5) (lv0 := [(0, .ref a_this), (1, .int x1), (2, .int x2)]) (by decide) rfl rfl (Nat.le_of_ble_eq_true rfl) ?_
  intro p e s m args below meth c C hr hnm
  unfold f_X5_part at h
  refine J_aload_n (pc := 0) C dX5_part_0 0 rfl ?_
  refine J_get (pc := 1) C dX5_part_1 jf_X5 0 rfl rfl 0 (by decide) rfl fl_RX5_14 rfl ?_
  refine J_iload_n (pc := 4) C dX5_part_4 1 rfl ?_
  refine J_bipush (v := (7 : Int32)) (pc := 5) C dX5_part_5 (by decide) ?_
  refine J_imul (pc := 7) C dX5_part_7 ?_
  refine J_iload_n (pc := 8) C dX5_part_8 2 rfl ?_
  refine J_iadd (pc := 9) C dX5_part_9 ?_
  refine J_cvr (pc := 10) (As := [.int ((x1 * (7 : Int32)) + x2)]) (st := []) C dX5_part_10 ml_RX5_28 mi_yX6_at (fun r10 hr => c_X6_at l D cI cB cL cO pf 0 a_this_parts a_this_parts_cells n_this_parts_cells g_this_parts_cells ((x1 * (7 : Int32)) + x2) r10 hr) h [1, 2] rfl rfl rfl rfl rfl ⟨rfl, rfl⟩ ⟨(Nat.le_of_ble_eq_true rfl), (Nat.le_of_ble_eq_true rfl)⟩ ⟨Nat.zero_le _, Nat.zero_le _⟩ (Nat.le_of_ble_eq_true rfl) (fun r10 h => ?_)
  cases h
  exact J_iret (pc := 13) C dX5_part_13 hr ⟨rfl, rfl⟩
-- PointsLedger$Cohorts.dayOf(I)I
theorem dX1_dayOf_0 : decode cX1_dayOf 0 = .ok (.aload_n 0, 1) := by decide +kernel
theorem dX1_dayOf_1 : decode cX1_dayOf 1 = .ok (.getfield 20, 3) := by decide +kernel
theorem dX1_dayOf_4 : decode cX1_dayOf 4 = .ok (.iload_n 1, 1) := by decide +kernel
theorem dX1_dayOf_5 : decode cX1_dayOf 5 = .ok (.invokevirtual 37, 3) := by decide +kernel
theorem dX1_dayOf_8 : decode cX1_dayOf 8 = .ok (.ireturn, 1) := by decide +kernel
def f_X1_dayOf (x1 : Int32) (n_this_days_cells : Nat) (g_this_days_cells : Nat → Int32) : Option (Int32) :=
  ((f_X6_at x1 n_this_days_cells g_this_days_cells).bind fun r5 => (some r5))
set_option maxHeartbeats 4000000 in
set_option maxRecDepth 100000 in
theorem c_X1_dayOf (l : Launch) (D : va_G) (cI cB cL cO : ClassId) (pf : Nat → Nat) (N : Nat) (a_this a_this_lists a_this_days a_this_contributors a_this_points a_this_days_cells : Nat) (n_this_days_cells : Nat) (v_this_size : Int32) (g_this_days_cells : Nat → Int32) (x1 : Int32) (o : Int32) (h : f_X1_dayOf x1 n_this_days_cells g_this_days_cells = some o) : Ct l D [(cI, .int), (cB, .byte), (cL, .long), (cO, .object RX0)] pf yX1_dayOf cX1_dayOf 2 (some FieldType.int) { frames := 1, cells := 0, slots := 0, locals := 21 } [.ref a_this, .int x1] [(a_this, .inr (1, [.ref a_this_lists, .ref a_this_days, .ref a_this_contributors, .ref a_this_points, .int v_this_size])), (a_this_days, .inr (6, [.ref a_this_days_cells])), (a_this_days_cells, .inl (cI, n_this_days_cells, .inl g_this_days_cells))] (is1 (some (.int o)) [(a_this, .inr (1, [.ref a_this_lists, .ref a_this_days, .ref a_this_contributors, .ref a_this_points, .int v_this_size])), (a_this_days, .inr (6, [.ref a_this_days_cells])), (a_this_days_cells, .inl (cI, n_this_days_cells, .inl g_this_days_cells))]) := by
  refine Ct_of (own := RX1) (lv0 := [(0, .ref a_this), (1, .int x1)]) (by decide) rfl rfl (Nat.le_of_ble_eq_true rfl) ?_
  intro p e s m args below meth c C hr hnm
  unfold f_X1_dayOf at h
  refine J_aload_n (pc := 0) C dX1_dayOf_0 0 rfl ?_
  refine J_get (pc := 1) C dX1_dayOf_1 jf_X1 0 rfl rfl 1 (by decide) rfl fl_RX1_20 rfl ?_
  refine J_iload_n (pc := 4) C dX1_dayOf_4 1 rfl ?_
  refine J_cvr (pc := 5) (As := [.int x1]) (st := []) C dX1_dayOf_5 ml_RX1_37 mi_yX6_at (fun r5 hr => c_X6_at l D cI cB cL cO pf 0 a_this_days a_this_days_cells n_this_days_cells g_this_days_cells x1 r5 hr) h [1, 2] rfl rfl rfl rfl rfl ⟨rfl, rfl⟩ ⟨(Nat.le_of_ble_eq_true rfl), (Nat.le_of_ble_eq_true rfl)⟩ ⟨Nat.zero_le _, Nat.zero_le _⟩ (Nat.le_of_ble_eq_true rfl) (fun r5 h => ?_)
  cases h
  exact J_iret (pc := 8) C dX1_dayOf_8 hr ⟨rfl, rfl⟩
-- PointsLedger$Cohorts.size()I
theorem dX1_size_0 : decode cX1_size 0 = .ok (.aload_n 0, 1) := by decide +kernel
theorem dX1_size_1 : decode cX1_size 1 = .ok (.getfield 29, 3) := by decide +kernel
theorem dX1_size_4 : decode cX1_size 4 = .ok (.ireturn, 1) := by decide +kernel
def f_X1_size (v_this_size : Int32) : Option (Int32) :=
  (some v_this_size)
set_option maxHeartbeats 4000000 in
set_option maxRecDepth 100000 in
theorem c_X1_size (l : Launch) (D : va_G) (cI cB cL cO : ClassId) (pf : Nat → Nat) (N : Nat) (a_this a_this_lists a_this_days a_this_contributors a_this_points : Nat) (v_this_size : Int32) (o : Int32) (h : f_X1_size v_this_size = some o) : Ct l D [(cI, .int), (cB, .byte), (cL, .long), (cO, .object RX0)] pf yX1_size cX1_size 1 (some FieldType.int) { frames := 0, cells := 0, slots := 0, locals := 0 } [.ref a_this] [(a_this, .inr (1, [.ref a_this_lists, .ref a_this_days, .ref a_this_contributors, .ref a_this_points, .int v_this_size]))] (is1 (some (.int o)) [(a_this, .inr (1, [.ref a_this_lists, .ref a_this_days, .ref a_this_contributors, .ref a_this_points, .int v_this_size]))]) := by
  refine Ct_of (own := RX1) (lv0 := [(0, .ref a_this)]) (by decide) rfl rfl (Nat.le_of_ble_eq_true rfl) ?_
  intro p e s m args below meth c C hr hnm
  unfold f_X1_size at h
  refine J_aload_n (pc := 0) C dX1_size_0 0 rfl ?_
  refine J_get (pc := 1) C dX1_size_1 jf_X1 0 rfl rfl 4 (by decide) rfl fl_RX1_29 rfl ?_
  cases h
  exact J_iret (pc := 4) C dX1_size_4 hr ⟨rfl, rfl⟩
-- PointsLedger$Cohorts.pointsOf(I)I
theorem dX1_pointsOf_0 : decode cX1_pointsOf 0 = .ok (.aload_n 0, 1) := by decide +kernel
theorem dX1_pointsOf_1 : decode cX1_pointsOf 1 = .ok (.getfield 26, 3) := by decide +kernel
theorem dX1_pointsOf_4 : decode cX1_pointsOf 4 = .ok (.iload_n 1, 1) := by decide +kernel
theorem dX1_pointsOf_5 : decode cX1_pointsOf 5 = .ok (.invokevirtual 37, 3) := by decide +kernel
theorem dX1_pointsOf_8 : decode cX1_pointsOf 8 = .ok (.ireturn, 1) := by decide +kernel
def f_X1_pointsOf (x1 : Int32) (n_this_points_cells : Nat) (g_this_points_cells : Nat → Int32) : Option (Int32) :=
  ((f_X6_at x1 n_this_points_cells g_this_points_cells).bind fun r5 => (some r5))
set_option maxHeartbeats 4000000 in
set_option maxRecDepth 100000 in
theorem c_X1_pointsOf (l : Launch) (D : va_G) (cI cB cL cO : ClassId) (pf : Nat → Nat) (N : Nat) (a_this a_this_lists a_this_days a_this_contributors a_this_points a_this_points_cells : Nat) (n_this_points_cells : Nat) (v_this_size : Int32) (g_this_points_cells : Nat → Int32) (x1 : Int32) (o : Int32) (h : f_X1_pointsOf x1 n_this_points_cells g_this_points_cells = some o) : Ct l D [(cI, .int), (cB, .byte), (cL, .long), (cO, .object RX0)] pf yX1_pointsOf cX1_pointsOf 2 (some FieldType.int) { frames := 1, cells := 0, slots := 0, locals := 21 } [.ref a_this, .int x1] [(a_this, .inr (1, [.ref a_this_lists, .ref a_this_days, .ref a_this_contributors, .ref a_this_points, .int v_this_size])), (a_this_points, .inr (6, [.ref a_this_points_cells])), (a_this_points_cells, .inl (cI, n_this_points_cells, .inl g_this_points_cells))] (is1 (some (.int o)) [(a_this, .inr (1, [.ref a_this_lists, .ref a_this_days, .ref a_this_contributors, .ref a_this_points, .int v_this_size])), (a_this_points, .inr (6, [.ref a_this_points_cells])), (a_this_points_cells, .inl (cI, n_this_points_cells, .inl g_this_points_cells))]) := by
  refine Ct_of (own := RX1) (lv0 := [(0, .ref a_this), (1, .int x1)]) (by decide) rfl rfl (Nat.le_of_ble_eq_true rfl) ?_
  intro p e s m args below meth c C hr hnm
  unfold f_X1_pointsOf at h
  refine J_aload_n (pc := 0) C dX1_pointsOf_0 0 rfl ?_
  refine J_get (pc := 1) C dX1_pointsOf_1 jf_X1 0 rfl rfl 3 (by decide) rfl fl_RX1_26 rfl ?_
  refine J_iload_n (pc := 4) C dX1_pointsOf_4 1 rfl ?_
  refine J_cvr (pc := 5) (As := [.int x1]) (st := []) C dX1_pointsOf_5 ml_RX1_37 mi_yX6_at (fun r5 hr => c_X6_at l D cI cB cL cO pf 0 a_this_points a_this_points_cells n_this_points_cells g_this_points_cells x1 r5 hr) h [1, 2] rfl rfl rfl rfl rfl ⟨rfl, rfl⟩ ⟨(Nat.le_of_ble_eq_true rfl), (Nat.le_of_ble_eq_true rfl)⟩ ⟨Nat.zero_le _, Nat.zero_le _⟩ (Nat.le_of_ble_eq_true rfl) (fun r5 h => ?_)
  cases h
  exact J_iret (pc := 8) C dX1_pointsOf_8 hr ⟨rfl, rfl⟩
-- PointsLedger$Cohorts.expire(ILPointsLedger$Row;)V
theorem dX1_expire_0 : decode cX1_expire 0 = .ok (.iconst 0, 1) := by decide +kernel
theorem dX1_expire_1 : decode cX1_expire 1 = .ok (.istore_n 3, 1) := by decide +kernel
theorem dX1_expire_2 : decode cX1_expire 2 = .ok (.iconst 0, 1) := by decide +kernel
theorem dX1_expire_3 : decode cX1_expire 3 = .ok (.istore 4, 2) := by decide +kernel
theorem dX1_expire_5 : decode cX1_expire 5 = .ok (.iload 4, 2) := by decide +kernel
theorem dX1_expire_7 : decode cX1_expire 7 = .ok (.aload_n 0, 1) := by decide +kernel
theorem dX1_expire_8 : decode cX1_expire 8 = .ok (.getfield 29, 3) := by decide +kernel
theorem dX1_expire_11 : decode cX1_expire 11 = .ok (.if_icmp .ge 100, 3) := by decide +kernel
theorem dX1_expire_14 : decode cX1_expire 14 = .ok (.aload_n 0, 1) := by decide +kernel
theorem dX1_expire_15 : decode cX1_expire 15 = .ok (.getfield 20, 3) := by decide +kernel
theorem dX1_expire_18 : decode cX1_expire 18 = .ok (.iload 4, 2) := by decide +kernel
theorem dX1_expire_20 : decode cX1_expire 20 = .ok (.invokevirtual 37, 3) := by decide +kernel
theorem dX1_expire_23 : decode cX1_expire 23 = .ok (.iload_n 1, 1) := by decide +kernel
theorem dX1_expire_24 : decode cX1_expire 24 = .ok (.if_icmp .gt 28, 3) := by decide +kernel
theorem dX1_expire_27 : decode cX1_expire 27 = .ok (.aload_n 2, 1) := by decide +kernel
theorem dX1_expire_28 : decode cX1_expire 28 = .ok (.aload_n 0, 1) := by decide +kernel
theorem dX1_expire_29 : decode cX1_expire 29 = .ok (.getfield 14, 3) := by decide +kernel
theorem dX1_expire_32 : decode cX1_expire 32 = .ok (.iload 4, 2) := by decide +kernel
theorem dX1_expire_34 : decode cX1_expire 34 = .ok (.invokevirtual 37, 3) := by decide +kernel
theorem dX1_expire_37 : decode cX1_expire 37 = .ok (.aload_n 0, 1) := by decide +kernel
theorem dX1_expire_38 : decode cX1_expire 38 = .ok (.getfield 26, 3) := by decide +kernel
theorem dX1_expire_41 : decode cX1_expire 41 = .ok (.iload 4, 2) := by decide +kernel
theorem dX1_expire_43 : decode cX1_expire 43 = .ok (.invokevirtual 37, 3) := by decide +kernel
theorem dX1_expire_46 : decode cX1_expire 46 = .ok (.invokevirtual 53, 3) := by decide +kernel
theorem dX1_expire_49 : decode cX1_expire 49 = .ok (.goto 56, 3) := by decide +kernel
theorem dX1_expire_52 : decode cX1_expire 52 = .ok (.iload_n 3, 1) := by decide +kernel
theorem dX1_expire_53 : decode cX1_expire 53 = .ok (.iload 4, 2) := by decide +kernel
theorem dX1_expire_55 : decode cX1_expire 55 = .ok (.if_icmp .ge 47, 3) := by decide +kernel
theorem dX1_expire_58 : decode cX1_expire 58 = .ok (.aload_n 0, 1) := by decide +kernel
theorem dX1_expire_59 : decode cX1_expire 59 = .ok (.getfield 14, 3) := by decide +kernel
theorem dX1_expire_62 : decode cX1_expire 62 = .ok (.iload 4, 2) := by decide +kernel
theorem dX1_expire_64 : decode cX1_expire 64 = .ok (.iload_n 3, 1) := by decide +kernel
theorem dX1_expire_65 : decode cX1_expire 65 = .ok (.iconst 1, 1) := by decide +kernel
theorem dX1_expire_66 : decode cX1_expire 66 = .ok (.invokevirtual 63, 3) := by decide +kernel
theorem dX1_expire_69 : decode cX1_expire 69 = .ok (.aload_n 0, 1) := by decide +kernel
theorem dX1_expire_70 : decode cX1_expire 70 = .ok (.getfield 20, 3) := by decide +kernel
theorem dX1_expire_73 : decode cX1_expire 73 = .ok (.iload 4, 2) := by decide +kernel
theorem dX1_expire_75 : decode cX1_expire 75 = .ok (.iload_n 3, 1) := by decide +kernel
theorem dX1_expire_76 : decode cX1_expire 76 = .ok (.iconst 1, 1) := by decide +kernel
theorem dX1_expire_77 : decode cX1_expire 77 = .ok (.invokevirtual 63, 3) := by decide +kernel
theorem dX1_expire_80 : decode cX1_expire 80 = .ok (.aload_n 0, 1) := by decide +kernel
theorem dX1_expire_81 : decode cX1_expire 81 = .ok (.getfield 23, 3) := by decide +kernel
theorem dX1_expire_84 : decode cX1_expire 84 = .ok (.iload 4, 2) := by decide +kernel
theorem dX1_expire_86 : decode cX1_expire 86 = .ok (.iload_n 3, 1) := by decide +kernel
theorem dX1_expire_87 : decode cX1_expire 87 = .ok (.iconst 1, 1) := by decide +kernel
theorem dX1_expire_88 : decode cX1_expire 88 = .ok (.invokevirtual 63, 3) := by decide +kernel
theorem dX1_expire_91 : decode cX1_expire 91 = .ok (.aload_n 0, 1) := by decide +kernel
theorem dX1_expire_92 : decode cX1_expire 92 = .ok (.getfield 26, 3) := by decide +kernel
theorem dX1_expire_95 : decode cX1_expire 95 = .ok (.iload 4, 2) := by decide +kernel
theorem dX1_expire_97 : decode cX1_expire 97 = .ok (.iload_n 3, 1) := by decide +kernel
theorem dX1_expire_98 : decode cX1_expire 98 = .ok (.iconst 1, 1) := by decide +kernel
theorem dX1_expire_99 : decode cX1_expire 99 = .ok (.invokevirtual 63, 3) := by decide +kernel
theorem dX1_expire_102 : decode cX1_expire 102 = .ok (.iinc 3 1, 3) := by decide +kernel
theorem dX1_expire_105 : decode cX1_expire 105 = .ok (.iinc 4 1, 3) := by decide +kernel
theorem dX1_expire_108 : decode cX1_expire 108 = .ok (.goto (-103), 3) := by decide +kernel
theorem dX1_expire_111 : decode cX1_expire 111 = .ok (.aload_n 0, 1) := by decide +kernel
theorem dX1_expire_112 : decode cX1_expire 112 = .ok (.iload_n 3, 1) := by decide +kernel
theorem dX1_expire_113 : decode cX1_expire 113 = .ok (.putfield 29, 3) := by decide +kernel
theorem dX1_expire_116 : decode cX1_expire 116 = .ok (.return_, 1) := by decide +kernel
def f_X1_expire_b5 (x1 : Int32) (n_this_lists_cells : Nat) (n_this_days_cells : Nat) (n_this_contributors_cells : Nat) (n_this_points_cells : Nat) (n_p2_cells : Nat) (v_this_size : Int32) : Nat → (Int32) → (Int32) → (Nat → Int32) → (Nat → Int32) → (Nat → Int32) → (Nat → Int32) → (Nat → Int32) → Option (Int32 × (Nat → Int32) × (Nat → Int32) × (Nat → Int32) × (Nat → Int32) × (Nat → Int32))
  | 0, _, _, _, _, _, _, _ => none
  | n + 1, x3, x4, g_this_lists_cells, g_this_days_cells, g_this_contributors_cells, g_this_points_cells, g_p2_cells => (if v_this_size ≤ x4 then (some (x3, g_this_lists_cells, g_this_days_cells, g_this_contributors_cells, g_this_points_cells, g_p2_cells)) else ((f_X6_at x4 n_this_days_cells g_this_days_cells).bind fun r20 => (if x1 < r20 then (if x4 ≤ x3 then ((some (x3 + (1 : Int32))).bind fun y102 => ((some (x4 + (1 : Int32))).bind fun y105 => (f_X1_expire_b5 x1 n_this_lists_cells n_this_days_cells n_this_contributors_cells n_this_points_cells n_p2_cells v_this_size n y102 y105 g_this_lists_cells g_this_days_cells g_this_contributors_cells g_this_points_cells g_p2_cells))) else ((f_X6_move x4 x3 (1 : Int32) n_this_lists_cells g_this_lists_cells).bind fun r66 => ((f_X6_move x4 x3 (1 : Int32) n_this_days_cells g_this_days_cells).bind fun r77 => ((f_X6_move x4 x3 (1 : Int32) n_this_contributors_cells g_this_contributors_cells).bind fun r88 => ((f_X6_move x4 x3 (1 : Int32) n_this_points_cells g_this_points_cells).bind fun r99 => ((some (x3 + (1 : Int32))).bind fun y102 => ((some (x4 + (1 : Int32))).bind fun y105 => (f_X1_expire_b5 x1 n_this_lists_cells n_this_days_cells n_this_contributors_cells n_this_points_cells n_p2_cells v_this_size n y102 y105 r66 r77 r88 r99 g_p2_cells)))))))) else ((f_X6_at x4 n_this_lists_cells g_this_lists_cells).bind fun r34 => ((f_X6_at x4 n_this_points_cells g_this_points_cells).bind fun r43 => ((f_X6_increase r34 r43 n_p2_cells g_p2_cells).bind fun r46 => ((some (x4 + (1 : Int32))).bind fun y105 => (f_X1_expire_b5 x1 n_this_lists_cells n_this_days_cells n_this_contributors_cells n_this_points_cells n_p2_cells v_this_size n x3 y105 g_this_lists_cells g_this_days_cells g_this_contributors_cells g_this_points_cells r46))))))))
def f_X1_expire (N : Nat) (x1 : Int32) (n_this_lists_cells : Nat) (n_this_days_cells : Nat) (n_this_contributors_cells : Nat) (n_this_points_cells : Nat) (n_p2_cells : Nat) (v_this_size : Int32) (g_this_lists_cells : Nat → Int32) (g_this_days_cells : Nat → Int32) (g_this_contributors_cells : Nat → Int32) (g_this_points_cells : Nat → Int32) (g_p2_cells : Nat → Int32) : Option (Int32 × (Nat → Int32) × (Nat → Int32) × (Nat → Int32) × (Nat → Int32) × (Nat → Int32)) :=
  (f_X1_expire_b5 x1 n_this_lists_cells n_this_days_cells n_this_contributors_cells n_this_points_cells n_p2_cells v_this_size N (0 : Int32) (0 : Int32) g_this_lists_cells g_this_days_cells g_this_contributors_cells g_this_points_cells g_p2_cells)
set_option maxHeartbeats 4000000 in
set_option maxRecDepth 100000 in
theorem t_X1_expire_b5 {l : Launch} {D : va_G} {cI cB cL cO : ClassId} {pf : Nat → Nat} {p : Program} {e : Env} {s : State} {m : MethodId} {args : Array Value} {below : List Frame} {meth : Method} {c : Code} {W0 : va_W} {a_this a_p2 a_this_lists a_this_days a_this_contributors a_this_points a_this_lists_cells a_this_days_cells a_this_contributors_cells a_this_points_cells a_p2_cells : Nat}  {n_this_lists_cells : Nat} {n_this_days_cells : Nat} {n_this_contributors_cells : Nat} {n_this_points_cells : Nat} {n_p2_cells : Nat} {v_this_size : Int32} {x1 : Int32} {o : Int32 × (Nat → Int32) × (Nat → Int32) × (Nat → Int32) × (Nat → Int32) × (Nat → Int32)} (C : jC p s m args meth c cX1_expire 5 RX1 D [(cI, .int), (cB, .byte), (cL, .long), (cO, .object RX0)] pf (va_A W0 s.heap.size)) (hr : meth.sig.returnType = (none : Option FieldType)) : ∀ (n : Nat) (x3 : Int32) (x4 : Int32) (g_this_lists_cells : Nat → Int32) (g_this_days_cells : Nat → Int32) (g_this_contributors_cells : Nat → Int32) (g_this_points_cells : Nat → Int32) (g_p2_cells : Nat → Int32), f_X1_expire_b5 x1 n_this_lists_cells n_this_days_cells n_this_contributors_cells n_this_points_cells n_p2_cells v_this_size n x3 x4 g_this_lists_cells g_this_days_cells g_this_contributors_cells g_this_points_cells g_p2_cells = some o → J p l e { frames := 2, cells := 0, slots := 0, locals := 84 } s m args below meth c 5 D (va_A W0 s.heap.size) (MQ below (jQ D [(cI, .int), (cB, .byte), (cL, .long), (cO, .object RX0)] W0 s.heap.size (is1 (none) [(a_this, .inr (1, [.ref a_this_lists, .ref a_this_days, .ref a_this_contributors, .ref a_this_points, .int o.1])), (a_this_lists, .inr (6, [.ref a_this_lists_cells])), (a_this_lists_cells, .inl (cI, n_this_lists_cells, .inl o.2.1)), (a_this_days, .inr (6, [.ref a_this_days_cells])), (a_this_days_cells, .inl (cI, n_this_days_cells, .inl o.2.2.1)), (a_this_contributors, .inr (6, [.ref a_this_contributors_cells])), (a_this_contributors_cells, .inl (cI, n_this_contributors_cells, .inl o.2.2.2.1)), (a_this_points, .inr (6, [.ref a_this_points_cells])), (a_this_points_cells, .inl (cI, n_this_points_cells, .inl o.2.2.2.2.1)), (a_p2, .inr (6, [.ref a_p2_cells])), (a_p2_cells, .inl (cI, n_p2_cells, .inl o.2.2.2.2.2))])) args s 0 0 (va_A W0 s.heap.size)) 0 0 5 [(0, .ref a_this), (1, .int x1), (2, .ref a_p2), (3, .int x3), (4, .int x4)] [] [(a_this, .inr (1, [.ref a_this_lists, .ref a_this_days, .ref a_this_contributors, .ref a_this_points, .int v_this_size])), (a_this_lists, .inr (6, [.ref a_this_lists_cells])), (a_this_lists_cells, .inl (cI, n_this_lists_cells, .inl g_this_lists_cells)), (a_this_days, .inr (6, [.ref a_this_days_cells])), (a_this_days_cells, .inl (cI, n_this_days_cells, .inl g_this_days_cells)), (a_this_contributors, .inr (6, [.ref a_this_contributors_cells])), (a_this_contributors_cells, .inl (cI, n_this_contributors_cells, .inl g_this_contributors_cells)), (a_this_points, .inr (6, [.ref a_this_points_cells])), (a_this_points_cells, .inl (cI, n_this_points_cells, .inl g_this_points_cells)), (a_p2, .inr (6, [.ref a_p2_cells])), (a_p2_cells, .inl (cI, n_p2_cells, .inl g_p2_cells))] := by
  intro n
  induction n with
  | zero =>
    intro _ _ _ _ _ _ _ h
    rw [f_X1_expire_b5] at h
    cases h
  | succ n ih =>
    intro x3 x4 g_this_lists_cells g_this_days_cells g_this_contributors_cells g_this_points_cells g_p2_cells h
    rw [f_X1_expire_b5] at h
    refine J_iload (pc := 5) C dX1_expire_5 4 rfl ?_
    refine J_aload_n (pc := 7) C dX1_expire_7 0 rfl ?_
    refine J_get (pc := 8) C dX1_expire_8 jf_X1 0 rfl rfl 4 (by decide) rfl fl_RX1_29 rfl ?_
    refine J_ic_ge (pc := 11) (tgt := 111) C dX1_expire_11 (by decide) h (fun h => ?_) (fun h => ?_)
    · refine J_aload_n (pc := 111) C dX1_expire_111 0 rfl ?_
      refine J_iload_n (pc := 112) C dX1_expire_112 3 rfl ?_
      refine J_put (tt := .int) (pc := 113) C dX1_expire_113 jf_X1 0 rfl rfl 4 (by decide) rfl fl_RX1_29 rfl (by decide +kernel) rfl rfl (Nat.le_of_ble_eq_true rfl) ?_
      refine J_ws (ws2 := [(a_this, .inr (1, [.ref a_this_lists, .ref a_this_days, .ref a_this_contributors, .ref a_this_points, .int x3])), (a_this_lists, .inr (6, [.ref a_this_lists_cells])), (a_this_lists_cells, .inl (cI, n_this_lists_cells, .inl g_this_lists_cells)), (a_this_days, .inr (6, [.ref a_this_days_cells])), (a_this_days_cells, .inl (cI, n_this_days_cells, .inl g_this_days_cells)), (a_this_contributors, .inr (6, [.ref a_this_contributors_cells])), (a_this_contributors_cells, .inl (cI, n_this_contributors_cells, .inl g_this_contributors_cells)), (a_this_points, .inr (6, [.ref a_this_points_cells])), (a_this_points_cells, .inl (cI, n_this_points_cells, .inl g_this_points_cells)), (a_p2, .inr (6, [.ref a_p2_cells])), (a_p2_cells, .inl (cI, n_p2_cells, .inl g_p2_cells))]) rfl ?_
      cases h
      exact J_vret (pc := 116) C dX1_expire_116 hr ⟨rfl, rfl⟩
    · refine J_aload_n (pc := 14) C dX1_expire_14 0 rfl ?_
      refine J_get (pc := 15) C dX1_expire_15 jf_X1 0 rfl rfl 1 (by decide) rfl fl_RX1_20 rfl ?_
      refine J_iload (pc := 18) C dX1_expire_18 4 rfl ?_
      refine J_cvr (pc := 20) (As := [.int x4]) (st := []) C dX1_expire_20 ml_RX1_37 mi_yX6_at (fun r20 hr => c_X6_at l D cI cB cL cO pf 0 a_this_days a_this_days_cells n_this_days_cells g_this_days_cells x4 r20 hr) h [3, 4] rfl rfl rfl rfl rfl ⟨rfl, rfl⟩ ⟨(Nat.le_of_ble_eq_true rfl), (Nat.le_of_ble_eq_true rfl)⟩ ⟨Nat.zero_le _, Nat.zero_le _⟩ (Nat.le_of_ble_eq_true rfl) (fun r20 h => ?_)
      refine J_iload_n (pc := 23) C dX1_expire_23 1 rfl ?_
      refine J_ic_gt (pc := 24) (tgt := 52) C dX1_expire_24 (by decide) h (fun h => ?_) (fun h => ?_)
      · refine J_iload_n (pc := 52) C dX1_expire_52 3 rfl ?_
        refine J_iload (pc := 53) C dX1_expire_53 4 rfl ?_
        refine J_ic_ge (pc := 55) (tgt := 102) C dX1_expire_55 (by decide) h (fun h => ?_) (fun h => ?_)
        · refine J_iincN (pc := 102) (v := (1 : Int32)) C (fun y102 => [(3, .int y102), (0, .ref a_this), (1, .int x1), (2, .ref a_p2), (4, .int x4)]) dX1_expire_102 3 rfl (by decide) h (by decide) (fun _ => rfl) (fun y102 h => ?_)
          refine J_iincN (pc := 105) (v := (1 : Int32)) C (fun y105 => [(4, .int y105), (3, .int y102), (0, .ref a_this), (1, .int x1), (2, .ref a_p2)]) dX1_expire_105 4 rfl (by decide) h (by decide) (fun _ => rfl) (fun y105 h => ?_)
          refine J_goto (tgt := 5) (pc := 108) C dX1_expire_108 (by decide) ?_
          refine J_sub (lv2 := [(0, .ref a_this), (1, .int x1), (2, .ref a_p2), (3, .int y102), (4, .int y105)]) [2, 3, 4, 1, 0] rfl ?_
          exact ih _ _ _ _ _ _ _ h
        · refine J_aload_n (pc := 58) C dX1_expire_58 0 rfl ?_
          refine J_get (pc := 59) C dX1_expire_59 jf_X1 0 rfl rfl 0 (by decide) rfl fl_RX1_14 rfl ?_
          refine J_iload (pc := 62) C dX1_expire_62 4 rfl ?_
          refine J_iload_n (pc := 64) C dX1_expire_64 3 rfl ?_
          refine J_iconst (v := (1 : Int32)) (pc := 65) C dX1_expire_65 (by decide) ?_
          refine J_cvw (pc := 66) (As := [.int x4, .int x3, .int (1 : Int32)]) (st := []) C (fun r66 => [(a_this, .inr (1, [.ref a_this_lists, .ref a_this_days, .ref a_this_contributors, .ref a_this_points, .int v_this_size])), (a_this_lists, .inr (6, [.ref a_this_lists_cells])), (a_this_lists_cells, .inl (cI, n_this_lists_cells, .inl r66)), (a_this_days, .inr (6, [.ref a_this_days_cells])), (a_this_days_cells, .inl (cI, n_this_days_cells, .inl g_this_days_cells)), (a_this_contributors, .inr (6, [.ref a_this_contributors_cells])), (a_this_contributors_cells, .inl (cI, n_this_contributors_cells, .inl g_this_contributors_cells)), (a_this_points, .inr (6, [.ref a_this_points_cells])), (a_this_points_cells, .inl (cI, n_this_points_cells, .inl g_this_points_cells)), (a_p2, .inr (6, [.ref a_p2_cells])), (a_p2_cells, .inl (cI, n_p2_cells, .inl g_p2_cells))]) dX1_expire_66 ml_RX1_63 mi_yX6_move (fun r66 hr => c_X6_move l D cI cB cL cO pf 0 a_this_lists a_this_lists_cells n_this_lists_cells g_this_lists_cells x4 x3 (1 : Int32) r66 hr) h [1, 2] rfl rfl rfl rfl rfl ⟨rfl, rfl⟩ ⟨(Nat.le_of_ble_eq_true rfl), (Nat.le_of_ble_eq_true rfl)⟩ ⟨Nat.zero_le _, Nat.zero_le _⟩ (Nat.le_of_ble_eq_true rfl) (fun _ => rfl) (fun _ => rfl) (fun r66 h => ?_)
          refine J_aload_n (pc := 69) C dX1_expire_69 0 rfl ?_
          refine J_get (pc := 70) C dX1_expire_70 jf_X1 0 rfl rfl 1 (by decide) rfl fl_RX1_20 rfl ?_
          refine J_iload (pc := 73) C dX1_expire_73 4 rfl ?_
          refine J_iload_n (pc := 75) C dX1_expire_75 3 rfl ?_
          refine J_iconst (v := (1 : Int32)) (pc := 76) C dX1_expire_76 (by decide) ?_
          refine J_cvw (pc := 77) (As := [.int x4, .int x3, .int (1 : Int32)]) (st := []) C (fun r77 => [(a_this, .inr (1, [.ref a_this_lists, .ref a_this_days, .ref a_this_contributors, .ref a_this_points, .int v_this_size])), (a_this_lists, .inr (6, [.ref a_this_lists_cells])), (a_this_lists_cells, .inl (cI, n_this_lists_cells, .inl r66)), (a_this_days, .inr (6, [.ref a_this_days_cells])), (a_this_days_cells, .inl (cI, n_this_days_cells, .inl r77)), (a_this_contributors, .inr (6, [.ref a_this_contributors_cells])), (a_this_contributors_cells, .inl (cI, n_this_contributors_cells, .inl g_this_contributors_cells)), (a_this_points, .inr (6, [.ref a_this_points_cells])), (a_this_points_cells, .inl (cI, n_this_points_cells, .inl g_this_points_cells)), (a_p2, .inr (6, [.ref a_p2_cells])), (a_p2_cells, .inl (cI, n_p2_cells, .inl g_p2_cells))]) dX1_expire_77 ml_RX1_63 mi_yX6_move (fun r77 hr => c_X6_move l D cI cB cL cO pf 0 a_this_days a_this_days_cells n_this_days_cells g_this_days_cells x4 x3 (1 : Int32) r77 hr) h [3, 4] rfl rfl rfl rfl rfl ⟨rfl, rfl⟩ ⟨(Nat.le_of_ble_eq_true rfl), (Nat.le_of_ble_eq_true rfl)⟩ ⟨Nat.zero_le _, Nat.zero_le _⟩ (Nat.le_of_ble_eq_true rfl) (fun _ => rfl) (fun _ => rfl) (fun r77 h => ?_)
          refine J_aload_n (pc := 80) C dX1_expire_80 0 rfl ?_
          refine J_get (pc := 81) C dX1_expire_81 jf_X1 0 rfl rfl 2 (by decide) rfl fl_RX1_23 rfl ?_
          refine J_iload (pc := 84) C dX1_expire_84 4 rfl ?_
          refine J_iload_n (pc := 86) C dX1_expire_86 3 rfl ?_
          refine J_iconst (v := (1 : Int32)) (pc := 87) C dX1_expire_87 (by decide) ?_
          refine J_cvw (pc := 88) (As := [.int x4, .int x3, .int (1 : Int32)]) (st := []) C (fun r88 => [(a_this, .inr (1, [.ref a_this_lists, .ref a_this_days, .ref a_this_contributors, .ref a_this_points, .int v_this_size])), (a_this_lists, .inr (6, [.ref a_this_lists_cells])), (a_this_lists_cells, .inl (cI, n_this_lists_cells, .inl r66)), (a_this_days, .inr (6, [.ref a_this_days_cells])), (a_this_days_cells, .inl (cI, n_this_days_cells, .inl r77)), (a_this_contributors, .inr (6, [.ref a_this_contributors_cells])), (a_this_contributors_cells, .inl (cI, n_this_contributors_cells, .inl r88)), (a_this_points, .inr (6, [.ref a_this_points_cells])), (a_this_points_cells, .inl (cI, n_this_points_cells, .inl g_this_points_cells)), (a_p2, .inr (6, [.ref a_p2_cells])), (a_p2_cells, .inl (cI, n_p2_cells, .inl g_p2_cells))]) dX1_expire_88 ml_RX1_63 mi_yX6_move (fun r88 hr => c_X6_move l D cI cB cL cO pf 0 a_this_contributors a_this_contributors_cells n_this_contributors_cells g_this_contributors_cells x4 x3 (1 : Int32) r88 hr) h [5, 6] rfl rfl rfl rfl rfl ⟨rfl, rfl⟩ ⟨(Nat.le_of_ble_eq_true rfl), (Nat.le_of_ble_eq_true rfl)⟩ ⟨Nat.zero_le _, Nat.zero_le _⟩ (Nat.le_of_ble_eq_true rfl) (fun _ => rfl) (fun _ => rfl) (fun r88 h => ?_)
          refine J_aload_n (pc := 91) C dX1_expire_91 0 rfl ?_
          refine J_get (pc := 92) C dX1_expire_92 jf_X1 0 rfl rfl 3 (by decide) rfl fl_RX1_26 rfl ?_
          refine J_iload (pc := 95) C dX1_expire_95 4 rfl ?_
          refine J_iload_n (pc := 97) C dX1_expire_97 3 rfl ?_
          refine J_iconst (v := (1 : Int32)) (pc := 98) C dX1_expire_98 (by decide) ?_
          refine J_cvw (pc := 99) (As := [.int x4, .int x3, .int (1 : Int32)]) (st := []) C (fun r99 => [(a_this, .inr (1, [.ref a_this_lists, .ref a_this_days, .ref a_this_contributors, .ref a_this_points, .int v_this_size])), (a_this_lists, .inr (6, [.ref a_this_lists_cells])), (a_this_lists_cells, .inl (cI, n_this_lists_cells, .inl r66)), (a_this_days, .inr (6, [.ref a_this_days_cells])), (a_this_days_cells, .inl (cI, n_this_days_cells, .inl r77)), (a_this_contributors, .inr (6, [.ref a_this_contributors_cells])), (a_this_contributors_cells, .inl (cI, n_this_contributors_cells, .inl r88)), (a_this_points, .inr (6, [.ref a_this_points_cells])), (a_this_points_cells, .inl (cI, n_this_points_cells, .inl r99)), (a_p2, .inr (6, [.ref a_p2_cells])), (a_p2_cells, .inl (cI, n_p2_cells, .inl g_p2_cells))]) dX1_expire_99 ml_RX1_63 mi_yX6_move (fun r99 hr => c_X6_move l D cI cB cL cO pf 0 a_this_points a_this_points_cells n_this_points_cells g_this_points_cells x4 x3 (1 : Int32) r99 hr) h [7, 8] rfl rfl rfl rfl rfl ⟨rfl, rfl⟩ ⟨(Nat.le_of_ble_eq_true rfl), (Nat.le_of_ble_eq_true rfl)⟩ ⟨Nat.zero_le _, Nat.zero_le _⟩ (Nat.le_of_ble_eq_true rfl) (fun _ => rfl) (fun _ => rfl) (fun r99 h => ?_)
          refine J_iincN (pc := 102) (v := (1 : Int32)) C (fun y102 => [(3, .int y102), (0, .ref a_this), (1, .int x1), (2, .ref a_p2), (4, .int x4)]) dX1_expire_102 3 rfl (by decide) h (by decide) (fun _ => rfl) (fun y102 h => ?_)
          refine J_iincN (pc := 105) (v := (1 : Int32)) C (fun y105 => [(4, .int y105), (3, .int y102), (0, .ref a_this), (1, .int x1), (2, .ref a_p2)]) dX1_expire_105 4 rfl (by decide) h (by decide) (fun _ => rfl) (fun y105 h => ?_)
          refine J_goto (tgt := 5) (pc := 108) C dX1_expire_108 (by decide) ?_
          refine J_sub (lv2 := [(0, .ref a_this), (1, .int x1), (2, .ref a_p2), (3, .int y102), (4, .int y105)]) [2, 3, 4, 1, 0] rfl ?_
          exact ih _ _ _ _ _ _ _ h
      · refine J_aload_n (pc := 27) C dX1_expire_27 2 rfl ?_
        refine J_aload_n (pc := 28) C dX1_expire_28 0 rfl ?_
        refine J_get (pc := 29) C dX1_expire_29 jf_X1 0 rfl rfl 0 (by decide) rfl fl_RX1_14 rfl ?_
        refine J_iload (pc := 32) C dX1_expire_32 4 rfl ?_
        refine J_cvr (pc := 34) (As := [.int x4]) (st := [.ref a_p2]) C dX1_expire_34 ml_RX1_37 mi_yX6_at (fun r34 hr => c_X6_at l D cI cB cL cO pf 0 a_this_lists a_this_lists_cells n_this_lists_cells g_this_lists_cells x4 r34 hr) h [1, 2] rfl rfl rfl rfl rfl ⟨rfl, rfl⟩ ⟨(Nat.le_of_ble_eq_true rfl), (Nat.le_of_ble_eq_true rfl)⟩ ⟨Nat.zero_le _, Nat.zero_le _⟩ (Nat.le_of_ble_eq_true rfl) (fun r34 h => ?_)
        refine J_aload_n (pc := 37) C dX1_expire_37 0 rfl ?_
        refine J_get (pc := 38) C dX1_expire_38 jf_X1 0 rfl rfl 3 (by decide) rfl fl_RX1_26 rfl ?_
        refine J_iload (pc := 41) C dX1_expire_41 4 rfl ?_
        refine J_cvr (pc := 43) (As := [.int x4]) (st := [.int r34, .ref a_p2]) C dX1_expire_43 ml_RX1_37 mi_yX6_at (fun r43 hr => c_X6_at l D cI cB cL cO pf 0 a_this_points a_this_points_cells n_this_points_cells g_this_points_cells x4 r43 hr) h [7, 8] rfl rfl rfl rfl rfl ⟨rfl, rfl⟩ ⟨(Nat.le_of_ble_eq_true rfl), (Nat.le_of_ble_eq_true rfl)⟩ ⟨Nat.zero_le _, Nat.zero_le _⟩ (Nat.le_of_ble_eq_true rfl) (fun r43 h => ?_)
        refine J_cvw (pc := 46) (As := [.int r34, .int r43]) (st := []) C (fun r46 => [(a_this, .inr (1, [.ref a_this_lists, .ref a_this_days, .ref a_this_contributors, .ref a_this_points, .int v_this_size])), (a_this_lists, .inr (6, [.ref a_this_lists_cells])), (a_this_lists_cells, .inl (cI, n_this_lists_cells, .inl g_this_lists_cells)), (a_this_days, .inr (6, [.ref a_this_days_cells])), (a_this_days_cells, .inl (cI, n_this_days_cells, .inl g_this_days_cells)), (a_this_contributors, .inr (6, [.ref a_this_contributors_cells])), (a_this_contributors_cells, .inl (cI, n_this_contributors_cells, .inl g_this_contributors_cells)), (a_this_points, .inr (6, [.ref a_this_points_cells])), (a_this_points_cells, .inl (cI, n_this_points_cells, .inl g_this_points_cells)), (a_p2, .inr (6, [.ref a_p2_cells])), (a_p2_cells, .inl (cI, n_p2_cells, .inl r46))]) dX1_expire_46 ml_RX1_53 mi_yX6_increase (fun r46 hr => c_X6_increase l D cI cB cL cO pf 0 a_p2 a_p2_cells n_p2_cells g_p2_cells r34 r43 r46 hr) h [9, 10] rfl rfl rfl rfl rfl ⟨rfl, rfl⟩ ⟨(Nat.le_of_ble_eq_true rfl), (Nat.le_of_ble_eq_true rfl)⟩ ⟨Nat.zero_le _, Nat.zero_le _⟩ (Nat.le_of_ble_eq_true rfl) (fun _ => rfl) (fun _ => rfl) (fun r46 h => ?_)
        refine J_goto (tgt := 105) (pc := 49) C dX1_expire_49 (by decide) ?_
        refine J_iincN (pc := 105) (v := (1 : Int32)) C (fun y105 => [(4, .int y105), (0, .ref a_this), (1, .int x1), (2, .ref a_p2), (3, .int x3)]) dX1_expire_105 4 rfl (by decide) h (by decide) (fun _ => rfl) (fun y105 h => ?_)
        refine J_goto (tgt := 5) (pc := 108) C dX1_expire_108 (by decide) ?_
        refine J_sub (lv2 := [(0, .ref a_this), (1, .int x1), (2, .ref a_p2), (3, .int x3), (4, .int y105)]) [1, 2, 3, 4, 0] rfl ?_
        exact ih _ _ _ _ _ _ _ h
set_option maxHeartbeats 4000000 in
set_option maxRecDepth 100000 in
theorem c_X1_expire (l : Launch) (D : va_G) (cI cB cL cO : ClassId) (pf : Nat → Nat) (N : Nat) (a_this a_p2 a_this_lists a_this_days a_this_contributors a_this_points a_this_lists_cells a_this_days_cells a_this_contributors_cells a_this_points_cells a_p2_cells : Nat) (n_this_lists_cells : Nat) (n_this_days_cells : Nat) (n_this_contributors_cells : Nat) (n_this_points_cells : Nat) (n_p2_cells : Nat) (v_this_size : Int32) (g_this_lists_cells : Nat → Int32) (g_this_days_cells : Nat → Int32) (g_this_contributors_cells : Nat → Int32) (g_this_points_cells : Nat → Int32) (g_p2_cells : Nat → Int32) (x1 : Int32) (o : Int32 × (Nat → Int32) × (Nat → Int32) × (Nat → Int32) × (Nat → Int32) × (Nat → Int32)) (h : f_X1_expire N x1 n_this_lists_cells n_this_days_cells n_this_contributors_cells n_this_points_cells n_p2_cells v_this_size g_this_lists_cells g_this_days_cells g_this_contributors_cells g_this_points_cells g_p2_cells = some o) : Ct l D [(cI, .int), (cB, .byte), (cL, .long), (cO, .object RX0)] pf yX1_expire cX1_expire 5 (none : Option FieldType) { frames := 2, cells := 0, slots := 0, locals := 84 } [.ref a_this, .int x1, .ref a_p2] [(a_this, .inr (1, [.ref a_this_lists, .ref a_this_days, .ref a_this_contributors, .ref a_this_points, .int v_this_size])), (a_this_lists, .inr (6, [.ref a_this_lists_cells])), (a_this_lists_cells, .inl (cI, n_this_lists_cells, .inl g_this_lists_cells)), (a_this_days, .inr (6, [.ref a_this_days_cells])), (a_this_days_cells, .inl (cI, n_this_days_cells, .inl g_this_days_cells)), (a_this_contributors, .inr (6, [.ref a_this_contributors_cells])), (a_this_contributors_cells, .inl (cI, n_this_contributors_cells, .inl g_this_contributors_cells)), (a_this_points, .inr (6, [.ref a_this_points_cells])), (a_this_points_cells, .inl (cI, n_this_points_cells, .inl g_this_points_cells)), (a_p2, .inr (6, [.ref a_p2_cells])), (a_p2_cells, .inl (cI, n_p2_cells, .inl g_p2_cells))] (is1 (none) [(a_this, .inr (1, [.ref a_this_lists, .ref a_this_days, .ref a_this_contributors, .ref a_this_points, .int o.1])), (a_this_lists, .inr (6, [.ref a_this_lists_cells])), (a_this_lists_cells, .inl (cI, n_this_lists_cells, .inl o.2.1)), (a_this_days, .inr (6, [.ref a_this_days_cells])), (a_this_days_cells, .inl (cI, n_this_days_cells, .inl o.2.2.1)), (a_this_contributors, .inr (6, [.ref a_this_contributors_cells])), (a_this_contributors_cells, .inl (cI, n_this_contributors_cells, .inl o.2.2.2.1)), (a_this_points, .inr (6, [.ref a_this_points_cells])), (a_this_points_cells, .inl (cI, n_this_points_cells, .inl o.2.2.2.2.1)), (a_p2, .inr (6, [.ref a_p2_cells])), (a_p2_cells, .inl (cI, n_p2_cells, .inl o.2.2.2.2.2))]) := by
  refine Ct_of (own := RX1) (lv0 := [(0, .ref a_this), (1, .int x1), (2, .ref a_p2)]) (by decide) rfl rfl (Nat.le_of_ble_eq_true rfl) ?_
  intro p e s m args below meth c C hr hnm
  unfold f_X1_expire at h
  refine J_iconst (v := (0 : Int32)) (pc := 0) C dX1_expire_0 (by decide) ?_
  refine J_istore_n (lv2 := [(3, .int (0 : Int32)), (0, .ref a_this), (1, .int x1), (2, .ref a_p2)]) (pc := 1) C dX1_expire_1 (by decide) rfl ?_
  refine J_iconst (v := (0 : Int32)) (pc := 2) C dX1_expire_2 (by decide) ?_
  refine J_istore (lv2 := [(4, .int (0 : Int32)), (3, .int (0 : Int32)), (0, .ref a_this), (1, .int x1), (2, .ref a_p2)]) (pc := 3) C dX1_expire_3 (by decide) rfl ?_
  refine J_sub (lv2 := [(0, .ref a_this), (1, .int x1), (2, .ref a_p2), (3, .int (0 : Int32)), (4, .int (0 : Int32))]) [2, 3, 4, 1, 0] rfl ?_
  exact t_X1_expire_b5 C hr N _ _ _ _ _ _ _ h
-- PointsLedger$Purchases.basesOf(III)I
theorem dX5_basesOf_0 : decode cX5_basesOf 0 = .ok (.iconst 0, 1) := by decide +kernel
theorem dX5_basesOf_1 : decode cX5_basesOf 1 = .ok (.istore 4, 2) := by decide +kernel
theorem dX5_basesOf_3 : decode cX5_basesOf 3 = .ok (.iload_n 2, 1) := by decide +kernel
theorem dX5_basesOf_4 : decode cX5_basesOf 4 = .ok (.istore 5, 2) := by decide +kernel
theorem dX5_basesOf_6 : decode cX5_basesOf 6 = .ok (.iload 5, 2) := by decide +kernel
theorem dX5_basesOf_8 : decode cX5_basesOf 8 = .ok (.iload_n 3, 1) := by decide +kernel
theorem dX5_basesOf_9 : decode cX5_basesOf 9 = .ok (.if_icmp .ge 43, 3) := by decide +kernel
theorem dX5_basesOf_12 : decode cX5_basesOf 12 = .ok (.aload_n 0, 1) := by decide +kernel
theorem dX5_basesOf_13 : decode cX5_basesOf 13 = .ok (.iload 5, 2) := by decide +kernel
theorem dX5_basesOf_15 : decode cX5_basesOf 15 = .ok (.iconst 0, 1) := by decide +kernel
theorem dX5_basesOf_16 : decode cX5_basesOf 16 = .ok (.invokevirtual 36, 3) := by decide +kernel
theorem dX5_basesOf_19 : decode cX5_basesOf 19 = .ok (.iload_n 1, 1) := by decide +kernel
theorem dX5_basesOf_20 : decode cX5_basesOf 20 = .ok (.if_icmp .ne 26, 3) := by decide +kernel
theorem dX5_basesOf_23 : decode cX5_basesOf 23 = .ok (.aload_n 0, 1) := by decide +kernel
theorem dX5_basesOf_24 : decode cX5_basesOf 24 = .ok (.iload 5, 2) := by decide +kernel
theorem dX5_basesOf_26 : decode cX5_basesOf 26 = .ok (.bipush 6, 2) := by decide +kernel
theorem dX5_basesOf_28 : decode cX5_basesOf 28 = .ok (.invokevirtual 36, 3) := by decide +kernel
theorem dX5_basesOf_31 : decode cX5_basesOf 31 = .ok (.ifCond .ne 15, 3) := by decide +kernel
theorem dX5_basesOf_34 : decode cX5_basesOf 34 = .ok (.iload 4, 2) := by decide +kernel
theorem dX5_basesOf_36 : decode cX5_basesOf 36 = .ok (.aload_n 0, 1) := by decide +kernel
theorem dX5_basesOf_37 : decode cX5_basesOf 37 = .ok (.iload 5, 2) := by decide +kernel
theorem dX5_basesOf_39 : decode cX5_basesOf 39 = .ok (.iconst 3, 1) := by decide +kernel
theorem dX5_basesOf_40 : decode cX5_basesOf 40 = .ok (.invokevirtual 36, 3) := by decide +kernel
theorem dX5_basesOf_43 : decode cX5_basesOf 43 = .ok (.iadd, 1) := by decide +kernel
theorem dX5_basesOf_44 : decode cX5_basesOf 44 = .ok (.istore 4, 2) := by decide +kernel
theorem dX5_basesOf_46 : decode cX5_basesOf 46 = .ok (.iinc 5 1, 3) := by decide +kernel
theorem dX5_basesOf_49 : decode cX5_basesOf 49 = .ok (.goto (-43), 3) := by decide +kernel
theorem dX5_basesOf_52 : decode cX5_basesOf 52 = .ok (.iload 4, 2) := by decide +kernel
theorem dX5_basesOf_54 : decode cX5_basesOf 54 = .ok (.ireturn, 1) := by decide +kernel
def f_X5_basesOf_b6 (x1 : Int32) (x3 : Int32) (n_this_parts_cells : Nat) (g_this_parts_cells : Nat → Int32) : Nat → (Int32) → (Int32) → Option (Int32)
  | 0, _, _ => none
  | n + 1, x4, x5 => (if x3 ≤ x5 then (some x4) else ((f_X5_part x5 (0 : Int32) n_this_parts_cells g_this_parts_cells).bind fun r16 => (if r16 = x1 then ((f_X5_part x5 (6 : Int32) n_this_parts_cells g_this_parts_cells).bind fun r28 => (if r28 = 0 then ((f_X5_part x5 (3 : Int32) n_this_parts_cells g_this_parts_cells).bind fun r40 => ((some (x4 + r40)).bind fun y44 => ((some (x5 + (1 : Int32))).bind fun y46 => (f_X5_basesOf_b6 x1 x3 n_this_parts_cells g_this_parts_cells n y44 y46)))) else ((some (x5 + (1 : Int32))).bind fun y46 => (f_X5_basesOf_b6 x1 x3 n_this_parts_cells g_this_parts_cells n x4 y46)))) else ((some (x5 + (1 : Int32))).bind fun y46 => (f_X5_basesOf_b6 x1 x3 n_this_parts_cells g_this_parts_cells n x4 y46)))))
def f_X5_basesOf (N : Nat) (x1 : Int32) (x2 : Int32) (x3 : Int32) (n_this_parts_cells : Nat) (g_this_parts_cells : Nat → Int32) : Option (Int32) :=
  (f_X5_basesOf_b6 x1 x3 n_this_parts_cells g_this_parts_cells N (0 : Int32) x2)
set_option maxHeartbeats 4000000 in
set_option maxRecDepth 100000 in
theorem t_X5_basesOf_b6 {l : Launch} {D : va_G} {cI cB cL cO : ClassId} {pf : Nat → Nat} {p : Program} {e : Env} {s : State} {m : MethodId} {args : Array Value} {below : List Frame} {meth : Method} {c : Code} {W0 : va_W} {a_this a_this_parts a_this_parts_cells : Nat}  {n_this_parts_cells : Nat} {v_this_count : Int32} {g_this_parts_cells : Nat → Int32} {x1 : Int32} {x3 : Int32} {o : Int32} (C : jC p s m args meth c cX5_basesOf 6 RX5 D [(cI, .int), (cB, .byte), (cL, .long), (cO, .object RX0)] pf (va_A W0 s.heap.size)) (hr : meth.sig.returnType = (some FieldType.int)) : ∀ (n : Nat) (x4 : Int32) (x5 : Int32), f_X5_basesOf_b6 x1 x3 n_this_parts_cells g_this_parts_cells n x4 x5 = some o → J p l e { frames := 2, cells := 0, slots := 0, locals := 43 } s m args below meth c 6 D (va_A W0 s.heap.size) (MQ below (jQ D [(cI, .int), (cB, .byte), (cL, .long), (cO, .object RX0)] W0 s.heap.size (is1 (some (.int o)) [(a_this, .inr (5, [.ref a_this_parts, .int v_this_count])), (a_this_parts, .inr (6, [.ref a_this_parts_cells])), (a_this_parts_cells, .inl (cI, n_this_parts_cells, .inl g_this_parts_cells))])) args s 0 0 (va_A W0 s.heap.size)) 0 0 6 [(0, .ref a_this), (1, .int x1), (3, .int x3), (4, .int x4), (5, .int x5)] [] [(a_this, .inr (5, [.ref a_this_parts, .int v_this_count])), (a_this_parts, .inr (6, [.ref a_this_parts_cells])), (a_this_parts_cells, .inl (cI, n_this_parts_cells, .inl g_this_parts_cells))] := by
  intro n
  induction n with
  | zero =>
    intro _ _ h
    rw [f_X5_basesOf_b6] at h
    cases h
  | succ n ih =>
    intro x4 x5 h
    rw [f_X5_basesOf_b6] at h
    refine J_iload (pc := 6) C dX5_basesOf_6 4 rfl ?_
    refine J_iload_n (pc := 8) C dX5_basesOf_8 2 rfl ?_
    refine J_ic_ge (pc := 9) (tgt := 52) C dX5_basesOf_9 (by decide) h (fun h => ?_) (fun h => ?_)
    · refine J_iload (pc := 52) C dX5_basesOf_52 3 rfl ?_
      cases h
      exact J_iret (pc := 54) C dX5_basesOf_54 hr ⟨rfl, rfl⟩
    · refine J_aload_n (pc := 12) C dX5_basesOf_12 0 rfl ?_
      refine J_iload (pc := 13) C dX5_basesOf_13 4 rfl ?_
      refine J_iconst (v := (0 : Int32)) (pc := 15) C dX5_basesOf_15 (by decide) ?_
      refine J_cvr (pc := 16) (As := [.int x5, .int (0 : Int32)]) (st := []) C dX5_basesOf_16 ml_RX5_36 mi_yX5_part (fun r16 hr => c_X5_part l D cI cB cL cO pf 0 a_this a_this_parts a_this_parts_cells n_this_parts_cells v_this_count g_this_parts_cells x5 (0 : Int32) r16 hr) h [0, 1, 2] rfl rfl rfl rfl rfl ⟨rfl, rfl⟩ ⟨(Nat.le_of_ble_eq_true rfl), (Nat.le_of_ble_eq_true rfl)⟩ ⟨Nat.zero_le _, Nat.zero_le _⟩ (Nat.le_of_ble_eq_true rfl) (fun r16 h => ?_)
      refine J_iload_n (pc := 19) C dX5_basesOf_19 1 rfl ?_
      refine J_ic_ne (pc := 20) (tgt := 46) C dX5_basesOf_20 (by decide) h (fun h => ?_) (fun h => ?_)
      · refine J_iincN (pc := 46) (v := (1 : Int32)) C (fun y46 => [(5, .int y46), (0, .ref a_this), (1, .int x1), (3, .int x3), (4, .int x4)]) dX5_basesOf_46 4 rfl (by decide) h (by decide) (fun _ => rfl) (fun y46 h => ?_)
        refine J_goto (tgt := 6) (pc := 49) C dX5_basesOf_49 (by decide) ?_
        refine J_sub (lv2 := [(0, .ref a_this), (1, .int x1), (3, .int x3), (4, .int x4), (5, .int y46)]) [1, 2, 3, 4, 0] rfl ?_
        exact ih _ _ h
      · refine J_aload_n (pc := 23) C dX5_basesOf_23 0 rfl ?_
        refine J_iload (pc := 24) C dX5_basesOf_24 4 rfl ?_
        refine J_bipush (v := (6 : Int32)) (pc := 26) C dX5_basesOf_26 (by decide) ?_
        refine J_cvr (pc := 28) (As := [.int x5, .int (6 : Int32)]) (st := []) C dX5_basesOf_28 ml_RX5_36 mi_yX5_part (fun r28 hr => c_X5_part l D cI cB cL cO pf 0 a_this a_this_parts a_this_parts_cells n_this_parts_cells v_this_count g_this_parts_cells x5 (6 : Int32) r28 hr) h [0, 1, 2] rfl rfl rfl rfl rfl ⟨rfl, rfl⟩ ⟨(Nat.le_of_ble_eq_true rfl), (Nat.le_of_ble_eq_true rfl)⟩ ⟨Nat.zero_le _, Nat.zero_le _⟩ (Nat.le_of_ble_eq_true rfl) (fun r28 h => ?_)
        refine J_if_ne (pc := 31) (tgt := 46) C dX5_basesOf_31 (by decide) h (fun h => ?_) (fun h => ?_)
        · refine J_iincN (pc := 46) (v := (1 : Int32)) C (fun y46 => [(5, .int y46), (0, .ref a_this), (1, .int x1), (3, .int x3), (4, .int x4)]) dX5_basesOf_46 4 rfl (by decide) h (by decide) (fun _ => rfl) (fun y46 h => ?_)
          refine J_goto (tgt := 6) (pc := 49) C dX5_basesOf_49 (by decide) ?_
          refine J_sub (lv2 := [(0, .ref a_this), (1, .int x1), (3, .int x3), (4, .int x4), (5, .int y46)]) [1, 2, 3, 4, 0] rfl ?_
          exact ih _ _ h
        · refine J_iload (pc := 34) C dX5_basesOf_34 3 rfl ?_
          refine J_aload_n (pc := 36) C dX5_basesOf_36 0 rfl ?_
          refine J_iload (pc := 37) C dX5_basesOf_37 4 rfl ?_
          refine J_iconst (v := (3 : Int32)) (pc := 39) C dX5_basesOf_39 (by decide) ?_
          refine J_cvr (pc := 40) (As := [.int x5, .int (3 : Int32)]) (st := [.int x4]) C dX5_basesOf_40 ml_RX5_36 mi_yX5_part (fun r40 hr => c_X5_part l D cI cB cL cO pf 0 a_this a_this_parts a_this_parts_cells n_this_parts_cells v_this_count g_this_parts_cells x5 (3 : Int32) r40 hr) h [0, 1, 2] rfl rfl rfl rfl rfl ⟨rfl, rfl⟩ ⟨(Nat.le_of_ble_eq_true rfl), (Nat.le_of_ble_eq_true rfl)⟩ ⟨Nat.zero_le _, Nat.zero_le _⟩ (Nat.le_of_ble_eq_true rfl) (fun r40 h => ?_)
          refine J_iadd (pc := 43) C dX5_basesOf_43 ?_
          refine J_istoreN (pc := 44) C (fun y44 => [(4, .int y44), (0, .ref a_this), (1, .int x1), (3, .int x3), (5, .int x5)]) dX5_basesOf_44 h (by decide) (fun _ => rfl) (fun y44 h => ?_)
          refine J_iincN (pc := 46) (v := (1 : Int32)) C (fun y46 => [(5, .int y46), (4, .int y44), (0, .ref a_this), (1, .int x1), (3, .int x3)]) dX5_basesOf_46 4 rfl (by decide) h (by decide) (fun _ => rfl) (fun y46 h => ?_)
          refine J_goto (tgt := 6) (pc := 49) C dX5_basesOf_49 (by decide) ?_
          refine J_sub (lv2 := [(0, .ref a_this), (1, .int x1), (3, .int x3), (4, .int y44), (5, .int y46)]) [2, 3, 4, 1, 0] rfl ?_
          exact ih _ _ h
set_option maxHeartbeats 4000000 in
set_option maxRecDepth 100000 in
theorem c_X5_basesOf (l : Launch) (D : va_G) (cI cB cL cO : ClassId) (pf : Nat → Nat) (N : Nat) (a_this a_this_parts a_this_parts_cells : Nat) (n_this_parts_cells : Nat) (v_this_count : Int32) (g_this_parts_cells : Nat → Int32) (x1 : Int32) (x2 : Int32) (x3 : Int32) (o : Int32) (h : f_X5_basesOf N x1 x2 x3 n_this_parts_cells g_this_parts_cells = some o) : Ct l D [(cI, .int), (cB, .byte), (cL, .long), (cO, .object RX0)] pf yX5_basesOf cX5_basesOf 6 (some FieldType.int) { frames := 2, cells := 0, slots := 0, locals := 43 } [.ref a_this, .int x1, .int x2, .int x3] [(a_this, .inr (5, [.ref a_this_parts, .int v_this_count])), (a_this_parts, .inr (6, [.ref a_this_parts_cells])), (a_this_parts_cells, .inl (cI, n_this_parts_cells, .inl g_this_parts_cells))] (is1 (some (.int o)) [(a_this, .inr (5, [.ref a_this_parts, .int v_this_count])), (a_this_parts, .inr (6, [.ref a_this_parts_cells])), (a_this_parts_cells, .inl (cI, n_this_parts_cells, .inl g_this_parts_cells))]) := by
  refine Ct_of (own := RX5) (lv0 := [(0, .ref a_this), (1, .int x1), (2, .int x2), (3, .int x3)]) (by decide) rfl rfl (Nat.le_of_ble_eq_true rfl) ?_
  intro p e s m args below meth c C hr hnm
  unfold f_X5_basesOf at h
  refine J_iconst (v := (0 : Int32)) (pc := 0) C dX5_basesOf_0 (by decide) ?_
  refine J_istore (lv2 := [(4, .int (0 : Int32)), (0, .ref a_this), (1, .int x1), (2, .int x2), (3, .int x3)]) (pc := 1) C dX5_basesOf_1 (by decide) rfl ?_
  refine J_iload_n (pc := 3) C dX5_basesOf_3 3 rfl ?_
  refine J_istore (lv2 := [(5, .int x2), (4, .int (0 : Int32)), (0, .ref a_this), (1, .int x1), (2, .int x2), (3, .int x3)]) (pc := 4) C dX5_basesOf_4 (by decide) rfl ?_
  refine J_sub (lv2 := [(0, .ref a_this), (1, .int x1), (3, .int x3), (4, .int (0 : Int32)), (5, .int x2)]) [2, 3, 5, 1, 0] rfl ?_
  exact t_X5_basesOf_b6 C hr N _ _ h
-- PointsLedger$Purchases.firstAfter(II)I
theorem dX5_firstAfter_0 : decode cX5_firstAfter 0 = .ok (.iload_n 1, 1) := by decide +kernel
theorem dX5_firstAfter_1 : decode cX5_firstAfter 1 = .ok (.istore_n 3, 1) := by decide +kernel
theorem dX5_firstAfter_2 : decode cX5_firstAfter 2 = .ok (.iload_n 3, 1) := by decide +kernel
theorem dX5_firstAfter_3 : decode cX5_firstAfter 3 = .ok (.aload_n 0, 1) := by decide +kernel
theorem dX5_firstAfter_4 : decode cX5_firstAfter 4 = .ok (.getfield 20, 3) := by decide +kernel
theorem dX5_firstAfter_7 : decode cX5_firstAfter 7 = .ok (.if_icmp .ge 19, 3) := by decide +kernel
theorem dX5_firstAfter_10 : decode cX5_firstAfter 10 = .ok (.aload_n 0, 1) := by decide +kernel
theorem dX5_firstAfter_11 : decode cX5_firstAfter 11 = .ok (.iload_n 3, 1) := by decide +kernel
theorem dX5_firstAfter_12 : decode cX5_firstAfter 12 = .ok (.iconst 5, 1) := by decide +kernel
theorem dX5_firstAfter_13 : decode cX5_firstAfter 13 = .ok (.invokevirtual 36, 3) := by decide +kernel
theorem dX5_firstAfter_16 : decode cX5_firstAfter 16 = .ok (.iload_n 2, 1) := by decide +kernel
theorem dX5_firstAfter_17 : decode cX5_firstAfter 17 = .ok (.if_icmp .gt 9, 3) := by decide +kernel
theorem dX5_firstAfter_20 : decode cX5_firstAfter 20 = .ok (.iinc 3 1, 3) := by decide +kernel
theorem dX5_firstAfter_23 : decode cX5_firstAfter 23 = .ok (.goto (-21), 3) := by decide +kernel
theorem dX5_firstAfter_26 : decode cX5_firstAfter 26 = .ok (.iload_n 3, 1) := by decide +kernel
theorem dX5_firstAfter_27 : decode cX5_firstAfter 27 = .ok (.ireturn, 1) := by decide +kernel
def f_X5_firstAfter_b2 (x2 : Int32) (n_this_parts_cells : Nat) (v_this_count : Int32) (g_this_parts_cells : Nat → Int32) : Nat → (Int32) → Option (Int32)
  | 0, _ => none
  | n + 1, x3 => (if v_this_count ≤ x3 then (some x3) else ((f_X5_part x3 (5 : Int32) n_this_parts_cells g_this_parts_cells).bind fun r13 => (if x2 < r13 then (some x3) else ((some (x3 + (1 : Int32))).bind fun y20 => (f_X5_firstAfter_b2 x2 n_this_parts_cells v_this_count g_this_parts_cells n y20)))))
def f_X5_firstAfter (N : Nat) (x1 : Int32) (x2 : Int32) (n_this_parts_cells : Nat) (v_this_count : Int32) (g_this_parts_cells : Nat → Int32) : Option (Int32) :=
  (f_X5_firstAfter_b2 x2 n_this_parts_cells v_this_count g_this_parts_cells N x1)
set_option maxHeartbeats 4000000 in
set_option maxRecDepth 100000 in
theorem t_X5_firstAfter_b2 {l : Launch} {D : va_G} {cI cB cL cO : ClassId} {pf : Nat → Nat} {p : Program} {e : Env} {s : State} {m : MethodId} {args : Array Value} {below : List Frame} {meth : Method} {c : Code} {W0 : va_W} {a_this a_this_parts a_this_parts_cells : Nat}  {n_this_parts_cells : Nat} {v_this_count : Int32} {g_this_parts_cells : Nat → Int32} {x2 : Int32} {o : Int32} (C : jC p s m args meth c cX5_firstAfter 4 RX5 D [(cI, .int), (cB, .byte), (cL, .long), (cO, .object RX0)] pf (va_A W0 s.heap.size)) (hr : meth.sig.returnType = (some FieldType.int)) : ∀ (n : Nat) (x3 : Int32), f_X5_firstAfter_b2 x2 n_this_parts_cells v_this_count g_this_parts_cells n x3 = some o → J p l e { frames := 2, cells := 0, slots := 0, locals := 43 } s m args below meth c 4 D (va_A W0 s.heap.size) (MQ below (jQ D [(cI, .int), (cB, .byte), (cL, .long), (cO, .object RX0)] W0 s.heap.size (is1 (some (.int o)) [(a_this, .inr (5, [.ref a_this_parts, .int v_this_count])), (a_this_parts, .inr (6, [.ref a_this_parts_cells])), (a_this_parts_cells, .inl (cI, n_this_parts_cells, .inl g_this_parts_cells))])) args s 0 0 (va_A W0 s.heap.size)) 0 0 2 [(0, .ref a_this), (2, .int x2), (3, .int x3)] [] [(a_this, .inr (5, [.ref a_this_parts, .int v_this_count])), (a_this_parts, .inr (6, [.ref a_this_parts_cells])), (a_this_parts_cells, .inl (cI, n_this_parts_cells, .inl g_this_parts_cells))] := by
  intro n
  induction n with
  | zero =>
    intro _ h
    rw [f_X5_firstAfter_b2] at h
    cases h
  | succ n ih =>
    intro x3 h
    rw [f_X5_firstAfter_b2] at h
    refine J_iload_n (pc := 2) C dX5_firstAfter_2 2 rfl ?_
    refine J_aload_n (pc := 3) C dX5_firstAfter_3 0 rfl ?_
    refine J_get (pc := 4) C dX5_firstAfter_4 jf_X5 0 rfl rfl 1 (by decide) rfl fl_RX5_20 rfl ?_
    refine J_ic_ge (pc := 7) (tgt := 26) C dX5_firstAfter_7 (by decide) h (fun h => ?_) (fun h => ?_)
    · refine J_iload_n (pc := 26) C dX5_firstAfter_26 2 rfl ?_
      cases h
      exact J_iret (pc := 27) C dX5_firstAfter_27 hr ⟨rfl, rfl⟩
    · refine J_aload_n (pc := 10) C dX5_firstAfter_10 0 rfl ?_
      refine J_iload_n (pc := 11) C dX5_firstAfter_11 2 rfl ?_
      refine J_iconst (v := (5 : Int32)) (pc := 12) C dX5_firstAfter_12 (by decide) ?_
      refine J_cvr (pc := 13) (As := [.int x3, .int (5 : Int32)]) (st := []) C dX5_firstAfter_13 ml_RX5_36 mi_yX5_part (fun r13 hr => c_X5_part l D cI cB cL cO pf 0 a_this a_this_parts a_this_parts_cells n_this_parts_cells v_this_count g_this_parts_cells x3 (5 : Int32) r13 hr) h [0, 1, 2] rfl rfl rfl rfl rfl ⟨rfl, rfl⟩ ⟨(Nat.le_of_ble_eq_true rfl), (Nat.le_of_ble_eq_true rfl)⟩ ⟨Nat.zero_le _, Nat.zero_le _⟩ (Nat.le_of_ble_eq_true rfl) (fun r13 h => ?_)
      refine J_iload_n (pc := 16) C dX5_firstAfter_16 1 rfl ?_
      refine J_ic_gt (pc := 17) (tgt := 26) C dX5_firstAfter_17 (by decide) h (fun h => ?_) (fun h => ?_)
      · refine J_iload_n (pc := 26) C dX5_firstAfter_26 2 rfl ?_
        cases h
        exact J_iret (pc := 27) C dX5_firstAfter_27 hr ⟨rfl, rfl⟩
      · refine J_iincN (pc := 20) (v := (1 : Int32)) C (fun y20 => [(3, .int y20), (0, .ref a_this), (2, .int x2)]) dX5_firstAfter_20 2 rfl (by decide) h (by decide) (fun _ => rfl) (fun y20 h => ?_)
        refine J_goto (tgt := 2) (pc := 23) C dX5_firstAfter_23 (by decide) ?_
        refine J_sub (lv2 := [(0, .ref a_this), (2, .int x2), (3, .int y20)]) [1, 2, 0] rfl ?_
        exact ih _ h
set_option maxHeartbeats 4000000 in
set_option maxRecDepth 100000 in
theorem c_X5_firstAfter (l : Launch) (D : va_G) (cI cB cL cO : ClassId) (pf : Nat → Nat) (N : Nat) (a_this a_this_parts a_this_parts_cells : Nat) (n_this_parts_cells : Nat) (v_this_count : Int32) (g_this_parts_cells : Nat → Int32) (x1 : Int32) (x2 : Int32) (o : Int32) (h : f_X5_firstAfter N x1 x2 n_this_parts_cells v_this_count g_this_parts_cells = some o) : Ct l D [(cI, .int), (cB, .byte), (cL, .long), (cO, .object RX0)] pf yX5_firstAfter cX5_firstAfter 4 (some FieldType.int) { frames := 2, cells := 0, slots := 0, locals := 43 } [.ref a_this, .int x1, .int x2] [(a_this, .inr (5, [.ref a_this_parts, .int v_this_count])), (a_this_parts, .inr (6, [.ref a_this_parts_cells])), (a_this_parts_cells, .inl (cI, n_this_parts_cells, .inl g_this_parts_cells))] (is1 (some (.int o)) [(a_this, .inr (5, [.ref a_this_parts, .int v_this_count])), (a_this_parts, .inr (6, [.ref a_this_parts_cells])), (a_this_parts_cells, .inl (cI, n_this_parts_cells, .inl g_this_parts_cells))]) := by
  refine Ct_of (own := RX5) (lv0 := [(0, .ref a_this), (1, .int x1), (2, .int x2)]) (by decide) rfl rfl (Nat.le_of_ble_eq_true rfl) ?_
  intro p e s m args below meth c C hr hnm
  unfold f_X5_firstAfter at h
  refine J_iload_n (pc := 0) C dX5_firstAfter_0 1 rfl ?_
  refine J_istore_n (lv2 := [(3, .int x1), (0, .ref a_this), (1, .int x1), (2, .int x2)]) (pc := 1) C dX5_firstAfter_1 (by decide) rfl ?_
  refine J_sub (lv2 := [(0, .ref a_this), (2, .int x2), (3, .int x1)]) [1, 3, 0] rfl ?_
  exact t_X5_firstAfter_b2 C hr N _ h
-- PointsLedger$Cohorts.number(I)I
theorem dX1_number_0 : decode cX1_number 0 = .ok (.iconst 0, 1) := by decide +kernel
theorem dX1_number_1 : decode cX1_number 1 = .ok (.istore_n 2, 1) := by decide +kernel
theorem dX1_number_2 : decode cX1_number 2 = .ok (.iconst 0, 1) := by decide +kernel
theorem dX1_number_3 : decode cX1_number 3 = .ok (.istore_n 3, 1) := by decide +kernel
theorem dX1_number_4 : decode cX1_number 4 = .ok (.iload_n 3, 1) := by decide +kernel
theorem dX1_number_5 : decode cX1_number 5 = .ok (.aload_n 0, 1) := by decide +kernel
theorem dX1_number_6 : decode cX1_number 6 = .ok (.getfield 29, 3) := by decide +kernel
theorem dX1_number_9 : decode cX1_number 9 = .ok (.if_icmp .ge 21, 3) := by decide +kernel
theorem dX1_number_12 : decode cX1_number 12 = .ok (.aload_n 0, 1) := by decide +kernel
theorem dX1_number_13 : decode cX1_number 13 = .ok (.iload_n 3, 1) := by decide +kernel
theorem dX1_number_14 : decode cX1_number 14 = .ok (.iload_n 1, 1) := by decide +kernel
theorem dX1_number_15 : decode cX1_number 15 = .ok (.invokevirtual 41, 3) := by decide +kernel
theorem dX1_number_18 : decode cX1_number 18 = .ok (.ifCond .eq 6, 3) := by decide +kernel
theorem dX1_number_21 : decode cX1_number 21 = .ok (.iinc 2 1, 3) := by decide +kernel
theorem dX1_number_24 : decode cX1_number 24 = .ok (.iinc 3 1, 3) := by decide +kernel
theorem dX1_number_27 : decode cX1_number 27 = .ok (.goto (-23), 3) := by decide +kernel
theorem dX1_number_30 : decode cX1_number 30 = .ok (.iload_n 2, 1) := by decide +kernel
theorem dX1_number_31 : decode cX1_number 31 = .ok (.ireturn, 1) := by decide +kernel
def f_X1_number_b4 (x1 : Int32) (n_this_lists_cells : Nat) (v_this_size : Int32) (g_this_lists_cells : Nat → Int32) : Nat → (Int32) → (Int32) → Option (Int32)
  | 0, _, _ => none
  | n + 1, x2, x3 => (if v_this_size ≤ x3 then (some x2) else ((f_X1_isIn x3 x1 n_this_lists_cells g_this_lists_cells).bind fun r15 => (if r15 = 0 then ((some (x3 + (1 : Int32))).bind fun y24 => (f_X1_number_b4 x1 n_this_lists_cells v_this_size g_this_lists_cells n x2 y24)) else ((some (x2 + (1 : Int32))).bind fun y21 => ((some (x3 + (1 : Int32))).bind fun y24 => (f_X1_number_b4 x1 n_this_lists_cells v_this_size g_this_lists_cells n y21 y24))))))
def f_X1_number (N : Nat) (x1 : Int32) (n_this_lists_cells : Nat) (v_this_size : Int32) (g_this_lists_cells : Nat → Int32) : Option (Int32) :=
  (f_X1_number_b4 x1 n_this_lists_cells v_this_size g_this_lists_cells N (0 : Int32) (0 : Int32))
set_option maxHeartbeats 4000000 in
set_option maxRecDepth 100000 in
theorem t_X1_number_b4 {l : Launch} {D : va_G} {cI cB cL cO : ClassId} {pf : Nat → Nat} {p : Program} {e : Env} {s : State} {m : MethodId} {args : Array Value} {below : List Frame} {meth : Method} {c : Code} {W0 : va_W} {a_this a_this_lists a_this_days a_this_contributors a_this_points a_this_lists_cells : Nat}  {n_this_lists_cells : Nat} {v_this_size : Int32} {g_this_lists_cells : Nat → Int32} {x1 : Int32} {o : Int32} (C : jC p s m args meth c cX1_number 4 RX1 D [(cI, .int), (cB, .byte), (cL, .long), (cO, .object RX0)] pf (va_A W0 s.heap.size)) (hr : meth.sig.returnType = (some FieldType.int)) : ∀ (n : Nat) (x2 : Int32) (x3 : Int32), f_X1_number_b4 x1 n_this_lists_cells v_this_size g_this_lists_cells n x2 x3 = some o → J p l e { frames := 2, cells := 0, slots := 0, locals := 43 } s m args below meth c 4 D (va_A W0 s.heap.size) (MQ below (jQ D [(cI, .int), (cB, .byte), (cL, .long), (cO, .object RX0)] W0 s.heap.size (is1 (some (.int o)) [(a_this, .inr (1, [.ref a_this_lists, .ref a_this_days, .ref a_this_contributors, .ref a_this_points, .int v_this_size])), (a_this_lists, .inr (6, [.ref a_this_lists_cells])), (a_this_lists_cells, .inl (cI, n_this_lists_cells, .inl g_this_lists_cells))])) args s 0 0 (va_A W0 s.heap.size)) 0 0 4 [(0, .ref a_this), (1, .int x1), (2, .int x2), (3, .int x3)] [] [(a_this, .inr (1, [.ref a_this_lists, .ref a_this_days, .ref a_this_contributors, .ref a_this_points, .int v_this_size])), (a_this_lists, .inr (6, [.ref a_this_lists_cells])), (a_this_lists_cells, .inl (cI, n_this_lists_cells, .inl g_this_lists_cells))] := by
  intro n
  induction n with
  | zero =>
    intro _ _ h
    rw [f_X1_number_b4] at h
    cases h
  | succ n ih =>
    intro x2 x3 h
    rw [f_X1_number_b4] at h
    refine J_iload_n (pc := 4) C dX1_number_4 3 rfl ?_
    refine J_aload_n (pc := 5) C dX1_number_5 0 rfl ?_
    refine J_get (pc := 6) C dX1_number_6 jf_X1 0 rfl rfl 4 (by decide) rfl fl_RX1_29 rfl ?_
    refine J_ic_ge (pc := 9) (tgt := 30) C dX1_number_9 (by decide) h (fun h => ?_) (fun h => ?_)
    · refine J_iload_n (pc := 30) C dX1_number_30 2 rfl ?_
      cases h
      exact J_iret (pc := 31) C dX1_number_31 hr ⟨rfl, rfl⟩
    · refine J_aload_n (pc := 12) C dX1_number_12 0 rfl ?_
      refine J_iload_n (pc := 13) C dX1_number_13 3 rfl ?_
      refine J_iload_n (pc := 14) C dX1_number_14 1 rfl ?_
      refine J_cvr (pc := 15) (As := [.int x3, .int x1]) (st := []) C dX1_number_15 ml_RX1_41 mi_yX1_isIn (fun r15 hr => c_X1_isIn l D cI cB cL cO pf 0 a_this a_this_lists a_this_days a_this_contributors a_this_points a_this_lists_cells n_this_lists_cells v_this_size g_this_lists_cells x3 x1 r15 hr) h [0, 1, 2] rfl rfl rfl rfl rfl ⟨rfl, rfl⟩ ⟨(Nat.le_of_ble_eq_true rfl), (Nat.le_of_ble_eq_true rfl)⟩ ⟨Nat.zero_le _, Nat.zero_le _⟩ (Nat.le_of_ble_eq_true rfl) (fun r15 h => ?_)
      refine J_if_eq (pc := 18) (tgt := 24) C dX1_number_18 (by decide) h (fun h => ?_) (fun h => ?_)
      · refine J_iincN (pc := 24) (v := (1 : Int32)) C (fun y24 => [(3, .int y24), (0, .ref a_this), (1, .int x1), (2, .int x2)]) dX1_number_24 3 rfl (by decide) h (by decide) (fun _ => rfl) (fun y24 h => ?_)
        refine J_goto (tgt := 4) (pc := 27) C dX1_number_27 (by decide) ?_
        refine J_sub (lv2 := [(0, .ref a_this), (1, .int x1), (2, .int x2), (3, .int y24)]) [1, 2, 3, 0] rfl ?_
        exact ih _ _ h
      · refine J_iincN (pc := 21) (v := (1 : Int32)) C (fun y21 => [(2, .int y21), (0, .ref a_this), (1, .int x1), (3, .int x3)]) dX1_number_21 2 rfl (by decide) h (by decide) (fun _ => rfl) (fun y21 h => ?_)
        refine J_iincN (pc := 24) (v := (1 : Int32)) C (fun y24 => [(3, .int y24), (2, .int y21), (0, .ref a_this), (1, .int x1)]) dX1_number_24 3 rfl (by decide) h (by decide) (fun _ => rfl) (fun y24 h => ?_)
        refine J_goto (tgt := 4) (pc := 27) C dX1_number_27 (by decide) ?_
        refine J_sub (lv2 := [(0, .ref a_this), (1, .int x1), (2, .int y21), (3, .int y24)]) [2, 3, 1, 0] rfl ?_
        exact ih _ _ h
set_option maxHeartbeats 4000000 in
set_option maxRecDepth 100000 in
theorem c_X1_number (l : Launch) (D : va_G) (cI cB cL cO : ClassId) (pf : Nat → Nat) (N : Nat) (a_this a_this_lists a_this_days a_this_contributors a_this_points a_this_lists_cells : Nat) (n_this_lists_cells : Nat) (v_this_size : Int32) (g_this_lists_cells : Nat → Int32) (x1 : Int32) (o : Int32) (h : f_X1_number N x1 n_this_lists_cells v_this_size g_this_lists_cells = some o) : Ct l D [(cI, .int), (cB, .byte), (cL, .long), (cO, .object RX0)] pf yX1_number cX1_number 4 (some FieldType.int) { frames := 2, cells := 0, slots := 0, locals := 43 } [.ref a_this, .int x1] [(a_this, .inr (1, [.ref a_this_lists, .ref a_this_days, .ref a_this_contributors, .ref a_this_points, .int v_this_size])), (a_this_lists, .inr (6, [.ref a_this_lists_cells])), (a_this_lists_cells, .inl (cI, n_this_lists_cells, .inl g_this_lists_cells))] (is1 (some (.int o)) [(a_this, .inr (1, [.ref a_this_lists, .ref a_this_days, .ref a_this_contributors, .ref a_this_points, .int v_this_size])), (a_this_lists, .inr (6, [.ref a_this_lists_cells])), (a_this_lists_cells, .inl (cI, n_this_lists_cells, .inl g_this_lists_cells))]) := by
  refine Ct_of (own := RX1) (lv0 := [(0, .ref a_this), (1, .int x1)]) (by decide) rfl rfl (Nat.le_of_ble_eq_true rfl) ?_
  intro p e s m args below meth c C hr hnm
  unfold f_X1_number at h
  refine J_iconst (v := (0 : Int32)) (pc := 0) C dX1_number_0 (by decide) ?_
  refine J_istore_n (lv2 := [(2, .int (0 : Int32)), (0, .ref a_this), (1, .int x1)]) (pc := 1) C dX1_number_1 (by decide) rfl ?_
  refine J_iconst (v := (0 : Int32)) (pc := 2) C dX1_number_2 (by decide) ?_
  refine J_istore_n (lv2 := [(3, .int (0 : Int32)), (2, .int (0 : Int32)), (0, .ref a_this), (1, .int x1)]) (pc := 3) C dX1_number_3 (by decide) rfl ?_
  refine J_sub (lv2 := [(0, .ref a_this), (1, .int x1), (2, .int (0 : Int32)), (3, .int (0 : Int32))]) [2, 3, 1, 0] rfl ?_
  exact t_X1_number_b4 C hr N _ _ h
-- PointsLedger$Cohorts.part(III)I
theorem dX1_part_0 : decode cX1_part 0 = .ok (.aload_n 0, 1) := by decide +kernel
theorem dX1_part_1 : decode cX1_part 1 = .ok (.iload_n 1, 1) := by decide +kernel
theorem dX1_part_2 : decode cX1_part 2 = .ok (.bipush (-2), 2) := by decide +kernel
theorem dX1_part_4 : decode cX1_part 4 = .ok (.bipush (-2), 2) := by decide +kernel
theorem dX1_part_6 : decode cX1_part 6 = .ok (.invokevirtual 45, 3) := by decide +kernel
theorem dX1_part_9 : decode cX1_part 9 = .ok (.iload_n 2, 1) := by decide +kernel
theorem dX1_part_10 : decode cX1_part 10 = .ok (.iadd, 1) := by decide +kernel
theorem dX1_part_11 : decode cX1_part 11 = .ok (.istore 4, 2) := by decide +kernel
theorem dX1_part_13 : decode cX1_part 13 = .ok (.iload_n 3, 1) := by decide +kernel
theorem dX1_part_14 : decode cX1_part 14 = .ok (.ifCond .ne 13, 3) := by decide +kernel
theorem dX1_part_17 : decode cX1_part 17 = .ok (.aload_n 0, 1) := by decide +kernel
theorem dX1_part_18 : decode cX1_part 18 = .ok (.getfield 26, 3) := by decide +kernel
theorem dX1_part_21 : decode cX1_part 21 = .ok (.iload 4, 2) := by decide +kernel
theorem dX1_part_23 : decode cX1_part 23 = .ok (.invokevirtual 37, 3) := by decide +kernel
theorem dX1_part_26 : decode cX1_part 26 = .ok (.ireturn, 1) := by decide +kernel
theorem dX1_part_27 : decode cX1_part 27 = .ok (.iload_n 3, 1) := by decide +kernel
theorem dX1_part_28 : decode cX1_part 28 = .ok (.iconst 1, 1) := by decide +kernel
theorem dX1_part_29 : decode cX1_part 29 = .ok (.if_icmp .ne 15, 3) := by decide +kernel
theorem dX1_part_32 : decode cX1_part 32 = .ok (.aload_n 0, 1) := by decide +kernel
theorem dX1_part_33 : decode cX1_part 33 = .ok (.getfield 20, 3) := by decide +kernel
theorem dX1_part_36 : decode cX1_part 36 = .ok (.iload 4, 2) := by decide +kernel
theorem dX1_part_38 : decode cX1_part 38 = .ok (.invokevirtual 37, 3) := by decide +kernel
theorem dX1_part_41 : decode cX1_part 41 = .ok (.goto 12, 3) := by decide +kernel
theorem dX1_part_44 : decode cX1_part 44 = .ok (.aload_n 0, 1) := by decide +kernel
theorem dX1_part_45 : decode cX1_part 45 = .ok (.getfield 23, 3) := by decide +kernel
theorem dX1_part_48 : decode cX1_part 48 = .ok (.iload 4, 2) := by decide +kernel
theorem dX1_part_50 : decode cX1_part 50 = .ok (.invokevirtual 37, 3) := by decide +kernel
theorem dX1_part_53 : decode cX1_part 53 = .ok (.ireturn, 1) := by decide +kernel
def f_X1_part (N : Nat) (x1 : Int32) (x2 : Int32) (x3 : Int32) (n_this_lists_cells : Nat) (n_this_days_cells : Nat) (n_this_contributors_cells : Nat) (n_this_points_cells : Nat) (v_this_size : Int32) (g_this_lists_cells : Nat → Int32) (g_this_days_cells : Nat → Int32) (g_this_contributors_cells : Nat → Int32) (g_this_points_cells : Nat → Int32) : Option (Int32) :=
  ((f_X1_first N x1 (-2 : Int32) (-2 : Int32) n_this_lists_cells n_this_days_cells n_this_contributors_cells v_this_size g_this_lists_cells g_this_days_cells g_this_contributors_cells).bind fun r6 => ((some (r6 + x2)).bind fun y11 => (if x3 = 0 then ((f_X6_at y11 n_this_points_cells g_this_points_cells).bind fun r23 => (some r23)) else (if x3 = (1 : Int32) then ((f_X6_at y11 n_this_days_cells g_this_days_cells).bind fun r38 => (some r38)) else ((f_X6_at y11 n_this_contributors_cells g_this_contributors_cells).bind fun r50 => (some r50))))))
set_option maxHeartbeats 4000000 in
set_option maxRecDepth 100000 in
theorem c_X1_part (l : Launch) (D : va_G) (cI cB cL cO : ClassId) (pf : Nat → Nat) (N : Nat) (a_this a_this_lists a_this_days a_this_contributors a_this_points a_this_lists_cells a_this_days_cells a_this_contributors_cells a_this_points_cells : Nat) (n_this_lists_cells : Nat) (n_this_days_cells : Nat) (n_this_contributors_cells : Nat) (n_this_points_cells : Nat) (v_this_size : Int32) (g_this_lists_cells : Nat → Int32) (g_this_days_cells : Nat → Int32) (g_this_contributors_cells : Nat → Int32) (g_this_points_cells : Nat → Int32) (x1 : Int32) (x2 : Int32) (x3 : Int32) (o : Int32) (h : f_X1_part N x1 x2 x3 n_this_lists_cells n_this_days_cells n_this_contributors_cells n_this_points_cells v_this_size g_this_lists_cells g_this_days_cells g_this_contributors_cells g_this_points_cells = some o) : Ct l D [(cI, .int), (cB, .byte), (cL, .long), (cO, .object RX0)] pf yX1_part cX1_part 5 (some FieldType.int) { frames := 3, cells := 0, slots := 0, locals := 67 } [.ref a_this, .int x1, .int x2, .int x3] [(a_this, .inr (1, [.ref a_this_lists, .ref a_this_days, .ref a_this_contributors, .ref a_this_points, .int v_this_size])), (a_this_lists, .inr (6, [.ref a_this_lists_cells])), (a_this_lists_cells, .inl (cI, n_this_lists_cells, .inl g_this_lists_cells)), (a_this_days, .inr (6, [.ref a_this_days_cells])), (a_this_days_cells, .inl (cI, n_this_days_cells, .inl g_this_days_cells)), (a_this_contributors, .inr (6, [.ref a_this_contributors_cells])), (a_this_contributors_cells, .inl (cI, n_this_contributors_cells, .inl g_this_contributors_cells)), (a_this_points, .inr (6, [.ref a_this_points_cells])), (a_this_points_cells, .inl (cI, n_this_points_cells, .inl g_this_points_cells))] (is1 (some (.int o)) [(a_this, .inr (1, [.ref a_this_lists, .ref a_this_days, .ref a_this_contributors, .ref a_this_points, .int v_this_size])), (a_this_lists, .inr (6, [.ref a_this_lists_cells])), (a_this_lists_cells, .inl (cI, n_this_lists_cells, .inl g_this_lists_cells)), (a_this_days, .inr (6, [.ref a_this_days_cells])), (a_this_days_cells, .inl (cI, n_this_days_cells, .inl g_this_days_cells)), (a_this_contributors, .inr (6, [.ref a_this_contributors_cells])), (a_this_contributors_cells, .inl (cI, n_this_contributors_cells, .inl g_this_contributors_cells)), (a_this_points, .inr (6, [.ref a_this_points_cells])), (a_this_points_cells, .inl (cI, n_this_points_cells, .inl g_this_points_cells))]) := by
  refine Ct_of (own := RX1) (lv0 := [(0, .ref a_this), (1, .int x1), (2, .int x2), (3, .int x3)]) (by decide) rfl rfl (Nat.le_of_ble_eq_true rfl) ?_
  intro p e s m args below meth c C hr hnm
  unfold f_X1_part at h
  refine J_aload_n (pc := 0) C dX1_part_0 0 rfl ?_
  refine J_iload_n (pc := 1) C dX1_part_1 1 rfl ?_
  refine J_bipush (v := (-2 : Int32)) (pc := 2) C dX1_part_2 (by decide) ?_
  refine J_bipush (v := (-2 : Int32)) (pc := 4) C dX1_part_4 (by decide) ?_
  refine J_cvr (pc := 6) (As := [.int x1, .int (-2 : Int32), .int (-2 : Int32)]) (st := []) C dX1_part_6 ml_RX1_45 mi_yX1_first (fun r6 hr => c_X1_first l D cI cB cL cO pf N a_this a_this_lists a_this_days a_this_contributors a_this_points a_this_lists_cells a_this_days_cells a_this_contributors_cells n_this_lists_cells n_this_days_cells n_this_contributors_cells v_this_size g_this_lists_cells g_this_days_cells g_this_contributors_cells x1 (-2 : Int32) (-2 : Int32) r6 hr) h [0, 1, 2, 3, 4, 5, 6] rfl rfl rfl rfl rfl ⟨rfl, rfl⟩ ⟨(Nat.le_of_ble_eq_true rfl), (Nat.le_of_ble_eq_true rfl)⟩ ⟨Nat.zero_le _, Nat.zero_le _⟩ (Nat.le_of_ble_eq_true rfl) (fun r6 h => ?_)
  refine J_iload_n (pc := 9) C dX1_part_9 2 rfl ?_
  refine J_iadd (pc := 10) C dX1_part_10 ?_
  refine J_istoreN (pc := 11) C (fun y11 => [(4, .int y11), (0, .ref a_this), (1, .int x1), (2, .int x2), (3, .int x3)]) dX1_part_11 h (by decide) (fun _ => rfl) (fun y11 h => ?_)
  refine J_iload_n (pc := 13) C dX1_part_13 4 rfl ?_
  refine J_if_ne (pc := 14) (tgt := 27) C dX1_part_14 (by decide) h (fun h => ?_) (fun h => ?_)
  · refine J_iload_n (pc := 27) C dX1_part_27 4 rfl ?_
    refine J_iconst (v := (1 : Int32)) (pc := 28) C dX1_part_28 (by decide) ?_
    refine J_ic_ne (pc := 29) (tgt := 44) C dX1_part_29 (by decide) h (fun h => ?_) (fun h => ?_)
    · refine J_aload_n (pc := 44) C dX1_part_44 1 rfl ?_
      refine J_get (pc := 45) C dX1_part_45 jf_X1 0 rfl rfl 2 (by decide) rfl fl_RX1_23 rfl ?_
      refine J_iload (pc := 48) C dX1_part_48 0 rfl ?_
      refine J_cvr (pc := 50) (As := [.int y11]) (st := []) C dX1_part_50 ml_RX1_37 mi_yX6_at (fun r50 hr => c_X6_at l D cI cB cL cO pf 0 a_this_contributors a_this_contributors_cells n_this_contributors_cells g_this_contributors_cells y11 r50 hr) h [5, 6] rfl rfl rfl rfl rfl ⟨rfl, rfl⟩ ⟨(Nat.le_of_ble_eq_true rfl), (Nat.le_of_ble_eq_true rfl)⟩ ⟨Nat.zero_le _, Nat.zero_le _⟩ (Nat.le_of_ble_eq_true rfl) (fun r50 h => ?_)
      cases h
      exact J_iret (pc := 53) C dX1_part_53 hr ⟨rfl, rfl⟩
    · refine J_aload_n (pc := 32) C dX1_part_32 1 rfl ?_
      refine J_get (pc := 33) C dX1_part_33 jf_X1 0 rfl rfl 1 (by decide) rfl fl_RX1_20 rfl ?_
      refine J_iload (pc := 36) C dX1_part_36 0 rfl ?_
      refine J_cvr (pc := 38) (As := [.int y11]) (st := []) C dX1_part_38 ml_RX1_37 mi_yX6_at (fun r38 hr => c_X6_at l D cI cB cL cO pf 0 a_this_days a_this_days_cells n_this_days_cells g_this_days_cells y11 r38 hr) h [3, 4] rfl rfl rfl rfl rfl ⟨rfl, rfl⟩ ⟨(Nat.le_of_ble_eq_true rfl), (Nat.le_of_ble_eq_true rfl)⟩ ⟨Nat.zero_le _, Nat.zero_le _⟩ (Nat.le_of_ble_eq_true rfl) (fun r38 h => ?_)
      refine J_goto (tgt := 53) (pc := 41) C dX1_part_41 (by decide) ?_
      cases h
      exact J_iret (pc := 53) C dX1_part_53 hr ⟨rfl, rfl⟩
  · refine J_aload_n (pc := 17) C dX1_part_17 1 rfl ?_
    refine J_get (pc := 18) C dX1_part_18 jf_X1 0 rfl rfl 3 (by decide) rfl fl_RX1_26 rfl ?_
    refine J_iload (pc := 21) C dX1_part_21 0 rfl ?_
    refine J_cvr (pc := 23) (As := [.int y11]) (st := []) C dX1_part_23 ml_RX1_37 mi_yX6_at (fun r23 hr => c_X6_at l D cI cB cL cO pf 0 a_this_points a_this_points_cells n_this_points_cells g_this_points_cells y11 r23 hr) h [7, 8] rfl rfl rfl rfl rfl ⟨rfl, rfl⟩ ⟨(Nat.le_of_ble_eq_true rfl), (Nat.le_of_ble_eq_true rfl)⟩ ⟨Nat.zero_le _, Nat.zero_le _⟩ (Nat.le_of_ble_eq_true rfl) (fun r23 h => ?_)
    cases h
    exact J_iret (pc := 26) C dX1_part_26 hr ⟨rfl, rfl⟩
-- PointsLedger$Cohorts.sumUntil(II)I
theorem dX1_sumUntil_0 : decode cX1_sumUntil 0 = .ok (.iconst 0, 1) := by decide +kernel
theorem dX1_sumUntil_1 : decode cX1_sumUntil 1 = .ok (.istore_n 3, 1) := by decide +kernel
theorem dX1_sumUntil_2 : decode cX1_sumUntil 2 = .ok (.iconst 0, 1) := by decide +kernel
theorem dX1_sumUntil_3 : decode cX1_sumUntil 3 = .ok (.istore 4, 2) := by decide +kernel
theorem dX1_sumUntil_5 : decode cX1_sumUntil 5 = .ok (.iload 4, 2) := by decide +kernel
theorem dX1_sumUntil_7 : decode cX1_sumUntil 7 = .ok (.aload_n 0, 1) := by decide +kernel
theorem dX1_sumUntil_8 : decode cX1_sumUntil 8 = .ok (.getfield 29, 3) := by decide +kernel
theorem dX1_sumUntil_11 : decode cX1_sumUntil 11 = .ok (.if_icmp .ge 44, 3) := by decide +kernel
theorem dX1_sumUntil_14 : decode cX1_sumUntil 14 = .ok (.aload_n 0, 1) := by decide +kernel
theorem dX1_sumUntil_15 : decode cX1_sumUntil 15 = .ok (.iload 4, 2) := by decide +kernel
theorem dX1_sumUntil_17 : decode cX1_sumUntil 17 = .ok (.iload_n 1, 1) := by decide +kernel
theorem dX1_sumUntil_18 : decode cX1_sumUntil 18 = .ok (.invokevirtual 41, 3) := by decide +kernel
theorem dX1_sumUntil_21 : decode cX1_sumUntil 21 = .ok (.ifCond .eq 28, 3) := by decide +kernel
theorem dX1_sumUntil_24 : decode cX1_sumUntil 24 = .ok (.aload_n 0, 1) := by decide +kernel
theorem dX1_sumUntil_25 : decode cX1_sumUntil 25 = .ok (.getfield 20, 3) := by decide +kernel
theorem dX1_sumUntil_28 : decode cX1_sumUntil 28 = .ok (.iload 4, 2) := by decide +kernel
theorem dX1_sumUntil_30 : decode cX1_sumUntil 30 = .ok (.invokevirtual 37, 3) := by decide +kernel
theorem dX1_sumUntil_33 : decode cX1_sumUntil 33 = .ok (.iload_n 2, 1) := by decide +kernel
theorem dX1_sumUntil_34 : decode cX1_sumUntil 34 = .ok (.if_icmp .gt 15, 3) := by decide +kernel
theorem dX1_sumUntil_37 : decode cX1_sumUntil 37 = .ok (.iload_n 3, 1) := by decide +kernel
theorem dX1_sumUntil_38 : decode cX1_sumUntil 38 = .ok (.aload_n 0, 1) := by decide +kernel
theorem dX1_sumUntil_39 : decode cX1_sumUntil 39 = .ok (.getfield 26, 3) := by decide +kernel
theorem dX1_sumUntil_42 : decode cX1_sumUntil 42 = .ok (.iload 4, 2) := by decide +kernel
theorem dX1_sumUntil_44 : decode cX1_sumUntil 44 = .ok (.invokevirtual 37, 3) := by decide +kernel
theorem dX1_sumUntil_47 : decode cX1_sumUntil 47 = .ok (.iadd, 1) := by decide +kernel
theorem dX1_sumUntil_48 : decode cX1_sumUntil 48 = .ok (.istore_n 3, 1) := by decide +kernel
theorem dX1_sumUntil_49 : decode cX1_sumUntil 49 = .ok (.iinc 4 1, 3) := by decide +kernel
theorem dX1_sumUntil_52 : decode cX1_sumUntil 52 = .ok (.goto (-47), 3) := by decide +kernel
theorem dX1_sumUntil_55 : decode cX1_sumUntil 55 = .ok (.iload_n 3, 1) := by decide +kernel
theorem dX1_sumUntil_56 : decode cX1_sumUntil 56 = .ok (.ireturn, 1) := by decide +kernel
def f_X1_sumUntil_b5 (x1 : Int32) (x2 : Int32) (n_this_lists_cells : Nat) (n_this_days_cells : Nat) (n_this_points_cells : Nat) (v_this_size : Int32) (g_this_lists_cells : Nat → Int32) (g_this_days_cells : Nat → Int32) (g_this_points_cells : Nat → Int32) : Nat → (Int32) → (Int32) → Option (Int32)
  | 0, _, _ => none
  | n + 1, x3, x4 => (if v_this_size ≤ x4 then (some x3) else ((f_X1_isIn x4 x1 n_this_lists_cells g_this_lists_cells).bind fun r18 => (if r18 = 0 then ((some (x4 + (1 : Int32))).bind fun y49 => (f_X1_sumUntil_b5 x1 x2 n_this_lists_cells n_this_days_cells n_this_points_cells v_this_size g_this_lists_cells g_this_days_cells g_this_points_cells n x3 y49)) else ((f_X6_at x4 n_this_days_cells g_this_days_cells).bind fun r30 => (if x2 < r30 then ((some (x4 + (1 : Int32))).bind fun y49 => (f_X1_sumUntil_b5 x1 x2 n_this_lists_cells n_this_days_cells n_this_points_cells v_this_size g_this_lists_cells g_this_days_cells g_this_points_cells n x3 y49)) else ((f_X6_at x4 n_this_points_cells g_this_points_cells).bind fun r44 => ((some (x3 + r44)).bind fun y48 => ((some (x4 + (1 : Int32))).bind fun y49 => (f_X1_sumUntil_b5 x1 x2 n_this_lists_cells n_this_days_cells n_this_points_cells v_this_size g_this_lists_cells g_this_days_cells g_this_points_cells n y48 y49)))))))))
def f_X1_sumUntil (N : Nat) (x1 : Int32) (x2 : Int32) (n_this_lists_cells : Nat) (n_this_days_cells : Nat) (n_this_points_cells : Nat) (v_this_size : Int32) (g_this_lists_cells : Nat → Int32) (g_this_days_cells : Nat → Int32) (g_this_points_cells : Nat → Int32) : Option (Int32) :=
  (f_X1_sumUntil_b5 x1 x2 n_this_lists_cells n_this_days_cells n_this_points_cells v_this_size g_this_lists_cells g_this_days_cells g_this_points_cells N (0 : Int32) (0 : Int32))
set_option maxHeartbeats 4000000 in
set_option maxRecDepth 100000 in
theorem t_X1_sumUntil_b5 {l : Launch} {D : va_G} {cI cB cL cO : ClassId} {pf : Nat → Nat} {p : Program} {e : Env} {s : State} {m : MethodId} {args : Array Value} {below : List Frame} {meth : Method} {c : Code} {W0 : va_W} {a_this a_this_lists a_this_days a_this_contributors a_this_points a_this_lists_cells a_this_days_cells a_this_points_cells : Nat}  {n_this_lists_cells : Nat} {n_this_days_cells : Nat} {n_this_points_cells : Nat} {v_this_size : Int32} {g_this_lists_cells : Nat → Int32} {g_this_days_cells : Nat → Int32} {g_this_points_cells : Nat → Int32} {x1 : Int32} {x2 : Int32} {o : Int32} (C : jC p s m args meth c cX1_sumUntil 5 RX1 D [(cI, .int), (cB, .byte), (cL, .long), (cO, .object RX0)] pf (va_A W0 s.heap.size)) (hr : meth.sig.returnType = (some FieldType.int)) : ∀ (n : Nat) (x3 : Int32) (x4 : Int32), f_X1_sumUntil_b5 x1 x2 n_this_lists_cells n_this_days_cells n_this_points_cells v_this_size g_this_lists_cells g_this_days_cells g_this_points_cells n x3 x4 = some o → J p l e { frames := 2, cells := 0, slots := 0, locals := 43 } s m args below meth c 5 D (va_A W0 s.heap.size) (MQ below (jQ D [(cI, .int), (cB, .byte), (cL, .long), (cO, .object RX0)] W0 s.heap.size (is1 (some (.int o)) [(a_this, .inr (1, [.ref a_this_lists, .ref a_this_days, .ref a_this_contributors, .ref a_this_points, .int v_this_size])), (a_this_lists, .inr (6, [.ref a_this_lists_cells])), (a_this_lists_cells, .inl (cI, n_this_lists_cells, .inl g_this_lists_cells)), (a_this_days, .inr (6, [.ref a_this_days_cells])), (a_this_days_cells, .inl (cI, n_this_days_cells, .inl g_this_days_cells)), (a_this_points, .inr (6, [.ref a_this_points_cells])), (a_this_points_cells, .inl (cI, n_this_points_cells, .inl g_this_points_cells))])) args s 0 0 (va_A W0 s.heap.size)) 0 0 5 [(0, .ref a_this), (1, .int x1), (2, .int x2), (3, .int x3), (4, .int x4)] [] [(a_this, .inr (1, [.ref a_this_lists, .ref a_this_days, .ref a_this_contributors, .ref a_this_points, .int v_this_size])), (a_this_lists, .inr (6, [.ref a_this_lists_cells])), (a_this_lists_cells, .inl (cI, n_this_lists_cells, .inl g_this_lists_cells)), (a_this_days, .inr (6, [.ref a_this_days_cells])), (a_this_days_cells, .inl (cI, n_this_days_cells, .inl g_this_days_cells)), (a_this_points, .inr (6, [.ref a_this_points_cells])), (a_this_points_cells, .inl (cI, n_this_points_cells, .inl g_this_points_cells))] := by
  intro n
  induction n with
  | zero =>
    intro _ _ h
    rw [f_X1_sumUntil_b5] at h
    cases h
  | succ n ih =>
    intro x3 x4 h
    rw [f_X1_sumUntil_b5] at h
    refine J_iload (pc := 5) C dX1_sumUntil_5 4 rfl ?_
    refine J_aload_n (pc := 7) C dX1_sumUntil_7 0 rfl ?_
    refine J_get (pc := 8) C dX1_sumUntil_8 jf_X1 0 rfl rfl 4 (by decide) rfl fl_RX1_29 rfl ?_
    refine J_ic_ge (pc := 11) (tgt := 55) C dX1_sumUntil_11 (by decide) h (fun h => ?_) (fun h => ?_)
    · refine J_iload_n (pc := 55) C dX1_sumUntil_55 3 rfl ?_
      cases h
      exact J_iret (pc := 56) C dX1_sumUntil_56 hr ⟨rfl, rfl⟩
    · refine J_aload_n (pc := 14) C dX1_sumUntil_14 0 rfl ?_
      refine J_iload (pc := 15) C dX1_sumUntil_15 4 rfl ?_
      refine J_iload_n (pc := 17) C dX1_sumUntil_17 1 rfl ?_
      refine J_cvr (pc := 18) (As := [.int x4, .int x1]) (st := []) C dX1_sumUntil_18 ml_RX1_41 mi_yX1_isIn (fun r18 hr => c_X1_isIn l D cI cB cL cO pf 0 a_this a_this_lists a_this_days a_this_contributors a_this_points a_this_lists_cells n_this_lists_cells v_this_size g_this_lists_cells x4 x1 r18 hr) h [0, 1, 2] rfl rfl rfl rfl rfl ⟨rfl, rfl⟩ ⟨(Nat.le_of_ble_eq_true rfl), (Nat.le_of_ble_eq_true rfl)⟩ ⟨Nat.zero_le _, Nat.zero_le _⟩ (Nat.le_of_ble_eq_true rfl) (fun r18 h => ?_)
      refine J_if_eq (pc := 21) (tgt := 49) C dX1_sumUntil_21 (by decide) h (fun h => ?_) (fun h => ?_)
      · refine J_iincN (pc := 49) (v := (1 : Int32)) C (fun y49 => [(4, .int y49), (0, .ref a_this), (1, .int x1), (2, .int x2), (3, .int x3)]) dX1_sumUntil_49 4 rfl (by decide) h (by decide) (fun _ => rfl) (fun y49 h => ?_)
        refine J_goto (tgt := 5) (pc := 52) C dX1_sumUntil_52 (by decide) ?_
        refine J_sub (lv2 := [(0, .ref a_this), (1, .int x1), (2, .int x2), (3, .int x3), (4, .int y49)]) [1, 2, 3, 4, 0] rfl ?_
        exact ih _ _ h
      · refine J_aload_n (pc := 24) C dX1_sumUntil_24 0 rfl ?_
        refine J_get (pc := 25) C dX1_sumUntil_25 jf_X1 0 rfl rfl 1 (by decide) rfl fl_RX1_20 rfl ?_
        refine J_iload (pc := 28) C dX1_sumUntil_28 4 rfl ?_
        refine J_cvr (pc := 30) (As := [.int x4]) (st := []) C dX1_sumUntil_30 ml_RX1_37 mi_yX6_at (fun r30 hr => c_X6_at l D cI cB cL cO pf 0 a_this_days a_this_days_cells n_this_days_cells g_this_days_cells x4 r30 hr) h [3, 4] rfl rfl rfl rfl rfl ⟨rfl, rfl⟩ ⟨(Nat.le_of_ble_eq_true rfl), (Nat.le_of_ble_eq_true rfl)⟩ ⟨Nat.zero_le _, Nat.zero_le _⟩ (Nat.le_of_ble_eq_true rfl) (fun r30 h => ?_)
        refine J_iload_n (pc := 33) C dX1_sumUntil_33 2 rfl ?_
        refine J_ic_gt (pc := 34) (tgt := 49) C dX1_sumUntil_34 (by decide) h (fun h => ?_) (fun h => ?_)
        · refine J_iincN (pc := 49) (v := (1 : Int32)) C (fun y49 => [(4, .int y49), (0, .ref a_this), (1, .int x1), (2, .int x2), (3, .int x3)]) dX1_sumUntil_49 4 rfl (by decide) h (by decide) (fun _ => rfl) (fun y49 h => ?_)
          refine J_goto (tgt := 5) (pc := 52) C dX1_sumUntil_52 (by decide) ?_
          refine J_sub (lv2 := [(0, .ref a_this), (1, .int x1), (2, .int x2), (3, .int x3), (4, .int y49)]) [1, 2, 3, 4, 0] rfl ?_
          exact ih _ _ h
        · refine J_iload_n (pc := 37) C dX1_sumUntil_37 3 rfl ?_
          refine J_aload_n (pc := 38) C dX1_sumUntil_38 0 rfl ?_
          refine J_get (pc := 39) C dX1_sumUntil_39 jf_X1 0 rfl rfl 3 (by decide) rfl fl_RX1_26 rfl ?_
          refine J_iload (pc := 42) C dX1_sumUntil_42 4 rfl ?_
          refine J_cvr (pc := 44) (As := [.int x4]) (st := [.int x3]) C dX1_sumUntil_44 ml_RX1_37 mi_yX6_at (fun r44 hr => c_X6_at l D cI cB cL cO pf 0 a_this_points a_this_points_cells n_this_points_cells g_this_points_cells x4 r44 hr) h [5, 6] rfl rfl rfl rfl rfl ⟨rfl, rfl⟩ ⟨(Nat.le_of_ble_eq_true rfl), (Nat.le_of_ble_eq_true rfl)⟩ ⟨Nat.zero_le _, Nat.zero_le _⟩ (Nat.le_of_ble_eq_true rfl) (fun r44 h => ?_)
          refine J_iadd (pc := 47) C dX1_sumUntil_47 ?_
          refine J_istore_nN (pc := 48) C (fun y48 => [(3, .int y48), (0, .ref a_this), (1, .int x1), (2, .int x2), (4, .int x4)]) dX1_sumUntil_48 h (by decide) (fun _ => rfl) (fun y48 h => ?_)
          refine J_iincN (pc := 49) (v := (1 : Int32)) C (fun y49 => [(4, .int y49), (3, .int y48), (0, .ref a_this), (1, .int x1), (2, .int x2)]) dX1_sumUntil_49 4 rfl (by decide) h (by decide) (fun _ => rfl) (fun y49 h => ?_)
          refine J_goto (tgt := 5) (pc := 52) C dX1_sumUntil_52 (by decide) ?_
          refine J_sub (lv2 := [(0, .ref a_this), (1, .int x1), (2, .int x2), (3, .int y48), (4, .int y49)]) [2, 3, 4, 1, 0] rfl ?_
          exact ih _ _ h
set_option maxHeartbeats 4000000 in
set_option maxRecDepth 100000 in
theorem c_X1_sumUntil (l : Launch) (D : va_G) (cI cB cL cO : ClassId) (pf : Nat → Nat) (N : Nat) (a_this a_this_lists a_this_days a_this_contributors a_this_points a_this_lists_cells a_this_days_cells a_this_points_cells : Nat) (n_this_lists_cells : Nat) (n_this_days_cells : Nat) (n_this_points_cells : Nat) (v_this_size : Int32) (g_this_lists_cells : Nat → Int32) (g_this_days_cells : Nat → Int32) (g_this_points_cells : Nat → Int32) (x1 : Int32) (x2 : Int32) (o : Int32) (h : f_X1_sumUntil N x1 x2 n_this_lists_cells n_this_days_cells n_this_points_cells v_this_size g_this_lists_cells g_this_days_cells g_this_points_cells = some o) : Ct l D [(cI, .int), (cB, .byte), (cL, .long), (cO, .object RX0)] pf yX1_sumUntil cX1_sumUntil 5 (some FieldType.int) { frames := 2, cells := 0, slots := 0, locals := 43 } [.ref a_this, .int x1, .int x2] [(a_this, .inr (1, [.ref a_this_lists, .ref a_this_days, .ref a_this_contributors, .ref a_this_points, .int v_this_size])), (a_this_lists, .inr (6, [.ref a_this_lists_cells])), (a_this_lists_cells, .inl (cI, n_this_lists_cells, .inl g_this_lists_cells)), (a_this_days, .inr (6, [.ref a_this_days_cells])), (a_this_days_cells, .inl (cI, n_this_days_cells, .inl g_this_days_cells)), (a_this_points, .inr (6, [.ref a_this_points_cells])), (a_this_points_cells, .inl (cI, n_this_points_cells, .inl g_this_points_cells))] (is1 (some (.int o)) [(a_this, .inr (1, [.ref a_this_lists, .ref a_this_days, .ref a_this_contributors, .ref a_this_points, .int v_this_size])), (a_this_lists, .inr (6, [.ref a_this_lists_cells])), (a_this_lists_cells, .inl (cI, n_this_lists_cells, .inl g_this_lists_cells)), (a_this_days, .inr (6, [.ref a_this_days_cells])), (a_this_days_cells, .inl (cI, n_this_days_cells, .inl g_this_days_cells)), (a_this_points, .inr (6, [.ref a_this_points_cells])), (a_this_points_cells, .inl (cI, n_this_points_cells, .inl g_this_points_cells))]) := by
  refine Ct_of (own := RX1) (lv0 := [(0, .ref a_this), (1, .int x1), (2, .int x2)]) (by decide) rfl rfl (Nat.le_of_ble_eq_true rfl) ?_
  intro p e s m args below meth c C hr hnm
  unfold f_X1_sumUntil at h
  refine J_iconst (v := (0 : Int32)) (pc := 0) C dX1_sumUntil_0 (by decide) ?_
  refine J_istore_n (lv2 := [(3, .int (0 : Int32)), (0, .ref a_this), (1, .int x1), (2, .int x2)]) (pc := 1) C dX1_sumUntil_1 (by decide) rfl ?_
  refine J_iconst (v := (0 : Int32)) (pc := 2) C dX1_sumUntil_2 (by decide) ?_
  refine J_istore (lv2 := [(4, .int (0 : Int32)), (3, .int (0 : Int32)), (0, .ref a_this), (1, .int x1), (2, .int x2)]) (pc := 3) C dX1_sumUntil_3 (by decide) rfl ?_
  refine J_sub (lv2 := [(0, .ref a_this), (1, .int x1), (2, .int x2), (3, .int (0 : Int32)), (4, .int (0 : Int32))]) [2, 3, 4, 1, 0] rfl ?_
  exact t_X1_sumUntil_b5 C hr N _ _ h
-- PointsLedger$InputBuffer.length()I
theorem dX3_length_0 : decode cX3_length 0 = .ok (.aload_n 0, 1) := by decide +kernel
theorem dX3_length_1 : decode cX3_length 1 = .ok (.getfield 15, 3) := by decide +kernel
theorem dX3_length_4 : decode cX3_length 4 = .ok (.ireturn, 1) := by decide +kernel
def f_X3_length (v_this_length : Int32) : Option (Int32) :=
  (some v_this_length)
set_option maxHeartbeats 4000000 in
set_option maxRecDepth 100000 in
theorem c_X3_length (l : Launch) (D : va_G) (cI cB cL cO : ClassId) (pf : Nat → Nat) (N : Nat) (a_this a_this_bytes : Nat) (v_this_length : Int32) (o : Int32) (h : f_X3_length v_this_length = some o) : Ct l D [(cI, .int), (cB, .byte), (cL, .long), (cO, .object RX0)] pf yX3_length cX3_length 1 (some FieldType.int) { frames := 0, cells := 0, slots := 0, locals := 0 } [.ref a_this] [(a_this, .inr (3, [.ref a_this_bytes, .int v_this_length]))] (is1 (some (.int o)) [(a_this, .inr (3, [.ref a_this_bytes, .int v_this_length]))]) := by
  refine Ct_of (own := RX3) (lv0 := [(0, .ref a_this)]) (by decide) rfl rfl (Nat.le_of_ble_eq_true rfl) ?_
  intro p e s m args below meth c C hr hnm
  unfold f_X3_length at h
  refine J_aload_n (pc := 0) C dX3_length_0 0 rfl ?_
  refine J_get (pc := 1) C dX3_length_1 jf_X3 0 rfl rfl 1 (by decide) rfl fl_RX3_15 rfl ?_
  cases h
  exact J_iret (pc := 4) C dX3_length_4 hr ⟨rfl, rfl⟩
-- PointsLedger$InputBuffer.byteAt(I)I
theorem dX3_byteAt_0 : decode cX3_byteAt 0 = .ok (.iload_n 1, 1) := by decide +kernel
theorem dX3_byteAt_1 : decode cX3_byteAt 1 = .ok (.ifCond .lt 29, 3) := by decide +kernel
theorem dX3_byteAt_4 : decode cX3_byteAt 4 = .ok (.iload_n 1, 1) := by decide +kernel
theorem dX3_byteAt_5 : decode cX3_byteAt 5 = .ok (.aload_n 0, 1) := by decide +kernel
theorem dX3_byteAt_6 : decode cX3_byteAt 6 = .ok (.getfield 15, 3) := by decide +kernel
theorem dX3_byteAt_9 : decode cX3_byteAt 9 = .ok (.if_icmp .ge 21, 3) := by decide +kernel
theorem dX3_byteAt_12 : decode cX3_byteAt 12 = .ok (.iload_n 1, 1) := by decide +kernel
theorem dX3_byteAt_13 : decode cX3_byteAt 13 = .ok (.aload_n 0, 1) := by decide +kernel
theorem dX3_byteAt_14 : decode cX3_byteAt 14 = .ok (.getfield 9, 3) := by decide +kernel
theorem dX3_byteAt_17 : decode cX3_byteAt 17 = .ok (.arraylength, 1) := by decide +kernel
theorem dX3_byteAt_18 : decode cX3_byteAt 18 = .ok (.if_icmp .ge 12, 3) := by decide +kernel
theorem dX3_byteAt_21 : decode cX3_byteAt 21 = .ok (.aload_n 0, 1) := by decide +kernel
theorem dX3_byteAt_22 : decode cX3_byteAt 22 = .ok (.getfield 9, 3) := by decide +kernel
theorem dX3_byteAt_25 : decode cX3_byteAt 25 = .ok (.iload_n 1, 1) := by decide +kernel
theorem dX3_byteAt_26 : decode cX3_byteAt 26 = .ok (.iaload, 1) := by decide +kernel
theorem dX3_byteAt_27 : decode cX3_byteAt 27 = .ok (.goto 4, 3) := by decide +kernel
theorem dX3_byteAt_30 : decode cX3_byteAt 30 = .ok (.iconst 0, 1) := by decide +kernel
theorem dX3_byteAt_31 : decode cX3_byteAt 31 = .ok (.ireturn, 1) := by decide +kernel
def f_X3_byteAt (x1 : Int32) (n_this_bytes : Nat) (v_this_length : Int32) (g_this_bytes : Nat → Int32) : Option (Int32) :=
  (if x1 < 0 then (some (0 : Int32)) else (if v_this_length ≤ x1 then (some (0 : Int32)) else (if (nI n_this_bytes) ≤ x1 then (some (0 : Int32)) else (if x1 < 0 ∨ n_this_bytes ≤ x1.toNatClampNeg then none else (some (g_this_bytes x1.toNatClampNeg))))))
set_option maxHeartbeats 4000000 in
set_option maxRecDepth 100000 in
theorem c_X3_byteAt (l : Launch) (D : va_G) (cI cB cL cO : ClassId) (pf : Nat → Nat) (N : Nat) (a_this a_this_bytes : Nat) (n_this_bytes : Nat) (v_this_length : Int32) (g_this_bytes : Nat → Int32) (x1 : Int32) (o : Int32) (h : f_X3_byteAt x1 n_this_bytes v_this_length g_this_bytes = some o) : Ct l D [(cI, .int), (cB, .byte), (cL, .long), (cO, .object RX0)] pf yX3_byteAt cX3_byteAt 2 (some FieldType.int) { frames := 0, cells := 0, slots := 0, locals := 0 } [.ref a_this, .int x1] [(a_this, .inr (3, [.ref a_this_bytes, .int v_this_length])), (a_this_bytes, .inl (cI, n_this_bytes, .inl g_this_bytes))] (is1 (some (.int o)) [(a_this, .inr (3, [.ref a_this_bytes, .int v_this_length])), (a_this_bytes, .inl (cI, n_this_bytes, .inl g_this_bytes))]) := by
  refine Ct_of (own := RX3) (lv0 := [(0, .ref a_this), (1, .int x1)]) (by decide) rfl rfl (Nat.le_of_ble_eq_true rfl) ?_
  intro p e s m args below meth c C hr hnm
  unfold f_X3_byteAt at h
  refine J_iload_n (pc := 0) C dX3_byteAt_0 1 rfl ?_
  refine J_if_lt (pc := 1) (tgt := 30) C dX3_byteAt_1 (by decide) h (fun h => ?_) (fun h => ?_)
  · refine J_iconst (v := (0 : Int32)) (pc := 30) C dX3_byteAt_30 (by decide) ?_
    cases h
    exact J_iret (pc := 31) C dX3_byteAt_31 hr ⟨rfl, rfl⟩
  · refine J_iload_n (pc := 4) C dX3_byteAt_4 1 rfl ?_
    refine J_aload_n (pc := 5) C dX3_byteAt_5 0 rfl ?_
    refine J_get (pc := 6) C dX3_byteAt_6 jf_X3 0 rfl rfl 1 (by decide) rfl fl_RX3_15 rfl ?_
    refine J_ic_ge (pc := 9) (tgt := 30) C dX3_byteAt_9 (by decide) h (fun h => ?_) (fun h => ?_)
    · refine J_iconst (v := (0 : Int32)) (pc := 30) C dX3_byteAt_30 (by decide) ?_
      cases h
      exact J_iret (pc := 31) C dX3_byteAt_31 hr ⟨rfl, rfl⟩
    · refine J_iload_n (pc := 12) C dX3_byteAt_12 1 rfl ?_
      refine J_aload_n (pc := 13) C dX3_byteAt_13 0 rfl ?_
      refine J_get (pc := 14) C dX3_byteAt_14 jf_X3 0 rfl rfl 0 (by decide) rfl fl_RX3_9 rfl ?_
      refine J_alen (pc := 17) C dX3_byteAt_17 1 0 rfl rfl ?_
      refine J_ic_ge (pc := 18) (tgt := 30) C dX3_byteAt_18 (by decide) h (fun h => ?_) (fun h => ?_)
      · refine J_iconst (v := (0 : Int32)) (pc := 30) C dX3_byteAt_30 (by decide) ?_
        cases h
        exact J_iret (pc := 31) C dX3_byteAt_31 hr ⟨rfl, rfl⟩
      · refine J_aload_n (pc := 21) C dX3_byteAt_21 0 rfl ?_
        refine J_get (pc := 22) C dX3_byteAt_22 jf_X3 0 rfl rfl 0 (by decide) rfl fl_RX3_9 rfl ?_
        refine J_iload_n (pc := 25) C dX3_byteAt_25 1 rfl ?_
        refine J_iald (pc := 26) C dX3_byteAt_26 1 0 rfl rfl h (fun h => ?_)
        refine J_goto (tgt := 31) (pc := 27) C dX3_byteAt_27 (by decide) ?_
        cases h
        exact J_iret (pc := 31) C dX3_byteAt_31 hr ⟨rfl, rfl⟩
-- PointsLedger$InputBuffer.bytesIn(I)I
theorem dX3_bytesIn_0 : decode cX3_bytesIn 0 = .ok (.iconst 0, 1) := by decide +kernel
theorem dX3_bytesIn_1 : decode cX3_bytesIn 1 = .ok (.istore_n 1, 1) := by decide +kernel
theorem dX3_bytesIn_2 : decode cX3_bytesIn 2 = .ok (.bipush 24, 2) := by decide +kernel
theorem dX3_bytesIn_4 : decode cX3_bytesIn 4 = .ok (.istore_n 2, 1) := by decide +kernel
theorem dX3_bytesIn_5 : decode cX3_bytesIn 5 = .ok (.iload_n 2, 1) := by decide +kernel
theorem dX3_bytesIn_6 : decode cX3_bytesIn 6 = .ok (.ifCond .lt 22, 3) := by decide +kernel
theorem dX3_bytesIn_9 : decode cX3_bytesIn 9 = .ok (.iload_n 0, 1) := by decide +kernel
theorem dX3_bytesIn_10 : decode cX3_bytesIn 10 = .ok (.iload_n 2, 1) := by decide +kernel
theorem dX3_bytesIn_11 : decode cX3_bytesIn 11 = .ok (.iushr, 1) := by decide +kernel
theorem dX3_bytesIn_12 : decode cX3_bytesIn 12 = .ok (.sipush 255, 3) := by decide +kernel
theorem dX3_bytesIn_15 : decode cX3_bytesIn 15 = .ok (.iand, 1) := by decide +kernel
theorem dX3_bytesIn_16 : decode cX3_bytesIn 16 = .ok (.ifCond .eq 6, 3) := by decide +kernel
theorem dX3_bytesIn_19 : decode cX3_bytesIn 19 = .ok (.iinc 1 1, 3) := by decide +kernel
theorem dX3_bytesIn_22 : decode cX3_bytesIn 22 = .ok (.iinc 2 (-8), 3) := by decide +kernel
theorem dX3_bytesIn_25 : decode cX3_bytesIn 25 = .ok (.goto (-20), 3) := by decide +kernel
theorem dX3_bytesIn_28 : decode cX3_bytesIn 28 = .ok (.iload_n 1, 1) := by decide +kernel
theorem dX3_bytesIn_29 : decode cX3_bytesIn 29 = .ok (.ireturn, 1) := by decide +kernel
def f_X3_bytesIn_b5 (x0 : Int32) : Nat → (Int32) → (Int32) → Option (Int32)
  | 0, _, _ => none
  | n + 1, x1, x2 => (if x2 < 0 then (some x1) else (if (((x0.toUInt32 >>> (x2.toUInt32 &&& Int32.toUInt32 31)).toInt32) &&& (255 : Int32)) = 0 then ((some (x2 + (-8 : Int32))).bind fun y22 => (f_X3_bytesIn_b5 x0 n x1 y22)) else ((some (x1 + (1 : Int32))).bind fun y19 => ((some (x2 + (-8 : Int32))).bind fun y22 => (f_X3_bytesIn_b5 x0 n y19 y22)))))
def f_X3_bytesIn (N : Nat) (x0 : Int32) : Option (Int32) :=
  (f_X3_bytesIn_b5 x0 N (0 : Int32) (24 : Int32))
set_option maxHeartbeats 4000000 in
set_option maxRecDepth 100000 in
theorem t_X3_bytesIn_b5 {l : Launch} {D : va_G} {cI cB cL cO : ClassId} {pf : Nat → Nat} {p : Program} {e : Env} {s : State} {m : MethodId} {args : Array Value} {below : List Frame} {meth : Method} {c : Code} {W0 : va_W}  {x0 : Int32} {o : Int32} (C : jC p s m args meth c cX3_bytesIn 3 RX3 D [(cI, .int), (cB, .byte), (cL, .long), (cO, .object RX0)] pf (va_A W0 s.heap.size)) (hr : meth.sig.returnType = (some FieldType.int)) : ∀ (n : Nat) (x1 : Int32) (x2 : Int32), f_X3_bytesIn_b5 x0 n x1 x2 = some o → J p l e { frames := 0, cells := 0, slots := 0, locals := 0 } s m args below meth c 3 D (va_A W0 s.heap.size) (MQ below (jQ D [(cI, .int), (cB, .byte), (cL, .long), (cO, .object RX0)] W0 s.heap.size (is1 (some (.int o)) [])) args s 0 0 (va_A W0 s.heap.size)) 0 0 5 [(0, .int x0), (1, .int x1), (2, .int x2)] [] [] := by
  intro n
  induction n with
  | zero =>
    intro _ _ h
    rw [f_X3_bytesIn_b5] at h
    cases h
  | succ n ih =>
    intro x1 x2 h
    rw [f_X3_bytesIn_b5] at h
    refine J_iload_n (pc := 5) C dX3_bytesIn_5 2 rfl ?_
    refine J_if_lt (pc := 6) (tgt := 28) C dX3_bytesIn_6 (by decide) h (fun h => ?_) (fun h => ?_)
    · refine J_iload_n (pc := 28) C dX3_bytesIn_28 1 rfl ?_
      cases h
      exact J_iret (pc := 29) C dX3_bytesIn_29 hr ⟨rfl, rfl⟩
    · refine J_iload_n (pc := 9) C dX3_bytesIn_9 0 rfl ?_
      refine J_iload_n (pc := 10) C dX3_bytesIn_10 2 rfl ?_
      refine J_iushr (pc := 11) C dX3_bytesIn_11 ?_
      refine J_sipush (v := (255 : Int32)) (pc := 12) C dX3_bytesIn_12 (by decide) ?_
      refine J_iand (pc := 15) C dX3_bytesIn_15 ?_
      refine J_if_eq (pc := 16) (tgt := 22) C dX3_bytesIn_16 (by decide) h (fun h => ?_) (fun h => ?_)
      · refine J_iincN (pc := 22) (v := (-8 : Int32)) C (fun y22 => [(2, .int y22), (0, .int x0), (1, .int x1)]) dX3_bytesIn_22 2 rfl (by decide) h (by decide) (fun _ => rfl) (fun y22 h => ?_)
        refine J_goto (tgt := 5) (pc := 25) C dX3_bytesIn_25 (by decide) ?_
        refine J_sub (lv2 := [(0, .int x0), (1, .int x1), (2, .int y22)]) [1, 2, 0] rfl ?_
        exact ih _ _ h
      · refine J_iincN (pc := 19) (v := (1 : Int32)) C (fun y19 => [(1, .int y19), (0, .int x0), (2, .int x2)]) dX3_bytesIn_19 1 rfl (by decide) h (by decide) (fun _ => rfl) (fun y19 h => ?_)
        refine J_iincN (pc := 22) (v := (-8 : Int32)) C (fun y22 => [(2, .int y22), (1, .int y19), (0, .int x0)]) dX3_bytesIn_22 2 rfl (by decide) h (by decide) (fun _ => rfl) (fun y22 h => ?_)
        refine J_goto (tgt := 5) (pc := 25) C dX3_bytesIn_25 (by decide) ?_
        refine J_sub (lv2 := [(0, .int x0), (1, .int y19), (2, .int y22)]) [2, 1, 0] rfl ?_
        exact ih _ _ h
set_option maxHeartbeats 4000000 in
set_option maxRecDepth 100000 in
theorem c_X3_bytesIn (l : Launch) (D : va_G) (cI cB cL cO : ClassId) (pf : Nat → Nat) (N : Nat) (x0 : Int32) (o : Int32) (h : f_X3_bytesIn N x0 = some o) : Ct l D [(cI, .int), (cB, .byte), (cL, .long), (cO, .object RX0)] pf yX3_bytesIn cX3_bytesIn 3 (some FieldType.int) { frames := 0, cells := 0, slots := 0, locals := 0 } [.int x0] [] (is1 (some (.int o)) []) := by
  refine Ct_of (own := RX3) (lv0 := [(0, .int x0)]) (by decide) rfl rfl (Nat.le_of_ble_eq_true rfl) ?_
  intro p e s m args below meth c C hr hnm
  unfold f_X3_bytesIn at h
  refine J_iconst (v := (0 : Int32)) (pc := 0) C dX3_bytesIn_0 (by decide) ?_
  refine J_istore_n (lv2 := [(1, .int (0 : Int32)), (0, .int x0)]) (pc := 1) C dX3_bytesIn_1 (by decide) rfl ?_
  refine J_bipush (v := (24 : Int32)) (pc := 2) C dX3_bytesIn_2 (by decide) ?_
  refine J_istore_n (lv2 := [(2, .int (24 : Int32)), (1, .int (0 : Int32)), (0, .int x0)]) (pc := 4) C dX3_bytesIn_4 (by decide) rfl ?_
  refine J_sub (lv2 := [(0, .int x0), (1, .int (0 : Int32)), (2, .int (24 : Int32))]) [2, 1, 0] rfl ?_
  exact t_X3_bytesIn_b5 C hr N _ _ h
-- PointsLedger$InputBuffer.addBytes(I)V
theorem dX3_addBytes_0 : decode cX3_addBytes 0 = .ok (.bipush 24, 2) := by decide +kernel
theorem dX3_addBytes_2 : decode cX3_addBytes 2 = .ok (.istore_n 2, 1) := by decide +kernel
theorem dX3_addBytes_3 : decode cX3_addBytes 3 = .ok (.iload_n 2, 1) := by decide +kernel
theorem dX3_addBytes_4 : decode cX3_addBytes 4 = .ok (.ifCond .lt 60, 3) := by decide +kernel
theorem dX3_addBytes_7 : decode cX3_addBytes 7 = .ok (.iload_n 1, 1) := by decide +kernel
theorem dX3_addBytes_8 : decode cX3_addBytes 8 = .ok (.iload_n 2, 1) := by decide +kernel
theorem dX3_addBytes_9 : decode cX3_addBytes 9 = .ok (.iushr, 1) := by decide +kernel
theorem dX3_addBytes_10 : decode cX3_addBytes 10 = .ok (.sipush 255, 3) := by decide +kernel
theorem dX3_addBytes_13 : decode cX3_addBytes 13 = .ok (.iand, 1) := by decide +kernel
theorem dX3_addBytes_14 : decode cX3_addBytes 14 = .ok (.istore_n 3, 1) := by decide +kernel
theorem dX3_addBytes_15 : decode cX3_addBytes 15 = .ok (.iload_n 3, 1) := by decide +kernel
theorem dX3_addBytes_16 : decode cX3_addBytes 16 = .ok (.ifCond .eq 42, 3) := by decide +kernel
theorem dX3_addBytes_19 : decode cX3_addBytes 19 = .ok (.aload_n 0, 1) := by decide +kernel
theorem dX3_addBytes_20 : decode cX3_addBytes 20 = .ok (.getfield 15, 3) := by decide +kernel
theorem dX3_addBytes_23 : decode cX3_addBytes 23 = .ok (.ifCond .lt 35, 3) := by decide +kernel
theorem dX3_addBytes_26 : decode cX3_addBytes 26 = .ok (.aload_n 0, 1) := by decide +kernel
theorem dX3_addBytes_27 : decode cX3_addBytes 27 = .ok (.getfield 15, 3) := by decide +kernel
theorem dX3_addBytes_30 : decode cX3_addBytes 30 = .ok (.aload_n 0, 1) := by decide +kernel
theorem dX3_addBytes_31 : decode cX3_addBytes 31 = .ok (.getfield 9, 3) := by decide +kernel
theorem dX3_addBytes_34 : decode cX3_addBytes 34 = .ok (.arraylength, 1) := by decide +kernel
theorem dX3_addBytes_35 : decode cX3_addBytes 35 = .ok (.if_icmp .ge 23, 3) := by decide +kernel
theorem dX3_addBytes_38 : decode cX3_addBytes 38 = .ok (.aload_n 0, 1) := by decide +kernel
theorem dX3_addBytes_39 : decode cX3_addBytes 39 = .ok (.getfield 9, 3) := by decide +kernel
theorem dX3_addBytes_42 : decode cX3_addBytes 42 = .ok (.aload_n 0, 1) := by decide +kernel
theorem dX3_addBytes_43 : decode cX3_addBytes 43 = .ok (.getfield 15, 3) := by decide +kernel
theorem dX3_addBytes_46 : decode cX3_addBytes 46 = .ok (.iload_n 3, 1) := by decide +kernel
theorem dX3_addBytes_47 : decode cX3_addBytes 47 = .ok (.iastore, 1) := by decide +kernel
theorem dX3_addBytes_48 : decode cX3_addBytes 48 = .ok (.aload_n 0, 1) := by decide +kernel
theorem dX3_addBytes_49 : decode cX3_addBytes 49 = .ok (.dup, 1) := by decide +kernel
theorem dX3_addBytes_50 : decode cX3_addBytes 50 = .ok (.getfield 15, 3) := by decide +kernel
theorem dX3_addBytes_53 : decode cX3_addBytes 53 = .ok (.iconst 1, 1) := by decide +kernel
theorem dX3_addBytes_54 : decode cX3_addBytes 54 = .ok (.iadd, 1) := by decide +kernel
theorem dX3_addBytes_55 : decode cX3_addBytes 55 = .ok (.putfield 15, 3) := by decide +kernel
theorem dX3_addBytes_58 : decode cX3_addBytes 58 = .ok (.iinc 2 (-8), 3) := by decide +kernel
theorem dX3_addBytes_61 : decode cX3_addBytes 61 = .ok (.goto (-58), 3) := by decide +kernel
theorem dX3_addBytes_64 : decode cX3_addBytes 64 = .ok (.return_, 1) := by decide +kernel
def f_X3_addBytes_b3 (x1 : Int32) (n_this_bytes : Nat) : Nat → (Int32) → (Int32) → (Nat → Int32) → Option (Int32 × (Nat → Int32))
  | 0, _, _, _ => none
  | n + 1, x2, v_this_length, g_this_bytes => (if x2 < 0 then (some (v_this_length, g_this_bytes)) else ((some (((x1.toUInt32 >>> (x2.toUInt32 &&& Int32.toUInt32 31)).toInt32) &&& (255 : Int32))).bind fun y14 => (if y14 = 0 then ((some (x2 + (-8 : Int32))).bind fun y58 => (f_X3_addBytes_b3 x1 n_this_bytes n y58 v_this_length g_this_bytes)) else (if v_this_length < 0 then ((some (x2 + (-8 : Int32))).bind fun y58 => (f_X3_addBytes_b3 x1 n_this_bytes n y58 v_this_length g_this_bytes)) else (if (nI n_this_bytes) ≤ v_this_length then ((some (x2 + (-8 : Int32))).bind fun y58 => (f_X3_addBytes_b3 x1 n_this_bytes n y58 v_this_length g_this_bytes)) else (if v_this_length < 0 ∨ n_this_bytes ≤ v_this_length.toNatClampNeg then none else ((some (upd g_this_bytes v_this_length.toNatClampNeg y14)).bind fun h47 => ((some (x2 + (-8 : Int32))).bind fun y58 => (f_X3_addBytes_b3 x1 n_this_bytes n y58 (v_this_length + (1 : Int32)) h47)))))))))
def f_X3_addBytes (N : Nat) (x1 : Int32) (n_this_bytes : Nat) (v_this_length : Int32) (g_this_bytes : Nat → Int32) : Option (Int32 × (Nat → Int32)) :=
  (f_X3_addBytes_b3 x1 n_this_bytes N (24 : Int32) v_this_length g_this_bytes)
set_option maxHeartbeats 4000000 in
set_option maxRecDepth 100000 in
theorem t_X3_addBytes_b3 {l : Launch} {D : va_G} {cI cB cL cO : ClassId} {pf : Nat → Nat} {p : Program} {e : Env} {s : State} {m : MethodId} {args : Array Value} {below : List Frame} {meth : Method} {c : Code} {W0 : va_W} {a_this a_this_bytes : Nat}  {n_this_bytes : Nat} {x1 : Int32} {o : Int32 × (Nat → Int32)} (C : jC p s m args meth c cX3_addBytes 4 RX3 D [(cI, .int), (cB, .byte), (cL, .long), (cO, .object RX0)] pf (va_A W0 s.heap.size)) (hr : meth.sig.returnType = (none : Option FieldType)) : ∀ (n : Nat) (x2 : Int32) (v_this_length : Int32) (g_this_bytes : Nat → Int32), f_X3_addBytes_b3 x1 n_this_bytes n x2 v_this_length g_this_bytes = some o → J p l e { frames := 0, cells := 0, slots := 0, locals := 0 } s m args below meth c 4 D (va_A W0 s.heap.size) (MQ below (jQ D [(cI, .int), (cB, .byte), (cL, .long), (cO, .object RX0)] W0 s.heap.size (is1 (none) [(a_this, .inr (3, [.ref a_this_bytes, .int o.1])), (a_this_bytes, .inl (cI, n_this_bytes, .inl o.2))])) args s 0 0 (va_A W0 s.heap.size)) 0 0 3 [(0, .ref a_this), (1, .int x1), (2, .int x2)] [] [(a_this, .inr (3, [.ref a_this_bytes, .int v_this_length])), (a_this_bytes, .inl (cI, n_this_bytes, .inl g_this_bytes))] := by
  intro n
  induction n with
  | zero =>
    intro _ _ _ h
    rw [f_X3_addBytes_b3] at h
    cases h
  | succ n ih =>
    intro x2 v_this_length g_this_bytes h
    rw [f_X3_addBytes_b3] at h
    refine J_iload_n (pc := 3) C dX3_addBytes_3 2 rfl ?_
    refine J_if_lt (pc := 4) (tgt := 64) C dX3_addBytes_4 (by decide) h (fun h => ?_) (fun h => ?_)
    · cases h
      exact J_vret (pc := 64) C dX3_addBytes_64 hr ⟨rfl, rfl⟩
    · refine J_iload_n (pc := 7) C dX3_addBytes_7 1 rfl ?_
      refine J_iload_n (pc := 8) C dX3_addBytes_8 2 rfl ?_
      refine J_iushr (pc := 9) C dX3_addBytes_9 ?_
      refine J_sipush (v := (255 : Int32)) (pc := 10) C dX3_addBytes_10 (by decide) ?_
      refine J_iand (pc := 13) C dX3_addBytes_13 ?_
      refine J_istore_nN (pc := 14) C (fun y14 => [(3, .int y14), (0, .ref a_this), (1, .int x1), (2, .int x2)]) dX3_addBytes_14 h (by decide) (fun _ => rfl) (fun y14 h => ?_)
      refine J_iload_n (pc := 15) C dX3_addBytes_15 0 rfl ?_
      refine J_if_eq (pc := 16) (tgt := 58) C dX3_addBytes_16 (by decide) h (fun h => ?_) (fun h => ?_)
      · refine J_iincN (pc := 58) (v := (-8 : Int32)) C (fun y58 => [(2, .int y58), (3, .int y14), (0, .ref a_this), (1, .int x1)]) dX3_addBytes_58 3 rfl (by decide) h (by decide) (fun _ => rfl) (fun y58 h => ?_)
        refine J_goto (tgt := 3) (pc := 61) C dX3_addBytes_61 (by decide) ?_
        refine J_sub (lv2 := [(0, .ref a_this), (1, .int x1), (2, .int y58)]) [2, 3, 0] rfl ?_
        exact ih _ _ _ h
      · refine J_aload_n (pc := 19) C dX3_addBytes_19 1 rfl ?_
        refine J_get (pc := 20) C dX3_addBytes_20 jf_X3 0 rfl rfl 1 (by decide) rfl fl_RX3_15 rfl ?_
        refine J_if_lt (pc := 23) (tgt := 58) C dX3_addBytes_23 (by decide) h (fun h => ?_) (fun h => ?_)
        · refine J_iincN (pc := 58) (v := (-8 : Int32)) C (fun y58 => [(2, .int y58), (3, .int y14), (0, .ref a_this), (1, .int x1)]) dX3_addBytes_58 3 rfl (by decide) h (by decide) (fun _ => rfl) (fun y58 h => ?_)
          refine J_goto (tgt := 3) (pc := 61) C dX3_addBytes_61 (by decide) ?_
          refine J_sub (lv2 := [(0, .ref a_this), (1, .int x1), (2, .int y58)]) [2, 3, 0] rfl ?_
          exact ih _ _ _ h
        · refine J_aload_n (pc := 26) C dX3_addBytes_26 1 rfl ?_
          refine J_get (pc := 27) C dX3_addBytes_27 jf_X3 0 rfl rfl 1 (by decide) rfl fl_RX3_15 rfl ?_
          refine J_aload_n (pc := 30) C dX3_addBytes_30 1 rfl ?_
          refine J_get (pc := 31) C dX3_addBytes_31 jf_X3 0 rfl rfl 0 (by decide) rfl fl_RX3_9 rfl ?_
          refine J_alen (pc := 34) C dX3_addBytes_34 1 0 rfl rfl ?_
          refine J_ic_ge (pc := 35) (tgt := 58) C dX3_addBytes_35 (by decide) h (fun h => ?_) (fun h => ?_)
          · refine J_iincN (pc := 58) (v := (-8 : Int32)) C (fun y58 => [(2, .int y58), (3, .int y14), (0, .ref a_this), (1, .int x1)]) dX3_addBytes_58 3 rfl (by decide) h (by decide) (fun _ => rfl) (fun y58 h => ?_)
            refine J_goto (tgt := 3) (pc := 61) C dX3_addBytes_61 (by decide) ?_
            refine J_sub (lv2 := [(0, .ref a_this), (1, .int x1), (2, .int y58)]) [2, 3, 0] rfl ?_
            exact ih _ _ _ h
          · refine J_aload_n (pc := 38) C dX3_addBytes_38 1 rfl ?_
            refine J_get (pc := 39) C dX3_addBytes_39 jf_X3 0 rfl rfl 0 (by decide) rfl fl_RX3_9 rfl ?_
            refine J_aload_n (pc := 42) C dX3_addBytes_42 1 rfl ?_
            refine J_get (pc := 43) C dX3_addBytes_43 jf_X3 0 rfl rfl 1 (by decide) rfl fl_RX3_15 rfl ?_
            refine J_iload_n (pc := 46) C dX3_addBytes_46 0 rfl ?_
            refine J_iastN (pc := 47) C (fun h47 => [(a_this, .inr (3, [.ref a_this_bytes, .int v_this_length])), (a_this_bytes, .inl (cI, n_this_bytes, .inl h47))]) dX3_addBytes_47 1 0 rfl rfl h (fun _ => rfl) (fun h47 h => ?_)
            refine J_aload_n (pc := 48) C dX3_addBytes_48 1 rfl ?_
            refine J_dupr (pc := 49) C dX3_addBytes_49 ?_
            refine J_get (pc := 50) C dX3_addBytes_50 jf_X3 0 rfl rfl 1 (by decide) rfl fl_RX3_15 rfl ?_
            refine J_iconst (v := (1 : Int32)) (pc := 53) C dX3_addBytes_53 (by decide) ?_
            refine J_iadd (pc := 54) C dX3_addBytes_54 ?_
            refine J_put (tt := .int) (pc := 55) C dX3_addBytes_55 jf_X3 0 rfl rfl 1 (by decide) rfl fl_RX3_15 rfl (by decide +kernel) rfl rfl (Nat.le_of_ble_eq_true rfl) ?_
            refine J_ws (ws2 := [(a_this, .inr (3, [.ref a_this_bytes, .int (v_this_length + (1 : Int32))])), (a_this_bytes, .inl (cI, n_this_bytes, .inl h47))]) rfl ?_
            refine J_iincN (pc := 58) (v := (-8 : Int32)) C (fun y58 => [(2, .int y58), (3, .int y14), (0, .ref a_this), (1, .int x1)]) dX3_addBytes_58 3 rfl (by decide) h (by decide) (fun _ => rfl) (fun y58 h => ?_)
            refine J_goto (tgt := 3) (pc := 61) C dX3_addBytes_61 (by decide) ?_
            refine J_sub (lv2 := [(0, .ref a_this), (1, .int x1), (2, .int y58)]) [2, 3, 0] rfl ?_
            exact ih _ _ _ h
set_option maxHeartbeats 4000000 in
set_option maxRecDepth 100000 in
theorem c_X3_addBytes (l : Launch) (D : va_G) (cI cB cL cO : ClassId) (pf : Nat → Nat) (N : Nat) (a_this a_this_bytes : Nat) (n_this_bytes : Nat) (v_this_length : Int32) (g_this_bytes : Nat → Int32) (x1 : Int32) (o : Int32 × (Nat → Int32)) (h : f_X3_addBytes N x1 n_this_bytes v_this_length g_this_bytes = some o) : Ct l D [(cI, .int), (cB, .byte), (cL, .long), (cO, .object RX0)] pf yX3_addBytes cX3_addBytes 4 (none : Option FieldType) { frames := 0, cells := 0, slots := 0, locals := 0 } [.ref a_this, .int x1] [(a_this, .inr (3, [.ref a_this_bytes, .int v_this_length])), (a_this_bytes, .inl (cI, n_this_bytes, .inl g_this_bytes))] (is1 (none) [(a_this, .inr (3, [.ref a_this_bytes, .int o.1])), (a_this_bytes, .inl (cI, n_this_bytes, .inl o.2))]) := by
  refine Ct_of (own := RX3) (lv0 := [(0, .ref a_this), (1, .int x1)]) (by decide) rfl rfl (Nat.le_of_ble_eq_true rfl) ?_
  intro p e s m args below meth c C hr hnm
  unfold f_X3_addBytes at h
  refine J_bipush (v := (24 : Int32)) (pc := 0) C dX3_addBytes_0 (by decide) ?_
  refine J_istore_n (lv2 := [(2, .int (24 : Int32)), (0, .ref a_this), (1, .int x1)]) (pc := 2) C dX3_addBytes_2 (by decide) rfl ?_
  refine J_sub (lv2 := [(0, .ref a_this), (1, .int x1), (2, .int (24 : Int32))]) [1, 2, 0] rfl ?_
  exact t_X3_addBytes_b3 C hr N _ _ _ h
-- PointsLedger$InputBuffer.shorten(I)V
theorem dX3_shorten_0 : decode cX3_shorten 0 = .ok (.aload_n 0, 1) := by decide +kernel
theorem dX3_shorten_1 : decode cX3_shorten 1 = .ok (.iload_n 1, 1) := by decide +kernel
theorem dX3_shorten_2 : decode cX3_shorten 2 = .ok (.putfield 15, 3) := by decide +kernel
theorem dX3_shorten_5 : decode cX3_shorten 5 = .ok (.return_, 1) := by decide +kernel
def f_X3_shorten (x1 : Int32) : Option (Int32) :=
  (some x1)
set_option maxHeartbeats 4000000 in
set_option maxRecDepth 100000 in
theorem c_X3_shorten (l : Launch) (D : va_G) (cI cB cL cO : ClassId) (pf : Nat → Nat) (N : Nat) (a_this a_this_bytes : Nat) (v_this_length : Int32) (x1 : Int32) (o : Int32) (h : f_X3_shorten x1 = some o) : Ct l D [(cI, .int), (cB, .byte), (cL, .long), (cO, .object RX0)] pf yX3_shorten cX3_shorten 2 (none : Option FieldType) { frames := 0, cells := 0, slots := 0, locals := 0 } [.ref a_this, .int x1] [(a_this, .inr (3, [.ref a_this_bytes, .int v_this_length]))] (is1 (none) [(a_this, .inr (3, [.ref a_this_bytes, .int o]))]) := by
  refine Ct_of (own := RX3) (lv0 := [(0, .ref a_this), (1, .int x1)]) (by decide) rfl rfl (Nat.le_of_ble_eq_true rfl) ?_
  intro p e s m args below meth c C hr hnm
  unfold f_X3_shorten at h
  refine J_aload_n (pc := 0) C dX3_shorten_0 0 rfl ?_
  refine J_iload_n (pc := 1) C dX3_shorten_1 1 rfl ?_
  refine J_put (tt := .int) (pc := 2) C dX3_shorten_2 jf_X3 0 rfl rfl 1 (by decide) rfl fl_RX3_15 rfl (by decide +kernel) rfl rfl (Nat.le_of_ble_eq_true rfl) ?_
  refine J_ws (ws2 := [(a_this, .inr (3, [.ref a_this_bytes, .int x1]))]) rfl ?_
  cases h
  exact J_vret (pc := 5) C dX3_shorten_5 hr ⟨rfl, rfl⟩
-- PointsLedger$InputBuffer.tokenAt(I)I
theorem dX3_tokenAt_0 : decode cX3_tokenAt 0 = .ok (.iload_n 1, 1) := by decide +kernel
theorem dX3_tokenAt_1 : decode cX3_tokenAt 1 = .ok (.ifCond .lt 20, 3) := by decide +kernel
theorem dX3_tokenAt_4 : decode cX3_tokenAt 4 = .ok (.iload_n 1, 1) := by decide +kernel
theorem dX3_tokenAt_5 : decode cX3_tokenAt 5 = .ok (.aload_n 0, 1) := by decide +kernel
theorem dX3_tokenAt_6 : decode cX3_tokenAt 6 = .ok (.getfield 15, 3) := by decide +kernel
theorem dX3_tokenAt_9 : decode cX3_tokenAt 9 = .ok (.if_icmp .ge 12, 3) := by decide +kernel
theorem dX3_tokenAt_12 : decode cX3_tokenAt 12 = .ok (.iload_n 1, 1) := by decide +kernel
theorem dX3_tokenAt_13 : decode cX3_tokenAt 13 = .ok (.aload_n 0, 1) := by decide +kernel
theorem dX3_tokenAt_14 : decode cX3_tokenAt 14 = .ok (.getfield 9, 3) := by decide +kernel
theorem dX3_tokenAt_17 : decode cX3_tokenAt 17 = .ok (.arraylength, 1) := by decide +kernel
theorem dX3_tokenAt_18 : decode cX3_tokenAt 18 = .ok (.if_icmp .lt 7, 3) := by decide +kernel
theorem dX3_tokenAt_21 : decode cX3_tokenAt 21 = .ok (.sipush 258, 3) := by decide +kernel
theorem dX3_tokenAt_24 : decode cX3_tokenAt 24 = .ok (.ireturn, 1) := by decide +kernel
theorem dX3_tokenAt_25 : decode cX3_tokenAt 25 = .ok (.aload_n 0, 1) := by decide +kernel
theorem dX3_tokenAt_26 : decode cX3_tokenAt 26 = .ok (.getfield 9, 3) := by decide +kernel
theorem dX3_tokenAt_29 : decode cX3_tokenAt 29 = .ok (.iload_n 1, 1) := by decide +kernel
theorem dX3_tokenAt_30 : decode cX3_tokenAt 30 = .ok (.iaload, 1) := by decide +kernel
theorem dX3_tokenAt_31 : decode cX3_tokenAt 31 = .ok (.istore_n 2, 1) := by decide +kernel
theorem dX3_tokenAt_32 : decode cX3_tokenAt 32 = .ok (.iload_n 2, 1) := by decide +kernel
theorem dX3_tokenAt_33 : decode cX3_tokenAt 33 = .ok (.bipush 97, 2) := by decide +kernel
theorem dX3_tokenAt_35 : decode cX3_tokenAt 35 = .ok (.if_icmp .lt 13, 3) := by decide +kernel
theorem dX3_tokenAt_38 : decode cX3_tokenAt 38 = .ok (.iload_n 2, 1) := by decide +kernel
theorem dX3_tokenAt_39 : decode cX3_tokenAt 39 = .ok (.bipush 122, 2) := by decide +kernel
theorem dX3_tokenAt_41 : decode cX3_tokenAt 41 = .ok (.if_icmp .gt 7, 3) := by decide +kernel
theorem dX3_tokenAt_44 : decode cX3_tokenAt 44 = .ok (.sipush 256, 3) := by decide +kernel
theorem dX3_tokenAt_47 : decode cX3_tokenAt 47 = .ok (.ireturn, 1) := by decide +kernel
theorem dX3_tokenAt_48 : decode cX3_tokenAt 48 = .ok (.iload_n 2, 1) := by decide +kernel
theorem dX3_tokenAt_49 : decode cX3_tokenAt 49 = .ok (.bipush 48, 2) := by decide +kernel
theorem dX3_tokenAt_51 : decode cX3_tokenAt 51 = .ok (.if_icmp .lt 15, 3) := by decide +kernel
theorem dX3_tokenAt_54 : decode cX3_tokenAt 54 = .ok (.iload_n 2, 1) := by decide +kernel
theorem dX3_tokenAt_55 : decode cX3_tokenAt 55 = .ok (.bipush 57, 2) := by decide +kernel
theorem dX3_tokenAt_57 : decode cX3_tokenAt 57 = .ok (.if_icmp .gt 9, 3) := by decide +kernel
theorem dX3_tokenAt_60 : decode cX3_tokenAt 60 = .ok (.sipush 257, 3) := by decide +kernel
theorem dX3_tokenAt_63 : decode cX3_tokenAt 63 = .ok (.goto 4, 3) := by decide +kernel
theorem dX3_tokenAt_66 : decode cX3_tokenAt 66 = .ok (.iload_n 2, 1) := by decide +kernel
theorem dX3_tokenAt_67 : decode cX3_tokenAt 67 = .ok (.ireturn, 1) := by decide +kernel
def f_X3_tokenAt_b48 (x2 : Int32) : Option (Int32) :=
  (if x2 < (48 : Int32) then (some x2) else (if (57 : Int32) < x2 then (some x2) else (some (257 : Int32))))
def f_X3_tokenAt (x1 : Int32) (n_this_bytes : Nat) (v_this_length : Int32) (g_this_bytes : Nat → Int32) : Option (Int32) :=
  (if x1 < 0 then (some (258 : Int32)) else (if v_this_length ≤ x1 then (some (258 : Int32)) else (if x1 < (nI n_this_bytes) then (if x1 < 0 ∨ n_this_bytes ≤ x1.toNatClampNeg then none else ((some (g_this_bytes x1.toNatClampNeg)).bind fun y31 => (if y31 < (97 : Int32) then (f_X3_tokenAt_b48 y31) else (if (122 : Int32) < y31 then (f_X3_tokenAt_b48 y31) else (some (256 : Int32)))))) else (some (258 : Int32)))))
set_option maxHeartbeats 4000000 in
set_option maxRecDepth 100000 in
theorem t_X3_tokenAt_b48 {l : Launch} {D : va_G} {cI cB cL cO : ClassId} {pf : Nat → Nat} {p : Program} {e : Env} {s : State} {m : MethodId} {args : Array Value} {below : List Frame} {meth : Method} {c : Code} {W0 : va_W} {a_this a_this_bytes : Nat}  {n_this_bytes : Nat} {v_this_length : Int32} {g_this_bytes : Nat → Int32} {x2 : Int32} {o : Int32} (C : jC p s m args meth c cX3_tokenAt 3 RX3 D [(cI, .int), (cB, .byte), (cL, .long), (cO, .object RX0)] pf (va_A W0 s.heap.size)) (hr : meth.sig.returnType = (some FieldType.int)) (h : f_X3_tokenAt_b48 x2 = some o) : J p l e { frames := 0, cells := 0, slots := 0, locals := 0 } s m args below meth c 3 D (va_A W0 s.heap.size) (MQ below (jQ D [(cI, .int), (cB, .byte), (cL, .long), (cO, .object RX0)] W0 s.heap.size (is1 (some (.int o)) [(a_this, .inr (3, [.ref a_this_bytes, .int v_this_length])), (a_this_bytes, .inl (cI, n_this_bytes, .inl g_this_bytes))])) args s 0 0 (va_A W0 s.heap.size)) 0 0 48 [(2, .int x2)] [] [(a_this, .inr (3, [.ref a_this_bytes, .int v_this_length])), (a_this_bytes, .inl (cI, n_this_bytes, .inl g_this_bytes))] := by
  unfold f_X3_tokenAt_b48 at h
  refine J_iload_n (pc := 48) C dX3_tokenAt_48 0 rfl ?_
  refine J_bipush (v := (48 : Int32)) (pc := 49) C dX3_tokenAt_49 (by decide) ?_
  refine J_ic_lt (pc := 51) (tgt := 66) C dX3_tokenAt_51 (by decide) h (fun h => ?_) (fun h => ?_)
  · refine J_iload_n (pc := 66) C dX3_tokenAt_66 0 rfl ?_
    cases h
    exact J_iret (pc := 67) C dX3_tokenAt_67 hr ⟨rfl, rfl⟩
  · refine J_iload_n (pc := 54) C dX3_tokenAt_54 0 rfl ?_
    refine J_bipush (v := (57 : Int32)) (pc := 55) C dX3_tokenAt_55 (by decide) ?_
    refine J_ic_gt (pc := 57) (tgt := 66) C dX3_tokenAt_57 (by decide) h (fun h => ?_) (fun h => ?_)
    · refine J_iload_n (pc := 66) C dX3_tokenAt_66 0 rfl ?_
      cases h
      exact J_iret (pc := 67) C dX3_tokenAt_67 hr ⟨rfl, rfl⟩
    · refine J_sipush (v := (257 : Int32)) (pc := 60) C dX3_tokenAt_60 (by decide) ?_
      refine J_goto (tgt := 67) (pc := 63) C dX3_tokenAt_63 (by decide) ?_
      cases h
      exact J_iret (pc := 67) C dX3_tokenAt_67 hr ⟨rfl, rfl⟩
set_option maxHeartbeats 4000000 in
set_option maxRecDepth 100000 in
theorem c_X3_tokenAt (l : Launch) (D : va_G) (cI cB cL cO : ClassId) (pf : Nat → Nat) (N : Nat) (a_this a_this_bytes : Nat) (n_this_bytes : Nat) (v_this_length : Int32) (g_this_bytes : Nat → Int32) (x1 : Int32) (o : Int32) (h : f_X3_tokenAt x1 n_this_bytes v_this_length g_this_bytes = some o) : Ct l D [(cI, .int), (cB, .byte), (cL, .long), (cO, .object RX0)] pf yX3_tokenAt cX3_tokenAt 3 (some FieldType.int) { frames := 0, cells := 0, slots := 0, locals := 0 } [.ref a_this, .int x1] [(a_this, .inr (3, [.ref a_this_bytes, .int v_this_length])), (a_this_bytes, .inl (cI, n_this_bytes, .inl g_this_bytes))] (is1 (some (.int o)) [(a_this, .inr (3, [.ref a_this_bytes, .int v_this_length])), (a_this_bytes, .inl (cI, n_this_bytes, .inl g_this_bytes))]) := by
  refine Ct_of (own := RX3) (lv0 := [(0, .ref a_this), (1, .int x1)]) (by decide) rfl rfl (Nat.le_of_ble_eq_true rfl) ?_
  intro p e s m args below meth c C hr hnm
  unfold f_X3_tokenAt at h
  refine J_iload_n (pc := 0) C dX3_tokenAt_0 1 rfl ?_
  refine J_if_lt (pc := 1) (tgt := 21) C dX3_tokenAt_1 (by decide) h (fun h => ?_) (fun h => ?_)
  · refine J_sipush (v := (258 : Int32)) (pc := 21) C dX3_tokenAt_21 (by decide) ?_
    cases h
    exact J_iret (pc := 24) C dX3_tokenAt_24 hr ⟨rfl, rfl⟩
  · refine J_iload_n (pc := 4) C dX3_tokenAt_4 1 rfl ?_
    refine J_aload_n (pc := 5) C dX3_tokenAt_5 0 rfl ?_
    refine J_get (pc := 6) C dX3_tokenAt_6 jf_X3 0 rfl rfl 1 (by decide) rfl fl_RX3_15 rfl ?_
    refine J_ic_ge (pc := 9) (tgt := 21) C dX3_tokenAt_9 (by decide) h (fun h => ?_) (fun h => ?_)
    · refine J_sipush (v := (258 : Int32)) (pc := 21) C dX3_tokenAt_21 (by decide) ?_
      cases h
      exact J_iret (pc := 24) C dX3_tokenAt_24 hr ⟨rfl, rfl⟩
    · refine J_iload_n (pc := 12) C dX3_tokenAt_12 1 rfl ?_
      refine J_aload_n (pc := 13) C dX3_tokenAt_13 0 rfl ?_
      refine J_get (pc := 14) C dX3_tokenAt_14 jf_X3 0 rfl rfl 0 (by decide) rfl fl_RX3_9 rfl ?_
      refine J_alen (pc := 17) C dX3_tokenAt_17 1 0 rfl rfl ?_
      refine J_ic_lt (pc := 18) (tgt := 25) C dX3_tokenAt_18 (by decide) h (fun h => ?_) (fun h => ?_)
      · refine J_aload_n (pc := 25) C dX3_tokenAt_25 0 rfl ?_
        refine J_get (pc := 26) C dX3_tokenAt_26 jf_X3 0 rfl rfl 0 (by decide) rfl fl_RX3_9 rfl ?_
        refine J_iload_n (pc := 29) C dX3_tokenAt_29 1 rfl ?_
        refine J_iald (pc := 30) C dX3_tokenAt_30 1 0 rfl rfl h (fun h => ?_)
        refine J_istore_nN (pc := 31) C (fun y31 => [(2, .int y31), (0, .ref a_this), (1, .int x1)]) dX3_tokenAt_31 h (by decide) (fun _ => rfl) (fun y31 h => ?_)
        refine J_iload_n (pc := 32) C dX3_tokenAt_32 0 rfl ?_
        refine J_bipush (v := (97 : Int32)) (pc := 33) C dX3_tokenAt_33 (by decide) ?_
        refine J_ic_lt (pc := 35) (tgt := 48) C dX3_tokenAt_35 (by decide) h (fun h => ?_) (fun h => ?_)
        · refine J_sub (lv2 := [(2, .int y31)]) [0] rfl ?_
          exact t_X3_tokenAt_b48 C hr h
        · refine J_iload_n (pc := 38) C dX3_tokenAt_38 0 rfl ?_
          refine J_bipush (v := (122 : Int32)) (pc := 39) C dX3_tokenAt_39 (by decide) ?_
          refine J_ic_gt (pc := 41) (tgt := 48) C dX3_tokenAt_41 (by decide) h (fun h => ?_) (fun h => ?_)
          · refine J_sub (lv2 := [(2, .int y31)]) [0] rfl ?_
            exact t_X3_tokenAt_b48 C hr h
          · refine J_sipush (v := (256 : Int32)) (pc := 44) C dX3_tokenAt_44 (by decide) ?_
            cases h
            exact J_iret (pc := 47) C dX3_tokenAt_47 hr ⟨rfl, rfl⟩
      · refine J_sipush (v := (258 : Int32)) (pc := 21) C dX3_tokenAt_21 (by decide) ?_
        cases h
        exact J_iret (pc := 24) C dX3_tokenAt_24 hr ⟨rfl, rfl⟩
-- PointsLedger$InputBuffer.nameCode(II)I
theorem dX3_nameCode_0 : decode cX3_nameCode 0 = .ok (.iload_n 2, 1) := by decide +kernel
theorem dX3_nameCode_1 : decode cX3_nameCode 1 = .ok (.iload_n 1, 1) := by decide +kernel
theorem dX3_nameCode_2 : decode cX3_nameCode 2 = .ok (.if_icmp .le 11, 3) := by decide +kernel
theorem dX3_nameCode_5 : decode cX3_nameCode 5 = .ok (.iload_n 2, 1) := by decide +kernel
theorem dX3_nameCode_6 : decode cX3_nameCode 6 = .ok (.iload_n 1, 1) := by decide +kernel
theorem dX3_nameCode_7 : decode cX3_nameCode 7 = .ok (.isub, 1) := by decide +kernel
theorem dX3_nameCode_8 : decode cX3_nameCode 8 = .ok (.bipush 6, 2) := by decide +kernel
theorem dX3_nameCode_10 : decode cX3_nameCode 10 = .ok (.if_icmp .le 5, 3) := by decide +kernel
theorem dX3_nameCode_13 : decode cX3_nameCode 13 = .ok (.iconst 0, 1) := by decide +kernel
theorem dX3_nameCode_14 : decode cX3_nameCode 14 = .ok (.ireturn, 1) := by decide +kernel
theorem dX3_nameCode_15 : decode cX3_nameCode 15 = .ok (.iconst 0, 1) := by decide +kernel
theorem dX3_nameCode_16 : decode cX3_nameCode 16 = .ok (.istore_n 3, 1) := by decide +kernel
theorem dX3_nameCode_17 : decode cX3_nameCode 17 = .ok (.iload_n 1, 1) := by decide +kernel
theorem dX3_nameCode_18 : decode cX3_nameCode 18 = .ok (.istore 4, 2) := by decide +kernel
theorem dX3_nameCode_20 : decode cX3_nameCode 20 = .ok (.iload 4, 2) := by decide +kernel
theorem dX3_nameCode_22 : decode cX3_nameCode 22 = .ok (.iload_n 1, 1) := by decide +kernel
theorem dX3_nameCode_23 : decode cX3_nameCode 23 = .ok (.bipush 6, 2) := by decide +kernel
theorem dX3_nameCode_25 : decode cX3_nameCode 25 = .ok (.iadd, 1) := by decide +kernel
theorem dX3_nameCode_26 : decode cX3_nameCode 26 = .ok (.if_icmp .ge 55, 3) := by decide +kernel
theorem dX3_nameCode_29 : decode cX3_nameCode 29 = .ok (.iload 4, 2) := by decide +kernel
theorem dX3_nameCode_31 : decode cX3_nameCode 31 = .ok (.iload_n 2, 1) := by decide +kernel
theorem dX3_nameCode_32 : decode cX3_nameCode 32 = .ok (.if_icmp .ge 17, 3) := by decide +kernel
theorem dX3_nameCode_35 : decode cX3_nameCode 35 = .ok (.aload_n 0, 1) := by decide +kernel
theorem dX3_nameCode_36 : decode cX3_nameCode 36 = .ok (.iload 4, 2) := by decide +kernel
theorem dX3_nameCode_38 : decode cX3_nameCode 38 = .ok (.invokevirtual 28, 3) := by decide +kernel
theorem dX3_nameCode_41 : decode cX3_nameCode 41 = .ok (.sipush 256, 3) := by decide +kernel
theorem dX3_nameCode_44 : decode cX3_nameCode 44 = .ok (.if_icmp .eq 5, 3) := by decide +kernel
theorem dX3_nameCode_47 : decode cX3_nameCode 47 = .ok (.iconst 0, 1) := by decide +kernel
theorem dX3_nameCode_48 : decode cX3_nameCode 48 = .ok (.ireturn, 1) := by decide +kernel
theorem dX3_nameCode_49 : decode cX3_nameCode 49 = .ok (.iload_n 3, 1) := by decide +kernel
theorem dX3_nameCode_50 : decode cX3_nameCode 50 = .ok (.iconst 5, 1) := by decide +kernel
theorem dX3_nameCode_51 : decode cX3_nameCode 51 = .ok (.ishl, 1) := by decide +kernel
theorem dX3_nameCode_52 : decode cX3_nameCode 52 = .ok (.iload 4, 2) := by decide +kernel
theorem dX3_nameCode_54 : decode cX3_nameCode 54 = .ok (.iload_n 2, 1) := by decide +kernel
theorem dX3_nameCode_55 : decode cX3_nameCode 55 = .ok (.if_icmp .ge 17, 3) := by decide +kernel
theorem dX3_nameCode_58 : decode cX3_nameCode 58 = .ok (.aload_n 0, 1) := by decide +kernel
theorem dX3_nameCode_59 : decode cX3_nameCode 59 = .ok (.iload 4, 2) := by decide +kernel
theorem dX3_nameCode_61 : decode cX3_nameCode 61 = .ok (.invokevirtual 32, 3) := by decide +kernel
theorem dX3_nameCode_64 : decode cX3_nameCode 64 = .ok (.bipush 97, 2) := by decide +kernel
theorem dX3_nameCode_66 : decode cX3_nameCode 66 = .ok (.isub, 1) := by decide +kernel
theorem dX3_nameCode_67 : decode cX3_nameCode 67 = .ok (.iconst 1, 1) := by decide +kernel
theorem dX3_nameCode_68 : decode cX3_nameCode 68 = .ok (.iadd, 1) := by decide +kernel
theorem dX3_nameCode_69 : decode cX3_nameCode 69 = .ok (.goto 4, 3) := by decide +kernel
theorem dX3_nameCode_72 : decode cX3_nameCode 72 = .ok (.iconst 0, 1) := by decide +kernel
theorem dX3_nameCode_73 : decode cX3_nameCode 73 = .ok (.ior, 1) := by decide +kernel
theorem dX3_nameCode_74 : decode cX3_nameCode 74 = .ok (.istore_n 3, 1) := by decide +kernel
theorem dX3_nameCode_75 : decode cX3_nameCode 75 = .ok (.iinc 4 1, 3) := by decide +kernel
theorem dX3_nameCode_78 : decode cX3_nameCode 78 = .ok (.goto (-58), 3) := by decide +kernel
theorem dX3_nameCode_81 : decode cX3_nameCode 81 = .ok (.iload_n 3, 1) := by decide +kernel
theorem dX3_nameCode_82 : decode cX3_nameCode 82 = .ok (.ireturn, 1) := by decide +kernel
def f_X3_nameCode_b49 (k_20 : (Int32) → (Int32) → Option (Int32)) (x2 : Int32) (x3 : Int32) (x4 : Int32) (n_this_bytes : Nat) (v_this_length : Int32) (g_this_bytes : Nat → Int32) : Option (Int32) :=
  (if x2 ≤ x4 then ((some ((x3 <<< ((5 : Int32) &&& 31)) ||| (0 : Int32))).bind fun y74 => ((some (x4 + (1 : Int32))).bind fun y75 => (k_20 y74 y75))) else ((f_X3_byteAt x4 n_this_bytes v_this_length g_this_bytes).bind fun r61 => ((some ((x3 <<< ((5 : Int32) &&& 31)) ||| ((r61 - (97 : Int32)) + (1 : Int32)))).bind fun y74 => ((some (x4 + (1 : Int32))).bind fun y75 => (k_20 y74 y75)))))
def f_X3_nameCode_b20 (x1 : Int32) (x2 : Int32) (n_this_bytes : Nat) (v_this_length : Int32) (g_this_bytes : Nat → Int32) : Nat → (Int32) → (Int32) → Option (Int32)
  | 0, _, _ => none
  | n + 1, x3, x4 => (if (x1 + (6 : Int32)) ≤ x4 then (some x3) else (if x2 ≤ x4 then (f_X3_nameCode_b49 (f_X3_nameCode_b20 x1 x2 n_this_bytes v_this_length g_this_bytes n) x2 x3 x4 n_this_bytes v_this_length g_this_bytes) else ((f_X3_tokenAt x4 n_this_bytes v_this_length g_this_bytes).bind fun r38 => (if r38 = (256 : Int32) then (f_X3_nameCode_b49 (f_X3_nameCode_b20 x1 x2 n_this_bytes v_this_length g_this_bytes n) x2 x3 x4 n_this_bytes v_this_length g_this_bytes) else (some (0 : Int32))))))
def f_X3_nameCode (N : Nat) (x1 : Int32) (x2 : Int32) (n_this_bytes : Nat) (v_this_length : Int32) (g_this_bytes : Nat → Int32) : Option (Int32) :=
  (if x2 ≤ x1 then (some (0 : Int32)) else (if (x2 - x1) ≤ (6 : Int32) then (f_X3_nameCode_b20 x1 x2 n_this_bytes v_this_length g_this_bytes N (0 : Int32) x1) else (some (0 : Int32))))
set_option maxHeartbeats 4000000 in
set_option maxRecDepth 100000 in
theorem t_X3_nameCode_b49 {l : Launch} {D : va_G} {cI cB cL cO : ClassId} {pf : Nat → Nat} {p : Program} {e : Env} {s : State} {m : MethodId} {args : Array Value} {below : List Frame} {meth : Method} {c : Code} {W0 : va_W} {a_this a_this_bytes : Nat}  {n_this_bytes : Nat} {v_this_length : Int32} {g_this_bytes : Nat → Int32} {x1 : Int32} {x2 : Int32} {x3 : Int32} {x4 : Int32} {o : Int32} (C : jC p s m args meth c cX3_nameCode 5 RX3 D [(cI, .int), (cB, .byte), (cL, .long), (cO, .object RX0)] pf (va_A W0 s.heap.size)) (hr : meth.sig.returnType = (some FieldType.int)) {k_20 : (Int32) → (Int32) → Option (Int32)} (hk_20 : ∀ (x3 : Int32) (x4 : Int32), k_20 x3 x4 = some o → J p l e { frames := 1, cells := 0, slots := 0, locals := 22 } s m args below meth c 5 D (va_A W0 s.heap.size) (MQ below (jQ D [(cI, .int), (cB, .byte), (cL, .long), (cO, .object RX0)] W0 s.heap.size (is1 (some (.int o)) [(a_this, .inr (3, [.ref a_this_bytes, .int v_this_length])), (a_this_bytes, .inl (cI, n_this_bytes, .inl g_this_bytes))])) args s 0 0 (va_A W0 s.heap.size)) 0 0 20 [(0, .ref a_this), (1, .int x1), (2, .int x2), (3, .int x3), (4, .int x4)] [] [(a_this, .inr (3, [.ref a_this_bytes, .int v_this_length])), (a_this_bytes, .inl (cI, n_this_bytes, .inl g_this_bytes))]) (h : f_X3_nameCode_b49 k_20 x2 x3 x4 n_this_bytes v_this_length g_this_bytes = some o) : J p l e { frames := 1, cells := 0, slots := 0, locals := 22 } s m args below meth c 5 D (va_A W0 s.heap.size) (MQ below (jQ D [(cI, .int), (cB, .byte), (cL, .long), (cO, .object RX0)] W0 s.heap.size (is1 (some (.int o)) [(a_this, .inr (3, [.ref a_this_bytes, .int v_this_length])), (a_this_bytes, .inl (cI, n_this_bytes, .inl g_this_bytes))])) args s 0 0 (va_A W0 s.heap.size)) 0 0 49 [(0, .ref a_this), (1, .int x1), (2, .int x2), (3, .int x3), (4, .int x4)] [] [(a_this, .inr (3, [.ref a_this_bytes, .int v_this_length])), (a_this_bytes, .inl (cI, n_this_bytes, .inl g_this_bytes))] := by
  unfold f_X3_nameCode_b49 at h
  refine J_iload_n (pc := 49) C dX3_nameCode_49 3 rfl ?_
  refine J_iconst (v := (5 : Int32)) (pc := 50) C dX3_nameCode_50 (by decide) ?_
  refine J_ishl (pc := 51) C dX3_nameCode_51 ?_
  refine J_iload (pc := 52) C dX3_nameCode_52 4 rfl ?_
  refine J_iload_n (pc := 54) C dX3_nameCode_54 2 rfl ?_
  refine J_ic_ge (pc := 55) (tgt := 72) C dX3_nameCode_55 (by decide) h (fun h => ?_) (fun h => ?_)
  · refine J_iconst (v := (0 : Int32)) (pc := 72) C dX3_nameCode_72 (by decide) ?_
    refine J_ior (pc := 73) C dX3_nameCode_73 ?_
    refine J_istore_nN (pc := 74) C (fun y74 => [(3, .int y74), (0, .ref a_this), (1, .int x1), (2, .int x2), (4, .int x4)]) dX3_nameCode_74 h (by decide) (fun _ => rfl) (fun y74 h => ?_)
    refine J_iincN (pc := 75) (v := (1 : Int32)) C (fun y75 => [(4, .int y75), (3, .int y74), (0, .ref a_this), (1, .int x1), (2, .int x2)]) dX3_nameCode_75 4 rfl (by decide) h (by decide) (fun _ => rfl) (fun y75 h => ?_)
    refine J_goto (tgt := 20) (pc := 78) C dX3_nameCode_78 (by decide) ?_
    refine J_sub (lv2 := [(0, .ref a_this), (1, .int x1), (2, .int x2), (3, .int y74), (4, .int y75)]) [2, 3, 4, 1, 0] rfl ?_
    exact hk_20 _ _ h
  · refine J_aload_n (pc := 58) C dX3_nameCode_58 0 rfl ?_
    refine J_iload (pc := 59) C dX3_nameCode_59 4 rfl ?_
    refine J_cvr (pc := 61) (As := [.int x4]) (st := [.int (x3 <<< ((5 : Int32) &&& 31))]) C dX3_nameCode_61 ml_RX3_32 mi_yX3_byteAt (fun r61 hr => c_X3_byteAt l D cI cB cL cO pf 0 a_this a_this_bytes n_this_bytes v_this_length g_this_bytes x4 r61 hr) h [0, 1] rfl rfl rfl rfl rfl ⟨rfl, rfl⟩ ⟨(Nat.le_of_ble_eq_true rfl), (Nat.le_of_ble_eq_true rfl)⟩ ⟨Nat.zero_le _, Nat.zero_le _⟩ (Nat.le_of_ble_eq_true rfl) (fun r61 h => ?_)
    refine J_bipush (v := (97 : Int32)) (pc := 64) C dX3_nameCode_64 (by decide) ?_
    refine J_isub (pc := 66) C dX3_nameCode_66 ?_
    refine J_iconst (v := (1 : Int32)) (pc := 67) C dX3_nameCode_67 (by decide) ?_
    refine J_iadd (pc := 68) C dX3_nameCode_68 ?_
    refine J_goto (tgt := 73) (pc := 69) C dX3_nameCode_69 (by decide) ?_
    refine J_ior (pc := 73) C dX3_nameCode_73 ?_
    refine J_istore_nN (pc := 74) C (fun y74 => [(3, .int y74), (0, .ref a_this), (1, .int x1), (2, .int x2), (4, .int x4)]) dX3_nameCode_74 h (by decide) (fun _ => rfl) (fun y74 h => ?_)
    refine J_iincN (pc := 75) (v := (1 : Int32)) C (fun y75 => [(4, .int y75), (3, .int y74), (0, .ref a_this), (1, .int x1), (2, .int x2)]) dX3_nameCode_75 4 rfl (by decide) h (by decide) (fun _ => rfl) (fun y75 h => ?_)
    refine J_goto (tgt := 20) (pc := 78) C dX3_nameCode_78 (by decide) ?_
    refine J_sub (lv2 := [(0, .ref a_this), (1, .int x1), (2, .int x2), (3, .int y74), (4, .int y75)]) [2, 3, 4, 1, 0] rfl ?_
    exact hk_20 _ _ h
set_option maxHeartbeats 4000000 in
set_option maxRecDepth 100000 in
theorem t_X3_nameCode_b20 {l : Launch} {D : va_G} {cI cB cL cO : ClassId} {pf : Nat → Nat} {p : Program} {e : Env} {s : State} {m : MethodId} {args : Array Value} {below : List Frame} {meth : Method} {c : Code} {W0 : va_W} {a_this a_this_bytes : Nat}  {n_this_bytes : Nat} {v_this_length : Int32} {g_this_bytes : Nat → Int32} {x1 : Int32} {x2 : Int32} {o : Int32} (C : jC p s m args meth c cX3_nameCode 5 RX3 D [(cI, .int), (cB, .byte), (cL, .long), (cO, .object RX0)] pf (va_A W0 s.heap.size)) (hr : meth.sig.returnType = (some FieldType.int)) : ∀ (n : Nat) (x3 : Int32) (x4 : Int32), f_X3_nameCode_b20 x1 x2 n_this_bytes v_this_length g_this_bytes n x3 x4 = some o → J p l e { frames := 1, cells := 0, slots := 0, locals := 22 } s m args below meth c 5 D (va_A W0 s.heap.size) (MQ below (jQ D [(cI, .int), (cB, .byte), (cL, .long), (cO, .object RX0)] W0 s.heap.size (is1 (some (.int o)) [(a_this, .inr (3, [.ref a_this_bytes, .int v_this_length])), (a_this_bytes, .inl (cI, n_this_bytes, .inl g_this_bytes))])) args s 0 0 (va_A W0 s.heap.size)) 0 0 20 [(0, .ref a_this), (1, .int x1), (2, .int x2), (3, .int x3), (4, .int x4)] [] [(a_this, .inr (3, [.ref a_this_bytes, .int v_this_length])), (a_this_bytes, .inl (cI, n_this_bytes, .inl g_this_bytes))] := by
  intro n
  induction n with
  | zero =>
    intro _ _ h
    rw [f_X3_nameCode_b20] at h
    cases h
  | succ n ih =>
    intro x3 x4 h
    rw [f_X3_nameCode_b20] at h
    refine J_iload (pc := 20) C dX3_nameCode_20 4 rfl ?_
    refine J_iload_n (pc := 22) C dX3_nameCode_22 1 rfl ?_
    refine J_bipush (v := (6 : Int32)) (pc := 23) C dX3_nameCode_23 (by decide) ?_
    refine J_iadd (pc := 25) C dX3_nameCode_25 ?_
    refine J_ic_ge (pc := 26) (tgt := 81) C dX3_nameCode_26 (by decide) h (fun h => ?_) (fun h => ?_)
    · refine J_iload_n (pc := 81) C dX3_nameCode_81 3 rfl ?_
      cases h
      exact J_iret (pc := 82) C dX3_nameCode_82 hr ⟨rfl, rfl⟩
    · refine J_iload (pc := 29) C dX3_nameCode_29 4 rfl ?_
      refine J_iload_n (pc := 31) C dX3_nameCode_31 2 rfl ?_
      refine J_ic_ge (pc := 32) (tgt := 49) C dX3_nameCode_32 (by decide) h (fun h => ?_) (fun h => ?_)
      · exact t_X3_nameCode_b49 C hr ih h
      · refine J_aload_n (pc := 35) C dX3_nameCode_35 0 rfl ?_
        refine J_iload (pc := 36) C dX3_nameCode_36 4 rfl ?_
        refine J_cvr (pc := 38) (As := [.int x4]) (st := []) C dX3_nameCode_38 ml_RX3_28 mi_yX3_tokenAt (fun r38 hr => c_X3_tokenAt l D cI cB cL cO pf 0 a_this a_this_bytes n_this_bytes v_this_length g_this_bytes x4 r38 hr) h [0, 1] rfl rfl rfl rfl rfl ⟨rfl, rfl⟩ ⟨(Nat.le_of_ble_eq_true rfl), (Nat.le_of_ble_eq_true rfl)⟩ ⟨Nat.zero_le _, Nat.zero_le _⟩ (Nat.le_of_ble_eq_true rfl) (fun r38 h => ?_)
        refine J_sipush (v := (256 : Int32)) (pc := 41) C dX3_nameCode_41 (by decide) ?_
        refine J_ic_eq (pc := 44) (tgt := 49) C dX3_nameCode_44 (by decide) h (fun h => ?_) (fun h => ?_)
        · exact t_X3_nameCode_b49 C hr ih h
        · refine J_iconst (v := (0 : Int32)) (pc := 47) C dX3_nameCode_47 (by decide) ?_
          cases h
          exact J_iret (pc := 48) C dX3_nameCode_48 hr ⟨rfl, rfl⟩
set_option maxHeartbeats 4000000 in
set_option maxRecDepth 100000 in
theorem c_X3_nameCode (l : Launch) (D : va_G) (cI cB cL cO : ClassId) (pf : Nat → Nat) (N : Nat) (a_this a_this_bytes : Nat) (n_this_bytes : Nat) (v_this_length : Int32) (g_this_bytes : Nat → Int32) (x1 : Int32) (x2 : Int32) (o : Int32) (h : f_X3_nameCode N x1 x2 n_this_bytes v_this_length g_this_bytes = some o) : Ct l D [(cI, .int), (cB, .byte), (cL, .long), (cO, .object RX0)] pf yX3_nameCode cX3_nameCode 5 (some FieldType.int) { frames := 1, cells := 0, slots := 0, locals := 22 } [.ref a_this, .int x1, .int x2] [(a_this, .inr (3, [.ref a_this_bytes, .int v_this_length])), (a_this_bytes, .inl (cI, n_this_bytes, .inl g_this_bytes))] (is1 (some (.int o)) [(a_this, .inr (3, [.ref a_this_bytes, .int v_this_length])), (a_this_bytes, .inl (cI, n_this_bytes, .inl g_this_bytes))]) := by
  refine Ct_of (own := RX3) (lv0 := [(0, .ref a_this), (1, .int x1), (2, .int x2)]) (by decide) rfl rfl (Nat.le_of_ble_eq_true rfl) ?_
  intro p e s m args below meth c C hr hnm
  unfold f_X3_nameCode at h
  refine J_iload_n (pc := 0) C dX3_nameCode_0 2 rfl ?_
  refine J_iload_n (pc := 1) C dX3_nameCode_1 1 rfl ?_
  refine J_ic_le (pc := 2) (tgt := 13) C dX3_nameCode_2 (by decide) h (fun h => ?_) (fun h => ?_)
  · refine J_iconst (v := (0 : Int32)) (pc := 13) C dX3_nameCode_13 (by decide) ?_
    cases h
    exact J_iret (pc := 14) C dX3_nameCode_14 hr ⟨rfl, rfl⟩
  · refine J_iload_n (pc := 5) C dX3_nameCode_5 2 rfl ?_
    refine J_iload_n (pc := 6) C dX3_nameCode_6 1 rfl ?_
    refine J_isub (pc := 7) C dX3_nameCode_7 ?_
    refine J_bipush (v := (6 : Int32)) (pc := 8) C dX3_nameCode_8 (by decide) ?_
    refine J_ic_le (pc := 10) (tgt := 15) C dX3_nameCode_10 (by decide) h (fun h => ?_) (fun h => ?_)
    · refine J_iconst (v := (0 : Int32)) (pc := 15) C dX3_nameCode_15 (by decide) ?_
      refine J_istore_n (lv2 := [(3, .int (0 : Int32)), (0, .ref a_this), (1, .int x1), (2, .int x2)]) (pc := 16) C dX3_nameCode_16 (by decide) rfl ?_
      refine J_iload_n (pc := 17) C dX3_nameCode_17 2 rfl ?_
      refine J_istore (lv2 := [(4, .int x1), (3, .int (0 : Int32)), (0, .ref a_this), (1, .int x1), (2, .int x2)]) (pc := 18) C dX3_nameCode_18 (by decide) rfl ?_
      refine J_sub (lv2 := [(0, .ref a_this), (1, .int x1), (2, .int x2), (3, .int (0 : Int32)), (4, .int x1)]) [2, 3, 4, 1, 0] rfl ?_
      exact t_X3_nameCode_b20 C hr N _ _ h
    · refine J_iconst (v := (0 : Int32)) (pc := 13) C dX3_nameCode_13 (by decide) ?_
      cases h
      exact J_iret (pc := 14) C dX3_nameCode_14 hr ⟨rfl, rfl⟩
-- PointsLedger$LogBook.size()I
theorem dX4_size_0 : decode cX4_size 0 = .ok (.aload_n 0, 1) := by decide +kernel
theorem dX4_size_1 : decode cX4_size 1 = .ok (.getfield 24, 3) := by decide +kernel
theorem dX4_size_4 : decode cX4_size 4 = .ok (.ireturn, 1) := by decide +kernel
def f_X4_size (v_this_size : Int32) : Option (Int32) :=
  (some v_this_size)
set_option maxHeartbeats 4000000 in
set_option maxRecDepth 100000 in
theorem c_X4_size (l : Launch) (D : va_G) (cI cB cL cO : ClassId) (pf : Nat → Nat) (N : Nat) (a_this a_this_parts : Nat) (v_this_next : Int32) (v_this_size : Int32) (o : Int32) (h : f_X4_size v_this_size = some o) : Ct l D [(cI, .int), (cB, .byte), (cL, .long), (cO, .object RX0)] pf yX4_size cX4_size 1 (some FieldType.int) { frames := 0, cells := 0, slots := 0, locals := 0 } [.ref a_this] [(a_this, .inr (4, [.ref a_this_parts, .int v_this_next, .int v_this_size]))] (is1 (some (.int o)) [(a_this, .inr (4, [.ref a_this_parts, .int v_this_next, .int v_this_size]))]) := by
  refine Ct_of (own := RX4) (lv0 := [(0, .ref a_this)]) (by decide) rfl rfl (Nat.le_of_ble_eq_true rfl) ?_
  intro p e s m args below meth c C hr hnm
  unfold f_X4_size at h
  refine J_aload_n (pc := 0) C dX4_size_0 0 rfl ?_
  refine J_get (pc := 1) C dX4_size_1 jf_X4 0 rfl rfl 2 (by decide) rfl fl_RX4_24 rfl ?_
  cases h
  exact J_iret (pc := 4) C dX4_size_4 hr ⟨rfl, rfl⟩
-- PointsLedger$LogBook.part(II)I
theorem dX4_part_0 : decode cX4_part 0 = .ok (.aload_n 0, 1) := by decide +kernel
theorem dX4_part_1 : decode cX4_part 1 = .ok (.getfield 20, 3) := by decide +kernel
theorem dX4_part_4 : decode cX4_part 4 = .ok (.iconst 1, 1) := by decide +kernel
theorem dX4_part_5 : decode cX4_part 5 = .ok (.isub, 1) := by decide +kernel
theorem dX4_part_6 : decode cX4_part 6 = .ok (.iload_n 1, 1) := by decide +kernel
theorem dX4_part_7 : decode cX4_part 7 = .ok (.isub, 1) := by decide +kernel
theorem dX4_part_8 : decode cX4_part 8 = .ok (.istore_n 3, 1) := by decide +kernel
theorem dX4_part_9 : decode cX4_part 9 = .ok (.aload_n 0, 1) := by decide +kernel
theorem dX4_part_10 : decode cX4_part 10 = .ok (.getfield 14, 3) := by decide +kernel
theorem dX4_part_13 : decode cX4_part 13 = .ok (.iload_n 3, 1) := by decide +kernel
theorem dX4_part_14 : decode cX4_part 14 = .ok (.ifCond .ge 10, 3) := by decide +kernel
theorem dX4_part_17 : decode cX4_part 17 = .ok (.iload_n 3, 1) := by decide +kernel
theorem dX4_part_18 : decode cX4_part 18 = .ok (.bipush 30, 2) := by decide +kernel
theorem dX4_part_20 : decode cX4_part 20 = .ok (.iadd, 1) := by decide +kernel
theorem dX4_part_21 : decode cX4_part 21 = .ok (.goto 4, 3) := by decide +kernel
theorem dX4_part_24 : decode cX4_part 24 = .ok (.iload_n 3, 1) := by decide +kernel
theorem dX4_part_25 : decode cX4_part 25 = .ok (.iconst 4, 1) := by decide +kernel
theorem dX4_part_26 : decode cX4_part 26 = .ok (.imul, 1) := by decide +kernel
theorem dX4_part_27 : decode cX4_part 27 = .ok (.iload_n 2, 1) := by decide +kernel
theorem dX4_part_28 : decode cX4_part 28 = .ok (.iadd, 1) := by decide +kernel
theorem dX4_part_29 : decode cX4_part 29 = .ok (.invokevirtual 31, 3) := by decide +kernel
theorem dX4_part_32 : decode cX4_part 32 = .ok (.ireturn, 1) := by decide +kernel
def f_X4_part_b25 (x2 : Int32) (s1 : Int32) (n_this_parts_cells : Nat) (g_this_parts_cells : Nat → Int32) : Option (Int32) :=
  ((f_X6_at ((s1 * (4 : Int32)) + x2) n_this_parts_cells g_this_parts_cells).bind fun r29 => (some r29))
def f_X4_part (x1 : Int32) (x2 : Int32) (n_this_parts_cells : Nat) (v_this_next : Int32) (g_this_parts_cells : Nat → Int32) : Option (Int32) :=
  ((some ((v_this_next - (1 : Int32)) - x1)).bind fun y8 => (if 0 ≤ y8 then (f_X4_part_b25 x2 y8 n_this_parts_cells g_this_parts_cells) else (f_X4_part_b25 x2 (y8 + (30 : Int32)) n_this_parts_cells g_this_parts_cells)))
set_option maxHeartbeats 4000000 in
set_option maxRecDepth 100000 in
theorem t_X4_part_b25 {l : Launch} {D : va_G} {cI cB cL cO : ClassId} {pf : Nat → Nat} {p : Program} {e : Env} {s : State} {m : MethodId} {args : Array Value} {below : List Frame} {meth : Method} {c : Code} {W0 : va_W} {a_this a_this_parts a_this_parts_cells : Nat}  {n_this_parts_cells : Nat} {v_this_next : Int32} {v_this_size : Int32} {g_this_parts_cells : Nat → Int32} {x2 : Int32} {s1 : Int32} {o : Int32} (C : jC p s m args meth c cX4_part 4 RX4 D [(cI, .int), (cB, .byte), (cL, .long), (cO, .object RX0)] pf (va_A W0 s.heap.size)) (hr : meth.sig.returnType = (some FieldType.int)) (h : f_X4_part_b25 x2 s1 n_this_parts_cells g_this_parts_cells = some o) : J p l e { frames := 1, cells := 0, slots := 0, locals := 21 } s m args below meth c 4 D (va_A W0 s.heap.size) (MQ below (jQ D [(cI, .int), (cB, .byte), (cL, .long), (cO, .object RX0)] W0 s.heap.size (is1 (some (.int o)) [(a_this, .inr (4, [.ref a_this_parts, .int v_this_next, .int v_this_size])), (a_this_parts, .inr (6, [.ref a_this_parts_cells])), (a_this_parts_cells, .inl (cI, n_this_parts_cells, .inl g_this_parts_cells))])) args s 0 0 (va_A W0 s.heap.size)) 0 0 25 [(2, .int x2)] [.int s1, .ref a_this_parts] [(a_this, .inr (4, [.ref a_this_parts, .int v_this_next, .int v_this_size])), (a_this_parts, .inr (6, [.ref a_this_parts_cells])), (a_this_parts_cells, .inl (cI, n_this_parts_cells, .inl g_this_parts_cells))] := by
  unfold f_X4_part_b25 at h
  refine J_iconst (v := (4 : Int32)) (pc := 25) C dX4_part_25 (by decide) ?_
  refine J_imul (pc := 26) C dX4_part_26 ?_
  refine J_iload_n (pc := 27) C dX4_part_27 0 rfl ?_
  refine J_iadd (pc := 28) C dX4_part_28 ?_
  refine J_cvr (pc := 29) (As := [.int ((s1 * (4 : Int32)) + x2)]) (st := []) C dX4_part_29 ml_RX4_31 mi_yX6_at (fun r29 hr => c_X6_at l D cI cB cL cO pf 0 a_this_parts a_this_parts_cells n_this_parts_cells g_this_parts_cells ((s1 * (4 : Int32)) + x2) r29 hr) h [1, 2] rfl rfl rfl rfl rfl ⟨rfl, rfl⟩ ⟨(Nat.le_of_ble_eq_true rfl), (Nat.le_of_ble_eq_true rfl)⟩ ⟨Nat.zero_le _, Nat.zero_le _⟩ (Nat.le_of_ble_eq_true rfl) (fun r29 h => ?_)
  cases h
  exact J_iret (pc := 32) C dX4_part_32 hr ⟨rfl, rfl⟩
set_option maxHeartbeats 4000000 in
set_option maxRecDepth 100000 in
theorem c_X4_part (l : Launch) (D : va_G) (cI cB cL cO : ClassId) (pf : Nat → Nat) (N : Nat) (a_this a_this_parts a_this_parts_cells : Nat) (n_this_parts_cells : Nat) (v_this_next : Int32) (v_this_size : Int32) (g_this_parts_cells : Nat → Int32) (x1 : Int32) (x2 : Int32) (o : Int32) (h : f_X4_part x1 x2 n_this_parts_cells v_this_next g_this_parts_cells = some o) : Ct l D [(cI, .int), (cB, .byte), (cL, .long), (cO, .object RX0)] pf yX4_part cX4_part 4 (some FieldType.int) { frames := 1, cells := 0, slots := 0, locals := 21 } [.ref a_this, .int x1, .int x2] [(a_this, .inr (4, [.ref a_this_parts, .int v_this_next, .int v_this_size])), (a_this_parts, .inr (6, [.ref a_this_parts_cells])), (a_this_parts_cells, .inl (cI, n_this_parts_cells, .inl g_this_parts_cells))] (is1 (some (.int o)) [(a_this, .inr (4, [.ref a_this_parts, .int v_this_next, .int v_this_size])), (a_this_parts, .inr (6, [.ref a_this_parts_cells])), (a_this_parts_cells, .inl (cI, n_this_parts_cells, .inl g_this_parts_cells))]) := by
  refine Ct_of (own := RX4) (lv0 := [(0, .ref a_this), (1, .int x1), (2, .int x2)]) (by decide) rfl rfl (Nat.le_of_ble_eq_true rfl) ?_
  intro p e s m args below meth c C hr hnm
  unfold f_X4_part at h
  refine J_aload_n (pc := 0) C dX4_part_0 0 rfl ?_
  refine J_get (pc := 1) C dX4_part_1 jf_X4 0 rfl rfl 1 (by decide) rfl fl_RX4_20 rfl ?_
  refine J_iconst (v := (1 : Int32)) (pc := 4) C dX4_part_4 (by decide) ?_
  refine J_isub (pc := 5) C dX4_part_5 ?_
  refine J_iload_n (pc := 6) C dX4_part_6 1 rfl ?_
  refine J_isub (pc := 7) C dX4_part_7 ?_
  refine J_istore_nN (pc := 8) C (fun y8 => [(3, .int y8), (0, .ref a_this), (1, .int x1), (2, .int x2)]) dX4_part_8 h (by decide) (fun _ => rfl) (fun y8 h => ?_)
  refine J_aload_n (pc := 9) C dX4_part_9 1 rfl ?_
  refine J_get (pc := 10) C dX4_part_10 jf_X4 0 rfl rfl 0 (by decide) rfl fl_RX4_14 rfl ?_
  refine J_iload_n (pc := 13) C dX4_part_13 0 rfl ?_
  refine J_if_ge (pc := 14) (tgt := 24) C dX4_part_14 (by decide) h (fun h => ?_) (fun h => ?_)
  · refine J_iload_n (pc := 24) C dX4_part_24 0 rfl ?_
    refine J_sub (lv2 := [(2, .int x2)]) [3] rfl ?_
    exact t_X4_part_b25 C hr h
  · refine J_iload_n (pc := 17) C dX4_part_17 0 rfl ?_
    refine J_bipush (v := (30 : Int32)) (pc := 18) C dX4_part_18 (by decide) ?_
    refine J_iadd (pc := 20) C dX4_part_20 ?_
    refine J_goto (tgt := 25) (pc := 21) C dX4_part_21 (by decide) ?_
    refine J_sub (lv2 := [(2, .int x2)]) [3] rfl ?_
    exact t_X4_part_b25 C hr h
-- PointsLedger$Purchases.count()I
theorem dX5_count_0 : decode cX5_count 0 = .ok (.aload_n 0, 1) := by decide +kernel
theorem dX5_count_1 : decode cX5_count 1 = .ok (.getfield 20, 3) := by decide +kernel
theorem dX5_count_4 : decode cX5_count 4 = .ok (.ireturn, 1) := by decide +kernel
def f_X5_count (v_this_count : Int32) : Option (Int32) :=
  (some v_this_count)
set_option maxHeartbeats 4000000 in
set_option maxRecDepth 100000 in
theorem c_X5_count (l : Launch) (D : va_G) (cI cB cL cO : ClassId) (pf : Nat → Nat) (N : Nat) (a_this a_this_parts : Nat) (v_this_count : Int32) (o : Int32) (h : f_X5_count v_this_count = some o) : Ct l D [(cI, .int), (cB, .byte), (cL, .long), (cO, .object RX0)] pf yX5_count cX5_count 1 (some FieldType.int) { frames := 0, cells := 0, slots := 0, locals := 0 } [.ref a_this] [(a_this, .inr (5, [.ref a_this_parts, .int v_this_count]))] (is1 (some (.int o)) [(a_this, .inr (5, [.ref a_this_parts, .int v_this_count]))]) := by
  refine Ct_of (own := RX5) (lv0 := [(0, .ref a_this)]) (by decide) rfl rfl (Nat.le_of_ble_eq_true rfl) ?_
  intro p e s m args below meth c C hr hnm
  unfold f_X5_count at h
  refine J_aload_n (pc := 0) C dX5_count_0 0 rfl ?_
  refine J_get (pc := 1) C dX5_count_1 jf_X5 0 rfl rfl 1 (by decide) rfl fl_RX5_20 rfl ?_
  cases h
  exact J_iret (pc := 4) C dX5_count_4 hr ⟨rfl, rfl⟩
-- PointsLedger$Purchases.isKept(I)Z
theorem dX5_isKept_0 : decode cX5_isKept 0 = .ok (.iload_n 1, 1) := by decide +kernel
theorem dX5_isKept_1 : decode cX5_isKept 1 = .ok (.ifCond .lt 26, 3) := by decide +kernel
theorem dX5_isKept_4 : decode cX5_isKept 4 = .ok (.iload_n 1, 1) := by decide +kernel
theorem dX5_isKept_5 : decode cX5_isKept 5 = .ok (.aload_n 0, 1) := by decide +kernel
theorem dX5_isKept_6 : decode cX5_isKept 6 = .ok (.getfield 20, 3) := by decide +kernel
theorem dX5_isKept_9 : decode cX5_isKept 9 = .ok (.if_icmp .ge 18, 3) := by decide +kernel
theorem dX5_isKept_12 : decode cX5_isKept 12 = .ok (.iload_n 1, 1) := by decide +kernel
theorem dX5_isKept_13 : decode cX5_isKept 13 = .ok (.aload_n 0, 1) := by decide +kernel
theorem dX5_isKept_14 : decode cX5_isKept 14 = .ok (.getfield 20, 3) := by decide +kernel
theorem dX5_isKept_17 : decode cX5_isKept 17 = .ok (.bipush 40, 2) := by decide +kernel
theorem dX5_isKept_19 : decode cX5_isKept 19 = .ok (.isub, 1) := by decide +kernel
theorem dX5_isKept_20 : decode cX5_isKept 20 = .ok (.if_icmp .lt 7, 3) := by decide +kernel
theorem dX5_isKept_23 : decode cX5_isKept 23 = .ok (.iconst 1, 1) := by decide +kernel
theorem dX5_isKept_24 : decode cX5_isKept 24 = .ok (.goto 4, 3) := by decide +kernel
theorem dX5_isKept_27 : decode cX5_isKept 27 = .ok (.iconst 0, 1) := by decide +kernel
theorem dX5_isKept_28 : decode cX5_isKept 28 = .ok (.ireturn, 1) := by decide +kernel
def f_X5_isKept (x1 : Int32) (v_this_count : Int32) : Option (Int32) :=
  (if x1 < 0 then (some (0 : Int32)) else (if v_this_count ≤ x1 then (some (0 : Int32)) else (if x1 < (v_this_count - (40 : Int32)) then (some (0 : Int32)) else (some (1 : Int32)))))
set_option maxHeartbeats 4000000 in
set_option maxRecDepth 100000 in
theorem c_X5_isKept (l : Launch) (D : va_G) (cI cB cL cO : ClassId) (pf : Nat → Nat) (N : Nat) (a_this a_this_parts : Nat) (v_this_count : Int32) (x1 : Int32) (o : Int32) (h : f_X5_isKept x1 v_this_count = some o) : Ct l D [(cI, .int), (cB, .byte), (cL, .long), (cO, .object RX0)] pf yX5_isKept cX5_isKept 2 (some FieldType.boolean) { frames := 0, cells := 0, slots := 0, locals := 0 } [.ref a_this, .int x1] [(a_this, .inr (5, [.ref a_this_parts, .int v_this_count]))] (is1 (some (.int o)) [(a_this, .inr (5, [.ref a_this_parts, .int v_this_count]))]) := by
  refine Ct_of (own := RX5) (lv0 := [(0, .ref a_this), (1, .int x1)]) (by decide) rfl rfl (Nat.le_of_ble_eq_true rfl) ?_
  intro p e s m args below meth c C hr hnm
  unfold f_X5_isKept at h
  refine J_iload_n (pc := 0) C dX5_isKept_0 1 rfl ?_
  refine J_if_lt (pc := 1) (tgt := 27) C dX5_isKept_1 (by decide) h (fun h => ?_) (fun h => ?_)
  · refine J_iconst (v := (0 : Int32)) (pc := 27) C dX5_isKept_27 (by decide) ?_
    cases h
    exact J_zret (pc := 28) C dX5_isKept_28 hr rfl ⟨rfl, rfl⟩
  · refine J_iload_n (pc := 4) C dX5_isKept_4 1 rfl ?_
    refine J_aload_n (pc := 5) C dX5_isKept_5 0 rfl ?_
    refine J_get (pc := 6) C dX5_isKept_6 jf_X5 0 rfl rfl 1 (by decide) rfl fl_RX5_20 rfl ?_
    refine J_ic_ge (pc := 9) (tgt := 27) C dX5_isKept_9 (by decide) h (fun h => ?_) (fun h => ?_)
    · refine J_iconst (v := (0 : Int32)) (pc := 27) C dX5_isKept_27 (by decide) ?_
      cases h
      exact J_zret (pc := 28) C dX5_isKept_28 hr rfl ⟨rfl, rfl⟩
    · refine J_iload_n (pc := 12) C dX5_isKept_12 1 rfl ?_
      refine J_aload_n (pc := 13) C dX5_isKept_13 0 rfl ?_
      refine J_get (pc := 14) C dX5_isKept_14 jf_X5 0 rfl rfl 1 (by decide) rfl fl_RX5_20 rfl ?_
      refine J_bipush (v := (40 : Int32)) (pc := 17) C dX5_isKept_17 (by decide) ?_
      refine J_isub (pc := 19) C dX5_isKept_19 ?_
      refine J_ic_lt (pc := 20) (tgt := 27) C dX5_isKept_20 (by decide) h (fun h => ?_) (fun h => ?_)
      · refine J_iconst (v := (0 : Int32)) (pc := 27) C dX5_isKept_27 (by decide) ?_
        cases h
        exact J_zret (pc := 28) C dX5_isKept_28 hr rfl ⟨rfl, rfl⟩
      · refine J_iconst (v := (1 : Int32)) (pc := 23) C dX5_isKept_23 (by decide) ?_
        refine J_goto (tgt := 28) (pc := 24) C dX5_isKept_24 (by decide) ?_
        cases h
        exact J_zret (pc := 28) C dX5_isKept_28 hr rfl ⟨rfl, rfl⟩
-- PointsLedger$Row.contains(I)Z
theorem dX6_contains_0 : decode cX6_contains 0 = .ok (.iconst 0, 1) := by decide +kernel
theorem dX6_contains_1 : decode cX6_contains 1 = .ok (.istore_n 2, 1) := by decide +kernel
theorem dX6_contains_2 : decode cX6_contains 2 = .ok (.iload_n 2, 1) := by decide +kernel
theorem dX6_contains_3 : decode cX6_contains 3 = .ok (.aload_n 0, 1) := by decide +kernel
theorem dX6_contains_4 : decode cX6_contains 4 = .ok (.getfield 7, 3) := by decide +kernel
theorem dX6_contains_7 : decode cX6_contains 7 = .ok (.arraylength, 1) := by decide +kernel
theorem dX6_contains_8 : decode cX6_contains 8 = .ok (.if_icmp .ge 21, 3) := by decide +kernel
theorem dX6_contains_11 : decode cX6_contains 11 = .ok (.aload_n 0, 1) := by decide +kernel
theorem dX6_contains_12 : decode cX6_contains 12 = .ok (.getfield 7, 3) := by decide +kernel
theorem dX6_contains_15 : decode cX6_contains 15 = .ok (.iload_n 2, 1) := by decide +kernel
theorem dX6_contains_16 : decode cX6_contains 16 = .ok (.iaload, 1) := by decide +kernel
theorem dX6_contains_17 : decode cX6_contains 17 = .ok (.iload_n 1, 1) := by decide +kernel
theorem dX6_contains_18 : decode cX6_contains 18 = .ok (.if_icmp .ne 5, 3) := by decide +kernel
theorem dX6_contains_21 : decode cX6_contains 21 = .ok (.iconst 1, 1) := by decide +kernel
theorem dX6_contains_22 : decode cX6_contains 22 = .ok (.ireturn, 1) := by decide +kernel
theorem dX6_contains_23 : decode cX6_contains 23 = .ok (.iinc 2 1, 3) := by decide +kernel
theorem dX6_contains_26 : decode cX6_contains 26 = .ok (.goto (-24), 3) := by decide +kernel
theorem dX6_contains_29 : decode cX6_contains 29 = .ok (.iconst 0, 1) := by decide +kernel
theorem dX6_contains_30 : decode cX6_contains 30 = .ok (.ireturn, 1) := by decide +kernel
def f_X6_contains_b2 (x1 : Int32) (n_this_cells : Nat) (g_this_cells : Nat → Int32) : Nat → (Int32) → Option (Int32)
  | 0, _ => none
  | n + 1, x2 => (if (nI n_this_cells) ≤ x2 then (some (0 : Int32)) else (if x2 < 0 ∨ n_this_cells ≤ x2.toNatClampNeg then none else (if (g_this_cells x2.toNatClampNeg) = x1 then (some (1 : Int32)) else ((some (x2 + (1 : Int32))).bind fun y23 => (f_X6_contains_b2 x1 n_this_cells g_this_cells n y23)))))
def f_X6_contains (N : Nat) (x1 : Int32) (n_this_cells : Nat) (g_this_cells : Nat → Int32) : Option (Int32) :=
  (f_X6_contains_b2 x1 n_this_cells g_this_cells N (0 : Int32))
set_option maxHeartbeats 4000000 in
set_option maxRecDepth 100000 in
theorem t_X6_contains_b2 {l : Launch} {D : va_G} {cI cB cL cO : ClassId} {pf : Nat → Nat} {p : Program} {e : Env} {s : State} {m : MethodId} {args : Array Value} {below : List Frame} {meth : Method} {c : Code} {W0 : va_W} {a_this a_this_cells : Nat}  {n_this_cells : Nat} {g_this_cells : Nat → Int32} {x1 : Int32} {o : Int32} (C : jC p s m args meth c cX6_contains 3 RX6 D [(cI, .int), (cB, .byte), (cL, .long), (cO, .object RX0)] pf (va_A W0 s.heap.size)) (hr : meth.sig.returnType = (some FieldType.boolean)) : ∀ (n : Nat) (x2 : Int32), f_X6_contains_b2 x1 n_this_cells g_this_cells n x2 = some o → J p l e { frames := 0, cells := 0, slots := 0, locals := 0 } s m args below meth c 3 D (va_A W0 s.heap.size) (MQ below (jQ D [(cI, .int), (cB, .byte), (cL, .long), (cO, .object RX0)] W0 s.heap.size (is1 (some (.int o)) [(a_this, .inr (6, [.ref a_this_cells])), (a_this_cells, .inl (cI, n_this_cells, .inl g_this_cells))])) args s 0 0 (va_A W0 s.heap.size)) 0 0 2 [(0, .ref a_this), (1, .int x1), (2, .int x2)] [] [(a_this, .inr (6, [.ref a_this_cells])), (a_this_cells, .inl (cI, n_this_cells, .inl g_this_cells))] := by
  intro n
  induction n with
  | zero =>
    intro _ h
    rw [f_X6_contains_b2] at h
    cases h
  | succ n ih =>
    intro x2 h
    rw [f_X6_contains_b2] at h
    refine J_iload_n (pc := 2) C dX6_contains_2 2 rfl ?_
    refine J_aload_n (pc := 3) C dX6_contains_3 0 rfl ?_
    refine J_get (pc := 4) C dX6_contains_4 jf_X6 0 rfl rfl 0 (by decide) rfl fl_RX6_7 rfl ?_
    refine J_alen (pc := 7) C dX6_contains_7 1 0 rfl rfl ?_
    refine J_ic_ge (pc := 8) (tgt := 29) C dX6_contains_8 (by decide) h (fun h => ?_) (fun h => ?_)
    · refine J_iconst (v := (0 : Int32)) (pc := 29) C dX6_contains_29 (by decide) ?_
      cases h
      exact J_zret (pc := 30) C dX6_contains_30 hr rfl ⟨rfl, rfl⟩
    · refine J_aload_n (pc := 11) C dX6_contains_11 0 rfl ?_
      refine J_get (pc := 12) C dX6_contains_12 jf_X6 0 rfl rfl 0 (by decide) rfl fl_RX6_7 rfl ?_
      refine J_iload_n (pc := 15) C dX6_contains_15 2 rfl ?_
      refine J_iald (pc := 16) C dX6_contains_16 1 0 rfl rfl h (fun h => ?_)
      refine J_iload_n (pc := 17) C dX6_contains_17 1 rfl ?_
      refine J_ic_ne (pc := 18) (tgt := 23) C dX6_contains_18 (by decide) h (fun h => ?_) (fun h => ?_)
      · refine J_iincN (pc := 23) (v := (1 : Int32)) C (fun y23 => [(2, .int y23), (0, .ref a_this), (1, .int x1)]) dX6_contains_23 2 rfl (by decide) h (by decide) (fun _ => rfl) (fun y23 h => ?_)
        refine J_goto (tgt := 2) (pc := 26) C dX6_contains_26 (by decide) ?_
        refine J_sub (lv2 := [(0, .ref a_this), (1, .int x1), (2, .int y23)]) [1, 2, 0] rfl ?_
        exact ih _ h
      · refine J_iconst (v := (1 : Int32)) (pc := 21) C dX6_contains_21 (by decide) ?_
        cases h
        exact J_zret (pc := 22) C dX6_contains_22 hr rfl ⟨rfl, rfl⟩
set_option maxHeartbeats 4000000 in
set_option maxRecDepth 100000 in
theorem c_X6_contains (l : Launch) (D : va_G) (cI cB cL cO : ClassId) (pf : Nat → Nat) (N : Nat) (a_this a_this_cells : Nat) (n_this_cells : Nat) (g_this_cells : Nat → Int32) (x1 : Int32) (o : Int32) (h : f_X6_contains N x1 n_this_cells g_this_cells = some o) : Ct l D [(cI, .int), (cB, .byte), (cL, .long), (cO, .object RX0)] pf yX6_contains cX6_contains 3 (some FieldType.boolean) { frames := 0, cells := 0, slots := 0, locals := 0 } [.ref a_this, .int x1] [(a_this, .inr (6, [.ref a_this_cells])), (a_this_cells, .inl (cI, n_this_cells, .inl g_this_cells))] (is1 (some (.int o)) [(a_this, .inr (6, [.ref a_this_cells])), (a_this_cells, .inl (cI, n_this_cells, .inl g_this_cells))]) := by
  refine Ct_of (own := RX6) (lv0 := [(0, .ref a_this), (1, .int x1)]) (by decide) rfl rfl (Nat.le_of_ble_eq_true rfl) ?_
  intro p e s m args below meth c C hr hnm
  unfold f_X6_contains at h
  refine J_iconst (v := (0 : Int32)) (pc := 0) C dX6_contains_0 (by decide) ?_
  refine J_istore_n (lv2 := [(2, .int (0 : Int32)), (0, .ref a_this), (1, .int x1)]) (pc := 1) C dX6_contains_1 (by decide) rfl ?_
  refine J_sub (lv2 := [(0, .ref a_this), (1, .int x1), (2, .int (0 : Int32))]) [1, 2, 0] rfl ?_
  exact t_X6_contains_b2 C hr N _ h
