theorem dX6_at_0 : decode cX6_at 0 = .ok (.iload_n 1, 1) := by decide +kernel
theorem dX6_at_1 : decode cX6_at 1 = .ok (.ifCond .lt 21, 3) := by decide +kernel
theorem dX6_at_4 : decode cX6_at 4 = .ok (.iload_n 1, 1) := by decide +kernel
theorem dX6_at_5 : decode cX6_at 5 = .ok (.aload_n 0, 1) := by decide +kernel
theorem dX6_at_6 : decode cX6_at 6 = .ok (.getfield 7, 3) := by decide +kernel
theorem dX6_at_9 : decode cX6_at 9 = .ok (.arraylength, 1) := by decide +kernel
theorem dX6_at_10 : decode cX6_at 10 = .ok (.if_icmp .ge 12, 3) := by decide +kernel
theorem dX6_at_13 : decode cX6_at 13 = .ok (.aload_n 0, 1) := by decide +kernel
theorem dX6_at_14 : decode cX6_at 14 = .ok (.getfield 7, 3) := by decide +kernel
theorem dX6_at_17 : decode cX6_at 17 = .ok (.iload_n 1, 1) := by decide +kernel
theorem dX6_at_18 : decode cX6_at 18 = .ok (.iaload, 1) := by decide +kernel
theorem dX6_at_19 : decode cX6_at 19 = .ok (.goto 4, 3) := by decide +kernel
theorem dX6_at_22 : decode cX6_at 22 = .ok (.iconst 0, 1) := by decide +kernel
theorem dX6_at_23 : decode cX6_at 23 = .ok (.ireturn, 1) := by decide +kernel
def f_X6_at (x1 : Int32) (n_this_cells : Nat) (g_this_cells : Nat → Int32) : Option (Int32) :=
  (if x1 < 0 then (some (0 : Int32)) else (if (nI n_this_cells) ≤ x1 then (some (0 : Int32)) else (if x1 < 0 ∨ n_this_cells ≤ x1.toNatClampNeg then none else (some (g_this_cells x1.toNatClampNeg)))))
set_option maxHeartbeats 4000000 in
set_option maxRecDepth 100000 in
theorem c_X6_at (l : Launch) (D : va_G) (cI cB cL cO : ClassId) (pf : Nat → Nat) (N : Nat) (a_this a_this_cells : Nat) (n_this_cells : Nat) (g_this_cells : Nat → Int32) (x1 : Int32) (o : Int32) (h : f_X6_at x1 n_this_cells g_this_cells = some o) : Ct l D [(cI, .int), (cB, .byte), (cL, .long), (cO, .object RX0)] pf yX6_at cX6_at 2 (some FieldType.int) { frames := 0, cells := 0, slots := 0, locals := 0 } [.ref a_this, .int x1] [(a_this, .inr (6, [.ref a_this_cells])), (a_this_cells, .inl (cI, n_this_cells, .inl g_this_cells))] (is1 (some (.int o)) [(a_this, .inr (6, [.ref a_this_cells])), (a_this_cells, .inl (cI, n_this_cells, .inl g_this_cells))]) := by
  refine Ct_of (own := RX6) (lv0 := [(0, .ref a_this), (1, .int x1)]) (by decide) rfl rfl (Nat.le_of_ble_eq_true rfl) ?_
  intro p e s m args below meth c C hr hnm
  unfold f_X6_at at h
  refine J_iload_n (pc := 0) C dX6_at_0 1 rfl ?_
  refine J_if_lt (pc := 1) (tgt := 22) C dX6_at_1 (by decide) h (fun h => ?_) (fun h => ?_)
  · refine J_iconst (v := (0 : Int32)) (pc := 22) C dX6_at_22 (by decide) ?_
    cases h
    exact J_iret (pc := 23) C dX6_at_23 hr ⟨rfl, rfl⟩
  · refine J_iload_n (pc := 4) C dX6_at_4 1 rfl ?_
    refine J_aload_n (pc := 5) C dX6_at_5 0 rfl ?_
    refine J_get (pc := 6) C dX6_at_6 jf_X6 0 rfl rfl 0 (by decide) rfl fl_RX6_7 rfl ?_
    refine J_alen (pc := 9) C dX6_at_9 1 0 rfl rfl ?_
    refine J_ic_ge (pc := 10) (tgt := 22) C dX6_at_10 (by decide) h (fun h => ?_) (fun h => ?_)
    · refine J_iconst (v := (0 : Int32)) (pc := 22) C dX6_at_22 (by decide) ?_
      cases h
      exact J_iret (pc := 23) C dX6_at_23 hr ⟨rfl, rfl⟩
    · refine J_aload_n (pc := 13) C dX6_at_13 0 rfl ?_
      refine J_get (pc := 14) C dX6_at_14 jf_X6 0 rfl rfl 0 (by decide) rfl fl_RX6_7 rfl ?_
      refine J_iload_n (pc := 17) C dX6_at_17 1 rfl ?_
      refine J_iald (pc := 18) C dX6_at_18 1 0 rfl rfl h (fun h => ?_)
      refine J_goto (tgt := 23) (pc := 19) C dX6_at_19 (by decide) ?_
      cases h
      exact J_iret (pc := 23) C dX6_at_23 hr ⟨rfl, rfl⟩
theorem dX6_put_0 : decode cX6_put 0 = .ok (.iload_n 1, 1) := by decide +kernel
theorem dX6_put_1 : decode cX6_put 1 = .ok (.ifCond .lt 19, 3) := by decide +kernel
theorem dX6_put_4 : decode cX6_put 4 = .ok (.iload_n 1, 1) := by decide +kernel
theorem dX6_put_5 : decode cX6_put 5 = .ok (.aload_n 0, 1) := by decide +kernel
theorem dX6_put_6 : decode cX6_put 6 = .ok (.getfield 7, 3) := by decide +kernel
theorem dX6_put_9 : decode cX6_put 9 = .ok (.arraylength, 1) := by decide +kernel
theorem dX6_put_10 : decode cX6_put 10 = .ok (.if_icmp .ge 10, 3) := by decide +kernel
theorem dX6_put_13 : decode cX6_put 13 = .ok (.aload_n 0, 1) := by decide +kernel
theorem dX6_put_14 : decode cX6_put 14 = .ok (.getfield 7, 3) := by decide +kernel
theorem dX6_put_17 : decode cX6_put 17 = .ok (.iload_n 1, 1) := by decide +kernel
theorem dX6_put_18 : decode cX6_put 18 = .ok (.iload_n 2, 1) := by decide +kernel
theorem dX6_put_19 : decode cX6_put 19 = .ok (.iastore, 1) := by decide +kernel
theorem dX6_put_20 : decode cX6_put 20 = .ok (.return_, 1) := by decide +kernel
def f_X6_put (x1 : Int32) (x2 : Int32) (n_this_cells : Nat) (g_this_cells : Nat → Int32) : Option ((Nat → Int32)) :=
  (if x1 < 0 then (some g_this_cells) else (if (nI n_this_cells) ≤ x1 then (some g_this_cells) else (if x1 < 0 ∨ n_this_cells ≤ x1.toNatClampNeg then none else ((some (upd g_this_cells x1.toNatClampNeg x2)).bind fun h19 => (some h19)))))
set_option maxHeartbeats 4000000 in
set_option maxRecDepth 100000 in
theorem c_X6_put (l : Launch) (D : va_G) (cI cB cL cO : ClassId) (pf : Nat → Nat) (N : Nat) (a_this a_this_cells : Nat) (n_this_cells : Nat) (g_this_cells : Nat → Int32) (x1 : Int32) (x2 : Int32) (o : (Nat → Int32)) (h : f_X6_put x1 x2 n_this_cells g_this_cells = some o) : Ct l D [(cI, .int), (cB, .byte), (cL, .long), (cO, .object RX0)] pf yX6_put cX6_put 3 (none : Option FieldType) { frames := 0, cells := 0, slots := 0, locals := 0 } [.ref a_this, .int x1, .int x2] [(a_this, .inr (6, [.ref a_this_cells])), (a_this_cells, .inl (cI, n_this_cells, .inl g_this_cells))] (is1 (none) [(a_this, .inr (6, [.ref a_this_cells])), (a_this_cells, .inl (cI, n_this_cells, .inl o))]) := by
  refine Ct_of (own := RX6) (lv0 := [(0, .ref a_this), (1, .int x1), (2, .int x2)]) (by decide) rfl rfl (Nat.le_of_ble_eq_true rfl) ?_
  intro p e s m args below meth c C hr hnm
  unfold f_X6_put at h
  refine J_iload_n (pc := 0) C dX6_put_0 1 rfl ?_
  refine J_if_lt (pc := 1) (tgt := 20) C dX6_put_1 (by decide) h (fun h => ?_) (fun h => ?_)
  · cases h
    exact J_vret (pc := 20) C dX6_put_20 hr ⟨rfl, rfl⟩
  · refine J_iload_n (pc := 4) C dX6_put_4 1 rfl ?_
    refine J_aload_n (pc := 5) C dX6_put_5 0 rfl ?_
    refine J_get (pc := 6) C dX6_put_6 jf_X6 0 rfl rfl 0 (by decide) rfl fl_RX6_7 rfl ?_
    refine J_alen (pc := 9) C dX6_put_9 1 0 rfl rfl ?_
    refine J_ic_ge (pc := 10) (tgt := 20) C dX6_put_10 (by decide) h (fun h => ?_) (fun h => ?_)
    · cases h
      exact J_vret (pc := 20) C dX6_put_20 hr ⟨rfl, rfl⟩
    · refine J_aload_n (pc := 13) C dX6_put_13 0 rfl ?_
      refine J_get (pc := 14) C dX6_put_14 jf_X6 0 rfl rfl 0 (by decide) rfl fl_RX6_7 rfl ?_
      refine J_iload_n (pc := 17) C dX6_put_17 1 rfl ?_
      refine J_iload_n (pc := 18) C dX6_put_18 2 rfl ?_
      refine J_iastN (pc := 19) C (fun h19 => [(a_this, .inr (6, [.ref a_this_cells])), (a_this_cells, .inl (cI, n_this_cells, .inl h19))]) dX6_put_19 1 0 rfl rfl h (fun _ => rfl) (fun h19 h => ?_)
      cases h
      exact J_vret (pc := 20) C dX6_put_20 hr ⟨rfl, rfl⟩
theorem dX6_increase_0 : decode cX6_increase 0 = .ok (.iload_n 1, 1) := by decide +kernel
theorem dX6_increase_1 : decode cX6_increase 1 = .ok (.ifCond .lt 22, 3) := by decide +kernel
theorem dX6_increase_4 : decode cX6_increase 4 = .ok (.iload_n 1, 1) := by decide +kernel
theorem dX6_increase_5 : decode cX6_increase 5 = .ok (.aload_n 0, 1) := by decide +kernel
theorem dX6_increase_6 : decode cX6_increase 6 = .ok (.getfield 7, 3) := by decide +kernel
theorem dX6_increase_9 : decode cX6_increase 9 = .ok (.arraylength, 1) := by decide +kernel
theorem dX6_increase_10 : decode cX6_increase 10 = .ok (.if_icmp .ge 13, 3) := by decide +kernel
theorem dX6_increase_13 : decode cX6_increase 13 = .ok (.aload_n 0, 1) := by decide +kernel
theorem dX6_increase_14 : decode cX6_increase 14 = .ok (.getfield 7, 3) := by decide +kernel
theorem dX6_increase_17 : decode cX6_increase 17 = .ok (.iload_n 1, 1) := by decide +kernel
theorem dX6_increase_18 : decode cX6_increase 18 = .ok (.dup2, 1) := by decide +kernel
theorem dX6_increase_19 : decode cX6_increase 19 = .ok (.iaload, 1) := by decide +kernel
theorem dX6_increase_20 : decode cX6_increase 20 = .ok (.iload_n 2, 1) := by decide +kernel
theorem dX6_increase_21 : decode cX6_increase 21 = .ok (.iadd, 1) := by decide +kernel
theorem dX6_increase_22 : decode cX6_increase 22 = .ok (.iastore, 1) := by decide +kernel
theorem dX6_increase_23 : decode cX6_increase 23 = .ok (.return_, 1) := by decide +kernel
def f_X6_increase (x1 : Int32) (x2 : Int32) (n_this_cells : Nat) (g_this_cells : Nat → Int32) : Option ((Nat → Int32)) :=
  (if x1 < 0 then (some g_this_cells) else (if (nI n_this_cells) ≤ x1 then (some g_this_cells) else (if x1 < 0 ∨ n_this_cells ≤ x1.toNatClampNeg then none else (if x1 < 0 ∨ n_this_cells ≤ x1.toNatClampNeg then none else ((some (upd g_this_cells x1.toNatClampNeg ((g_this_cells x1.toNatClampNeg) + x2))).bind fun h22 => (some h22))))))
set_option maxHeartbeats 4000000 in
set_option maxRecDepth 100000 in
theorem c_X6_increase (l : Launch) (D : va_G) (cI cB cL cO : ClassId) (pf : Nat → Nat) (N : Nat) (a_this a_this_cells : Nat) (n_this_cells : Nat) (g_this_cells : Nat → Int32) (x1 : Int32) (x2 : Int32) (o : (Nat → Int32)) (h : f_X6_increase x1 x2 n_this_cells g_this_cells = some o) : Ct l D [(cI, .int), (cB, .byte), (cL, .long), (cO, .object RX0)] pf yX6_increase cX6_increase 3 (none : Option FieldType) { frames := 0, cells := 0, slots := 0, locals := 0 } [.ref a_this, .int x1, .int x2] [(a_this, .inr (6, [.ref a_this_cells])), (a_this_cells, .inl (cI, n_this_cells, .inl g_this_cells))] (is1 (none) [(a_this, .inr (6, [.ref a_this_cells])), (a_this_cells, .inl (cI, n_this_cells, .inl o))]) := by
  refine Ct_of (own := RX6) (lv0 := [(0, .ref a_this), (1, .int x1), (2, .int x2)]) (by decide) rfl rfl (Nat.le_of_ble_eq_true rfl) ?_
  intro p e s m args below meth c C hr hnm
  unfold f_X6_increase at h
  refine J_iload_n (pc := 0) C dX6_increase_0 1 rfl ?_
  refine J_if_lt (pc := 1) (tgt := 23) C dX6_increase_1 (by decide) h (fun h => ?_) (fun h => ?_)
  · cases h
    exact J_vret (pc := 23) C dX6_increase_23 hr ⟨rfl, rfl⟩
  · refine J_iload_n (pc := 4) C dX6_increase_4 1 rfl ?_
    refine J_aload_n (pc := 5) C dX6_increase_5 0 rfl ?_
    refine J_get (pc := 6) C dX6_increase_6 jf_X6 0 rfl rfl 0 (by decide) rfl fl_RX6_7 rfl ?_
    refine J_alen (pc := 9) C dX6_increase_9 1 0 rfl rfl ?_
    refine J_ic_ge (pc := 10) (tgt := 23) C dX6_increase_10 (by decide) h (fun h => ?_) (fun h => ?_)
    · cases h
      exact J_vret (pc := 23) C dX6_increase_23 hr ⟨rfl, rfl⟩
    · refine J_aload_n (pc := 13) C dX6_increase_13 0 rfl ?_
      refine J_get (pc := 14) C dX6_increase_14 jf_X6 0 rfl rfl 0 (by decide) rfl fl_RX6_7 rfl ?_
      refine J_iload_n (pc := 17) C dX6_increase_17 1 rfl ?_
      refine J_dup2 (pc := 18) C dX6_increase_18 rfl rfl ?_
      refine J_iald (pc := 19) C dX6_increase_19 1 0 rfl rfl h (fun h => ?_)
      refine J_iload_n (pc := 20) C dX6_increase_20 2 rfl ?_
      refine J_iadd (pc := 21) C dX6_increase_21 ?_
      refine J_iastN (pc := 22) C (fun h22 => [(a_this, .inr (6, [.ref a_this_cells])), (a_this_cells, .inl (cI, n_this_cells, .inl h22))]) dX6_increase_22 1 0 rfl rfl h (fun _ => rfl) (fun h22 h => ?_)
      cases h
      exact J_vret (pc := 23) C dX6_increase_23 hr ⟨rfl, rfl⟩
theorem dX6_contains_0 : decode cX6_contains 0 = .ok (.iconst 0, 1) := by decide +kernel
theorem dX6_contains_1 : decode cX6_contains 1 = .ok (.istore_n 2, 1) := by decide +kernel
theorem dX6_contains_2 : decode cX6_contains 2 = .ok (.iload_n 2, 1) := by decide +kernel
theorem dX6_contains_3 : decode cX6_contains 3 = .ok (.aload_n 0, 1) := by decide +kernel
theorem dX6_contains_4 : decode cX6_contains 4 = .ok (.getfield 7, 3) := by decide +kernel
theorem dX6_contains_7 : decode cX6_contains 7 = .ok (.arraylength, 1) := by decide +kernel
theorem dX6_contains_8 : decode cX6_contains 8 = .ok (.if_icmp .ge 21, 3) := by decide +kernel
theorem dX6_contains_11 : decode cX6_contains 11 = .ok (.aload_n 0, 1) := by decide +kernel
theorem dX6_contains_12 : decode cX6_contains 12 = .ok (.getfield 7, 3) := by decide +kernel
theorem dX6_contains_15 : decode cX6_contains 15 = .ok (.iload_n 2, 1) := by decide +kernel
theorem dX6_contains_16 : decode cX6_contains 16 = .ok (.iaload, 1) := by decide +kernel
theorem dX6_contains_17 : decode cX6_contains 17 = .ok (.iload_n 1, 1) := by decide +kernel
theorem dX6_contains_18 : decode cX6_contains 18 = .ok (.if_icmp .ne 5, 3) := by decide +kernel
theorem dX6_contains_21 : decode cX6_contains 21 = .ok (.iconst 1, 1) := by decide +kernel
theorem dX6_contains_22 : decode cX6_contains 22 = .ok (.ireturn, 1) := by decide +kernel
theorem dX6_contains_23 : decode cX6_contains 23 = .ok (.iinc 2 1, 3) := by decide +kernel
theorem dX6_contains_26 : decode cX6_contains 26 = .ok (.goto (-24), 3) := by decide +kernel
theorem dX6_contains_29 : decode cX6_contains 29 = .ok (.iconst 0, 1) := by decide +kernel
theorem dX6_contains_30 : decode cX6_contains 30 = .ok (.ireturn, 1) := by decide +kernel
def f_X6_contains_b2 (x1 : Int32) (n_this_cells : Nat) (g_this_cells : Nat → Int32) : Nat → (Int32) → Option (Int32)
  | 0, _ => none
  | n + 1, x2 => (if (nI n_this_cells) ≤ x2 then (some (0 : Int32)) else (if x2 < 0 ∨ n_this_cells ≤ x2.toNatClampNeg then none else (if (g_this_cells x2.toNatClampNeg) = x1 then (some (1 : Int32)) else ((some (x2 + (1 : Int32))).bind fun y23 => (f_X6_contains_b2 x1 n_this_cells g_this_cells n y23)))))
def f_X6_contains (N : Nat) (x1 : Int32) (n_this_cells : Nat) (g_this_cells : Nat → Int32) : Option (Int32) :=
  (f_X6_contains_b2 x1 n_this_cells g_this_cells N (0 : Int32))
set_option maxHeartbeats 4000000 in
set_option maxRecDepth 100000 in
theorem t_X6_contains_b2 {l : Launch} {D : va_G} {cI cB cL cO : ClassId} {pf : Nat → Nat} {p : Program} {e : Env} {s : State} {m : MethodId} {args : Array Value} {below : List Frame} {meth : Method} {c : Code} {W0 : va_W} {a_this a_this_cells : Nat}  {n_this_cells : Nat} {g_this_cells : Nat → Int32} {x1 : Int32} {o : Int32} (C : jC p s m args meth c cX6_contains 3 RX6 D [(cI, .int), (cB, .byte), (cL, .long), (cO, .object RX0)] pf (va_A W0 s.heap.size)) (hr : meth.sig.returnType = (some FieldType.boolean)) : ∀ (n : Nat) (x2 : Int32), f_X6_contains_b2 x1 n_this_cells g_this_cells n x2 = some o → J p l e { frames := 0, cells := 0, slots := 0, locals := 0 } s m args below meth c 3 D (va_A W0 s.heap.size) (MQ below (jQ D [(cI, .int), (cB, .byte), (cL, .long), (cO, .object RX0)] W0 s.heap.size (is1 (some (.int o)) [(a_this, .inr (6, [.ref a_this_cells])), (a_this_cells, .inl (cI, n_this_cells, .inl g_this_cells))])) args s 0 0 (va_A W0 s.heap.size)) 0 0 2 [(0, .ref a_this), (1, .int x1), (2, .int x2)] [] [(a_this, .inr (6, [.ref a_this_cells])), (a_this_cells, .inl (cI, n_this_cells, .inl g_this_cells))] := by
  intro n
  induction n with
  | zero =>
    intro _ h
    rw [f_X6_contains_b2] at h
    cases h
  | succ n ih =>
    intro x2 h
    rw [f_X6_contains_b2] at h
    refine J_iload_n (pc := 2) C dX6_contains_2 2 rfl ?_
    refine J_aload_n (pc := 3) C dX6_contains_3 0 rfl ?_
    refine J_get (pc := 4) C dX6_contains_4 jf_X6 0 rfl rfl 0 (by decide) rfl fl_RX6_7 rfl ?_
    refine J_alen (pc := 7) C dX6_contains_7 1 0 rfl rfl ?_
    refine J_ic_ge (pc := 8) (tgt := 29) C dX6_contains_8 (by decide) h (fun h => ?_) (fun h => ?_)
    · refine J_iconst (v := (0 : Int32)) (pc := 29) C dX6_contains_29 (by decide) ?_
      cases h
      exact J_zret (pc := 30) C dX6_contains_30 hr rfl ⟨rfl, rfl⟩
    · refine J_aload_n (pc := 11) C dX6_contains_11 0 rfl ?_
      refine J_get (pc := 12) C dX6_contains_12 jf_X6 0 rfl rfl 0 (by decide) rfl fl_RX6_7 rfl ?_
      refine J_iload_n (pc := 15) C dX6_contains_15 2 rfl ?_
      refine J_iald (pc := 16) C dX6_contains_16 1 0 rfl rfl h (fun h => ?_)
      refine J_iload_n (pc := 17) C dX6_contains_17 1 rfl ?_
      refine J_ic_ne (pc := 18) (tgt := 23) C dX6_contains_18 (by decide) h (fun h => ?_) (fun h => ?_)
      · refine J_iincN (pc := 23) (v := (1 : Int32)) C (fun y23 => [(2, .int y23), (0, .ref a_this), (1, .int x1)]) dX6_contains_23 2 rfl (by decide) h (by decide) (fun _ => rfl) (fun y23 h => ?_)
        refine J_goto (tgt := 2) (pc := 26) C dX6_contains_26 (by decide) ?_
        refine J_sub (lv2 := [(0, .ref a_this), (1, .int x1), (2, .int y23)]) [1, 2, 0] rfl ?_
        exact ih _ h
      · refine J_iconst (v := (1 : Int32)) (pc := 21) C dX6_contains_21 (by decide) ?_
        cases h
        exact J_zret (pc := 22) C dX6_contains_22 hr rfl ⟨rfl, rfl⟩
set_option maxHeartbeats 4000000 in
set_option maxRecDepth 100000 in
theorem c_X6_contains (l : Launch) (D : va_G) (cI cB cL cO : ClassId) (pf : Nat → Nat) (N : Nat) (a_this a_this_cells : Nat) (n_this_cells : Nat) (g_this_cells : Nat → Int32) (x1 : Int32) (o : Int32) (h : f_X6_contains N x1 n_this_cells g_this_cells = some o) : Ct l D [(cI, .int), (cB, .byte), (cL, .long), (cO, .object RX0)] pf yX6_contains cX6_contains 3 (some FieldType.boolean) { frames := 0, cells := 0, slots := 0, locals := 0 } [.ref a_this, .int x1] [(a_this, .inr (6, [.ref a_this_cells])), (a_this_cells, .inl (cI, n_this_cells, .inl g_this_cells))] (is1 (some (.int o)) [(a_this, .inr (6, [.ref a_this_cells])), (a_this_cells, .inl (cI, n_this_cells, .inl g_this_cells))]) := by
  refine Ct_of (own := RX6) (lv0 := [(0, .ref a_this), (1, .int x1)]) (by decide) rfl rfl (Nat.le_of_ble_eq_true rfl) ?_
  intro p e s m args below meth c C hr hnm
  unfold f_X6_contains at h
  refine J_iconst (v := (0 : Int32)) (pc := 0) C dX6_contains_0 (by decide) ?_
  refine J_istore_n (lv2 := [(2, .int (0 : Int32)), (0, .ref a_this), (1, .int x1)]) (pc := 1) C dX6_contains_1 (by decide) rfl ?_
  refine J_sub (lv2 := [(0, .ref a_this), (1, .int x1), (2, .int (0 : Int32))]) [1, 2, 0] rfl ?_
  exact t_X6_contains_b2 C hr N _ h
theorem dX6_fill_0 : decode cX6_fill 0 = .ok (.iconst 0, 1) := by decide +kernel
theorem dX6_fill_1 : decode cX6_fill 1 = .ok (.istore_n 2, 1) := by decide +kernel
theorem dX6_fill_2 : decode cX6_fill 2 = .ok (.iload_n 2, 1) := by decide +kernel
theorem dX6_fill_3 : decode cX6_fill 3 = .ok (.aload_n 0, 1) := by decide +kernel
theorem dX6_fill_4 : decode cX6_fill 4 = .ok (.getfield 7, 3) := by decide +kernel
theorem dX6_fill_7 : decode cX6_fill 7 = .ok (.arraylength, 1) := by decide +kernel
theorem dX6_fill_8 : decode cX6_fill 8 = .ok (.if_icmp .ge 16, 3) := by decide +kernel
theorem dX6_fill_11 : decode cX6_fill 11 = .ok (.aload_n 0, 1) := by decide +kernel
theorem dX6_fill_12 : decode cX6_fill 12 = .ok (.getfield 7, 3) := by decide +kernel
theorem dX6_fill_15 : decode cX6_fill 15 = .ok (.iload_n 2, 1) := by decide +kernel
theorem dX6_fill_16 : decode cX6_fill 16 = .ok (.iload_n 1, 1) := by decide +kernel
theorem dX6_fill_17 : decode cX6_fill 17 = .ok (.iastore, 1) := by decide +kernel
theorem dX6_fill_18 : decode cX6_fill 18 = .ok (.iinc 2 1, 3) := by decide +kernel
theorem dX6_fill_21 : decode cX6_fill 21 = .ok (.goto (-19), 3) := by decide +kernel
theorem dX6_fill_24 : decode cX6_fill 24 = .ok (.return_, 1) := by decide +kernel
def f_X6_fill_b2 (x1 : Int32) (n_this_cells : Nat) : Nat → (Int32) → (Nat → Int32) → Option ((Nat → Int32))
  | 0, _, _ => none
  | n + 1, x2, g_this_cells => (if (nI n_this_cells) ≤ x2 then (some g_this_cells) else (if x2 < 0 ∨ n_this_cells ≤ x2.toNatClampNeg then none else ((some (upd g_this_cells x2.toNatClampNeg x1)).bind fun h17 => ((some (x2 + (1 : Int32))).bind fun y18 => (f_X6_fill_b2 x1 n_this_cells n y18 h17)))))
def f_X6_fill (N : Nat) (x1 : Int32) (n_this_cells : Nat) (g_this_cells : Nat → Int32) : Option ((Nat → Int32)) :=
  (f_X6_fill_b2 x1 n_this_cells N (0 : Int32) g_this_cells)
set_option maxHeartbeats 4000000 in
set_option maxRecDepth 100000 in
theorem t_X6_fill_b2 {l : Launch} {D : va_G} {cI cB cL cO : ClassId} {pf : Nat → Nat} {p : Program} {e : Env} {s : State} {m : MethodId} {args : Array Value} {below : List Frame} {meth : Method} {c : Code} {W0 : va_W} {a_this a_this_cells : Nat}  {n_this_cells : Nat} {x1 : Int32} {o : (Nat → Int32)} (C : jC p s m args meth c cX6_fill 3 RX6 D [(cI, .int), (cB, .byte), (cL, .long), (cO, .object RX0)] pf (va_A W0 s.heap.size)) (hr : meth.sig.returnType = (none : Option FieldType)) : ∀ (n : Nat) (x2 : Int32) (g_this_cells : Nat → Int32), f_X6_fill_b2 x1 n_this_cells n x2 g_this_cells = some o → J p l e { frames := 0, cells := 0, slots := 0, locals := 0 } s m args below meth c 3 D (va_A W0 s.heap.size) (MQ below (jQ D [(cI, .int), (cB, .byte), (cL, .long), (cO, .object RX0)] W0 s.heap.size (is1 (none) [(a_this, .inr (6, [.ref a_this_cells])), (a_this_cells, .inl (cI, n_this_cells, .inl o))])) args s 0 0 (va_A W0 s.heap.size)) 0 0 2 [(0, .ref a_this), (1, .int x1), (2, .int x2)] [] [(a_this, .inr (6, [.ref a_this_cells])), (a_this_cells, .inl (cI, n_this_cells, .inl g_this_cells))] := by
  intro n
  induction n with
  | zero =>
    intro _ _ h
    rw [f_X6_fill_b2] at h
    cases h
  | succ n ih =>
    intro x2 g_this_cells h
    rw [f_X6_fill_b2] at h
    refine J_iload_n (pc := 2) C dX6_fill_2 2 rfl ?_
    refine J_aload_n (pc := 3) C dX6_fill_3 0 rfl ?_
    refine J_get (pc := 4) C dX6_fill_4 jf_X6 0 rfl rfl 0 (by decide) rfl fl_RX6_7 rfl ?_
    refine J_alen (pc := 7) C dX6_fill_7 1 0 rfl rfl ?_
    refine J_ic_ge (pc := 8) (tgt := 24) C dX6_fill_8 (by decide) h (fun h => ?_) (fun h => ?_)
    · cases h
      exact J_vret (pc := 24) C dX6_fill_24 hr ⟨rfl, rfl⟩
    · refine J_aload_n (pc := 11) C dX6_fill_11 0 rfl ?_
      refine J_get (pc := 12) C dX6_fill_12 jf_X6 0 rfl rfl 0 (by decide) rfl fl_RX6_7 rfl ?_
      refine J_iload_n (pc := 15) C dX6_fill_15 2 rfl ?_
      refine J_iload_n (pc := 16) C dX6_fill_16 1 rfl ?_
      refine J_iastN (pc := 17) C (fun h17 => [(a_this, .inr (6, [.ref a_this_cells])), (a_this_cells, .inl (cI, n_this_cells, .inl h17))]) dX6_fill_17 1 0 rfl rfl h (fun _ => rfl) (fun h17 h => ?_)
      refine J_iincN (pc := 18) (v := (1 : Int32)) C (fun y18 => [(2, .int y18), (0, .ref a_this), (1, .int x1)]) dX6_fill_18 2 rfl (by decide) h (by decide) (fun _ => rfl) (fun y18 h => ?_)
      refine J_goto (tgt := 2) (pc := 21) C dX6_fill_21 (by decide) ?_
      refine J_sub (lv2 := [(0, .ref a_this), (1, .int x1), (2, .int y18)]) [1, 2, 0] rfl ?_
      exact ih _ _ h
set_option maxHeartbeats 4000000 in
set_option maxRecDepth 100000 in
theorem c_X6_fill (l : Launch) (D : va_G) (cI cB cL cO : ClassId) (pf : Nat → Nat) (N : Nat) (a_this a_this_cells : Nat) (n_this_cells : Nat) (g_this_cells : Nat → Int32) (x1 : Int32) (o : (Nat → Int32)) (h : f_X6_fill N x1 n_this_cells g_this_cells = some o) : Ct l D [(cI, .int), (cB, .byte), (cL, .long), (cO, .object RX0)] pf yX6_fill cX6_fill 3 (none : Option FieldType) { frames := 0, cells := 0, slots := 0, locals := 0 } [.ref a_this, .int x1] [(a_this, .inr (6, [.ref a_this_cells])), (a_this_cells, .inl (cI, n_this_cells, .inl g_this_cells))] (is1 (none) [(a_this, .inr (6, [.ref a_this_cells])), (a_this_cells, .inl (cI, n_this_cells, .inl o))]) := by
  refine Ct_of (own := RX6) (lv0 := [(0, .ref a_this), (1, .int x1)]) (by decide) rfl rfl (Nat.le_of_ble_eq_true rfl) ?_
  intro p e s m args below meth c C hr hnm
  unfold f_X6_fill at h
  refine J_iconst (v := (0 : Int32)) (pc := 0) C dX6_fill_0 (by decide) ?_
  refine J_istore_n (lv2 := [(2, .int (0 : Int32)), (0, .ref a_this), (1, .int x1)]) (pc := 1) C dX6_fill_1 (by decide) rfl ?_
  refine J_sub (lv2 := [(0, .ref a_this), (1, .int x1), (2, .int (0 : Int32))]) [1, 2, 0] rfl ?_
  exact t_X6_fill_b2 C hr N _ _ h
theorem dX6_sumFrom_0 : decode cX6_sumFrom 0 = .ok (.iconst 0, 1) := by decide +kernel
theorem dX6_sumFrom_1 : decode cX6_sumFrom 1 = .ok (.istore_n 2, 1) := by decide +kernel
theorem dX6_sumFrom_2 : decode cX6_sumFrom 2 = .ok (.iload_n 1, 1) := by decide +kernel
theorem dX6_sumFrom_3 : decode cX6_sumFrom 3 = .ok (.iconst 0, 1) := by decide +kernel
theorem dX6_sumFrom_4 : decode cX6_sumFrom 4 = .ok (.invokestatic 13, 3) := by decide +kernel
theorem dX6_sumFrom_7 : decode cX6_sumFrom 7 = .ok (.istore_n 3, 1) := by decide +kernel
theorem dX6_sumFrom_8 : decode cX6_sumFrom 8 = .ok (.iload_n 3, 1) := by decide +kernel
theorem dX6_sumFrom_9 : decode cX6_sumFrom 9 = .ok (.aload_n 0, 1) := by decide +kernel
theorem dX6_sumFrom_10 : decode cX6_sumFrom 10 = .ok (.getfield 7, 3) := by decide +kernel
theorem dX6_sumFrom_13 : decode cX6_sumFrom 13 = .ok (.arraylength, 1) := by decide +kernel
theorem dX6_sumFrom_14 : decode cX6_sumFrom 14 = .ok (.if_icmp .ge 18, 3) := by decide +kernel
theorem dX6_sumFrom_17 : decode cX6_sumFrom 17 = .ok (.iload_n 2, 1) := by decide +kernel
theorem dX6_sumFrom_18 : decode cX6_sumFrom 18 = .ok (.aload_n 0, 1) := by decide +kernel
theorem dX6_sumFrom_19 : decode cX6_sumFrom 19 = .ok (.getfield 7, 3) := by decide +kernel
theorem dX6_sumFrom_22 : decode cX6_sumFrom 22 = .ok (.iload_n 3, 1) := by decide +kernel
theorem dX6_sumFrom_23 : decode cX6_sumFrom 23 = .ok (.iaload, 1) := by decide +kernel
theorem dX6_sumFrom_24 : decode cX6_sumFrom 24 = .ok (.iadd, 1) := by decide +kernel
theorem dX6_sumFrom_25 : decode cX6_sumFrom 25 = .ok (.istore_n 2, 1) := by decide +kernel
theorem dX6_sumFrom_26 : decode cX6_sumFrom 26 = .ok (.iinc 3 1, 3) := by decide +kernel
theorem dX6_sumFrom_29 : decode cX6_sumFrom 29 = .ok (.goto (-21), 3) := by decide +kernel
theorem dX6_sumFrom_32 : decode cX6_sumFrom 32 = .ok (.iload_n 2, 1) := by decide +kernel
theorem dX6_sumFrom_33 : decode cX6_sumFrom 33 = .ok (.ireturn, 1) := by decide +kernel
def f_X6_sumFrom_b8 (n_this_cells : Nat) (g_this_cells : Nat → Int32) : Nat → (Int32) → (Int32) → Option (Int32)
  | 0, _, _ => none
  | n + 1, x2, x3 => (if (nI n_this_cells) ≤ x3 then (some x2) else (if x3 < 0 ∨ n_this_cells ≤ x3.toNatClampNeg then none else ((some (x2 + (g_this_cells x3.toNatClampNeg))).bind fun y25 => ((some (x3 + (1 : Int32))).bind fun y26 => (f_X6_sumFrom_b8 n_this_cells g_this_cells n y25 y26)))))
def f_X6_sumFrom (N : Nat) (x1 : Int32) (n_this_cells : Nat) (g_this_cells : Nat → Int32) : Option (Int32) :=
  ((some (if x1 < (0 : Int32) then (0 : Int32) else x1)).bind fun y7 => (f_X6_sumFrom_b8 n_this_cells g_this_cells N (0 : Int32) y7))
set_option maxHeartbeats 4000000 in
set_option maxRecDepth 100000 in
theorem t_X6_sumFrom_b8 {l : Launch} {D : va_G} {cI cB cL cO : ClassId} {pf : Nat → Nat} {p : Program} {e : Env} {s : State} {m : MethodId} {args : Array Value} {below : List Frame} {meth : Method} {c : Code} {W0 : va_W} {a_this a_this_cells : Nat}  {n_this_cells : Nat} {g_this_cells : Nat → Int32} {o : Int32} (C : jC p s m args meth c cX6_sumFrom 4 RX6 D [(cI, .int), (cB, .byte), (cL, .long), (cO, .object RX0)] pf (va_A W0 s.heap.size)) (hr : meth.sig.returnType = (some FieldType.int)) : ∀ (n : Nat) (x2 : Int32) (x3 : Int32), f_X6_sumFrom_b8 n_this_cells g_this_cells n x2 x3 = some o → J p l e { frames := 1, cells := 0, slots := 0, locals := 24 } s m args below meth c 4 D (va_A W0 s.heap.size) (MQ below (jQ D [(cI, .int), (cB, .byte), (cL, .long), (cO, .object RX0)] W0 s.heap.size (is1 (some (.int o)) [(a_this, .inr (6, [.ref a_this_cells])), (a_this_cells, .inl (cI, n_this_cells, .inl g_this_cells))])) args s 0 0 (va_A W0 s.heap.size)) 0 0 8 [(0, .ref a_this), (2, .int x2), (3, .int x3)] [] [(a_this, .inr (6, [.ref a_this_cells])), (a_this_cells, .inl (cI, n_this_cells, .inl g_this_cells))] := by
  intro n
  induction n with
  | zero =>
    intro _ _ h
    rw [f_X6_sumFrom_b8] at h
    cases h
  | succ n ih =>
    intro x2 x3 h
    rw [f_X6_sumFrom_b8] at h
    refine J_iload_n (pc := 8) C dX6_sumFrom_8 2 rfl ?_
    refine J_aload_n (pc := 9) C dX6_sumFrom_9 0 rfl ?_
    refine J_get (pc := 10) C dX6_sumFrom_10 jf_X6 0 rfl rfl 0 (by decide) rfl fl_RX6_7 rfl ?_
    refine J_alen (pc := 13) C dX6_sumFrom_13 1 0 rfl rfl ?_
    refine J_ic_ge (pc := 14) (tgt := 32) C dX6_sumFrom_14 (by decide) h (fun h => ?_) (fun h => ?_)
    · refine J_iload_n (pc := 32) C dX6_sumFrom_32 1 rfl ?_
      cases h
      exact J_iret (pc := 33) C dX6_sumFrom_33 hr ⟨rfl, rfl⟩
    · refine J_iload_n (pc := 17) C dX6_sumFrom_17 1 rfl ?_
      refine J_aload_n (pc := 18) C dX6_sumFrom_18 0 rfl ?_
      refine J_get (pc := 19) C dX6_sumFrom_19 jf_X6 0 rfl rfl 0 (by decide) rfl fl_RX6_7 rfl ?_
      refine J_iload_n (pc := 22) C dX6_sumFrom_22 2 rfl ?_
      refine J_iald (pc := 23) C dX6_sumFrom_23 1 0 rfl rfl h (fun h => ?_)
      refine J_iadd (pc := 24) C dX6_sumFrom_24 ?_
      refine J_istore_nN (pc := 25) C (fun y25 => [(2, .int y25), (0, .ref a_this), (3, .int x3)]) dX6_sumFrom_25 h (by decide) (fun _ => rfl) (fun y25 h => ?_)
      refine J_iincN (pc := 26) (v := (1 : Int32)) C (fun y26 => [(3, .int y26), (2, .int y25), (0, .ref a_this)]) dX6_sumFrom_26 2 rfl (by decide) h (by decide) (fun _ => rfl) (fun y26 h => ?_)
      refine J_goto (tgt := 8) (pc := 29) C dX6_sumFrom_29 (by decide) ?_
      refine J_sub (lv2 := [(0, .ref a_this), (2, .int y25), (3, .int y26)]) [2, 1, 0] rfl ?_
      exact ih _ _ h
set_option maxHeartbeats 4000000 in
set_option maxRecDepth 100000 in
theorem c_X6_sumFrom (l : Launch) (D : va_G) (cI cB cL cO : ClassId) (pf : Nat → Nat) (N : Nat) (a_this a_this_cells : Nat) (n_this_cells : Nat) (g_this_cells : Nat → Int32) (x1 : Int32) (o : Int32) (h : f_X6_sumFrom N x1 n_this_cells g_this_cells = some o) : Ct l D [(cI, .int), (cB, .byte), (cL, .long), (cO, .object RX0)] pf yX6_sumFrom cX6_sumFrom 4 (some FieldType.int) { frames := 1, cells := 0, slots := 0, locals := 24 } [.ref a_this, .int x1] [(a_this, .inr (6, [.ref a_this_cells])), (a_this_cells, .inl (cI, n_this_cells, .inl g_this_cells))] (is1 (some (.int o)) [(a_this, .inr (6, [.ref a_this_cells])), (a_this_cells, .inl (cI, n_this_cells, .inl g_this_cells))]) := by
  refine Ct_of (own := RX6) (lv0 := [(0, .ref a_this), (1, .int x1)]) (by decide) rfl rfl (Nat.le_of_ble_eq_true rfl) ?_
  intro p e s m args below meth c C hr hnm
  unfold f_X6_sumFrom at h
  refine J_iconst (v := (0 : Int32)) (pc := 0) C dX6_sumFrom_0 (by decide) ?_
  refine J_istore_n (lv2 := [(2, .int (0 : Int32)), (0, .ref a_this), (1, .int x1)]) (pc := 1) C dX6_sumFrom_1 (by decide) rfl ?_
  refine J_iload_n (pc := 2) C dX6_sumFrom_2 2 rfl ?_
  refine J_iconst (v := (0 : Int32)) (pc := 3) C dX6_sumFrom_3 (by decide) ?_
  refine J_mmax (pc := 4) C dX6_sumFrom_4 ml_RX6_13 w_max (Nat.le_of_ble_eq_true rfl) (Nat.le_of_ble_eq_true rfl) ⟨Nat.zero_le _, Nat.zero_le _⟩ ?_
  refine J_istore_nN (pc := 7) C (fun y7 => [(3, .int y7), (2, .int (0 : Int32)), (0, .ref a_this), (1, .int x1)]) dX6_sumFrom_7 h (by decide) (fun _ => rfl) (fun y7 h => ?_)
  refine J_sub (lv2 := [(0, .ref a_this), (2, .int (0 : Int32)), (3, .int y7)]) [2, 1, 0] rfl ?_
  exact t_X6_sumFrom_b8 C hr N _ _ h
theorem dX6_copyFirst_0 : decode cX6_copyFirst 0 = .ok (.iload_n 2, 1) := by decide +kernel
theorem dX6_copyFirst_1 : decode cX6_copyFirst 1 = .ok (.aload_n 0, 1) := by decide +kernel
theorem dX6_copyFirst_2 : decode cX6_copyFirst 2 = .ok (.getfield 7, 3) := by decide +kernel
theorem dX6_copyFirst_5 : decode cX6_copyFirst 5 = .ok (.arraylength, 1) := by decide +kernel
theorem dX6_copyFirst_6 : decode cX6_copyFirst 6 = .ok (.aload_n 1, 1) := by decide +kernel
theorem dX6_copyFirst_7 : decode cX6_copyFirst 7 = .ok (.getfield 7, 3) := by decide +kernel
theorem dX6_copyFirst_10 : decode cX6_copyFirst 10 = .ok (.arraylength, 1) := by decide +kernel
theorem dX6_copyFirst_11 : decode cX6_copyFirst 11 = .ok (.invokestatic 23, 3) := by decide +kernel
theorem dX6_copyFirst_14 : decode cX6_copyFirst 14 = .ok (.invokestatic 23, 3) := by decide +kernel
theorem dX6_copyFirst_17 : decode cX6_copyFirst 17 = .ok (.istore_n 3, 1) := by decide +kernel
theorem dX6_copyFirst_18 : decode cX6_copyFirst 18 = .ok (.iload_n 3, 1) := by decide +kernel
theorem dX6_copyFirst_19 : decode cX6_copyFirst 19 = .ok (.ifCond .le 17, 3) := by decide +kernel
theorem dX6_copyFirst_22 : decode cX6_copyFirst 22 = .ok (.aload_n 1, 1) := by decide +kernel
theorem dX6_copyFirst_23 : decode cX6_copyFirst 23 = .ok (.getfield 7, 3) := by decide +kernel
theorem dX6_copyFirst_26 : decode cX6_copyFirst 26 = .ok (.iconst 0, 1) := by decide +kernel
theorem dX6_copyFirst_27 : decode cX6_copyFirst 27 = .ok (.aload_n 0, 1) := by decide +kernel
theorem dX6_copyFirst_28 : decode cX6_copyFirst 28 = .ok (.getfield 7, 3) := by decide +kernel
theorem dX6_copyFirst_31 : decode cX6_copyFirst 31 = .ok (.iconst 0, 1) := by decide +kernel
theorem dX6_copyFirst_32 : decode cX6_copyFirst 32 = .ok (.iload_n 3, 1) := by decide +kernel
theorem dX6_copyFirst_33 : decode cX6_copyFirst 33 = .ok (.invokestatic 26, 3) := by decide +kernel
theorem dX6_copyFirst_36 : decode cX6_copyFirst 36 = .ok (.return_, 1) := by decide +kernel
def f_X6_copyFirst (x2 : Int32) (n_this_cells : Nat) (n_p1_cells : Nat) (g_this_cells : Nat → Int32) (g_p1_cells : Nat → Int32) : Option ((Nat → Int32)) :=
  ((some (if (if (nI n_p1_cells) < (nI n_this_cells) then (nI n_p1_cells) else (nI n_this_cells)) < x2 then (if (nI n_p1_cells) < (nI n_this_cells) then (nI n_p1_cells) else (nI n_this_cells)) else x2)).bind fun y17 => (if y17 ≤ 0 then (some g_this_cells) else (if (0 : Int32) < 0 ∨ (0 : Int32) < 0 ∨ y17 < 0 ∨ n_p1_cells < (0 : Int32).toNatClampNeg + y17.toNatClampNeg ∨ n_this_cells < (0 : Int32).toNatClampNeg + y17.toNatClampNeg then none else ((some (va_cpy g_p1_cells g_this_cells (0 : Int32).toNatClampNeg (0 : Int32).toNatClampNeg y17.toNatClampNeg)).bind fun h33 => (some h33)))))
set_option maxHeartbeats 4000000 in
set_option maxRecDepth 100000 in
theorem c_X6_copyFirst (l : Launch) (D : va_G) (cI cB cL cO : ClassId) (pf : Nat → Nat) (N : Nat) (a_this a_p1 a_this_cells a_p1_cells : Nat) (n_this_cells : Nat) (n_p1_cells : Nat) (g_this_cells : Nat → Int32) (g_p1_cells : Nat → Int32) (x2 : Int32) (o : (Nat → Int32)) (h : f_X6_copyFirst x2 n_this_cells n_p1_cells g_this_cells g_p1_cells = some o) : Ct l D [(cI, .int), (cB, .byte), (cL, .long), (cO, .object RX0)] pf yX6_copyFirst cX6_copyFirst 4 (none : Option FieldType) { frames := 1, cells := 0, slots := 0, locals := 60 } [.ref a_this, .ref a_p1, .int x2] [(a_this, .inr (6, [.ref a_this_cells])), (a_this_cells, .inl (cI, n_this_cells, .inl g_this_cells)), (a_p1, .inr (6, [.ref a_p1_cells])), (a_p1_cells, .inl (cI, n_p1_cells, .inl g_p1_cells))] (is1 (none) [(a_this, .inr (6, [.ref a_this_cells])), (a_this_cells, .inl (cI, n_this_cells, .inl o)), (a_p1, .inr (6, [.ref a_p1_cells])), (a_p1_cells, .inl (cI, n_p1_cells, .inl g_p1_cells))]) := by
  refine Ct_of (own := RX6) (lv0 := [(0, .ref a_this), (1, .ref a_p1), (2, .int x2)]) (by decide) rfl rfl (Nat.le_of_ble_eq_true rfl) ?_
  intro p e s m args below meth c C hr hnm
  unfold f_X6_copyFirst at h
  refine J_iload_n (pc := 0) C dX6_copyFirst_0 2 rfl ?_
  refine J_aload_n (pc := 1) C dX6_copyFirst_1 0 rfl ?_
  refine J_get (pc := 2) C dX6_copyFirst_2 jf_X6 0 rfl rfl 0 (by decide) rfl fl_RX6_7 rfl ?_
  refine J_alen (pc := 5) C dX6_copyFirst_5 1 0 rfl rfl ?_
  refine J_aload_n (pc := 6) C dX6_copyFirst_6 1 rfl ?_
  refine J_get (pc := 7) C dX6_copyFirst_7 jf_X6 2 rfl rfl 0 (by decide) rfl fl_RX6_7 rfl ?_
  refine J_alen (pc := 10) C dX6_copyFirst_10 3 0 rfl rfl ?_
  refine J_mmin (pc := 11) C dX6_copyFirst_11 ml_RX6_23 w_min (Nat.le_of_ble_eq_true rfl) (Nat.le_of_ble_eq_true rfl) ⟨Nat.zero_le _, Nat.zero_le _⟩ ?_
  refine J_mmin (pc := 14) C dX6_copyFirst_14 ml_RX6_23 w_min (Nat.le_of_ble_eq_true rfl) (Nat.le_of_ble_eq_true rfl) ⟨Nat.zero_le _, Nat.zero_le _⟩ ?_
  refine J_istore_nN (pc := 17) C (fun y17 => [(3, .int y17), (0, .ref a_this), (1, .ref a_p1), (2, .int x2)]) dX6_copyFirst_17 h (by decide) (fun _ => rfl) (fun y17 h => ?_)
  refine J_iload_n (pc := 18) C dX6_copyFirst_18 0 rfl ?_
  refine J_if_le (pc := 19) (tgt := 36) C dX6_copyFirst_19 (by decide) h (fun h => ?_) (fun h => ?_)
  · cases h
    exact J_vret (pc := 36) C dX6_copyFirst_36 hr ⟨rfl, rfl⟩
  · refine J_aload_n (pc := 22) C dX6_copyFirst_22 2 rfl ?_
    refine J_get (pc := 23) C dX6_copyFirst_23 jf_X6 2 rfl rfl 0 (by decide) rfl fl_RX6_7 rfl ?_
    refine J_iconst (v := (0 : Int32)) (pc := 26) C dX6_copyFirst_26 (by decide) ?_
    refine J_aload_n (pc := 27) C dX6_copyFirst_27 1 rfl ?_
    refine J_get (pc := 28) C dX6_copyFirst_28 jf_X6 0 rfl rfl 0 (by decide) rfl fl_RX6_7 rfl ?_
    refine J_iconst (v := (0 : Int32)) (pc := 31) C dX6_copyFirst_31 (by decide) ?_
    refine J_iload_n (pc := 32) C dX6_copyFirst_32 0 rfl ?_
    refine J_copyN (pc := 33) C (fun h33 => [(a_this, .inr (6, [.ref a_this_cells])), (a_this_cells, .inl (cI, n_this_cells, .inl h33)), (a_p1, .inr (6, [.ref a_p1_cells])), (a_p1_cells, .inl (cI, n_p1_cells, .inl g_p1_cells))]) dX6_copyFirst_33 ml_RX6_26 3 1 0 0 rfl rfl rfl rfl h (Nat.le_of_ble_eq_true rfl) (Nat.le_of_ble_eq_true rfl) (fun _ => rfl) (fun h33 h => ?_)
    cases h
    exact J_vret (pc := 36) C dX6_copyFirst_36 hr ⟨rfl, rfl⟩
theorem dX6_copyAll_0 : decode cX6_copyAll 0 = .ok (.aload_n 0, 1) := by decide +kernel
theorem dX6_copyAll_1 : decode cX6_copyAll 1 = .ok (.aload_n 1, 1) := by decide +kernel
theorem dX6_copyAll_2 : decode cX6_copyAll 2 = .ok (.aload_n 0, 1) := by decide +kernel
theorem dX6_copyAll_3 : decode cX6_copyAll 3 = .ok (.getfield 7, 3) := by decide +kernel
theorem dX6_copyAll_6 : decode cX6_copyAll 6 = .ok (.arraylength, 1) := by decide +kernel
theorem dX6_copyAll_7 : decode cX6_copyAll 7 = .ok (.invokevirtual 19, 3) := by decide +kernel
theorem dX6_copyAll_10 : decode cX6_copyAll 10 = .ok (.return_, 1) := by decide +kernel
def f_X6_copyAll (n_this_cells : Nat) (n_p1_cells : Nat) (g_this_cells : Nat → Int32) (g_p1_cells : Nat → Int32) : Option ((Nat → Int32)) :=
  ((f_X6_copyFirst (nI n_this_cells) n_this_cells n_p1_cells g_this_cells g_p1_cells).bind fun r7 => (some r7))
set_option maxHeartbeats 4000000 in
set_option maxRecDepth 100000 in
theorem c_X6_copyAll (l : Launch) (D : va_G) (cI cB cL cO : ClassId) (pf : Nat → Nat) (N : Nat) (a_this a_p1 a_this_cells a_p1_cells : Nat) (n_this_cells : Nat) (n_p1_cells : Nat) (g_this_cells : Nat → Int32) (g_p1_cells : Nat → Int32) (o : (Nat → Int32)) (h : f_X6_copyAll n_this_cells n_p1_cells g_this_cells g_p1_cells = some o) : Ct l D [(cI, .int), (cB, .byte), (cL, .long), (cO, .object RX0)] pf yX6_copyAll cX6_copyAll 2 (none : Option FieldType) { frames := 2, cells := 0, slots := 0, locals := 83 } [.ref a_this, .ref a_p1] [(a_this, .inr (6, [.ref a_this_cells])), (a_this_cells, .inl (cI, n_this_cells, .inl g_this_cells)), (a_p1, .inr (6, [.ref a_p1_cells])), (a_p1_cells, .inl (cI, n_p1_cells, .inl g_p1_cells))] (is1 (none) [(a_this, .inr (6, [.ref a_this_cells])), (a_this_cells, .inl (cI, n_this_cells, .inl o)), (a_p1, .inr (6, [.ref a_p1_cells])), (a_p1_cells, .inl (cI, n_p1_cells, .inl g_p1_cells))]) := by
  refine Ct_of (own := RX6) (lv0 := [(0, .ref a_this), (1, .ref a_p1)]) (by decide) rfl rfl (Nat.le_of_ble_eq_true rfl) ?_
  intro p e s m args below meth c C hr hnm
  unfold f_X6_copyAll at h
  refine J_aload_n (pc := 0) C dX6_copyAll_0 0 rfl ?_
  refine J_aload_n (pc := 1) C dX6_copyAll_1 1 rfl ?_
  refine J_aload_n (pc := 2) C dX6_copyAll_2 0 rfl ?_
  refine J_get (pc := 3) C dX6_copyAll_3 jf_X6 0 rfl rfl 0 (by decide) rfl fl_RX6_7 rfl ?_
  refine J_alen (pc := 6) C dX6_copyAll_6 1 0 rfl rfl ?_
  refine J_cvw (pc := 7) (As := [.ref a_p1, .int (nI n_this_cells)]) (st := []) C (fun r7 => [(a_this, .inr (6, [.ref a_this_cells])), (a_this_cells, .inl (cI, n_this_cells, .inl r7)), (a_p1, .inr (6, [.ref a_p1_cells])), (a_p1_cells, .inl (cI, n_p1_cells, .inl g_p1_cells))]) dX6_copyAll_7 ml_RX6_19 mi_yX6_copyFirst (fun r7 hr => c_X6_copyFirst l D cI cB cL cO pf 0 a_this a_p1 a_this_cells a_p1_cells n_this_cells n_p1_cells g_this_cells g_p1_cells (nI n_this_cells) r7 hr) h [0, 1, 2, 3] rfl rfl rfl rfl rfl ⟨rfl, rfl⟩ ⟨(Nat.le_of_ble_eq_true rfl), (Nat.le_of_ble_eq_true rfl)⟩ ⟨Nat.zero_le _, Nat.zero_le _⟩ (Nat.le_of_ble_eq_true rfl) (fun _ => rfl) (fun _ => rfl) (fun r7 h => ?_)
  cases h
  exact J_vret (pc := 10) C dX6_copyAll_10 hr ⟨rfl, rfl⟩
theorem dX6_move_0 : decode cX6_move 0 = .ok (.iload_n 1, 1) := by decide +kernel
theorem dX6_move_1 : decode cX6_move 1 = .ok (.ifCond .lt 37, 3) := by decide +kernel
theorem dX6_move_4 : decode cX6_move 4 = .ok (.iload_n 2, 1) := by decide +kernel
theorem dX6_move_5 : decode cX6_move 5 = .ok (.ifCond .lt 33, 3) := by decide +kernel
theorem dX6_move_8 : decode cX6_move 8 = .ok (.iload_n 3, 1) := by decide +kernel
theorem dX6_move_9 : decode cX6_move 9 = .ok (.ifCond .le 29, 3) := by decide +kernel
theorem dX6_move_12 : decode cX6_move 12 = .ok (.iload_n 1, 1) := by decide +kernel
theorem dX6_move_13 : decode cX6_move 13 = .ok (.aload_n 0, 1) := by decide +kernel
theorem dX6_move_14 : decode cX6_move 14 = .ok (.getfield 7, 3) := by decide +kernel
theorem dX6_move_17 : decode cX6_move 17 = .ok (.arraylength, 1) := by decide +kernel
theorem dX6_move_18 : decode cX6_move 18 = .ok (.iload_n 3, 1) := by decide +kernel
theorem dX6_move_19 : decode cX6_move 19 = .ok (.isub, 1) := by decide +kernel
theorem dX6_move_20 : decode cX6_move 20 = .ok (.if_icmp .gt 18, 3) := by decide +kernel
theorem dX6_move_23 : decode cX6_move 23 = .ok (.iload_n 2, 1) := by decide +kernel
theorem dX6_move_24 : decode cX6_move 24 = .ok (.aload_n 0, 1) := by decide +kernel
theorem dX6_move_25 : decode cX6_move 25 = .ok (.getfield 7, 3) := by decide +kernel
theorem dX6_move_28 : decode cX6_move 28 = .ok (.arraylength, 1) := by decide +kernel
theorem dX6_move_29 : decode cX6_move 29 = .ok (.iload_n 3, 1) := by decide +kernel
theorem dX6_move_30 : decode cX6_move 30 = .ok (.isub, 1) := by decide +kernel
theorem dX6_move_31 : decode cX6_move 31 = .ok (.if_icmp .gt 7, 3) := by decide +kernel
theorem dX6_move_34 : decode cX6_move 34 = .ok (.iconst 1, 1) := by decide +kernel
theorem dX6_move_35 : decode cX6_move 35 = .ok (.goto 4, 3) := by decide +kernel
theorem dX6_move_38 : decode cX6_move 38 = .ok (.iconst 0, 1) := by decide +kernel
theorem dX6_move_39 : decode cX6_move 39 = .ok (.istore 4, 2) := by decide +kernel
theorem dX6_move_41 : decode cX6_move 41 = .ok (.iload 4, 2) := by decide +kernel
theorem dX6_move_43 : decode cX6_move 43 = .ok (.ifCond .eq 17, 3) := by decide +kernel
theorem dX6_move_46 : decode cX6_move 46 = .ok (.aload_n 0, 1) := by decide +kernel
theorem dX6_move_47 : decode cX6_move 47 = .ok (.getfield 7, 3) := by decide +kernel
theorem dX6_move_50 : decode cX6_move 50 = .ok (.iload_n 1, 1) := by decide +kernel
theorem dX6_move_51 : decode cX6_move 51 = .ok (.aload_n 0, 1) := by decide +kernel
theorem dX6_move_52 : decode cX6_move 52 = .ok (.getfield 7, 3) := by decide +kernel
theorem dX6_move_55 : decode cX6_move 55 = .ok (.iload_n 2, 1) := by decide +kernel
theorem dX6_move_56 : decode cX6_move 56 = .ok (.iload_n 3, 1) := by decide +kernel
theorem dX6_move_57 : decode cX6_move 57 = .ok (.invokestatic 26, 3) := by decide +kernel
theorem dX6_move_60 : decode cX6_move 60 = .ok (.return_, 1) := by decide +kernel
def f_X6_move_b39 (x1 : Int32) (x2 : Int32) (x3 : Int32) (s0 : Int32) (n_this_cells : Nat) (g_this_cells : Nat → Int32) : Option ((Nat → Int32)) :=
  (if s0 = 0 then (some g_this_cells) else (if x1 < 0 ∨ x2 < 0 ∨ x3 < 0 ∨ n_this_cells < x1.toNatClampNeg + x3.toNatClampNeg ∨ n_this_cells < x2.toNatClampNeg + x3.toNatClampNeg then none else ((some (va_cpy g_this_cells g_this_cells x1.toNatClampNeg x2.toNatClampNeg x3.toNatClampNeg)).bind fun h57 => (some h57))))
def f_X6_move_b38 (x1 : Int32) (x2 : Int32) (x3 : Int32) (n_this_cells : Nat) (g_this_cells : Nat → Int32) : Option ((Nat → Int32)) :=
  (f_X6_move_b39 x1 x2 x3 (0 : Int32) n_this_cells g_this_cells)
def f_X6_move (x1 : Int32) (x2 : Int32) (x3 : Int32) (n_this_cells : Nat) (g_this_cells : Nat → Int32) : Option ((Nat → Int32)) :=
  (if x1 < 0 then (f_X6_move_b38 x1 x2 x3 n_this_cells g_this_cells) else (if x2 < 0 then (f_X6_move_b38 x1 x2 x3 n_this_cells g_this_cells) else (if x3 ≤ 0 then (f_X6_move_b38 x1 x2 x3 n_this_cells g_this_cells) else (if ((nI n_this_cells) - x3) < x1 then (f_X6_move_b38 x1 x2 x3 n_this_cells g_this_cells) else (if ((nI n_this_cells) - x3) < x2 then (f_X6_move_b38 x1 x2 x3 n_this_cells g_this_cells) else (f_X6_move_b39 x1 x2 x3 (1 : Int32) n_this_cells g_this_cells))))))
set_option maxHeartbeats 4000000 in
set_option maxRecDepth 100000 in
theorem t_X6_move_b39 {l : Launch} {D : va_G} {cI cB cL cO : ClassId} {pf : Nat → Nat} {p : Program} {e : Env} {s : State} {m : MethodId} {args : Array Value} {below : List Frame} {meth : Method} {c : Code} {W0 : va_W} {a_this a_this_cells : Nat}  {n_this_cells : Nat} {g_this_cells : Nat → Int32} {x1 : Int32} {x2 : Int32} {x3 : Int32} {s0 : Int32} {o : (Nat → Int32)} (C : jC p s m args meth c cX6_move 5 RX6 D [(cI, .int), (cB, .byte), (cL, .long), (cO, .object RX0)] pf (va_A W0 s.heap.size)) (hr : meth.sig.returnType = (none : Option FieldType)) (h : f_X6_move_b39 x1 x2 x3 s0 n_this_cells g_this_cells = some o) : J p l e { frames := 1, cells := 0, slots := 0, locals := 60 } s m args below meth c 5 D (va_A W0 s.heap.size) (MQ below (jQ D [(cI, .int), (cB, .byte), (cL, .long), (cO, .object RX0)] W0 s.heap.size (is1 (none) [(a_this, .inr (6, [.ref a_this_cells])), (a_this_cells, .inl (cI, n_this_cells, .inl o))])) args s 0 0 (va_A W0 s.heap.size)) 0 0 39 [(0, .ref a_this), (1, .int x1), (2, .int x2), (3, .int x3)] [.int s0] [(a_this, .inr (6, [.ref a_this_cells])), (a_this_cells, .inl (cI, n_this_cells, .inl g_this_cells))] := by
  unfold f_X6_move_b39 at h
  refine J_istore (lv2 := [(4, .int s0), (0, .ref a_this), (1, .int x1), (2, .int x2), (3, .int x3)]) (pc := 39) C dX6_move_39 (by decide) rfl ?_
  refine J_iload (pc := 41) C dX6_move_41 0 rfl ?_
  refine J_if_eq (pc := 43) (tgt := 60) C dX6_move_43 (by decide) h (fun h => ?_) (fun h => ?_)
  · cases h
    exact J_vret (pc := 60) C dX6_move_60 hr ⟨rfl, rfl⟩
  · refine J_aload_n (pc := 46) C dX6_move_46 1 rfl ?_
    refine J_get (pc := 47) C dX6_move_47 jf_X6 0 rfl rfl 0 (by decide) rfl fl_RX6_7 rfl ?_
    refine J_iload_n (pc := 50) C dX6_move_50 2 rfl ?_
    refine J_aload_n (pc := 51) C dX6_move_51 1 rfl ?_
    refine J_get (pc := 52) C dX6_move_52 jf_X6 0 rfl rfl 0 (by decide) rfl fl_RX6_7 rfl ?_
    refine J_iload_n (pc := 55) C dX6_move_55 3 rfl ?_
    refine J_iload_n (pc := 56) C dX6_move_56 4 rfl ?_
    refine J_copyN (pc := 57) C (fun h57 => [(a_this, .inr (6, [.ref a_this_cells])), (a_this_cells, .inl (cI, n_this_cells, .inl h57))]) dX6_move_57 ml_RX6_26 1 1 0 0 rfl rfl rfl rfl h (Nat.le_of_ble_eq_true rfl) (Nat.le_of_ble_eq_true rfl) (fun _ => rfl) (fun h57 h => ?_)
    cases h
    exact J_vret (pc := 60) C dX6_move_60 hr ⟨rfl, rfl⟩
set_option maxHeartbeats 4000000 in
set_option maxRecDepth 100000 in
theorem t_X6_move_b38 {l : Launch} {D : va_G} {cI cB cL cO : ClassId} {pf : Nat → Nat} {p : Program} {e : Env} {s : State} {m : MethodId} {args : Array Value} {below : List Frame} {meth : Method} {c : Code} {W0 : va_W} {a_this a_this_cells : Nat}  {n_this_cells : Nat} {g_this_cells : Nat → Int32} {x1 : Int32} {x2 : Int32} {x3 : Int32} {o : (Nat → Int32)} (C : jC p s m args meth c cX6_move 5 RX6 D [(cI, .int), (cB, .byte), (cL, .long), (cO, .object RX0)] pf (va_A W0 s.heap.size)) (hr : meth.sig.returnType = (none : Option FieldType)) (h : f_X6_move_b38 x1 x2 x3 n_this_cells g_this_cells = some o) : J p l e { frames := 1, cells := 0, slots := 0, locals := 60 } s m args below meth c 5 D (va_A W0 s.heap.size) (MQ below (jQ D [(cI, .int), (cB, .byte), (cL, .long), (cO, .object RX0)] W0 s.heap.size (is1 (none) [(a_this, .inr (6, [.ref a_this_cells])), (a_this_cells, .inl (cI, n_this_cells, .inl o))])) args s 0 0 (va_A W0 s.heap.size)) 0 0 38 [(0, .ref a_this), (1, .int x1), (2, .int x2), (3, .int x3)] [] [(a_this, .inr (6, [.ref a_this_cells])), (a_this_cells, .inl (cI, n_this_cells, .inl g_this_cells))] := by
  unfold f_X6_move_b38 at h
  refine J_iconst (v := (0 : Int32)) (pc := 38) C dX6_move_38 (by decide) ?_
  exact t_X6_move_b39 C hr h
set_option maxHeartbeats 4000000 in
set_option maxRecDepth 100000 in
theorem c_X6_move (l : Launch) (D : va_G) (cI cB cL cO : ClassId) (pf : Nat → Nat) (N : Nat) (a_this a_this_cells : Nat) (n_this_cells : Nat) (g_this_cells : Nat → Int32) (x1 : Int32) (x2 : Int32) (x3 : Int32) (o : (Nat → Int32)) (h : f_X6_move x1 x2 x3 n_this_cells g_this_cells = some o) : Ct l D [(cI, .int), (cB, .byte), (cL, .long), (cO, .object RX0)] pf yX6_move cX6_move 5 (none : Option FieldType) { frames := 1, cells := 0, slots := 0, locals := 60 } [.ref a_this, .int x1, .int x2, .int x3] [(a_this, .inr (6, [.ref a_this_cells])), (a_this_cells, .inl (cI, n_this_cells, .inl g_this_cells))] (is1 (none) [(a_this, .inr (6, [.ref a_this_cells])), (a_this_cells, .inl (cI, n_this_cells, .inl o))]) := by
  refine Ct_of (own := RX6) (lv0 := [(0, .ref a_this), (1, .int x1), (2, .int x2), (3, .int x3)]) (by decide) rfl rfl (Nat.le_of_ble_eq_true rfl) ?_
  intro p e s m args below meth c C hr hnm
  unfold f_X6_move at h
  refine J_iload_n (pc := 0) C dX6_move_0 1 rfl ?_
  refine J_if_lt (pc := 1) (tgt := 38) C dX6_move_1 (by decide) h (fun h => ?_) (fun h => ?_)
  · exact t_X6_move_b38 C hr h
  · refine J_iload_n (pc := 4) C dX6_move_4 2 rfl ?_
    refine J_if_lt (pc := 5) (tgt := 38) C dX6_move_5 (by decide) h (fun h => ?_) (fun h => ?_)
    · exact t_X6_move_b38 C hr h
    · refine J_iload_n (pc := 8) C dX6_move_8 3 rfl ?_
      refine J_if_le (pc := 9) (tgt := 38) C dX6_move_9 (by decide) h (fun h => ?_) (fun h => ?_)
      · exact t_X6_move_b38 C hr h
      · refine J_iload_n (pc := 12) C dX6_move_12 1 rfl ?_
        refine J_aload_n (pc := 13) C dX6_move_13 0 rfl ?_
        refine J_get (pc := 14) C dX6_move_14 jf_X6 0 rfl rfl 0 (by decide) rfl fl_RX6_7 rfl ?_
        refine J_alen (pc := 17) C dX6_move_17 1 0 rfl rfl ?_
        refine J_iload_n (pc := 18) C dX6_move_18 3 rfl ?_
        refine J_isub (pc := 19) C dX6_move_19 ?_
        refine J_ic_gt (pc := 20) (tgt := 38) C dX6_move_20 (by decide) h (fun h => ?_) (fun h => ?_)
        · exact t_X6_move_b38 C hr h
        · refine J_iload_n (pc := 23) C dX6_move_23 2 rfl ?_
          refine J_aload_n (pc := 24) C dX6_move_24 0 rfl ?_
          refine J_get (pc := 25) C dX6_move_25 jf_X6 0 rfl rfl 0 (by decide) rfl fl_RX6_7 rfl ?_
          refine J_alen (pc := 28) C dX6_move_28 1 0 rfl rfl ?_
          refine J_iload_n (pc := 29) C dX6_move_29 3 rfl ?_
          refine J_isub (pc := 30) C dX6_move_30 ?_
          refine J_ic_gt (pc := 31) (tgt := 38) C dX6_move_31 (by decide) h (fun h => ?_) (fun h => ?_)
          · exact t_X6_move_b38 C hr h
          · refine J_iconst (v := (1 : Int32)) (pc := 34) C dX6_move_34 (by decide) ?_
            refine J_goto (tgt := 39) (pc := 35) C dX6_move_35 (by decide) ?_
            exact t_X6_move_b39 C hr h
theorem dX1_isIn_0 : decode cX1_isIn 0 = .ok (.iload_n 2, 1) := by decide +kernel
theorem dX1_isIn_1 : decode cX1_isIn 1 = .ok (.bipush (-2), 2) := by decide +kernel
theorem dX1_isIn_3 : decode cX1_isIn 3 = .ok (.if_icmp .eq 15, 3) := by decide +kernel
theorem dX1_isIn_6 : decode cX1_isIn 6 = .ok (.aload_n 0, 1) := by decide +kernel
theorem dX1_isIn_7 : decode cX1_isIn 7 = .ok (.getfield 14, 3) := by decide +kernel
theorem dX1_isIn_10 : decode cX1_isIn 10 = .ok (.iload_n 1, 1) := by decide +kernel
theorem dX1_isIn_11 : decode cX1_isIn 11 = .ok (.invokevirtual 37, 3) := by decide +kernel
theorem dX1_isIn_14 : decode cX1_isIn 14 = .ok (.iload_n 2, 1) := by decide +kernel
theorem dX1_isIn_15 : decode cX1_isIn 15 = .ok (.if_icmp .ne 7, 3) := by decide +kernel
theorem dX1_isIn_18 : decode cX1_isIn 18 = .ok (.iconst 1, 1) := by decide +kernel
theorem dX1_isIn_19 : decode cX1_isIn 19 = .ok (.goto 4, 3) := by decide +kernel
theorem dX1_isIn_22 : decode cX1_isIn 22 = .ok (.iconst 0, 1) := by decide +kernel
theorem dX1_isIn_23 : decode cX1_isIn 23 = .ok (.ireturn, 1) := by decide +kernel
def f_X1_isIn (x1 : Int32) (x2 : Int32) (n_this_lists_cells : Nat) (g_this_lists_cells : Nat → Int32) : Option (Int32) :=
  (if x2 = (-2 : Int32) then (some (1 : Int32)) else ((f_X6_at x1 n_this_lists_cells g_this_lists_cells).bind fun r11 => (if r11 = x2 then (some (1 : Int32)) else (some (0 : Int32)))))
set_option maxHeartbeats 4000000 in
set_option maxRecDepth 100000 in
theorem c_X1_isIn (l : Launch) (D : va_G) (cI cB cL cO : ClassId) (pf : Nat → Nat) (N : Nat) (a_this a_this_lists a_this_days a_this_contributors a_this_points a_this_lists_cells : Nat) (n_this_lists_cells : Nat) (v_this_size : Int32) (g_this_lists_cells : Nat → Int32) (x1 : Int32) (x2 : Int32) (o : Int32) (h : f_X1_isIn x1 x2 n_this_lists_cells g_this_lists_cells = some o) : Ct l D [(cI, .int), (cB, .byte), (cL, .long), (cO, .object RX0)] pf yX1_isIn cX1_isIn 3 (some FieldType.boolean) { frames := 1, cells := 0, slots := 0, locals := 21 } [.ref a_this, .int x1, .int x2] [(a_this, .inr (1, [.ref a_this_lists, .ref a_this_days, .ref a_this_contributors, .ref a_this_points, .int v_this_size])), (a_this_lists, .inr (6, [.ref a_this_lists_cells])), (a_this_lists_cells, .inl (cI, n_this_lists_cells, .inl g_this_lists_cells))] (is1 (some (.int o)) [(a_this, .inr (1, [.ref a_this_lists, .ref a_this_days, .ref a_this_contributors, .ref a_this_points, .int v_this_size])), (a_this_lists, .inr (6, [.ref a_this_lists_cells])), (a_this_lists_cells, .inl (cI, n_this_lists_cells, .inl g_this_lists_cells))]) := by
  refine Ct_of (own := RX1) (lv0 := [(0, .ref a_this), (1, .int x1), (2, .int x2)]) (by decide) rfl rfl (Nat.le_of_ble_eq_true rfl) ?_
  intro p e s m args below meth c C hr hnm
  unfold f_X1_isIn at h
  refine J_iload_n (pc := 0) C dX1_isIn_0 2 rfl ?_
  refine J_bipush (v := (-2 : Int32)) (pc := 1) C dX1_isIn_1 (by decide) ?_
  refine J_ic_eq (pc := 3) (tgt := 18) C dX1_isIn_3 (by decide) h (fun h => ?_) (fun h => ?_)
  · refine J_iconst (v := (1 : Int32)) (pc := 18) C dX1_isIn_18 (by decide) ?_
    refine J_goto (tgt := 23) (pc := 19) C dX1_isIn_19 (by decide) ?_
    cases h
    exact J_zret (pc := 23) C dX1_isIn_23 hr rfl ⟨rfl, rfl⟩
  · refine J_aload_n (pc := 6) C dX1_isIn_6 0 rfl ?_
    refine J_get (pc := 7) C dX1_isIn_7 jf_X1 0 rfl rfl 0 (by decide) rfl fl_RX1_14 rfl ?_
    refine J_iload_n (pc := 10) C dX1_isIn_10 1 rfl ?_
    refine J_cvr (pc := 11) (As := [.int x1]) (st := []) C dX1_isIn_11 ml_RX1_37 mi_yX6_at (fun r11 hr => c_X6_at l D cI cB cL cO pf 0 a_this_lists a_this_lists_cells n_this_lists_cells g_this_lists_cells x1 r11 hr) h [1, 2] rfl rfl rfl rfl rfl ⟨rfl, rfl⟩ ⟨(Nat.le_of_ble_eq_true rfl), (Nat.le_of_ble_eq_true rfl)⟩ ⟨Nat.zero_le _, Nat.zero_le _⟩ (Nat.le_of_ble_eq_true rfl) (fun r11 h => ?_)
    refine J_iload_n (pc := 14) C dX1_isIn_14 2 rfl ?_
    refine J_ic_ne (pc := 15) (tgt := 22) C dX1_isIn_15 (by decide) h (fun h => ?_) (fun h => ?_)
    · refine J_iconst (v := (0 : Int32)) (pc := 22) C dX1_isIn_22 (by decide) ?_
      cases h
      exact J_zret (pc := 23) C dX1_isIn_23 hr rfl ⟨rfl, rfl⟩
    · refine J_iconst (v := (1 : Int32)) (pc := 18) C dX1_isIn_18 (by decide) ?_
      refine J_goto (tgt := 23) (pc := 19) C dX1_isIn_19 (by decide) ?_
      cases h
      exact J_zret (pc := 23) C dX1_isIn_23 hr rfl ⟨rfl, rfl⟩
theorem dX1_sum_0 : decode cX1_sum 0 = .ok (.iconst 0, 1) := by decide +kernel
theorem dX1_sum_1 : decode cX1_sum 1 = .ok (.istore_n 3, 1) := by decide +kernel
theorem dX1_sum_2 : decode cX1_sum 2 = .ok (.iconst 0, 1) := by decide +kernel
theorem dX1_sum_3 : decode cX1_sum 3 = .ok (.istore 4, 2) := by decide +kernel
theorem dX1_sum_5 : decode cX1_sum 5 = .ok (.iload 4, 2) := by decide +kernel
theorem dX1_sum_7 : decode cX1_sum 7 = .ok (.aload_n 0, 1) := by decide +kernel
theorem dX1_sum_8 : decode cX1_sum 8 = .ok (.getfield 29, 3) := by decide +kernel
theorem dX1_sum_11 : decode cX1_sum 11 = .ok (.if_icmp .ge 50, 3) := by decide +kernel
theorem dX1_sum_14 : decode cX1_sum 14 = .ok (.aload_n 0, 1) := by decide +kernel
theorem dX1_sum_15 : decode cX1_sum 15 = .ok (.iload 4, 2) := by decide +kernel
theorem dX1_sum_17 : decode cX1_sum 17 = .ok (.iload_n 1, 1) := by decide +kernel
theorem dX1_sum_18 : decode cX1_sum 18 = .ok (.invokevirtual 41, 3) := by decide +kernel
theorem dX1_sum_21 : decode cX1_sum 21 = .ok (.ifCond .eq 34, 3) := by decide +kernel
theorem dX1_sum_24 : decode cX1_sum 24 = .ok (.iload_n 2, 1) := by decide +kernel
theorem dX1_sum_25 : decode cX1_sum 25 = .ok (.bipush (-2), 2) := by decide +kernel
theorem dX1_sum_27 : decode cX1_sum 27 = .ok (.if_icmp .eq 16, 3) := by decide +kernel
theorem dX1_sum_30 : decode cX1_sum 30 = .ok (.aload_n 0, 1) := by decide +kernel
theorem dX1_sum_31 : decode cX1_sum 31 = .ok (.getfield 23, 3) := by decide +kernel
theorem dX1_sum_34 : decode cX1_sum 34 = .ok (.iload 4, 2) := by decide +kernel
theorem dX1_sum_36 : decode cX1_sum 36 = .ok (.invokevirtual 37, 3) := by decide +kernel
theorem dX1_sum_39 : decode cX1_sum 39 = .ok (.iload_n 2, 1) := by decide +kernel
theorem dX1_sum_40 : decode cX1_sum 40 = .ok (.if_icmp .ne 15, 3) := by decide +kernel
theorem dX1_sum_43 : decode cX1_sum 43 = .ok (.iload_n 3, 1) := by decide +kernel
theorem dX1_sum_44 : decode cX1_sum 44 = .ok (.aload_n 0, 1) := by decide +kernel
theorem dX1_sum_45 : decode cX1_sum 45 = .ok (.getfield 26, 3) := by decide +kernel
theorem dX1_sum_48 : decode cX1_sum 48 = .ok (.iload 4, 2) := by decide +kernel
theorem dX1_sum_50 : decode cX1_sum 50 = .ok (.invokevirtual 37, 3) := by decide +kernel
theorem dX1_sum_53 : decode cX1_sum 53 = .ok (.iadd, 1) := by decide +kernel
theorem dX1_sum_54 : decode cX1_sum 54 = .ok (.istore_n 3, 1) := by decide +kernel
theorem dX1_sum_55 : decode cX1_sum 55 = .ok (.iinc 4 1, 3) := by decide +kernel
theorem dX1_sum_58 : decode cX1_sum 58 = .ok (.goto (-53), 3) := by decide +kernel
theorem dX1_sum_61 : decode cX1_sum 61 = .ok (.iload_n 3, 1) := by decide +kernel
theorem dX1_sum_62 : decode cX1_sum 62 = .ok (.ireturn, 1) := by decide +kernel
def f_X1_sum_b43 (k_5 : (Int32) → (Int32) → Option (Int32)) (x3 : Int32) (x4 : Int32) (n_this_points_cells : Nat) (g_this_points_cells : Nat → Int32) : Option (Int32) :=
  ((f_X6_at x4 n_this_points_cells g_this_points_cells).bind fun r50 => ((some (x3 + r50)).bind fun y54 => ((some (x4 + (1 : Int32))).bind fun y55 => (k_5 y54 y55))))
def f_X1_sum_b5 (x1 : Int32) (x2 : Int32) (n_this_lists_cells : Nat) (n_this_contributors_cells : Nat) (n_this_points_cells : Nat) (v_this_size : Int32) (g_this_lists_cells : Nat → Int32) (g_this_contributors_cells : Nat → Int32) (g_this_points_cells : Nat → Int32) : Nat → (Int32) → (Int32) → Option (Int32)
  | 0, _, _ => none
  | n + 1, x3, x4 => (if v_this_size ≤ x4 then (some x3) else ((f_X1_isIn x4 x1 n_this_lists_cells g_this_lists_cells).bind fun r18 => (if r18 = 0 then ((some (x4 + (1 : Int32))).bind fun y55 => (f_X1_sum_b5 x1 x2 n_this_lists_cells n_this_contributors_cells n_this_points_cells v_this_size g_this_lists_cells g_this_contributors_cells g_this_points_cells n x3 y55)) else (if x2 = (-2 : Int32) then (f_X1_sum_b43 (f_X1_sum_b5 x1 x2 n_this_lists_cells n_this_contributors_cells n_this_points_cells v_this_size g_this_lists_cells g_this_contributors_cells g_this_points_cells n) x3 x4 n_this_points_cells g_this_points_cells) else ((f_X6_at x4 n_this_contributors_cells g_this_contributors_cells).bind fun r36 => (if r36 = x2 then (f_X1_sum_b43 (f_X1_sum_b5 x1 x2 n_this_lists_cells n_this_contributors_cells n_this_points_cells v_this_size g_this_lists_cells g_this_contributors_cells g_this_points_cells n) x3 x4 n_this_points_cells g_this_points_cells) else ((some (x4 + (1 : Int32))).bind fun y55 => (f_X1_sum_b5 x1 x2 n_this_lists_cells n_this_contributors_cells n_this_points_cells v_this_size g_this_lists_cells g_this_contributors_cells g_this_points_cells n x3 y55))))))))
def f_X1_sum (N : Nat) (x1 : Int32) (x2 : Int32) (n_this_lists_cells : Nat) (n_this_contributors_cells : Nat) (n_this_points_cells : Nat) (v_this_size : Int32) (g_this_lists_cells : Nat → Int32) (g_this_contributors_cells : Nat → Int32) (g_this_points_cells : Nat → Int32) : Option (Int32) :=
  (f_X1_sum_b5 x1 x2 n_this_lists_cells n_this_contributors_cells n_this_points_cells v_this_size g_this_lists_cells g_this_contributors_cells g_this_points_cells N (0 : Int32) (0 : Int32))
set_option maxHeartbeats 4000000 in
set_option maxRecDepth 100000 in
theorem t_X1_sum_b43 {l : Launch} {D : va_G} {cI cB cL cO : ClassId} {pf : Nat → Nat} {p : Program} {e : Env} {s : State} {m : MethodId} {args : Array Value} {below : List Frame} {meth : Method} {c : Code} {W0 : va_W} {a_this a_this_lists a_this_days a_this_contributors a_this_points a_this_lists_cells a_this_contributors_cells a_this_points_cells : Nat}  {n_this_lists_cells : Nat} {n_this_contributors_cells : Nat} {n_this_points_cells : Nat} {v_this_size : Int32} {g_this_lists_cells : Nat → Int32} {g_this_contributors_cells : Nat → Int32} {g_this_points_cells : Nat → Int32} {x1 : Int32} {x2 : Int32} {x3 : Int32} {x4 : Int32} {o : Int32} (C : jC p s m args meth c cX1_sum 5 RX1 D [(cI, .int), (cB, .byte), (cL, .long), (cO, .object RX0)] pf (va_A W0 s.heap.size)) (hr : meth.sig.returnType = (some FieldType.int)) {k_5 : (Int32) → (Int32) → Option (Int32)} (hk_5 : ∀ (x3 : Int32) (x4 : Int32), k_5 x3 x4 = some o → J p l e { frames := 2, cells := 0, slots := 0, locals := 43 } s m args below meth c 5 D (va_A W0 s.heap.size) (MQ below (jQ D [(cI, .int), (cB, .byte), (cL, .long), (cO, .object RX0)] W0 s.heap.size (is1 (some (.int o)) [(a_this, .inr (1, [.ref a_this_lists, .ref a_this_days, .ref a_this_contributors, .ref a_this_points, .int v_this_size])), (a_this_lists, .inr (6, [.ref a_this_lists_cells])), (a_this_lists_cells, .inl (cI, n_this_lists_cells, .inl g_this_lists_cells)), (a_this_contributors, .inr (6, [.ref a_this_contributors_cells])), (a_this_contributors_cells, .inl (cI, n_this_contributors_cells, .inl g_this_contributors_cells)), (a_this_points, .inr (6, [.ref a_this_points_cells])), (a_this_points_cells, .inl (cI, n_this_points_cells, .inl g_this_points_cells))])) args s 0 0 (va_A W0 s.heap.size)) 0 0 5 [(0, .ref a_this), (1, .int x1), (2, .int x2), (3, .int x3), (4, .int x4)] [] [(a_this, .inr (1, [.ref a_this_lists, .ref a_this_days, .ref a_this_contributors, .ref a_this_points, .int v_this_size])), (a_this_lists, .inr (6, [.ref a_this_lists_cells])), (a_this_lists_cells, .inl (cI, n_this_lists_cells, .inl g_this_lists_cells)), (a_this_contributors, .inr (6, [.ref a_this_contributors_cells])), (a_this_contributors_cells, .inl (cI, n_this_contributors_cells, .inl g_this_contributors_cells)), (a_this_points, .inr (6, [.ref a_this_points_cells])), (a_this_points_cells, .inl (cI, n_this_points_cells, .inl g_this_points_cells))]) (h : f_X1_sum_b43 k_5 x3 x4 n_this_points_cells g_this_points_cells = some o) : J p l e { frames := 2, cells := 0, slots := 0, locals := 43 } s m args below meth c 5 D (va_A W0 s.heap.size) (MQ below (jQ D [(cI, .int), (cB, .byte), (cL, .long), (cO, .object RX0)] W0 s.heap.size (is1 (some (.int o)) [(a_this, .inr (1, [.ref a_this_lists, .ref a_this_days, .ref a_this_contributors, .ref a_this_points, .int v_this_size])), (a_this_lists, .inr (6, [.ref a_this_lists_cells])), (a_this_lists_cells, .inl (cI, n_this_lists_cells, .inl g_this_lists_cells)), (a_this_contributors, .inr (6, [.ref a_this_contributors_cells])), (a_this_contributors_cells, .inl (cI, n_this_contributors_cells, .inl g_this_contributors_cells)), (a_this_points, .inr (6, [.ref a_this_points_cells])), (a_this_points_cells, .inl (cI, n_this_points_cells, .inl g_this_points_cells))])) args s 0 0 (va_A W0 s.heap.size)) 0 0 43 [(0, .ref a_this), (1, .int x1), (2, .int x2), (3, .int x3), (4, .int x4)] [] [(a_this, .inr (1, [.ref a_this_lists, .ref a_this_days, .ref a_this_contributors, .ref a_this_points, .int v_this_size])), (a_this_lists, .inr (6, [.ref a_this_lists_cells])), (a_this_lists_cells, .inl (cI, n_this_lists_cells, .inl g_this_lists_cells)), (a_this_contributors, .inr (6, [.ref a_this_contributors_cells])), (a_this_contributors_cells, .inl (cI, n_this_contributors_cells, .inl g_this_contributors_cells)), (a_this_points, .inr (6, [.ref a_this_points_cells])), (a_this_points_cells, .inl (cI, n_this_points_cells, .inl g_this_points_cells))] := by
  unfold f_X1_sum_b43 at h
  refine J_iload_n (pc := 43) C dX1_sum_43 3 rfl ?_
  refine J_aload_n (pc := 44) C dX1_sum_44 0 rfl ?_
  refine J_get (pc := 45) C dX1_sum_45 jf_X1 0 rfl rfl 3 (by decide) rfl fl_RX1_26 rfl ?_
  refine J_iload (pc := 48) C dX1_sum_48 4 rfl ?_
  refine J_cvr (pc := 50) (As := [.int x4]) (st := [.int x3]) C dX1_sum_50 ml_RX1_37 mi_yX6_at (fun r50 hr => c_X6_at l D cI cB cL cO pf 0 a_this_points a_this_points_cells n_this_points_cells g_this_points_cells x4 r50 hr) h [5, 6] rfl rfl rfl rfl rfl ⟨rfl, rfl⟩ ⟨(Nat.le_of_ble_eq_true rfl), (Nat.le_of_ble_eq_true rfl)⟩ ⟨Nat.zero_le _, Nat.zero_le _⟩ (Nat.le_of_ble_eq_true rfl) (fun r50 h => ?_)
  refine J_iadd (pc := 53) C dX1_sum_53 ?_
  refine J_istore_nN (pc := 54) C (fun y54 => [(3, .int y54), (0, .ref a_this), (1, .int x1), (2, .int x2), (4, .int x4)]) dX1_sum_54 h (by decide) (fun _ => rfl) (fun y54 h => ?_)
  refine J_iincN (pc := 55) (v := (1 : Int32)) C (fun y55 => [(4, .int y55), (3, .int y54), (0, .ref a_this), (1, .int x1), (2, .int x2)]) dX1_sum_55 4 rfl (by decide) h (by decide) (fun _ => rfl) (fun y55 h => ?_)
  refine J_goto (tgt := 5) (pc := 58) C dX1_sum_58 (by decide) ?_
  refine J_sub (lv2 := [(0, .ref a_this), (1, .int x1), (2, .int x2), (3, .int y54), (4, .int y55)]) [2, 3, 4, 1, 0] rfl ?_
  exact hk_5 _ _ h
set_option maxHeartbeats 4000000 in
set_option maxRecDepth 100000 in
theorem t_X1_sum_b5 {l : Launch} {D : va_G} {cI cB cL cO : ClassId} {pf : Nat → Nat} {p : Program} {e : Env} {s : State} {m : MethodId} {args : Array Value} {below : List Frame} {meth : Method} {c : Code} {W0 : va_W} {a_this a_this_lists a_this_days a_this_contributors a_this_points a_this_lists_cells a_this_contributors_cells a_this_points_cells : Nat}  {n_this_lists_cells : Nat} {n_this_contributors_cells : Nat} {n_this_points_cells : Nat} {v_this_size : Int32} {g_this_lists_cells : Nat → Int32} {g_this_contributors_cells : Nat → Int32} {g_this_points_cells : Nat → Int32} {x1 : Int32} {x2 : Int32} {o : Int32} (C : jC p s m args meth c cX1_sum 5 RX1 D [(cI, .int), (cB, .byte), (cL, .long), (cO, .object RX0)] pf (va_A W0 s.heap.size)) (hr : meth.sig.returnType = (some FieldType.int)) : ∀ (n : Nat) (x3 : Int32) (x4 : Int32), f_X1_sum_b5 x1 x2 n_this_lists_cells n_this_contributors_cells n_this_points_cells v_this_size g_this_lists_cells g_this_contributors_cells g_this_points_cells n x3 x4 = some o → J p l e { frames := 2, cells := 0, slots := 0, locals := 43 } s m args below meth c 5 D (va_A W0 s.heap.size) (MQ below (jQ D [(cI, .int), (cB, .byte), (cL, .long), (cO, .object RX0)] W0 s.heap.size (is1 (some (.int o)) [(a_this, .inr (1, [.ref a_this_lists, .ref a_this_days, .ref a_this_contributors, .ref a_this_points, .int v_this_size])), (a_this_lists, .inr (6, [.ref a_this_lists_cells])), (a_this_lists_cells, .inl (cI, n_this_lists_cells, .inl g_this_lists_cells)), (a_this_contributors, .inr (6, [.ref a_this_contributors_cells])), (a_this_contributors_cells, .inl (cI, n_this_contributors_cells, .inl g_this_contributors_cells)), (a_this_points, .inr (6, [.ref a_this_points_cells])), (a_this_points_cells, .inl (cI, n_this_points_cells, .inl g_this_points_cells))])) args s 0 0 (va_A W0 s.heap.size)) 0 0 5 [(0, .ref a_this), (1, .int x1), (2, .int x2), (3, .int x3), (4, .int x4)] [] [(a_this, .inr (1, [.ref a_this_lists, .ref a_this_days, .ref a_this_contributors, .ref a_this_points, .int v_this_size])), (a_this_lists, .inr (6, [.ref a_this_lists_cells])), (a_this_lists_cells, .inl (cI, n_this_lists_cells, .inl g_this_lists_cells)), (a_this_contributors, .inr (6, [.ref a_this_contributors_cells])), (a_this_contributors_cells, .inl (cI, n_this_contributors_cells, .inl g_this_contributors_cells)), (a_this_points, .inr (6, [.ref a_this_points_cells])), (a_this_points_cells, .inl (cI, n_this_points_cells, .inl g_this_points_cells))] := by
  intro n
  induction n with
  | zero =>
    intro _ _ h
    rw [f_X1_sum_b5] at h
    cases h
  | succ n ih =>
    intro x3 x4 h
    rw [f_X1_sum_b5] at h
    refine J_iload (pc := 5) C dX1_sum_5 4 rfl ?_
    refine J_aload_n (pc := 7) C dX1_sum_7 0 rfl ?_
    refine J_get (pc := 8) C dX1_sum_8 jf_X1 0 rfl rfl 4 (by decide) rfl fl_RX1_29 rfl ?_
    refine J_ic_ge (pc := 11) (tgt := 61) C dX1_sum_11 (by decide) h (fun h => ?_) (fun h => ?_)
    · refine J_iload_n (pc := 61) C dX1_sum_61 3 rfl ?_
      cases h
      exact J_iret (pc := 62) C dX1_sum_62 hr ⟨rfl, rfl⟩
    · refine J_aload_n (pc := 14) C dX1_sum_14 0 rfl ?_
      refine J_iload (pc := 15) C dX1_sum_15 4 rfl ?_
      refine J_iload_n (pc := 17) C dX1_sum_17 1 rfl ?_
      refine J_cvr (pc := 18) (As := [.int x4, .int x1]) (st := []) C dX1_sum_18 ml_RX1_41 mi_yX1_isIn (fun r18 hr => c_X1_isIn l D cI cB cL cO pf 0 a_this a_this_lists a_this_days a_this_contributors a_this_points a_this_lists_cells n_this_lists_cells v_this_size g_this_lists_cells x4 x1 r18 hr) h [0, 1, 2] rfl rfl rfl rfl rfl ⟨rfl, rfl⟩ ⟨(Nat.le_of_ble_eq_true rfl), (Nat.le_of_ble_eq_true rfl)⟩ ⟨Nat.zero_le _, Nat.zero_le _⟩ (Nat.le_of_ble_eq_true rfl) (fun r18 h => ?_)
      refine J_if_eq (pc := 21) (tgt := 55) C dX1_sum_21 (by decide) h (fun h => ?_) (fun h => ?_)
      · refine J_iincN (pc := 55) (v := (1 : Int32)) C (fun y55 => [(4, .int y55), (0, .ref a_this), (1, .int x1), (2, .int x2), (3, .int x3)]) dX1_sum_55 4 rfl (by decide) h (by decide) (fun _ => rfl) (fun y55 h => ?_)
        refine J_goto (tgt := 5) (pc := 58) C dX1_sum_58 (by decide) ?_
        refine J_sub (lv2 := [(0, .ref a_this), (1, .int x1), (2, .int x2), (3, .int x3), (4, .int y55)]) [1, 2, 3, 4, 0] rfl ?_
        exact ih _ _ h
      · refine J_iload_n (pc := 24) C dX1_sum_24 2 rfl ?_
        refine J_bipush (v := (-2 : Int32)) (pc := 25) C dX1_sum_25 (by decide) ?_
        refine J_ic_eq (pc := 27) (tgt := 43) C dX1_sum_27 (by decide) h (fun h => ?_) (fun h => ?_)
        · exact t_X1_sum_b43 C hr ih h
        · refine J_aload_n (pc := 30) C dX1_sum_30 0 rfl ?_
          refine J_get (pc := 31) C dX1_sum_31 jf_X1 0 rfl rfl 2 (by decide) rfl fl_RX1_23 rfl ?_
          refine J_iload (pc := 34) C dX1_sum_34 4 rfl ?_
          refine J_cvr (pc := 36) (As := [.int x4]) (st := []) C dX1_sum_36 ml_RX1_37 mi_yX6_at (fun r36 hr => c_X6_at l D cI cB cL cO pf 0 a_this_contributors a_this_contributors_cells n_this_contributors_cells g_this_contributors_cells x4 r36 hr) h [3, 4] rfl rfl rfl rfl rfl ⟨rfl, rfl⟩ ⟨(Nat.le_of_ble_eq_true rfl), (Nat.le_of_ble_eq_true rfl)⟩ ⟨Nat.zero_le _, Nat.zero_le _⟩ (Nat.le_of_ble_eq_true rfl) (fun r36 h => ?_)
          refine J_iload_n (pc := 39) C dX1_sum_39 2 rfl ?_
          refine J_ic_ne (pc := 40) (tgt := 55) C dX1_sum_40 (by decide) h (fun h => ?_) (fun h => ?_)
          · refine J_iincN (pc := 55) (v := (1 : Int32)) C (fun y55 => [(4, .int y55), (0, .ref a_this), (1, .int x1), (2, .int x2), (3, .int x3)]) dX1_sum_55 4 rfl (by decide) h (by decide) (fun _ => rfl) (fun y55 h => ?_)
            refine J_goto (tgt := 5) (pc := 58) C dX1_sum_58 (by decide) ?_
            refine J_sub (lv2 := [(0, .ref a_this), (1, .int x1), (2, .int x2), (3, .int x3), (4, .int y55)]) [1, 2, 3, 4, 0] rfl ?_
            exact ih _ _ h
          · exact t_X1_sum_b43 C hr ih h
set_option maxHeartbeats 4000000 in
set_option maxRecDepth 100000 in
theorem c_X1_sum (l : Launch) (D : va_G) (cI cB cL cO : ClassId) (pf : Nat → Nat) (N : Nat) (a_this a_this_lists a_this_days a_this_contributors a_this_points a_this_lists_cells a_this_contributors_cells a_this_points_cells : Nat) (n_this_lists_cells : Nat) (n_this_contributors_cells : Nat) (n_this_points_cells : Nat) (v_this_size : Int32) (g_this_lists_cells : Nat → Int32) (g_this_contributors_cells : Nat → Int32) (g_this_points_cells : Nat → Int32) (x1 : Int32) (x2 : Int32) (o : Int32) (h : f_X1_sum N x1 x2 n_this_lists_cells n_this_contributors_cells n_this_points_cells v_this_size g_this_lists_cells g_this_contributors_cells g_this_points_cells = some o) : Ct l D [(cI, .int), (cB, .byte), (cL, .long), (cO, .object RX0)] pf yX1_sum cX1_sum 5 (some FieldType.int) { frames := 2, cells := 0, slots := 0, locals := 43 } [.ref a_this, .int x1, .int x2] [(a_this, .inr (1, [.ref a_this_lists, .ref a_this_days, .ref a_this_contributors, .ref a_this_points, .int v_this_size])), (a_this_lists, .inr (6, [.ref a_this_lists_cells])), (a_this_lists_cells, .inl (cI, n_this_lists_cells, .inl g_this_lists_cells)), (a_this_contributors, .inr (6, [.ref a_this_contributors_cells])), (a_this_contributors_cells, .inl (cI, n_this_contributors_cells, .inl g_this_contributors_cells)), (a_this_points, .inr (6, [.ref a_this_points_cells])), (a_this_points_cells, .inl (cI, n_this_points_cells, .inl g_this_points_cells))] (is1 (some (.int o)) [(a_this, .inr (1, [.ref a_this_lists, .ref a_this_days, .ref a_this_contributors, .ref a_this_points, .int v_this_size])), (a_this_lists, .inr (6, [.ref a_this_lists_cells])), (a_this_lists_cells, .inl (cI, n_this_lists_cells, .inl g_this_lists_cells)), (a_this_contributors, .inr (6, [.ref a_this_contributors_cells])), (a_this_contributors_cells, .inl (cI, n_this_contributors_cells, .inl g_this_contributors_cells)), (a_this_points, .inr (6, [.ref a_this_points_cells])), (a_this_points_cells, .inl (cI, n_this_points_cells, .inl g_this_points_cells))]) := by
  refine Ct_of (own := RX1) (lv0 := [(0, .ref a_this), (1, .int x1), (2, .int x2)]) (by decide) rfl rfl (Nat.le_of_ble_eq_true rfl) ?_
  intro p e s m args below meth c C hr hnm
  unfold f_X1_sum at h
  refine J_iconst (v := (0 : Int32)) (pc := 0) C dX1_sum_0 (by decide) ?_
  refine J_istore_n (lv2 := [(3, .int (0 : Int32)), (0, .ref a_this), (1, .int x1), (2, .int x2)]) (pc := 1) C dX1_sum_1 (by decide) rfl ?_
  refine J_iconst (v := (0 : Int32)) (pc := 2) C dX1_sum_2 (by decide) ?_
  refine J_istore (lv2 := [(4, .int (0 : Int32)), (3, .int (0 : Int32)), (0, .ref a_this), (1, .int x1), (2, .int x2)]) (pc := 3) C dX1_sum_3 (by decide) rfl ?_
  refine J_sub (lv2 := [(0, .ref a_this), (1, .int x1), (2, .int x2), (3, .int (0 : Int32)), (4, .int (0 : Int32))]) [2, 3, 4, 1, 0] rfl ?_
  exact t_X1_sum_b5 C hr N _ _ h
