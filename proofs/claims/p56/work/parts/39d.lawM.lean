/-! printed by a program of ours: one turn of the law's loop, and the end behind it -/
def f_L_turn_b1004 (N : Nat) (pf : Nat → Nat) (x6 : Int64) (x8 : Int32) (zs : T_PL) : Option (Int64 × Int32 × T_PL) :=
  ((f_L_isSound N pf zs).bind fun r1006 => (if r1006.1 = 0 then none else (some (x6, x8, r1006.2))))
def f_L_turn_b961 (N : Nat) (pf : Nat → Nat) (x6 : Int64) (x8 : Int32) (x10 : Int32) (x11 : Int64) (x13 : Int32) (x16 : Int32) (zs : T_PL) : Option (Int64 × Int32 × T_PL) :=
  (if x16 < 0 then (f_L_turn_b1004 N pf x6 x8 zs) else ((f_L_in (x10 >>> ((26 : Int32) &&& 31)) (4 : Int32)).bind fun r972 => (if r972 = 0 then ((P_undo N zs).bind fun r979 => (if ¬ r979.1 = 0 then none else (if r979.2.1 = (if (7 : Int32) < x13 then (7 : Int32) else x13) then ((f_L_all N r979.2.2).bind fun r993 => (if (lg_cmp r993.1 x11) = 0 then (f_L_turn_b1004 N pf x6 x8 r993.2) else none)) else none))) else (f_L_turn_b1004 N pf x6 x8 zs))))
def f_L_turn_b938 (N : Nat) (pf : Nat → Nat) (x6 : Int64) (x8 : Int32) (x10 : Int32) (x11 : Int64) (x13 : Int32) (x16 : Int32) (zs : T_PL) : Option (Int64 × Int32 × T_PL) :=
  (if x16 < 0 then (f_L_turn_b961 N pf x6 x8 x10 x11 x13 x16 zs) else ((P_undoCount N zs).bind fun r944 => (if r944.1 = (if (x13 + (1 : Int32)) < (8 : Int32) then (x13 + (1 : Int32)) else (8 : Int32)) then (f_L_turn_b961 N pf x6 x8 x10 x11 x13 x16 r944.2) else none)))
def f_L_turn_b912 (N : Nat) (pf : Nat → Nat) (x6 : Int64) (x8 : Int32) (x10 : Int32) (x11 : Int64) (x13 : Int32) (x16 : Int32) (zs : T_PL) : Option (Int64 × Int32 × T_PL) :=
  (if 0 ≤ x16 then (f_L_turn_b938 N pf x6 x8 x10 x11 x13 x16 zs) else ((f_L_all N zs).bind fun r918 => (if (lg_cmp r918.1 x11) = 0 then ((P_undoCount N r918.2).bind fun r928 => (if r928.1 = x13 then (f_L_turn_b938 N pf x6 x8 x10 x11 x13 x16 r928.2) else none)) else none)))
def f_L_turn_b352 (N : Nat) (pf : Nat → Nat) (x6 : Int64) (x8 : Int32) (x10 : Int32) (x11 : Int64) (x13 : Int32) (x14 : Int32) (zs : T_PL) : Option (Int64 × Int32 × T_PL) :=
  ((f_L_categories pf).bind fun r358 => ((f_L_in (x10 >>> ((8 : Int32) &&& 31)) r358).bind fun r361 => ((f_L_in (x10 >>> ((11 : Int32) &&& 31)) (9000 : Int32)).bind fun r375 => ((some ((1 : Int32) + r375)).bind fun y379 => ((P_wouldEarn N zs x14 r361 y379).bind fun r388 => (if ¬ r388.1 = 0 then none else ((P_purchase N r388.2.2 x14 r361 y379).bind fun r400 => (if ¬ r400.1 = 0 then none else (if r400.2.1 = r388.2.1 then ((P_purchaseCount N r400.2.2).bind fun r414 => ((P_purchasePart N r414.2 (r414.1 - (1 : Int32)) (4 : Int32)).bind fun r420 => (if ¬ r420.1 = 0 then none else (if r420.2.1 = r400.2.1 then ((P_purchaseCount N r420.2.2).bind fun r430 => ((P_purchasePart N r430.2 (r430.1 - (1 : Int32)) (0 : Int32)).bind fun r436 => (if ¬ r436.1 = 0 then none else (if r436.2.1 = x14 then (f_L_turn_b912 N pf x6 x8 x10 x11 x13 r400.2.1 r436.2.2) else none)))) else none)))) else none)))))))))
def f_L_turn_b579 (N : Nat) (pf : Nat → Nat) (x6 : Int64) (x8 : Int32) (x10 : Int32) (x11 : Int64) (x13 : Int32) (x16 : Int32) (x17 : Int32) (x18 : Int32) (zs : T_PL) : Option (Int64 × Int32 × T_PL) :=
  (if x16 = (-2 : Int32) then (if x18 < x17 then (f_L_turn_b912 N pf x6 x8 x10 x11 x13 x16 zs) else none) else (f_L_turn_b912 N pf x6 x8 x10 x11 x13 x16 zs))
def f_L_turn (N : Nat) (pf : Nat → Nat) (x6 : Int64) (x8 : Int32) (x9 : Int32) (zs : T_PL) : Option (Int64 × Int32 × T_PL) :=
  ((f_cell pf ((8 : Int32) + x9)).bind fun r248 => ((f_L_all N zs).bind fun r254 => ((P_undoCount N r254.2).bind fun r260 => ((f_L_members pf).bind fun r270 => ((f_L_in (r248 >>> ((4 : Int32) &&& 31)) r270).bind fun r273 => ((f_L_members pf).bind fun r284 => ((f_L_in (r248 >>> ((8 : Int32) &&& 31)) r284).bind fun r287 => ((f_L_in r248 (11 : Int32)).bind fun r296 => (if r296 = (0 : Int32) then (f_L_turn_b352 N pf x6 x8 r248 r254.1 r260.1 r273 r260.2) else (if r296 = (1 : Int32) then (f_L_turn_b352 N pf x6 x8 r248 r254.1 r260.1 r273 r260.2) else (if r296 = (2 : Int32) then (f_L_turn_b352 N pf x6 x8 r248 r254.1 r260.1 r273 r260.2) else (if r296 = (3 : Int32) then ((f_L_in (r248 >>> ((8 : Int32) &&& 31)) (10 : Int32)).bind fun r453 => ((P_total N r260.2 (6 : Int32)).bind fun r461 => (if ¬ r461.1 = 0 then none else ((H_refunded N r461.2.2 r453).bind fun r469 => (if r469.1 < 0 then (f_L_turn_b912 N pf x6 x8 r248 r254.1 r260.1 r469.1 r469.2) else ((P_purchasePart N r469.2 r453 (6 : Int32)).bind fun r484 => (if ¬ r484.1 = 0 then none else (if r484.2.1 = (1 : Int32) then ((P_total N r484.2.2 (6 : Int32)).bind fun r494 => (if ¬ r494.1 = 0 then none else (if r494.2.1 = (r461.2.1 + r469.1) then (f_L_turn_b912 N pf x6 x8 r248 r254.1 r260.1 r469.1 r494.2.2) else none))) else none)))))))) else (if r296 = (4 : Int32) then ((f_L_in (r248 >>> ((8 : Int32) &&& 31)) (600 : Int32)).bind fun r515 => ((P_available N r260.2 r273).bind fun r523 => (if ¬ r523.1 = 0 then none else ((P_poolBalance N r523.2.2 (0 : Int32)).bind fun r530 => (if ¬ r530.1 = 0 then none else ((H_redeemed N r530.2.2 r273 r515).bind fun r540 => (if r540.1 < 0 then (f_L_turn_b579 N pf x6 x8 r248 r254.1 r260.1 r540.1 r515 r523.2.1 r540.2) else ((P_available N r540.2 r273).bind fun r553 => (if ¬ r553.1 = 0 then none else (if r553.2.1 = (r523.2.1 - r515) then ((P_poolBalance N r553.2.2 (0 : Int32)).bind fun r566 => (if ¬ r566.1 = 0 then none else (if r566.2.1 = (r530.2.1 - r540.1) then (f_L_turn_b579 N pf x6 x8 r248 r254.1 r260.1 r540.1 r515 r523.2.1 r566.2.2) else none))) else none)))))))))) else (if r296 = (5 : Int32) then ((f_L_in (r248 >>> ((12 : Int32) &&& 31)) (300 : Int32)).bind fun r603 => ((P_balance N r260.2 r273).bind fun r611 => (if ¬ r611.1 = 0 then none else ((P_debt N r611.2.2 r287).bind fun r619 => (if ¬ r619.1 = 0 then none else ((H_transferred N r619.2.2 r273 r287 r603).bind fun r631 => (if r631.1 < 0 then (f_L_turn_b912 N pf x6 x8 r248 r254.1 r260.1 r631.1 r631.2) else ((P_balance N r631.2 r273).bind fun r644 => (if ¬ r644.1 = 0 then none else (if r644.2.1 = (r611.2.1 - r603) then ((P_debt N r644.2.2 r287).bind fun r658 => (if ¬ r658.1 = 0 then none else (if r658.2.1 = (r619.2.1 - r631.1) then (f_L_turn_b912 N pf x6 x8 r248 r254.1 r260.1 r631.1 r658.2.2) else none))) else none)))))))))) else (if r296 = (6 : Int32) then ((P_members N r260.2 (0 : Int32)).bind fun r673 => (if ¬ r673.1 = 0 then none else ((f_J6_bitCount_0f7a4 r673.2.1).bind fun r676 => ((H_joined N r673.2.2 r273).bind fun r684 => (if r684.1 < 0 then (f_L_turn_b912 N pf x6 x8 r248 r254.1 r260.1 r684.1 r684.2) else (if r684.1 = (r676 + (1 : Int32)) then ((P_household N r684.2 r273).bind fun r706 => (if ¬ r706.1 = 0 then none else (if r706.2.1 = 0 then (f_L_turn_b912 N pf x6 x8 r248 r254.1 r260.1 r684.1 r706.2.2) else none))) else none)))))) else (if r296 = (7 : Int32) then ((P_contributed N r260.2 r273).bind fun r717 => (if ¬ r717.1 = 0 then none else ((H_left N r717.2.2 r273).bind fun r725 => (if r725.1 < 0 then (f_L_turn_b912 N pf x6 x8 r248 r254.1 r260.1 r725.1 r725.2) else (if r725.1 = r717.2.1 then ((P_household N r725.2 r273).bind fun r745 => (if ¬ r745.1 = 0 then none else (if r745.2.1 = (-1 : Int32) then (f_L_turn_b912 N pf x6 x8 r248 r254.1 r260.1 r725.1 r745.2.2) else none))) else none))))) else (if r296 = (8 : Int32) then ((f_L_in (r248 >>> ((8 : Int32) &&& 31)) (101 : Int32)).bind fun r763 => ((P_setShare N r260.2 (0 : Int32) r763).bind fun r766 => (if ¬ r766.1 = 0 then none else (f_L_turn_b912 N pf x6 x8 r248 r254.1 r260.1 r766.2.1 r766.2.2)))) else (if r296 = (9 : Int32) then ((f_L_in (r248 >>> ((8 : Int32) &&& 31)) (25 : Int32)).bind fun r782 => ((some ((1 : Int32) + r782)).bind fun y786 => ((P_today N r260.2).bind fun r789 => ((P_tierAfter N r789.2 r273 y786).bind fun r799 => (if ¬ r799.1 = 0 then none else ((P_total N r799.2.2 (2 : Int32)).bind fun r806 => (if ¬ r806.1 = 0 then none else ((P_expiringWithin N r806.2.2 r273 y786).bind fun r816 => (if ¬ r816.1 = 0 then none else ((P_balance N r816.2.2 r273).bind fun r824 => (if ¬ r824.1 = 0 then none else ((P_advance N r824.2.2 y786).bind fun r832 => (if ¬ r832.1 = 0 then none else ((P_today N r832.2.2).bind fun r838 => (if r838.1 = (r789.1 + y786) then ((P_tier N r838.2 r273).bind fun r852 => (if ¬ r852.1 = 0 then none else (if r852.2.1 = r799.2.1 then ((P_total N r852.2.2 (2 : Int32)).bind fun r862 => (if ¬ r862.1 = 0 then none else (if r862.2.1 = (r806.2.1 + r832.2.1) then ((P_balance N r862.2.2 r273).bind fun r876 => (if ¬ r876.1 = 0 then none else (if r876.2.1 = (r824.2.1 - r816.2.1) then (f_L_turn_b912 N pf x6 x8 r248 r254.1 r260.1 r832.2.1 r876.2.2) else none))) else none))) else none))) else none))))))))))))))) else ((P_save N r260.2).bind fun r890 => ((P_today N r890.2).bind fun r894 => (if r890.1 = r894.1 then (f_L_turn_b912 N pf r254.1 (1 : Int32) r248 r254.1 r260.1 (-1 : Int32) r894.2) else none)))))))))))))))))))))
set_option maxHeartbeats 4000000 in
set_option maxRecDepth 100000 in
theorem t_L_turn_b1004 {l : Launch} {D : va_G} {A : Nat → Nat → Nat} {cI cB cL cO : ClassId} {pf : Nat → Nat} {p : Program} {e : Env} {s : State} {m : MethodId} {args : Array Value} {below : List Frame} {meth : Method} {c : Code} {AP : Nat → Prop} {Q : State → Prop} {N k0 n0 : Nat} {x6 : Int64} {x8 : Int32} {x9 : Int32} {zs : T_PL} {o : Int64 × Int32 × T_PL} (C : jC p s m args meth c cL_law 23 RL D [(cI, .int), (cB, .byte), (cL, .byte), (cO, .object RX0)] pf AP) (hf : l.stackTraces = false) (hk : k0 + 4 ≤ room_1.cells) (hn : n0 + 24 ≤ room_1.slots) (kk : J p l e room_1 s m args below meth c 23 D AP Q (k0 + 4) (n0 + 24) 1014 [(0, .ref (pf 92)), (1, .ref (A 0 0)), (6, .long o.1), (8, .int o.2.1), (9, .int x9)] [] (wPL cI cB cO A o.2.2)) (h : f_L_turn_b1004 N pf x6 x8 zs = some o) : J p l e room_1 s m args below meth c 23 D AP Q (k0 + 4) (n0 + 24) 1004 [(0, .ref (pf 92)), (1, .ref (A 0 0)), (6, .long x6), (8, .int x8), (9, .int x9)] [] (wPL cI cB cO A zs) := by
  unfold f_L_turn_b1004 at h
  refine J_aload_n (pc := 1004) C dL_law_1004 0 rfl ?_
  refine J_aload_n (pc := 1005) C dL_law_1005 1 rfl ?_
  refine J_csL (b := 0) (pc := 1006) (As := [.ref (pf 92), .ref (A 0 0)]) (st := []) (V := fun r1006 => some (.int r1006.1)) C (fun r1006 => (wPL cI cB cO A r1006.2)) dL_law_1006 ml_RL_309 mi_yL_isSound (fun r hr => c_L_isSound l D cI cB cL cO pf N A zs r hr) h rfl ⟨rfl, rfl⟩ ⟨(Nat.le_of_ble_eq_true rfl), (Nat.le_of_ble_eq_true rfl)⟩ ⟨(by first | omega | (dsimp only; omega)), (by first | omega | (dsimp only; omega))⟩ (Nat.le_of_ble_eq_true rfl) (fun r1006 h => ?_)
  refine J_if_ne (pc := 1009) (tgt := 1014) C dL_law_1009 (by decide) h (fun h => ?_) (fun h => ?_)
  · have h := Option.some.inj h
    subst h
    refine J_widen (k2 := k0 + 4) (n2 := n0 + 24) (by first | omega | (dsimp only; omega)) (by first | omega | (dsimp only; omega)) ?_
    refine J_sub (lv2 := [(0, .ref (pf 92)), (1, .ref (A 0 0)), (6, .long x6), (8, .int x8), (9, .int x9)]) [0, 1, 2, 3, 4] rfl ?_
    exact kk
  · refine J_iconst (v := (0 : Int32)) (pc := 1012) C dL_law_1012 (by decide) ?_
    cases h
set_option maxHeartbeats 4000000 in
set_option maxRecDepth 100000 in
theorem t_L_turn_b961 {l : Launch} {D : va_G} {A : Nat → Nat → Nat} {cI cB cL cO : ClassId} {pf : Nat → Nat} {p : Program} {e : Env} {s : State} {m : MethodId} {args : Array Value} {below : List Frame} {meth : Method} {c : Code} {AP : Nat → Prop} {Q : State → Prop} {N k0 n0 : Nat} {x6 : Int64} {x8 : Int32} {x9 : Int32} {x10 : Int32} {x11 : Int64} {x13 : Int32} {x16 : Int32} {zs : T_PL} {o : Int64 × Int32 × T_PL} (C : jC p s m args meth c cL_law 23 RL D [(cI, .int), (cB, .byte), (cL, .byte), (cO, .object RX0)] pf AP) (hf : l.stackTraces = false) (hk : k0 + 4 ≤ room_1.cells) (hn : n0 + 24 ≤ room_1.slots) (kk : J p l e room_1 s m args below meth c 23 D AP Q (k0 + 4) (n0 + 24) 1014 [(0, .ref (pf 92)), (1, .ref (A 0 0)), (6, .long o.1), (8, .int o.2.1), (9, .int x9)] [] (wPL cI cB cO A o.2.2)) (h : f_L_turn_b961 N pf x6 x8 x10 x11 x13 x16 zs = some o) : J p l e room_1 s m args below meth c 23 D AP Q (k0 + 4) (n0 + 24) 961 [(0, .ref (pf 92)), (1, .ref (A 0 0)), (6, .long x6), (8, .int x8), (9, .int x9), (10, .int x10), (11, .long x11), (13, .int x13), (16, .int x16)] [] (wPL cI cB cO A zs) := by
  unfold f_L_turn_b961 at h
  refine J_iload (pc := 961) C dL_law_961 8 rfl ?_
  refine J_if_lt (pc := 963) (tgt := 1004) C dL_law_963 (by decide) h (fun h => ?_) (fun h => ?_)
  · refine J_widen (k2 := k0 + 4) (n2 := n0 + 24) (by first | omega | (dsimp only; omega)) (by first | omega | (dsimp only; omega)) ?_
    refine J_sub (lv2 := [(0, .ref (pf 92)), (1, .ref (A 0 0)), (6, .long x6), (8, .int x8), (9, .int x9)]) [0, 1, 2, 3, 4] rfl ?_
    exact t_L_turn_b1004 C hf hk hn kk h
  · refine J_iload (pc := 966) C dL_law_966 5 rfl ?_
    refine J_bipush (v := (26 : Int32)) (pc := 968) C dL_law_968 (by decide) ?_
    refine J_ishr (pc := 970) C dL_law_970 ?_
    refine J_iconst (v := (4 : Int32)) (pc := 971) C dL_law_971 (by decide) ?_
    refine J_csL (b := 0) (pc := 972) (As := [.int (x10 >>> ((26 : Int32) &&& 31)), .int (4 : Int32)]) (st := []) (V := fun r972 => some (.int r972)) C (fun _ => (wPL cI cB cO A zs)) dL_law_972 ml_RL_45 mi_yL_in (fun r hr => Ct_nil (c_L_in l D cI cB cL cO pf N (x10 >>> ((26 : Int32) &&& 31)) (4 : Int32) r hr)) h rfl ⟨rfl, rfl⟩ ⟨(Nat.le_of_ble_eq_true rfl), (Nat.le_of_ble_eq_true rfl)⟩ ⟨(by first | omega | (dsimp only; omega)), (by first | omega | (dsimp only; omega))⟩ (Nat.le_of_ble_eq_true rfl) (fun r972 h => ?_)
    refine J_if_ne (pc := 975) (tgt := 1004) C dL_law_975 (by decide) h (fun h => ?_) (fun h => ?_)
    · refine J_widen (k2 := k0 + 4) (n2 := n0 + 24) (by first | omega | (dsimp only; omega)) (by first | omega | (dsimp only; omega)) ?_
      refine J_sub (lv2 := [(0, .ref (pf 92)), (1, .ref (A 0 0)), (6, .long x6), (8, .int x8), (9, .int x9)]) [0, 1, 2, 3, 4] rfl ?_
      exact t_L_turn_b1004 C hf hk hn kk h
    · refine J_aload_n (pc := 978) C dL_law_978 1 rfl ?_
      refine J_cvP (pc := 979) (As := []) (st := []) C (fun z => (wPL cI cB cO A z)) dL_law_979 ml_RL_306 mi_yX10_undo (fun a s2 hr => R_undo l D cI cB cL cO pf N A zs hr) h at_this rfl rfl ⟨rfl, rfl⟩ ⟨(Nat.le_of_ble_eq_true rfl), (Nat.le_of_ble_eq_true rfl)⟩ ⟨(by first | omega | (dsimp only; omega)), (by first | omega | (dsimp only; omega))⟩ (Nat.le_of_ble_eq_true rfl) (fun r979 h => ?_)
      refine J_iload (pc := 982) C dL_law_982 7 rfl ?_
      refine J_bipush (v := (7 : Int32)) (pc := 984) C dL_law_984 (by decide) ?_
      refine J_mmin (pc := 986) C dL_law_986 ml_RL_301 w_min (Nat.le_of_ble_eq_true rfl) (Nat.le_of_ble_eq_true rfl) ⟨(by first | omega | (dsimp only; omega)), (by first | omega | (dsimp only; omega))⟩ ?_
      refine J_ic_ne (pc := 989) (tgt := 1002) C dL_law_989 (by decide) h (fun h => ?_) (fun h => ?_)
      · refine J_iconst (v := (0 : Int32)) (pc := 1002) C dL_law_1002 (by decide) ?_
        cases h
      · refine J_aload_n (pc := 992) C dL_law_992 1 rfl ?_
        refine J_csL (b := 0) (pc := 993) (As := [.ref (A 0 0)]) (st := []) (V := fun r993 => some (.long r993.1)) C (fun r993 => (wPL cI cB cO A r993.2)) dL_law_993 ml_RL_245 mi_yL_all (fun r hr => c_L_all l D cI cB cL cO pf N A r979.2.2 r hr) h rfl ⟨rfl, rfl⟩ ⟨(Nat.le_of_ble_eq_true rfl), (Nat.le_of_ble_eq_true rfl)⟩ ⟨(by first | omega | (dsimp only; omega)), (by first | omega | (dsimp only; omega))⟩ (Nat.le_of_ble_eq_true rfl) (fun r993 h => ?_)
        refine J_lload (pc := 996) C dL_law_996 6 rfl ?_
        refine J_lcmp (pc := 998) C dL_law_998 ?_
        refine J_if_eq (pc := 999) (tgt := 1004) C dL_law_999 (by decide) h (fun h => ?_) (fun h => ?_)
        · refine J_widen (k2 := k0 + 4) (n2 := n0 + 24) (by first | omega | (dsimp only; omega)) (by first | omega | (dsimp only; omega)) ?_
          refine J_sub (lv2 := [(0, .ref (pf 92)), (1, .ref (A 0 0)), (6, .long x6), (8, .int x8), (9, .int x9)]) [0, 1, 2, 3, 4] rfl ?_
          exact t_L_turn_b1004 C hf hk hn kk h
        · refine J_iconst (v := (0 : Int32)) (pc := 1002) C dL_law_1002 (by decide) ?_
          cases h
set_option maxHeartbeats 4000000 in
set_option maxRecDepth 100000 in
theorem t_L_turn_b938 {l : Launch} {D : va_G} {A : Nat → Nat → Nat} {cI cB cL cO : ClassId} {pf : Nat → Nat} {p : Program} {e : Env} {s : State} {m : MethodId} {args : Array Value} {below : List Frame} {meth : Method} {c : Code} {AP : Nat → Prop} {Q : State → Prop} {N k0 n0 : Nat} {x6 : Int64} {x8 : Int32} {x9 : Int32} {x10 : Int32} {x11 : Int64} {x13 : Int32} {x16 : Int32} {zs : T_PL} {o : Int64 × Int32 × T_PL} (C : jC p s m args meth c cL_law 23 RL D [(cI, .int), (cB, .byte), (cL, .byte), (cO, .object RX0)] pf AP) (hf : l.stackTraces = false) (hk : k0 + 4 ≤ room_1.cells) (hn : n0 + 24 ≤ room_1.slots) (kk : J p l e room_1 s m args below meth c 23 D AP Q (k0 + 4) (n0 + 24) 1014 [(0, .ref (pf 92)), (1, .ref (A 0 0)), (6, .long o.1), (8, .int o.2.1), (9, .int x9)] [] (wPL cI cB cO A o.2.2)) (h : f_L_turn_b938 N pf x6 x8 x10 x11 x13 x16 zs = some o) : J p l e room_1 s m args below meth c 23 D AP Q (k0 + 4) (n0 + 24) 938 [(0, .ref (pf 92)), (1, .ref (A 0 0)), (6, .long x6), (8, .int x8), (9, .int x9), (10, .int x10), (11, .long x11), (13, .int x13), (16, .int x16)] [] (wPL cI cB cO A zs) := by
  unfold f_L_turn_b938 at h
  refine J_iload (pc := 938) C dL_law_938 8 rfl ?_
  refine J_if_lt (pc := 940) (tgt := 961) C dL_law_940 (by decide) h (fun h => ?_) (fun h => ?_)
  · refine J_widen (k2 := k0 + 4) (n2 := n0 + 24) (by first | omega | (dsimp only; omega)) (by first | omega | (dsimp only; omega)) ?_
    refine J_sub (lv2 := [(0, .ref (pf 92)), (1, .ref (A 0 0)), (6, .long x6), (8, .int x8), (9, .int x9), (10, .int x10), (11, .long x11), (13, .int x13), (16, .int x16)]) [0, 1, 2, 3, 4, 5, 6, 7, 8] rfl ?_
    exact t_L_turn_b961 C hf hk hn kk h
  · refine J_aload_n (pc := 943) C dL_law_943 1 rfl ?_
    refine J_cvL (pc := 944) (As := []) (st := []) (V := fun r944 => some (.int r944.1)) C (fun r944 => (wPL cI cB cO A r944.2)) dL_law_944 ml_RL_249 mi_yX10_undoCount (fun r hr => Q_undoCount l D cI cB cL cO pf N A zs r hr) h at_this rfl rfl ⟨rfl, rfl⟩ ⟨(Nat.le_of_ble_eq_true rfl), (Nat.le_of_ble_eq_true rfl)⟩ ⟨(by first | omega | (dsimp only; omega)), (by first | omega | (dsimp only; omega))⟩ (Nat.le_of_ble_eq_true rfl) (fun r944 h => ?_)
    refine J_bipush (v := (8 : Int32)) (pc := 947) C dL_law_947 (by decide) ?_
    refine J_iload (pc := 949) C dL_law_949 7 rfl ?_
    refine J_iconst (v := (1 : Int32)) (pc := 951) C dL_law_951 (by decide) ?_
    refine J_iadd (pc := 952) C dL_law_952 ?_
    refine J_mmin (pc := 953) C dL_law_953 ml_RL_301 w_min (Nat.le_of_ble_eq_true rfl) (Nat.le_of_ble_eq_true rfl) ⟨(by first | omega | (dsimp only; omega)), (by first | omega | (dsimp only; omega))⟩ ?_
    refine J_ic_eq (pc := 956) (tgt := 961) C dL_law_956 (by decide) h (fun h => ?_) (fun h => ?_)
    · refine J_widen (k2 := k0 + 4) (n2 := n0 + 24) (by first | omega | (dsimp only; omega)) (by first | omega | (dsimp only; omega)) ?_
      refine J_sub (lv2 := [(0, .ref (pf 92)), (1, .ref (A 0 0)), (6, .long x6), (8, .int x8), (9, .int x9), (10, .int x10), (11, .long x11), (13, .int x13), (16, .int x16)]) [0, 1, 2, 3, 4, 5, 6, 7, 8] rfl ?_
      exact t_L_turn_b961 C hf hk hn kk h
    · refine J_iconst (v := (0 : Int32)) (pc := 959) C dL_law_959 (by decide) ?_
      cases h
set_option maxHeartbeats 4000000 in
set_option maxRecDepth 100000 in
theorem t_L_turn_b912 {l : Launch} {D : va_G} {A : Nat → Nat → Nat} {cI cB cL cO : ClassId} {pf : Nat → Nat} {p : Program} {e : Env} {s : State} {m : MethodId} {args : Array Value} {below : List Frame} {meth : Method} {c : Code} {AP : Nat → Prop} {Q : State → Prop} {N k0 n0 : Nat} {x6 : Int64} {x8 : Int32} {x9 : Int32} {x10 : Int32} {x11 : Int64} {x13 : Int32} {x16 : Int32} {zs : T_PL} {o : Int64 × Int32 × T_PL} (C : jC p s m args meth c cL_law 23 RL D [(cI, .int), (cB, .byte), (cL, .byte), (cO, .object RX0)] pf AP) (hf : l.stackTraces = false) (hk : k0 + 4 ≤ room_1.cells) (hn : n0 + 24 ≤ room_1.slots) (kk : J p l e room_1 s m args below meth c 23 D AP Q (k0 + 4) (n0 + 24) 1014 [(0, .ref (pf 92)), (1, .ref (A 0 0)), (6, .long o.1), (8, .int o.2.1), (9, .int x9)] [] (wPL cI cB cO A o.2.2)) (h : f_L_turn_b912 N pf x6 x8 x10 x11 x13 x16 zs = some o) : J p l e room_1 s m args below meth c 23 D AP Q (k0 + 4) (n0 + 24) 912 [(0, .ref (pf 92)), (1, .ref (A 0 0)), (6, .long x6), (8, .int x8), (9, .int x9), (10, .int x10), (11, .long x11), (13, .int x13), (16, .int x16)] [] (wPL cI cB cO A zs) := by
  unfold f_L_turn_b912 at h
  refine J_iload (pc := 912) C dL_law_912 8 rfl ?_
  refine J_if_ge (pc := 914) (tgt := 938) C dL_law_914 (by decide) h (fun h => ?_) (fun h => ?_)
  · refine J_widen (k2 := k0 + 4) (n2 := n0 + 24) (by first | omega | (dsimp only; omega)) (by first | omega | (dsimp only; omega)) ?_
    refine J_sub (lv2 := [(0, .ref (pf 92)), (1, .ref (A 0 0)), (6, .long x6), (8, .int x8), (9, .int x9), (10, .int x10), (11, .long x11), (13, .int x13), (16, .int x16)]) [0, 1, 2, 3, 4, 5, 6, 7, 8] rfl ?_
    exact t_L_turn_b938 C hf hk hn kk h
  · refine J_aload_n (pc := 917) C dL_law_917 1 rfl ?_
    refine J_csL (b := 0) (pc := 918) (As := [.ref (A 0 0)]) (st := []) (V := fun r918 => some (.long r918.1)) C (fun r918 => (wPL cI cB cO A r918.2)) dL_law_918 ml_RL_245 mi_yL_all (fun r hr => c_L_all l D cI cB cL cO pf N A zs r hr) h rfl ⟨rfl, rfl⟩ ⟨(Nat.le_of_ble_eq_true rfl), (Nat.le_of_ble_eq_true rfl)⟩ ⟨(by first | omega | (dsimp only; omega)), (by first | omega | (dsimp only; omega))⟩ (Nat.le_of_ble_eq_true rfl) (fun r918 h => ?_)
    refine J_lload (pc := 921) C dL_law_921 6 rfl ?_
    refine J_lcmp (pc := 923) C dL_law_923 ?_
    refine J_if_ne (pc := 924) (tgt := 936) C dL_law_924 (by decide) h (fun h => ?_) (fun h => ?_)
    · refine J_iconst (v := (0 : Int32)) (pc := 936) C dL_law_936 (by decide) ?_
      cases h
    · refine J_aload_n (pc := 927) C dL_law_927 1 rfl ?_
      refine J_cvL (pc := 928) (As := []) (st := []) (V := fun r928 => some (.int r928.1)) C (fun r928 => (wPL cI cB cO A r928.2)) dL_law_928 ml_RL_249 mi_yX10_undoCount (fun r hr => Q_undoCount l D cI cB cL cO pf N A r918.2 r hr) h at_this rfl rfl ⟨rfl, rfl⟩ ⟨(Nat.le_of_ble_eq_true rfl), (Nat.le_of_ble_eq_true rfl)⟩ ⟨(by first | omega | (dsimp only; omega)), (by first | omega | (dsimp only; omega))⟩ (Nat.le_of_ble_eq_true rfl) (fun r928 h => ?_)
      refine J_iload (pc := 931) C dL_law_931 7 rfl ?_
      refine J_ic_eq (pc := 933) (tgt := 938) C dL_law_933 (by decide) h (fun h => ?_) (fun h => ?_)
      · refine J_widen (k2 := k0 + 4) (n2 := n0 + 24) (by first | omega | (dsimp only; omega)) (by first | omega | (dsimp only; omega)) ?_
        refine J_sub (lv2 := [(0, .ref (pf 92)), (1, .ref (A 0 0)), (6, .long x6), (8, .int x8), (9, .int x9), (10, .int x10), (11, .long x11), (13, .int x13), (16, .int x16)]) [0, 1, 2, 3, 4, 5, 6, 7, 8] rfl ?_
        exact t_L_turn_b938 C hf hk hn kk h
      · refine J_iconst (v := (0 : Int32)) (pc := 936) C dL_law_936 (by decide) ?_
        cases h
set_option maxHeartbeats 4000000 in
set_option maxRecDepth 100000 in
theorem t_L_turn_b352 {l : Launch} {D : va_G} {A : Nat → Nat → Nat} {cI cB cL cO : ClassId} {pf : Nat → Nat} {p : Program} {e : Env} {s : State} {m : MethodId} {args : Array Value} {below : List Frame} {meth : Method} {c : Code} {AP : Nat → Prop} {Q : State → Prop} {N k0 n0 : Nat} {x6 : Int64} {x8 : Int32} {x9 : Int32} {x10 : Int32} {x11 : Int64} {x13 : Int32} {x14 : Int32} {zs : T_PL} {o : Int64 × Int32 × T_PL} (C : jC p s m args meth c cL_law 23 RL D [(cI, .int), (cB, .byte), (cL, .byte), (cO, .object RX0)] pf AP) (hf : l.stackTraces = false) (hk : k0 + 4 ≤ room_1.cells) (hn : n0 + 24 ≤ room_1.slots) (kk : J p l e room_1 s m args below meth c 23 D AP Q (k0 + 4) (n0 + 24) 1014 [(0, .ref (pf 92)), (1, .ref (A 0 0)), (6, .long o.1), (8, .int o.2.1), (9, .int x9)] [] (wPL cI cB cO A o.2.2)) (h : f_L_turn_b352 N pf x6 x8 x10 x11 x13 x14 zs = some o) : J p l e room_1 s m args below meth c 23 D AP Q (k0) (n0) 352 [(0, .ref (pf 92)), (1, .ref (A 0 0)), (6, .long x6), (8, .int x8), (9, .int x9), (10, .int x10), (11, .long x11), (13, .int x13), (14, .int x14)] [] (wPL cI cB cO A zs) := by
  unfold f_L_turn_b352 at h
  refine J_iload (pc := 352) C dL_law_352 5 rfl ?_
  refine J_bipush (v := (8 : Int32)) (pc := 354) C dL_law_354 (by decide) ?_
  refine J_ishr (pc := 356) C dL_law_356 ?_
  refine J_aload_n (pc := 357) C dL_law_357 0 rfl ?_
  refine J_csL (b := 0) (pc := 358) (As := [.ref (pf 92)]) (st := [.int (x10 >>> ((8 : Int32) &&& 31))]) (V := fun r358 => some (.int r358)) C (fun _ => (wPL cI cB cO A zs)) dL_law_358 ml_RL_97 mi_yL_categories (fun r hr => Ct_nil (c_L_categories l D cI cB cL cO pf N r hr)) h rfl ⟨rfl, rfl⟩ ⟨(Nat.le_of_ble_eq_true rfl), (Nat.le_of_ble_eq_true rfl)⟩ ⟨(by first | omega | (dsimp only; omega)), (by first | omega | (dsimp only; omega))⟩ (Nat.le_of_ble_eq_true rfl) (fun r358 h => ?_)
  refine J_csL (b := 0) (pc := 361) (As := [.int (x10 >>> ((8 : Int32) &&& 31)), .int r358]) (st := []) (V := fun r361 => some (.int r361)) C (fun _ => (wPL cI cB cO A zs)) dL_law_361 ml_RL_45 mi_yL_in (fun r hr => Ct_nil (c_L_in l D cI cB cL cO pf N (x10 >>> ((8 : Int32) &&& 31)) r358 r hr)) h rfl ⟨rfl, rfl⟩ ⟨(Nat.le_of_ble_eq_true rfl), (Nat.le_of_ble_eq_true rfl)⟩ ⟨(by first | omega | (dsimp only; omega)), (by first | omega | (dsimp only; omega))⟩ (Nat.le_of_ble_eq_true rfl) (fun r361 h => ?_)
  refine J_istore (lv2 := [(17, .int r361), (0, .ref (pf 92)), (1, .ref (A 0 0)), (6, .long x6), (8, .int x8), (9, .int x9), (10, .int x10), (11, .long x11), (13, .int x13), (14, .int x14)]) (pc := 364) C dL_law_364 (by decide) rfl ?_
  refine J_iconst (v := (1 : Int32)) (pc := 366) C dL_law_366 (by decide) ?_
  refine J_iload (pc := 367) C dL_law_367 6 rfl ?_
  refine J_bipush (v := (11 : Int32)) (pc := 369) C dL_law_369 (by decide) ?_
  refine J_ishr (pc := 371) C dL_law_371 ?_
  refine J_sipush (v := (9000 : Int32)) (pc := 372) C dL_law_372 (by decide) ?_
  refine J_csL (b := 0) (pc := 375) (As := [.int (x10 >>> ((11 : Int32) &&& 31)), .int (9000 : Int32)]) (st := [.int (1 : Int32)]) (V := fun r375 => some (.int r375)) C (fun _ => (wPL cI cB cO A zs)) dL_law_375 ml_RL_45 mi_yL_in (fun r hr => Ct_nil (c_L_in l D cI cB cL cO pf N (x10 >>> ((11 : Int32) &&& 31)) (9000 : Int32) r hr)) h rfl ⟨rfl, rfl⟩ ⟨(Nat.le_of_ble_eq_true rfl), (Nat.le_of_ble_eq_true rfl)⟩ ⟨(by first | omega | (dsimp only; omega)), (by first | omega | (dsimp only; omega))⟩ (Nat.le_of_ble_eq_true rfl) (fun r375 h => ?_)
  refine J_iadd (pc := 378) C dL_law_378 ?_
  refine J_istoreN (pc := 379) C (fun y379 => [(18, .int y379), (17, .int r361), (0, .ref (pf 92)), (1, .ref (A 0 0)), (6, .long x6), (8, .int x8), (9, .int x9), (10, .int x10), (11, .long x11), (13, .int x13), (14, .int x14)]) dL_law_379 h (by decide) (fun _ => rfl) (fun y379 h => ?_)
  refine J_aload_n (pc := 381) C dL_law_381 3 rfl ?_
  refine J_iload (pc := 382) C dL_law_382 10 rfl ?_
  refine J_iload (pc := 384) C dL_law_384 1 rfl ?_
  refine J_iload (pc := 386) C dL_law_386 0 rfl ?_
  refine J_cvP (pc := 388) (As := [.int x14, .int r361, .int y379]) (st := []) C (fun z => (wPL cI cB cO A z)) dL_law_388 ml_RL_252 mi_yX10_wouldEarn (fun a s2 hr => R_wouldEarn l D cI cB cL cO pf N A zs x14 r361 y379 hr) h at_this rfl rfl ⟨rfl, rfl⟩ ⟨(Nat.le_of_ble_eq_true rfl), (Nat.le_of_ble_eq_true rfl)⟩ ⟨(by first | omega | (dsimp only; omega)), (by first | omega | (dsimp only; omega))⟩ (Nat.le_of_ble_eq_true rfl) (fun r388 h => ?_)
  refine J_istore (lv2 := [(19, .int r388.2.1), (18, .int y379), (17, .int r361), (0, .ref (pf 92)), (1, .ref (A 0 0)), (6, .long x6), (8, .int x8), (9, .int x9), (10, .int x10), (11, .long x11), (13, .int x13), (14, .int x14)]) (pc := 391) C dL_law_391 (by decide) rfl ?_
  refine J_aload_n (pc := 393) C dL_law_393 4 rfl ?_
  refine J_iload (pc := 394) C dL_law_394 11 rfl ?_
  refine J_iload (pc := 396) C dL_law_396 2 rfl ?_
  refine J_iload (pc := 398) C dL_law_398 1 rfl ?_
  refine J_cvP (pc := 400) (As := [.int x14, .int r361, .int y379]) (st := []) C (fun z => (wPL cI cB cO A z)) dL_law_400 ml_RL_255 mi_yX10_purchase (fun a s2 hr => R_purchase l D cI cB cL cO pf N A r388.2.2 x14 r361 y379 hr) h at_this rfl rfl ⟨rfl, rfl⟩ ⟨(Nat.le_of_ble_eq_true rfl), (Nat.le_of_ble_eq_true rfl)⟩ ⟨(by first | omega | (dsimp only; omega)), (by first | omega | (dsimp only; omega))⟩ (Nat.le_of_ble_eq_true rfl) (fun r400 h => ?_)
  refine J_istore (lv2 := [(16, .int r400.2.1), (19, .int r388.2.1), (18, .int y379), (17, .int r361), (0, .ref (pf 92)), (1, .ref (A 0 0)), (6, .long x6), (8, .int x8), (9, .int x9), (10, .int x10), (11, .long x11), (13, .int x13), (14, .int x14)]) (pc := 403) C dL_law_403 (by decide) rfl ?_
  refine J_iload (pc := 405) C dL_law_405 0 rfl ?_
  refine J_iload (pc := 407) C dL_law_407 1 rfl ?_
  refine J_ic_ne (pc := 409) (tgt := 444) C dL_law_409 (by decide) h (fun h => ?_) (fun h => ?_)
  · refine J_iconst (v := (0 : Int32)) (pc := 444) C dL_law_444 (by decide) ?_
    cases h
  · refine J_aload_n (pc := 412) C dL_law_412 5 rfl ?_
    refine J_aload_n (pc := 413) C dL_law_413 5 rfl ?_
    refine J_cvL (pc := 414) (As := []) (st := [.ref (A 0 0)]) (V := fun r414 => some (.int r414.1)) C (fun r414 => (wPL cI cB cO A r414.2)) dL_law_414 ml_RL_197 mi_yX10_purchaseCount (fun r hr => Q_purchaseCount l D cI cB cL cO pf N A r400.2.2 r hr) h at_this rfl rfl ⟨rfl, rfl⟩ ⟨(Nat.le_of_ble_eq_true rfl), (Nat.le_of_ble_eq_true rfl)⟩ ⟨(by first | omega | (dsimp only; omega)), (by first | omega | (dsimp only; omega))⟩ (Nat.le_of_ble_eq_true rfl) (fun r414 h => ?_)
    refine J_iconst (v := (1 : Int32)) (pc := 417) C dL_law_417 (by decide) ?_
    refine J_isub (pc := 418) C dL_law_418 ?_
    refine J_iconst (v := (4 : Int32)) (pc := 419) C dL_law_419 (by decide) ?_
    refine J_cvP (pc := 420) (As := [.int (r414.1 - (1 : Int32)), .int (4 : Int32)]) (st := []) C (fun z => (wPL cI cB cO A z)) dL_law_420 ml_RL_258 mi_yX10_purchasePart (fun a s2 hr => R_purchasePart l D cI cB cL cO pf N A r414.2 (r414.1 - (1 : Int32)) (4 : Int32) hr) h at_this rfl rfl ⟨rfl, rfl⟩ ⟨(Nat.le_of_ble_eq_true rfl), (Nat.le_of_ble_eq_true rfl)⟩ ⟨(by first | omega | (dsimp only; omega)), (by first | omega | (dsimp only; omega))⟩ (Nat.le_of_ble_eq_true rfl) (fun r420 h => ?_)
    refine J_iload (pc := 423) C dL_law_423 0 rfl ?_
    refine J_ic_ne (pc := 425) (tgt := 444) C dL_law_425 (by decide) h (fun h => ?_) (fun h => ?_)
    · refine J_iconst (v := (0 : Int32)) (pc := 444) C dL_law_444 (by decide) ?_
      cases h
    · refine J_aload_n (pc := 428) C dL_law_428 5 rfl ?_
      refine J_aload_n (pc := 429) C dL_law_429 5 rfl ?_
      refine J_cvL (pc := 430) (As := []) (st := [.ref (A 0 0)]) (V := fun r430 => some (.int r430.1)) C (fun r430 => (wPL cI cB cO A r430.2)) dL_law_430 ml_RL_197 mi_yX10_purchaseCount (fun r hr => Q_purchaseCount l D cI cB cL cO pf N A r420.2.2 r hr) h at_this rfl rfl ⟨rfl, rfl⟩ ⟨(Nat.le_of_ble_eq_true rfl), (Nat.le_of_ble_eq_true rfl)⟩ ⟨(by first | omega | (dsimp only; omega)), (by first | omega | (dsimp only; omega))⟩ (Nat.le_of_ble_eq_true rfl) (fun r430 h => ?_)
      refine J_iconst (v := (1 : Int32)) (pc := 433) C dL_law_433 (by decide) ?_
      refine J_isub (pc := 434) C dL_law_434 ?_
      refine J_iconst (v := (0 : Int32)) (pc := 435) C dL_law_435 (by decide) ?_
      refine J_cvP (pc := 436) (As := [.int (r430.1 - (1 : Int32)), .int (0 : Int32)]) (st := []) C (fun z => (wPL cI cB cO A z)) dL_law_436 ml_RL_258 mi_yX10_purchasePart (fun a s2 hr => R_purchasePart l D cI cB cL cO pf N A r430.2 (r430.1 - (1 : Int32)) (0 : Int32) hr) h at_this rfl rfl ⟨rfl, rfl⟩ ⟨(Nat.le_of_ble_eq_true rfl), (Nat.le_of_ble_eq_true rfl)⟩ ⟨(by first | omega | (dsimp only; omega)), (by first | omega | (dsimp only; omega))⟩ (Nat.le_of_ble_eq_true rfl) (fun r436 h => ?_)
      refine J_iload (pc := 439) C dL_law_439 12 rfl ?_
      refine J_ic_eq (pc := 441) (tgt := 912) C dL_law_441 (by decide) h (fun h => ?_) (fun h => ?_)
      · refine J_widen (k2 := k0 + 4) (n2 := n0 + 24) (by first | omega | (dsimp only; omega)) (by first | omega | (dsimp only; omega)) ?_
        refine J_sub (lv2 := [(0, .ref (pf 92)), (1, .ref (A 0 0)), (6, .long x6), (8, .int x8), (9, .int x9), (10, .int x10), (11, .long x11), (13, .int x13), (16, .int r400.2.1)]) [4, 5, 6, 7, 8, 9, 10, 11, 0] rfl ?_
        exact t_L_turn_b912 C hf hk hn kk h
      · refine J_iconst (v := (0 : Int32)) (pc := 444) C dL_law_444 (by decide) ?_
        cases h
set_option maxHeartbeats 4000000 in
set_option maxRecDepth 100000 in
theorem t_L_turn_b579 {l : Launch} {D : va_G} {A : Nat → Nat → Nat} {cI cB cL cO : ClassId} {pf : Nat → Nat} {p : Program} {e : Env} {s : State} {m : MethodId} {args : Array Value} {below : List Frame} {meth : Method} {c : Code} {AP : Nat → Prop} {Q : State → Prop} {N k0 n0 : Nat} {x6 : Int64} {x8 : Int32} {x9 : Int32} {x10 : Int32} {x11 : Int64} {x13 : Int32} {x16 : Int32} {x17 : Int32} {x18 : Int32} {zs : T_PL} {o : Int64 × Int32 × T_PL} (C : jC p s m args meth c cL_law 23 RL D [(cI, .int), (cB, .byte), (cL, .byte), (cO, .object RX0)] pf AP) (hf : l.stackTraces = false) (hk : k0 + 4 ≤ room_1.cells) (hn : n0 + 24 ≤ room_1.slots) (kk : J p l e room_1 s m args below meth c 23 D AP Q (k0 + 4) (n0 + 24) 1014 [(0, .ref (pf 92)), (1, .ref (A 0 0)), (6, .long o.1), (8, .int o.2.1), (9, .int x9)] [] (wPL cI cB cO A o.2.2)) (h : f_L_turn_b579 N pf x6 x8 x10 x11 x13 x16 x17 x18 zs = some o) : J p l e room_1 s m args below meth c 23 D AP Q (k0 + 4) (n0 + 24) 579 [(0, .ref (pf 92)), (1, .ref (A 0 0)), (6, .long x6), (8, .int x8), (9, .int x9), (10, .int x10), (11, .long x11), (13, .int x13), (16, .int x16), (17, .int x17), (18, .int x18)] [] (wPL cI cB cO A zs) := by
  unfold f_L_turn_b579 at h
  refine J_iload (pc := 579) C dL_law_579 8 rfl ?_
  refine J_bipush (v := (-2 : Int32)) (pc := 581) C dL_law_581 (by decide) ?_
  refine J_ic_ne (pc := 583) (tgt := 912) C dL_law_583 (by decide) h (fun h => ?_) (fun h => ?_)
  · refine J_widen (k2 := k0 + 4) (n2 := n0 + 24) (by first | omega | (dsimp only; omega)) (by first | omega | (dsimp only; omega)) ?_
    refine J_sub (lv2 := [(0, .ref (pf 92)), (1, .ref (A 0 0)), (6, .long x6), (8, .int x8), (9, .int x9), (10, .int x10), (11, .long x11), (13, .int x13), (16, .int x16)]) [0, 1, 2, 3, 4, 5, 6, 7, 8] rfl ?_
    exact t_L_turn_b912 C hf hk hn kk h
  · refine J_iload (pc := 586) C dL_law_586 9 rfl ?_
    refine J_iload (pc := 588) C dL_law_588 10 rfl ?_
    refine J_ic_gt (pc := 590) (tgt := 912) C dL_law_590 (by decide) h (fun h => ?_) (fun h => ?_)
    · refine J_widen (k2 := k0 + 4) (n2 := n0 + 24) (by first | omega | (dsimp only; omega)) (by first | omega | (dsimp only; omega)) ?_
      refine J_sub (lv2 := [(0, .ref (pf 92)), (1, .ref (A 0 0)), (6, .long x6), (8, .int x8), (9, .int x9), (10, .int x10), (11, .long x11), (13, .int x13), (16, .int x16)]) [0, 1, 2, 3, 4, 5, 6, 7, 8] rfl ?_
      exact t_L_turn_b912 C hf hk hn kk h
    · refine J_iconst (v := (0 : Int32)) (pc := 593) C dL_law_593 (by decide) ?_
      cases h
set_option maxHeartbeats 4000000 in
set_option maxRecDepth 100000 in
theorem t_L_turn_b242 {l : Launch} {D : va_G} {A : Nat → Nat → Nat} {cI cB cL cO : ClassId} {pf : Nat → Nat} {p : Program} {e : Env} {s : State} {m : MethodId} {args : Array Value} {below : List Frame} {meth : Method} {c : Code} {AP : Nat → Prop} {Q : State → Prop} {N k0 n0 : Nat} {x6 : Int64} {x8 : Int32} {x9 : Int32} {zs : T_PL} {o : Int64 × Int32 × T_PL} (C : jC p s m args meth c cL_law 23 RL D [(cI, .int), (cB, .byte), (cL, .byte), (cO, .object RX0)] pf AP) (hf : l.stackTraces = false) (hk : k0 + 4 ≤ room_1.cells) (hn : n0 + 24 ≤ room_1.slots) (kk : J p l e room_1 s m args below meth c 23 D AP Q (k0 + 4) (n0 + 24) 1014 [(0, .ref (pf 92)), (1, .ref (A 0 0)), (6, .long o.1), (8, .int o.2.1), (9, .int x9)] [] (wPL cI cB cO A o.2.2)) (h : f_L_turn N pf x6 x8 x9 zs = some o) : J p l e room_1 s m args below meth c 23 D AP Q (k0) (n0) 242 [(0, .ref (pf 92)), (1, .ref (A 0 0)), (6, .long x6), (8, .int x8), (9, .int x9)] [] (wPL cI cB cO A zs) := by
  unfold f_L_turn at h
  refine J_aload_n (pc := 242) C dL_law_242 0 rfl ?_
  refine J_bipush (v := (8 : Int32)) (pc := 243) C dL_law_243 (by decide) ?_
  refine J_iload (pc := 245) C dL_law_245 4 rfl ?_
  refine J_iadd (pc := 247) C dL_law_247 ?_
  refine J_csL (b := 0) (pc := 248) (As := [.ref (pf 92), .int ((8 : Int32) + x9)]) (st := []) (V := fun r248 => some (.int r248)) C (fun _ => (wPL cI cB cO A zs)) dL_law_248 ml_RL_41 mi_yL_cell (fun r hr => Ct_nil (c_cell l D cI cB cL cO pf ((8 : Int32) + x9) r hr)) h rfl ⟨rfl, rfl⟩ ⟨(Nat.le_of_ble_eq_true rfl), (Nat.le_of_ble_eq_true rfl)⟩ ⟨(by first | omega | (dsimp only; omega)), (by first | omega | (dsimp only; omega))⟩ (Nat.le_of_ble_eq_true rfl) (fun r248 h => ?_)
  refine J_istore (lv2 := [(10, .int r248), (0, .ref (pf 92)), (1, .ref (A 0 0)), (6, .long x6), (8, .int x8), (9, .int x9)]) (pc := 251) C dL_law_251 (by decide) rfl ?_
  refine J_aload_n (pc := 253) C dL_law_253 2 rfl ?_
  refine J_csL (b := 0) (pc := 254) (As := [.ref (A 0 0)]) (st := []) (V := fun r254 => some (.long r254.1)) C (fun r254 => (wPL cI cB cO A r254.2)) dL_law_254 ml_RL_245 mi_yL_all (fun r hr => c_L_all l D cI cB cL cO pf N A zs r hr) h rfl ⟨rfl, rfl⟩ ⟨(Nat.le_of_ble_eq_true rfl), (Nat.le_of_ble_eq_true rfl)⟩ ⟨(by first | omega | (dsimp only; omega)), (by first | omega | (dsimp only; omega))⟩ (Nat.le_of_ble_eq_true rfl) (fun r254 h => ?_)
  refine J_lstore (lv2 := [(11, .long r254.1), (10, .int r248), (0, .ref (pf 92)), (1, .ref (A 0 0)), (6, .long x6), (8, .int x8), (9, .int x9)]) (pc := 257) C dL_law_257 (by decide) rfl ?_
  refine J_aload_n (pc := 259) C dL_law_259 3 rfl ?_
  refine J_cvL (pc := 260) (As := []) (st := []) (V := fun r260 => some (.int r260.1)) C (fun r260 => (wPL cI cB cO A r260.2)) dL_law_260 ml_RL_249 mi_yX10_undoCount (fun r hr => Q_undoCount l D cI cB cL cO pf N A r254.2 r hr) h at_this rfl rfl ⟨rfl, rfl⟩ ⟨(Nat.le_of_ble_eq_true rfl), (Nat.le_of_ble_eq_true rfl)⟩ ⟨(by first | omega | (dsimp only; omega)), (by first | omega | (dsimp only; omega))⟩ (Nat.le_of_ble_eq_true rfl) (fun r260 h => ?_)
  refine J_istore (lv2 := [(13, .int r260.1), (11, .long r254.1), (10, .int r248), (0, .ref (pf 92)), (1, .ref (A 0 0)), (6, .long x6), (8, .int x8), (9, .int x9)]) (pc := 263) C dL_law_263 (by decide) rfl ?_
  refine J_iload (pc := 265) C dL_law_265 2 rfl ?_
  refine J_iconst (v := (4 : Int32)) (pc := 267) C dL_law_267 (by decide) ?_
  refine J_ishr (pc := 268) C dL_law_268 ?_
  refine J_aload_n (pc := 269) C dL_law_269 3 rfl ?_
  refine J_csL (b := 0) (pc := 270) (As := [.ref (pf 92)]) (st := [.int (r248 >>> ((4 : Int32) &&& 31))]) (V := fun r270 => some (.int r270)) C (fun _ => (wPL cI cB cO A r260.2)) dL_law_270 ml_RL_108 mi_yL_members (fun r hr => Ct_nil (c_L_members l D cI cB cL cO pf N r hr)) h rfl ⟨rfl, rfl⟩ ⟨(Nat.le_of_ble_eq_true rfl), (Nat.le_of_ble_eq_true rfl)⟩ ⟨(by first | omega | (dsimp only; omega)), (by first | omega | (dsimp only; omega))⟩ (Nat.le_of_ble_eq_true rfl) (fun r270 h => ?_)
  refine J_csL (b := 0) (pc := 273) (As := [.int (r248 >>> ((4 : Int32) &&& 31)), .int r270]) (st := []) (V := fun r273 => some (.int r273)) C (fun _ => (wPL cI cB cO A r260.2)) dL_law_273 ml_RL_45 mi_yL_in (fun r hr => Ct_nil (c_L_in l D cI cB cL cO pf N (r248 >>> ((4 : Int32) &&& 31)) r270 r hr)) h rfl ⟨rfl, rfl⟩ ⟨(Nat.le_of_ble_eq_true rfl), (Nat.le_of_ble_eq_true rfl)⟩ ⟨(by first | omega | (dsimp only; omega)), (by first | omega | (dsimp only; omega))⟩ (Nat.le_of_ble_eq_true rfl) (fun r273 h => ?_)
  refine J_istore (lv2 := [(14, .int r273), (13, .int r260.1), (11, .long r254.1), (10, .int r248), (0, .ref (pf 92)), (1, .ref (A 0 0)), (6, .long x6), (8, .int x8), (9, .int x9)]) (pc := 276) C dL_law_276 (by decide) rfl ?_
  refine J_iload (pc := 278) C dL_law_278 3 rfl ?_
  refine J_bipush (v := (8 : Int32)) (pc := 280) C dL_law_280 (by decide) ?_
  refine J_ishr (pc := 282) C dL_law_282 ?_
  refine J_aload_n (pc := 283) C dL_law_283 4 rfl ?_
  refine J_csL (b := 0) (pc := 284) (As := [.ref (pf 92)]) (st := [.int (r248 >>> ((8 : Int32) &&& 31))]) (V := fun r284 => some (.int r284)) C (fun _ => (wPL cI cB cO A r260.2)) dL_law_284 ml_RL_108 mi_yL_members (fun r hr => Ct_nil (c_L_members l D cI cB cL cO pf N r hr)) h rfl ⟨rfl, rfl⟩ ⟨(Nat.le_of_ble_eq_true rfl), (Nat.le_of_ble_eq_true rfl)⟩ ⟨(by first | omega | (dsimp only; omega)), (by first | omega | (dsimp only; omega))⟩ (Nat.le_of_ble_eq_true rfl) (fun r284 h => ?_)
  refine J_csL (b := 0) (pc := 287) (As := [.int (r248 >>> ((8 : Int32) &&& 31)), .int r284]) (st := []) (V := fun r287 => some (.int r287)) C (fun _ => (wPL cI cB cO A r260.2)) dL_law_287 ml_RL_45 mi_yL_in (fun r hr => Ct_nil (c_L_in l D cI cB cL cO pf N (r248 >>> ((8 : Int32) &&& 31)) r284 r hr)) h rfl ⟨rfl, rfl⟩ ⟨(Nat.le_of_ble_eq_true rfl), (Nat.le_of_ble_eq_true rfl)⟩ ⟨(by first | omega | (dsimp only; omega)), (by first | omega | (dsimp only; omega))⟩ (Nat.le_of_ble_eq_true rfl) (fun r287 h => ?_)
  refine J_istore (lv2 := [(15, .int r287), (14, .int r273), (13, .int r260.1), (11, .long r254.1), (10, .int r248), (0, .ref (pf 92)), (1, .ref (A 0 0)), (6, .long x6), (8, .int x8), (9, .int x9)]) (pc := 290) C dL_law_290 (by decide) rfl ?_
  refine J_iload (pc := 292) C dL_law_292 4 rfl ?_
  refine J_bipush (v := (11 : Int32)) (pc := 294) C dL_law_294 (by decide) ?_
  refine J_csL (b := 0) (pc := 296) (As := [.int r248, .int (11 : Int32)]) (st := []) (V := fun r296 => some (.int r296)) C (fun _ => (wPL cI cB cO A r260.2)) dL_law_296 ml_RL_45 mi_yL_in (fun r hr => Ct_nil (c_L_in l D cI cB cL cO pf N r248 (11 : Int32) r hr)) h rfl ⟨rfl, rfl⟩ ⟨(Nat.le_of_ble_eq_true rfl), (Nat.le_of_ble_eq_true rfl)⟩ ⟨(by first | omega | (dsimp only; omega)), (by first | omega | (dsimp only; omega))⟩ (Nat.le_of_ble_eq_true rfl) (fun r296 h => ?_)
  refine J_oif h (fun q h => ?_) (fun q0 h => ?_)
  · refine J_tin (pc := 299) (v := (0 : Int32)) (tgt := 352) C dL_law_299 q (by decide) (by decide) rfl (by decide) ?_
    refine J_sub (lv2 := [(0, .ref (pf 92)), (1, .ref (A 0 0)), (6, .long x6), (8, .int x8), (9, .int x9), (10, .int r248), (11, .long r254.1), (13, .int r260.1), (14, .int r273)]) [5, 6, 7, 8, 9, 4, 3, 2, 1] rfl ?_
    exact t_L_turn_b352 C hf hk hn kk h
  refine J_oif h (fun q h => ?_) (fun q1 h => ?_)
  · refine J_tin (pc := 299) (v := (1 : Int32)) (tgt := 352) C dL_law_299 q (by decide) (by decide) rfl (by decide) ?_
    refine J_sub (lv2 := [(0, .ref (pf 92)), (1, .ref (A 0 0)), (6, .long x6), (8, .int x8), (9, .int x9), (10, .int r248), (11, .long r254.1), (13, .int r260.1), (14, .int r273)]) [5, 6, 7, 8, 9, 4, 3, 2, 1] rfl ?_
    exact t_L_turn_b352 C hf hk hn kk h
  refine J_oif h (fun q h => ?_) (fun q2 h => ?_)
  · refine J_tin (pc := 299) (v := (2 : Int32)) (tgt := 352) C dL_law_299 q (by decide) (by decide) rfl (by decide) ?_
    refine J_sub (lv2 := [(0, .ref (pf 92)), (1, .ref (A 0 0)), (6, .long x6), (8, .int x8), (9, .int x9), (10, .int r248), (11, .long r254.1), (13, .int r260.1), (14, .int r273)]) [5, 6, 7, 8, 9, 4, 3, 2, 1] rfl ?_
    exact t_L_turn_b352 C hf hk hn kk h
  refine J_oif h (fun q h => ?_) (fun q3 h => ?_)
  · refine J_tin (pc := 299) (v := (3 : Int32)) (tgt := 446) C dL_law_299 q (by decide) (by decide) rfl (by decide) ?_
    refine J_iload (pc := 446) C dL_law_446 4 rfl ?_
    refine J_bipush (v := (8 : Int32)) (pc := 448) C dL_law_448 (by decide) ?_
    refine J_ishr (pc := 450) C dL_law_450 ?_
    refine J_bipush (v := (10 : Int32)) (pc := 451) C dL_law_451 (by decide) ?_
    refine J_csL (b := 0) (pc := 453) (As := [.int (r248 >>> ((8 : Int32) &&& 31)), .int (10 : Int32)]) (st := []) (V := fun r453 => some (.int r453)) C (fun _ => (wPL cI cB cO A r260.2)) dL_law_453 ml_RL_45 mi_yL_in (fun r hr => Ct_nil (c_L_in l D cI cB cL cO pf N (r248 >>> ((8 : Int32) &&& 31)) (10 : Int32) r hr)) h rfl ⟨rfl, rfl⟩ ⟨(Nat.le_of_ble_eq_true rfl), (Nat.le_of_ble_eq_true rfl)⟩ ⟨(by first | omega | (dsimp only; omega)), (by first | omega | (dsimp only; omega))⟩ (Nat.le_of_ble_eq_true rfl) (fun r453 h => ?_)
    refine J_istore (lv2 := [(17, .int r453), (15, .int r287), (14, .int r273), (13, .int r260.1), (11, .long r254.1), (10, .int r248), (0, .ref (pf 92)), (1, .ref (A 0 0)), (6, .long x6), (8, .int x8), (9, .int x9)]) (pc := 456) C dL_law_456 (by decide) rfl ?_
    refine J_aload_n (pc := 458) C dL_law_458 7 rfl ?_
    refine J_bipush (v := (6 : Int32)) (pc := 459) C dL_law_459 (by decide) ?_
    refine J_cvP (pc := 461) (As := [.int (6 : Int32)]) (st := []) C (fun z => (wPL cI cB cO A z)) dL_law_461 ml_RL_158 mi_yX10_total (fun a s2 hr => R_total l D cI cB cL cO pf N A r260.2 (6 : Int32) hr) h at_this rfl rfl ⟨rfl, rfl⟩ ⟨(Nat.le_of_ble_eq_true rfl), (Nat.le_of_ble_eq_true rfl)⟩ ⟨(by first | omega | (dsimp only; omega)), (by first | omega | (dsimp only; omega))⟩ (Nat.le_of_ble_eq_true rfl) (fun r461 h => ?_)
    refine J_istore (lv2 := [(18, .int r461.2.1), (17, .int r453), (15, .int r287), (14, .int r273), (13, .int r260.1), (11, .long r254.1), (10, .int r248), (0, .ref (pf 92)), (1, .ref (A 0 0)), (6, .long x6), (8, .int x8), (9, .int x9)]) (pc := 464) C dL_law_464 (by decide) rfl ?_
    refine J_aload_n (pc := 466) C dL_law_466 8 rfl ?_
    refine J_iload (pc := 467) C dL_law_467 1 rfl ?_
    obtain ⟨r469, hr469, h⟩ := Option.bind_eq_some_iff.mp h
    refine J_csH (pc := 469) (As := [.ref (A 0 0), .int r453]) (st := []) C dL_law_469 ml_RL_261 wh_refunded (V_refunded l hf D cI cB cL cO pf N A r461.2.2 r453 r469 hr469) [] (by rw [List.append_nil]) rfl ⟨(Nat.le_of_ble_eq_true rfl), (Nat.le_of_ble_eq_true rfl)⟩ ⟨(by first | omega | (dsimp only; omega)), (by first | omega | (dsimp only; omega))⟩ (Nat.le_of_ble_eq_true rfl) ?_
    rintro v w1 ⟨rfl, rfl⟩
    refine J_ws (ws2 := (wPL cI cB cO A r469.2)) (List.append_nil _) ?_
    refine J_widen (k2 := k0 + 4) (n2 := n0 + 24) (by first | omega | (dsimp only; omega)) (by first | omega | (dsimp only; omega)) ?_
    refine J_istore (lv2 := [(16, .int r469.1), (18, .int r461.2.1), (17, .int r453), (15, .int r287), (14, .int r273), (13, .int r260.1), (11, .long r254.1), (10, .int r248), (0, .ref (pf 92)), (1, .ref (A 0 0)), (6, .long x6), (8, .int x8), (9, .int x9)]) (pc := 472) C dL_law_472 (by decide) rfl ?_
    refine J_iload (pc := 474) C dL_law_474 0 rfl ?_
    refine J_if_lt (pc := 476) (tgt := 912) C dL_law_476 (by decide) h (fun h => ?_) (fun h => ?_)
    · refine J_widen (k2 := k0 + 4) (n2 := n0 + 24) (by first | omega | (dsimp only; omega)) (by first | omega | (dsimp only; omega)) ?_
      refine J_sub (lv2 := [(0, .ref (pf 92)), (1, .ref (A 0 0)), (6, .long x6), (8, .int x8), (9, .int x9), (10, .int r248), (11, .long r254.1), (13, .int r260.1), (16, .int r469.1)]) [8, 9, 10, 11, 12, 7, 6, 5, 0] rfl ?_
      exact t_L_turn_b912 C hf hk hn kk h
    · refine J_aload_n (pc := 479) C dL_law_479 9 rfl ?_
      refine J_iload (pc := 480) C dL_law_480 2 rfl ?_
      refine J_bipush (v := (6 : Int32)) (pc := 482) C dL_law_482 (by decide) ?_
      refine J_cvP (pc := 484) (As := [.int r453, .int (6 : Int32)]) (st := []) C (fun z => (wPL cI cB cO A z)) dL_law_484 ml_RL_258 mi_yX10_purchasePart (fun a s2 hr => R_purchasePart l D cI cB cL cO pf N A r469.2 r453 (6 : Int32) hr) h at_this rfl rfl ⟨rfl, rfl⟩ ⟨(Nat.le_of_ble_eq_true rfl), (Nat.le_of_ble_eq_true rfl)⟩ ⟨(by first | omega | (dsimp only; omega)), (by first | omega | (dsimp only; omega))⟩ (Nat.le_of_ble_eq_true rfl) (fun r484 h => ?_)
      refine J_iconst (v := (1 : Int32)) (pc := 487) C dL_law_487 (by decide) ?_
      refine J_ic_ne (pc := 488) (tgt := 505) C dL_law_488 (by decide) h (fun h => ?_) (fun h => ?_)
      · refine J_iconst (v := (0 : Int32)) (pc := 505) C dL_law_505 (by decide) ?_
        cases h
      · refine J_aload_n (pc := 491) C dL_law_491 9 rfl ?_
        refine J_bipush (v := (6 : Int32)) (pc := 492) C dL_law_492 (by decide) ?_
        refine J_cvP (pc := 494) (As := [.int (6 : Int32)]) (st := []) C (fun z => (wPL cI cB cO A z)) dL_law_494 ml_RL_158 mi_yX10_total (fun a s2 hr => R_total l D cI cB cL cO pf N A r484.2.2 (6 : Int32) hr) h at_this rfl rfl ⟨rfl, rfl⟩ ⟨(Nat.le_of_ble_eq_true rfl), (Nat.le_of_ble_eq_true rfl)⟩ ⟨(by first | omega | (dsimp only; omega)), (by first | omega | (dsimp only; omega))⟩ (Nat.le_of_ble_eq_true rfl) (fun r494 h => ?_)
        refine J_iload (pc := 497) C dL_law_497 1 rfl ?_
        refine J_iload (pc := 499) C dL_law_499 0 rfl ?_
        refine J_iadd (pc := 501) C dL_law_501 ?_
        refine J_ic_eq (pc := 502) (tgt := 912) C dL_law_502 (by decide) h (fun h => ?_) (fun h => ?_)
        · refine J_widen (k2 := k0 + 4) (n2 := n0 + 24) (by first | omega | (dsimp only; omega)) (by first | omega | (dsimp only; omega)) ?_
          refine J_sub (lv2 := [(0, .ref (pf 92)), (1, .ref (A 0 0)), (6, .long x6), (8, .int x8), (9, .int x9), (10, .int r248), (11, .long r254.1), (13, .int r260.1), (16, .int r469.1)]) [8, 9, 10, 11, 12, 7, 6, 5, 0] rfl ?_
          exact t_L_turn_b912 C hf hk hn kk h
        · refine J_iconst (v := (0 : Int32)) (pc := 505) C dL_law_505 (by decide) ?_
          cases h
  refine J_oif h (fun q h => ?_) (fun q4 h => ?_)
  · refine J_tin (pc := 299) (v := (4 : Int32)) (tgt := 507) C dL_law_299 q (by decide) (by decide) rfl (by decide) ?_
    refine J_iload (pc := 507) C dL_law_507 4 rfl ?_
    refine J_bipush (v := (8 : Int32)) (pc := 509) C dL_law_509 (by decide) ?_
    refine J_ishr (pc := 511) C dL_law_511 ?_
    refine J_sipush (v := (600 : Int32)) (pc := 512) C dL_law_512 (by decide) ?_
    refine J_csL (b := 0) (pc := 515) (As := [.int (r248 >>> ((8 : Int32) &&& 31)), .int (600 : Int32)]) (st := []) (V := fun r515 => some (.int r515)) C (fun _ => (wPL cI cB cO A r260.2)) dL_law_515 ml_RL_45 mi_yL_in (fun r hr => Ct_nil (c_L_in l D cI cB cL cO pf N (r248 >>> ((8 : Int32) &&& 31)) (600 : Int32) r hr)) h rfl ⟨rfl, rfl⟩ ⟨(Nat.le_of_ble_eq_true rfl), (Nat.le_of_ble_eq_true rfl)⟩ ⟨(by first | omega | (dsimp only; omega)), (by first | omega | (dsimp only; omega))⟩ (Nat.le_of_ble_eq_true rfl) (fun r515 h => ?_)
    refine J_istore (lv2 := [(17, .int r515), (15, .int r287), (14, .int r273), (13, .int r260.1), (11, .long r254.1), (10, .int r248), (0, .ref (pf 92)), (1, .ref (A 0 0)), (6, .long x6), (8, .int x8), (9, .int x9)]) (pc := 518) C dL_law_518 (by decide) rfl ?_
    refine J_aload_n (pc := 520) C dL_law_520 7 rfl ?_
    refine J_iload (pc := 521) C dL_law_521 2 rfl ?_
    refine J_cvP (pc := 523) (As := [.int r273]) (st := []) C (fun z => (wPL cI cB cO A z)) dL_law_523 ml_RL_209 mi_yX10_available (fun a s2 hr => R_available l D cI cB cL cO pf N A r260.2 r273 hr) h at_this rfl rfl ⟨rfl, rfl⟩ ⟨(Nat.le_of_ble_eq_true rfl), (Nat.le_of_ble_eq_true rfl)⟩ ⟨(by first | omega | (dsimp only; omega)), (by first | omega | (dsimp only; omega))⟩ (Nat.le_of_ble_eq_true rfl) (fun r523 h => ?_)
    refine J_istore (lv2 := [(18, .int r523.2.1), (17, .int r515), (15, .int r287), (14, .int r273), (13, .int r260.1), (11, .long r254.1), (10, .int r248), (0, .ref (pf 92)), (1, .ref (A 0 0)), (6, .long x6), (8, .int x8), (9, .int x9)]) (pc := 526) C dL_law_526 (by decide) rfl ?_
    refine J_aload_n (pc := 528) C dL_law_528 8 rfl ?_
    refine J_iconst (v := (0 : Int32)) (pc := 529) C dL_law_529 (by decide) ?_
    refine J_cvP (pc := 530) (As := [.int (0 : Int32)]) (st := []) C (fun z => (wPL cI cB cO A z)) dL_law_530 ml_RL_212 mi_yX10_poolBalance (fun a s2 hr => R_poolBalance l D cI cB cL cO pf N A r523.2.2 (0 : Int32) hr) h at_this rfl rfl ⟨rfl, rfl⟩ ⟨(Nat.le_of_ble_eq_true rfl), (Nat.le_of_ble_eq_true rfl)⟩ ⟨(by first | omega | (dsimp only; omega)), (by first | omega | (dsimp only; omega))⟩ (Nat.le_of_ble_eq_true rfl) (fun r530 h => ?_)
    refine J_istore (lv2 := [(19, .int r530.2.1), (18, .int r523.2.1), (17, .int r515), (15, .int r287), (14, .int r273), (13, .int r260.1), (11, .long r254.1), (10, .int r248), (0, .ref (pf 92)), (1, .ref (A 0 0)), (6, .long x6), (8, .int x8), (9, .int x9)]) (pc := 533) C dL_law_533 (by decide) rfl ?_
    refine J_aload_n (pc := 535) C dL_law_535 9 rfl ?_
    refine J_iload (pc := 536) C dL_law_536 4 rfl ?_
    refine J_iload (pc := 538) C dL_law_538 2 rfl ?_
    obtain ⟨r540, hr540, h⟩ := Option.bind_eq_some_iff.mp h
    refine J_csH (pc := 540) (As := [.ref (A 0 0), .int r273, .int r515]) (st := []) C dL_law_540 ml_RL_265 wh_redeemed (V_redeemed l hf D cI cB cL cO pf N A r530.2.2 r273 r515 r540 hr540) [] (by rw [List.append_nil]) rfl ⟨(Nat.le_of_ble_eq_true rfl), (Nat.le_of_ble_eq_true rfl)⟩ ⟨(by first | omega | (dsimp only; omega)), (by first | omega | (dsimp only; omega))⟩ (Nat.le_of_ble_eq_true rfl) ?_
    rintro v w1 ⟨rfl, rfl⟩
    refine J_ws (ws2 := (wPL cI cB cO A r540.2)) (List.append_nil _) ?_
    refine J_widen (k2 := k0 + 4) (n2 := n0 + 24) (by first | omega | (dsimp only; omega)) (by first | omega | (dsimp only; omega)) ?_
    refine J_istore (lv2 := [(16, .int r540.1), (19, .int r530.2.1), (18, .int r523.2.1), (17, .int r515), (15, .int r287), (14, .int r273), (13, .int r260.1), (11, .long r254.1), (10, .int r248), (0, .ref (pf 92)), (1, .ref (A 0 0)), (6, .long x6), (8, .int x8), (9, .int x9)]) (pc := 543) C dL_law_543 (by decide) rfl ?_
    refine J_iload (pc := 545) C dL_law_545 0 rfl ?_
    refine J_if_lt (pc := 547) (tgt := 579) C dL_law_547 (by decide) h (fun h => ?_) (fun h => ?_)
    · refine J_widen (k2 := k0 + 4) (n2 := n0 + 24) (by first | omega | (dsimp only; omega)) (by first | omega | (dsimp only; omega)) ?_
      refine J_sub (lv2 := [(0, .ref (pf 92)), (1, .ref (A 0 0)), (6, .long x6), (8, .int x8), (9, .int x9), (10, .int r248), (11, .long r254.1), (13, .int r260.1), (16, .int r540.1), (17, .int r515), (18, .int r523.2.1)]) [9, 10, 11, 12, 13, 8, 7, 6, 0, 3, 2] rfl ?_
      exact t_L_turn_b579 C hf hk hn kk h
    · refine J_aload_n (pc := 550) C dL_law_550 10 rfl ?_
      refine J_iload (pc := 551) C dL_law_551 5 rfl ?_
      refine J_cvP (pc := 553) (As := [.int r273]) (st := []) C (fun z => (wPL cI cB cO A z)) dL_law_553 ml_RL_209 mi_yX10_available (fun a s2 hr => R_available l D cI cB cL cO pf N A r540.2 r273 hr) h at_this rfl rfl ⟨rfl, rfl⟩ ⟨(Nat.le_of_ble_eq_true rfl), (Nat.le_of_ble_eq_true rfl)⟩ ⟨(by first | omega | (dsimp only; omega)), (by first | omega | (dsimp only; omega))⟩ (Nat.le_of_ble_eq_true rfl) (fun r553 h => ?_)
      refine J_iload (pc := 556) C dL_law_556 2 rfl ?_
      refine J_iload (pc := 558) C dL_law_558 3 rfl ?_
      refine J_isub (pc := 560) C dL_law_560 ?_
      refine J_ic_ne (pc := 561) (tgt := 577) C dL_law_561 (by decide) h (fun h => ?_) (fun h => ?_)
      · refine J_iconst (v := (0 : Int32)) (pc := 577) C dL_law_577 (by decide) ?_
        cases h
      · refine J_aload_n (pc := 564) C dL_law_564 10 rfl ?_
        refine J_iconst (v := (0 : Int32)) (pc := 565) C dL_law_565 (by decide) ?_
        refine J_cvP (pc := 566) (As := [.int (0 : Int32)]) (st := []) C (fun z => (wPL cI cB cO A z)) dL_law_566 ml_RL_212 mi_yX10_poolBalance (fun a s2 hr => R_poolBalance l D cI cB cL cO pf N A r553.2.2 (0 : Int32) hr) h at_this rfl rfl ⟨rfl, rfl⟩ ⟨(Nat.le_of_ble_eq_true rfl), (Nat.le_of_ble_eq_true rfl)⟩ ⟨(by first | omega | (dsimp only; omega)), (by first | omega | (dsimp only; omega))⟩ (Nat.le_of_ble_eq_true rfl) (fun r566 h => ?_)
        refine J_iload (pc := 569) C dL_law_569 1 rfl ?_
        refine J_iload (pc := 571) C dL_law_571 0 rfl ?_
        refine J_isub (pc := 573) C dL_law_573 ?_
        refine J_ic_eq (pc := 574) (tgt := 579) C dL_law_574 (by decide) h (fun h => ?_) (fun h => ?_)
        · refine J_widen (k2 := k0 + 4) (n2 := n0 + 24) (by first | omega | (dsimp only; omega)) (by first | omega | (dsimp only; omega)) ?_
          refine J_sub (lv2 := [(0, .ref (pf 92)), (1, .ref (A 0 0)), (6, .long x6), (8, .int x8), (9, .int x9), (10, .int r248), (11, .long r254.1), (13, .int r260.1), (16, .int r540.1), (17, .int r515), (18, .int r523.2.1)]) [9, 10, 11, 12, 13, 8, 7, 6, 0, 3, 2] rfl ?_
          exact t_L_turn_b579 C hf hk hn kk h
        · refine J_iconst (v := (0 : Int32)) (pc := 577) C dL_law_577 (by decide) ?_
          cases h
  refine J_oif h (fun q h => ?_) (fun q5 h => ?_)
  · refine J_tin (pc := 299) (v := (5 : Int32)) (tgt := 595) C dL_law_299 q (by decide) (by decide) rfl (by decide) ?_
    refine J_iload (pc := 595) C dL_law_595 4 rfl ?_
    refine J_bipush (v := (12 : Int32)) (pc := 597) C dL_law_597 (by decide) ?_
    refine J_ishr (pc := 599) C dL_law_599 ?_
    refine J_sipush (v := (300 : Int32)) (pc := 600) C dL_law_600 (by decide) ?_
    refine J_csL (b := 0) (pc := 603) (As := [.int (r248 >>> ((12 : Int32) &&& 31)), .int (300 : Int32)]) (st := []) (V := fun r603 => some (.int r603)) C (fun _ => (wPL cI cB cO A r260.2)) dL_law_603 ml_RL_45 mi_yL_in (fun r hr => Ct_nil (c_L_in l D cI cB cL cO pf N (r248 >>> ((12 : Int32) &&& 31)) (300 : Int32) r hr)) h rfl ⟨rfl, rfl⟩ ⟨(Nat.le_of_ble_eq_true rfl), (Nat.le_of_ble_eq_true rfl)⟩ ⟨(by first | omega | (dsimp only; omega)), (by first | omega | (dsimp only; omega))⟩ (Nat.le_of_ble_eq_true rfl) (fun r603 h => ?_)
    refine J_istore (lv2 := [(17, .int r603), (15, .int r287), (14, .int r273), (13, .int r260.1), (11, .long r254.1), (10, .int r248), (0, .ref (pf 92)), (1, .ref (A 0 0)), (6, .long x6), (8, .int x8), (9, .int x9)]) (pc := 606) C dL_law_606 (by decide) rfl ?_
    refine J_aload_n (pc := 608) C dL_law_608 7 rfl ?_
    refine J_iload (pc := 609) C dL_law_609 2 rfl ?_
    refine J_cvP (pc := 611) (As := [.int r273]) (st := []) C (fun z => (wPL cI cB cO A z)) dL_law_611 ml_RL_200 mi_yX10_balance (fun a s2 hr => R_balance l D cI cB cL cO pf N A r260.2 r273 hr) h at_this rfl rfl ⟨rfl, rfl⟩ ⟨(Nat.le_of_ble_eq_true rfl), (Nat.le_of_ble_eq_true rfl)⟩ ⟨(by first | omega | (dsimp only; omega)), (by first | omega | (dsimp only; omega))⟩ (Nat.le_of_ble_eq_true rfl) (fun r611 h => ?_)
    refine J_istore (lv2 := [(18, .int r611.2.1), (17, .int r603), (15, .int r287), (14, .int r273), (13, .int r260.1), (11, .long r254.1), (10, .int r248), (0, .ref (pf 92)), (1, .ref (A 0 0)), (6, .long x6), (8, .int x8), (9, .int x9)]) (pc := 614) C dL_law_614 (by decide) rfl ?_
    refine J_aload_n (pc := 616) C dL_law_616 8 rfl ?_
    refine J_iload (pc := 617) C dL_law_617 2 rfl ?_
    refine J_cvP (pc := 619) (As := [.int r287]) (st := []) C (fun z => (wPL cI cB cO A z)) dL_law_619 ml_RL_164 mi_yX10_debt (fun a s2 hr => R_debt l D cI cB cL cO pf N A r611.2.2 r287 hr) h at_this rfl rfl ⟨rfl, rfl⟩ ⟨(Nat.le_of_ble_eq_true rfl), (Nat.le_of_ble_eq_true rfl)⟩ ⟨(by first | omega | (dsimp only; omega)), (by first | omega | (dsimp only; omega))⟩ (Nat.le_of_ble_eq_true rfl) (fun r619 h => ?_)
    refine J_istore (lv2 := [(19, .int r619.2.1), (18, .int r611.2.1), (17, .int r603), (15, .int r287), (14, .int r273), (13, .int r260.1), (11, .long r254.1), (10, .int r248), (0, .ref (pf 92)), (1, .ref (A 0 0)), (6, .long x6), (8, .int x8), (9, .int x9)]) (pc := 622) C dL_law_622 (by decide) rfl ?_
    refine J_aload_n (pc := 624) C dL_law_624 9 rfl ?_
    refine J_iload (pc := 625) C dL_law_625 4 rfl ?_
    refine J_iload (pc := 627) C dL_law_627 3 rfl ?_
    refine J_iload (pc := 629) C dL_law_629 2 rfl ?_
    obtain ⟨r631, hr631, h⟩ := Option.bind_eq_some_iff.mp h
    refine J_csH (pc := 631) (As := [.ref (A 0 0), .int r273, .int r287, .int r603]) (st := []) C dL_law_631 ml_RL_269 wh_transferred (V_transferred l hf D cI cB cL cO pf N A r619.2.2 r273 r287 r603 r631 hr631) [] (by rw [List.append_nil]) rfl ⟨(Nat.le_of_ble_eq_true rfl), (Nat.le_of_ble_eq_true rfl)⟩ ⟨(by first | omega | (dsimp only; omega)), (by first | omega | (dsimp only; omega))⟩ (Nat.le_of_ble_eq_true rfl) ?_
    rintro v w1 ⟨rfl, rfl⟩
    refine J_ws (ws2 := (wPL cI cB cO A r631.2)) (List.append_nil _) ?_
    refine J_widen (k2 := k0 + 4) (n2 := n0 + 24) (by first | omega | (dsimp only; omega)) (by first | omega | (dsimp only; omega)) ?_
    refine J_istore (lv2 := [(16, .int r631.1), (19, .int r619.2.1), (18, .int r611.2.1), (17, .int r603), (15, .int r287), (14, .int r273), (13, .int r260.1), (11, .long r254.1), (10, .int r248), (0, .ref (pf 92)), (1, .ref (A 0 0)), (6, .long x6), (8, .int x8), (9, .int x9)]) (pc := 634) C dL_law_634 (by decide) rfl ?_
    refine J_iload (pc := 636) C dL_law_636 0 rfl ?_
    refine J_if_lt (pc := 638) (tgt := 912) C dL_law_638 (by decide) h (fun h => ?_) (fun h => ?_)
    · refine J_widen (k2 := k0 + 4) (n2 := n0 + 24) (by first | omega | (dsimp only; omega)) (by first | omega | (dsimp only; omega)) ?_
      refine J_sub (lv2 := [(0, .ref (pf 92)), (1, .ref (A 0 0)), (6, .long x6), (8, .int x8), (9, .int x9), (10, .int r248), (11, .long r254.1), (13, .int r260.1), (16, .int r631.1)]) [9, 10, 11, 12, 13, 8, 7, 6, 0] rfl ?_
      exact t_L_turn_b912 C hf hk hn kk h
    · refine J_aload_n (pc := 641) C dL_law_641 10 rfl ?_
      refine J_iload (pc := 642) C dL_law_642 5 rfl ?_
      refine J_cvP (pc := 644) (As := [.int r273]) (st := []) C (fun z => (wPL cI cB cO A z)) dL_law_644 ml_RL_200 mi_yX10_balance (fun a s2 hr => R_balance l D cI cB cL cO pf N A r631.2 r273 hr) h at_this rfl rfl ⟨rfl, rfl⟩ ⟨(Nat.le_of_ble_eq_true rfl), (Nat.le_of_ble_eq_true rfl)⟩ ⟨(by first | omega | (dsimp only; omega)), (by first | omega | (dsimp only; omega))⟩ (Nat.le_of_ble_eq_true rfl) (fun r644 h => ?_)
      refine J_iload (pc := 647) C dL_law_647 2 rfl ?_
      refine J_iload (pc := 649) C dL_law_649 3 rfl ?_
      refine J_isub (pc := 651) C dL_law_651 ?_
      refine J_ic_ne (pc := 652) (tgt := 669) C dL_law_652 (by decide) h (fun h => ?_) (fun h => ?_)
      · refine J_iconst (v := (0 : Int32)) (pc := 669) C dL_law_669 (by decide) ?_
        cases h
      · refine J_aload_n (pc := 655) C dL_law_655 10 rfl ?_
        refine J_iload (pc := 656) C dL_law_656 4 rfl ?_
        refine J_cvP (pc := 658) (As := [.int r287]) (st := []) C (fun z => (wPL cI cB cO A z)) dL_law_658 ml_RL_164 mi_yX10_debt (fun a s2 hr => R_debt l D cI cB cL cO pf N A r644.2.2 r287 hr) h at_this rfl rfl ⟨rfl, rfl⟩ ⟨(Nat.le_of_ble_eq_true rfl), (Nat.le_of_ble_eq_true rfl)⟩ ⟨(by first | omega | (dsimp only; omega)), (by first | omega | (dsimp only; omega))⟩ (Nat.le_of_ble_eq_true rfl) (fun r658 h => ?_)
        refine J_iload (pc := 661) C dL_law_661 1 rfl ?_
        refine J_iload (pc := 663) C dL_law_663 0 rfl ?_
        refine J_isub (pc := 665) C dL_law_665 ?_
        refine J_ic_eq (pc := 666) (tgt := 912) C dL_law_666 (by decide) h (fun h => ?_) (fun h => ?_)
        · refine J_widen (k2 := k0 + 4) (n2 := n0 + 24) (by first | omega | (dsimp only; omega)) (by first | omega | (dsimp only; omega)) ?_
          refine J_sub (lv2 := [(0, .ref (pf 92)), (1, .ref (A 0 0)), (6, .long x6), (8, .int x8), (9, .int x9), (10, .int r248), (11, .long r254.1), (13, .int r260.1), (16, .int r631.1)]) [9, 10, 11, 12, 13, 8, 7, 6, 0] rfl ?_
          exact t_L_turn_b912 C hf hk hn kk h
        · refine J_iconst (v := (0 : Int32)) (pc := 669) C dL_law_669 (by decide) ?_
          cases h
  refine J_oif h (fun q h => ?_) (fun q6 h => ?_)
  · refine J_tin (pc := 299) (v := (6 : Int32)) (tgt := 671) C dL_law_299 q (by decide) (by decide) rfl (by decide) ?_
    refine J_aload_n (pc := 671) C dL_law_671 6 rfl ?_
    refine J_iconst (v := (0 : Int32)) (pc := 672) C dL_law_672 (by decide) ?_
    refine J_cvP (pc := 673) (As := [.int (0 : Int32)]) (st := []) C (fun z => (wPL cI cB cO A z)) dL_law_673 ml_RL_273 mi_yX10_members (fun a s2 hr => R_members l D cI cB cL cO pf N A r260.2 (0 : Int32) hr) h at_this rfl rfl ⟨rfl, rfl⟩ ⟨(Nat.le_of_ble_eq_true rfl), (Nat.le_of_ble_eq_true rfl)⟩ ⟨(by first | omega | (dsimp only; omega)), (by first | omega | (dsimp only; omega))⟩ (Nat.le_of_ble_eq_true rfl) (fun r673 h => ?_)
    refine J_csL (b := 0) (pc := 676) (As := [.int r673.2.1]) (st := []) (V := fun r676 => some (.int r676)) C (fun _ => (wPL cI cB cO A r673.2.2)) dL_law_676 ml_RL_275 mi_yJ6_bitCount_0f7a4 (fun r hr => Ct_nil (c_J6_bitCount_0f7a4 l D cI cB cL cO pf 0 r673.2.1 r hr)) h rfl ⟨rfl, rfl⟩ ⟨(Nat.le_of_ble_eq_true rfl), (Nat.le_of_ble_eq_true rfl)⟩ ⟨(by first | omega | (dsimp only; omega)), (by first | omega | (dsimp only; omega))⟩ (Nat.le_of_ble_eq_true rfl) (fun r676 h => ?_)
    refine J_istore (lv2 := [(17, .int r676), (15, .int r287), (14, .int r273), (13, .int r260.1), (11, .long r254.1), (10, .int r248), (0, .ref (pf 92)), (1, .ref (A 0 0)), (6, .long x6), (8, .int x8), (9, .int x9)]) (pc := 679) C dL_law_679 (by decide) rfl ?_
    refine J_aload_n (pc := 681) C dL_law_681 7 rfl ?_
    refine J_iload (pc := 682) C dL_law_682 2 rfl ?_
    obtain ⟨r684, hr684, h⟩ := Option.bind_eq_some_iff.mp h
    refine J_csH (pc := 684) (As := [.ref (A 0 0), .int r273]) (st := []) C dL_law_684 ml_RL_280 wh_joined (V_joined l hf D cI cB cL cO pf N A r673.2.2 r273 r684 hr684) [] (by rw [List.append_nil]) rfl ⟨(Nat.le_of_ble_eq_true rfl), (Nat.le_of_ble_eq_true rfl)⟩ ⟨(by first | omega | (dsimp only; omega)), (by first | omega | (dsimp only; omega))⟩ (Nat.le_of_ble_eq_true rfl) ?_
    rintro v w1 ⟨rfl, rfl⟩
    refine J_ws (ws2 := (wPL cI cB cO A r684.2)) (List.append_nil _) ?_
    refine J_widen (k2 := k0 + 4) (n2 := n0 + 24) (by first | omega | (dsimp only; omega)) (by first | omega | (dsimp only; omega)) ?_
    refine J_istore (lv2 := [(16, .int r684.1), (17, .int r676), (15, .int r287), (14, .int r273), (13, .int r260.1), (11, .long r254.1), (10, .int r248), (0, .ref (pf 92)), (1, .ref (A 0 0)), (6, .long x6), (8, .int x8), (9, .int x9)]) (pc := 687) C dL_law_687 (by decide) rfl ?_
    refine J_iload (pc := 689) C dL_law_689 0 rfl ?_
    refine J_if_lt (pc := 691) (tgt := 912) C dL_law_691 (by decide) h (fun h => ?_) (fun h => ?_)
    · refine J_widen (k2 := k0 + 4) (n2 := n0 + 24) (by first | omega | (dsimp only; omega)) (by first | omega | (dsimp only; omega)) ?_
      refine J_sub (lv2 := [(0, .ref (pf 92)), (1, .ref (A 0 0)), (6, .long x6), (8, .int x8), (9, .int x9), (10, .int r248), (11, .long r254.1), (13, .int r260.1), (16, .int r684.1)]) [7, 8, 9, 10, 11, 6, 5, 4, 0] rfl ?_
      exact t_L_turn_b912 C hf hk hn kk h
    · refine J_iload (pc := 694) C dL_law_694 0 rfl ?_
      refine J_iload (pc := 696) C dL_law_696 1 rfl ?_
      refine J_iconst (v := (1 : Int32)) (pc := 698) C dL_law_698 (by decide) ?_
      refine J_iadd (pc := 699) C dL_law_699 ?_
      refine J_ic_ne (pc := 700) (tgt := 712) C dL_law_700 (by decide) h (fun h => ?_) (fun h => ?_)
      · refine J_iconst (v := (0 : Int32)) (pc := 712) C dL_law_712 (by decide) ?_
        cases h
      · refine J_aload_n (pc := 703) C dL_law_703 8 rfl ?_
        refine J_iload (pc := 704) C dL_law_704 3 rfl ?_
        refine J_cvP (pc := 706) (As := [.int r273]) (st := []) C (fun z => (wPL cI cB cO A z)) dL_law_706 ml_RL_173 mi_yX10_household (fun a s2 hr => R_household l D cI cB cL cO pf N A r684.2 r273 hr) h at_this rfl rfl ⟨rfl, rfl⟩ ⟨(Nat.le_of_ble_eq_true rfl), (Nat.le_of_ble_eq_true rfl)⟩ ⟨(by first | omega | (dsimp only; omega)), (by first | omega | (dsimp only; omega))⟩ (Nat.le_of_ble_eq_true rfl) (fun r706 h => ?_)
        refine J_if_eq (pc := 709) (tgt := 912) C dL_law_709 (by decide) h (fun h => ?_) (fun h => ?_)
        · refine J_widen (k2 := k0 + 4) (n2 := n0 + 24) (by first | omega | (dsimp only; omega)) (by first | omega | (dsimp only; omega)) ?_
          refine J_sub (lv2 := [(0, .ref (pf 92)), (1, .ref (A 0 0)), (6, .long x6), (8, .int x8), (9, .int x9), (10, .int r248), (11, .long r254.1), (13, .int r260.1), (16, .int r684.1)]) [7, 8, 9, 10, 11, 6, 5, 4, 0] rfl ?_
          exact t_L_turn_b912 C hf hk hn kk h
        · refine J_iconst (v := (0 : Int32)) (pc := 712) C dL_law_712 (by decide) ?_
          cases h
  refine J_oif h (fun q h => ?_) (fun q7 h => ?_)
  · refine J_tin (pc := 299) (v := (7 : Int32)) (tgt := 714) C dL_law_299 q (by decide) (by decide) rfl (by decide) ?_
    refine J_aload_n (pc := 714) C dL_law_714 6 rfl ?_
    refine J_iload (pc := 715) C dL_law_715 1 rfl ?_
    refine J_cvP (pc := 717) (As := [.int r273]) (st := []) C (fun z => (wPL cI cB cO A z)) dL_law_717 ml_RL_206 mi_yX10_contributed (fun a s2 hr => R_contributed l D cI cB cL cO pf N A r260.2 r273 hr) h at_this rfl rfl ⟨rfl, rfl⟩ ⟨(Nat.le_of_ble_eq_true rfl), (Nat.le_of_ble_eq_true rfl)⟩ ⟨(by first | omega | (dsimp only; omega)), (by first | omega | (dsimp only; omega))⟩ (Nat.le_of_ble_eq_true rfl) (fun r717 h => ?_)
    refine J_istore (lv2 := [(17, .int r717.2.1), (15, .int r287), (14, .int r273), (13, .int r260.1), (11, .long r254.1), (10, .int r248), (0, .ref (pf 92)), (1, .ref (A 0 0)), (6, .long x6), (8, .int x8), (9, .int x9)]) (pc := 720) C dL_law_720 (by decide) rfl ?_
    refine J_aload_n (pc := 722) C dL_law_722 7 rfl ?_
    refine J_iload (pc := 723) C dL_law_723 2 rfl ?_
    obtain ⟨r725, hr725, h⟩ := Option.bind_eq_some_iff.mp h
    refine J_csH (pc := 725) (As := [.ref (A 0 0), .int r273]) (st := []) C dL_law_725 ml_RL_283 wh_left (V_left l hf D cI cB cL cO pf N A r717.2.2 r273 r725 hr725) [] (by rw [List.append_nil]) rfl ⟨(Nat.le_of_ble_eq_true rfl), (Nat.le_of_ble_eq_true rfl)⟩ ⟨(by first | omega | (dsimp only; omega)), (by first | omega | (dsimp only; omega))⟩ (Nat.le_of_ble_eq_true rfl) ?_
    rintro v w1 ⟨rfl, rfl⟩
    refine J_ws (ws2 := (wPL cI cB cO A r725.2)) (List.append_nil _) ?_
    refine J_widen (k2 := k0 + 4) (n2 := n0 + 24) (by first | omega | (dsimp only; omega)) (by first | omega | (dsimp only; omega)) ?_
    refine J_istore (lv2 := [(16, .int r725.1), (17, .int r717.2.1), (15, .int r287), (14, .int r273), (13, .int r260.1), (11, .long r254.1), (10, .int r248), (0, .ref (pf 92)), (1, .ref (A 0 0)), (6, .long x6), (8, .int x8), (9, .int x9)]) (pc := 728) C dL_law_728 (by decide) rfl ?_
    refine J_iload (pc := 730) C dL_law_730 0 rfl ?_
    refine J_if_lt (pc := 732) (tgt := 912) C dL_law_732 (by decide) h (fun h => ?_) (fun h => ?_)
    · refine J_widen (k2 := k0 + 4) (n2 := n0 + 24) (by first | omega | (dsimp only; omega)) (by first | omega | (dsimp only; omega)) ?_
      refine J_sub (lv2 := [(0, .ref (pf 92)), (1, .ref (A 0 0)), (6, .long x6), (8, .int x8), (9, .int x9), (10, .int r248), (11, .long r254.1), (13, .int r260.1), (16, .int r725.1)]) [7, 8, 9, 10, 11, 6, 5, 4, 0] rfl ?_
      exact t_L_turn_b912 C hf hk hn kk h
    · refine J_iload (pc := 735) C dL_law_735 0 rfl ?_
      refine J_iload (pc := 737) C dL_law_737 1 rfl ?_
      refine J_ic_ne (pc := 739) (tgt := 752) C dL_law_739 (by decide) h (fun h => ?_) (fun h => ?_)
      · refine J_iconst (v := (0 : Int32)) (pc := 752) C dL_law_752 (by decide) ?_
        cases h
      · refine J_aload_n (pc := 742) C dL_law_742 8 rfl ?_
        refine J_iload (pc := 743) C dL_law_743 3 rfl ?_
        refine J_cvP (pc := 745) (As := [.int r273]) (st := []) C (fun z => (wPL cI cB cO A z)) dL_law_745 ml_RL_173 mi_yX10_household (fun a s2 hr => R_household l D cI cB cL cO pf N A r725.2 r273 hr) h at_this rfl rfl ⟨rfl, rfl⟩ ⟨(Nat.le_of_ble_eq_true rfl), (Nat.le_of_ble_eq_true rfl)⟩ ⟨(by first | omega | (dsimp only; omega)), (by first | omega | (dsimp only; omega))⟩ (Nat.le_of_ble_eq_true rfl) (fun r745 h => ?_)
        refine J_iconst (v := (-1 : Int32)) (pc := 748) C dL_law_748 (by decide) ?_
        refine J_ic_eq (pc := 749) (tgt := 912) C dL_law_749 (by decide) h (fun h => ?_) (fun h => ?_)
        · refine J_widen (k2 := k0 + 4) (n2 := n0 + 24) (by first | omega | (dsimp only; omega)) (by first | omega | (dsimp only; omega)) ?_
          refine J_sub (lv2 := [(0, .ref (pf 92)), (1, .ref (A 0 0)), (6, .long x6), (8, .int x8), (9, .int x9), (10, .int r248), (11, .long r254.1), (13, .int r260.1), (16, .int r725.1)]) [7, 8, 9, 10, 11, 6, 5, 4, 0] rfl ?_
          exact t_L_turn_b912 C hf hk hn kk h
        · refine J_iconst (v := (0 : Int32)) (pc := 752) C dL_law_752 (by decide) ?_
          cases h
  refine J_oif h (fun q h => ?_) (fun q8 h => ?_)
  · refine J_tin (pc := 299) (v := (8 : Int32)) (tgt := 754) C dL_law_299 q (by decide) (by decide) rfl (by decide) ?_
    refine J_aload_n (pc := 754) C dL_law_754 6 rfl ?_
    refine J_iconst (v := (0 : Int32)) (pc := 755) C dL_law_755 (by decide) ?_
    refine J_iload (pc := 756) C dL_law_756 4 rfl ?_
    refine J_bipush (v := (8 : Int32)) (pc := 758) C dL_law_758 (by decide) ?_
    refine J_ishr (pc := 760) C dL_law_760 ?_
    refine J_bipush (v := (101 : Int32)) (pc := 761) C dL_law_761 (by decide) ?_
    refine J_csL (b := 0) (pc := 763) (As := [.int (r248 >>> ((8 : Int32) &&& 31)), .int (101 : Int32)]) (st := [.int (0 : Int32), .ref (A 0 0)]) (V := fun r763 => some (.int r763)) C (fun _ => (wPL cI cB cO A r260.2)) dL_law_763 ml_RL_45 mi_yL_in (fun r hr => Ct_nil (c_L_in l D cI cB cL cO pf N (r248 >>> ((8 : Int32) &&& 31)) (101 : Int32) r hr)) h rfl ⟨rfl, rfl⟩ ⟨(Nat.le_of_ble_eq_true rfl), (Nat.le_of_ble_eq_true rfl)⟩ ⟨(by first | omega | (dsimp only; omega)), (by first | omega | (dsimp only; omega))⟩ (Nat.le_of_ble_eq_true rfl) (fun r763 h => ?_)
    refine J_cvP (pc := 766) (As := [.int (0 : Int32), .int r763]) (st := []) C (fun z => (wPL cI cB cO A z)) dL_law_766 ml_RL_286 mi_yX10_setShare (fun a s2 hr => R_setShare l D cI cB cL cO pf N A r260.2 (0 : Int32) r763 hr) h at_this rfl rfl ⟨rfl, rfl⟩ ⟨(Nat.le_of_ble_eq_true rfl), (Nat.le_of_ble_eq_true rfl)⟩ ⟨(by first | omega | (dsimp only; omega)), (by first | omega | (dsimp only; omega))⟩ (Nat.le_of_ble_eq_true rfl) (fun r766 h => ?_)
    refine J_istore (lv2 := [(16, .int r766.2.1), (15, .int r287), (14, .int r273), (13, .int r260.1), (11, .long r254.1), (10, .int r248), (0, .ref (pf 92)), (1, .ref (A 0 0)), (6, .long x6), (8, .int x8), (9, .int x9)]) (pc := 769) C dL_law_769 (by decide) rfl ?_
    refine J_goto (tgt := 912) (pc := 771) C dL_law_771 (by decide) ?_
    refine J_widen (k2 := k0 + 4) (n2 := n0 + 24) (by first | omega | (dsimp only; omega)) (by first | omega | (dsimp only; omega)) ?_
    refine J_sub (lv2 := [(0, .ref (pf 92)), (1, .ref (A 0 0)), (6, .long x6), (8, .int x8), (9, .int x9), (10, .int r248), (11, .long r254.1), (13, .int r260.1), (16, .int r766.2.1)]) [6, 7, 8, 9, 10, 5, 4, 3, 0] rfl ?_
    exact t_L_turn_b912 C hf hk hn kk h
  refine J_oif h (fun q h => ?_) (fun q9 h => ?_)
  · refine J_tin (pc := 299) (v := (9 : Int32)) (tgt := 774) C dL_law_299 q (by decide) (by decide) rfl (by decide) ?_
    refine J_iconst (v := (1 : Int32)) (pc := 774) C dL_law_774 (by decide) ?_
    refine J_iload (pc := 775) C dL_law_775 4 rfl ?_
    refine J_bipush (v := (8 : Int32)) (pc := 777) C dL_law_777 (by decide) ?_
    refine J_ishr (pc := 779) C dL_law_779 ?_
    refine J_bipush (v := (25 : Int32)) (pc := 780) C dL_law_780 (by decide) ?_
    refine J_csL (b := 0) (pc := 782) (As := [.int (r248 >>> ((8 : Int32) &&& 31)), .int (25 : Int32)]) (st := [.int (1 : Int32)]) (V := fun r782 => some (.int r782)) C (fun _ => (wPL cI cB cO A r260.2)) dL_law_782 ml_RL_45 mi_yL_in (fun r hr => Ct_nil (c_L_in l D cI cB cL cO pf N (r248 >>> ((8 : Int32) &&& 31)) (25 : Int32) r hr)) h rfl ⟨rfl, rfl⟩ ⟨(Nat.le_of_ble_eq_true rfl), (Nat.le_of_ble_eq_true rfl)⟩ ⟨(by first | omega | (dsimp only; omega)), (by first | omega | (dsimp only; omega))⟩ (Nat.le_of_ble_eq_true rfl) (fun r782 h => ?_)
    refine J_iadd (pc := 785) C dL_law_785 ?_
    refine J_istoreN (pc := 786) C (fun y786 => [(17, .int y786), (15, .int r287), (14, .int r273), (13, .int r260.1), (11, .long r254.1), (10, .int r248), (0, .ref (pf 92)), (1, .ref (A 0 0)), (6, .long x6), (8, .int x8), (9, .int x9)]) dL_law_786 h (by decide) (fun _ => rfl) (fun y786 h => ?_)
    refine J_aload_n (pc := 788) C dL_law_788 7 rfl ?_
    refine J_cvL (pc := 789) (As := []) (st := []) (V := fun r789 => some (.int r789.1)) C (fun r789 => (wPL cI cB cO A r789.2)) dL_law_789 ml_RL_152 mi_yX10_today (fun r hr => Q_today l D cI cB cL cO pf N A r260.2 r hr) h at_this rfl rfl ⟨rfl, rfl⟩ ⟨(Nat.le_of_ble_eq_true rfl), (Nat.le_of_ble_eq_true rfl)⟩ ⟨(by first | omega | (dsimp only; omega)), (by first | omega | (dsimp only; omega))⟩ (Nat.le_of_ble_eq_true rfl) (fun r789 h => ?_)
    refine J_istore (lv2 := [(18, .int r789.1), (17, .int y786), (15, .int r287), (14, .int r273), (13, .int r260.1), (11, .long r254.1), (10, .int r248), (0, .ref (pf 92)), (1, .ref (A 0 0)), (6, .long x6), (8, .int x8), (9, .int x9)]) (pc := 792) C dL_law_792 (by decide) rfl ?_
    refine J_aload_n (pc := 794) C dL_law_794 8 rfl ?_
    refine J_iload (pc := 795) C dL_law_795 3 rfl ?_
    refine J_iload (pc := 797) C dL_law_797 1 rfl ?_
    refine J_cvP (pc := 799) (As := [.int r273, .int y786]) (st := []) C (fun z => (wPL cI cB cO A z)) dL_law_799 ml_RL_289 mi_yX10_tierAfter (fun a s2 hr => R_tierAfter l D cI cB cL cO pf N A r789.2 r273 y786 hr) h at_this rfl rfl ⟨rfl, rfl⟩ ⟨(Nat.le_of_ble_eq_true rfl), (Nat.le_of_ble_eq_true rfl)⟩ ⟨(by first | omega | (dsimp only; omega)), (by first | omega | (dsimp only; omega))⟩ (Nat.le_of_ble_eq_true rfl) (fun r799 h => ?_)
    refine J_istore (lv2 := [(19, .int r799.2.1), (18, .int r789.1), (17, .int y786), (15, .int r287), (14, .int r273), (13, .int r260.1), (11, .long r254.1), (10, .int r248), (0, .ref (pf 92)), (1, .ref (A 0 0)), (6, .long x6), (8, .int x8), (9, .int x9)]) (pc := 802) C dL_law_802 (by decide) rfl ?_
    refine J_aload_n (pc := 804) C dL_law_804 9 rfl ?_
    refine J_iconst (v := (2 : Int32)) (pc := 805) C dL_law_805 (by decide) ?_
    refine J_cvP (pc := 806) (As := [.int (2 : Int32)]) (st := []) C (fun z => (wPL cI cB cO A z)) dL_law_806 ml_RL_158 mi_yX10_total (fun a s2 hr => R_total l D cI cB cL cO pf N A r799.2.2 (2 : Int32) hr) h at_this rfl rfl ⟨rfl, rfl⟩ ⟨(Nat.le_of_ble_eq_true rfl), (Nat.le_of_ble_eq_true rfl)⟩ ⟨(by first | omega | (dsimp only; omega)), (by first | omega | (dsimp only; omega))⟩ (Nat.le_of_ble_eq_true rfl) (fun r806 h => ?_)
    refine J_istore (lv2 := [(20, .int r806.2.1), (19, .int r799.2.1), (18, .int r789.1), (17, .int y786), (15, .int r287), (14, .int r273), (13, .int r260.1), (11, .long r254.1), (10, .int r248), (0, .ref (pf 92)), (1, .ref (A 0 0)), (6, .long x6), (8, .int x8), (9, .int x9)]) (pc := 809) C dL_law_809 (by decide) rfl ?_
    refine J_aload_n (pc := 811) C dL_law_811 10 rfl ?_
    refine J_iload (pc := 812) C dL_law_812 5 rfl ?_
    refine J_iload (pc := 814) C dL_law_814 3 rfl ?_
    refine J_cvP (pc := 816) (As := [.int r273, .int y786]) (st := []) C (fun z => (wPL cI cB cO A z)) dL_law_816 ml_RL_292 mi_yX10_expiringWithin (fun a s2 hr => R_expiringWithin l D cI cB cL cO pf N A r806.2.2 r273 y786 hr) h at_this rfl rfl ⟨rfl, rfl⟩ ⟨(Nat.le_of_ble_eq_true rfl), (Nat.le_of_ble_eq_true rfl)⟩ ⟨(by first | omega | (dsimp only; omega)), (by first | omega | (dsimp only; omega))⟩ (Nat.le_of_ble_eq_true rfl) (fun r816 h => ?_)
    refine J_istore (lv2 := [(21, .int r816.2.1), (20, .int r806.2.1), (19, .int r799.2.1), (18, .int r789.1), (17, .int y786), (15, .int r287), (14, .int r273), (13, .int r260.1), (11, .long r254.1), (10, .int r248), (0, .ref (pf 92)), (1, .ref (A 0 0)), (6, .long x6), (8, .int x8), (9, .int x9)]) (pc := 819) C dL_law_819 (by decide) rfl ?_
    refine J_aload_n (pc := 821) C dL_law_821 11 rfl ?_
    refine J_iload (pc := 822) C dL_law_822 6 rfl ?_
    refine J_cvP (pc := 824) (As := [.int r273]) (st := []) C (fun z => (wPL cI cB cO A z)) dL_law_824 ml_RL_200 mi_yX10_balance (fun a s2 hr => R_balance l D cI cB cL cO pf N A r816.2.2 r273 hr) h at_this rfl rfl ⟨rfl, rfl⟩ ⟨(Nat.le_of_ble_eq_true rfl), (Nat.le_of_ble_eq_true rfl)⟩ ⟨(by first | omega | (dsimp only; omega)), (by first | omega | (dsimp only; omega))⟩ (Nat.le_of_ble_eq_true rfl) (fun r824 h => ?_)
    refine J_istore (lv2 := [(22, .int r824.2.1), (21, .int r816.2.1), (20, .int r806.2.1), (19, .int r799.2.1), (18, .int r789.1), (17, .int y786), (15, .int r287), (14, .int r273), (13, .int r260.1), (11, .long r254.1), (10, .int r248), (0, .ref (pf 92)), (1, .ref (A 0 0)), (6, .long x6), (8, .int x8), (9, .int x9)]) (pc := 827) C dL_law_827 (by decide) rfl ?_
    refine J_aload_n (pc := 829) C dL_law_829 12 rfl ?_
    refine J_iload (pc := 830) C dL_law_830 5 rfl ?_
    refine J_cvP (pc := 832) (As := [.int y786]) (st := []) C (fun z => (wPL cI cB cO A z)) dL_law_832 ml_RL_295 mi_yX10_advance (fun a s2 hr => R_advance l D cI cB cL cO pf N A r824.2.2 y786 hr) h at_this rfl rfl ⟨rfl, rfl⟩ ⟨(Nat.le_of_ble_eq_true rfl), (Nat.le_of_ble_eq_true rfl)⟩ ⟨(by first | omega | (dsimp only; omega)), (by first | omega | (dsimp only; omega))⟩ (Nat.le_of_ble_eq_true rfl) (fun r832 h => ?_)
    refine J_istore (lv2 := [(16, .int r832.2.1), (22, .int r824.2.1), (21, .int r816.2.1), (20, .int r806.2.1), (19, .int r799.2.1), (18, .int r789.1), (17, .int y786), (15, .int r287), (14, .int r273), (13, .int r260.1), (11, .long r254.1), (10, .int r248), (0, .ref (pf 92)), (1, .ref (A 0 0)), (6, .long x6), (8, .int x8), (9, .int x9)]) (pc := 835) C dL_law_835 (by decide) rfl ?_
    refine J_aload_n (pc := 837) C dL_law_837 13 rfl ?_
    refine J_cvL (pc := 838) (As := []) (st := []) (V := fun r838 => some (.int r838.1)) C (fun r838 => (wPL cI cB cO A r838.2)) dL_law_838 ml_RL_152 mi_yX10_today (fun r hr => Q_today l D cI cB cL cO pf N A r832.2.2 r hr) h at_this rfl rfl ⟨rfl, rfl⟩ ⟨(Nat.le_of_ble_eq_true rfl), (Nat.le_of_ble_eq_true rfl)⟩ ⟨(by first | omega | (dsimp only; omega)), (by first | omega | (dsimp only; omega))⟩ (Nat.le_of_ble_eq_true rfl) (fun r838 h => ?_)
    refine J_iload (pc := 841) C dL_law_841 5 rfl ?_
    refine J_iload (pc := 843) C dL_law_843 6 rfl ?_
    refine J_iadd (pc := 845) C dL_law_845 ?_
    refine J_ic_ne (pc := 846) (tgt := 887) C dL_law_846 (by decide) h (fun h => ?_) (fun h => ?_)
    · refine J_iconst (v := (0 : Int32)) (pc := 887) C dL_law_887 (by decide) ?_
      cases h
    · refine J_aload_n (pc := 849) C dL_law_849 13 rfl ?_
      refine J_iload (pc := 850) C dL_law_850 8 rfl ?_
      refine J_cvP (pc := 852) (As := [.int r273]) (st := []) C (fun z => (wPL cI cB cO A z)) dL_law_852 ml_RL_167 mi_yX10_tier (fun a s2 hr => R_tier l D cI cB cL cO pf N A r838.2 r273 hr) h at_this rfl rfl ⟨rfl, rfl⟩ ⟨(Nat.le_of_ble_eq_true rfl), (Nat.le_of_ble_eq_true rfl)⟩ ⟨(by first | omega | (dsimp only; omega)), (by first | omega | (dsimp only; omega))⟩ (Nat.le_of_ble_eq_true rfl) (fun r852 h => ?_)
      refine J_iload (pc := 855) C dL_law_855 4 rfl ?_
      refine J_ic_ne (pc := 857) (tgt := 887) C dL_law_857 (by decide) h (fun h => ?_) (fun h => ?_)
      · refine J_iconst (v := (0 : Int32)) (pc := 887) C dL_law_887 (by decide) ?_
        cases h
      · refine J_aload_n (pc := 860) C dL_law_860 13 rfl ?_
        refine J_iconst (v := (2 : Int32)) (pc := 861) C dL_law_861 (by decide) ?_
        refine J_cvP (pc := 862) (As := [.int (2 : Int32)]) (st := []) C (fun z => (wPL cI cB cO A z)) dL_law_862 ml_RL_158 mi_yX10_total (fun a s2 hr => R_total l D cI cB cL cO pf N A r852.2.2 (2 : Int32) hr) h at_this rfl rfl ⟨rfl, rfl⟩ ⟨(Nat.le_of_ble_eq_true rfl), (Nat.le_of_ble_eq_true rfl)⟩ ⟨(by first | omega | (dsimp only; omega)), (by first | omega | (dsimp only; omega))⟩ (Nat.le_of_ble_eq_true rfl) (fun r862 h => ?_)
        refine J_iload (pc := 865) C dL_law_865 3 rfl ?_
        refine J_iload (pc := 867) C dL_law_867 0 rfl ?_
        refine J_iadd (pc := 869) C dL_law_869 ?_
        refine J_ic_ne (pc := 870) (tgt := 887) C dL_law_870 (by decide) h (fun h => ?_) (fun h => ?_)
        · refine J_iconst (v := (0 : Int32)) (pc := 887) C dL_law_887 (by decide) ?_
          cases h
        · refine J_aload_n (pc := 873) C dL_law_873 13 rfl ?_
          refine J_iload (pc := 874) C dL_law_874 8 rfl ?_
          refine J_cvP (pc := 876) (As := [.int r273]) (st := []) C (fun z => (wPL cI cB cO A z)) dL_law_876 ml_RL_200 mi_yX10_balance (fun a s2 hr => R_balance l D cI cB cL cO pf N A r862.2.2 r273 hr) h at_this rfl rfl ⟨rfl, rfl⟩ ⟨(Nat.le_of_ble_eq_true rfl), (Nat.le_of_ble_eq_true rfl)⟩ ⟨(by first | omega | (dsimp only; omega)), (by first | omega | (dsimp only; omega))⟩ (Nat.le_of_ble_eq_true rfl) (fun r876 h => ?_)
          refine J_iload (pc := 879) C dL_law_879 1 rfl ?_
          refine J_iload (pc := 881) C dL_law_881 2 rfl ?_
          refine J_isub (pc := 883) C dL_law_883 ?_
          refine J_ic_eq (pc := 884) (tgt := 912) C dL_law_884 (by decide) h (fun h => ?_) (fun h => ?_)
          · refine J_widen (k2 := k0 + 4) (n2 := n0 + 24) (by first | omega | (dsimp only; omega)) (by first | omega | (dsimp only; omega)) ?_
            refine J_sub (lv2 := [(0, .ref (pf 92)), (1, .ref (A 0 0)), (6, .long x6), (8, .int x8), (9, .int x9), (10, .int r248), (11, .long r254.1), (13, .int r260.1), (16, .int r832.2.1)]) [12, 13, 14, 15, 16, 11, 10, 9, 0] rfl ?_
            exact t_L_turn_b912 C hf hk hn kk h
          · refine J_iconst (v := (0 : Int32)) (pc := 887) C dL_law_887 (by decide) ?_
            cases h
  refine J_tout (pc := 299) (tgt := 889) C dL_law_299 (by have a0 := tsw_ne q0 (a := 0) (by decide); have a1 := tsw_ne q1 (a := 1) (by decide); have a2 := tsw_ne q2 (a := 2) (by decide); have a3 := tsw_ne q3 (a := 3) (by decide); have a4 := tsw_ne q4 (a := 4) (by decide); have a5 := tsw_ne q5 (a := 5) (by decide); have a6 := tsw_ne q6 (a := 6) (by decide); have a7 := tsw_ne q7 (a := 7) (by decide); have a8 := tsw_ne q8 (a := 8) (by decide); have a9 := tsw_ne q9 (a := 9) (by decide); omega) (by decide) ?_
  refine J_aload_n (pc := 889) C dL_law_889 6 rfl ?_
  refine J_cvL (pc := 890) (As := []) (st := []) (V := fun r890 => some (.int r890.1)) C (fun r890 => (wPL cI cB cO A r890.2)) dL_law_890 ml_RL_298 mi_yX10_save (fun r hr => Q_save l D cI cB cL cO pf N A r260.2 r hr) h at_this rfl rfl ⟨rfl, rfl⟩ ⟨(Nat.le_of_ble_eq_true rfl), (Nat.le_of_ble_eq_true rfl)⟩ ⟨(by first | omega | (dsimp only; omega)), (by first | omega | (dsimp only; omega))⟩ (Nat.le_of_ble_eq_true rfl) (fun r890 h => ?_)
  refine J_aload_n (pc := 893) C dL_law_893 6 rfl ?_
  refine J_cvL (pc := 894) (As := []) (st := [.int r890.1]) (V := fun r894 => some (.int r894.1)) C (fun r894 => (wPL cI cB cO A r894.2)) dL_law_894 ml_RL_152 mi_yX10_today (fun r hr => Q_today l D cI cB cL cO pf N A r890.2 r hr) h at_this rfl rfl ⟨rfl, rfl⟩ ⟨(Nat.le_of_ble_eq_true rfl), (Nat.le_of_ble_eq_true rfl)⟩ ⟨(by first | omega | (dsimp only; omega)), (by first | omega | (dsimp only; omega))⟩ (Nat.le_of_ble_eq_true rfl) (fun r894 h => ?_)
  refine J_ic_eq (pc := 897) (tgt := 902) C dL_law_897 (by decide) h (fun h => ?_) (fun h => ?_)
  · refine J_lload (pc := 902) C dL_law_902 3 rfl ?_
    refine J_lstore (lv2 := [(6, .long r254.1), (15, .int r287), (14, .int r273), (13, .int r260.1), (11, .long r254.1), (10, .int r248), (0, .ref (pf 92)), (1, .ref (A 0 0)), (8, .int x8), (9, .int x9)]) (pc := 904) C dL_law_904 (by decide) rfl ?_
    refine J_iconst (v := (1 : Int32)) (pc := 906) C dL_law_906 (by decide) ?_
    refine J_istore (lv2 := [(8, .int (1 : Int32)), (6, .long r254.1), (15, .int r287), (14, .int r273), (13, .int r260.1), (11, .long r254.1), (10, .int r248), (0, .ref (pf 92)), (1, .ref (A 0 0)), (9, .int x9)]) (pc := 907) C dL_law_907 (by decide) rfl ?_
    refine J_iconst (v := (-1 : Int32)) (pc := 909) C dL_law_909 (by decide) ?_
    refine J_istore (lv2 := [(16, .int (-1 : Int32)), (8, .int (1 : Int32)), (6, .long r254.1), (15, .int r287), (14, .int r273), (13, .int r260.1), (11, .long r254.1), (10, .int r248), (0, .ref (pf 92)), (1, .ref (A 0 0)), (9, .int x9)]) (pc := 910) C dL_law_910 (by decide) rfl ?_
    refine J_widen (k2 := k0 + 4) (n2 := n0 + 24) (by first | omega | (dsimp only; omega)) (by first | omega | (dsimp only; omega)) ?_
    refine J_sub (lv2 := [(0, .ref (pf 92)), (1, .ref (A 0 0)), (6, .long r254.1), (8, .int (1 : Int32)), (9, .int x9), (10, .int r248), (11, .long r254.1), (13, .int r260.1), (16, .int (-1 : Int32))]) [8, 9, 2, 1, 10, 7, 6, 5, 0] rfl ?_
    exact t_L_turn_b912 C hf hk hn kk h
  · refine J_iconst (v := (0 : Int32)) (pc := 900) C dL_law_900 (by decide) ?_
    cases h
def f_L_fin (N : Nat) (x6 : Int64) (x8 : Int32) (zs : T_PL) : Option (T_PL) :=
  (if x8 = 0 then (some zs) else ((P_restore N zs).bind fun r1026 => (if ¬ r1026.1 = 0 then none else ((P_today N r1026.2.2).bind fun r1030 => (if r1026.2.1 = r1030.1 then ((f_L_all N r1030.2).bind fun r1037 => (if (lg_cmp r1037.1 x6) = 0 then (some r1037.2) else none)) else none)))))
set_option maxHeartbeats 4000000 in
set_option maxRecDepth 100000 in
theorem t_L_fin_b1020 {l : Launch} {D : va_G} {A : Nat → Nat → Nat} {cI cB cL cO : ClassId} {pf : Nat → Nat} {p : Program} {e : Env} {s : State} {m : MethodId} {args : Array Value} {below : List Frame} {meth : Method} {c : Code} {AP : Nat → Prop} {Q : State → Prop} {N k0 n0 : Nat} {x6 : Int64} {x8 : Int32} {zs : T_PL} {o : T_PL} (C : jC p s m args meth c cL_law 23 RL D [(cI, .int), (cB, .byte), (cL, .byte), (cO, .object RX0)] pf AP) (hf : l.stackTraces = false) (hk : k0 + 0 ≤ room_1.cells) (hn : n0 + 0 ≤ room_1.slots) (kk : ∀ (lv : List (Nat × Value)) (ws : va_W), J p l e room_1 s m args below meth c 23 D AP Q (k0 + 0) (n0 + 0) 1051 lv [.int (1 : Int32)] ws) (h : f_L_fin N x6 x8 zs = some o) : J p l e room_1 s m args below meth c 23 D AP Q (k0) (n0) 1020 [(0, .ref (pf 92)), (1, .ref (A 0 0)), (6, .long x6), (8, .int x8)] [] (wPL cI cB cO A zs) := by
  unfold f_L_fin at h
  refine J_iload (pc := 1020) C dL_law_1020 3 rfl ?_
  refine J_if_eq (pc := 1022) (tgt := 1046) C dL_law_1022 (by decide) h (fun h => ?_) (fun h => ?_)
  · refine J_iconst (v := (1 : Int32)) (pc := 1046) C dL_law_1046 (by decide) ?_
    refine J_goto (tgt := 1051) (pc := 1047) C dL_law_1047 (by decide) ?_
    have h := Option.some.inj h
    subst h
    refine J_widen (k2 := k0 + 0) (n2 := n0 + 0) (by first | omega | (dsimp only; omega)) (by first | omega | (dsimp only; omega)) ?_
    exact kk _ _
  · refine J_aload_n (pc := 1025) C dL_law_1025 1 rfl ?_
    refine J_cvP (pc := 1026) (As := []) (st := []) C (fun z => (wPL cI cB cO A z)) dL_law_1026 ml_RL_313 mi_yX10_restore (fun a s2 hr => R_restore l D cI cB cL cO pf N A zs hr) h at_this rfl rfl ⟨rfl, rfl⟩ ⟨(Nat.le_of_ble_eq_true rfl), (Nat.le_of_ble_eq_true rfl)⟩ ⟨(by first | omega | (dsimp only; omega)), (by first | omega | (dsimp only; omega))⟩ (Nat.le_of_ble_eq_true rfl) (fun r1026 h => ?_)
    refine J_aload_n (pc := 1029) C dL_law_1029 1 rfl ?_
    refine J_cvL (pc := 1030) (As := []) (st := [.int r1026.2.1]) (V := fun r1030 => some (.int r1030.1)) C (fun r1030 => (wPL cI cB cO A r1030.2)) dL_law_1030 ml_RL_152 mi_yX10_today (fun r hr => Q_today l D cI cB cL cO pf N A r1026.2.2 r hr) h at_this rfl rfl ⟨rfl, rfl⟩ ⟨(Nat.le_of_ble_eq_true rfl), (Nat.le_of_ble_eq_true rfl)⟩ ⟨(by first | omega | (dsimp only; omega)), (by first | omega | (dsimp only; omega))⟩ (Nat.le_of_ble_eq_true rfl) (fun r1030 h => ?_)
    refine J_ic_ne (pc := 1033) (tgt := 1050) C dL_law_1033 (by decide) h (fun h => ?_) (fun h => ?_)
    · refine J_iconst (v := (0 : Int32)) (pc := 1050) C dL_law_1050 (by decide) ?_
      cases h
    · refine J_aload_n (pc := 1036) C dL_law_1036 1 rfl ?_
      refine J_csL (b := 0) (pc := 1037) (As := [.ref (A 0 0)]) (st := []) (V := fun r1037 => some (.long r1037.1)) C (fun r1037 => (wPL cI cB cO A r1037.2)) dL_law_1037 ml_RL_245 mi_yL_all (fun r hr => c_L_all l D cI cB cL cO pf N A r1030.2 r hr) h rfl ⟨rfl, rfl⟩ ⟨(Nat.le_of_ble_eq_true rfl), (Nat.le_of_ble_eq_true rfl)⟩ ⟨(by first | omega | (dsimp only; omega)), (by first | omega | (dsimp only; omega))⟩ (Nat.le_of_ble_eq_true rfl) (fun r1037 h => ?_)
      refine J_lload (pc := 1040) C dL_law_1040 2 rfl ?_
      refine J_lcmp (pc := 1042) C dL_law_1042 ?_
      refine J_if_ne (pc := 1043) (tgt := 1050) C dL_law_1043 (by decide) h (fun h => ?_) (fun h => ?_)
      · refine J_iconst (v := (0 : Int32)) (pc := 1050) C dL_law_1050 (by decide) ?_
        cases h
      · refine J_iconst (v := (1 : Int32)) (pc := 1046) C dL_law_1046 (by decide) ?_
        refine J_goto (tgt := 1051) (pc := 1047) C dL_law_1047 (by decide) ?_
        have h := Option.some.inj h
        subst h
        refine J_widen (k2 := k0 + 0) (n2 := n0 + 0) (by first | omega | (dsimp only; omega)) (by first | omega | (dsimp only; omega)) ?_
        exact kk _ _
