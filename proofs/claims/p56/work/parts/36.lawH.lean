def H_appended (N : Nat) (s : T_PL) (x1 : Int32) (x2 : Int32) (x3 : Int32) (x4 : Int32) (x5 : Int32) : Option (Int32 × T_PL) := (P_append N s x1 x2 x3 x4 x5).bind fun r => if r.1 = 0 then some (r.2.1, r.2.2) else if r.1 = 1 then some ((-1 : Int32), r.2.2) else none
def H_loaded (N : Nat) (s : T_PL) : Option (Int32 × T_PL) := (P_load N s).bind fun r => if r.1 = 0 then some (r.2.1, r.2.2) else if r.1 = 2 then some ((-1 : Int32), r.2.2) else none
def H_refunded (N : Nat) (s : T_PL) (x1 : Int32) : Option (Int32 × T_PL) := (P_refund N s x1).bind fun r => if r.1 = 0 then some (r.2.1, r.2.2) else if r.1 = 3 then some ((-1 : Int32), r.2.2) else if r.1 = 1 then some ((-2 : Int32), r.2.2) else none
def H_redeemed (N : Nat) (s : T_PL) (x1 : Int32) (x2 : Int32) : Option (Int32 × T_PL) := (P_redeem N s x1 x2).bind fun r => if r.1 = 0 then some (r.2.1, r.2.2) else if r.1 = 2 then some ((-1 : Int32), r.2.2) else if r.1 = 1 then some ((-2 : Int32), r.2.2) else none
def H_transferred (N : Nat) (s : T_PL) (x1 : Int32) (x2 : Int32) (x3 : Int32) : Option (Int32 × T_PL) := (P_transfer N s x1 x2 x3).bind fun r => if r.1 = 0 then some (r.2.1, r.2.2) else if r.1 = 2 then some ((-1 : Int32), r.2.2) else if r.1 = 1 then some ((-2 : Int32), r.2.2) else none
def H_joined (N : Nat) (s : T_PL) (x1 : Int32) : Option (Int32 × T_PL) := (P_join N s x1 (0 : Int32)).bind fun r => if r.1 = 0 then some (r.2.1, r.2.2) else if r.1 = 1 then some ((-1 : Int32), r.2.2) else none
def H_left (N : Nat) (s : T_PL) (x1 : Int32) : Option (Int32 × T_PL) := (P_leave N s x1).bind fun r => if r.1 = 0 then some (r.2.1, r.2.2) else if r.1 = 1 then some ((-1 : Int32), r.2.2) else none
theorem dL_appended_0 : decode cL_appended 0 = .ok (.aload_n 0, 1) := by decide +kernel
theorem dL_appended_1 : decode cL_appended 1 = .ok (.iload_n 1, 1) := by decide +kernel
theorem dL_appended_2 : decode cL_appended 2 = .ok (.iload_n 2, 1) := by decide +kernel
theorem dL_appended_3 : decode cL_appended 3 = .ok (.iload_n 3, 1) := by decide +kernel
theorem dL_appended_4 : decode cL_appended 4 = .ok (.iload 4, 2) := by decide +kernel
theorem dL_appended_6 : decode cL_appended 6 = .ok (.iload 5, 2) := by decide +kernel
theorem dL_appended_8 : decode cL_appended 8 = .ok (.invokevirtual 8, 3) := by decide +kernel
theorem dL_appended_11 : decode cL_appended 11 = .ok (.ireturn, 1) := by decide +kernel
theorem dL_appended_12 : decode cL_appended 12 = .ok (.astore 6, 2) := by decide +kernel
theorem dL_appended_14 : decode cL_appended 14 = .ok (.iconst (-1), 1) := by decide +kernel
theorem dL_appended_15 : decode cL_appended 15 = .ok (.ireturn, 1) := by decide +kernel
set_option maxHeartbeats 4000000 in
set_option maxRecDepth 100000 in
theorem V_appended (l : Launch) (hl : l.stackTraces = false) (D : va_G) (cI cB cL cO : ClassId) (pf : Nat → Nat) (N : Nat) (A : Nat → Nat → Nat) (s : T_PL) (x1 : Int32) (x2 : Int32) (x3 : Int32) (x4 : Int32) (x5 : Int32) (o : Int32 × T_PL) (h : H_appended N s x1 x2 x3 x4 x5 = some o) : CtH l D [(cI, .int), (cB, .byte), (cL, .byte), (cO, .object RX0)] pf yL_appended cL_appended 7 (some FieldType.int) [(0, 11, 12, 14)] { frames := 8, cells := 1, slots := 6, locals := 156 } [.ref (A 0 0), .int x1, .int x2, .int x3, .int x4, .int x5] (wPL cI cB cO A s) (is1 (some (.int o.1)) (wPL cI cB cO A o.2)) := by
  refine CtH_of (own := RL) (lv0 := [(0, .ref (A 0 0)), (1, .int x1), (2, .int x2), (3, .int x3), (4, .int x4), (5, .int x5)]) (by decide) rfl rfl (Nat.le_of_ble_eq_true rfl) ?_
  intro p e s' m args below meth c C hr ht
  obtain ⟨r, hr1, hK⟩ := Option.bind_eq_some_iff.mp h
  refine J_aload_n (pc := 0) C dL_appended_0 0 rfl ?_
  refine J_iload_n (pc := 1) C dL_appended_1 1 rfl ?_
  refine J_iload_n (pc := 2) C dL_appended_2 2 rfl ?_
  refine J_iload_n (pc := 3) C dL_appended_3 3 rfl ?_
  refine J_iload (pc := 4) C dL_appended_4 4 rfl ?_
  refine J_iload (pc := 6) C dL_appended_6 5 rfl ?_
  refine J_xvH (o9 := r.1) (V := some (.int r.2.1)) (W1 := wPL cI cB cO A r.2.2) (Wc := wPL cI cB cO A s) (pc := 8) (As := [.int x1, .int x2, .int x3, .int x4, .int x5]) (st := []) C dL_appended_8 ml_RL_8 mi_yX10_append (Q_append l hl D cI cB cL cO pf N A s x1 x2 x3 x4 x5 r hr1) [] (by rw [List.append_nil]) at_this rfl rfl ⟨(Nat.le_of_ble_eq_true rfl), (Nat.le_of_ble_eq_true rfl)⟩ ⟨(Nat.le_of_ble_eq_true rfl), (Nat.le_of_ble_eq_true rfl)⟩ (Nat.le_of_ble_eq_true rfl) (fun h0 => ?_) (fun h0 => ?_)
  · rw [if_pos h0] at hK
    have hK := Option.some.inj hK
    subst hK
    refine J_ws (ws2 := wPL cI cB cO A r.2.2) (List.append_nil _) ?_
    refine J_widen (k2 := 1) (n2 := 6) (Nat.le_of_ble_eq_true rfl) (Nat.le_of_ble_eq_true rfl) ?_
    exact J_iret (pc := 11) C dL_appended_11 hr ⟨rfl, rfl⟩
  · rw [if_neg h0] at hK
    by_cases h0 : r.1 = 1
    · rw [if_pos h0] at hK
      have hK := Option.some.inj hK
      subst hK
      refine ⟨[], [], ⟨0, 11, 12, 14⟩, "java/lang/IllegalStateException", ht, (fun z hz => by cases hz), rfl, Nat.succ_ne_zero _, cl_L_14, (by rw [h0]; exact ca_of C.2.2.2.2.2.2.2.2 (by decide)), fun q => ?_⟩
      refine J_ws (ws2 := wPL cI cB cO A r.2.2) (List.append_nil _) ?_
      refine J_astore (lv2 := [(6, .ref q), (0, .ref (A 0 0)), (1, .int x1), (2, .int x2), (3, .int x3), (4, .int x4), (5, .int x5)]) (pc := 12) C dL_appended_12 (by decide) rfl ?_
      refine J_iconst (v := (-1 : Int32)) (pc := 14) C dL_appended_14 (by decide) ?_
      refine J_widen (k2 := 1) (n2 := 6) (Nat.le_of_ble_eq_true rfl) (Nat.le_of_ble_eq_true rfl) ?_
      exact J_iret (pc := 15) C dL_appended_15 hr ⟨rfl, rfl⟩
    rw [if_neg h0] at hK
    cases hK
theorem dL_loaded_0 : decode cL_loaded 0 = .ok (.aload_n 0, 1) := by decide +kernel
theorem dL_loaded_1 : decode cL_loaded 1 = .ok (.invokevirtual 36, 3) := by decide +kernel
theorem dL_loaded_4 : decode cL_loaded 4 = .ok (.ireturn, 1) := by decide +kernel
theorem dL_loaded_5 : decode cL_loaded 5 = .ok (.astore_n 1, 1) := by decide +kernel
theorem dL_loaded_6 : decode cL_loaded 6 = .ok (.iconst (-1), 1) := by decide +kernel
theorem dL_loaded_7 : decode cL_loaded 7 = .ok (.ireturn, 1) := by decide +kernel
set_option maxHeartbeats 4000000 in
set_option maxRecDepth 100000 in
theorem V_loaded (l : Launch) (hl : l.stackTraces = false) (D : va_G) (cI cB cL cO : ClassId) (pf : Nat → Nat) (N : Nat) (A : Nat → Nat → Nat) (s : T_PL) (o : Int32 × T_PL) (h : H_loaded N s = some o) : CtH l D [(cI, .int), (cB, .byte), (cL, .byte), (cO, .object RX0)] pf yL_loaded cL_loaded 2 (some FieldType.int) [(0, 4, 5, 39)] { frames := 11, cells := 1, slots := 6, locals := 237 } [.ref (A 0 0)] (wPL cI cB cO A s) (is1 (some (.int o.1)) (wPL cI cB cO A o.2)) := by
  refine CtH_of (own := RL) (lv0 := [(0, .ref (A 0 0))]) (by decide) rfl rfl (Nat.le_of_ble_eq_true rfl) ?_
  intro p e s' m args below meth c C hr ht
  obtain ⟨r, hr1, hK⟩ := Option.bind_eq_some_iff.mp h
  refine J_aload_n (pc := 0) C dL_loaded_0 0 rfl ?_
  refine J_xvH (o9 := r.1) (V := some (.int r.2.1)) (W1 := wPL cI cB cO A r.2.2) (Wc := wPL cI cB cO A s) (pc := 1) (As := []) (st := []) C dL_loaded_1 ml_RL_36 mi_yX10_load (Q_load l hl D cI cB cL cO pf N A s r hr1) [] (by rw [List.append_nil]) at_this rfl rfl ⟨(Nat.le_of_ble_eq_true rfl), (Nat.le_of_ble_eq_true rfl)⟩ ⟨(Nat.le_of_ble_eq_true rfl), (Nat.le_of_ble_eq_true rfl)⟩ (Nat.le_of_ble_eq_true rfl) (fun h0 => ?_) (fun h0 => ?_)
  · rw [if_pos h0] at hK
    have hK := Option.some.inj hK
    subst hK
    refine J_ws (ws2 := wPL cI cB cO A r.2.2) (List.append_nil _) ?_
    refine J_widen (k2 := 1) (n2 := 6) (Nat.le_of_ble_eq_true rfl) (Nat.le_of_ble_eq_true rfl) ?_
    exact J_iret (pc := 4) C dL_loaded_4 hr ⟨rfl, rfl⟩
  · rw [if_neg h0] at hK
    by_cases h0 : r.1 = 2
    · rw [if_pos h0] at hK
      have hK := Option.some.inj hK
      subst hK
      refine ⟨[], [], ⟨0, 4, 5, 39⟩, "java/lang/IllegalArgumentException", ht, (fun z hz => by cases hz), rfl, Nat.succ_ne_zero _, cl_L_39, (by rw [h0]; exact ca_of C.2.2.2.2.2.2.2.2 (by decide)), fun q => ?_⟩
      refine J_ws (ws2 := wPL cI cB cO A r.2.2) (List.append_nil _) ?_
      refine J_astore_n (lv2 := [(1, .ref q), (0, .ref (A 0 0))]) (pc := 5) C dL_loaded_5 (by decide) rfl ?_
      refine J_iconst (v := (-1 : Int32)) (pc := 6) C dL_loaded_6 (by decide) ?_
      refine J_widen (k2 := 1) (n2 := 6) (Nat.le_of_ble_eq_true rfl) (Nat.le_of_ble_eq_true rfl) ?_
      exact J_iret (pc := 7) C dL_loaded_7 hr ⟨rfl, rfl⟩
    rw [if_neg h0] at hK
    cases hK
theorem dL_refunded_0 : decode cL_refunded 0 = .ok (.aload_n 0, 1) := by decide +kernel
theorem dL_refunded_1 : decode cL_refunded 1 = .ok (.iload_n 1, 1) := by decide +kernel
theorem dL_refunded_2 : decode cL_refunded 2 = .ok (.invokevirtual 132, 3) := by decide +kernel
theorem dL_refunded_5 : decode cL_refunded 5 = .ok (.ireturn, 1) := by decide +kernel
theorem dL_refunded_6 : decode cL_refunded 6 = .ok (.astore_n 2, 1) := by decide +kernel
theorem dL_refunded_7 : decode cL_refunded 7 = .ok (.iconst (-1), 1) := by decide +kernel
theorem dL_refunded_8 : decode cL_refunded 8 = .ok (.ireturn, 1) := by decide +kernel
theorem dL_refunded_9 : decode cL_refunded 9 = .ok (.astore_n 2, 1) := by decide +kernel
theorem dL_refunded_10 : decode cL_refunded 10 = .ok (.bipush (-2), 2) := by decide +kernel
theorem dL_refunded_12 : decode cL_refunded 12 = .ok (.ireturn, 1) := by decide +kernel
set_option maxHeartbeats 4000000 in
set_option maxRecDepth 100000 in
theorem V_refunded (l : Launch) (hl : l.stackTraces = false) (D : va_G) (cI cB cL cO : ClassId) (pf : Nat → Nat) (N : Nat) (A : Nat → Nat → Nat) (s : T_PL) (x1 : Int32) (o : Int32 × T_PL) (h : H_refunded N s x1 = some o) : CtH l D [(cI, .int), (cB, .byte), (cL, .byte), (cO, .object RX0)] pf yL_refunded cL_refunded 3 (some FieldType.int) [(0, 5, 6, 135), (0, 5, 9, 14)] { frames := 9, cells := 2, slots := 12, locals := 203 } [.ref (A 0 0), .int x1] (wPL cI cB cO A s) (is1 (some (.int o.1)) (wPL cI cB cO A o.2)) := by
  refine CtH_of (own := RL) (lv0 := [(0, .ref (A 0 0)), (1, .int x1)]) (by decide) rfl rfl (Nat.le_of_ble_eq_true rfl) ?_
  intro p e s' m args below meth c C hr ht
  obtain ⟨r, hr1, hK⟩ := Option.bind_eq_some_iff.mp h
  refine J_aload_n (pc := 0) C dL_refunded_0 0 rfl ?_
  refine J_iload_n (pc := 1) C dL_refunded_1 1 rfl ?_
  refine J_xvH (o9 := r.1) (V := some (.int r.2.1)) (W1 := wPL cI cB cO A r.2.2) (Wc := wPL cI cB cO A s) (pc := 2) (As := [.int x1]) (st := []) C dL_refunded_2 ml_RL_132 mi_yX10_refund (Q_refund l hl D cI cB cL cO pf N A s x1 r hr1) [] (by rw [List.append_nil]) at_this rfl rfl ⟨(Nat.le_of_ble_eq_true rfl), (Nat.le_of_ble_eq_true rfl)⟩ ⟨(Nat.le_of_ble_eq_true rfl), (Nat.le_of_ble_eq_true rfl)⟩ (Nat.le_of_ble_eq_true rfl) (fun h0 => ?_) (fun h0 => ?_)
  · rw [if_pos h0] at hK
    have hK := Option.some.inj hK
    subst hK
    refine J_ws (ws2 := wPL cI cB cO A r.2.2) (List.append_nil _) ?_
    refine J_widen (k2 := 2) (n2 := 12) (Nat.le_of_ble_eq_true rfl) (Nat.le_of_ble_eq_true rfl) ?_
    exact J_iret (pc := 5) C dL_refunded_5 hr ⟨rfl, rfl⟩
  · rw [if_neg h0] at hK
    by_cases h0 : r.1 = 3
    · rw [if_pos h0] at hK
      have hK := Option.some.inj hK
      subst hK
      refine ⟨[], [⟨0, 5, 9, 14⟩], ⟨0, 5, 6, 135⟩, "java/util/NoSuchElementException", ht, (fun z hz => by cases hz), rfl, Nat.succ_ne_zero _, cl_L_135, (by rw [h0]; exact ca_of C.2.2.2.2.2.2.2.2 (by decide)), fun q => ?_⟩
      refine J_ws (ws2 := wPL cI cB cO A r.2.2) (List.append_nil _) ?_
      refine J_astore_n (lv2 := [(2, .ref q), (0, .ref (A 0 0)), (1, .int x1)]) (pc := 6) C dL_refunded_6 (by decide) rfl ?_
      refine J_iconst (v := (-1 : Int32)) (pc := 7) C dL_refunded_7 (by decide) ?_
      refine J_widen (k2 := 2) (n2 := 12) (Nat.le_of_ble_eq_true rfl) (Nat.le_of_ble_eq_true rfl) ?_
      exact J_iret (pc := 8) C dL_refunded_8 hr ⟨rfl, rfl⟩
    rw [if_neg h0] at hK
    by_cases h1 : r.1 = 1
    · rw [if_pos h1] at hK
      have hK := Option.some.inj hK
      subst hK
      refine ⟨[⟨0, 5, 6, 135⟩], [], ⟨0, 5, 9, 14⟩, "java/lang/IllegalStateException", ht, (fun z hz => by
          rcases List.mem_cons.mp hz with rfl | hz
          · exact ⟨Nat.succ_ne_zero _, "java/util/NoSuchElementException", cl_L_135, (by rw [h1]; exact nc_of C.2.2.2.2.2.2.2.2 (by decide))⟩
          cases hz), rfl, Nat.succ_ne_zero _, cl_L_14, (by rw [h1]; exact ca_of C.2.2.2.2.2.2.2.2 (by decide)), fun q => ?_⟩
      refine J_ws (ws2 := wPL cI cB cO A r.2.2) (List.append_nil _) ?_
      refine J_astore_n (lv2 := [(2, .ref q), (0, .ref (A 0 0)), (1, .int x1)]) (pc := 9) C dL_refunded_9 (by decide) rfl ?_
      refine J_bipush (v := (-2 : Int32)) (pc := 10) C dL_refunded_10 (by decide) ?_
      refine J_widen (k2 := 2) (n2 := 12) (Nat.le_of_ble_eq_true rfl) (Nat.le_of_ble_eq_true rfl) ?_
      exact J_iret (pc := 12) C dL_refunded_12 hr ⟨rfl, rfl⟩
    rw [if_neg h1] at hK
    cases hK
theorem dL_redeemed_0 : decode cL_redeemed 0 = .ok (.aload_n 0, 1) := by decide +kernel
theorem dL_redeemed_1 : decode cL_redeemed 1 = .ok (.iload_n 1, 1) := by decide +kernel
theorem dL_redeemed_2 : decode cL_redeemed 2 = .ok (.iload_n 2, 1) := by decide +kernel
theorem dL_redeemed_3 : decode cL_redeemed 3 = .ok (.invokevirtual 137, 3) := by decide +kernel
theorem dL_redeemed_6 : decode cL_redeemed 6 = .ok (.ireturn, 1) := by decide +kernel
theorem dL_redeemed_7 : decode cL_redeemed 7 = .ok (.astore_n 3, 1) := by decide +kernel
theorem dL_redeemed_8 : decode cL_redeemed 8 = .ok (.iconst (-1), 1) := by decide +kernel
theorem dL_redeemed_9 : decode cL_redeemed 9 = .ok (.ireturn, 1) := by decide +kernel
theorem dL_redeemed_10 : decode cL_redeemed 10 = .ok (.astore_n 3, 1) := by decide +kernel
theorem dL_redeemed_11 : decode cL_redeemed 11 = .ok (.bipush (-2), 2) := by decide +kernel
theorem dL_redeemed_13 : decode cL_redeemed 13 = .ok (.ireturn, 1) := by decide +kernel
set_option maxHeartbeats 4000000 in
set_option maxRecDepth 100000 in
theorem V_redeemed (l : Launch) (hl : l.stackTraces = false) (D : va_G) (cI cB cL cO : ClassId) (pf : Nat → Nat) (N : Nat) (A : Nat → Nat → Nat) (s : T_PL) (x1 : Int32) (x2 : Int32) (o : Int32 × T_PL) (h : H_redeemed N s x1 x2 = some o) : CtH l D [(cI, .int), (cB, .byte), (cL, .byte), (cO, .object RX0)] pf yL_redeemed cL_redeemed 4 (some FieldType.int) [(0, 6, 7, 39), (0, 6, 10, 14)] { frames := 9, cells := 3, slots := 18, locals := 202 } [.ref (A 0 0), .int x1, .int x2] (wPL cI cB cO A s) (is1 (some (.int o.1)) (wPL cI cB cO A o.2)) := by
  refine CtH_of (own := RL) (lv0 := [(0, .ref (A 0 0)), (1, .int x1), (2, .int x2)]) (by decide) rfl rfl (Nat.le_of_ble_eq_true rfl) ?_
  intro p e s' m args below meth c C hr ht
  obtain ⟨r, hr1, hK⟩ := Option.bind_eq_some_iff.mp h
  refine J_aload_n (pc := 0) C dL_redeemed_0 0 rfl ?_
  refine J_iload_n (pc := 1) C dL_redeemed_1 1 rfl ?_
  refine J_iload_n (pc := 2) C dL_redeemed_2 2 rfl ?_
  refine J_xvH (o9 := r.1) (V := some (.int r.2.1)) (W1 := wPL cI cB cO A r.2.2) (Wc := wPL cI cB cO A s) (pc := 3) (As := [.int x1, .int x2]) (st := []) C dL_redeemed_3 ml_RL_137 mi_yX10_redeem (Q_redeem l hl D cI cB cL cO pf N A s x1 x2 r hr1) [] (by rw [List.append_nil]) at_this rfl rfl ⟨(Nat.le_of_ble_eq_true rfl), (Nat.le_of_ble_eq_true rfl)⟩ ⟨(Nat.le_of_ble_eq_true rfl), (Nat.le_of_ble_eq_true rfl)⟩ (Nat.le_of_ble_eq_true rfl) (fun h0 => ?_) (fun h0 => ?_)
  · rw [if_pos h0] at hK
    have hK := Option.some.inj hK
    subst hK
    refine J_ws (ws2 := wPL cI cB cO A r.2.2) (List.append_nil _) ?_
    refine J_widen (k2 := 3) (n2 := 18) (Nat.le_of_ble_eq_true rfl) (Nat.le_of_ble_eq_true rfl) ?_
    exact J_iret (pc := 6) C dL_redeemed_6 hr ⟨rfl, rfl⟩
  · rw [if_neg h0] at hK
    by_cases h0 : r.1 = 2
    · rw [if_pos h0] at hK
      have hK := Option.some.inj hK
      subst hK
      refine ⟨[], [⟨0, 6, 10, 14⟩], ⟨0, 6, 7, 39⟩, "java/lang/IllegalArgumentException", ht, (fun z hz => by cases hz), rfl, Nat.succ_ne_zero _, cl_L_39, (by rw [h0]; exact ca_of C.2.2.2.2.2.2.2.2 (by decide)), fun q => ?_⟩
      refine J_ws (ws2 := wPL cI cB cO A r.2.2) (List.append_nil _) ?_
      refine J_astore_n (lv2 := [(3, .ref q), (0, .ref (A 0 0)), (1, .int x1), (2, .int x2)]) (pc := 7) C dL_redeemed_7 (by decide) rfl ?_
      refine J_iconst (v := (-1 : Int32)) (pc := 8) C dL_redeemed_8 (by decide) ?_
      refine J_widen (k2 := 3) (n2 := 18) (Nat.le_of_ble_eq_true rfl) (Nat.le_of_ble_eq_true rfl) ?_
      exact J_iret (pc := 9) C dL_redeemed_9 hr ⟨rfl, rfl⟩
    rw [if_neg h0] at hK
    by_cases h1 : r.1 = 1
    · rw [if_pos h1] at hK
      have hK := Option.some.inj hK
      subst hK
      refine ⟨[⟨0, 6, 7, 39⟩], [], ⟨0, 6, 10, 14⟩, "java/lang/IllegalStateException", ht, (fun z hz => by
          rcases List.mem_cons.mp hz with rfl | hz
          · exact ⟨Nat.succ_ne_zero _, "java/lang/IllegalArgumentException", cl_L_39, (by rw [h1]; exact nc_of C.2.2.2.2.2.2.2.2 (by decide))⟩
          cases hz), rfl, Nat.succ_ne_zero _, cl_L_14, (by rw [h1]; exact ca_of C.2.2.2.2.2.2.2.2 (by decide)), fun q => ?_⟩
      refine J_ws (ws2 := wPL cI cB cO A r.2.2) (List.append_nil _) ?_
      refine J_astore_n (lv2 := [(3, .ref q), (0, .ref (A 0 0)), (1, .int x1), (2, .int x2)]) (pc := 10) C dL_redeemed_10 (by decide) rfl ?_
      refine J_bipush (v := (-2 : Int32)) (pc := 11) C dL_redeemed_11 (by decide) ?_
      refine J_widen (k2 := 3) (n2 := 18) (Nat.le_of_ble_eq_true rfl) (Nat.le_of_ble_eq_true rfl) ?_
      exact J_iret (pc := 13) C dL_redeemed_13 hr ⟨rfl, rfl⟩
    rw [if_neg h1] at hK
    cases hK
theorem dL_transferred_0 : decode cL_transferred 0 = .ok (.aload_n 0, 1) := by decide +kernel
theorem dL_transferred_1 : decode cL_transferred 1 = .ok (.iload_n 1, 1) := by decide +kernel
theorem dL_transferred_2 : decode cL_transferred 2 = .ok (.iload_n 2, 1) := by decide +kernel
theorem dL_transferred_3 : decode cL_transferred 3 = .ok (.iload_n 3, 1) := by decide +kernel
theorem dL_transferred_4 : decode cL_transferred 4 = .ok (.invokevirtual 140, 3) := by decide +kernel
theorem dL_transferred_7 : decode cL_transferred 7 = .ok (.ireturn, 1) := by decide +kernel
theorem dL_transferred_8 : decode cL_transferred 8 = .ok (.astore 4, 2) := by decide +kernel
theorem dL_transferred_10 : decode cL_transferred 10 = .ok (.iconst (-1), 1) := by decide +kernel
theorem dL_transferred_11 : decode cL_transferred 11 = .ok (.ireturn, 1) := by decide +kernel
theorem dL_transferred_12 : decode cL_transferred 12 = .ok (.astore 4, 2) := by decide +kernel
theorem dL_transferred_14 : decode cL_transferred 14 = .ok (.bipush (-2), 2) := by decide +kernel
theorem dL_transferred_16 : decode cL_transferred 16 = .ok (.ireturn, 1) := by decide +kernel
set_option maxHeartbeats 4000000 in
set_option maxRecDepth 100000 in
theorem V_transferred (l : Launch) (hl : l.stackTraces = false) (D : va_G) (cI cB cL cO : ClassId) (pf : Nat → Nat) (N : Nat) (A : Nat → Nat → Nat) (s : T_PL) (x1 : Int32) (x2 : Int32) (x3 : Int32) (o : Int32 × T_PL) (h : H_transferred N s x1 x2 x3 = some o) : CtH l D [(cI, .int), (cB, .byte), (cL, .byte), (cO, .object RX0)] pf yL_transferred cL_transferred 5 (some FieldType.int) [(0, 7, 8, 39), (0, 7, 12, 14)] { frames := 9, cells := 4, slots := 24, locals := 208 } [.ref (A 0 0), .int x1, .int x2, .int x3] (wPL cI cB cO A s) (is1 (some (.int o.1)) (wPL cI cB cO A o.2)) := by
  refine CtH_of (own := RL) (lv0 := [(0, .ref (A 0 0)), (1, .int x1), (2, .int x2), (3, .int x3)]) (by decide) rfl rfl (Nat.le_of_ble_eq_true rfl) ?_
  intro p e s' m args below meth c C hr ht
  obtain ⟨r, hr1, hK⟩ := Option.bind_eq_some_iff.mp h
  refine J_aload_n (pc := 0) C dL_transferred_0 0 rfl ?_
  refine J_iload_n (pc := 1) C dL_transferred_1 1 rfl ?_
  refine J_iload_n (pc := 2) C dL_transferred_2 2 rfl ?_
  refine J_iload_n (pc := 3) C dL_transferred_3 3 rfl ?_
  refine J_xvH (o9 := r.1) (V := some (.int r.2.1)) (W1 := wPL cI cB cO A r.2.2) (Wc := wPL cI cB cO A s) (pc := 4) (As := [.int x1, .int x2, .int x3]) (st := []) C dL_transferred_4 ml_RL_140 mi_yX10_transfer (Q_transfer l hl D cI cB cL cO pf N A s x1 x2 x3 r hr1) [] (by rw [List.append_nil]) at_this rfl rfl ⟨(Nat.le_of_ble_eq_true rfl), (Nat.le_of_ble_eq_true rfl)⟩ ⟨(Nat.le_of_ble_eq_true rfl), (Nat.le_of_ble_eq_true rfl)⟩ (Nat.le_of_ble_eq_true rfl) (fun h0 => ?_) (fun h0 => ?_)
  · rw [if_pos h0] at hK
    have hK := Option.some.inj hK
    subst hK
    refine J_ws (ws2 := wPL cI cB cO A r.2.2) (List.append_nil _) ?_
    refine J_widen (k2 := 4) (n2 := 24) (Nat.le_of_ble_eq_true rfl) (Nat.le_of_ble_eq_true rfl) ?_
    exact J_iret (pc := 7) C dL_transferred_7 hr ⟨rfl, rfl⟩
  · rw [if_neg h0] at hK
    by_cases h0 : r.1 = 2
    · rw [if_pos h0] at hK
      have hK := Option.some.inj hK
      subst hK
      refine ⟨[], [⟨0, 7, 12, 14⟩], ⟨0, 7, 8, 39⟩, "java/lang/IllegalArgumentException", ht, (fun z hz => by cases hz), rfl, Nat.succ_ne_zero _, cl_L_39, (by rw [h0]; exact ca_of C.2.2.2.2.2.2.2.2 (by decide)), fun q => ?_⟩
      refine J_ws (ws2 := wPL cI cB cO A r.2.2) (List.append_nil _) ?_
      refine J_astore (lv2 := [(4, .ref q), (0, .ref (A 0 0)), (1, .int x1), (2, .int x2), (3, .int x3)]) (pc := 8) C dL_transferred_8 (by decide) rfl ?_
      refine J_iconst (v := (-1 : Int32)) (pc := 10) C dL_transferred_10 (by decide) ?_
      refine J_widen (k2 := 4) (n2 := 24) (Nat.le_of_ble_eq_true rfl) (Nat.le_of_ble_eq_true rfl) ?_
      exact J_iret (pc := 11) C dL_transferred_11 hr ⟨rfl, rfl⟩
    rw [if_neg h0] at hK
    by_cases h1 : r.1 = 1
    · rw [if_pos h1] at hK
      have hK := Option.some.inj hK
      subst hK
      refine ⟨[⟨0, 7, 8, 39⟩], [], ⟨0, 7, 12, 14⟩, "java/lang/IllegalStateException", ht, (fun z hz => by
          rcases List.mem_cons.mp hz with rfl | hz
          · exact ⟨Nat.succ_ne_zero _, "java/lang/IllegalArgumentException", cl_L_39, (by rw [h1]; exact nc_of C.2.2.2.2.2.2.2.2 (by decide))⟩
          cases hz), rfl, Nat.succ_ne_zero _, cl_L_14, (by rw [h1]; exact ca_of C.2.2.2.2.2.2.2.2 (by decide)), fun q => ?_⟩
      refine J_ws (ws2 := wPL cI cB cO A r.2.2) (List.append_nil _) ?_
      refine J_astore (lv2 := [(4, .ref q), (0, .ref (A 0 0)), (1, .int x1), (2, .int x2), (3, .int x3)]) (pc := 12) C dL_transferred_12 (by decide) rfl ?_
      refine J_bipush (v := (-2 : Int32)) (pc := 14) C dL_transferred_14 (by decide) ?_
      refine J_widen (k2 := 4) (n2 := 24) (Nat.le_of_ble_eq_true rfl) (Nat.le_of_ble_eq_true rfl) ?_
      exact J_iret (pc := 16) C dL_transferred_16 hr ⟨rfl, rfl⟩
    rw [if_neg h1] at hK
    cases hK
theorem dL_joined_0 : decode cL_joined 0 = .ok (.aload_n 0, 1) := by decide +kernel
theorem dL_joined_1 : decode cL_joined 1 = .ok (.iload_n 1, 1) := by decide +kernel
theorem dL_joined_2 : decode cL_joined 2 = .ok (.iconst 0, 1) := by decide +kernel
theorem dL_joined_3 : decode cL_joined 3 = .ok (.invokevirtual 144, 3) := by decide +kernel
theorem dL_joined_6 : decode cL_joined 6 = .ok (.ireturn, 1) := by decide +kernel
theorem dL_joined_7 : decode cL_joined 7 = .ok (.astore_n 2, 1) := by decide +kernel
theorem dL_joined_8 : decode cL_joined 8 = .ok (.iconst (-1), 1) := by decide +kernel
theorem dL_joined_9 : decode cL_joined 9 = .ok (.ireturn, 1) := by decide +kernel
set_option maxHeartbeats 4000000 in
set_option maxRecDepth 100000 in
theorem V_joined (l : Launch) (hl : l.stackTraces = false) (D : va_G) (cI cB cL cO : ClassId) (pf : Nat → Nat) (N : Nat) (A : Nat → Nat → Nat) (s : T_PL) (x1 : Int32) (o : Int32 × T_PL) (h : H_joined N s x1 = some o) : CtH l D [(cI, .int), (cB, .byte), (cL, .byte), (cO, .object RX0)] pf yL_joined cL_joined 3 (some FieldType.int) [(0, 6, 7, 14)] { frames := 9, cells := 3, slots := 18, locals := 190 } [.ref (A 0 0), .int x1] (wPL cI cB cO A s) (is1 (some (.int o.1)) (wPL cI cB cO A o.2)) := by
  refine CtH_of (own := RL) (lv0 := [(0, .ref (A 0 0)), (1, .int x1)]) (by decide) rfl rfl (Nat.le_of_ble_eq_true rfl) ?_
  intro p e s' m args below meth c C hr ht
  obtain ⟨r, hr1, hK⟩ := Option.bind_eq_some_iff.mp h
  refine J_aload_n (pc := 0) C dL_joined_0 0 rfl ?_
  refine J_iload_n (pc := 1) C dL_joined_1 1 rfl ?_
  refine J_iconst (v := (0 : Int32)) (pc := 2) C dL_joined_2 (by decide) ?_
  refine J_xvH (o9 := r.1) (V := some (.int r.2.1)) (W1 := wPL cI cB cO A r.2.2) (Wc := wPL cI cB cO A s) (pc := 3) (As := [.int x1, .int (0 : Int32)]) (st := []) C dL_joined_3 ml_RL_144 mi_yX10_join (Q_join l hl D cI cB cL cO pf N A s x1 (0 : Int32) r hr1) [] (by rw [List.append_nil]) at_this rfl rfl ⟨(Nat.le_of_ble_eq_true rfl), (Nat.le_of_ble_eq_true rfl)⟩ ⟨(Nat.le_of_ble_eq_true rfl), (Nat.le_of_ble_eq_true rfl)⟩ (Nat.le_of_ble_eq_true rfl) (fun h0 => ?_) (fun h0 => ?_)
  · rw [if_pos h0] at hK
    have hK := Option.some.inj hK
    subst hK
    refine J_ws (ws2 := wPL cI cB cO A r.2.2) (List.append_nil _) ?_
    refine J_widen (k2 := 3) (n2 := 18) (Nat.le_of_ble_eq_true rfl) (Nat.le_of_ble_eq_true rfl) ?_
    exact J_iret (pc := 6) C dL_joined_6 hr ⟨rfl, rfl⟩
  · rw [if_neg h0] at hK
    by_cases h0 : r.1 = 1
    · rw [if_pos h0] at hK
      have hK := Option.some.inj hK
      subst hK
      refine ⟨[], [], ⟨0, 6, 7, 14⟩, "java/lang/IllegalStateException", ht, (fun z hz => by cases hz), rfl, Nat.succ_ne_zero _, cl_L_14, (by rw [h0]; exact ca_of C.2.2.2.2.2.2.2.2 (by decide)), fun q => ?_⟩
      refine J_ws (ws2 := wPL cI cB cO A r.2.2) (List.append_nil _) ?_
      refine J_astore_n (lv2 := [(2, .ref q), (0, .ref (A 0 0)), (1, .int x1)]) (pc := 7) C dL_joined_7 (by decide) rfl ?_
      refine J_iconst (v := (-1 : Int32)) (pc := 8) C dL_joined_8 (by decide) ?_
      refine J_widen (k2 := 3) (n2 := 18) (Nat.le_of_ble_eq_true rfl) (Nat.le_of_ble_eq_true rfl) ?_
      exact J_iret (pc := 9) C dL_joined_9 hr ⟨rfl, rfl⟩
    rw [if_neg h0] at hK
    cases hK
theorem dL_left_0 : decode cL_left 0 = .ok (.aload_n 0, 1) := by decide +kernel
theorem dL_left_1 : decode cL_left 1 = .ok (.iload_n 1, 1) := by decide +kernel
theorem dL_left_2 : decode cL_left 2 = .ok (.invokevirtual 147, 3) := by decide +kernel
theorem dL_left_5 : decode cL_left 5 = .ok (.ireturn, 1) := by decide +kernel
theorem dL_left_6 : decode cL_left 6 = .ok (.astore_n 2, 1) := by decide +kernel
theorem dL_left_7 : decode cL_left 7 = .ok (.iconst (-1), 1) := by decide +kernel
theorem dL_left_8 : decode cL_left 8 = .ok (.ireturn, 1) := by decide +kernel
set_option maxHeartbeats 4000000 in
set_option maxRecDepth 100000 in
theorem V_left (l : Launch) (hl : l.stackTraces = false) (D : va_G) (cI cB cL cO : ClassId) (pf : Nat → Nat) (N : Nat) (A : Nat → Nat → Nat) (s : T_PL) (x1 : Int32) (o : Int32 × T_PL) (h : H_left N s x1 = some o) : CtH l D [(cI, .int), (cB, .byte), (cL, .byte), (cO, .object RX0)] pf yL_left cL_left 3 (some FieldType.int) [(0, 5, 6, 14)] { frames := 9, cells := 2, slots := 12, locals := 204 } [.ref (A 0 0), .int x1] (wPL cI cB cO A s) (is1 (some (.int o.1)) (wPL cI cB cO A o.2)) := by
  refine CtH_of (own := RL) (lv0 := [(0, .ref (A 0 0)), (1, .int x1)]) (by decide) rfl rfl (Nat.le_of_ble_eq_true rfl) ?_
  intro p e s' m args below meth c C hr ht
  obtain ⟨r, hr1, hK⟩ := Option.bind_eq_some_iff.mp h
  refine J_aload_n (pc := 0) C dL_left_0 0 rfl ?_
  refine J_iload_n (pc := 1) C dL_left_1 1 rfl ?_
  refine J_xvH (o9 := r.1) (V := some (.int r.2.1)) (W1 := wPL cI cB cO A r.2.2) (Wc := wPL cI cB cO A s) (pc := 2) (As := [.int x1]) (st := []) C dL_left_2 ml_RL_147 mi_yX10_leave (Q_leave l hl D cI cB cL cO pf N A s x1 r hr1) [] (by rw [List.append_nil]) at_this rfl rfl ⟨(Nat.le_of_ble_eq_true rfl), (Nat.le_of_ble_eq_true rfl)⟩ ⟨(Nat.le_of_ble_eq_true rfl), (Nat.le_of_ble_eq_true rfl)⟩ (Nat.le_of_ble_eq_true rfl) (fun h0 => ?_) (fun h0 => ?_)
  · rw [if_pos h0] at hK
    have hK := Option.some.inj hK
    subst hK
    refine J_ws (ws2 := wPL cI cB cO A r.2.2) (List.append_nil _) ?_
    refine J_widen (k2 := 2) (n2 := 12) (Nat.le_of_ble_eq_true rfl) (Nat.le_of_ble_eq_true rfl) ?_
    exact J_iret (pc := 5) C dL_left_5 hr ⟨rfl, rfl⟩
  · rw [if_neg h0] at hK
    by_cases h0 : r.1 = 1
    · rw [if_pos h0] at hK
      have hK := Option.some.inj hK
      subst hK
      refine ⟨[], [], ⟨0, 5, 6, 14⟩, "java/lang/IllegalStateException", ht, (fun z hz => by cases hz), rfl, Nat.succ_ne_zero _, cl_L_14, (by rw [h0]; exact ca_of C.2.2.2.2.2.2.2.2 (by decide)), fun q => ?_⟩
      refine J_ws (ws2 := wPL cI cB cO A r.2.2) (List.append_nil _) ?_
      refine J_astore_n (lv2 := [(2, .ref q), (0, .ref (A 0 0)), (1, .int x1)]) (pc := 6) C dL_left_6 (by decide) rfl ?_
      refine J_iconst (v := (-1 : Int32)) (pc := 7) C dL_left_7 (by decide) ?_
      refine J_widen (k2 := 2) (n2 := 12) (Nat.le_of_ble_eq_true rfl) (Nat.le_of_ble_eq_true rfl) ?_
      exact J_iret (pc := 8) C dL_left_8 hr ⟨rfl, rfl⟩
    rw [if_neg h0] at hK
    cases hK
