theorem xr {P : Prop} {fx : Option Nat} {X : Option (Nat × Int32 × T_PL)} {s s2 : T_PL} {a : Int32} (h : (fx.bind fun r => if r = 0 then X else some (r, 0, s)) = some (0, a, s2)) (kk : fx = some 0 → X = some (0, a, s2) → P) : P := by
  obtain ⟨r, h1, h2⟩ := Option.bind_eq_some_iff.mp h
  by_cases h0 : r = 0
  · rw [if_pos h0] at h2
    exact kk (by rw [h1, h0]) h2
  · rw [if_neg h0] at h2
    exact absurd (congrArg (fun q => q.1) (Option.some.inj h2)) h0
section J9r
variable {p : Program} {l : Launch} {e : Env} {R : Room} {s : State} {m : MethodId} {args : Array Value} {below : List Frame} {meth : Method} {c : Code} {cc : ByteArray} {nL : Nat} {own : String} {D : va_G} {ty : List (ClassId × FieldType)} {pf : Nat → Nat} {A : Nat → Prop} {Q : State → Prop} {k n : Nat} {pc : Nat} {lv : List (Nat × Value)} {st : List Value} {ws : va_W} {α : Type} {o : α}
theorem J_csK (C : jC p s m args meth c cc nL own D ty pf A) {y : MethodName} {bytes : ByteArray} {maxL : Nat} {ret : Option FieldType} {rm : Room} {na index : Nat} {b : Nat} {As : List Value} {V : Option Value} (ws2 : va_W) (d : decode cc pc = .ok (.invokestatic index, 3)) (w : Cond.methodLink own index y ∈ BIG) (hM : jMs y bytes maxL ret na) (hc : Ct l D ty pf y bytes maxL ret rm As ws (is1 V ws2)) (hna : As.length = na) (hz : rm.cells = 0 ∧ rm.slots = 0) (hR : rm.frames + 1 ≤ R.frames ∧ 8 + (maxL + 11) + rm.locals ≤ R.locals) (hkn : k ≤ R.cells ∧ n ≤ R.slots) (hW : (st.map fun v => v.category).sum ≤ 8) (kk : J p l e R s m args below meth c nL D A Q (k) (n) (pc + 3) (lv) (V.toList ++ st) (ws2)) : J p l e R s m args below meth c nL D A Q (k) (n) (pc) (lv) (As.reverse ++ st) (ws) :=
  J_csL (b := b) (α := Unit) (o := ()) (fx := some ()) (K := fun _ => some ()) (V := fun _ => V) C (fun _ => ws2) d w hM (fun _ _ => hc) rfl hna hz hR hkn hW (fun _ _ => kk)
end J9r
set_option maxHeartbeats 4000000 in
set_option maxRecDepth 100000 in
theorem R_needMember (l : Launch) (D : va_G) (cI cB cL cO : ClassId) (pf : Nat → Nat) (N : Nat) (A : Nat → Nat → Nat) (s : T_PL) (x1 : Int32) (h : P_needMember N s x1 = some 0) : Ct l D [(cI, .int), (cB, .byte), (cL, .byte), (cO, .object RX0)] pf yX10_needMember cX10_needMember 2 (none : Option FieldType) { frames := 7, cells := 0, slots := 0, locals := 130 } [.ref (A 0 0), .int x1] (wPL cI cB cO A s) (is1 none (wPL cI cB cO A s)) := by
  refine Ct_of (own := RX10) (lv0 := [(0, .ref (A 0 0)), (1, .int x1)]) (by decide) rfl rfl (Nat.le_of_ble_eq_true rfl) ?_
  intro p e s' m args below meth c C hr hnm
  unfold P_needMember at h
  refine J_iload_n (pc := 0) C dX10_needMember_0 1 rfl ?_
  refine J_if_lt (pc := 1) (tgt := 16) C dX10_needMember_1 (by decide) h (fun h => ?_) (fun h => ?_)
  · exact absurd h (by simp)
  · refine J_iload_n (pc := 4) C dX10_needMember_4 1 rfl ?_
    refine J_aload_n (pc := 5) C dX10_needMember_5 0 rfl ?_
    refine J_get (pc := 6) C dX10_needMember_6 jf_X10 0 at_this rfl 1 (by decide) rfl fl_RX10_19 rfl ?_
    refine J_iconst (v := (3 : Int32)) (pc := 9) C dX10_needMember_9 (by decide) ?_
    refine J_cvL (pc := 10) (As := [.int (3 : Int32)]) (st := [.int x1]) (V := fun r10 => some (.int r10)) C (fun r10 => (wPL cI cB cO A s)) dX10_needMember_10 ml_RX10_101 mi_yX7_count (fun r hr => L_S_count l D cI cB cL cO pf N A s (3 : Int32) r hr) h at_setup rfl rfl ⟨rfl, rfl⟩ ⟨(Nat.le_of_ble_eq_true rfl), (Nat.le_of_ble_eq_true rfl)⟩ ⟨(Nat.le_of_ble_eq_true rfl), (Nat.le_of_ble_eq_true rfl)⟩ (Nat.le_of_ble_eq_true rfl) (fun r10 h => ?_)
    refine J_ic_lt (pc := 13) (tgt := 27) C dX10_needMember_13 (by decide) h (fun h => ?_) (fun h => ?_)
    · cases h
      exact J_vret (pc := 27) C dX10_needMember_27 hr ⟨rfl, rfl⟩
    · exact absurd h (by simp)
set_option maxHeartbeats 4000000 in
set_option maxRecDepth 100000 in
theorem R_needCategory (l : Launch) (D : va_G) (cI cB cL cO : ClassId) (pf : Nat → Nat) (N : Nat) (A : Nat → Nat → Nat) (s : T_PL) (x1 : Int32) (h : P_needCategory N s x1 = some 0) : Ct l D [(cI, .int), (cB, .byte), (cL, .byte), (cO, .object RX0)] pf yX10_needCategory cX10_needCategory 2 (none : Option FieldType) { frames := 7, cells := 0, slots := 0, locals := 130 } [.ref (A 0 0), .int x1] (wPL cI cB cO A s) (is1 none (wPL cI cB cO A s)) := by
  refine Ct_of (own := RX10) (lv0 := [(0, .ref (A 0 0)), (1, .int x1)]) (by decide) rfl rfl (Nat.le_of_ble_eq_true rfl) ?_
  intro p e s' m args below meth c C hr hnm
  unfold P_needCategory at h
  refine J_iload_n (pc := 0) C dX10_needCategory_0 1 rfl ?_
  refine J_if_lt (pc := 1) (tgt := 16) C dX10_needCategory_1 (by decide) h (fun h => ?_) (fun h => ?_)
  · exact absurd h (by simp)
  · refine J_iload_n (pc := 4) C dX10_needCategory_4 1 rfl ?_
    refine J_aload_n (pc := 5) C dX10_needCategory_5 0 rfl ?_
    refine J_get (pc := 6) C dX10_needCategory_6 jf_X10 0 at_this rfl 1 (by decide) rfl fl_RX10_19 rfl ?_
    refine J_iconst (v := (1 : Int32)) (pc := 9) C dX10_needCategory_9 (by decide) ?_
    refine J_cvL (pc := 10) (As := [.int (1 : Int32)]) (st := [.int x1]) (V := fun r10 => some (.int r10)) C (fun r10 => (wPL cI cB cO A s)) dX10_needCategory_10 ml_RX10_101 mi_yX7_count (fun r hr => L_S_count l D cI cB cL cO pf N A s (1 : Int32) r hr) h at_setup rfl rfl ⟨rfl, rfl⟩ ⟨(Nat.le_of_ble_eq_true rfl), (Nat.le_of_ble_eq_true rfl)⟩ ⟨(Nat.le_of_ble_eq_true rfl), (Nat.le_of_ble_eq_true rfl)⟩ (Nat.le_of_ble_eq_true rfl) (fun r10 h => ?_)
    refine J_ic_lt (pc := 13) (tgt := 27) C dX10_needCategory_13 (by decide) h (fun h => ?_) (fun h => ?_)
    · cases h
      exact J_vret (pc := 27) C dX10_needCategory_27 hr ⟨rfl, rfl⟩
    · exact absurd h (by simp)
set_option maxHeartbeats 4000000 in
set_option maxRecDepth 100000 in
theorem R_needHousehold (l : Launch) (D : va_G) (cI cB cL cO : ClassId) (pf : Nat → Nat) (N : Nat) (A : Nat → Nat → Nat) (s : T_PL) (x1 : Int32) (h : P_needHousehold N s x1 = some 0) : Ct l D [(cI, .int), (cB, .byte), (cL, .byte), (cO, .object RX0)] pf yX10_needHousehold cX10_needHousehold 2 (none : Option FieldType) { frames := 7, cells := 0, slots := 0, locals := 130 } [.ref (A 0 0), .int x1] (wPL cI cB cO A s) (is1 none (wPL cI cB cO A s)) := by
  refine Ct_of (own := RX10) (lv0 := [(0, .ref (A 0 0)), (1, .int x1)]) (by decide) rfl rfl (Nat.le_of_ble_eq_true rfl) ?_
  intro p e s' m args below meth c C hr hnm
  unfold P_needHousehold at h
  refine J_iload_n (pc := 0) C dX10_needHousehold_0 1 rfl ?_
  refine J_if_lt (pc := 1) (tgt := 16) C dX10_needHousehold_1 (by decide) h (fun h => ?_) (fun h => ?_)
  · exact absurd h (by simp)
  · refine J_iload_n (pc := 4) C dX10_needHousehold_4 1 rfl ?_
    refine J_aload_n (pc := 5) C dX10_needHousehold_5 0 rfl ?_
    refine J_get (pc := 6) C dX10_needHousehold_6 jf_X10 0 at_this rfl 1 (by decide) rfl fl_RX10_19 rfl ?_
    refine J_iconst (v := (4 : Int32)) (pc := 9) C dX10_needHousehold_9 (by decide) ?_
    refine J_cvL (pc := 10) (As := [.int (4 : Int32)]) (st := [.int x1]) (V := fun r10 => some (.int r10)) C (fun r10 => (wPL cI cB cO A s)) dX10_needHousehold_10 ml_RX10_101 mi_yX7_count (fun r hr => L_S_count l D cI cB cL cO pf N A s (4 : Int32) r hr) h at_setup rfl rfl ⟨rfl, rfl⟩ ⟨(Nat.le_of_ble_eq_true rfl), (Nat.le_of_ble_eq_true rfl)⟩ ⟨(Nat.le_of_ble_eq_true rfl), (Nat.le_of_ble_eq_true rfl)⟩ (Nat.le_of_ble_eq_true rfl) (fun r10 h => ?_)
    refine J_ic_lt (pc := 13) (tgt := 27) C dX10_needHousehold_13 (by decide) h (fun h => ?_) (fun h => ?_)
    · cases h
      exact J_vret (pc := 27) C dX10_needHousehold_27 hr ⟨rfl, rfl⟩
    · exact absurd h (by simp)
set_option maxHeartbeats 4000000 in
set_option maxRecDepth 100000 in
theorem R_needCohort (l : Launch) (D : va_G) (cI cB cL cO : ClassId) (pf : Nat → Nat) (N : Nat) (A : Nat → Nat → Nat) (s : T_PL) (x1 : Int32) (x2 : Int32) (h : P_needCohort N s x1 x2 = some 0) : Ct l D [(cI, .int), (cB, .byte), (cL, .byte), (cO, .object RX0)] pf yX10_needCohort cX10_needCohort 3 (none : Option FieldType) { frames := 7, cells := 0, slots := 0, locals := 130 } [.ref (A 0 0), .int x1, .int x2] (wPL cI cB cO A s) (is1 none (wPL cI cB cO A s)) := by
  refine Ct_of (own := RX10) (lv0 := [(0, .ref (A 0 0)), (1, .int x1), (2, .int x2)]) (by decide) rfl rfl (Nat.le_of_ble_eq_true rfl) ?_
  intro p e s' m args below meth c C hr hnm
  unfold P_needCohort at h
  refine J_iload_n (pc := 0) C dX10_needCohort_0 2 rfl ?_
  refine J_if_lt (pc := 1) (tgt := 19) C dX10_needCohort_1 (by decide) h (fun h => ?_) (fun h => ?_)
  · exact absurd h (by simp)
  · refine J_iload_n (pc := 4) C dX10_needCohort_4 2 rfl ?_
    refine J_aload_n (pc := 5) C dX10_needCohort_5 0 rfl ?_
    refine J_get (pc := 6) C dX10_needCohort_6 jf_X10 0 at_this rfl 4 (by decide) rfl fl_RX10_40 rfl ?_
    refine J_cvL (pc := 9) (As := []) (st := [.int x2]) (V := fun r9 => some (.ref (A 5 1))) C (fun r9 => (wPL cI cB cO A s)) dX10_needCohort_9 ml_RX10_161 mi_yX0_cohorts (fun r hr => L_B_cohorts l D cI cB cL cO pf N A s r hr) h at_books rfl rfl ⟨rfl, rfl⟩ ⟨(Nat.le_of_ble_eq_true rfl), (Nat.le_of_ble_eq_true rfl)⟩ ⟨(Nat.le_of_ble_eq_true rfl), (Nat.le_of_ble_eq_true rfl)⟩ (Nat.le_of_ble_eq_true rfl) (fun r9 h => ?_)
    refine J_iload_n (pc := 12) C dX10_needCohort_12 1 rfl ?_
    refine J_cvL (pc := 13) (As := [.int x1]) (st := [.int x2]) (V := fun r13 => some (.int r13)) C (fun r13 => (wPL cI cB cO A s)) dX10_needCohort_13 ml_RX10_229 mi_yX1_number (fun r hr => L_H_number l D cI cB cL cO pf N A s x1 r hr) h at_books_cohorts rfl rfl ⟨rfl, rfl⟩ ⟨(Nat.le_of_ble_eq_true rfl), (Nat.le_of_ble_eq_true rfl)⟩ ⟨(Nat.le_of_ble_eq_true rfl), (Nat.le_of_ble_eq_true rfl)⟩ (Nat.le_of_ble_eq_true rfl) (fun r13 h => ?_)
    refine J_ic_lt (pc := 16) (tgt := 30) C dX10_needCohort_16 (by decide) h (fun h => ?_) (fun h => ?_)
    · cases h
      exact J_vret (pc := 30) C dX10_needCohort_30 hr ⟨rfl, rfl⟩
    · exact absurd h (by simp)
set_option maxHeartbeats 4000000 in
set_option maxRecDepth 100000 in
theorem R_needKeptPurchase (l : Launch) (D : va_G) (cI cB cL cO : ClassId) (pf : Nat → Nat) (N : Nat) (A : Nat → Nat → Nat) (s : T_PL) (x1 : Int32) (h : P_needKeptPurchase N s x1 = some 0) : Ct l D [(cI, .int), (cB, .byte), (cL, .byte), (cO, .object RX0)] pf yX10_needKeptPurchase cX10_needKeptPurchase 2 (none : Option FieldType) { frames := 7, cells := 0, slots := 0, locals := 130 } [.ref (A 0 0), .int x1] (wPL cI cB cO A s) (is1 none (wPL cI cB cO A s)) := by
  refine Ct_of (own := RX10) (lv0 := [(0, .ref (A 0 0)), (1, .int x1)]) (by decide) rfl rfl (Nat.le_of_ble_eq_true rfl) ?_
  intro p e s' m args below meth c C hr hnm
  unfold P_needKeptPurchase at h
  refine J_aload_n (pc := 0) C dX10_needKeptPurchase_0 0 rfl ?_
  refine J_get (pc := 1) C dX10_needKeptPurchase_1 jf_X10 0 at_this rfl 4 (by decide) rfl fl_RX10_40 rfl ?_
  refine J_cvL (pc := 4) (As := []) (st := []) (V := fun r4 => some (.ref (A 5 10))) C (fun r4 => (wPL cI cB cO A s)) dX10_needKeptPurchase_4 ml_RX10_134 mi_yX0_purchases (fun r hr => L_B_purchases l D cI cB cL cO pf N A s r hr) h at_books rfl rfl ⟨rfl, rfl⟩ ⟨(Nat.le_of_ble_eq_true rfl), (Nat.le_of_ble_eq_true rfl)⟩ ⟨(Nat.le_of_ble_eq_true rfl), (Nat.le_of_ble_eq_true rfl)⟩ (Nat.le_of_ble_eq_true rfl) (fun r4 h => ?_)
  refine J_iload_n (pc := 7) C dX10_needKeptPurchase_7 1 rfl ?_
  refine J_cvL (pc := 8) (As := [.int x1]) (st := []) (V := fun r8 => some (.int r8)) C (fun r8 => (wPL cI cB cO A s)) dX10_needKeptPurchase_8 ml_RX10_330 mi_yX5_isKept (fun r hr => L_U_isKept l D cI cB cL cO pf N A s x1 r hr) h at_books_purchases rfl rfl ⟨rfl, rfl⟩ ⟨(Nat.le_of_ble_eq_true rfl), (Nat.le_of_ble_eq_true rfl)⟩ ⟨(Nat.le_of_ble_eq_true rfl), (Nat.le_of_ble_eq_true rfl)⟩ (Nat.le_of_ble_eq_true rfl) (fun r8 h => ?_)
  refine J_if_ne (pc := 11) (tgt := 25) C dX10_needKeptPurchase_11 (by decide) h (fun h => ?_) (fun h => ?_)
  · cases h
    exact J_vret (pc := 25) C dX10_needKeptPurchase_25 hr ⟨rfl, rfl⟩
  · exact absurd h (by simp)
set_option maxHeartbeats 4000000 in
set_option maxRecDepth 100000 in
theorem R_needBetween (l : Launch) (D : va_G) (cI cB cL cO : ClassId) (pf : Nat → Nat) (N : Nat) (A : Nat → Nat → Nat) (s : T_PL) (x0 : Int32) (x1 : Int32) (x2 : Int32) (h : P_needBetween N s x0 x1 x2 = some 0) : Ct l D [(cI, .int), (cB, .byte), (cL, .byte), (cO, .object RX0)] pf yX10_needBetween cX10_needBetween 3 (none : Option FieldType) { frames := 7, cells := 0, slots := 0, locals := 130 } [.int x0, .int x1, .int x2] (wPL cI cB cO A s) (is1 none (wPL cI cB cO A s)) := by
  refine Ct_of (own := RX10) (lv0 := [(0, .int x0), (1, .int x1), (2, .int x2)]) (by decide) rfl rfl (Nat.le_of_ble_eq_true rfl) ?_
  intro p e s' m args below meth c C hr hnm
  unfold P_needBetween at h
  refine J_iload_n (pc := 0) C dX10_needBetween_0 0 rfl ?_
  refine J_iload_n (pc := 1) C dX10_needBetween_1 1 rfl ?_
  refine J_ic_lt (pc := 2) (tgt := 10) C dX10_needBetween_2 (by decide) h (fun h => ?_) (fun h => ?_)
  · exact absurd h (by simp)
  · refine J_iload_n (pc := 5) C dX10_needBetween_5 0 rfl ?_
    refine J_iload_n (pc := 6) C dX10_needBetween_6 2 rfl ?_
    refine J_ic_le (pc := 7) (tgt := 21) C dX10_needBetween_7 (by decide) h (fun h => ?_) (fun h => ?_)
    · cases h
      exact J_vret (pc := 21) C dX10_needBetween_21 hr ⟨rfl, rfl⟩
    · exact absurd h (by simp)
set_option maxHeartbeats 4000000 in
set_option maxRecDepth 100000 in
theorem R_needAtLeastOne (l : Launch) (D : va_G) (cI cB cL cO : ClassId) (pf : Nat → Nat) (N : Nat) (A : Nat → Nat → Nat) (s : T_PL) (x0 : Int32) (h : P_needAtLeastOne N s x0 = some 0) : Ct l D [(cI, .int), (cB, .byte), (cL, .byte), (cO, .object RX0)] pf yX10_needAtLeastOne cX10_needAtLeastOne 1 (none : Option FieldType) { frames := 7, cells := 0, slots := 0, locals := 130 } [.int x0] (wPL cI cB cO A s) (is1 none (wPL cI cB cO A s)) := by
  refine Ct_of (own := RX10) (lv0 := [(0, .int x0)]) (by decide) rfl rfl (Nat.le_of_ble_eq_true rfl) ?_
  intro p e s' m args below meth c C hr hnm
  unfold P_needAtLeastOne at h
  refine J_iload_n (pc := 0) C dX10_needAtLeastOne_0 0 rfl ?_
  refine J_iconst (v := (1 : Int32)) (pc := 1) C dX10_needAtLeastOne_1 (by decide) ?_
  refine J_ic_ge (pc := 2) (tgt := 16) C dX10_needAtLeastOne_2 (by decide) h (fun h => ?_) (fun h => ?_)
  · cases h
    exact J_vret (pc := 16) C dX10_needAtLeastOne_16 hr ⟨rfl, rfl⟩
  · exact absurd h (by simp)
set_option maxHeartbeats 4000000 in
set_option maxRecDepth 100000 in
theorem R_append (l : Launch) (D : va_G) (cI cB cL cO : ClassId) (pf : Nat → Nat) (N : Nat) (A : Nat → Nat → Nat) (s : T_PL) (x1 : Int32) (x2 : Int32) (x3 : Int32) (x4 : Int32) (x5 : Int32) {a : Int32} {s2 : T_PL} (h : P_append N s x1 x2 x3 x4 x5 = some (0, a, s2)) : Ct l D [(cI, .int), (cB, .byte), (cL, .byte), (cO, .object RX0)] pf yX10_append cX10_append 7 (some FieldType.int) { frames := 7, cells := 0, slots := 0, locals := 130 } [.ref (A 0 0), .int x1, .int x2, .int x3, .int x4, .int x5] (wPL cI cB cO A s) (is1 (some (.int a)) (wPL cI cB cO A s2)) := by
  refine Ct_of (own := RX10) (lv0 := [(0, .ref (A 0 0)), (1, .int x1), (2, .int x2), (3, .int x3), (4, .int x4), (5, .int x5)]) (by decide) rfl rfl (Nat.le_of_ble_eq_true rfl) ?_
  intro p e s' m args below meth c C hr hnm
  unfold P_append at h
  refine J_iload_n (pc := 0) C dX10_append_0 1 rfl ?_
  refine J_csL (b := 0) (pc := 1) (As := [.int x1]) (st := []) (V := fun r1 => some (.int r1)) C (fun _ => (wPL cI cB cO A s)) dX10_append_1 ml_RX10_58 mi_yX3_bytesIn (fun r hr => L_bytesIn l D cI cB cL cO pf N A s x1 r hr) h rfl ⟨rfl, rfl⟩ ⟨(Nat.le_of_ble_eq_true rfl), (Nat.le_of_ble_eq_true rfl)⟩ ⟨(Nat.le_of_ble_eq_true rfl), (Nat.le_of_ble_eq_true rfl)⟩ (Nat.le_of_ble_eq_true rfl) (fun r1 h => ?_)
  refine J_iload_n (pc := 4) C dX10_append_4 2 rfl ?_
  refine J_csL (b := 0) (pc := 5) (As := [.int x2]) (st := [.int r1]) (V := fun r5 => some (.int r5)) C (fun _ => (wPL cI cB cO A s)) dX10_append_5 ml_RX10_58 mi_yX3_bytesIn (fun r hr => L_bytesIn l D cI cB cL cO pf N A s x2 r hr) h rfl ⟨rfl, rfl⟩ ⟨(Nat.le_of_ble_eq_true rfl), (Nat.le_of_ble_eq_true rfl)⟩ ⟨(Nat.le_of_ble_eq_true rfl), (Nat.le_of_ble_eq_true rfl)⟩ (Nat.le_of_ble_eq_true rfl) (fun r5 h => ?_)
  refine J_iadd (pc := 8) C dX10_append_8 ?_
  refine J_iload_n (pc := 9) C dX10_append_9 3 rfl ?_
  refine J_csL (b := 0) (pc := 10) (As := [.int x3]) (st := [.int (r1 + r5)]) (V := fun r10 => some (.int r10)) C (fun _ => (wPL cI cB cO A s)) dX10_append_10 ml_RX10_58 mi_yX3_bytesIn (fun r hr => L_bytesIn l D cI cB cL cO pf N A s x3 r hr) h rfl ⟨rfl, rfl⟩ ⟨(Nat.le_of_ble_eq_true rfl), (Nat.le_of_ble_eq_true rfl)⟩ ⟨(Nat.le_of_ble_eq_true rfl), (Nat.le_of_ble_eq_true rfl)⟩ (Nat.le_of_ble_eq_true rfl) (fun r10 h => ?_)
  refine J_iadd (pc := 13) C dX10_append_13 ?_
  refine J_iload (pc := 14) C dX10_append_14 4 rfl ?_
  refine J_csL (b := 0) (pc := 16) (As := [.int x4]) (st := [.int ((r1 + r5) + r10)]) (V := fun r16 => some (.int r16)) C (fun _ => (wPL cI cB cO A s)) dX10_append_16 ml_RX10_58 mi_yX3_bytesIn (fun r hr => L_bytesIn l D cI cB cL cO pf N A s x4 r hr) h rfl ⟨rfl, rfl⟩ ⟨(Nat.le_of_ble_eq_true rfl), (Nat.le_of_ble_eq_true rfl)⟩ ⟨(Nat.le_of_ble_eq_true rfl), (Nat.le_of_ble_eq_true rfl)⟩ (Nat.le_of_ble_eq_true rfl) (fun r16 h => ?_)
  refine J_iadd (pc := 19) C dX10_append_19 ?_
  refine J_iload (pc := 20) C dX10_append_20 5 rfl ?_
  refine J_csL (b := 0) (pc := 22) (As := [.int x5]) (st := [.int (((r1 + r5) + r10) + r16)]) (V := fun r22 => some (.int r22)) C (fun _ => (wPL cI cB cO A s)) dX10_append_22 ml_RX10_58 mi_yX3_bytesIn (fun r hr => L_bytesIn l D cI cB cL cO pf N A s x5 r hr) h rfl ⟨rfl, rfl⟩ ⟨(Nat.le_of_ble_eq_true rfl), (Nat.le_of_ble_eq_true rfl)⟩ ⟨(Nat.le_of_ble_eq_true rfl), (Nat.le_of_ble_eq_true rfl)⟩ (Nat.le_of_ble_eq_true rfl) (fun r22 h => ?_)
  refine J_iadd (pc := 25) C dX10_append_25 ?_
  refine J_istoreN (pc := 26) C (fun y26 => [(6, .int y26), (0, .ref (A 0 0)), (1, .int x1), (2, .int x2), (3, .int x3), (4, .int x4), (5, .int x5)]) dX10_append_26 h (by decide) (fun _ => rfl) (fun y26 h => ?_)
  refine J_aload_n (pc := 28) C dX10_append_28 1 rfl ?_
  refine J_get (pc := 29) C dX10_append_29 jf_X10 0 at_this rfl 0 (by decide) rfl fl_RX10_12 rfl ?_
  refine J_cvL (pc := 32) (As := []) (st := []) (V := fun r32 => some (.int r32)) C (fun r32 => (wPL cI cB cO A s)) dX10_append_32 ml_RX10_62 mi_yX3_length (fun r hr => L_I_length l D cI cB cL cO pf N A s r hr) h at_input rfl rfl ⟨rfl, rfl⟩ ⟨(Nat.le_of_ble_eq_true rfl), (Nat.le_of_ble_eq_true rfl)⟩ ⟨(Nat.le_of_ble_eq_true rfl), (Nat.le_of_ble_eq_true rfl)⟩ (Nat.le_of_ble_eq_true rfl) (fun r32 h => ?_)
  refine J_iload (pc := 35) C dX10_append_35 0 rfl ?_
  refine J_iadd (pc := 37) C dX10_append_37 ?_
  refine J_sipush (v := (600 : Int32)) (pc := 38) C dX10_append_38 (by decide) ?_
  refine J_ic_le (pc := 41) (tgt := 54) C dX10_append_41 (by decide) h (fun h => ?_) (fun h => ?_)
  · refine J_aload_n (pc := 54) C dX10_append_54 1 rfl ?_
    refine J_get (pc := 55) C dX10_append_55 jf_X10 0 at_this rfl 0 (by decide) rfl fl_RX10_12 rfl ?_
    refine J_iload_n (pc := 58) C dX10_append_58 2 rfl ?_
    refine J_cvL (pc := 59) (As := [.int x1]) (st := []) (V := fun r59 => none) C (fun r59 => (wPL cI cB cO A (r59, s.2.1, s.2.2.1, s.2.2.2.1, s.2.2.2.2.1, s.2.2.2.2.2.1, s.2.2.2.2.2.2.1, s.2.2.2.2.2.2.2))) dX10_append_59 ml_RX10_73 mi_yX3_addBytes (fun r hr => L_I_addBytes l D cI cB cL cO pf N A s x1 r hr) h at_input rfl rfl ⟨rfl, rfl⟩ ⟨(Nat.le_of_ble_eq_true rfl), (Nat.le_of_ble_eq_true rfl)⟩ ⟨(Nat.le_of_ble_eq_true rfl), (Nat.le_of_ble_eq_true rfl)⟩ (Nat.le_of_ble_eq_true rfl) (fun r59 h => ?_)
    refine J_aload_n (pc := 62) C dX10_append_62 1 rfl ?_
    refine J_get (pc := 63) C dX10_append_63 jf_X10 0 at_this rfl 0 (by decide) rfl fl_RX10_12 rfl ?_
    refine J_iload_n (pc := 66) C dX10_append_66 3 rfl ?_
    refine J_cvL (pc := 67) (As := [.int x2]) (st := []) (V := fun r67 => none) C (fun r67 => (wPL cI cB cO A (r67, s.2.1, s.2.2.1, s.2.2.2.1, s.2.2.2.2.1, s.2.2.2.2.2.1, s.2.2.2.2.2.2.1, s.2.2.2.2.2.2.2))) dX10_append_67 ml_RX10_73 mi_yX3_addBytes (fun r hr => L_I_addBytes l D cI cB cL cO pf N A (r59, s.2.1, s.2.2.1, s.2.2.2.1, s.2.2.2.2.1, s.2.2.2.2.2.1, s.2.2.2.2.2.2.1, s.2.2.2.2.2.2.2) x2 r hr) h at_input rfl rfl ⟨rfl, rfl⟩ ⟨(Nat.le_of_ble_eq_true rfl), (Nat.le_of_ble_eq_true rfl)⟩ ⟨(Nat.le_of_ble_eq_true rfl), (Nat.le_of_ble_eq_true rfl)⟩ (Nat.le_of_ble_eq_true rfl) (fun r67 h => ?_)
    refine J_aload_n (pc := 70) C dX10_append_70 1 rfl ?_
    refine J_get (pc := 71) C dX10_append_71 jf_X10 0 at_this rfl 0 (by decide) rfl fl_RX10_12 rfl ?_
    refine J_iload_n (pc := 74) C dX10_append_74 4 rfl ?_
    refine J_cvL (pc := 75) (As := [.int x3]) (st := []) (V := fun r75 => none) C (fun r75 => (wPL cI cB cO A (r75, s.2.1, s.2.2.1, s.2.2.2.1, s.2.2.2.2.1, s.2.2.2.2.2.1, s.2.2.2.2.2.2.1, s.2.2.2.2.2.2.2))) dX10_append_75 ml_RX10_73 mi_yX3_addBytes (fun r hr => L_I_addBytes l D cI cB cL cO pf N A (r67, s.2.1, s.2.2.1, s.2.2.2.1, s.2.2.2.2.1, s.2.2.2.2.2.1, s.2.2.2.2.2.2.1, s.2.2.2.2.2.2.2) x3 r hr) h at_input rfl rfl ⟨rfl, rfl⟩ ⟨(Nat.le_of_ble_eq_true rfl), (Nat.le_of_ble_eq_true rfl)⟩ ⟨(Nat.le_of_ble_eq_true rfl), (Nat.le_of_ble_eq_true rfl)⟩ (Nat.le_of_ble_eq_true rfl) (fun r75 h => ?_)
    refine J_aload_n (pc := 78) C dX10_append_78 1 rfl ?_
    refine J_get (pc := 79) C dX10_append_79 jf_X10 0 at_this rfl 0 (by decide) rfl fl_RX10_12 rfl ?_
    refine J_iload (pc := 82) C dX10_append_82 5 rfl ?_
    refine J_cvL (pc := 84) (As := [.int x4]) (st := []) (V := fun r84 => none) C (fun r84 => (wPL cI cB cO A (r84, s.2.1, s.2.2.1, s.2.2.2.1, s.2.2.2.2.1, s.2.2.2.2.2.1, s.2.2.2.2.2.2.1, s.2.2.2.2.2.2.2))) dX10_append_84 ml_RX10_73 mi_yX3_addBytes (fun r hr => L_I_addBytes l D cI cB cL cO pf N A (r75, s.2.1, s.2.2.1, s.2.2.2.1, s.2.2.2.2.1, s.2.2.2.2.2.1, s.2.2.2.2.2.2.1, s.2.2.2.2.2.2.2) x4 r hr) h at_input rfl rfl ⟨rfl, rfl⟩ ⟨(Nat.le_of_ble_eq_true rfl), (Nat.le_of_ble_eq_true rfl)⟩ ⟨(Nat.le_of_ble_eq_true rfl), (Nat.le_of_ble_eq_true rfl)⟩ (Nat.le_of_ble_eq_true rfl) (fun r84 h => ?_)
    refine J_aload_n (pc := 87) C dX10_append_87 1 rfl ?_
    refine J_get (pc := 88) C dX10_append_88 jf_X10 0 at_this rfl 0 (by decide) rfl fl_RX10_12 rfl ?_
    refine J_iload (pc := 91) C dX10_append_91 6 rfl ?_
    refine J_cvL (pc := 93) (As := [.int x5]) (st := []) (V := fun r93 => none) C (fun r93 => (wPL cI cB cO A (r93, s.2.1, s.2.2.1, s.2.2.2.1, s.2.2.2.2.1, s.2.2.2.2.2.1, s.2.2.2.2.2.2.1, s.2.2.2.2.2.2.2))) dX10_append_93 ml_RX10_73 mi_yX3_addBytes (fun r hr => L_I_addBytes l D cI cB cL cO pf N A (r84, s.2.1, s.2.2.1, s.2.2.2.1, s.2.2.2.2.1, s.2.2.2.2.2.1, s.2.2.2.2.2.2.1, s.2.2.2.2.2.2.2) x5 r hr) h at_input rfl rfl ⟨rfl, rfl⟩ ⟨(Nat.le_of_ble_eq_true rfl), (Nat.le_of_ble_eq_true rfl)⟩ ⟨(Nat.le_of_ble_eq_true rfl), (Nat.le_of_ble_eq_true rfl)⟩ (Nat.le_of_ble_eq_true rfl) (fun r93 h => ?_)
    refine J_aload_n (pc := 96) C dX10_append_96 1 rfl ?_
    refine J_get (pc := 97) C dX10_append_97 jf_X10 0 at_this rfl 0 (by decide) rfl fl_RX10_12 rfl ?_
    refine J_cvL (pc := 100) (As := []) (st := []) (V := fun r100 => some (.int r100)) C (fun r100 => (wPL cI cB cO A (r93, s.2.1, s.2.2.1, s.2.2.2.1, s.2.2.2.2.1, s.2.2.2.2.2.1, s.2.2.2.2.2.2.1, s.2.2.2.2.2.2.2))) dX10_append_100 ml_RX10_62 mi_yX3_length (fun r hr => L_I_length l D cI cB cL cO pf N A (r93, s.2.1, s.2.2.1, s.2.2.2.1, s.2.2.2.2.1, s.2.2.2.2.2.1, s.2.2.2.2.2.2.1, s.2.2.2.2.2.2.2) r hr) h at_input rfl rfl ⟨rfl, rfl⟩ ⟨(Nat.le_of_ble_eq_true rfl), (Nat.le_of_ble_eq_true rfl)⟩ ⟨(Nat.le_of_ble_eq_true rfl), (Nat.le_of_ble_eq_true rfl)⟩ (Nat.le_of_ble_eq_true rfl) (fun r100 h => ?_)
    cases h
    exact J_iret (pc := 103) C dX10_append_103 hr ⟨rfl, rfl⟩
  · exact absurd (congrArg (fun q => q.1) (Option.some.inj h)) (by simp)
set_option maxHeartbeats 4000000 in
set_option maxRecDepth 100000 in
theorem R_truncate (l : Launch) (D : va_G) (cI cB cL cO : ClassId) (pf : Nat → Nat) (N : Nat) (A : Nat → Nat → Nat) (s : T_PL) (x1 : Int32) {a : Int32} {s2 : T_PL} (h : P_truncate N s x1 = some (0, a, s2)) : Ct l D [(cI, .int), (cB, .byte), (cL, .byte), (cO, .object RX0)] pf yX10_truncate cX10_truncate 2 (some FieldType.int) { frames := 8, cells := 0, slots := 0, locals := 152 } [.ref (A 0 0), .int x1] (wPL cI cB cO A s) (is1 (some (.int a)) (wPL cI cB cO A s2)) := by
  refine Ct_of (own := RX10) (lv0 := [(0, .ref (A 0 0)), (1, .int x1)]) (by decide) rfl rfl (Nat.le_of_ble_eq_true rfl) ?_
  intro p e s' m args below meth c C hr hnm
  unfold P_truncate at h
  refine J_iload_n (pc := 0) C dX10_truncate_0 1 rfl ?_
  refine J_iconst (v := (0 : Int32)) (pc := 1) C dX10_truncate_1 (by decide) ?_
  refine J_aload_n (pc := 2) C dX10_truncate_2 0 rfl ?_
  refine J_get (pc := 3) C dX10_truncate_3 jf_X10 0 at_this rfl 0 (by decide) rfl fl_RX10_12 rfl ?_
  refine J_cvL (pc := 6) (As := []) (st := [.int (0 : Int32), .int x1]) (V := fun r6 => some (.int r6)) C (fun r6 => (wPL cI cB cO A s)) dX10_truncate_6 ml_RX10_62 mi_yX3_length (fun r hr => L_I_length l D cI cB cL cO pf N A s r hr) h at_input rfl rfl ⟨rfl, rfl⟩ ⟨(Nat.le_of_ble_eq_true rfl), (Nat.le_of_ble_eq_true rfl)⟩ ⟨(Nat.le_of_ble_eq_true rfl), (Nat.le_of_ble_eq_true rfl)⟩ (Nat.le_of_ble_eq_true rfl) (fun r6 h => ?_)
  refine xr h (fun hq h => ?_)
  refine J_csK (b := 0) (V := none) (pc := 9) (As := [.int x1, .int (0 : Int32), .int r6]) (st := []) C (wPL cI cB cO A s) dX10_truncate_9 ml_RX10_77 mi_yX10_needBetween (R_needBetween l D cI cB cL cO pf N A s x1 (0 : Int32) r6 hq) rfl ⟨rfl, rfl⟩ ⟨(Nat.le_of_ble_eq_true rfl), (Nat.le_of_ble_eq_true rfl)⟩ ⟨(Nat.le_of_ble_eq_true rfl), (Nat.le_of_ble_eq_true rfl)⟩ (Nat.le_of_ble_eq_true rfl) ?_
  refine J_aload_n (pc := 12) C dX10_truncate_12 0 rfl ?_
  refine J_get (pc := 13) C dX10_truncate_13 jf_X10 0 at_this rfl 0 (by decide) rfl fl_RX10_12 rfl ?_
  refine J_iload_n (pc := 16) C dX10_truncate_16 1 rfl ?_
  refine J_cvL (pc := 17) (As := [.int x1]) (st := []) (V := fun r17 => none) C (fun r17 => (wPL cI cB cO A (r17, s.2.1, s.2.2.1, s.2.2.2.1, s.2.2.2.2.1, s.2.2.2.2.2.1, s.2.2.2.2.2.2.1, s.2.2.2.2.2.2.2))) dX10_truncate_17 ml_RX10_81 mi_yX3_shorten (fun r hr => L_I_shorten l D cI cB cL cO pf N A s x1 r hr) h at_input rfl rfl ⟨rfl, rfl⟩ ⟨(Nat.le_of_ble_eq_true rfl), (Nat.le_of_ble_eq_true rfl)⟩ ⟨(Nat.le_of_ble_eq_true rfl), (Nat.le_of_ble_eq_true rfl)⟩ (Nat.le_of_ble_eq_true rfl) (fun r17 h => ?_)
  refine J_iload_n (pc := 20) C dX10_truncate_20 1 rfl ?_
  cases h
  exact J_iret (pc := 21) C dX10_truncate_21 hr ⟨rfl, rfl⟩
set_option maxHeartbeats 4000000 in
set_option maxRecDepth 100000 in
theorem R_load (l : Launch) (D : va_G) (cI cB cL cO : ClassId) (pf : Nat → Nat) (N : Nat) (A : Nat → Nat → Nat) (s : T_PL) {a : Int32} {s2 : T_PL} (h : P_load N s = some (0, a, s2)) : Ct l D [(cI, .int), (cB, .byte), (cL, .byte), (cO, .object RX0)] pf yX10_load cX10_load 1 (some FieldType.int) { frames := 10, cells := 0, slots := 0, locals := 217 } [.ref (A 0 0)] (wPL cI cB cO A s) (is1 (some (.int a)) (wPL cI cB cO A s2)) := by
  refine Ct_of (own := RX10) (lv0 := [(0, .ref (A 0 0))]) (by decide) rfl rfl (Nat.le_of_ble_eq_true rfl) ?_
  intro p e s' m args below meth c C hr hnm
  unfold P_load at h
  refine J_aload_n (pc := 0) C dX10_load_0 0 rfl ?_
  refine J_get (pc := 1) C dX10_load_1 jf_X10 0 at_this rfl 3 (by decide) rfl fl_RX10_31 rfl ?_
  refine J_cvL (pc := 4) (As := []) (st := []) (V := fun r4 => some (.int r4.1)) C (fun r4 => (wPL cI cB cO A (s.1, s.2.1, r4.2.1, r4.2.2, s.2.2.2.2.1, s.2.2.2.2.2.1, s.2.2.2.2.2.2.1, s.2.2.2.2.2.2.2))) dX10_load_4 ml_RX10_84 mi_yX8_read (fun r hr => L_R_read l D cI cB cL cO pf N A s r hr) h at_reader rfl rfl ⟨rfl, rfl⟩ ⟨(Nat.le_of_ble_eq_true rfl), (Nat.le_of_ble_eq_true rfl)⟩ ⟨(Nat.le_of_ble_eq_true rfl), (Nat.le_of_ble_eq_true rfl)⟩ (Nat.le_of_ble_eq_true rfl) (fun r4 h => ?_)
  refine J_iconst (v := (-1 : Int32)) (pc := 7) C dX10_load_7 (by decide) ?_
  refine J_ic_eq (pc := 8) (tgt := 21) C dX10_load_8 (by decide) h (fun h => ?_) (fun h => ?_)
  · refine J_aload_n (pc := 21) C dX10_load_21 0 rfl ?_
    refine J_get (pc := 22) C dX10_load_22 jf_X10 0 at_this rfl 1 (by decide) rfl fl_RX10_19 rfl ?_
    refine J_aload_n (pc := 25) C dX10_load_25 0 rfl ?_
    refine J_get (pc := 26) C dX10_load_26 jf_X10 0 at_this rfl 2 (by decide) rfl fl_RX10_23 rfl ?_
    refine J_cvL (pc := 29) (As := [.ref (A 3 0)]) (st := []) (V := fun r29 => none) C (fun r29 => (wPL cI cB cO A (s.1, r29, r4.2.1, r4.2.2, s.2.2.2.2.1, s.2.2.2.2.2.1, s.2.2.2.2.2.2.1, s.2.2.2.2.2.2.2))) dX10_load_29 ml_RX10_92 mi_yX7_copyFrom (fun r hr => L_S_copyFrom l D cI cB cL cO pf N A (s.1, s.2.1, r4.2.1, r4.2.2, s.2.2.2.2.1, s.2.2.2.2.2.1, s.2.2.2.2.2.2.1, s.2.2.2.2.2.2.2) r hr) h at_setup rfl rfl ⟨rfl, rfl⟩ ⟨(Nat.le_of_ble_eq_true rfl), (Nat.le_of_ble_eq_true rfl)⟩ ⟨(Nat.le_of_ble_eq_true rfl), (Nat.le_of_ble_eq_true rfl)⟩ (Nat.le_of_ble_eq_true rfl) (fun r29 h => ?_)
    refine J_aload_n (pc := 32) C dX10_load_32 0 rfl ?_
    refine J_get (pc := 33) C dX10_load_33 jf_X10 0 at_this rfl 4 (by decide) rfl fl_RX10_40 rfl ?_
    refine J_cvL (pc := 36) (As := []) (st := []) (V := fun r36 => none) C (fun r36 => (wPL cI cB cO A (s.1, r29, r4.2.1, r4.2.2, r36, s.2.2.2.2.2.1, s.2.2.2.2.2.2.1, s.2.2.2.2.2.2.2))) dX10_load_36 ml_RX10_95 mi_yX0_reset (fun r hr => L_B_reset l D cI cB cL cO pf N A (s.1, r29, r4.2.1, r4.2.2, s.2.2.2.2.1, s.2.2.2.2.2.1, s.2.2.2.2.2.2.1, s.2.2.2.2.2.2.2) r hr) h at_books rfl rfl ⟨rfl, rfl⟩ ⟨(Nat.le_of_ble_eq_true rfl), (Nat.le_of_ble_eq_true rfl)⟩ ⟨(Nat.le_of_ble_eq_true rfl), (Nat.le_of_ble_eq_true rfl)⟩ (Nat.le_of_ble_eq_true rfl) (fun r36 h => ?_)
    refine J_aload_n (pc := 39) C dX10_load_39 0 rfl ?_
    refine J_get (pc := 40) C dX10_load_40 jf_X10 0 at_this rfl 6 (by decide) rfl fl_RX10_50 rfl ?_
    refine J_cvL (pc := 43) (As := []) (st := []) (V := fun r43 => none) C (fun r43 => (wPL cI cB cO A (s.1, r29, r4.2.1, r4.2.2, r36, s.2.2.2.2.2.1, r43, s.2.2.2.2.2.2.2))) dX10_load_43 ml_RX10_98 mi_yX2_forget (fun r hr => L_H_forget l D cI cB cL cO pf N A (s.1, r29, r4.2.1, r4.2.2, r36, s.2.2.2.2.2.1, s.2.2.2.2.2.2.1, s.2.2.2.2.2.2.2) r hr) h at_history rfl rfl ⟨rfl, rfl⟩ ⟨(Nat.le_of_ble_eq_true rfl), (Nat.le_of_ble_eq_true rfl)⟩ ⟨(Nat.le_of_ble_eq_true rfl), (Nat.le_of_ble_eq_true rfl)⟩ (Nat.le_of_ble_eq_true rfl) (fun r43 h => ?_)
    refine J_aload_n (pc := 46) C dX10_load_46 0 rfl ?_
    refine J_iconst (v := (0 : Int32)) (pc := 47) C dX10_load_47 (by decide) ?_
    refine J_put (tt := .boolean) (pc := 48) C dX10_load_48 jf_X10 0 at_this rfl 7 (by decide) rfl fl_RX10_54 rfl (by decide +kernel) rfl rfl (Nat.le_of_ble_eq_true rfl) ?_
    refine J_ws (ws2 := (wPL cI cB cO A (s.1, r29, r4.2.1, r4.2.2, r36, s.2.2.2.2.2.1, r43, (0 : Int32)))) rfl ?_
    refine J_aload_n (pc := 51) C dX10_load_51 0 rfl ?_
    refine J_get (pc := 52) C dX10_load_52 jf_X10 0 at_this rfl 0 (by decide) rfl fl_RX10_12 rfl ?_
    refine J_iconst (v := (0 : Int32)) (pc := 55) C dX10_load_55 (by decide) ?_
    refine J_cvL (pc := 56) (As := [.int (0 : Int32)]) (st := []) (V := fun r56 => none) C (fun r56 => (wPL cI cB cO A (r56, r29, r4.2.1, r4.2.2, r36, s.2.2.2.2.2.1, r43, (0 : Int32)))) dX10_load_56 ml_RX10_81 mi_yX3_shorten (fun r hr => L_I_shorten l D cI cB cL cO pf N A (s.1, r29, r4.2.1, r4.2.2, r36, s.2.2.2.2.2.1, r43, (0 : Int32)) (0 : Int32) r hr) h at_input rfl rfl ⟨rfl, rfl⟩ ⟨(Nat.le_of_ble_eq_true rfl), (Nat.le_of_ble_eq_true rfl)⟩ ⟨(Nat.le_of_ble_eq_true rfl), (Nat.le_of_ble_eq_true rfl)⟩ (Nat.le_of_ble_eq_true rfl) (fun r56 h => ?_)
    refine J_aload_n (pc := 59) C dX10_load_59 0 rfl ?_
    refine J_get (pc := 60) C dX10_load_60 jf_X10 0 at_this rfl 1 (by decide) rfl fl_RX10_19 rfl ?_
    refine J_iconst (v := (3 : Int32)) (pc := 63) C dX10_load_63 (by decide) ?_
    refine J_cvL (pc := 64) (As := [.int (3 : Int32)]) (st := []) (V := fun r64 => some (.int r64)) C (fun r64 => (wPL cI cB cO A (r56, r29, r4.2.1, r4.2.2, r36, s.2.2.2.2.2.1, r43, (0 : Int32)))) dX10_load_64 ml_RX10_101 mi_yX7_count (fun r hr => L_S_count l D cI cB cL cO pf N A (r56, r29, r4.2.1, r4.2.2, r36, s.2.2.2.2.2.1, r43, (0 : Int32)) (3 : Int32) r hr) h at_setup rfl rfl ⟨rfl, rfl⟩ ⟨(Nat.le_of_ble_eq_true rfl), (Nat.le_of_ble_eq_true rfl)⟩ ⟨(Nat.le_of_ble_eq_true rfl), (Nat.le_of_ble_eq_true rfl)⟩ (Nat.le_of_ble_eq_true rfl) (fun r64 h => ?_)
    cases h
    exact J_iret (pc := 67) C dX10_load_67 hr ⟨rfl, rfl⟩
  · exact absurd (congrArg (fun q => q.1) (Option.some.inj h)) (by simp)
set_option maxHeartbeats 4000000 in
set_option maxRecDepth 100000 in
theorem R_purchase (l : Launch) (D : va_G) (cI cB cL cO : ClassId) (pf : Nat → Nat) (N : Nat) (A : Nat → Nat → Nat) (s : T_PL) (x1 : Int32) (x2 : Int32) (x3 : Int32) {a : Int32} {s2 : T_PL} (h : P_purchase N s x1 x2 x3 = some (0, a, s2)) : Ct l D [(cI, .int), (cB, .byte), (cL, .byte), (cO, .object RX0)] pf yX10_purchase cX10_purchase 4 (some FieldType.int) { frames := 8, cells := 0, slots := 0, locals := 184 } [.ref (A 0 0), .int x1, .int x2, .int x3] (wPL cI cB cO A s) (is1 (some (.int a)) (wPL cI cB cO A s2)) := by
  refine Ct_of (own := RX10) (lv0 := [(0, .ref (A 0 0)), (1, .int x1), (2, .int x2), (3, .int x3)]) (by decide) rfl rfl (Nat.le_of_ble_eq_true rfl) ?_
  intro p e s' m args below meth c C hr hnm
  unfold P_purchase at h
  refine J_aload_n (pc := 0) C dX10_purchase_0 0 rfl ?_
  refine J_iload_n (pc := 1) C dX10_purchase_1 1 rfl ?_
  refine xr h (fun hq h => ?_)
  refine J_cvK (V := none) (pc := 2) (As := [.int x1]) (st := []) C (wPL cI cB cO A s) dX10_purchase_2 ml_RX10_116 mi_yX10_needMember (R_needMember l D cI cB cL cO pf N A s x1 hq) at_this rfl rfl ⟨rfl, rfl⟩ ⟨(Nat.le_of_ble_eq_true rfl), (Nat.le_of_ble_eq_true rfl)⟩ ⟨(Nat.le_of_ble_eq_true rfl), (Nat.le_of_ble_eq_true rfl)⟩ (Nat.le_of_ble_eq_true rfl) ?_
  refine J_aload_n (pc := 5) C dX10_purchase_5 0 rfl ?_
  refine J_iload_n (pc := 6) C dX10_purchase_6 2 rfl ?_
  refine xr h (fun hq h => ?_)
  refine J_cvK (V := none) (pc := 7) (As := [.int x2]) (st := []) C (wPL cI cB cO A s) dX10_purchase_7 ml_RX10_119 mi_yX10_needCategory (R_needCategory l D cI cB cL cO pf N A s x2 hq) at_this rfl rfl ⟨rfl, rfl⟩ ⟨(Nat.le_of_ble_eq_true rfl), (Nat.le_of_ble_eq_true rfl)⟩ ⟨(Nat.le_of_ble_eq_true rfl), (Nat.le_of_ble_eq_true rfl)⟩ (Nat.le_of_ble_eq_true rfl) ?_
  refine J_iload_n (pc := 10) C dX10_purchase_10 3 rfl ?_
  refine J_iconst (v := (1 : Int32)) (pc := 11) C dX10_purchase_11 (by decide) ?_
  refine J_ldc (pc := 12) C dX10_purchase_12 cw_RX10_122 ?_
  refine xr h (fun hq h => ?_)
  refine J_csK (b := 0) (V := none) (pc := 14) (As := [.int x3, .int (1 : Int32), .int (100000 : Int32)]) (st := []) C (wPL cI cB cO A s) dX10_purchase_14 ml_RX10_77 mi_yX10_needBetween (R_needBetween l D cI cB cL cO pf N A s x3 (1 : Int32) (100000 : Int32) hq) rfl ⟨rfl, rfl⟩ ⟨(Nat.le_of_ble_eq_true rfl), (Nat.le_of_ble_eq_true rfl)⟩ ⟨(Nat.le_of_ble_eq_true rfl), (Nat.le_of_ble_eq_true rfl)⟩ (Nat.le_of_ble_eq_true rfl) ?_
  refine J_aload_n (pc := 17) C dX10_purchase_17 0 rfl ?_
  refine J_get (pc := 18) C dX10_purchase_18 jf_X10 0 at_this rfl 6 (by decide) rfl fl_RX10_50 rfl ?_
  refine J_aload_n (pc := 21) C dX10_purchase_21 0 rfl ?_
  refine J_get (pc := 22) C dX10_purchase_22 jf_X10 0 at_this rfl 4 (by decide) rfl fl_RX10_40 rfl ?_
  refine J_cvL (pc := 25) (As := [.ref (A 5 0)]) (st := []) (V := fun r25 => none) C (fun r25 => (wPL cI cB cO A (s.1, s.2.1, s.2.2.1, s.2.2.2.1, s.2.2.2.2.1, s.2.2.2.2.2.1, r25, s.2.2.2.2.2.2.2))) dX10_purchase_25 ml_RX10_123 mi_yX2_keep (fun r hr => L_H_keep l D cI cB cL cO pf N A s r hr) h at_history rfl rfl ⟨rfl, rfl⟩ ⟨(Nat.le_of_ble_eq_true rfl), (Nat.le_of_ble_eq_true rfl)⟩ ⟨(Nat.le_of_ble_eq_true rfl), (Nat.le_of_ble_eq_true rfl)⟩ (Nat.le_of_ble_eq_true rfl) (fun r25 h => ?_)
  refine J_aload_n (pc := 28) C dX10_purchase_28 0 rfl ?_
  refine J_get (pc := 29) C dX10_purchase_29 jf_X10 0 at_this rfl 4 (by decide) rfl fl_RX10_40 rfl ?_
  refine J_iload_n (pc := 32) C dX10_purchase_32 1 rfl ?_
  refine J_iload_n (pc := 33) C dX10_purchase_33 2 rfl ?_
  refine J_iload_n (pc := 34) C dX10_purchase_34 3 rfl ?_
  refine J_cvL (pc := 35) (As := [.int x1, .int x2, .int x3]) (st := []) (V := fun r35 => some (.int r35.1)) C (fun r35 => (wPL cI cB cO A (s.1, s.2.1, s.2.2.1, s.2.2.2.1, r35.2, s.2.2.2.2.2.1, r25, s.2.2.2.2.2.2.2))) dX10_purchase_35 ml_RX10_127 mi_yX0_recordPurchase (fun r hr => L_B_recordPurchase l D cI cB cL cO pf N A (s.1, s.2.1, s.2.2.1, s.2.2.2.1, s.2.2.2.2.1, s.2.2.2.2.2.1, r25, s.2.2.2.2.2.2.2) x1 x2 x3 r hr) h at_books rfl rfl ⟨rfl, rfl⟩ ⟨(Nat.le_of_ble_eq_true rfl), (Nat.le_of_ble_eq_true rfl)⟩ ⟨(Nat.le_of_ble_eq_true rfl), (Nat.le_of_ble_eq_true rfl)⟩ (Nat.le_of_ble_eq_true rfl) (fun r35 h => ?_)
  cases h
  exact J_iret (pc := 38) C dX10_purchase_38 hr ⟨rfl, rfl⟩
set_option maxHeartbeats 4000000 in
set_option maxRecDepth 100000 in
theorem R_refund (l : Launch) (D : va_G) (cI cB cL cO : ClassId) (pf : Nat → Nat) (N : Nat) (A : Nat → Nat → Nat) (s : T_PL) (x1 : Int32) {a : Int32} {s2 : T_PL} (h : P_refund N s x1 = some (0, a, s2)) : Ct l D [(cI, .int), (cB, .byte), (cL, .byte), (cO, .object RX0)] pf yX10_refund cX10_refund 2 (some FieldType.int) { frames := 8, cells := 0, slots := 0, locals := 182 } [.ref (A 0 0), .int x1] (wPL cI cB cO A s) (is1 (some (.int a)) (wPL cI cB cO A s2)) := by
  refine Ct_of (own := RX10) (lv0 := [(0, .ref (A 0 0)), (1, .int x1)]) (by decide) rfl rfl (Nat.le_of_ble_eq_true rfl) ?_
  intro p e s' m args below meth c C hr hnm
  unfold P_refund at h
  refine J_aload_n (pc := 0) C dX10_refund_0 0 rfl ?_
  refine J_iload_n (pc := 1) C dX10_refund_1 1 rfl ?_
  refine xr h (fun hq h => ?_)
  refine J_cvK (V := none) (pc := 2) (As := [.int x1]) (st := []) C (wPL cI cB cO A s) dX10_refund_2 ml_RX10_131 mi_yX10_needKeptPurchase (R_needKeptPurchase l D cI cB cL cO pf N A s x1 hq) at_this rfl rfl ⟨rfl, rfl⟩ ⟨(Nat.le_of_ble_eq_true rfl), (Nat.le_of_ble_eq_true rfl)⟩ ⟨(Nat.le_of_ble_eq_true rfl), (Nat.le_of_ble_eq_true rfl)⟩ (Nat.le_of_ble_eq_true rfl) ?_
  refine J_aload_n (pc := 5) C dX10_refund_5 0 rfl ?_
  refine J_get (pc := 6) C dX10_refund_6 jf_X10 0 at_this rfl 4 (by decide) rfl fl_RX10_40 rfl ?_
  refine J_cvL (pc := 9) (As := []) (st := []) (V := fun r9 => some (.ref (A 5 10))) C (fun r9 => (wPL cI cB cO A s)) dX10_refund_9 ml_RX10_134 mi_yX0_purchases (fun r hr => L_B_purchases l D cI cB cL cO pf N A s r hr) h at_books rfl rfl ⟨rfl, rfl⟩ ⟨(Nat.le_of_ble_eq_true rfl), (Nat.le_of_ble_eq_true rfl)⟩ ⟨(Nat.le_of_ble_eq_true rfl), (Nat.le_of_ble_eq_true rfl)⟩ (Nat.le_of_ble_eq_true rfl) (fun r9 h => ?_)
  refine J_iload_n (pc := 12) C dX10_refund_12 1 rfl ?_
  refine J_bipush (v := (6 : Int32)) (pc := 13) C dX10_refund_13 (by decide) ?_
  refine J_cvL (pc := 15) (As := [.int x1, .int (6 : Int32)]) (st := []) (V := fun r15 => some (.int r15)) C (fun r15 => (wPL cI cB cO A s)) dX10_refund_15 ml_RX10_138 mi_yX5_part (fun r hr => L_U_part l D cI cB cL cO pf N A s x1 (6 : Int32) r hr) h at_books_purchases rfl rfl ⟨rfl, rfl⟩ ⟨(Nat.le_of_ble_eq_true rfl), (Nat.le_of_ble_eq_true rfl)⟩ ⟨(Nat.le_of_ble_eq_true rfl), (Nat.le_of_ble_eq_true rfl)⟩ (Nat.le_of_ble_eq_true rfl) (fun r15 h => ?_)
  refine J_if_eq (pc := 18) (tgt := 31) C dX10_refund_18 (by decide) h (fun h => ?_) (fun h => ?_)
  · refine J_aload_n (pc := 31) C dX10_refund_31 0 rfl ?_
    refine J_get (pc := 32) C dX10_refund_32 jf_X10 0 at_this rfl 6 (by decide) rfl fl_RX10_50 rfl ?_
    refine J_aload_n (pc := 35) C dX10_refund_35 0 rfl ?_
    refine J_get (pc := 36) C dX10_refund_36 jf_X10 0 at_this rfl 4 (by decide) rfl fl_RX10_40 rfl ?_
    refine J_cvL (pc := 39) (As := [.ref (A 5 0)]) (st := []) (V := fun r39 => none) C (fun r39 => (wPL cI cB cO A (s.1, s.2.1, s.2.2.1, s.2.2.2.1, s.2.2.2.2.1, s.2.2.2.2.2.1, r39, s.2.2.2.2.2.2.2))) dX10_refund_39 ml_RX10_123 mi_yX2_keep (fun r hr => L_H_keep l D cI cB cL cO pf N A s r hr) h at_history rfl rfl ⟨rfl, rfl⟩ ⟨(Nat.le_of_ble_eq_true rfl), (Nat.le_of_ble_eq_true rfl)⟩ ⟨(Nat.le_of_ble_eq_true rfl), (Nat.le_of_ble_eq_true rfl)⟩ (Nat.le_of_ble_eq_true rfl) (fun r39 h => ?_)
    refine J_aload_n (pc := 42) C dX10_refund_42 0 rfl ?_
    refine J_get (pc := 43) C dX10_refund_43 jf_X10 0 at_this rfl 4 (by decide) rfl fl_RX10_40 rfl ?_
    refine J_iload_n (pc := 46) C dX10_refund_46 1 rfl ?_
    refine J_cvL (pc := 47) (As := [.int x1]) (st := []) (V := fun r47 => some (.int r47.1)) C (fun r47 => (wPL cI cB cO A (s.1, s.2.1, s.2.2.1, s.2.2.2.1, r47.2, s.2.2.2.2.2.1, r39, s.2.2.2.2.2.2.2))) dX10_refund_47 ml_RX10_145 mi_yX0_takeBack (fun r hr => L_B_takeBack l D cI cB cL cO pf N A (s.1, s.2.1, s.2.2.1, s.2.2.2.1, s.2.2.2.2.1, s.2.2.2.2.2.1, r39, s.2.2.2.2.2.2.2) x1 r hr) h at_books rfl rfl ⟨rfl, rfl⟩ ⟨(Nat.le_of_ble_eq_true rfl), (Nat.le_of_ble_eq_true rfl)⟩ ⟨(Nat.le_of_ble_eq_true rfl), (Nat.le_of_ble_eq_true rfl)⟩ (Nat.le_of_ble_eq_true rfl) (fun r47 h => ?_)
    cases h
    exact J_iret (pc := 50) C dX10_refund_50 hr ⟨rfl, rfl⟩
  · exact absurd (congrArg (fun q => q.1) (Option.some.inj h)) (by simp)
set_option maxHeartbeats 4000000 in
set_option maxRecDepth 100000 in
theorem R_redeem (l : Launch) (D : va_G) (cI cB cL cO : ClassId) (pf : Nat → Nat) (N : Nat) (A : Nat → Nat → Nat) (s : T_PL) (x1 : Int32) (x2 : Int32) {a : Int32} {s2 : T_PL} (h : P_redeem N s x1 x2 = some (0, a, s2)) : Ct l D [(cI, .int), (cB, .byte), (cL, .byte), (cO, .object RX0)] pf yX10_redeem cX10_redeem 3 (some FieldType.int) { frames := 8, cells := 0, slots := 0, locals := 180 } [.ref (A 0 0), .int x1, .int x2] (wPL cI cB cO A s) (is1 (some (.int a)) (wPL cI cB cO A s2)) := by
  refine Ct_of (own := RX10) (lv0 := [(0, .ref (A 0 0)), (1, .int x1), (2, .int x2)]) (by decide) rfl rfl (Nat.le_of_ble_eq_true rfl) ?_
  intro p e s' m args below meth c C hr hnm
  unfold P_redeem at h
  refine J_aload_n (pc := 0) C dX10_redeem_0 0 rfl ?_
  refine J_iload_n (pc := 1) C dX10_redeem_1 1 rfl ?_
  refine xr h (fun hq h => ?_)
  refine J_cvK (V := none) (pc := 2) (As := [.int x1]) (st := []) C (wPL cI cB cO A s) dX10_redeem_2 ml_RX10_116 mi_yX10_needMember (R_needMember l D cI cB cL cO pf N A s x1 hq) at_this rfl rfl ⟨rfl, rfl⟩ ⟨(Nat.le_of_ble_eq_true rfl), (Nat.le_of_ble_eq_true rfl)⟩ ⟨(Nat.le_of_ble_eq_true rfl), (Nat.le_of_ble_eq_true rfl)⟩ (Nat.le_of_ble_eq_true rfl) ?_
  refine J_iload_n (pc := 5) C dX10_redeem_5 2 rfl ?_
  refine xr h (fun hq h => ?_)
  refine J_csK (b := 0) (V := none) (pc := 6) (As := [.int x2]) (st := []) C (wPL cI cB cO A s) dX10_redeem_6 ml_RX10_148 mi_yX10_needAtLeastOne (R_needAtLeastOne l D cI cB cL cO pf N A s x2 hq) rfl ⟨rfl, rfl⟩ ⟨(Nat.le_of_ble_eq_true rfl), (Nat.le_of_ble_eq_true rfl)⟩ ⟨(Nat.le_of_ble_eq_true rfl), (Nat.le_of_ble_eq_true rfl)⟩ (Nat.le_of_ble_eq_true rfl) ?_
  refine J_aload_n (pc := 9) C dX10_redeem_9 0 rfl ?_
  refine J_get (pc := 10) C dX10_redeem_10 jf_X10 0 at_this rfl 4 (by decide) rfl fl_RX10_40 rfl ?_
  refine J_iload_n (pc := 13) C dX10_redeem_13 1 rfl ?_
  refine J_cvL (pc := 14) (As := [.int x1]) (st := []) (V := fun r14 => some (.int r14)) C (fun r14 => (wPL cI cB cO A s)) dX10_redeem_14 ml_RX10_151 mi_yX0_redeemable (fun r hr => L_B_redeemable l D cI cB cL cO pf N A s x1 r hr) h at_books rfl rfl ⟨rfl, rfl⟩ ⟨(Nat.le_of_ble_eq_true rfl), (Nat.le_of_ble_eq_true rfl)⟩ ⟨(Nat.le_of_ble_eq_true rfl), (Nat.le_of_ble_eq_true rfl)⟩ (Nat.le_of_ble_eq_true rfl) (fun r14 h => ?_)
  refine J_iload_n (pc := 17) C dX10_redeem_17 2 rfl ?_
  refine J_ic_ge (pc := 18) (tgt := 31) C dX10_redeem_18 (by decide) h (fun h => ?_) (fun h => ?_)
  · refine J_aload_n (pc := 31) C dX10_redeem_31 0 rfl ?_
    refine J_get (pc := 32) C dX10_redeem_32 jf_X10 0 at_this rfl 6 (by decide) rfl fl_RX10_50 rfl ?_
    refine J_aload_n (pc := 35) C dX10_redeem_35 0 rfl ?_
    refine J_get (pc := 36) C dX10_redeem_36 jf_X10 0 at_this rfl 4 (by decide) rfl fl_RX10_40 rfl ?_
    refine J_cvL (pc := 39) (As := [.ref (A 5 0)]) (st := []) (V := fun r39 => none) C (fun r39 => (wPL cI cB cO A (s.1, s.2.1, s.2.2.1, s.2.2.2.1, s.2.2.2.2.1, s.2.2.2.2.2.1, r39, s.2.2.2.2.2.2.2))) dX10_redeem_39 ml_RX10_123 mi_yX2_keep (fun r hr => L_H_keep l D cI cB cL cO pf N A s r hr) h at_history rfl rfl ⟨rfl, rfl⟩ ⟨(Nat.le_of_ble_eq_true rfl), (Nat.le_of_ble_eq_true rfl)⟩ ⟨(Nat.le_of_ble_eq_true rfl), (Nat.le_of_ble_eq_true rfl)⟩ (Nat.le_of_ble_eq_true rfl) (fun r39 h => ?_)
    refine J_aload_n (pc := 42) C dX10_redeem_42 0 rfl ?_
    refine J_get (pc := 43) C dX10_redeem_43 jf_X10 0 at_this rfl 4 (by decide) rfl fl_RX10_40 rfl ?_
    refine J_iload_n (pc := 46) C dX10_redeem_46 1 rfl ?_
    refine J_iload_n (pc := 47) C dX10_redeem_47 2 rfl ?_
    refine J_cvL (pc := 48) (As := [.int x1, .int x2]) (st := []) (V := fun r48 => some (.int r48.1)) C (fun r48 => (wPL cI cB cO A (s.1, s.2.1, s.2.2.1, s.2.2.2.1, r48.2, s.2.2.2.2.2.1, r39, s.2.2.2.2.2.2.2))) dX10_redeem_48 ml_RX10_156 mi_yX0_spend (fun r hr => L_B_spend l D cI cB cL cO pf N A (s.1, s.2.1, s.2.2.1, s.2.2.2.1, s.2.2.2.2.1, s.2.2.2.2.2.1, r39, s.2.2.2.2.2.2.2) x1 x2 r hr) h at_books rfl rfl ⟨rfl, rfl⟩ ⟨(Nat.le_of_ble_eq_true rfl), (Nat.le_of_ble_eq_true rfl)⟩ ⟨(Nat.le_of_ble_eq_true rfl), (Nat.le_of_ble_eq_true rfl)⟩ (Nat.le_of_ble_eq_true rfl) (fun r48 h => ?_)
    cases h
    exact J_iret (pc := 51) C dX10_redeem_51 hr ⟨rfl, rfl⟩
  · exact absurd (congrArg (fun q => q.1) (Option.some.inj h)) (by simp)
set_option maxHeartbeats 4000000 in
set_option maxRecDepth 100000 in
theorem R_transfer (l : Launch) (D : va_G) (cI cB cL cO : ClassId) (pf : Nat → Nat) (N : Nat) (A : Nat → Nat → Nat) (s : T_PL) (x1 : Int32) (x2 : Int32) (x3 : Int32) {a : Int32} {s2 : T_PL} (h : P_transfer N s x1 x2 x3 = some (0, a, s2)) : Ct l D [(cI, .int), (cB, .byte), (cL, .byte), (cO, .object RX0)] pf yX10_transfer cX10_transfer 4 (some FieldType.int) { frames := 8, cells := 0, slots := 0, locals := 185 } [.ref (A 0 0), .int x1, .int x2, .int x3] (wPL cI cB cO A s) (is1 (some (.int a)) (wPL cI cB cO A s2)) := by
  refine Ct_of (own := RX10) (lv0 := [(0, .ref (A 0 0)), (1, .int x1), (2, .int x2), (3, .int x3)]) (by decide) rfl rfl (Nat.le_of_ble_eq_true rfl) ?_
  intro p e s' m args below meth c C hr hnm
  unfold P_transfer at h
  refine J_aload_n (pc := 0) C dX10_transfer_0 0 rfl ?_
  refine J_iload_n (pc := 1) C dX10_transfer_1 1 rfl ?_
  refine xr h (fun hq h => ?_)
  refine J_cvK (V := none) (pc := 2) (As := [.int x1]) (st := []) C (wPL cI cB cO A s) dX10_transfer_2 ml_RX10_116 mi_yX10_needMember (R_needMember l D cI cB cL cO pf N A s x1 hq) at_this rfl rfl ⟨rfl, rfl⟩ ⟨(Nat.le_of_ble_eq_true rfl), (Nat.le_of_ble_eq_true rfl)⟩ ⟨(Nat.le_of_ble_eq_true rfl), (Nat.le_of_ble_eq_true rfl)⟩ (Nat.le_of_ble_eq_true rfl) ?_
  refine J_aload_n (pc := 5) C dX10_transfer_5 0 rfl ?_
  refine J_iload_n (pc := 6) C dX10_transfer_6 2 rfl ?_
  refine xr h (fun hq h => ?_)
  refine J_cvK (V := none) (pc := 7) (As := [.int x2]) (st := []) C (wPL cI cB cO A s) dX10_transfer_7 ml_RX10_116 mi_yX10_needMember (R_needMember l D cI cB cL cO pf N A s x2 hq) at_this rfl rfl ⟨rfl, rfl⟩ ⟨(Nat.le_of_ble_eq_true rfl), (Nat.le_of_ble_eq_true rfl)⟩ ⟨(Nat.le_of_ble_eq_true rfl), (Nat.le_of_ble_eq_true rfl)⟩ (Nat.le_of_ble_eq_true rfl) ?_
  refine J_iload_n (pc := 10) C dX10_transfer_10 1 rfl ?_
  refine J_iload_n (pc := 11) C dX10_transfer_11 2 rfl ?_
  refine J_ic_ne (pc := 12) (tgt := 25) C dX10_transfer_12 (by decide) h (fun h => ?_) (fun h => ?_)
  · refine J_iload_n (pc := 25) C dX10_transfer_25 3 rfl ?_
    refine xr h (fun hq h => ?_)
    refine J_csK (b := 0) (V := none) (pc := 26) (As := [.int x3]) (st := []) C (wPL cI cB cO A s) dX10_transfer_26 ml_RX10_148 mi_yX10_needAtLeastOne (R_needAtLeastOne l D cI cB cL cO pf N A s x3 hq) rfl ⟨rfl, rfl⟩ ⟨(Nat.le_of_ble_eq_true rfl), (Nat.le_of_ble_eq_true rfl)⟩ ⟨(Nat.le_of_ble_eq_true rfl), (Nat.le_of_ble_eq_true rfl)⟩ (Nat.le_of_ble_eq_true rfl) ?_
    refine J_aload_n (pc := 29) C dX10_transfer_29 0 rfl ?_
    refine J_get (pc := 30) C dX10_transfer_30 jf_X10 0 at_this rfl 4 (by decide) rfl fl_RX10_40 rfl ?_
    refine J_cvL (pc := 33) (As := []) (st := []) (V := fun r33 => some (.ref (A 5 1))) C (fun r33 => (wPL cI cB cO A s)) dX10_transfer_33 ml_RX10_161 mi_yX0_cohorts (fun r hr => L_B_cohorts l D cI cB cL cO pf N A s r hr) h at_books rfl rfl ⟨rfl, rfl⟩ ⟨(Nat.le_of_ble_eq_true rfl), (Nat.le_of_ble_eq_true rfl)⟩ ⟨(Nat.le_of_ble_eq_true rfl), (Nat.le_of_ble_eq_true rfl)⟩ (Nat.le_of_ble_eq_true rfl) (fun r33 h => ?_)
    refine J_iload_n (pc := 36) C dX10_transfer_36 1 rfl ?_
    refine J_bipush (v := (-2 : Int32)) (pc := 37) C dX10_transfer_37 (by decide) ?_
    refine J_cvL (pc := 39) (As := [.int x1, .int (-2 : Int32)]) (st := []) (V := fun r39 => some (.int r39)) C (fun r39 => (wPL cI cB cO A s)) dX10_transfer_39 ml_RX10_165 mi_yX1_sum (fun r hr => L_H_sum l D cI cB cL cO pf N A s x1 (-2 : Int32) r hr) h at_books_cohorts rfl rfl ⟨rfl, rfl⟩ ⟨(Nat.le_of_ble_eq_true rfl), (Nat.le_of_ble_eq_true rfl)⟩ ⟨(Nat.le_of_ble_eq_true rfl), (Nat.le_of_ble_eq_true rfl)⟩ (Nat.le_of_ble_eq_true rfl) (fun r39 h => ?_)
    refine J_iload_n (pc := 42) C dX10_transfer_42 3 rfl ?_
    refine J_ic_ge (pc := 43) (tgt := 56) C dX10_transfer_43 (by decide) h (fun h => ?_) (fun h => ?_)
    · refine J_aload_n (pc := 56) C dX10_transfer_56 0 rfl ?_
      refine J_get (pc := 57) C dX10_transfer_57 jf_X10 0 at_this rfl 6 (by decide) rfl fl_RX10_50 rfl ?_
      refine J_aload_n (pc := 60) C dX10_transfer_60 0 rfl ?_
      refine J_get (pc := 61) C dX10_transfer_61 jf_X10 0 at_this rfl 4 (by decide) rfl fl_RX10_40 rfl ?_
      refine J_cvL (pc := 64) (As := [.ref (A 5 0)]) (st := []) (V := fun r64 => none) C (fun r64 => (wPL cI cB cO A (s.1, s.2.1, s.2.2.1, s.2.2.2.1, s.2.2.2.2.1, s.2.2.2.2.2.1, r64, s.2.2.2.2.2.2.2))) dX10_transfer_64 ml_RX10_123 mi_yX2_keep (fun r hr => L_H_keep l D cI cB cL cO pf N A s r hr) h at_history rfl rfl ⟨rfl, rfl⟩ ⟨(Nat.le_of_ble_eq_true rfl), (Nat.le_of_ble_eq_true rfl)⟩ ⟨(Nat.le_of_ble_eq_true rfl), (Nat.le_of_ble_eq_true rfl)⟩ (Nat.le_of_ble_eq_true rfl) (fun r64 h => ?_)
      refine J_aload_n (pc := 67) C dX10_transfer_67 0 rfl ?_
      refine J_get (pc := 68) C dX10_transfer_68 jf_X10 0 at_this rfl 4 (by decide) rfl fl_RX10_40 rfl ?_
      refine J_iload_n (pc := 71) C dX10_transfer_71 1 rfl ?_
      refine J_iload_n (pc := 72) C dX10_transfer_72 2 rfl ?_
      refine J_iload_n (pc := 73) C dX10_transfer_73 3 rfl ?_
      refine J_cvL (pc := 74) (As := [.int x1, .int x2, .int x3]) (st := []) (V := fun r74 => some (.int r74.1)) C (fun r74 => (wPL cI cB cO A (s.1, s.2.1, s.2.2.1, s.2.2.2.1, r74.2, s.2.2.2.2.2.1, r64, s.2.2.2.2.2.2.2))) dX10_transfer_74 ml_RX10_172 mi_yX0_give (fun r hr => L_B_give l D cI cB cL cO pf N A (s.1, s.2.1, s.2.2.1, s.2.2.2.1, s.2.2.2.2.1, s.2.2.2.2.2.1, r64, s.2.2.2.2.2.2.2) x1 x2 x3 r hr) h at_books rfl rfl ⟨rfl, rfl⟩ ⟨(Nat.le_of_ble_eq_true rfl), (Nat.le_of_ble_eq_true rfl)⟩ ⟨(Nat.le_of_ble_eq_true rfl), (Nat.le_of_ble_eq_true rfl)⟩ (Nat.le_of_ble_eq_true rfl) (fun r74 h => ?_)
      cases h
      exact J_iret (pc := 77) C dX10_transfer_77 hr ⟨rfl, rfl⟩
    · exact absurd (congrArg (fun q => q.1) (Option.some.inj h)) (by simp)
  · exact absurd (congrArg (fun q => q.1) (Option.some.inj h)) (by simp)
set_option maxHeartbeats 4000000 in
set_option maxRecDepth 100000 in
theorem R_join (l : Launch) (D : va_G) (cI cB cL cO : ClassId) (pf : Nat → Nat) (N : Nat) (A : Nat → Nat → Nat) (s : T_PL) (x1 : Int32) (x2 : Int32) {a : Int32} {s2 : T_PL} (h : P_join N s x1 x2 = some (0, a, s2)) : Ct l D [(cI, .int), (cB, .byte), (cL, .byte), (cO, .object RX0)] pf yX10_join cX10_join 3 (some FieldType.int) { frames := 8, cells := 0, slots := 0, locals := 168 } [.ref (A 0 0), .int x1, .int x2] (wPL cI cB cO A s) (is1 (some (.int a)) (wPL cI cB cO A s2)) := by
  refine Ct_of (own := RX10) (lv0 := [(0, .ref (A 0 0)), (1, .int x1), (2, .int x2)]) (by decide) rfl rfl (Nat.le_of_ble_eq_true rfl) ?_
  intro p e s' m args below meth c C hr hnm
  unfold P_join at h
  refine J_aload_n (pc := 0) C dX10_join_0 0 rfl ?_
  refine J_iload_n (pc := 1) C dX10_join_1 1 rfl ?_
  refine xr h (fun hq h => ?_)
  refine J_cvK (V := none) (pc := 2) (As := [.int x1]) (st := []) C (wPL cI cB cO A s) dX10_join_2 ml_RX10_116 mi_yX10_needMember (R_needMember l D cI cB cL cO pf N A s x1 hq) at_this rfl rfl ⟨rfl, rfl⟩ ⟨(Nat.le_of_ble_eq_true rfl), (Nat.le_of_ble_eq_true rfl)⟩ ⟨(Nat.le_of_ble_eq_true rfl), (Nat.le_of_ble_eq_true rfl)⟩ (Nat.le_of_ble_eq_true rfl) ?_
  refine J_aload_n (pc := 5) C dX10_join_5 0 rfl ?_
  refine J_iload_n (pc := 6) C dX10_join_6 2 rfl ?_
  refine xr h (fun hq h => ?_)
  refine J_cvK (V := none) (pc := 7) (As := [.int x2]) (st := []) C (wPL cI cB cO A s) dX10_join_7 ml_RX10_175 mi_yX10_needHousehold (R_needHousehold l D cI cB cL cO pf N A s x2 hq) at_this rfl rfl ⟨rfl, rfl⟩ ⟨(Nat.le_of_ble_eq_true rfl), (Nat.le_of_ble_eq_true rfl)⟩ ⟨(Nat.le_of_ble_eq_true rfl), (Nat.le_of_ble_eq_true rfl)⟩ (Nat.le_of_ble_eq_true rfl) ?_
  refine J_aload_n (pc := 10) C dX10_join_10 0 rfl ?_
  refine J_get (pc := 11) C dX10_join_11 jf_X10 0 at_this rfl 4 (by decide) rfl fl_RX10_40 rfl ?_
  refine J_iload_n (pc := 14) C dX10_join_14 1 rfl ?_
  refine J_cvL (pc := 15) (As := [.int x1]) (st := []) (V := fun r15 => some (.int r15)) C (fun r15 => (wPL cI cB cO A s)) dX10_join_15 ml_RX10_178 mi_yX0_homeOf (fun r hr => L_B_homeOf l D cI cB cL cO pf N A s x1 r hr) h at_books rfl rfl ⟨rfl, rfl⟩ ⟨(Nat.le_of_ble_eq_true rfl), (Nat.le_of_ble_eq_true rfl)⟩ ⟨(Nat.le_of_ble_eq_true rfl), (Nat.le_of_ble_eq_true rfl)⟩ (Nat.le_of_ble_eq_true rfl) (fun r15 h => ?_)
  refine J_iconst (v := (-1 : Int32)) (pc := 18) C dX10_join_18 (by decide) ?_
  refine J_ic_eq (pc := 19) (tgt := 32) C dX10_join_19 (by decide) h (fun h => ?_) (fun h => ?_)
  · refine J_aload_n (pc := 32) C dX10_join_32 0 rfl ?_
    refine J_get (pc := 33) C dX10_join_33 jf_X10 0 at_this rfl 4 (by decide) rfl fl_RX10_40 rfl ?_
    refine J_iload_n (pc := 36) C dX10_join_36 2 rfl ?_
    refine J_cvL (pc := 37) (As := [.int x2]) (st := []) (V := fun r37 => some (.int r37)) C (fun r37 => (wPL cI cB cO A s)) dX10_join_37 ml_RX10_183 mi_yX0_peopleIn (fun r hr => L_B_peopleIn l D cI cB cL cO pf N A s x2 r hr) h at_books rfl rfl ⟨rfl, rfl⟩ ⟨(Nat.le_of_ble_eq_true rfl), (Nat.le_of_ble_eq_true rfl)⟩ ⟨(Nat.le_of_ble_eq_true rfl), (Nat.le_of_ble_eq_true rfl)⟩ (Nat.le_of_ble_eq_true rfl) (fun r37 h => ?_)
    refine J_iconst (v := (4 : Int32)) (pc := 40) C dX10_join_40 (by decide) ?_
    refine J_ic_lt (pc := 41) (tgt := 54) C dX10_join_41 (by decide) h (fun h => ?_) (fun h => ?_)
    · refine J_aload_n (pc := 54) C dX10_join_54 0 rfl ?_
      refine J_get (pc := 55) C dX10_join_55 jf_X10 0 at_this rfl 6 (by decide) rfl fl_RX10_50 rfl ?_
      refine J_aload_n (pc := 58) C dX10_join_58 0 rfl ?_
      refine J_get (pc := 59) C dX10_join_59 jf_X10 0 at_this rfl 4 (by decide) rfl fl_RX10_40 rfl ?_
      refine J_cvL (pc := 62) (As := [.ref (A 5 0)]) (st := []) (V := fun r62 => none) C (fun r62 => (wPL cI cB cO A (s.1, s.2.1, s.2.2.1, s.2.2.2.1, s.2.2.2.2.1, s.2.2.2.2.2.1, r62, s.2.2.2.2.2.2.2))) dX10_join_62 ml_RX10_123 mi_yX2_keep (fun r hr => L_H_keep l D cI cB cL cO pf N A s r hr) h at_history rfl rfl ⟨rfl, rfl⟩ ⟨(Nat.le_of_ble_eq_true rfl), (Nat.le_of_ble_eq_true rfl)⟩ ⟨(Nat.le_of_ble_eq_true rfl), (Nat.le_of_ble_eq_true rfl)⟩ (Nat.le_of_ble_eq_true rfl) (fun r62 h => ?_)
      refine J_aload_n (pc := 65) C dX10_join_65 0 rfl ?_
      refine J_get (pc := 66) C dX10_join_66 jf_X10 0 at_this rfl 4 (by decide) rfl fl_RX10_40 rfl ?_
      refine J_iload_n (pc := 69) C dX10_join_69 1 rfl ?_
      refine J_iload_n (pc := 70) C dX10_join_70 2 rfl ?_
      refine J_cvL (pc := 71) (As := [.int x1, .int x2]) (st := []) (V := fun r71 => none) C (fun r71 => (wPL cI cB cO A (s.1, s.2.1, s.2.2.1, s.2.2.2.1, r71, s.2.2.2.2.2.1, r62, s.2.2.2.2.2.2.2))) dX10_join_71 ml_RX10_188 mi_yX0_enter (fun r hr => L_B_enter l D cI cB cL cO pf N A (s.1, s.2.1, s.2.2.1, s.2.2.2.1, s.2.2.2.2.1, s.2.2.2.2.2.1, r62, s.2.2.2.2.2.2.2) x1 x2 r hr) h at_books rfl rfl ⟨rfl, rfl⟩ ⟨(Nat.le_of_ble_eq_true rfl), (Nat.le_of_ble_eq_true rfl)⟩ ⟨(Nat.le_of_ble_eq_true rfl), (Nat.le_of_ble_eq_true rfl)⟩ (Nat.le_of_ble_eq_true rfl) (fun r71 h => ?_)
      refine J_aload_n (pc := 74) C dX10_join_74 0 rfl ?_
      refine J_get (pc := 75) C dX10_join_75 jf_X10 0 at_this rfl 4 (by decide) rfl fl_RX10_40 rfl ?_
      refine J_iload_n (pc := 78) C dX10_join_78 2 rfl ?_
      refine J_cvL (pc := 79) (As := [.int x2]) (st := []) (V := fun r79 => some (.int r79)) C (fun r79 => (wPL cI cB cO A (s.1, s.2.1, s.2.2.1, s.2.2.2.1, r71, s.2.2.2.2.2.1, r62, s.2.2.2.2.2.2.2))) dX10_join_79 ml_RX10_183 mi_yX0_peopleIn (fun r hr => L_B_peopleIn l D cI cB cL cO pf N A (s.1, s.2.1, s.2.2.1, s.2.2.2.1, r71, s.2.2.2.2.2.1, r62, s.2.2.2.2.2.2.2) x2 r hr) h at_books rfl rfl ⟨rfl, rfl⟩ ⟨(Nat.le_of_ble_eq_true rfl), (Nat.le_of_ble_eq_true rfl)⟩ ⟨(Nat.le_of_ble_eq_true rfl), (Nat.le_of_ble_eq_true rfl)⟩ (Nat.le_of_ble_eq_true rfl) (fun r79 h => ?_)
      cases h
      exact J_iret (pc := 82) C dX10_join_82 hr ⟨rfl, rfl⟩
    · exact absurd (congrArg (fun q => q.1) (Option.some.inj h)) (by simp)
  · exact absurd (congrArg (fun q => q.1) (Option.some.inj h)) (by simp)
set_option maxHeartbeats 4000000 in
set_option maxRecDepth 100000 in
theorem R_leave (l : Launch) (D : va_G) (cI cB cL cO : ClassId) (pf : Nat → Nat) (N : Nat) (A : Nat → Nat → Nat) (s : T_PL) (x1 : Int32) {a : Int32} {s2 : T_PL} (h : P_leave N s x1 = some (0, a, s2)) : Ct l D [(cI, .int), (cB, .byte), (cL, .byte), (cO, .object RX0)] pf yX10_leave cX10_leave 2 (some FieldType.int) { frames := 8, cells := 0, slots := 0, locals := 183 } [.ref (A 0 0), .int x1] (wPL cI cB cO A s) (is1 (some (.int a)) (wPL cI cB cO A s2)) := by
  refine Ct_of (own := RX10) (lv0 := [(0, .ref (A 0 0)), (1, .int x1)]) (by decide) rfl rfl (Nat.le_of_ble_eq_true rfl) ?_
  intro p e s' m args below meth c C hr hnm
  unfold P_leave at h
  refine J_aload_n (pc := 0) C dX10_leave_0 0 rfl ?_
  refine J_iload_n (pc := 1) C dX10_leave_1 1 rfl ?_
  refine xr h (fun hq h => ?_)
  refine J_cvK (V := none) (pc := 2) (As := [.int x1]) (st := []) C (wPL cI cB cO A s) dX10_leave_2 ml_RX10_116 mi_yX10_needMember (R_needMember l D cI cB cL cO pf N A s x1 hq) at_this rfl rfl ⟨rfl, rfl⟩ ⟨(Nat.le_of_ble_eq_true rfl), (Nat.le_of_ble_eq_true rfl)⟩ ⟨(Nat.le_of_ble_eq_true rfl), (Nat.le_of_ble_eq_true rfl)⟩ (Nat.le_of_ble_eq_true rfl) ?_
  refine J_aload_n (pc := 5) C dX10_leave_5 0 rfl ?_
  refine J_get (pc := 6) C dX10_leave_6 jf_X10 0 at_this rfl 4 (by decide) rfl fl_RX10_40 rfl ?_
  refine J_iload_n (pc := 9) C dX10_leave_9 1 rfl ?_
  refine J_cvL (pc := 10) (As := [.int x1]) (st := []) (V := fun r10 => some (.int r10)) C (fun r10 => (wPL cI cB cO A s)) dX10_leave_10 ml_RX10_178 mi_yX0_homeOf (fun r hr => L_B_homeOf l D cI cB cL cO pf N A s x1 r hr) h at_books rfl rfl ⟨rfl, rfl⟩ ⟨(Nat.le_of_ble_eq_true rfl), (Nat.le_of_ble_eq_true rfl)⟩ ⟨(Nat.le_of_ble_eq_true rfl), (Nat.le_of_ble_eq_true rfl)⟩ (Nat.le_of_ble_eq_true rfl) (fun r10 h => ?_)
  refine J_iconst (v := (-1 : Int32)) (pc := 13) C dX10_leave_13 (by decide) ?_
  refine J_ic_ne (pc := 14) (tgt := 27) C dX10_leave_14 (by decide) h (fun h => ?_) (fun h => ?_)
  · refine J_aload_n (pc := 27) C dX10_leave_27 0 rfl ?_
    refine J_get (pc := 28) C dX10_leave_28 jf_X10 0 at_this rfl 6 (by decide) rfl fl_RX10_50 rfl ?_
    refine J_aload_n (pc := 31) C dX10_leave_31 0 rfl ?_
    refine J_get (pc := 32) C dX10_leave_32 jf_X10 0 at_this rfl 4 (by decide) rfl fl_RX10_40 rfl ?_
    refine J_cvL (pc := 35) (As := [.ref (A 5 0)]) (st := []) (V := fun r35 => none) C (fun r35 => (wPL cI cB cO A (s.1, s.2.1, s.2.2.1, s.2.2.2.1, s.2.2.2.2.1, s.2.2.2.2.2.1, r35, s.2.2.2.2.2.2.2))) dX10_leave_35 ml_RX10_123 mi_yX2_keep (fun r hr => L_H_keep l D cI cB cL cO pf N A s r hr) h at_history rfl rfl ⟨rfl, rfl⟩ ⟨(Nat.le_of_ble_eq_true rfl), (Nat.le_of_ble_eq_true rfl)⟩ ⟨(Nat.le_of_ble_eq_true rfl), (Nat.le_of_ble_eq_true rfl)⟩ (Nat.le_of_ble_eq_true rfl) (fun r35 h => ?_)
    refine J_aload_n (pc := 38) C dX10_leave_38 0 rfl ?_
    refine J_get (pc := 39) C dX10_leave_39 jf_X10 0 at_this rfl 4 (by decide) rfl fl_RX10_40 rfl ?_
    refine J_iload_n (pc := 42) C dX10_leave_42 1 rfl ?_
    refine J_cvL (pc := 43) (As := [.int x1]) (st := []) (V := fun r43 => some (.int r43.1)) C (fun r43 => (wPL cI cB cO A (s.1, s.2.1, s.2.2.1, s.2.2.2.1, r43.2, s.2.2.2.2.2.1, r35, s.2.2.2.2.2.2.2))) dX10_leave_43 ml_RX10_194 mi_yX0_moveOut (fun r hr => L_B_moveOut l D cI cB cL cO pf N A (s.1, s.2.1, s.2.2.1, s.2.2.2.1, s.2.2.2.2.1, s.2.2.2.2.2.1, r35, s.2.2.2.2.2.2.2) x1 r hr) h at_books rfl rfl ⟨rfl, rfl⟩ ⟨(Nat.le_of_ble_eq_true rfl), (Nat.le_of_ble_eq_true rfl)⟩ ⟨(Nat.le_of_ble_eq_true rfl), (Nat.le_of_ble_eq_true rfl)⟩ (Nat.le_of_ble_eq_true rfl) (fun r43 h => ?_)
    cases h
    exact J_iret (pc := 46) C dX10_leave_46 hr ⟨rfl, rfl⟩
  · exact absurd (congrArg (fun q => q.1) (Option.some.inj h)) (by simp)
set_option maxHeartbeats 4000000 in
set_option maxRecDepth 100000 in
theorem R_setShare (l : Launch) (D : va_G) (cI cB cL cO : ClassId) (pf : Nat → Nat) (N : Nat) (A : Nat → Nat → Nat) (s : T_PL) (x1 : Int32) (x2 : Int32) {a : Int32} {s2 : T_PL} (h : P_setShare N s x1 x2 = some (0, a, s2)) : Ct l D [(cI, .int), (cB, .byte), (cL, .byte), (cO, .object RX0)] pf yX10_setShare cX10_setShare 3 (some FieldType.int) { frames := 8, cells := 0, slots := 0, locals := 168 } [.ref (A 0 0), .int x1, .int x2] (wPL cI cB cO A s) (is1 (some (.int a)) (wPL cI cB cO A s2)) := by
  refine Ct_of (own := RX10) (lv0 := [(0, .ref (A 0 0)), (1, .int x1), (2, .int x2)]) (by decide) rfl rfl (Nat.le_of_ble_eq_true rfl) ?_
  intro p e s' m args below meth c C hr hnm
  unfold P_setShare at h
  refine J_aload_n (pc := 0) C dX10_setShare_0 0 rfl ?_
  refine J_iload_n (pc := 1) C dX10_setShare_1 1 rfl ?_
  refine xr h (fun hq h => ?_)
  refine J_cvK (V := none) (pc := 2) (As := [.int x1]) (st := []) C (wPL cI cB cO A s) dX10_setShare_2 ml_RX10_175 mi_yX10_needHousehold (R_needHousehold l D cI cB cL cO pf N A s x1 hq) at_this rfl rfl ⟨rfl, rfl⟩ ⟨(Nat.le_of_ble_eq_true rfl), (Nat.le_of_ble_eq_true rfl)⟩ ⟨(Nat.le_of_ble_eq_true rfl), (Nat.le_of_ble_eq_true rfl)⟩ (Nat.le_of_ble_eq_true rfl) ?_
  refine J_iload_n (pc := 5) C dX10_setShare_5 2 rfl ?_
  refine J_iconst (v := (0 : Int32)) (pc := 6) C dX10_setShare_6 (by decide) ?_
  refine J_bipush (v := (100 : Int32)) (pc := 7) C dX10_setShare_7 (by decide) ?_
  refine xr h (fun hq h => ?_)
  refine J_csK (b := 0) (V := none) (pc := 9) (As := [.int x2, .int (0 : Int32), .int (100 : Int32)]) (st := []) C (wPL cI cB cO A s) dX10_setShare_9 ml_RX10_77 mi_yX10_needBetween (R_needBetween l D cI cB cL cO pf N A s x2 (0 : Int32) (100 : Int32) hq) rfl ⟨rfl, rfl⟩ ⟨(Nat.le_of_ble_eq_true rfl), (Nat.le_of_ble_eq_true rfl)⟩ ⟨(Nat.le_of_ble_eq_true rfl), (Nat.le_of_ble_eq_true rfl)⟩ (Nat.le_of_ble_eq_true rfl) ?_
  refine J_aload_n (pc := 12) C dX10_setShare_12 0 rfl ?_
  refine J_get (pc := 13) C dX10_setShare_13 jf_X10 0 at_this rfl 6 (by decide) rfl fl_RX10_50 rfl ?_
  refine J_aload_n (pc := 16) C dX10_setShare_16 0 rfl ?_
  refine J_get (pc := 17) C dX10_setShare_17 jf_X10 0 at_this rfl 4 (by decide) rfl fl_RX10_40 rfl ?_
  refine J_cvL (pc := 20) (As := [.ref (A 5 0)]) (st := []) (V := fun r20 => none) C (fun r20 => (wPL cI cB cO A (s.1, s.2.1, s.2.2.1, s.2.2.2.1, s.2.2.2.2.1, s.2.2.2.2.2.1, r20, s.2.2.2.2.2.2.2))) dX10_setShare_20 ml_RX10_123 mi_yX2_keep (fun r hr => L_H_keep l D cI cB cL cO pf N A s r hr) h at_history rfl rfl ⟨rfl, rfl⟩ ⟨(Nat.le_of_ble_eq_true rfl), (Nat.le_of_ble_eq_true rfl)⟩ ⟨(Nat.le_of_ble_eq_true rfl), (Nat.le_of_ble_eq_true rfl)⟩ (Nat.le_of_ble_eq_true rfl) (fun r20 h => ?_)
  refine J_aload_n (pc := 23) C dX10_setShare_23 0 rfl ?_
  refine J_get (pc := 24) C dX10_setShare_24 jf_X10 0 at_this rfl 4 (by decide) rfl fl_RX10_40 rfl ?_
  refine J_iload_n (pc := 27) C dX10_setShare_27 1 rfl ?_
  refine J_iload_n (pc := 28) C dX10_setShare_28 2 rfl ?_
  refine J_cvL (pc := 29) (As := [.int x1, .int x2]) (st := []) (V := fun r29 => some (.int r29.1)) C (fun r29 => (wPL cI cB cO A (s.1, s.2.1, s.2.2.1, s.2.2.2.1, r29.2, s.2.2.2.2.2.1, r20, s.2.2.2.2.2.2.2))) dX10_setShare_29 ml_RX10_197 mi_yX0_replaceShare (fun r hr => L_B_replaceShare l D cI cB cL cO pf N A (s.1, s.2.1, s.2.2.1, s.2.2.2.1, s.2.2.2.2.1, s.2.2.2.2.2.1, r20, s.2.2.2.2.2.2.2) x1 x2 r hr) h at_books rfl rfl ⟨rfl, rfl⟩ ⟨(Nat.le_of_ble_eq_true rfl), (Nat.le_of_ble_eq_true rfl)⟩ ⟨(Nat.le_of_ble_eq_true rfl), (Nat.le_of_ble_eq_true rfl)⟩ (Nat.le_of_ble_eq_true rfl) (fun r29 h => ?_)
  cases h
  exact J_iret (pc := 32) C dX10_setShare_32 hr ⟨rfl, rfl⟩
set_option maxHeartbeats 4000000 in
set_option maxRecDepth 100000 in
theorem R_advance (l : Launch) (D : va_G) (cI cB cL cO : ClassId) (pf : Nat → Nat) (N : Nat) (A : Nat → Nat → Nat) (s : T_PL) (x1 : Int32) {a : Int32} {s2 : T_PL} (h : P_advance N s x1 = some (0, a, s2)) : Ct l D [(cI, .int), (cB, .byte), (cL, .byte), (cO, .object RX0)] pf yX10_advance cX10_advance 2 (some FieldType.int) { frames := 8, cells := 0, slots := 0, locals := 168 } [.ref (A 0 0), .int x1] (wPL cI cB cO A s) (is1 (some (.int a)) (wPL cI cB cO A s2)) := by
  refine Ct_of (own := RX10) (lv0 := [(0, .ref (A 0 0)), (1, .int x1)]) (by decide) rfl rfl (Nat.le_of_ble_eq_true rfl) ?_
  intro p e s' m args below meth c C hr hnm
  unfold P_advance at h
  refine J_iload_n (pc := 0) C dX10_advance_0 1 rfl ?_
  refine J_iconst (v := (1 : Int32)) (pc := 1) C dX10_advance_1 (by decide) ?_
  refine J_sipush (v := (400 : Int32)) (pc := 2) C dX10_advance_2 (by decide) ?_
  refine xr h (fun hq h => ?_)
  refine J_csK (b := 0) (V := none) (pc := 5) (As := [.int x1, .int (1 : Int32), .int (400 : Int32)]) (st := []) C (wPL cI cB cO A s) dX10_advance_5 ml_RX10_77 mi_yX10_needBetween (R_needBetween l D cI cB cL cO pf N A s x1 (1 : Int32) (400 : Int32) hq) rfl ⟨rfl, rfl⟩ ⟨(Nat.le_of_ble_eq_true rfl), (Nat.le_of_ble_eq_true rfl)⟩ ⟨(Nat.le_of_ble_eq_true rfl), (Nat.le_of_ble_eq_true rfl)⟩ (Nat.le_of_ble_eq_true rfl) ?_
  refine J_aload_n (pc := 8) C dX10_advance_8 0 rfl ?_
  refine J_get (pc := 9) C dX10_advance_9 jf_X10 0 at_this rfl 4 (by decide) rfl fl_RX10_40 rfl ?_
  refine J_cvL (pc := 12) (As := []) (st := []) (V := fun r12 => some (.int r12)) C (fun r12 => (wPL cI cB cO A s)) dX10_advance_12 ml_RX10_200 mi_yX0_day (fun r hr => L_B_day l D cI cB cL cO pf N A s r hr) h at_books rfl rfl ⟨rfl, rfl⟩ ⟨(Nat.le_of_ble_eq_true rfl), (Nat.le_of_ble_eq_true rfl)⟩ ⟨(Nat.le_of_ble_eq_true rfl), (Nat.le_of_ble_eq_true rfl)⟩ (Nat.le_of_ble_eq_true rfl) (fun r12 h => ?_)
  refine J_iload_n (pc := 15) C dX10_advance_15 1 rfl ?_
  refine J_iadd (pc := 16) C dX10_advance_16 ?_
  refine J_iconst (v := (0 : Int32)) (pc := 17) C dX10_advance_17 (by decide) ?_
  refine J_sipush (v := (9999 : Int32)) (pc := 18) C dX10_advance_18 (by decide) ?_
  refine xr h (fun hq h => ?_)
  refine J_csK (b := 0) (V := none) (pc := 21) (As := [.int (r12 + x1), .int (0 : Int32), .int (9999 : Int32)]) (st := []) C (wPL cI cB cO A s) dX10_advance_21 ml_RX10_77 mi_yX10_needBetween (R_needBetween l D cI cB cL cO pf N A s (r12 + x1) (0 : Int32) (9999 : Int32) hq) rfl ⟨rfl, rfl⟩ ⟨(Nat.le_of_ble_eq_true rfl), (Nat.le_of_ble_eq_true rfl)⟩ ⟨(Nat.le_of_ble_eq_true rfl), (Nat.le_of_ble_eq_true rfl)⟩ (Nat.le_of_ble_eq_true rfl) ?_
  refine J_aload_n (pc := 24) C dX10_advance_24 0 rfl ?_
  refine J_get (pc := 25) C dX10_advance_25 jf_X10 0 at_this rfl 6 (by decide) rfl fl_RX10_50 rfl ?_
  refine J_aload_n (pc := 28) C dX10_advance_28 0 rfl ?_
  refine J_get (pc := 29) C dX10_advance_29 jf_X10 0 at_this rfl 4 (by decide) rfl fl_RX10_40 rfl ?_
  refine J_cvL (pc := 32) (As := [.ref (A 5 0)]) (st := []) (V := fun r32 => none) C (fun r32 => (wPL cI cB cO A (s.1, s.2.1, s.2.2.1, s.2.2.2.1, s.2.2.2.2.1, s.2.2.2.2.2.1, r32, s.2.2.2.2.2.2.2))) dX10_advance_32 ml_RX10_123 mi_yX2_keep (fun r hr => L_H_keep l D cI cB cL cO pf N A s r hr) h at_history rfl rfl ⟨rfl, rfl⟩ ⟨(Nat.le_of_ble_eq_true rfl), (Nat.le_of_ble_eq_true rfl)⟩ ⟨(Nat.le_of_ble_eq_true rfl), (Nat.le_of_ble_eq_true rfl)⟩ (Nat.le_of_ble_eq_true rfl) (fun r32 h => ?_)
  refine J_aload_n (pc := 35) C dX10_advance_35 0 rfl ?_
  refine J_get (pc := 36) C dX10_advance_36 jf_X10 0 at_this rfl 4 (by decide) rfl fl_RX10_40 rfl ?_
  refine J_iload_n (pc := 39) C dX10_advance_39 1 rfl ?_
  refine J_cvL (pc := 40) (As := [.int x1]) (st := []) (V := fun r40 => some (.int r40.1)) C (fun r40 => (wPL cI cB cO A (s.1, s.2.1, s.2.2.1, s.2.2.2.1, r40.2, s.2.2.2.2.2.1, r32, s.2.2.2.2.2.2.2))) dX10_advance_40 ml_RX10_203 mi_yX0_passDays (fun r hr => L_B_passDays l D cI cB cL cO pf N A (s.1, s.2.1, s.2.2.1, s.2.2.2.1, s.2.2.2.2.1, s.2.2.2.2.2.1, r32, s.2.2.2.2.2.2.2) x1 r hr) h at_books rfl rfl ⟨rfl, rfl⟩ ⟨(Nat.le_of_ble_eq_true rfl), (Nat.le_of_ble_eq_true rfl)⟩ ⟨(Nat.le_of_ble_eq_true rfl), (Nat.le_of_ble_eq_true rfl)⟩ (Nat.le_of_ble_eq_true rfl) (fun r40 h => ?_)
  cases h
  exact J_iret (pc := 43) C dX10_advance_43 hr ⟨rfl, rfl⟩
set_option maxHeartbeats 4000000 in
set_option maxRecDepth 100000 in
theorem R_setup (l : Launch) (D : va_G) (cI cB cL cO : ClassId) (pf : Nat → Nat) (N : Nat) (A : Nat → Nat → Nat) (s : T_PL) (x1 : Int32) {a : Int32} {s2 : T_PL} (h : P_setup N s x1 = some (0, a, s2)) : Ct l D [(cI, .int), (cB, .byte), (cL, .byte), (cO, .object RX0)] pf yX10_setup cX10_setup 2 (some FieldType.int) { frames := 8, cells := 0, slots := 0, locals := 152 } [.ref (A 0 0), .int x1] (wPL cI cB cO A s) (is1 (some (.int a)) (wPL cI cB cO A s2)) := by
  refine Ct_of (own := RX10) (lv0 := [(0, .ref (A 0 0)), (1, .int x1)]) (by decide) rfl rfl (Nat.le_of_ble_eq_true rfl) ?_
  intro p e s' m args below meth c C hr hnm
  unfold P_setup at h
  refine J_iload_n (pc := 0) C dX10_setup_0 1 rfl ?_
  refine J_iconst (v := (0 : Int32)) (pc := 1) C dX10_setup_1 (by decide) ?_
  refine J_bipush (v := (7 : Int32)) (pc := 2) C dX10_setup_2 (by decide) ?_
  refine xr h (fun hq h => ?_)
  refine J_csK (b := 0) (V := none) (pc := 4) (As := [.int x1, .int (0 : Int32), .int (7 : Int32)]) (st := []) C (wPL cI cB cO A s) dX10_setup_4 ml_RX10_77 mi_yX10_needBetween (R_needBetween l D cI cB cL cO pf N A s x1 (0 : Int32) (7 : Int32) hq) rfl ⟨rfl, rfl⟩ ⟨(Nat.le_of_ble_eq_true rfl), (Nat.le_of_ble_eq_true rfl)⟩ ⟨(Nat.le_of_ble_eq_true rfl), (Nat.le_of_ble_eq_true rfl)⟩ (Nat.le_of_ble_eq_true rfl) ?_
  refine J_iload_n (pc := 7) C dX10_setup_7 1 rfl ?_
  refine J_oif h (fun q h => ?_) (fun q5 h => ?_)
  · refine J_tin (pc := 8) (v := (5 : Int32)) (tgt := 36) C dX10_setup_8 q (by decide) (by decide) rfl (by decide) ?_
    refine J_aload_n (pc := 36) C dX10_setup_36 0 rfl ?_
    refine J_get (pc := 37) C dX10_setup_37 jf_X10 0 at_this rfl 1 (by decide) rfl fl_RX10_19 rfl ?_
    refine J_cvL (pc := 40) (As := []) (st := []) (V := fun r40 => some (.int r40)) C (fun r40 => (wPL cI cB cO A s)) dX10_setup_40 ml_RX10_206 mi_yX7_life (fun r hr => L_S_life l D cI cB cL cO pf N A s r hr) h at_setup rfl rfl ⟨rfl, rfl⟩ ⟨(Nat.le_of_ble_eq_true rfl), (Nat.le_of_ble_eq_true rfl)⟩ ⟨(Nat.le_of_ble_eq_true rfl), (Nat.le_of_ble_eq_true rfl)⟩ (Nat.le_of_ble_eq_true rfl) (fun r40 h => ?_)
    cases h
    exact J_iret (pc := 43) C dX10_setup_43 hr ⟨rfl, rfl⟩
  refine J_oif h (fun q h => ?_) (fun q6 h => ?_)
  · refine J_tin (pc := 8) (v := (6 : Int32)) (tgt := 44) C dX10_setup_8 q (by decide) (by decide) rfl (by decide) ?_
    refine J_aload_n (pc := 44) C dX10_setup_44 0 rfl ?_
    refine J_get (pc := 45) C dX10_setup_45 jf_X10 0 at_this rfl 1 (by decide) rfl fl_RX10_19 rfl ?_
    refine J_cvL (pc := 48) (As := []) (st := []) (V := fun r48 => some (.int r48)) C (fun r48 => (wPL cI cB cO A s)) dX10_setup_48 ml_RX10_209 mi_yX7_window (fun r hr => L_S_window l D cI cB cL cO pf N A s r hr) h at_setup rfl rfl ⟨rfl, rfl⟩ ⟨(Nat.le_of_ble_eq_true rfl), (Nat.le_of_ble_eq_true rfl)⟩ ⟨(Nat.le_of_ble_eq_true rfl), (Nat.le_of_ble_eq_true rfl)⟩ (Nat.le_of_ble_eq_true rfl) (fun r48 h => ?_)
    cases h
    exact J_iret (pc := 51) C dX10_setup_51 hr ⟨rfl, rfl⟩
  refine J_oif h (fun q h => ?_) (fun q7 h => ?_)
  · refine J_tin (pc := 8) (v := (7 : Int32)) (tgt := 52) C dX10_setup_8 q (by decide) (by decide) rfl (by decide) ?_
    refine J_aload_n (pc := 52) C dX10_setup_52 0 rfl ?_
    refine J_get (pc := 53) C dX10_setup_53 jf_X10 0 at_this rfl 1 (by decide) rfl fl_RX10_19 rfl ?_
    refine J_cvL (pc := 56) (As := []) (st := []) (V := fun r56 => some (.int r56)) C (fun r56 => (wPL cI cB cO A s)) dX10_setup_56 ml_RX10_212 mi_yX7_grace (fun r hr => L_S_grace l D cI cB cL cO pf N A s r hr) h at_setup rfl rfl ⟨rfl, rfl⟩ ⟨(Nat.le_of_ble_eq_true rfl), (Nat.le_of_ble_eq_true rfl)⟩ ⟨(Nat.le_of_ble_eq_true rfl), (Nat.le_of_ble_eq_true rfl)⟩ (Nat.le_of_ble_eq_true rfl) (fun r56 h => ?_)
    cases h
    exact J_iret (pc := 59) C dX10_setup_59 hr ⟨rfl, rfl⟩
  refine J_tout (pc := 8) (tgt := 60) C dX10_setup_8 (by have a5 := tsw_ne q5 (a := 5) (by decide); have a6 := tsw_ne q6 (a := 6) (by decide); have a7 := tsw_ne q7 (a := 7) (by decide); omega) (by decide) ?_
  refine J_aload_n (pc := 60) C dX10_setup_60 0 rfl ?_
  refine J_get (pc := 61) C dX10_setup_61 jf_X10 0 at_this rfl 1 (by decide) rfl fl_RX10_19 rfl ?_
  refine J_iload_n (pc := 64) C dX10_setup_64 1 rfl ?_
  refine J_cvL (pc := 65) (As := [.int x1]) (st := []) (V := fun r65 => some (.int r65)) C (fun r65 => (wPL cI cB cO A s)) dX10_setup_65 ml_RX10_101 mi_yX7_count (fun r hr => L_S_count l D cI cB cL cO pf N A s x1 r hr) h at_setup rfl rfl ⟨rfl, rfl⟩ ⟨(Nat.le_of_ble_eq_true rfl), (Nat.le_of_ble_eq_true rfl)⟩ ⟨(Nat.le_of_ble_eq_true rfl), (Nat.le_of_ble_eq_true rfl)⟩ (Nat.le_of_ble_eq_true rfl) (fun r65 h => ?_)
  cases h
  exact J_iret (pc := 68) C dX10_setup_68 hr ⟨rfl, rfl⟩
set_option maxHeartbeats 4000000 in
set_option maxRecDepth 100000 in
theorem R_threshold (l : Launch) (D : va_G) (cI cB cL cO : ClassId) (pf : Nat → Nat) (N : Nat) (A : Nat → Nat → Nat) (s : T_PL) (x1 : Int32) {a : Int32} {s2 : T_PL} (h : P_threshold N s x1 = some (0, a, s2)) : Ct l D [(cI, .int), (cB, .byte), (cL, .byte), (cO, .object RX0)] pf yX10_threshold cX10_threshold 2 (some FieldType.int) { frames := 7, cells := 0, slots := 0, locals := 130 } [.ref (A 0 0), .int x1] (wPL cI cB cO A s) (is1 (some (.int a)) (wPL cI cB cO A s2)) := by
  refine Ct_of (own := RX10) (lv0 := [(0, .ref (A 0 0)), (1, .int x1)]) (by decide) rfl rfl (Nat.le_of_ble_eq_true rfl) ?_
  intro p e s' m args below meth c C hr hnm
  unfold P_threshold at h
  refine J_iload_n (pc := 0) C dX10_threshold_0 1 rfl ?_
  refine J_if_lt (pc := 1) (tgt := 16) C dX10_threshold_1 (by decide) h (fun h => ?_) (fun h => ?_)
  · exact absurd (congrArg (fun q => q.1) (Option.some.inj h)) (by simp)
  · refine J_iload_n (pc := 4) C dX10_threshold_4 1 rfl ?_
    refine J_aload_n (pc := 5) C dX10_threshold_5 0 rfl ?_
    refine J_get (pc := 6) C dX10_threshold_6 jf_X10 0 at_this rfl 1 (by decide) rfl fl_RX10_19 rfl ?_
    refine J_iconst (v := (0 : Int32)) (pc := 9) C dX10_threshold_9 (by decide) ?_
    refine J_cvL (pc := 10) (As := [.int (0 : Int32)]) (st := [.int x1]) (V := fun r10 => some (.int r10)) C (fun r10 => (wPL cI cB cO A s)) dX10_threshold_10 ml_RX10_101 mi_yX7_count (fun r hr => L_S_count l D cI cB cL cO pf N A s (0 : Int32) r hr) h at_setup rfl rfl ⟨rfl, rfl⟩ ⟨(Nat.le_of_ble_eq_true rfl), (Nat.le_of_ble_eq_true rfl)⟩ ⟨(Nat.le_of_ble_eq_true rfl), (Nat.le_of_ble_eq_true rfl)⟩ (Nat.le_of_ble_eq_true rfl) (fun r10 h => ?_)
    refine J_ic_lt (pc := 13) (tgt := 26) C dX10_threshold_13 (by decide) h (fun h => ?_) (fun h => ?_)
    · refine J_aload_n (pc := 26) C dX10_threshold_26 0 rfl ?_
      refine J_get (pc := 27) C dX10_threshold_27 jf_X10 0 at_this rfl 1 (by decide) rfl fl_RX10_19 rfl ?_
      refine J_iload_n (pc := 30) C dX10_threshold_30 1 rfl ?_
      refine J_cvL (pc := 31) (As := [.int x1]) (st := []) (V := fun r31 => some (.int r31)) C (fun r31 => (wPL cI cB cO A s)) dX10_threshold_31 ml_RX10_220 mi_yX7_thresholdOf (fun r hr => L_S_thresholdOf l D cI cB cL cO pf N A s x1 r hr) h at_setup rfl rfl ⟨rfl, rfl⟩ ⟨(Nat.le_of_ble_eq_true rfl), (Nat.le_of_ble_eq_true rfl)⟩ ⟨(Nat.le_of_ble_eq_true rfl), (Nat.le_of_ble_eq_true rfl)⟩ (Nat.le_of_ble_eq_true rfl) (fun r31 h => ?_)
      cases h
      exact J_iret (pc := 34) C dX10_threshold_34 hr ⟨rfl, rfl⟩
    · exact absurd (congrArg (fun q => q.1) (Option.some.inj h)) (by simp)
set_option maxHeartbeats 4000000 in
set_option maxRecDepth 100000 in
theorem R_balance (l : Launch) (D : va_G) (cI cB cL cO : ClassId) (pf : Nat → Nat) (N : Nat) (A : Nat → Nat → Nat) (s : T_PL) (x1 : Int32) {a : Int32} {s2 : T_PL} (h : P_balance N s x1 = some (0, a, s2)) : Ct l D [(cI, .int), (cB, .byte), (cL, .byte), (cO, .object RX0)] pf yX10_balance cX10_balance 2 (some FieldType.int) { frames := 8, cells := 0, slots := 0, locals := 151 } [.ref (A 0 0), .int x1] (wPL cI cB cO A s) (is1 (some (.int a)) (wPL cI cB cO A s2)) := by
  refine Ct_of (own := RX10) (lv0 := [(0, .ref (A 0 0)), (1, .int x1)]) (by decide) rfl rfl (Nat.le_of_ble_eq_true rfl) ?_
  intro p e s' m args below meth c C hr hnm
  unfold P_balance at h
  refine J_aload_n (pc := 0) C dX10_balance_0 0 rfl ?_
  refine J_iload_n (pc := 1) C dX10_balance_1 1 rfl ?_
  refine xr h (fun hq h => ?_)
  refine J_cvK (V := none) (pc := 2) (As := [.int x1]) (st := []) C (wPL cI cB cO A s) dX10_balance_2 ml_RX10_116 mi_yX10_needMember (R_needMember l D cI cB cL cO pf N A s x1 hq) at_this rfl rfl ⟨rfl, rfl⟩ ⟨(Nat.le_of_ble_eq_true rfl), (Nat.le_of_ble_eq_true rfl)⟩ ⟨(Nat.le_of_ble_eq_true rfl), (Nat.le_of_ble_eq_true rfl)⟩ (Nat.le_of_ble_eq_true rfl) ?_
  refine J_aload_n (pc := 5) C dX10_balance_5 0 rfl ?_
  refine J_get (pc := 6) C dX10_balance_6 jf_X10 0 at_this rfl 4 (by decide) rfl fl_RX10_40 rfl ?_
  refine J_cvL (pc := 9) (As := []) (st := []) (V := fun r9 => some (.ref (A 5 1))) C (fun r9 => (wPL cI cB cO A s)) dX10_balance_9 ml_RX10_161 mi_yX0_cohorts (fun r hr => L_B_cohorts l D cI cB cL cO pf N A s r hr) h at_books rfl rfl ⟨rfl, rfl⟩ ⟨(Nat.le_of_ble_eq_true rfl), (Nat.le_of_ble_eq_true rfl)⟩ ⟨(Nat.le_of_ble_eq_true rfl), (Nat.le_of_ble_eq_true rfl)⟩ (Nat.le_of_ble_eq_true rfl) (fun r9 h => ?_)
  refine J_iload_n (pc := 12) C dX10_balance_12 1 rfl ?_
  refine J_bipush (v := (-2 : Int32)) (pc := 13) C dX10_balance_13 (by decide) ?_
  refine J_cvL (pc := 15) (As := [.int x1, .int (-2 : Int32)]) (st := []) (V := fun r15 => some (.int r15)) C (fun r15 => (wPL cI cB cO A s)) dX10_balance_15 ml_RX10_165 mi_yX1_sum (fun r hr => L_H_sum l D cI cB cL cO pf N A s x1 (-2 : Int32) r hr) h at_books_cohorts rfl rfl ⟨rfl, rfl⟩ ⟨(Nat.le_of_ble_eq_true rfl), (Nat.le_of_ble_eq_true rfl)⟩ ⟨(Nat.le_of_ble_eq_true rfl), (Nat.le_of_ble_eq_true rfl)⟩ (Nat.le_of_ble_eq_true rfl) (fun r15 h => ?_)
  cases h
  exact J_iret (pc := 18) C dX10_balance_18 hr ⟨rfl, rfl⟩
set_option maxHeartbeats 4000000 in
set_option maxRecDepth 100000 in
theorem R_debt (l : Launch) (D : va_G) (cI cB cL cO : ClassId) (pf : Nat → Nat) (N : Nat) (A : Nat → Nat → Nat) (s : T_PL) (x1 : Int32) {a : Int32} {s2 : T_PL} (h : P_debt N s x1 = some (0, a, s2)) : Ct l D [(cI, .int), (cB, .byte), (cL, .byte), (cO, .object RX0)] pf yX10_debt cX10_debt 2 (some FieldType.int) { frames := 8, cells := 0, slots := 0, locals := 151 } [.ref (A 0 0), .int x1] (wPL cI cB cO A s) (is1 (some (.int a)) (wPL cI cB cO A s2)) := by
  refine Ct_of (own := RX10) (lv0 := [(0, .ref (A 0 0)), (1, .int x1)]) (by decide) rfl rfl (Nat.le_of_ble_eq_true rfl) ?_
  intro p e s' m args below meth c C hr hnm
  unfold P_debt at h
  refine J_aload_n (pc := 0) C dX10_debt_0 0 rfl ?_
  refine J_iload_n (pc := 1) C dX10_debt_1 1 rfl ?_
  refine xr h (fun hq h => ?_)
  refine J_cvK (V := none) (pc := 2) (As := [.int x1]) (st := []) C (wPL cI cB cO A s) dX10_debt_2 ml_RX10_116 mi_yX10_needMember (R_needMember l D cI cB cL cO pf N A s x1 hq) at_this rfl rfl ⟨rfl, rfl⟩ ⟨(Nat.le_of_ble_eq_true rfl), (Nat.le_of_ble_eq_true rfl)⟩ ⟨(Nat.le_of_ble_eq_true rfl), (Nat.le_of_ble_eq_true rfl)⟩ (Nat.le_of_ble_eq_true rfl) ?_
  refine J_aload_n (pc := 5) C dX10_debt_5 0 rfl ?_
  refine J_get (pc := 6) C dX10_debt_6 jf_X10 0 at_this rfl 4 (by decide) rfl fl_RX10_40 rfl ?_
  refine J_iload_n (pc := 9) C dX10_debt_9 1 rfl ?_
  refine J_cvL (pc := 10) (As := [.int x1]) (st := []) (V := fun r10 => some (.int r10)) C (fun r10 => (wPL cI cB cO A s)) dX10_debt_10 ml_RX10_226 mi_yX0_debtOf (fun r hr => L_B_debtOf l D cI cB cL cO pf N A s x1 r hr) h at_books rfl rfl ⟨rfl, rfl⟩ ⟨(Nat.le_of_ble_eq_true rfl), (Nat.le_of_ble_eq_true rfl)⟩ ⟨(Nat.le_of_ble_eq_true rfl), (Nat.le_of_ble_eq_true rfl)⟩ (Nat.le_of_ble_eq_true rfl) (fun r10 h => ?_)
  cases h
  exact J_iret (pc := 13) C dX10_debt_13 hr ⟨rfl, rfl⟩
set_option maxHeartbeats 4000000 in
set_option maxRecDepth 100000 in
theorem R_available (l : Launch) (D : va_G) (cI cB cL cO : ClassId) (pf : Nat → Nat) (N : Nat) (A : Nat → Nat → Nat) (s : T_PL) (x1 : Int32) {a : Int32} {s2 : T_PL} (h : P_available N s x1 = some (0, a, s2)) : Ct l D [(cI, .int), (cB, .byte), (cL, .byte), (cO, .object RX0)] pf yX10_available cX10_available 2 (some FieldType.int) { frames := 8, cells := 0, slots := 0, locals := 151 } [.ref (A 0 0), .int x1] (wPL cI cB cO A s) (is1 (some (.int a)) (wPL cI cB cO A s2)) := by
  refine Ct_of (own := RX10) (lv0 := [(0, .ref (A 0 0)), (1, .int x1)]) (by decide) rfl rfl (Nat.le_of_ble_eq_true rfl) ?_
  intro p e s' m args below meth c C hr hnm
  unfold P_available at h
  refine J_aload_n (pc := 0) C dX10_available_0 0 rfl ?_
  refine J_iload_n (pc := 1) C dX10_available_1 1 rfl ?_
  refine xr h (fun hq h => ?_)
  refine J_cvK (V := none) (pc := 2) (As := [.int x1]) (st := []) C (wPL cI cB cO A s) dX10_available_2 ml_RX10_116 mi_yX10_needMember (R_needMember l D cI cB cL cO pf N A s x1 hq) at_this rfl rfl ⟨rfl, rfl⟩ ⟨(Nat.le_of_ble_eq_true rfl), (Nat.le_of_ble_eq_true rfl)⟩ ⟨(Nat.le_of_ble_eq_true rfl), (Nat.le_of_ble_eq_true rfl)⟩ (Nat.le_of_ble_eq_true rfl) ?_
  refine J_aload_n (pc := 5) C dX10_available_5 0 rfl ?_
  refine J_get (pc := 6) C dX10_available_6 jf_X10 0 at_this rfl 4 (by decide) rfl fl_RX10_40 rfl ?_
  refine J_iload_n (pc := 9) C dX10_available_9 1 rfl ?_
  refine J_cvL (pc := 10) (As := [.int x1]) (st := []) (V := fun r10 => some (.int r10)) C (fun r10 => (wPL cI cB cO A s)) dX10_available_10 ml_RX10_151 mi_yX0_redeemable (fun r hr => L_B_redeemable l D cI cB cL cO pf N A s x1 r hr) h at_books rfl rfl ⟨rfl, rfl⟩ ⟨(Nat.le_of_ble_eq_true rfl), (Nat.le_of_ble_eq_true rfl)⟩ ⟨(Nat.le_of_ble_eq_true rfl), (Nat.le_of_ble_eq_true rfl)⟩ (Nat.le_of_ble_eq_true rfl) (fun r10 h => ?_)
  cases h
  exact J_iret (pc := 13) C dX10_available_13 hr ⟨rfl, rfl⟩
set_option maxHeartbeats 4000000 in
set_option maxRecDepth 100000 in
theorem R_cohortCount (l : Launch) (D : va_G) (cI cB cL cO : ClassId) (pf : Nat → Nat) (N : Nat) (A : Nat → Nat → Nat) (s : T_PL) (x1 : Int32) {a : Int32} {s2 : T_PL} (h : P_cohortCount N s x1 = some (0, a, s2)) : Ct l D [(cI, .int), (cB, .byte), (cL, .byte), (cO, .object RX0)] pf yX10_cohortCount cX10_cohortCount 2 (some FieldType.int) { frames := 8, cells := 0, slots := 0, locals := 151 } [.ref (A 0 0), .int x1] (wPL cI cB cO A s) (is1 (some (.int a)) (wPL cI cB cO A s2)) := by
  refine Ct_of (own := RX10) (lv0 := [(0, .ref (A 0 0)), (1, .int x1)]) (by decide) rfl rfl (Nat.le_of_ble_eq_true rfl) ?_
  intro p e s' m args below meth c C hr hnm
  unfold P_cohortCount at h
  refine J_aload_n (pc := 0) C dX10_cohortCount_0 0 rfl ?_
  refine J_iload_n (pc := 1) C dX10_cohortCount_1 1 rfl ?_
  refine xr h (fun hq h => ?_)
  refine J_cvK (V := none) (pc := 2) (As := [.int x1]) (st := []) C (wPL cI cB cO A s) dX10_cohortCount_2 ml_RX10_116 mi_yX10_needMember (R_needMember l D cI cB cL cO pf N A s x1 hq) at_this rfl rfl ⟨rfl, rfl⟩ ⟨(Nat.le_of_ble_eq_true rfl), (Nat.le_of_ble_eq_true rfl)⟩ ⟨(Nat.le_of_ble_eq_true rfl), (Nat.le_of_ble_eq_true rfl)⟩ (Nat.le_of_ble_eq_true rfl) ?_
  refine J_aload_n (pc := 5) C dX10_cohortCount_5 0 rfl ?_
  refine J_get (pc := 6) C dX10_cohortCount_6 jf_X10 0 at_this rfl 4 (by decide) rfl fl_RX10_40 rfl ?_
  refine J_cvL (pc := 9) (As := []) (st := []) (V := fun r9 => some (.ref (A 5 1))) C (fun r9 => (wPL cI cB cO A s)) dX10_cohortCount_9 ml_RX10_161 mi_yX0_cohorts (fun r hr => L_B_cohorts l D cI cB cL cO pf N A s r hr) h at_books rfl rfl ⟨rfl, rfl⟩ ⟨(Nat.le_of_ble_eq_true rfl), (Nat.le_of_ble_eq_true rfl)⟩ ⟨(Nat.le_of_ble_eq_true rfl), (Nat.le_of_ble_eq_true rfl)⟩ (Nat.le_of_ble_eq_true rfl) (fun r9 h => ?_)
  refine J_iload_n (pc := 12) C dX10_cohortCount_12 1 rfl ?_
  refine J_cvL (pc := 13) (As := [.int x1]) (st := []) (V := fun r13 => some (.int r13)) C (fun r13 => (wPL cI cB cO A s)) dX10_cohortCount_13 ml_RX10_229 mi_yX1_number (fun r hr => L_H_number l D cI cB cL cO pf N A s x1 r hr) h at_books_cohorts rfl rfl ⟨rfl, rfl⟩ ⟨(Nat.le_of_ble_eq_true rfl), (Nat.le_of_ble_eq_true rfl)⟩ ⟨(Nat.le_of_ble_eq_true rfl), (Nat.le_of_ble_eq_true rfl)⟩ (Nat.le_of_ble_eq_true rfl) (fun r13 h => ?_)
  cases h
  exact J_iret (pc := 16) C dX10_cohortCount_16 hr ⟨rfl, rfl⟩
set_option maxHeartbeats 4000000 in
set_option maxRecDepth 100000 in
theorem R_cohort (l : Launch) (D : va_G) (cI cB cL cO : ClassId) (pf : Nat → Nat) (N : Nat) (A : Nat → Nat → Nat) (s : T_PL) (x1 : Int32) (x2 : Int32) (x3 : Int32) {a : Int32} {s2 : T_PL} (h : P_cohort N s x1 x2 x3 = some (0, a, s2)) : Ct l D [(cI, .int), (cB, .byte), (cL, .byte), (cO, .object RX0)] pf yX10_cohort cX10_cohort 4 (some FieldType.int) { frames := 8, cells := 0, slots := 0, locals := 152 } [.ref (A 0 0), .int x1, .int x2, .int x3] (wPL cI cB cO A s) (is1 (some (.int a)) (wPL cI cB cO A s2)) := by
  refine Ct_of (own := RX10) (lv0 := [(0, .ref (A 0 0)), (1, .int x1), (2, .int x2), (3, .int x3)]) (by decide) rfl rfl (Nat.le_of_ble_eq_true rfl) ?_
  intro p e s' m args below meth c C hr hnm
  unfold P_cohort at h
  refine J_aload_n (pc := 0) C dX10_cohort_0 0 rfl ?_
  refine J_iload_n (pc := 1) C dX10_cohort_1 1 rfl ?_
  refine xr h (fun hq h => ?_)
  refine J_cvK (V := none) (pc := 2) (As := [.int x1]) (st := []) C (wPL cI cB cO A s) dX10_cohort_2 ml_RX10_116 mi_yX10_needMember (R_needMember l D cI cB cL cO pf N A s x1 hq) at_this rfl rfl ⟨rfl, rfl⟩ ⟨(Nat.le_of_ble_eq_true rfl), (Nat.le_of_ble_eq_true rfl)⟩ ⟨(Nat.le_of_ble_eq_true rfl), (Nat.le_of_ble_eq_true rfl)⟩ (Nat.le_of_ble_eq_true rfl) ?_
  refine J_aload_n (pc := 5) C dX10_cohort_5 0 rfl ?_
  refine J_iload_n (pc := 6) C dX10_cohort_6 1 rfl ?_
  refine J_iload_n (pc := 7) C dX10_cohort_7 2 rfl ?_
  refine xr h (fun hq h => ?_)
  refine J_cvK (V := none) (pc := 8) (As := [.int x1, .int x2]) (st := []) C (wPL cI cB cO A s) dX10_cohort_8 ml_RX10_232 mi_yX10_needCohort (R_needCohort l D cI cB cL cO pf N A s x1 x2 hq) at_this rfl rfl ⟨rfl, rfl⟩ ⟨(Nat.le_of_ble_eq_true rfl), (Nat.le_of_ble_eq_true rfl)⟩ ⟨(Nat.le_of_ble_eq_true rfl), (Nat.le_of_ble_eq_true rfl)⟩ (Nat.le_of_ble_eq_true rfl) ?_
  refine J_iload_n (pc := 11) C dX10_cohort_11 3 rfl ?_
  refine J_iconst (v := (0 : Int32)) (pc := 12) C dX10_cohort_12 (by decide) ?_
  refine J_iconst (v := (1 : Int32)) (pc := 13) C dX10_cohort_13 (by decide) ?_
  refine xr h (fun hq h => ?_)
  refine J_csK (b := 0) (V := none) (pc := 14) (As := [.int x3, .int (0 : Int32), .int (1 : Int32)]) (st := []) C (wPL cI cB cO A s) dX10_cohort_14 ml_RX10_77 mi_yX10_needBetween (R_needBetween l D cI cB cL cO pf N A s x3 (0 : Int32) (1 : Int32) hq) rfl ⟨rfl, rfl⟩ ⟨(Nat.le_of_ble_eq_true rfl), (Nat.le_of_ble_eq_true rfl)⟩ ⟨(Nat.le_of_ble_eq_true rfl), (Nat.le_of_ble_eq_true rfl)⟩ (Nat.le_of_ble_eq_true rfl) ?_
  refine J_aload_n (pc := 17) C dX10_cohort_17 0 rfl ?_
  refine J_get (pc := 18) C dX10_cohort_18 jf_X10 0 at_this rfl 4 (by decide) rfl fl_RX10_40 rfl ?_
  refine J_cvL (pc := 21) (As := []) (st := []) (V := fun r21 => some (.ref (A 5 1))) C (fun r21 => (wPL cI cB cO A s)) dX10_cohort_21 ml_RX10_161 mi_yX0_cohorts (fun r hr => L_B_cohorts l D cI cB cL cO pf N A s r hr) h at_books rfl rfl ⟨rfl, rfl⟩ ⟨(Nat.le_of_ble_eq_true rfl), (Nat.le_of_ble_eq_true rfl)⟩ ⟨(Nat.le_of_ble_eq_true rfl), (Nat.le_of_ble_eq_true rfl)⟩ (Nat.le_of_ble_eq_true rfl) (fun r21 h => ?_)
  refine J_iload_n (pc := 24) C dX10_cohort_24 1 rfl ?_
  refine J_iload_n (pc := 25) C dX10_cohort_25 2 rfl ?_
  refine J_iload_n (pc := 26) C dX10_cohort_26 3 rfl ?_
  refine J_cvL (pc := 27) (As := [.int x1, .int x2, .int x3]) (st := []) (V := fun r27 => some (.int r27)) C (fun r27 => (wPL cI cB cO A s)) dX10_cohort_27 ml_RX10_235 mi_yX1_part (fun r hr => L_H_part l D cI cB cL cO pf N A s x1 x2 x3 r hr) h at_books_cohorts rfl rfl ⟨rfl, rfl⟩ ⟨(Nat.le_of_ble_eq_true rfl), (Nat.le_of_ble_eq_true rfl)⟩ ⟨(Nat.le_of_ble_eq_true rfl), (Nat.le_of_ble_eq_true rfl)⟩ (Nat.le_of_ble_eq_true rfl) (fun r27 h => ?_)
  cases h
  exact J_iret (pc := 30) C dX10_cohort_30 hr ⟨rfl, rfl⟩
set_option maxHeartbeats 4000000 in
set_option maxRecDepth 100000 in
theorem R_household (l : Launch) (D : va_G) (cI cB cL cO : ClassId) (pf : Nat → Nat) (N : Nat) (A : Nat → Nat → Nat) (s : T_PL) (x1 : Int32) {a : Int32} {s2 : T_PL} (h : P_household N s x1 = some (0, a, s2)) : Ct l D [(cI, .int), (cB, .byte), (cL, .byte), (cO, .object RX0)] pf yX10_household cX10_household 2 (some FieldType.int) { frames := 8, cells := 0, slots := 0, locals := 151 } [.ref (A 0 0), .int x1] (wPL cI cB cO A s) (is1 (some (.int a)) (wPL cI cB cO A s2)) := by
  refine Ct_of (own := RX10) (lv0 := [(0, .ref (A 0 0)), (1, .int x1)]) (by decide) rfl rfl (Nat.le_of_ble_eq_true rfl) ?_
  intro p e s' m args below meth c C hr hnm
  unfold P_household at h
  refine J_aload_n (pc := 0) C dX10_household_0 0 rfl ?_
  refine J_iload_n (pc := 1) C dX10_household_1 1 rfl ?_
  refine xr h (fun hq h => ?_)
  refine J_cvK (V := none) (pc := 2) (As := [.int x1]) (st := []) C (wPL cI cB cO A s) dX10_household_2 ml_RX10_116 mi_yX10_needMember (R_needMember l D cI cB cL cO pf N A s x1 hq) at_this rfl rfl ⟨rfl, rfl⟩ ⟨(Nat.le_of_ble_eq_true rfl), (Nat.le_of_ble_eq_true rfl)⟩ ⟨(Nat.le_of_ble_eq_true rfl), (Nat.le_of_ble_eq_true rfl)⟩ (Nat.le_of_ble_eq_true rfl) ?_
  refine J_aload_n (pc := 5) C dX10_household_5 0 rfl ?_
  refine J_get (pc := 6) C dX10_household_6 jf_X10 0 at_this rfl 4 (by decide) rfl fl_RX10_40 rfl ?_
  refine J_iload_n (pc := 9) C dX10_household_9 1 rfl ?_
  refine J_cvL (pc := 10) (As := [.int x1]) (st := []) (V := fun r10 => some (.int r10)) C (fun r10 => (wPL cI cB cO A s)) dX10_household_10 ml_RX10_178 mi_yX0_homeOf (fun r hr => L_B_homeOf l D cI cB cL cO pf N A s x1 r hr) h at_books rfl rfl ⟨rfl, rfl⟩ ⟨(Nat.le_of_ble_eq_true rfl), (Nat.le_of_ble_eq_true rfl)⟩ ⟨(Nat.le_of_ble_eq_true rfl), (Nat.le_of_ble_eq_true rfl)⟩ (Nat.le_of_ble_eq_true rfl) (fun r10 h => ?_)
  cases h
  exact J_iret (pc := 13) C dX10_household_13 hr ⟨rfl, rfl⟩
set_option maxHeartbeats 4000000 in
set_option maxRecDepth 100000 in
theorem R_members (l : Launch) (D : va_G) (cI cB cL cO : ClassId) (pf : Nat → Nat) (N : Nat) (A : Nat → Nat → Nat) (s : T_PL) (x1 : Int32) {a : Int32} {s2 : T_PL} (h : P_members N s x1 = some (0, a, s2)) : Ct l D [(cI, .int), (cB, .byte), (cL, .byte), (cO, .object RX0)] pf yX10_members cX10_members 2 (some FieldType.int) { frames := 8, cells := 0, slots := 0, locals := 151 } [.ref (A 0 0), .int x1] (wPL cI cB cO A s) (is1 (some (.int a)) (wPL cI cB cO A s2)) := by
  refine Ct_of (own := RX10) (lv0 := [(0, .ref (A 0 0)), (1, .int x1)]) (by decide) rfl rfl (Nat.le_of_ble_eq_true rfl) ?_
  intro p e s' m args below meth c C hr hnm
  unfold P_members at h
  refine J_aload_n (pc := 0) C dX10_members_0 0 rfl ?_
  refine J_iload_n (pc := 1) C dX10_members_1 1 rfl ?_
  refine xr h (fun hq h => ?_)
  refine J_cvK (V := none) (pc := 2) (As := [.int x1]) (st := []) C (wPL cI cB cO A s) dX10_members_2 ml_RX10_175 mi_yX10_needHousehold (R_needHousehold l D cI cB cL cO pf N A s x1 hq) at_this rfl rfl ⟨rfl, rfl⟩ ⟨(Nat.le_of_ble_eq_true rfl), (Nat.le_of_ble_eq_true rfl)⟩ ⟨(Nat.le_of_ble_eq_true rfl), (Nat.le_of_ble_eq_true rfl)⟩ (Nat.le_of_ble_eq_true rfl) ?_
  refine J_aload_n (pc := 5) C dX10_members_5 0 rfl ?_
  refine J_get (pc := 6) C dX10_members_6 jf_X10 0 at_this rfl 4 (by decide) rfl fl_RX10_40 rfl ?_
  refine J_iload_n (pc := 9) C dX10_members_9 1 rfl ?_
  refine J_cvL (pc := 10) (As := [.int x1]) (st := []) (V := fun r10 => some (.int r10)) C (fun r10 => (wPL cI cB cO A s)) dX10_members_10 ml_RX10_237 mi_yX0_memberBits (fun r hr => L_B_memberBits l D cI cB cL cO pf N A s x1 r hr) h at_books rfl rfl ⟨rfl, rfl⟩ ⟨(Nat.le_of_ble_eq_true rfl), (Nat.le_of_ble_eq_true rfl)⟩ ⟨(Nat.le_of_ble_eq_true rfl), (Nat.le_of_ble_eq_true rfl)⟩ (Nat.le_of_ble_eq_true rfl) (fun r10 h => ?_)
  cases h
  exact J_iret (pc := 13) C dX10_members_13 hr ⟨rfl, rfl⟩
set_option maxHeartbeats 4000000 in
set_option maxRecDepth 100000 in
theorem R_poolBalance (l : Launch) (D : va_G) (cI cB cL cO : ClassId) (pf : Nat → Nat) (N : Nat) (A : Nat → Nat → Nat) (s : T_PL) (x1 : Int32) {a : Int32} {s2 : T_PL} (h : P_poolBalance N s x1 = some (0, a, s2)) : Ct l D [(cI, .int), (cB, .byte), (cL, .byte), (cO, .object RX0)] pf yX10_poolBalance cX10_poolBalance 2 (some FieldType.int) { frames := 8, cells := 0, slots := 0, locals := 151 } [.ref (A 0 0), .int x1] (wPL cI cB cO A s) (is1 (some (.int a)) (wPL cI cB cO A s2)) := by
  refine Ct_of (own := RX10) (lv0 := [(0, .ref (A 0 0)), (1, .int x1)]) (by decide) rfl rfl (Nat.le_of_ble_eq_true rfl) ?_
  intro p e s' m args below meth c C hr hnm
  unfold P_poolBalance at h
  refine J_aload_n (pc := 0) C dX10_poolBalance_0 0 rfl ?_
  refine J_iload_n (pc := 1) C dX10_poolBalance_1 1 rfl ?_
  refine xr h (fun hq h => ?_)
  refine J_cvK (V := none) (pc := 2) (As := [.int x1]) (st := []) C (wPL cI cB cO A s) dX10_poolBalance_2 ml_RX10_175 mi_yX10_needHousehold (R_needHousehold l D cI cB cL cO pf N A s x1 hq) at_this rfl rfl ⟨rfl, rfl⟩ ⟨(Nat.le_of_ble_eq_true rfl), (Nat.le_of_ble_eq_true rfl)⟩ ⟨(Nat.le_of_ble_eq_true rfl), (Nat.le_of_ble_eq_true rfl)⟩ (Nat.le_of_ble_eq_true rfl) ?_
  refine J_aload_n (pc := 5) C dX10_poolBalance_5 0 rfl ?_
  refine J_get (pc := 6) C dX10_poolBalance_6 jf_X10 0 at_this rfl 4 (by decide) rfl fl_RX10_40 rfl ?_
  refine J_cvL (pc := 9) (As := []) (st := []) (V := fun r9 => some (.ref (A 5 1))) C (fun r9 => (wPL cI cB cO A s)) dX10_poolBalance_9 ml_RX10_161 mi_yX0_cohorts (fun r hr => L_B_cohorts l D cI cB cL cO pf N A s r hr) h at_books rfl rfl ⟨rfl, rfl⟩ ⟨(Nat.le_of_ble_eq_true rfl), (Nat.le_of_ble_eq_true rfl)⟩ ⟨(Nat.le_of_ble_eq_true rfl), (Nat.le_of_ble_eq_true rfl)⟩ (Nat.le_of_ble_eq_true rfl) (fun r9 h => ?_)
  refine J_iload_n (pc := 12) C dX10_poolBalance_12 1 rfl ?_
  refine J_csL (b := 0) (pc := 13) (As := [.int x1]) (st := [.ref (A 5 1)]) (V := fun r13 => some (.int r13)) C (fun _ => (wPL cI cB cO A s)) dX10_poolBalance_13 ml_RX10_240 mi_yX10_poolList (fun r hr => L_poolList l D cI cB cL cO pf N A s x1 r hr) h rfl ⟨rfl, rfl⟩ ⟨(Nat.le_of_ble_eq_true rfl), (Nat.le_of_ble_eq_true rfl)⟩ ⟨(Nat.le_of_ble_eq_true rfl), (Nat.le_of_ble_eq_true rfl)⟩ (Nat.le_of_ble_eq_true rfl) (fun r13 h => ?_)
  refine J_bipush (v := (-2 : Int32)) (pc := 16) C dX10_poolBalance_16 (by decide) ?_
  refine J_cvL (pc := 18) (As := [.int r13, .int (-2 : Int32)]) (st := []) (V := fun r18 => some (.int r18)) C (fun r18 => (wPL cI cB cO A s)) dX10_poolBalance_18 ml_RX10_165 mi_yX1_sum (fun r hr => L_H_sum l D cI cB cL cO pf N A s r13 (-2 : Int32) r hr) h at_books_cohorts rfl rfl ⟨rfl, rfl⟩ ⟨(Nat.le_of_ble_eq_true rfl), (Nat.le_of_ble_eq_true rfl)⟩ ⟨(Nat.le_of_ble_eq_true rfl), (Nat.le_of_ble_eq_true rfl)⟩ (Nat.le_of_ble_eq_true rfl) (fun r18 h => ?_)
  cases h
  exact J_iret (pc := 21) C dX10_poolBalance_21 hr ⟨rfl, rfl⟩
set_option maxHeartbeats 4000000 in
set_option maxRecDepth 100000 in
theorem R_poolCohortCount (l : Launch) (D : va_G) (cI cB cL cO : ClassId) (pf : Nat → Nat) (N : Nat) (A : Nat → Nat → Nat) (s : T_PL) (x1 : Int32) {a : Int32} {s2 : T_PL} (h : P_poolCohortCount N s x1 = some (0, a, s2)) : Ct l D [(cI, .int), (cB, .byte), (cL, .byte), (cO, .object RX0)] pf yX10_poolCohortCount cX10_poolCohortCount 2 (some FieldType.int) { frames := 8, cells := 0, slots := 0, locals := 151 } [.ref (A 0 0), .int x1] (wPL cI cB cO A s) (is1 (some (.int a)) (wPL cI cB cO A s2)) := by
  refine Ct_of (own := RX10) (lv0 := [(0, .ref (A 0 0)), (1, .int x1)]) (by decide) rfl rfl (Nat.le_of_ble_eq_true rfl) ?_
  intro p e s' m args below meth c C hr hnm
  unfold P_poolCohortCount at h
  refine J_aload_n (pc := 0) C dX10_poolCohortCount_0 0 rfl ?_
  refine J_iload_n (pc := 1) C dX10_poolCohortCount_1 1 rfl ?_
  refine xr h (fun hq h => ?_)
  refine J_cvK (V := none) (pc := 2) (As := [.int x1]) (st := []) C (wPL cI cB cO A s) dX10_poolCohortCount_2 ml_RX10_175 mi_yX10_needHousehold (R_needHousehold l D cI cB cL cO pf N A s x1 hq) at_this rfl rfl ⟨rfl, rfl⟩ ⟨(Nat.le_of_ble_eq_true rfl), (Nat.le_of_ble_eq_true rfl)⟩ ⟨(Nat.le_of_ble_eq_true rfl), (Nat.le_of_ble_eq_true rfl)⟩ (Nat.le_of_ble_eq_true rfl) ?_
  refine J_aload_n (pc := 5) C dX10_poolCohortCount_5 0 rfl ?_
  refine J_get (pc := 6) C dX10_poolCohortCount_6 jf_X10 0 at_this rfl 4 (by decide) rfl fl_RX10_40 rfl ?_
  refine J_cvL (pc := 9) (As := []) (st := []) (V := fun r9 => some (.ref (A 5 1))) C (fun r9 => (wPL cI cB cO A s)) dX10_poolCohortCount_9 ml_RX10_161 mi_yX0_cohorts (fun r hr => L_B_cohorts l D cI cB cL cO pf N A s r hr) h at_books rfl rfl ⟨rfl, rfl⟩ ⟨(Nat.le_of_ble_eq_true rfl), (Nat.le_of_ble_eq_true rfl)⟩ ⟨(Nat.le_of_ble_eq_true rfl), (Nat.le_of_ble_eq_true rfl)⟩ (Nat.le_of_ble_eq_true rfl) (fun r9 h => ?_)
  refine J_iload_n (pc := 12) C dX10_poolCohortCount_12 1 rfl ?_
  refine J_csL (b := 0) (pc := 13) (As := [.int x1]) (st := [.ref (A 5 1)]) (V := fun r13 => some (.int r13)) C (fun _ => (wPL cI cB cO A s)) dX10_poolCohortCount_13 ml_RX10_240 mi_yX10_poolList (fun r hr => L_poolList l D cI cB cL cO pf N A s x1 r hr) h rfl ⟨rfl, rfl⟩ ⟨(Nat.le_of_ble_eq_true rfl), (Nat.le_of_ble_eq_true rfl)⟩ ⟨(Nat.le_of_ble_eq_true rfl), (Nat.le_of_ble_eq_true rfl)⟩ (Nat.le_of_ble_eq_true rfl) (fun r13 h => ?_)
  refine J_cvL (pc := 16) (As := [.int r13]) (st := []) (V := fun r16 => some (.int r16)) C (fun r16 => (wPL cI cB cO A s)) dX10_poolCohortCount_16 ml_RX10_229 mi_yX1_number (fun r hr => L_H_number l D cI cB cL cO pf N A s r13 r hr) h at_books_cohorts rfl rfl ⟨rfl, rfl⟩ ⟨(Nat.le_of_ble_eq_true rfl), (Nat.le_of_ble_eq_true rfl)⟩ ⟨(Nat.le_of_ble_eq_true rfl), (Nat.le_of_ble_eq_true rfl)⟩ (Nat.le_of_ble_eq_true rfl) (fun r16 h => ?_)
  cases h
  exact J_iret (pc := 19) C dX10_poolCohortCount_19 hr ⟨rfl, rfl⟩
set_option maxHeartbeats 4000000 in
set_option maxRecDepth 100000 in
theorem R_poolCohort (l : Launch) (D : va_G) (cI cB cL cO : ClassId) (pf : Nat → Nat) (N : Nat) (A : Nat → Nat → Nat) (s : T_PL) (x1 : Int32) (x2 : Int32) (x3 : Int32) {a : Int32} {s2 : T_PL} (h : P_poolCohort N s x1 x2 x3 = some (0, a, s2)) : Ct l D [(cI, .int), (cB, .byte), (cL, .byte), (cO, .object RX0)] pf yX10_poolCohort cX10_poolCohort 4 (some FieldType.int) { frames := 8, cells := 0, slots := 0, locals := 152 } [.ref (A 0 0), .int x1, .int x2, .int x3] (wPL cI cB cO A s) (is1 (some (.int a)) (wPL cI cB cO A s2)) := by
  refine Ct_of (own := RX10) (lv0 := [(0, .ref (A 0 0)), (1, .int x1), (2, .int x2), (3, .int x3)]) (by decide) rfl rfl (Nat.le_of_ble_eq_true rfl) ?_
  intro p e s' m args below meth c C hr hnm
  unfold P_poolCohort at h
  refine J_aload_n (pc := 0) C dX10_poolCohort_0 0 rfl ?_
  refine J_iload_n (pc := 1) C dX10_poolCohort_1 1 rfl ?_
  refine xr h (fun hq h => ?_)
  refine J_cvK (V := none) (pc := 2) (As := [.int x1]) (st := []) C (wPL cI cB cO A s) dX10_poolCohort_2 ml_RX10_175 mi_yX10_needHousehold (R_needHousehold l D cI cB cL cO pf N A s x1 hq) at_this rfl rfl ⟨rfl, rfl⟩ ⟨(Nat.le_of_ble_eq_true rfl), (Nat.le_of_ble_eq_true rfl)⟩ ⟨(Nat.le_of_ble_eq_true rfl), (Nat.le_of_ble_eq_true rfl)⟩ (Nat.le_of_ble_eq_true rfl) ?_
  refine J_aload_n (pc := 5) C dX10_poolCohort_5 0 rfl ?_
  refine J_iload_n (pc := 6) C dX10_poolCohort_6 1 rfl ?_
  refine J_csL (b := 0) (pc := 7) (As := [.int x1]) (st := [.ref (A 0 0)]) (V := fun r7 => some (.int r7)) C (fun _ => (wPL cI cB cO A s)) dX10_poolCohort_7 ml_RX10_240 mi_yX10_poolList (fun r hr => L_poolList l D cI cB cL cO pf N A s x1 r hr) h rfl ⟨rfl, rfl⟩ ⟨(Nat.le_of_ble_eq_true rfl), (Nat.le_of_ble_eq_true rfl)⟩ ⟨(Nat.le_of_ble_eq_true rfl), (Nat.le_of_ble_eq_true rfl)⟩ (Nat.le_of_ble_eq_true rfl) (fun r7 h => ?_)
  refine J_iload_n (pc := 10) C dX10_poolCohort_10 2 rfl ?_
  refine xr h (fun hq h => ?_)
  refine J_cvK (V := none) (pc := 11) (As := [.int r7, .int x2]) (st := []) C (wPL cI cB cO A s) dX10_poolCohort_11 ml_RX10_232 mi_yX10_needCohort (R_needCohort l D cI cB cL cO pf N A s r7 x2 hq) at_this rfl rfl ⟨rfl, rfl⟩ ⟨(Nat.le_of_ble_eq_true rfl), (Nat.le_of_ble_eq_true rfl)⟩ ⟨(Nat.le_of_ble_eq_true rfl), (Nat.le_of_ble_eq_true rfl)⟩ (Nat.le_of_ble_eq_true rfl) ?_
  refine J_iload_n (pc := 14) C dX10_poolCohort_14 3 rfl ?_
  refine J_iconst (v := (0 : Int32)) (pc := 15) C dX10_poolCohort_15 (by decide) ?_
  refine J_iconst (v := (2 : Int32)) (pc := 16) C dX10_poolCohort_16 (by decide) ?_
  refine xr h (fun hq h => ?_)
  refine J_csK (b := 0) (V := none) (pc := 17) (As := [.int x3, .int (0 : Int32), .int (2 : Int32)]) (st := []) C (wPL cI cB cO A s) dX10_poolCohort_17 ml_RX10_77 mi_yX10_needBetween (R_needBetween l D cI cB cL cO pf N A s x3 (0 : Int32) (2 : Int32) hq) rfl ⟨rfl, rfl⟩ ⟨(Nat.le_of_ble_eq_true rfl), (Nat.le_of_ble_eq_true rfl)⟩ ⟨(Nat.le_of_ble_eq_true rfl), (Nat.le_of_ble_eq_true rfl)⟩ (Nat.le_of_ble_eq_true rfl) ?_
  refine J_aload_n (pc := 20) C dX10_poolCohort_20 0 rfl ?_
  refine J_get (pc := 21) C dX10_poolCohort_21 jf_X10 0 at_this rfl 4 (by decide) rfl fl_RX10_40 rfl ?_
  refine J_cvL (pc := 24) (As := []) (st := []) (V := fun r24 => some (.ref (A 5 1))) C (fun r24 => (wPL cI cB cO A s)) dX10_poolCohort_24 ml_RX10_161 mi_yX0_cohorts (fun r hr => L_B_cohorts l D cI cB cL cO pf N A s r hr) h at_books rfl rfl ⟨rfl, rfl⟩ ⟨(Nat.le_of_ble_eq_true rfl), (Nat.le_of_ble_eq_true rfl)⟩ ⟨(Nat.le_of_ble_eq_true rfl), (Nat.le_of_ble_eq_true rfl)⟩ (Nat.le_of_ble_eq_true rfl) (fun r24 h => ?_)
  refine J_iload_n (pc := 27) C dX10_poolCohort_27 1 rfl ?_
  refine J_csL (b := 0) (pc := 28) (As := [.int x1]) (st := [.ref (A 5 1)]) (V := fun r28 => some (.int r28)) C (fun _ => (wPL cI cB cO A s)) dX10_poolCohort_28 ml_RX10_240 mi_yX10_poolList (fun r hr => L_poolList l D cI cB cL cO pf N A s x1 r hr) h rfl ⟨rfl, rfl⟩ ⟨(Nat.le_of_ble_eq_true rfl), (Nat.le_of_ble_eq_true rfl)⟩ ⟨(Nat.le_of_ble_eq_true rfl), (Nat.le_of_ble_eq_true rfl)⟩ (Nat.le_of_ble_eq_true rfl) (fun r28 h => ?_)
  refine J_iload_n (pc := 31) C dX10_poolCohort_31 2 rfl ?_
  refine J_iload_n (pc := 32) C dX10_poolCohort_32 3 rfl ?_
  refine J_cvL (pc := 33) (As := [.int r28, .int x2, .int x3]) (st := []) (V := fun r33 => some (.int r33)) C (fun r33 => (wPL cI cB cO A s)) dX10_poolCohort_33 ml_RX10_235 mi_yX1_part (fun r hr => L_H_part l D cI cB cL cO pf N A s r28 x2 x3 r hr) h at_books_cohorts rfl rfl ⟨rfl, rfl⟩ ⟨(Nat.le_of_ble_eq_true rfl), (Nat.le_of_ble_eq_true rfl)⟩ ⟨(Nat.le_of_ble_eq_true rfl), (Nat.le_of_ble_eq_true rfl)⟩ (Nat.le_of_ble_eq_true rfl) (fun r33 h => ?_)
  cases h
  exact J_iret (pc := 36) C dX10_poolCohort_36 hr ⟨rfl, rfl⟩
set_option maxHeartbeats 4000000 in
set_option maxRecDepth 100000 in
theorem R_contributed (l : Launch) (D : va_G) (cI cB cL cO : ClassId) (pf : Nat → Nat) (N : Nat) (A : Nat → Nat → Nat) (s : T_PL) (x1 : Int32) {a : Int32} {s2 : T_PL} (h : P_contributed N s x1 = some (0, a, s2)) : Ct l D [(cI, .int), (cB, .byte), (cL, .byte), (cO, .object RX0)] pf yX10_contributed cX10_contributed 2 (some FieldType.int) { frames := 8, cells := 0, slots := 0, locals := 151 } [.ref (A 0 0), .int x1] (wPL cI cB cO A s) (is1 (some (.int a)) (wPL cI cB cO A s2)) := by
  refine Ct_of (own := RX10) (lv0 := [(0, .ref (A 0 0)), (1, .int x1)]) (by decide) rfl rfl (Nat.le_of_ble_eq_true rfl) ?_
  intro p e s' m args below meth c C hr hnm
  unfold P_contributed at h
  refine J_aload_n (pc := 0) C dX10_contributed_0 0 rfl ?_
  refine J_iload_n (pc := 1) C dX10_contributed_1 1 rfl ?_
  refine xr h (fun hq h => ?_)
  refine J_cvK (V := none) (pc := 2) (As := [.int x1]) (st := []) C (wPL cI cB cO A s) dX10_contributed_2 ml_RX10_116 mi_yX10_needMember (R_needMember l D cI cB cL cO pf N A s x1 hq) at_this rfl rfl ⟨rfl, rfl⟩ ⟨(Nat.le_of_ble_eq_true rfl), (Nat.le_of_ble_eq_true rfl)⟩ ⟨(Nat.le_of_ble_eq_true rfl), (Nat.le_of_ble_eq_true rfl)⟩ (Nat.le_of_ble_eq_true rfl) ?_
  refine J_aload_n (pc := 5) C dX10_contributed_5 0 rfl ?_
  refine J_get (pc := 6) C dX10_contributed_6 jf_X10 0 at_this rfl 4 (by decide) rfl fl_RX10_40 rfl ?_
  refine J_cvL (pc := 9) (As := []) (st := []) (V := fun r9 => some (.ref (A 5 1))) C (fun r9 => (wPL cI cB cO A s)) dX10_contributed_9 ml_RX10_161 mi_yX0_cohorts (fun r hr => L_B_cohorts l D cI cB cL cO pf N A s r hr) h at_books rfl rfl ⟨rfl, rfl⟩ ⟨(Nat.le_of_ble_eq_true rfl), (Nat.le_of_ble_eq_true rfl)⟩ ⟨(Nat.le_of_ble_eq_true rfl), (Nat.le_of_ble_eq_true rfl)⟩ (Nat.le_of_ble_eq_true rfl) (fun r9 h => ?_)
  refine J_aload_n (pc := 12) C dX10_contributed_12 0 rfl ?_
  refine J_get (pc := 13) C dX10_contributed_13 jf_X10 0 at_this rfl 4 (by decide) rfl fl_RX10_40 rfl ?_
  refine J_iload_n (pc := 16) C dX10_contributed_16 1 rfl ?_
  refine J_cvL (pc := 17) (As := [.int x1]) (st := [.ref (A 5 1)]) (V := fun r17 => some (.int r17)) C (fun r17 => (wPL cI cB cO A s)) dX10_contributed_17 ml_RX10_243 mi_yX0_poolOf (fun r hr => L_B_poolOf l D cI cB cL cO pf N A s x1 r hr) h at_books rfl rfl ⟨rfl, rfl⟩ ⟨(Nat.le_of_ble_eq_true rfl), (Nat.le_of_ble_eq_true rfl)⟩ ⟨(Nat.le_of_ble_eq_true rfl), (Nat.le_of_ble_eq_true rfl)⟩ (Nat.le_of_ble_eq_true rfl) (fun r17 h => ?_)
  refine J_iload_n (pc := 20) C dX10_contributed_20 1 rfl ?_
  refine J_cvL (pc := 21) (As := [.int r17, .int x1]) (st := []) (V := fun r21 => some (.int r21)) C (fun r21 => (wPL cI cB cO A s)) dX10_contributed_21 ml_RX10_165 mi_yX1_sum (fun r hr => L_H_sum l D cI cB cL cO pf N A s r17 x1 r hr) h at_books_cohorts rfl rfl ⟨rfl, rfl⟩ ⟨(Nat.le_of_ble_eq_true rfl), (Nat.le_of_ble_eq_true rfl)⟩ ⟨(Nat.le_of_ble_eq_true rfl), (Nat.le_of_ble_eq_true rfl)⟩ (Nat.le_of_ble_eq_true rfl) (fun r21 h => ?_)
  cases h
  exact J_iret (pc := 24) C dX10_contributed_24 hr ⟨rfl, rfl⟩
set_option maxHeartbeats 4000000 in
set_option maxRecDepth 100000 in
theorem R_total (l : Launch) (D : va_G) (cI cB cL cO : ClassId) (pf : Nat → Nat) (N : Nat) (A : Nat → Nat → Nat) (s : T_PL) (x1 : Int32) {a : Int32} {s2 : T_PL} (h : P_total N s x1 = some (0, a, s2)) : Ct l D [(cI, .int), (cB, .byte), (cL, .byte), (cO, .object RX0)] pf yX10_total cX10_total 2 (some FieldType.int) { frames := 8, cells := 0, slots := 0, locals := 152 } [.ref (A 0 0), .int x1] (wPL cI cB cO A s) (is1 (some (.int a)) (wPL cI cB cO A s2)) := by
  refine Ct_of (own := RX10) (lv0 := [(0, .ref (A 0 0)), (1, .int x1)]) (by decide) rfl rfl (Nat.le_of_ble_eq_true rfl) ?_
  intro p e s' m args below meth c C hr hnm
  unfold P_total at h
  refine J_iload_n (pc := 0) C dX10_total_0 1 rfl ?_
  refine J_iconst (v := (0 : Int32)) (pc := 1) C dX10_total_1 (by decide) ?_
  refine J_bipush (v := (6 : Int32)) (pc := 2) C dX10_total_2 (by decide) ?_
  refine xr h (fun hq h => ?_)
  refine J_csK (b := 0) (V := none) (pc := 4) (As := [.int x1, .int (0 : Int32), .int (6 : Int32)]) (st := []) C (wPL cI cB cO A s) dX10_total_4 ml_RX10_77 mi_yX10_needBetween (R_needBetween l D cI cB cL cO pf N A s x1 (0 : Int32) (6 : Int32) hq) rfl ⟨rfl, rfl⟩ ⟨(Nat.le_of_ble_eq_true rfl), (Nat.le_of_ble_eq_true rfl)⟩ ⟨(Nat.le_of_ble_eq_true rfl), (Nat.le_of_ble_eq_true rfl)⟩ (Nat.le_of_ble_eq_true rfl) ?_
  refine J_aload_n (pc := 7) C dX10_total_7 0 rfl ?_
  refine J_get (pc := 8) C dX10_total_8 jf_X10 0 at_this rfl 4 (by decide) rfl fl_RX10_40 rfl ?_
  refine J_iload_n (pc := 11) C dX10_total_11 1 rfl ?_
  refine J_cvL (pc := 12) (As := [.int x1]) (st := []) (V := fun r12 => some (.int r12)) C (fun r12 => (wPL cI cB cO A s)) dX10_total_12 ml_RX10_246 mi_yX0_totalOf (fun r hr => L_B_totalOf l D cI cB cL cO pf N A s x1 r hr) h at_books rfl rfl ⟨rfl, rfl⟩ ⟨(Nat.le_of_ble_eq_true rfl), (Nat.le_of_ble_eq_true rfl)⟩ ⟨(Nat.le_of_ble_eq_true rfl), (Nat.le_of_ble_eq_true rfl)⟩ (Nat.le_of_ble_eq_true rfl) (fun r12 h => ?_)
  cases h
  exact J_iret (pc := 15) C dX10_total_15 hr ⟨rfl, rfl⟩
set_option maxHeartbeats 4000000 in
set_option maxRecDepth 100000 in
theorem R_tier (l : Launch) (D : va_G) (cI cB cL cO : ClassId) (pf : Nat → Nat) (N : Nat) (A : Nat → Nat → Nat) (s : T_PL) (x1 : Int32) {a : Int32} {s2 : T_PL} (h : P_tier N s x1 = some (0, a, s2)) : Ct l D [(cI, .int), (cB, .byte), (cL, .byte), (cO, .object RX0)] pf yX10_tier cX10_tier 2 (some FieldType.int) { frames := 8, cells := 0, slots := 0, locals := 151 } [.ref (A 0 0), .int x1] (wPL cI cB cO A s) (is1 (some (.int a)) (wPL cI cB cO A s2)) := by
  refine Ct_of (own := RX10) (lv0 := [(0, .ref (A 0 0)), (1, .int x1)]) (by decide) rfl rfl (Nat.le_of_ble_eq_true rfl) ?_
  intro p e s' m args below meth c C hr hnm
  unfold P_tier at h
  refine J_aload_n (pc := 0) C dX10_tier_0 0 rfl ?_
  refine J_iload_n (pc := 1) C dX10_tier_1 1 rfl ?_
  refine xr h (fun hq h => ?_)
  refine J_cvK (V := none) (pc := 2) (As := [.int x1]) (st := []) C (wPL cI cB cO A s) dX10_tier_2 ml_RX10_116 mi_yX10_needMember (R_needMember l D cI cB cL cO pf N A s x1 hq) at_this rfl rfl ⟨rfl, rfl⟩ ⟨(Nat.le_of_ble_eq_true rfl), (Nat.le_of_ble_eq_true rfl)⟩ ⟨(Nat.le_of_ble_eq_true rfl), (Nat.le_of_ble_eq_true rfl)⟩ (Nat.le_of_ble_eq_true rfl) ?_
  refine J_aload_n (pc := 5) C dX10_tier_5 0 rfl ?_
  refine J_get (pc := 6) C dX10_tier_6 jf_X10 0 at_this rfl 4 (by decide) rfl fl_RX10_40 rfl ?_
  refine J_iload_n (pc := 9) C dX10_tier_9 1 rfl ?_
  refine J_cvL (pc := 10) (As := [.int x1]) (st := []) (V := fun r10 => some (.int r10)) C (fun r10 => (wPL cI cB cO A s)) dX10_tier_10 ml_RX10_249 mi_yX0_tierOf (fun r hr => L_B_tierOf l D cI cB cL cO pf N A s x1 r hr) h at_books rfl rfl ⟨rfl, rfl⟩ ⟨(Nat.le_of_ble_eq_true rfl), (Nat.le_of_ble_eq_true rfl)⟩ ⟨(Nat.le_of_ble_eq_true rfl), (Nat.le_of_ble_eq_true rfl)⟩ (Nat.le_of_ble_eq_true rfl) (fun r10 h => ?_)
  cases h
  exact J_iret (pc := 13) C dX10_tier_13 hr ⟨rfl, rfl⟩
set_option maxHeartbeats 4000000 in
set_option maxRecDepth 100000 in
theorem R_earnedTier (l : Launch) (D : va_G) (cI cB cL cO : ClassId) (pf : Nat → Nat) (N : Nat) (A : Nat → Nat → Nat) (s : T_PL) (x1 : Int32) {a : Int32} {s2 : T_PL} (h : P_earnedTier N s x1 = some (0, a, s2)) : Ct l D [(cI, .int), (cB, .byte), (cL, .byte), (cO, .object RX0)] pf yX10_earnedTier cX10_earnedTier 2 (some FieldType.int) { frames := 8, cells := 0, slots := 0, locals := 151 } [.ref (A 0 0), .int x1] (wPL cI cB cO A s) (is1 (some (.int a)) (wPL cI cB cO A s2)) := by
  refine Ct_of (own := RX10) (lv0 := [(0, .ref (A 0 0)), (1, .int x1)]) (by decide) rfl rfl (Nat.le_of_ble_eq_true rfl) ?_
  intro p e s' m args below meth c C hr hnm
  unfold P_earnedTier at h
  refine J_aload_n (pc := 0) C dX10_earnedTier_0 0 rfl ?_
  refine J_iload_n (pc := 1) C dX10_earnedTier_1 1 rfl ?_
  refine xr h (fun hq h => ?_)
  refine J_cvK (V := none) (pc := 2) (As := [.int x1]) (st := []) C (wPL cI cB cO A s) dX10_earnedTier_2 ml_RX10_116 mi_yX10_needMember (R_needMember l D cI cB cL cO pf N A s x1 hq) at_this rfl rfl ⟨rfl, rfl⟩ ⟨(Nat.le_of_ble_eq_true rfl), (Nat.le_of_ble_eq_true rfl)⟩ ⟨(Nat.le_of_ble_eq_true rfl), (Nat.le_of_ble_eq_true rfl)⟩ (Nat.le_of_ble_eq_true rfl) ?_
  refine J_aload_n (pc := 5) C dX10_earnedTier_5 0 rfl ?_
  refine J_get (pc := 6) C dX10_earnedTier_6 jf_X10 0 at_this rfl 1 (by decide) rfl fl_RX10_19 rfl ?_
  refine J_aload_n (pc := 9) C dX10_earnedTier_9 0 rfl ?_
  refine J_get (pc := 10) C dX10_earnedTier_10 jf_X10 0 at_this rfl 4 (by decide) rfl fl_RX10_40 rfl ?_
  refine J_iload_n (pc := 13) C dX10_earnedTier_13 1 rfl ?_
  refine J_cvL (pc := 14) (As := [.int x1]) (st := [.ref (A 2 0)]) (V := fun r14 => some (.int r14)) C (fun r14 => (wPL cI cB cO A s)) dX10_earnedTier_14 ml_RX10_252 mi_yX0_qualifyingSum (fun r hr => L_B_qualifyingSum l D cI cB cL cO pf N A s x1 r hr) h at_books rfl rfl ⟨rfl, rfl⟩ ⟨(Nat.le_of_ble_eq_true rfl), (Nat.le_of_ble_eq_true rfl)⟩ ⟨(Nat.le_of_ble_eq_true rfl), (Nat.le_of_ble_eq_true rfl)⟩ (Nat.le_of_ble_eq_true rfl) (fun r14 h => ?_)
  refine J_cvL (pc := 17) (As := [.int r14]) (st := []) (V := fun r17 => some (.int r17)) C (fun r17 => (wPL cI cB cO A s)) dX10_earnedTier_17 ml_RX10_255 mi_yX7_tierFor (fun r hr => L_S_tierFor l D cI cB cL cO pf N A s r14 r hr) h at_setup rfl rfl ⟨rfl, rfl⟩ ⟨(Nat.le_of_ble_eq_true rfl), (Nat.le_of_ble_eq_true rfl)⟩ ⟨(Nat.le_of_ble_eq_true rfl), (Nat.le_of_ble_eq_true rfl)⟩ (Nat.le_of_ble_eq_true rfl) (fun r17 h => ?_)
  cases h
  exact J_iret (pc := 20) C dX10_earnedTier_20 hr ⟨rfl, rfl⟩
set_option maxHeartbeats 4000000 in
set_option maxRecDepth 100000 in
theorem R_qualifying (l : Launch) (D : va_G) (cI cB cL cO : ClassId) (pf : Nat → Nat) (N : Nat) (A : Nat → Nat → Nat) (s : T_PL) (x1 : Int32) {a : Int32} {s2 : T_PL} (h : P_qualifying N s x1 = some (0, a, s2)) : Ct l D [(cI, .int), (cB, .byte), (cL, .byte), (cO, .object RX0)] pf yX10_qualifying cX10_qualifying 2 (some FieldType.int) { frames := 8, cells := 0, slots := 0, locals := 151 } [.ref (A 0 0), .int x1] (wPL cI cB cO A s) (is1 (some (.int a)) (wPL cI cB cO A s2)) := by
  refine Ct_of (own := RX10) (lv0 := [(0, .ref (A 0 0)), (1, .int x1)]) (by decide) rfl rfl (Nat.le_of_ble_eq_true rfl) ?_
  intro p e s' m args below meth c C hr hnm
  unfold P_qualifying at h
  refine J_aload_n (pc := 0) C dX10_qualifying_0 0 rfl ?_
  refine J_iload_n (pc := 1) C dX10_qualifying_1 1 rfl ?_
  refine xr h (fun hq h => ?_)
  refine J_cvK (V := none) (pc := 2) (As := [.int x1]) (st := []) C (wPL cI cB cO A s) dX10_qualifying_2 ml_RX10_116 mi_yX10_needMember (R_needMember l D cI cB cL cO pf N A s x1 hq) at_this rfl rfl ⟨rfl, rfl⟩ ⟨(Nat.le_of_ble_eq_true rfl), (Nat.le_of_ble_eq_true rfl)⟩ ⟨(Nat.le_of_ble_eq_true rfl), (Nat.le_of_ble_eq_true rfl)⟩ (Nat.le_of_ble_eq_true rfl) ?_
  refine J_aload_n (pc := 5) C dX10_qualifying_5 0 rfl ?_
  refine J_get (pc := 6) C dX10_qualifying_6 jf_X10 0 at_this rfl 4 (by decide) rfl fl_RX10_40 rfl ?_
  refine J_iload_n (pc := 9) C dX10_qualifying_9 1 rfl ?_
  refine J_cvL (pc := 10) (As := [.int x1]) (st := []) (V := fun r10 => some (.int r10)) C (fun r10 => (wPL cI cB cO A s)) dX10_qualifying_10 ml_RX10_252 mi_yX0_qualifyingSum (fun r hr => L_B_qualifyingSum l D cI cB cL cO pf N A s x1 r hr) h at_books rfl rfl ⟨rfl, rfl⟩ ⟨(Nat.le_of_ble_eq_true rfl), (Nat.le_of_ble_eq_true rfl)⟩ ⟨(Nat.le_of_ble_eq_true rfl), (Nat.le_of_ble_eq_true rfl)⟩ (Nat.le_of_ble_eq_true rfl) (fun r10 h => ?_)
  cases h
  exact J_iret (pc := 13) C dX10_qualifying_13 hr ⟨rfl, rfl⟩
set_option maxHeartbeats 4000000 in
set_option maxRecDepth 100000 in
theorem R_belowSince (l : Launch) (D : va_G) (cI cB cL cO : ClassId) (pf : Nat → Nat) (N : Nat) (A : Nat → Nat → Nat) (s : T_PL) (x1 : Int32) {a : Int32} {s2 : T_PL} (h : P_belowSince N s x1 = some (0, a, s2)) : Ct l D [(cI, .int), (cB, .byte), (cL, .byte), (cO, .object RX0)] pf yX10_belowSince cX10_belowSince 2 (some FieldType.int) { frames := 8, cells := 0, slots := 0, locals := 151 } [.ref (A 0 0), .int x1] (wPL cI cB cO A s) (is1 (some (.int a)) (wPL cI cB cO A s2)) := by
  refine Ct_of (own := RX10) (lv0 := [(0, .ref (A 0 0)), (1, .int x1)]) (by decide) rfl rfl (Nat.le_of_ble_eq_true rfl) ?_
  intro p e s' m args below meth c C hr hnm
  unfold P_belowSince at h
  refine J_aload_n (pc := 0) C dX10_belowSince_0 0 rfl ?_
  refine J_iload_n (pc := 1) C dX10_belowSince_1 1 rfl ?_
  refine xr h (fun hq h => ?_)
  refine J_cvK (V := none) (pc := 2) (As := [.int x1]) (st := []) C (wPL cI cB cO A s) dX10_belowSince_2 ml_RX10_116 mi_yX10_needMember (R_needMember l D cI cB cL cO pf N A s x1 hq) at_this rfl rfl ⟨rfl, rfl⟩ ⟨(Nat.le_of_ble_eq_true rfl), (Nat.le_of_ble_eq_true rfl)⟩ ⟨(Nat.le_of_ble_eq_true rfl), (Nat.le_of_ble_eq_true rfl)⟩ (Nat.le_of_ble_eq_true rfl) ?_
  refine J_aload_n (pc := 5) C dX10_belowSince_5 0 rfl ?_
  refine J_get (pc := 6) C dX10_belowSince_6 jf_X10 0 at_this rfl 4 (by decide) rfl fl_RX10_40 rfl ?_
  refine J_iload_n (pc := 9) C dX10_belowSince_9 1 rfl ?_
  refine J_cvL (pc := 10) (As := [.int x1]) (st := []) (V := fun r10 => some (.int r10)) C (fun r10 => (wPL cI cB cO A s)) dX10_belowSince_10 ml_RX10_258 mi_yX0_belowDay (fun r hr => L_B_belowDay l D cI cB cL cO pf N A s x1 r hr) h at_books rfl rfl ⟨rfl, rfl⟩ ⟨(Nat.le_of_ble_eq_true rfl), (Nat.le_of_ble_eq_true rfl)⟩ ⟨(Nat.le_of_ble_eq_true rfl), (Nat.le_of_ble_eq_true rfl)⟩ (Nat.le_of_ble_eq_true rfl) (fun r10 h => ?_)
  cases h
  exact J_iret (pc := 13) C dX10_belowSince_13 hr ⟨rfl, rfl⟩
set_option maxHeartbeats 4000000 in
set_option maxRecDepth 100000 in
theorem R_tierAfter (l : Launch) (D : va_G) (cI cB cL cO : ClassId) (pf : Nat → Nat) (N : Nat) (A : Nat → Nat → Nat) (s : T_PL) (x1 : Int32) (x2 : Int32) {a : Int32} {s2 : T_PL} (h : P_tierAfter N s x1 x2 = some (0, a, s2)) : Ct l D [(cI, .int), (cB, .byte), (cL, .byte), (cO, .object RX0)] pf yX10_tierAfter cX10_tierAfter 3 (some FieldType.int) { frames := 8, cells := 0, slots := 0, locals := 152 } [.ref (A 0 0), .int x1, .int x2] (wPL cI cB cO A s) (is1 (some (.int a)) (wPL cI cB cO A s2)) := by
  refine Ct_of (own := RX10) (lv0 := [(0, .ref (A 0 0)), (1, .int x1), (2, .int x2)]) (by decide) rfl rfl (Nat.le_of_ble_eq_true rfl) ?_
  intro p e s' m args below meth c C hr hnm
  unfold P_tierAfter at h
  refine J_aload_n (pc := 0) C dX10_tierAfter_0 0 rfl ?_
  refine J_iload_n (pc := 1) C dX10_tierAfter_1 1 rfl ?_
  refine xr h (fun hq h => ?_)
  refine J_cvK (V := none) (pc := 2) (As := [.int x1]) (st := []) C (wPL cI cB cO A s) dX10_tierAfter_2 ml_RX10_116 mi_yX10_needMember (R_needMember l D cI cB cL cO pf N A s x1 hq) at_this rfl rfl ⟨rfl, rfl⟩ ⟨(Nat.le_of_ble_eq_true rfl), (Nat.le_of_ble_eq_true rfl)⟩ ⟨(Nat.le_of_ble_eq_true rfl), (Nat.le_of_ble_eq_true rfl)⟩ (Nat.le_of_ble_eq_true rfl) ?_
  refine J_iload_n (pc := 5) C dX10_tierAfter_5 2 rfl ?_
  refine J_iconst (v := (0 : Int32)) (pc := 6) C dX10_tierAfter_6 (by decide) ?_
  refine J_sipush (v := (2000 : Int32)) (pc := 7) C dX10_tierAfter_7 (by decide) ?_
  refine xr h (fun hq h => ?_)
  refine J_csK (b := 0) (V := none) (pc := 10) (As := [.int x2, .int (0 : Int32), .int (2000 : Int32)]) (st := []) C (wPL cI cB cO A s) dX10_tierAfter_10 ml_RX10_77 mi_yX10_needBetween (R_needBetween l D cI cB cL cO pf N A s x2 (0 : Int32) (2000 : Int32) hq) rfl ⟨rfl, rfl⟩ ⟨(Nat.le_of_ble_eq_true rfl), (Nat.le_of_ble_eq_true rfl)⟩ ⟨(Nat.le_of_ble_eq_true rfl), (Nat.le_of_ble_eq_true rfl)⟩ (Nat.le_of_ble_eq_true rfl) ?_
  refine J_aload_n (pc := 13) C dX10_tierAfter_13 0 rfl ?_
  refine J_get (pc := 14) C dX10_tierAfter_14 jf_X10 0 at_this rfl 4 (by decide) rfl fl_RX10_40 rfl ?_
  refine J_iload_n (pc := 17) C dX10_tierAfter_17 1 rfl ?_
  refine J_iload_n (pc := 18) C dX10_tierAfter_18 2 rfl ?_
  refine J_cvL (pc := 19) (As := [.int x1, .int x2]) (st := []) (V := fun r19 => some (.int r19.1)) C (fun r19 => (wPL cI cB cO A (s.1, s.2.1, s.2.2.1, s.2.2.2.1, r19.2, s.2.2.2.2.2.1, s.2.2.2.2.2.2.1, s.2.2.2.2.2.2.2))) dX10_tierAfter_19 ml_RX10_263 mi_yX0_futureTier (fun r hr => L_B_futureTier l D cI cB cL cO pf N A s x1 x2 r hr) h at_books rfl rfl ⟨rfl, rfl⟩ ⟨(Nat.le_of_ble_eq_true rfl), (Nat.le_of_ble_eq_true rfl)⟩ ⟨(Nat.le_of_ble_eq_true rfl), (Nat.le_of_ble_eq_true rfl)⟩ (Nat.le_of_ble_eq_true rfl) (fun r19 h => ?_)
  cases h
  exact J_iret (pc := 22) C dX10_tierAfter_22 hr ⟨rfl, rfl⟩
set_option maxHeartbeats 4000000 in
set_option maxRecDepth 100000 in
theorem R_wouldEarn (l : Launch) (D : va_G) (cI cB cL cO : ClassId) (pf : Nat → Nat) (N : Nat) (A : Nat → Nat → Nat) (s : T_PL) (x1 : Int32) (x2 : Int32) (x3 : Int32) {a : Int32} {s2 : T_PL} (h : P_wouldEarn N s x1 x2 x3 = some (0, a, s2)) : Ct l D [(cI, .int), (cB, .byte), (cL, .byte), (cO, .object RX0)] pf yX10_wouldEarn cX10_wouldEarn 4 (some FieldType.int) { frames := 8, cells := 0, slots := 0, locals := 152 } [.ref (A 0 0), .int x1, .int x2, .int x3] (wPL cI cB cO A s) (is1 (some (.int a)) (wPL cI cB cO A s2)) := by
  refine Ct_of (own := RX10) (lv0 := [(0, .ref (A 0 0)), (1, .int x1), (2, .int x2), (3, .int x3)]) (by decide) rfl rfl (Nat.le_of_ble_eq_true rfl) ?_
  intro p e s' m args below meth c C hr hnm
  unfold P_wouldEarn at h
  refine J_aload_n (pc := 0) C dX10_wouldEarn_0 0 rfl ?_
  refine J_iload_n (pc := 1) C dX10_wouldEarn_1 1 rfl ?_
  refine xr h (fun hq h => ?_)
  refine J_cvK (V := none) (pc := 2) (As := [.int x1]) (st := []) C (wPL cI cB cO A s) dX10_wouldEarn_2 ml_RX10_116 mi_yX10_needMember (R_needMember l D cI cB cL cO pf N A s x1 hq) at_this rfl rfl ⟨rfl, rfl⟩ ⟨(Nat.le_of_ble_eq_true rfl), (Nat.le_of_ble_eq_true rfl)⟩ ⟨(Nat.le_of_ble_eq_true rfl), (Nat.le_of_ble_eq_true rfl)⟩ (Nat.le_of_ble_eq_true rfl) ?_
  refine J_aload_n (pc := 5) C dX10_wouldEarn_5 0 rfl ?_
  refine J_iload_n (pc := 6) C dX10_wouldEarn_6 2 rfl ?_
  refine xr h (fun hq h => ?_)
  refine J_cvK (V := none) (pc := 7) (As := [.int x2]) (st := []) C (wPL cI cB cO A s) dX10_wouldEarn_7 ml_RX10_119 mi_yX10_needCategory (R_needCategory l D cI cB cL cO pf N A s x2 hq) at_this rfl rfl ⟨rfl, rfl⟩ ⟨(Nat.le_of_ble_eq_true rfl), (Nat.le_of_ble_eq_true rfl)⟩ ⟨(Nat.le_of_ble_eq_true rfl), (Nat.le_of_ble_eq_true rfl)⟩ (Nat.le_of_ble_eq_true rfl) ?_
  refine J_iload_n (pc := 10) C dX10_wouldEarn_10 3 rfl ?_
  refine J_iconst (v := (1 : Int32)) (pc := 11) C dX10_wouldEarn_11 (by decide) ?_
  refine J_ldc (pc := 12) C dX10_wouldEarn_12 cw_RX10_122 ?_
  refine xr h (fun hq h => ?_)
  refine J_csK (b := 0) (V := none) (pc := 14) (As := [.int x3, .int (1 : Int32), .int (100000 : Int32)]) (st := []) C (wPL cI cB cO A s) dX10_wouldEarn_14 ml_RX10_77 mi_yX10_needBetween (R_needBetween l D cI cB cL cO pf N A s x3 (1 : Int32) (100000 : Int32) hq) rfl ⟨rfl, rfl⟩ ⟨(Nat.le_of_ble_eq_true rfl), (Nat.le_of_ble_eq_true rfl)⟩ ⟨(Nat.le_of_ble_eq_true rfl), (Nat.le_of_ble_eq_true rfl)⟩ (Nat.le_of_ble_eq_true rfl) ?_
  refine J_aload_n (pc := 17) C dX10_wouldEarn_17 0 rfl ?_
  refine J_get (pc := 18) C dX10_wouldEarn_18 jf_X10 0 at_this rfl 4 (by decide) rfl fl_RX10_40 rfl ?_
  refine J_iload_n (pc := 21) C dX10_wouldEarn_21 1 rfl ?_
  refine J_iload_n (pc := 22) C dX10_wouldEarn_22 2 rfl ?_
  refine J_iload_n (pc := 23) C dX10_wouldEarn_23 3 rfl ?_
  refine J_cvL (pc := 24) (As := [.int x1, .int x2, .int x3]) (st := []) (V := fun r24 => some (.int r24)) C (fun r24 => (wPL cI cB cO A s)) dX10_wouldEarn_24 ml_RX10_266 mi_yX0_worth (fun r hr => L_B_worth l D cI cB cL cO pf N A s x1 x2 x3 r hr) h at_books rfl rfl ⟨rfl, rfl⟩ ⟨(Nat.le_of_ble_eq_true rfl), (Nat.le_of_ble_eq_true rfl)⟩ ⟨(Nat.le_of_ble_eq_true rfl), (Nat.le_of_ble_eq_true rfl)⟩ (Nat.le_of_ble_eq_true rfl) (fun r24 h => ?_)
  cases h
  exact J_iret (pc := 27) C dX10_wouldEarn_27 hr ⟨rfl, rfl⟩
set_option maxHeartbeats 4000000 in
set_option maxRecDepth 100000 in
theorem R_purchasePart (l : Launch) (D : va_G) (cI cB cL cO : ClassId) (pf : Nat → Nat) (N : Nat) (A : Nat → Nat → Nat) (s : T_PL) (x1 : Int32) (x2 : Int32) {a : Int32} {s2 : T_PL} (h : P_purchasePart N s x1 x2 = some (0, a, s2)) : Ct l D [(cI, .int), (cB, .byte), (cL, .byte), (cO, .object RX0)] pf yX10_purchasePart cX10_purchasePart 3 (some FieldType.int) { frames := 8, cells := 0, slots := 0, locals := 152 } [.ref (A 0 0), .int x1, .int x2] (wPL cI cB cO A s) (is1 (some (.int a)) (wPL cI cB cO A s2)) := by
  refine Ct_of (own := RX10) (lv0 := [(0, .ref (A 0 0)), (1, .int x1), (2, .int x2)]) (by decide) rfl rfl (Nat.le_of_ble_eq_true rfl) ?_
  intro p e s' m args below meth c C hr hnm
  unfold P_purchasePart at h
  refine J_aload_n (pc := 0) C dX10_purchasePart_0 0 rfl ?_
  refine J_iload_n (pc := 1) C dX10_purchasePart_1 1 rfl ?_
  refine xr h (fun hq h => ?_)
  refine J_cvK (V := none) (pc := 2) (As := [.int x1]) (st := []) C (wPL cI cB cO A s) dX10_purchasePart_2 ml_RX10_131 mi_yX10_needKeptPurchase (R_needKeptPurchase l D cI cB cL cO pf N A s x1 hq) at_this rfl rfl ⟨rfl, rfl⟩ ⟨(Nat.le_of_ble_eq_true rfl), (Nat.le_of_ble_eq_true rfl)⟩ ⟨(Nat.le_of_ble_eq_true rfl), (Nat.le_of_ble_eq_true rfl)⟩ (Nat.le_of_ble_eq_true rfl) ?_
  refine J_iload_n (pc := 5) C dX10_purchasePart_5 2 rfl ?_
  refine J_iconst (v := (0 : Int32)) (pc := 6) C dX10_purchasePart_6 (by decide) ?_
  refine J_bipush (v := (6 : Int32)) (pc := 7) C dX10_purchasePart_7 (by decide) ?_
  refine xr h (fun hq h => ?_)
  refine J_csK (b := 0) (V := none) (pc := 9) (As := [.int x2, .int (0 : Int32), .int (6 : Int32)]) (st := []) C (wPL cI cB cO A s) dX10_purchasePart_9 ml_RX10_77 mi_yX10_needBetween (R_needBetween l D cI cB cL cO pf N A s x2 (0 : Int32) (6 : Int32) hq) rfl ⟨rfl, rfl⟩ ⟨(Nat.le_of_ble_eq_true rfl), (Nat.le_of_ble_eq_true rfl)⟩ ⟨(Nat.le_of_ble_eq_true rfl), (Nat.le_of_ble_eq_true rfl)⟩ (Nat.le_of_ble_eq_true rfl) ?_
  refine J_aload_n (pc := 12) C dX10_purchasePart_12 0 rfl ?_
  refine J_get (pc := 13) C dX10_purchasePart_13 jf_X10 0 at_this rfl 4 (by decide) rfl fl_RX10_40 rfl ?_
  refine J_cvL (pc := 16) (As := []) (st := []) (V := fun r16 => some (.ref (A 5 10))) C (fun r16 => (wPL cI cB cO A s)) dX10_purchasePart_16 ml_RX10_134 mi_yX0_purchases (fun r hr => L_B_purchases l D cI cB cL cO pf N A s r hr) h at_books rfl rfl ⟨rfl, rfl⟩ ⟨(Nat.le_of_ble_eq_true rfl), (Nat.le_of_ble_eq_true rfl)⟩ ⟨(Nat.le_of_ble_eq_true rfl), (Nat.le_of_ble_eq_true rfl)⟩ (Nat.le_of_ble_eq_true rfl) (fun r16 h => ?_)
  refine J_iload_n (pc := 19) C dX10_purchasePart_19 1 rfl ?_
  refine J_iload_n (pc := 20) C dX10_purchasePart_20 2 rfl ?_
  refine J_cvL (pc := 21) (As := [.int x1, .int x2]) (st := []) (V := fun r21 => some (.int r21)) C (fun r21 => (wPL cI cB cO A s)) dX10_purchasePart_21 ml_RX10_138 mi_yX5_part (fun r hr => L_U_part l D cI cB cL cO pf N A s x1 x2 r hr) h at_books_purchases rfl rfl ⟨rfl, rfl⟩ ⟨(Nat.le_of_ble_eq_true rfl), (Nat.le_of_ble_eq_true rfl)⟩ ⟨(Nat.le_of_ble_eq_true rfl), (Nat.le_of_ble_eq_true rfl)⟩ (Nat.le_of_ble_eq_true rfl) (fun r21 h => ?_)
  cases h
  exact J_iret (pc := 24) C dX10_purchasePart_24 hr ⟨rfl, rfl⟩
set_option maxHeartbeats 4000000 in
set_option maxRecDepth 100000 in
theorem R_expiringWithin (l : Launch) (D : va_G) (cI cB cL cO : ClassId) (pf : Nat → Nat) (N : Nat) (A : Nat → Nat → Nat) (s : T_PL) (x1 : Int32) (x2 : Int32) {a : Int32} {s2 : T_PL} (h : P_expiringWithin N s x1 x2 = some (0, a, s2)) : Ct l D [(cI, .int), (cB, .byte), (cL, .byte), (cO, .object RX0)] pf yX10_expiringWithin cX10_expiringWithin 3 (some FieldType.int) { frames := 8, cells := 0, slots := 0, locals := 152 } [.ref (A 0 0), .int x1, .int x2] (wPL cI cB cO A s) (is1 (some (.int a)) (wPL cI cB cO A s2)) := by
  refine Ct_of (own := RX10) (lv0 := [(0, .ref (A 0 0)), (1, .int x1), (2, .int x2)]) (by decide) rfl rfl (Nat.le_of_ble_eq_true rfl) ?_
  intro p e s' m args below meth c C hr hnm
  unfold P_expiringWithin at h
  refine J_aload_n (pc := 0) C dX10_expiringWithin_0 0 rfl ?_
  refine J_iload_n (pc := 1) C dX10_expiringWithin_1 1 rfl ?_
  refine xr h (fun hq h => ?_)
  refine J_cvK (V := none) (pc := 2) (As := [.int x1]) (st := []) C (wPL cI cB cO A s) dX10_expiringWithin_2 ml_RX10_116 mi_yX10_needMember (R_needMember l D cI cB cL cO pf N A s x1 hq) at_this rfl rfl ⟨rfl, rfl⟩ ⟨(Nat.le_of_ble_eq_true rfl), (Nat.le_of_ble_eq_true rfl)⟩ ⟨(Nat.le_of_ble_eq_true rfl), (Nat.le_of_ble_eq_true rfl)⟩ (Nat.le_of_ble_eq_true rfl) ?_
  refine J_iload_n (pc := 5) C dX10_expiringWithin_5 2 rfl ?_
  refine J_iconst (v := (0 : Int32)) (pc := 6) C dX10_expiringWithin_6 (by decide) ?_
  refine J_sipush (v := (2000 : Int32)) (pc := 7) C dX10_expiringWithin_7 (by decide) ?_
  refine xr h (fun hq h => ?_)
  refine J_csK (b := 0) (V := none) (pc := 10) (As := [.int x2, .int (0 : Int32), .int (2000 : Int32)]) (st := []) C (wPL cI cB cO A s) dX10_expiringWithin_10 ml_RX10_77 mi_yX10_needBetween (R_needBetween l D cI cB cL cO pf N A s x2 (0 : Int32) (2000 : Int32) hq) rfl ⟨rfl, rfl⟩ ⟨(Nat.le_of_ble_eq_true rfl), (Nat.le_of_ble_eq_true rfl)⟩ ⟨(Nat.le_of_ble_eq_true rfl), (Nat.le_of_ble_eq_true rfl)⟩ (Nat.le_of_ble_eq_true rfl) ?_
  refine J_aload_n (pc := 13) C dX10_expiringWithin_13 0 rfl ?_
  refine J_get (pc := 14) C dX10_expiringWithin_14 jf_X10 0 at_this rfl 4 (by decide) rfl fl_RX10_40 rfl ?_
  refine J_cvL (pc := 17) (As := []) (st := []) (V := fun r17 => some (.ref (A 5 1))) C (fun r17 => (wPL cI cB cO A s)) dX10_expiringWithin_17 ml_RX10_161 mi_yX0_cohorts (fun r hr => L_B_cohorts l D cI cB cL cO pf N A s r hr) h at_books rfl rfl ⟨rfl, rfl⟩ ⟨(Nat.le_of_ble_eq_true rfl), (Nat.le_of_ble_eq_true rfl)⟩ ⟨(Nat.le_of_ble_eq_true rfl), (Nat.le_of_ble_eq_true rfl)⟩ (Nat.le_of_ble_eq_true rfl) (fun r17 h => ?_)
  refine J_iload_n (pc := 20) C dX10_expiringWithin_20 1 rfl ?_
  refine J_aload_n (pc := 21) C dX10_expiringWithin_21 0 rfl ?_
  refine J_get (pc := 22) C dX10_expiringWithin_22 jf_X10 0 at_this rfl 4 (by decide) rfl fl_RX10_40 rfl ?_
  refine J_cvL (pc := 25) (As := []) (st := [.int x1, .ref (A 5 1)]) (V := fun r25 => some (.int r25)) C (fun r25 => (wPL cI cB cO A s)) dX10_expiringWithin_25 ml_RX10_200 mi_yX0_day (fun r hr => L_B_day l D cI cB cL cO pf N A s r hr) h at_books rfl rfl ⟨rfl, rfl⟩ ⟨(Nat.le_of_ble_eq_true rfl), (Nat.le_of_ble_eq_true rfl)⟩ ⟨(Nat.le_of_ble_eq_true rfl), (Nat.le_of_ble_eq_true rfl)⟩ (Nat.le_of_ble_eq_true rfl) (fun r25 h => ?_)
  refine J_iload_n (pc := 28) C dX10_expiringWithin_28 2 rfl ?_
  refine J_iadd (pc := 29) C dX10_expiringWithin_29 ?_
  refine J_cvL (pc := 30) (As := [.int x1, .int (r25 + x2)]) (st := []) (V := fun r30 => some (.int r30)) C (fun r30 => (wPL cI cB cO A s)) dX10_expiringWithin_30 ml_RX10_281 mi_yX1_sumUntil (fun r hr => L_H_sumUntil l D cI cB cL cO pf N A s x1 (r25 + x2) r hr) h at_books_cohorts rfl rfl ⟨rfl, rfl⟩ ⟨(Nat.le_of_ble_eq_true rfl), (Nat.le_of_ble_eq_true rfl)⟩ ⟨(Nat.le_of_ble_eq_true rfl), (Nat.le_of_ble_eq_true rfl)⟩ (Nat.le_of_ble_eq_true rfl) (fun r30 h => ?_)
  cases h
  exact J_iret (pc := 33) C dX10_expiringWithin_33 hr ⟨rfl, rfl⟩
set_option maxHeartbeats 4000000 in
set_option maxRecDepth 100000 in
theorem R_redeemedWith (l : Launch) (D : va_G) (cI cB cL cO : ClassId) (pf : Nat → Nat) (N : Nat) (A : Nat → Nat → Nat) (s : T_PL) (x1 : Int32) {a : Int32} {s2 : T_PL} (h : P_redeemedWith N s x1 = some (0, a, s2)) : Ct l D [(cI, .int), (cB, .byte), (cL, .byte), (cO, .object RX0)] pf yX10_redeemedWith cX10_redeemedWith 2 (some FieldType.int) { frames := 8, cells := 0, slots := 0, locals := 152 } [.ref (A 0 0), .int x1] (wPL cI cB cO A s) (is1 (some (.int a)) (wPL cI cB cO A s2)) := by
  refine Ct_of (own := RX10) (lv0 := [(0, .ref (A 0 0)), (1, .int x1)]) (by decide) rfl rfl (Nat.le_of_ble_eq_true rfl) ?_
  intro p e s' m args below meth c C hr hnm
  unfold P_redeemedWith at h
  refine J_iload_n (pc := 0) C dX10_redeemedWith_0 1 rfl ?_
  refine J_iconst (v := (0 : Int32)) (pc := 1) C dX10_redeemedWith_1 (by decide) ?_
  refine J_bipush (v := (9 : Int32)) (pc := 2) C dX10_redeemedWith_2 (by decide) ?_
  refine xr h (fun hq h => ?_)
  refine J_csK (b := 0) (V := none) (pc := 4) (As := [.int x1, .int (0 : Int32), .int (9 : Int32)]) (st := []) C (wPL cI cB cO A s) dX10_redeemedWith_4 ml_RX10_77 mi_yX10_needBetween (R_needBetween l D cI cB cL cO pf N A s x1 (0 : Int32) (9 : Int32) hq) rfl ⟨rfl, rfl⟩ ⟨(Nat.le_of_ble_eq_true rfl), (Nat.le_of_ble_eq_true rfl)⟩ ⟨(Nat.le_of_ble_eq_true rfl), (Nat.le_of_ble_eq_true rfl)⟩ (Nat.le_of_ble_eq_true rfl) ?_
  refine J_aload_n (pc := 7) C dX10_redeemedWith_7 0 rfl ?_
  refine J_get (pc := 8) C dX10_redeemedWith_8 jf_X10 0 at_this rfl 4 (by decide) rfl fl_RX10_40 rfl ?_
  refine J_iload_n (pc := 11) C dX10_redeemedWith_11 1 rfl ?_
  refine J_cvL (pc := 12) (As := [.int x1]) (st := []) (V := fun r12 => some (.int r12)) C (fun r12 => (wPL cI cB cO A s)) dX10_redeemedWith_12 ml_RX10_289 mi_yX0_redeemedIn (fun r hr => L_B_redeemedIn l D cI cB cL cO pf N A s x1 r hr) h at_books rfl rfl ⟨rfl, rfl⟩ ⟨(Nat.le_of_ble_eq_true rfl), (Nat.le_of_ble_eq_true rfl)⟩ ⟨(Nat.le_of_ble_eq_true rfl), (Nat.le_of_ble_eq_true rfl)⟩ (Nat.le_of_ble_eq_true rfl) (fun r12 h => ?_)
  cases h
  exact J_iret (pc := 15) C dX10_redeemedWith_15 hr ⟨rfl, rfl⟩
set_option maxHeartbeats 4000000 in
set_option maxRecDepth 100000 in
theorem R_log (l : Launch) (D : va_G) (cI cB cL cO : ClassId) (pf : Nat → Nat) (N : Nat) (A : Nat → Nat → Nat) (s : T_PL) (x1 : Int32) (x2 : Int32) {a : Int32} {s2 : T_PL} (h : P_log N s x1 x2 = some (0, a, s2)) : Ct l D [(cI, .int), (cB, .byte), (cL, .byte), (cO, .object RX0)] pf yX10_log cX10_log 3 (some FieldType.int) { frames := 8, cells := 0, slots := 0, locals := 152 } [.ref (A 0 0), .int x1, .int x2] (wPL cI cB cO A s) (is1 (some (.int a)) (wPL cI cB cO A s2)) := by
  refine Ct_of (own := RX10) (lv0 := [(0, .ref (A 0 0)), (1, .int x1), (2, .int x2)]) (by decide) rfl rfl (Nat.le_of_ble_eq_true rfl) ?_
  intro p e s' m args below meth c C hr hnm
  unfold P_log at h
  refine J_iload_n (pc := 0) C dX10_log_0 1 rfl ?_
  refine J_if_lt (pc := 1) (tgt := 18) C dX10_log_1 (by decide) h (fun h => ?_) (fun h => ?_)
  · exact absurd (congrArg (fun q => q.1) (Option.some.inj h)) (by simp)
  · refine J_iload_n (pc := 4) C dX10_log_4 1 rfl ?_
    refine J_aload_n (pc := 5) C dX10_log_5 0 rfl ?_
    refine J_get (pc := 6) C dX10_log_6 jf_X10 0 at_this rfl 4 (by decide) rfl fl_RX10_40 rfl ?_
    refine J_cvL (pc := 9) (As := []) (st := [.int x1]) (V := fun r9 => some (.ref (A 5 13))) C (fun r9 => (wPL cI cB cO A s)) dX10_log_9 ml_RX10_300 mi_yX0_diary (fun r hr => L_B_diary l D cI cB cL cO pf N A s r hr) h at_books rfl rfl ⟨rfl, rfl⟩ ⟨(Nat.le_of_ble_eq_true rfl), (Nat.le_of_ble_eq_true rfl)⟩ ⟨(Nat.le_of_ble_eq_true rfl), (Nat.le_of_ble_eq_true rfl)⟩ (Nat.le_of_ble_eq_true rfl) (fun r9 h => ?_)
    refine J_cvL (pc := 12) (As := []) (st := [.int x1]) (V := fun r12 => some (.int r12)) C (fun r12 => (wPL cI cB cO A s)) dX10_log_12 ml_RX10_304 mi_yX4_size (fun r hr => L_L_size l D cI cB cL cO pf N A s r hr) h at_books_diary rfl rfl ⟨rfl, rfl⟩ ⟨(Nat.le_of_ble_eq_true rfl), (Nat.le_of_ble_eq_true rfl)⟩ ⟨(Nat.le_of_ble_eq_true rfl), (Nat.le_of_ble_eq_true rfl)⟩ (Nat.le_of_ble_eq_true rfl) (fun r12 h => ?_)
    refine J_ic_lt (pc := 15) (tgt := 29) C dX10_log_15 (by decide) h (fun h => ?_) (fun h => ?_)
    · refine J_iload_n (pc := 29) C dX10_log_29 2 rfl ?_
      refine J_iconst (v := (0 : Int32)) (pc := 30) C dX10_log_30 (by decide) ?_
      refine J_iconst (v := (3 : Int32)) (pc := 31) C dX10_log_31 (by decide) ?_
      refine xr h (fun hq h => ?_)
      refine J_csK (b := 0) (V := none) (pc := 32) (As := [.int x2, .int (0 : Int32), .int (3 : Int32)]) (st := []) C (wPL cI cB cO A s) dX10_log_32 ml_RX10_77 mi_yX10_needBetween (R_needBetween l D cI cB cL cO pf N A s x2 (0 : Int32) (3 : Int32) hq) rfl ⟨rfl, rfl⟩ ⟨(Nat.le_of_ble_eq_true rfl), (Nat.le_of_ble_eq_true rfl)⟩ ⟨(Nat.le_of_ble_eq_true rfl), (Nat.le_of_ble_eq_true rfl)⟩ (Nat.le_of_ble_eq_true rfl) ?_
      refine J_aload_n (pc := 35) C dX10_log_35 0 rfl ?_
      refine J_get (pc := 36) C dX10_log_36 jf_X10 0 at_this rfl 4 (by decide) rfl fl_RX10_40 rfl ?_
      refine J_cvL (pc := 39) (As := []) (st := []) (V := fun r39 => some (.ref (A 5 13))) C (fun r39 => (wPL cI cB cO A s)) dX10_log_39 ml_RX10_300 mi_yX0_diary (fun r hr => L_B_diary l D cI cB cL cO pf N A s r hr) h at_books rfl rfl ⟨rfl, rfl⟩ ⟨(Nat.le_of_ble_eq_true rfl), (Nat.le_of_ble_eq_true rfl)⟩ ⟨(Nat.le_of_ble_eq_true rfl), (Nat.le_of_ble_eq_true rfl)⟩ (Nat.le_of_ble_eq_true rfl) (fun r39 h => ?_)
      refine J_iload_n (pc := 42) C dX10_log_42 1 rfl ?_
      refine J_iload_n (pc := 43) C dX10_log_43 2 rfl ?_
      refine J_cvL (pc := 44) (As := [.int x1, .int x2]) (st := []) (V := fun r44 => some (.int r44)) C (fun r44 => (wPL cI cB cO A s)) dX10_log_44 ml_RX10_311 mi_yX4_part (fun r hr => L_L_part l D cI cB cL cO pf N A s x1 x2 r hr) h at_books_diary rfl rfl ⟨rfl, rfl⟩ ⟨(Nat.le_of_ble_eq_true rfl), (Nat.le_of_ble_eq_true rfl)⟩ ⟨(Nat.le_of_ble_eq_true rfl), (Nat.le_of_ble_eq_true rfl)⟩ (Nat.le_of_ble_eq_true rfl) (fun r44 h => ?_)
      cases h
      exact J_iret (pc := 47) C dX10_log_47 hr ⟨rfl, rfl⟩
    · exact absurd (congrArg (fun q => q.1) (Option.some.inj h)) (by simp)
set_option maxHeartbeats 4000000 in
set_option maxRecDepth 100000 in
theorem R_undo (l : Launch) (D : va_G) (cI cB cL cO : ClassId) (pf : Nat → Nat) (N : Nat) (A : Nat → Nat → Nat) (s : T_PL) {a : Int32} {s2 : T_PL} (h : P_undo N s = some (0, a, s2)) : Ct l D [(cI, .int), (cB, .byte), (cL, .byte), (cO, .object RX0)] pf yX10_undo cX10_undo 1 (some FieldType.int) { frames := 7, cells := 0, slots := 0, locals := 168 } [.ref (A 0 0)] (wPL cI cB cO A s) (is1 (some (.int a)) (wPL cI cB cO A s2)) := by
  refine Ct_of (own := RX10) (lv0 := [(0, .ref (A 0 0))]) (by decide) rfl rfl (Nat.le_of_ble_eq_true rfl) ?_
  intro p e s' m args below meth c C hr hnm
  unfold P_undo at h
  refine J_aload_n (pc := 0) C dX10_undo_0 0 rfl ?_
  refine J_get (pc := 1) C dX10_undo_1 jf_X10 0 at_this rfl 6 (by decide) rfl fl_RX10_50 rfl ?_
  refine J_cvL (pc := 4) (As := []) (st := []) (V := fun r4 => some (.int r4)) C (fun r4 => (wPL cI cB cO A s)) dX10_undo_4 ml_RX10_312 mi_yX2_count (fun r hr => L_H_hcount l D cI cB cL cO pf N A s r hr) h at_history rfl rfl ⟨rfl, rfl⟩ ⟨(Nat.le_of_ble_eq_true rfl), (Nat.le_of_ble_eq_true rfl)⟩ ⟨(Nat.le_of_ble_eq_true rfl), (Nat.le_of_ble_eq_true rfl)⟩ (Nat.le_of_ble_eq_true rfl) (fun r4 h => ?_)
  refine J_if_ne (pc := 7) (tgt := 21) C dX10_undo_7 (by decide) h (fun h => ?_) (fun h => ?_)
  · refine J_aload_n (pc := 21) C dX10_undo_21 0 rfl ?_
    refine J_get (pc := 22) C dX10_undo_22 jf_X10 0 at_this rfl 6 (by decide) rfl fl_RX10_50 rfl ?_
    refine J_aload_n (pc := 25) C dX10_undo_25 0 rfl ?_
    refine J_get (pc := 26) C dX10_undo_26 jf_X10 0 at_this rfl 4 (by decide) rfl fl_RX10_40 rfl ?_
    refine J_cvL (ρ := T_HI × T_BK) (pc := 29) (As := [.ref (A 5 0)]) (st := []) (V := fun r29 => none) C (fun (r29 : T_HI × T_BK) => (wPL cI cB cO A (s.1, s.2.1, s.2.2.1, s.2.2.2.1, r29.2, s.2.2.2.2.2.1, r29.1, s.2.2.2.2.2.2.2))) dX10_undo_29 ml_RX10_315 mi_yX2_giveBack (fun r hr => L_H_giveBack l D cI cB cL cO pf N A s r hr) h at_history rfl rfl ⟨rfl, rfl⟩ ⟨(Nat.le_of_ble_eq_true rfl), (Nat.le_of_ble_eq_true rfl)⟩ ⟨(Nat.le_of_ble_eq_true rfl), (Nat.le_of_ble_eq_true rfl)⟩ (Nat.le_of_ble_eq_true rfl) (fun r29 h => ?_)
    refine J_aload_n (pc := 32) C dX10_undo_32 0 rfl ?_
    refine J_get (pc := 33) C dX10_undo_33 jf_X10 0 at_this rfl 6 (by decide) rfl fl_RX10_50 rfl ?_
    refine J_cvL (pc := 36) (As := []) (st := []) (V := fun r36 => some (.int r36)) C (fun r36 => (wPL cI cB cO A (s.1, s.2.1, s.2.2.1, s.2.2.2.1, r29.2, s.2.2.2.2.2.1, r29.1, s.2.2.2.2.2.2.2))) dX10_undo_36 ml_RX10_312 mi_yX2_count (fun r hr => L_H_hcount l D cI cB cL cO pf N A (s.1, s.2.1, s.2.2.1, s.2.2.2.1, r29.2, s.2.2.2.2.2.1, r29.1, s.2.2.2.2.2.2.2) r hr) h at_history rfl rfl ⟨rfl, rfl⟩ ⟨(Nat.le_of_ble_eq_true rfl), (Nat.le_of_ble_eq_true rfl)⟩ ⟨(Nat.le_of_ble_eq_true rfl), (Nat.le_of_ble_eq_true rfl)⟩ (Nat.le_of_ble_eq_true rfl) (fun r36 h => ?_)
    cases h
    exact J_iret (pc := 39) C dX10_undo_39 hr ⟨rfl, rfl⟩
  · exact absurd (congrArg (fun q => q.1) (Option.some.inj h)) (by simp)
set_option maxHeartbeats 4000000 in
set_option maxRecDepth 100000 in
theorem R_restore (l : Launch) (D : va_G) (cI cB cL cO : ClassId) (pf : Nat → Nat) (N : Nat) (A : Nat → Nat → Nat) (s : T_PL) {a : Int32} {s2 : T_PL} (h : P_restore N s = some (0, a, s2)) : Ct l D [(cI, .int), (cB, .byte), (cL, .byte), (cO, .object RX0)] pf yX10_restore cX10_restore 1 (some FieldType.int) { frames := 7, cells := 0, slots := 0, locals := 146 } [.ref (A 0 0)] (wPL cI cB cO A s) (is1 (some (.int a)) (wPL cI cB cO A s2)) := by
  refine Ct_of (own := RX10) (lv0 := [(0, .ref (A 0 0))]) (by decide) rfl rfl (Nat.le_of_ble_eq_true rfl) ?_
  intro p e s' m args below meth c C hr hnm
  unfold P_restore at h
  refine J_aload_n (pc := 0) C dX10_restore_0 0 rfl ?_
  refine J_get (pc := 1) C dX10_restore_1 jf_X10 0 at_this rfl 7 (by decide) rfl fl_RX10_54 rfl ?_
  refine J_if_ne (pc := 4) (tgt := 18) C dX10_restore_4 (by decide) h (fun h => ?_) (fun h => ?_)
  · refine J_aload_n (pc := 18) C dX10_restore_18 0 rfl ?_
    refine J_get (pc := 19) C dX10_restore_19 jf_X10 0 at_this rfl 4 (by decide) rfl fl_RX10_40 rfl ?_
    refine J_aload_n (pc := 22) C dX10_restore_22 0 rfl ?_
    refine J_get (pc := 23) C dX10_restore_23 jf_X10 0 at_this rfl 5 (by decide) rfl fl_RX10_44 rfl ?_
    refine J_cvL (pc := 26) (As := [.ref (A 6 0)]) (st := []) (V := fun r26 => none) C (fun r26 => (wPL cI cB cO A (s.1, s.2.1, s.2.2.1, s.2.2.2.1, r26, s.2.2.2.2.2.1, s.2.2.2.2.2.2.1, s.2.2.2.2.2.2.2))) dX10_restore_26 ml_RX10_318 mi_yX0_copyFrom (fun r hr => L_B_copyFrom_b l D cI cB cL cO pf N A s r hr) h at_books rfl rfl ⟨rfl, rfl⟩ ⟨(Nat.le_of_ble_eq_true rfl), (Nat.le_of_ble_eq_true rfl)⟩ ⟨(Nat.le_of_ble_eq_true rfl), (Nat.le_of_ble_eq_true rfl)⟩ (Nat.le_of_ble_eq_true rfl) (fun r26 h => ?_)
    refine J_aload_n (pc := 29) C dX10_restore_29 0 rfl ?_
    refine J_get (pc := 30) C dX10_restore_30 jf_X10 0 at_this rfl 6 (by decide) rfl fl_RX10_50 rfl ?_
    refine J_cvL (pc := 33) (As := []) (st := []) (V := fun r33 => none) C (fun r33 => (wPL cI cB cO A (s.1, s.2.1, s.2.2.1, s.2.2.2.1, r26, s.2.2.2.2.2.1, r33, s.2.2.2.2.2.2.2))) dX10_restore_33 ml_RX10_98 mi_yX2_forget (fun r hr => L_H_forget l D cI cB cL cO pf N A (s.1, s.2.1, s.2.2.1, s.2.2.2.1, r26, s.2.2.2.2.2.1, s.2.2.2.2.2.2.1, s.2.2.2.2.2.2.2) r hr) h at_history rfl rfl ⟨rfl, rfl⟩ ⟨(Nat.le_of_ble_eq_true rfl), (Nat.le_of_ble_eq_true rfl)⟩ ⟨(Nat.le_of_ble_eq_true rfl), (Nat.le_of_ble_eq_true rfl)⟩ (Nat.le_of_ble_eq_true rfl) (fun r33 h => ?_)
    refine J_aload_n (pc := 36) C dX10_restore_36 0 rfl ?_
    refine J_get (pc := 37) C dX10_restore_37 jf_X10 0 at_this rfl 4 (by decide) rfl fl_RX10_40 rfl ?_
    refine J_cvL (pc := 40) (As := []) (st := []) (V := fun r40 => some (.int r40)) C (fun r40 => (wPL cI cB cO A (s.1, s.2.1, s.2.2.1, s.2.2.2.1, r26, s.2.2.2.2.2.1, r33, s.2.2.2.2.2.2.2))) dX10_restore_40 ml_RX10_200 mi_yX0_day (fun r hr => L_B_day l D cI cB cL cO pf N A (s.1, s.2.1, s.2.2.1, s.2.2.2.1, r26, s.2.2.2.2.2.1, r33, s.2.2.2.2.2.2.2) r hr) h at_books rfl rfl ⟨rfl, rfl⟩ ⟨(Nat.le_of_ble_eq_true rfl), (Nat.le_of_ble_eq_true rfl)⟩ ⟨(Nat.le_of_ble_eq_true rfl), (Nat.le_of_ble_eq_true rfl)⟩ (Nat.le_of_ble_eq_true rfl) (fun r40 h => ?_)
    cases h
    exact J_iret (pc := 43) C dX10_restore_43 hr ⟨rfl, rfl⟩
  · exact absurd (congrArg (fun q => q.1) (Option.some.inj h)) (by simp)
