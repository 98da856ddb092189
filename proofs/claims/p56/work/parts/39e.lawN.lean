/-! THE CLAIM OUT OF ONE WALK OF THE LAW'S BODY. Your part is whole_start (and what it stands on); all else here is the same for every law, but numbers. -/
def R_law : String := "PointsLedgerLaw"
def lw_P (b : Addr) (xs : List Int32) (args : Array Value) (s : State) : Prop := args = #[.ref b] ∧ s.IntsAt b xs ∧ xs.length ≤ 260 ∧ (Jvm.Cond.and given_1 narrow_1).before args s = true
def lw_Q (_ : Array Value) (s : State) (o : Outcome) (t : State) : Prop := o = .returned (some (.int 1)) ∧ Framed s o t [] 600086 7301442
def lw_Z (below : List Frame) (a : Array Value) (s : State) : State → Prop := fun t => ∃ o, t.status = .running ∧ Ended t below o ∧ lw_Q a s o t
/-- the law's own end, with 1 on the stack, nothing written that was there before, its room as the claim has it -/
theorem lw_ret {p : Program} {l : Launch} {e : Env} {s : State} {m : MethodId} {below : List Frame} {meth : Method} {c : Code} {b : Nat} (hx : p.tables.exec = Jvm.exec) (hb : c.code = code) (hr : meth.sig.returnType = ret) (hlocks : meth.locks = false) {pc : Nat} {H : Heap} {ls : Array Slot} (hdg : decode code pc = .ok (.ireturn, 1)) : W p l e room_1 s m #[Value.ref b] below meth c H [] 600086 7301442 (lw_Z below #[Value.ref b] s) (F0 m pc ls [.int 1]) := by
  intro T hT X
  obtain ⟨fs, hret, hrun, hended, hW, hframe⟩ := X.leave (v := some (.int 1)) (hlocks := hlocks) (fun h => by rw [hr] at h; cases h)
  have hmeth' : T.vm.method? m = some meth := X.method'
  refine ⟨T.setFrames fs, ?_, .returned (some (.int 1)), hrun, hended, rfl, ⟨_, rfl⟩, hW, hframe⟩
  jvm_step X.here [X.here.top, hx, hb, hdg, hmeth', hr, ret, narrow_b1]
  (try refine ⟨rfl, ?_⟩); (try refine ⟨rfl, ?_⟩)
  first | (intro acts; rw [hret _ acts rfl rfl rfl]) | rw [hret _ _ rfl rfl rfl]
  exact Steps.refl _
/-- what holds at the law's entry: the machine, the code, the tables' words (any of lw_tbl by 'hts w (by decide +kernel)'), the script of L ints xs at the cell b, what the Statement gives of the start (any of its parts by flat_of_before) -/
def lw_At (p : Program) (s : State) (m : MethodId) (meth : Method) (c : Code) (b L : Nat) (xs : Nat → Int32) : Prop :=
  p.tables.exec = Jvm.exec ∧ c.code = code ∧ meth.sig.returnType = ret ∧ c.maxLocals = 23 ∧ s.vm.findClass R_law = some m.cls ∧ (∀ w ∈ lw_tbl, w.before #[Value.ref b] s = true) ∧ va_X b L xs s s.heap ∧ b < s.heap.size ∧ meth.locks = false ∧ (Jvm.Cond.and given_1 narrow_1).before #[Value.ref b] s = true

def f_L_chk (N : Nat) (zs : T_PL) : Option (T_PL) :=
  ((P_setup N zs (0 : Int32)).bind fun r10 => (if ¬ r10.1 = 0 then none else (if r10.2.1 = (1 : Int32) then ((P_threshold N r10.2.2 (0 : Int32)).bind fun r19 => (if ¬ r19.1 = 0 then none else (if r19.2.1 = 0 then ((P_setup N r19.2.2 (3 : Int32)).bind fun r27 => (if ¬ r27.1 = 0 then none else (if r27.2.1 = 0 then ((P_setup N r27.2.2 (5 : Int32)).bind fun r35 => (if ¬ r35.1 = 0 then none else (if r35.2.1 = (365 : Int32) then ((P_errorPosition N r35.2.2).bind fun r45 => (if r45.1 = 0 then ((H_loaded N r45.2).bind fun r52 => (if r52.1 = (-1 : Int32) then ((P_total N r52.2 (5 : Int32)).bind fun r61 => (if ¬ r61.1 = 0 then none else (if r61.2.1 = 0 then (some r61.2.2) else none))) else none)) else none)) else none))) else none))) else none))) else none)))
set_option maxHeartbeats 4000000 in
set_option maxRecDepth 100000 in
theorem t_L_chk_b8 {l : Launch} {D : va_G} {A : Nat → Nat → Nat} {cI cB cL cO : ClassId} {pf : Nat → Nat} {p : Program} {e : Env} {s : State} {m : MethodId} {args : Array Value} {below : List Frame} {meth : Method} {c : Code} {AP : Nat → Prop} {Q : State → Prop} {N k0 n0 : Nat} {zs : T_PL} {o : T_PL} (C : jC p s m args meth c cL_law 23 RL D [(cI, .int), (cB, .byte), (cL, .byte), (cO, .object RX0)] pf AP) (hf : l.stackTraces = false) (hk : k0 + 4 ≤ room_1.cells) (hn : n0 + 24 ≤ room_1.slots) (kk : J p l e room_1 s m args below meth c 23 D AP Q (k0 + 4) (n0 + 24) 69 [(0, .ref (pf 92)), (1, .ref (A 0 0))] [] (wPL cI cB cO A o)) (h : f_L_chk N zs = some o) : J p l e room_1 s m args below meth c 23 D AP Q (k0) (n0) 8 [(0, .ref (pf 92)), (1, .ref (A 0 0))] [] (wPL cI cB cO A zs) := by
  unfold f_L_chk at h
  refine J_aload_n (pc := 8) C dL_law_8 1 rfl ?_
  refine J_iconst (v := (0 : Int32)) (pc := 9) C dL_law_9 (by decide) ?_
  refine J_cvP (pc := 10) (As := [.int (0 : Int32)]) (st := []) C (fun z => (wPL cI cB cO A z)) dL_law_10 ml_RL_161 mi_yX10_setup (fun a s2 hr => R_setup l D cI cB cL cO pf N A zs (0 : Int32) hr) h at_this rfl rfl ⟨rfl, rfl⟩ ⟨(Nat.le_of_ble_eq_true rfl), (Nat.le_of_ble_eq_true rfl)⟩ ⟨(by first | omega | (dsimp only; omega)), (by first | omega | (dsimp only; omega))⟩ (Nat.le_of_ble_eq_true rfl) (fun r10 h => ?_)
  refine J_iconst (v := (1 : Int32)) (pc := 13) C dL_law_13 (by decide) ?_
  refine J_ic_ne (pc := 14) (tgt := 67) C dL_law_14 (by decide) h (fun h => ?_) (fun h => ?_)
  · refine J_iconst (v := (0 : Int32)) (pc := 67) C dL_law_67 (by decide) ?_
    cases h
  · refine J_aload_n (pc := 17) C dL_law_17 1 rfl ?_
    refine J_iconst (v := (0 : Int32)) (pc := 18) C dL_law_18 (by decide) ?_
    refine J_cvP (pc := 19) (As := [.int (0 : Int32)]) (st := []) C (fun z => (wPL cI cB cO A z)) dL_law_19 ml_RL_219 mi_yX10_threshold (fun a s2 hr => R_threshold l D cI cB cL cO pf N A r10.2.2 (0 : Int32) hr) h at_this rfl rfl ⟨rfl, rfl⟩ ⟨(Nat.le_of_ble_eq_true rfl), (Nat.le_of_ble_eq_true rfl)⟩ ⟨(by first | omega | (dsimp only; omega)), (by first | omega | (dsimp only; omega))⟩ (Nat.le_of_ble_eq_true rfl) (fun r19 h => ?_)
    refine J_if_ne (pc := 22) (tgt := 67) C dL_law_22 (by decide) h (fun h => ?_) (fun h => ?_)
    · refine J_iconst (v := (0 : Int32)) (pc := 67) C dL_law_67 (by decide) ?_
      cases h
    · refine J_aload_n (pc := 25) C dL_law_25 1 rfl ?_
      refine J_iconst (v := (3 : Int32)) (pc := 26) C dL_law_26 (by decide) ?_
      refine J_cvP (pc := 27) (As := [.int (3 : Int32)]) (st := []) C (fun z => (wPL cI cB cO A z)) dL_law_27 ml_RL_161 mi_yX10_setup (fun a s2 hr => R_setup l D cI cB cL cO pf N A r19.2.2 (3 : Int32) hr) h at_this rfl rfl ⟨rfl, rfl⟩ ⟨(Nat.le_of_ble_eq_true rfl), (Nat.le_of_ble_eq_true rfl)⟩ ⟨(by first | omega | (dsimp only; omega)), (by first | omega | (dsimp only; omega))⟩ (Nat.le_of_ble_eq_true rfl) (fun r27 h => ?_)
      refine J_if_ne (pc := 30) (tgt := 67) C dL_law_30 (by decide) h (fun h => ?_) (fun h => ?_)
      · refine J_iconst (v := (0 : Int32)) (pc := 67) C dL_law_67 (by decide) ?_
        cases h
      · refine J_aload_n (pc := 33) C dL_law_33 1 rfl ?_
        refine J_iconst (v := (5 : Int32)) (pc := 34) C dL_law_34 (by decide) ?_
        refine J_cvP (pc := 35) (As := [.int (5 : Int32)]) (st := []) C (fun z => (wPL cI cB cO A z)) dL_law_35 ml_RL_161 mi_yX10_setup (fun a s2 hr => R_setup l D cI cB cL cO pf N A r27.2.2 (5 : Int32) hr) h at_this rfl rfl ⟨rfl, rfl⟩ ⟨(Nat.le_of_ble_eq_true rfl), (Nat.le_of_ble_eq_true rfl)⟩ ⟨(by first | omega | (dsimp only; omega)), (by first | omega | (dsimp only; omega))⟩ (Nat.le_of_ble_eq_true rfl) (fun r35 h => ?_)
        refine J_sipush (v := (365 : Int32)) (pc := 38) C dL_law_38 (by decide) ?_
        refine J_ic_ne (pc := 41) (tgt := 67) C dL_law_41 (by decide) h (fun h => ?_) (fun h => ?_)
        · refine J_iconst (v := (0 : Int32)) (pc := 67) C dL_law_67 (by decide) ?_
          cases h
        · refine J_aload_n (pc := 44) C dL_law_44 1 rfl ?_
          refine J_cvL (pc := 45) (As := []) (st := []) (V := fun r45 => some (.int r45.1)) C (fun r45 => (wPL cI cB cO A r45.2)) dL_law_45 ml_RL_221 mi_yX10_errorPosition (fun r hr => Q_errorPosition l D cI cB cL cO pf N A r35.2.2 r hr) h at_this rfl rfl ⟨rfl, rfl⟩ ⟨(Nat.le_of_ble_eq_true rfl), (Nat.le_of_ble_eq_true rfl)⟩ ⟨(by first | omega | (dsimp only; omega)), (by first | omega | (dsimp only; omega))⟩ (Nat.le_of_ble_eq_true rfl) (fun r45 h => ?_)
          refine J_if_ne (pc := 48) (tgt := 67) C dL_law_48 (by decide) h (fun h => ?_) (fun h => ?_)
          · refine J_iconst (v := (0 : Int32)) (pc := 67) C dL_law_67 (by decide) ?_
            cases h
          · refine J_aload_n (pc := 51) C dL_law_51 1 rfl ?_
            obtain ⟨r52, hr52, h⟩ := Option.bind_eq_some_iff.mp h
            refine J_csH (pc := 52) (As := [.ref (A 0 0)]) (st := []) C dL_law_52 ml_RL_224 wh_loaded (V_loaded l hf D cI cB cL cO pf N A r45.2 r52 hr52) [] (by rw [List.append_nil]) rfl ⟨(Nat.le_of_ble_eq_true rfl), (Nat.le_of_ble_eq_true rfl)⟩ ⟨(by first | omega | (dsimp only; omega)), (by first | omega | (dsimp only; omega))⟩ (Nat.le_of_ble_eq_true rfl) ?_
            rintro v w1 ⟨rfl, rfl⟩
            refine J_ws (ws2 := (wPL cI cB cO A r52.2)) (List.append_nil _) ?_
            refine J_widen (k2 := k0 + 4) (n2 := n0 + 24) (by first | omega | (dsimp only; omega)) (by first | omega | (dsimp only; omega)) ?_
            refine J_iconst (v := (-1 : Int32)) (pc := 55) C dL_law_55 (by decide) ?_
            refine J_ic_ne (pc := 56) (tgt := 67) C dL_law_56 (by decide) h (fun h => ?_) (fun h => ?_)
            · refine J_iconst (v := (0 : Int32)) (pc := 67) C dL_law_67 (by decide) ?_
              cases h
            · refine J_aload_n (pc := 59) C dL_law_59 1 rfl ?_
              refine J_iconst (v := (5 : Int32)) (pc := 60) C dL_law_60 (by decide) ?_
              refine J_cvP (pc := 61) (As := [.int (5 : Int32)]) (st := []) C (fun z => (wPL cI cB cO A z)) dL_law_61 ml_RL_158 mi_yX10_total (fun a s2 hr => R_total l D cI cB cL cO pf N A r52.2 (5 : Int32) hr) h at_this rfl rfl ⟨rfl, rfl⟩ ⟨(Nat.le_of_ble_eq_true rfl), (Nat.le_of_ble_eq_true rfl)⟩ ⟨(by first | omega | (dsimp only; omega)), (by first | omega | (dsimp only; omega))⟩ (Nat.le_of_ble_eq_true rfl) (fun r61 h => ?_)
              refine J_if_eq (pc := 64) (tgt := 69) C dL_law_64 (by decide) h (fun h => ?_) (fun h => ?_)
              · have h := Option.some.inj h
                subst h
                refine J_widen (k2 := k0 + 4) (n2 := n0 + 24) (by first | omega | (dsimp only; omega)) (by first | omega | (dsimp only; omega)) ?_
                refine J_sub (lv2 := [(0, .ref (pf 92)), (1, .ref (A 0 0))]) [0, 1] rfl ?_
                exact kk
              · refine J_iconst (v := (0 : Int32)) (pc := 67) C dL_law_67 (by decide) ?_
                cases h
def f_L_chk2 (N : Nat) (pf : Nat → Nat) (zs : T_PL) : Option (T_PL) :=
  ((P_errorPosition N zs).bind fun r194 => (if r194.1 = (-1 : Int32) then ((H_loaded N r194.2).bind fun r202 => ((f_L_members pf).bind fun r206 => (if r202.1 = r206 then ((P_setup N r202.2 (0 : Int32)).bind fun r214 => (if ¬ r214.1 = 0 then none else ((f_L_tiers pf).bind fun r218 => (if r214.2.1 = r218 then (some r214.2.2) else none)))) else none))) else none))
set_option maxHeartbeats 4000000 in
set_option maxRecDepth 100000 in
theorem t_L_chk2_b193 {l : Launch} {D : va_G} {A : Nat → Nat → Nat} {cI cB cL cO : ClassId} {pf : Nat → Nat} {p : Program} {e : Env} {s : State} {m : MethodId} {args : Array Value} {below : List Frame} {meth : Method} {c : Code} {AP : Nat → Prop} {Q : State → Prop} {N k0 n0 : Nat} {zs : T_PL} {o : T_PL} (C : jC p s m args meth c cL_law 23 RL D [(cI, .int), (cB, .byte), (cL, .byte), (cO, .object RX0)] pf AP) (hf : l.stackTraces = false) (hk : k0 + 4 ≤ room_1.cells) (hn : n0 + 24 ≤ room_1.slots) (kk : J p l e room_1 s m args below meth c 23 D AP Q (k0 + 4) (n0 + 24) 226 [(0, .ref (pf 92)), (1, .ref (A 0 0))] [] (wPL cI cB cO A o)) (h : f_L_chk2 N pf zs = some o) : J p l e room_1 s m args below meth c 23 D AP Q (k0) (n0) 193 [(0, .ref (pf 92)), (1, .ref (A 0 0))] [] (wPL cI cB cO A zs) := by
  unfold f_L_chk2 at h
  refine J_aload_n (pc := 193) C dL_law_193 1 rfl ?_
  refine J_cvL (pc := 194) (As := []) (st := []) (V := fun r194 => some (.int r194.1)) C (fun r194 => (wPL cI cB cO A r194.2)) dL_law_194 ml_RL_221 mi_yX10_errorPosition (fun r hr => Q_errorPosition l D cI cB cL cO pf N A zs r hr) h at_this rfl rfl ⟨rfl, rfl⟩ ⟨(Nat.le_of_ble_eq_true rfl), (Nat.le_of_ble_eq_true rfl)⟩ ⟨(by first | omega | (dsimp only; omega)), (by first | omega | (dsimp only; omega))⟩ (Nat.le_of_ble_eq_true rfl) (fun r194 h => ?_)
  refine J_iconst (v := (-1 : Int32)) (pc := 197) C dL_law_197 (by decide) ?_
  refine J_ic_ne (pc := 198) (tgt := 224) C dL_law_198 (by decide) h (fun h => ?_) (fun h => ?_)
  · refine J_iconst (v := (0 : Int32)) (pc := 224) C dL_law_224 (by decide) ?_
    cases h
  · refine J_aload_n (pc := 201) C dL_law_201 1 rfl ?_
    obtain ⟨r202, hr202, h⟩ := Option.bind_eq_some_iff.mp h
    refine J_csH (pc := 202) (As := [.ref (A 0 0)]) (st := []) C dL_law_202 ml_RL_224 wh_loaded (V_loaded l hf D cI cB cL cO pf N A r194.2 r202 hr202) [] (by rw [List.append_nil]) rfl ⟨(Nat.le_of_ble_eq_true rfl), (Nat.le_of_ble_eq_true rfl)⟩ ⟨(by first | omega | (dsimp only; omega)), (by first | omega | (dsimp only; omega))⟩ (Nat.le_of_ble_eq_true rfl) ?_
    rintro v w1 ⟨rfl, rfl⟩
    refine J_ws (ws2 := (wPL cI cB cO A r202.2)) (List.append_nil _) ?_
    refine J_widen (k2 := k0 + 4) (n2 := n0 + 24) (by first | omega | (dsimp only; omega)) (by first | omega | (dsimp only; omega)) ?_
    refine J_aload_n (pc := 205) C dL_law_205 0 rfl ?_
    refine J_csL (b := 0) (pc := 206) (As := [.ref (pf 92)]) (st := [.int r202.1]) (V := fun r206 => some (.int r206)) C (fun _ => (wPL cI cB cO A r202.2)) dL_law_206 ml_RL_108 mi_yL_members (fun r hr => Ct_nil (c_L_members l D cI cB cL cO pf N r hr)) h rfl ⟨rfl, rfl⟩ ⟨(Nat.le_of_ble_eq_true rfl), (Nat.le_of_ble_eq_true rfl)⟩ ⟨(by first | omega | (dsimp only; omega)), (by first | omega | (dsimp only; omega))⟩ (Nat.le_of_ble_eq_true rfl) (fun r206 h => ?_)
    refine J_ic_ne (pc := 209) (tgt := 224) C dL_law_209 (by decide) h (fun h => ?_) (fun h => ?_)
    · refine J_iconst (v := (0 : Int32)) (pc := 224) C dL_law_224 (by decide) ?_
      cases h
    · refine J_aload_n (pc := 212) C dL_law_212 1 rfl ?_
      refine J_iconst (v := (0 : Int32)) (pc := 213) C dL_law_213 (by decide) ?_
      refine J_cvP (pc := 214) (As := [.int (0 : Int32)]) (st := []) C (fun z => (wPL cI cB cO A z)) dL_law_214 ml_RL_161 mi_yX10_setup (fun a s2 hr => R_setup l D cI cB cL cO pf N A r202.2 (0 : Int32) hr) h at_this rfl rfl ⟨rfl, rfl⟩ ⟨(Nat.le_of_ble_eq_true rfl), (Nat.le_of_ble_eq_true rfl)⟩ ⟨(by first | omega | (dsimp only; omega)), (by first | omega | (dsimp only; omega))⟩ (Nat.le_of_ble_eq_true rfl) (fun r214 h => ?_)
      refine J_aload_n (pc := 217) C dL_law_217 0 rfl ?_
      refine J_csL (b := 0) (pc := 218) (As := [.ref (pf 92)]) (st := [.int r214.2.1]) (V := fun r218 => some (.int r218)) C (fun _ => (wPL cI cB cO A r214.2.2)) dL_law_218 ml_RL_81 mi_yL_tiers (fun r hr => Ct_nil (c_L_tiers l D cI cB cL cO pf N r hr)) h rfl ⟨rfl, rfl⟩ ⟨(Nat.le_of_ble_eq_true rfl), (Nat.le_of_ble_eq_true rfl)⟩ ⟨(by first | omega | (dsimp only; omega)), (by first | omega | (dsimp only; omega))⟩ (Nat.le_of_ble_eq_true rfl) (fun r218 h => ?_)
      refine J_ic_eq (pc := 221) (tgt := 226) C dL_law_221 (by decide) h (fun h => ?_) (fun h => ?_)
      · have h := Option.some.inj h
        subst h
        refine J_widen (k2 := k0 + 4) (n2 := n0 + 24) (by first | omega | (dsimp only; omega)) (by first | omega | (dsimp only; omega)) ?_
        refine J_sub (lv2 := [(0, .ref (pf 92)), (1, .ref (A 0 0))]) [0, 1] rfl ?_
        exact kk
      · refine J_iconst (v := (0 : Int32)) (pc := 224) C dL_law_224 (by decide) ?_
        cases h

/-! the spoilt text -/
def cutN (pf : Nat → Nat) : Nat := inN (scI pf 6) (cfgT pf).length
def chN (pf : Nat → Nat) : Nat := (tx 19).getD (inN (scI pf 7) 5) 0
def spT (pf : Nat → Nat) : List Nat := (cfgT pf).take (cutN pf) ++ [chN pf] ++ (cfgT pf).drop (cutN pf)
theorem cfg_pos (pf : Nat → Nat) : 0 < (cfgT pf).length := by
  have h : (tx 16).length = 10 := by decide
  unfold cfgT
  simp only [List.length_append]
  omega
theorem cut_lt (pf : Nat → Nat) : cutN pf < (cfgT pf).length := inN_lt _ (cfg_pos pf)
theorem ch_lt (pf : Nat → Nat) : chN pf < 128 := tx_AS (i := 19) (by decide) _
theorem l_sp (pf : Nat → Nat) : (spT pf).length = (cfgT pf).length + 1 := by
  have h := cut_lt pf
  unfold spT
  rw [List.length_append, List.length_append, List.length_take, List.length_drop]
  show min _ _ + 1 + _ = _
  omega
theorem a_take (pf : Nat → Nat) (k : Nat) : AS ((cfgT pf).take k) := AS_sub (a_cfg pf) 0 k
theorem a_drop (pf : Nat → Nat) (k : Nat) : AS ((cfgT pf).drop k) := fun i => by
  rw [List.getD_eq_getElem?_getD, List.getElem?_drop, ← List.getD_eq_getElem?_getD]
  exact a_cfg pf _
theorem a_sp (pf : Nat → Nat) : AS (spT pf) := AS_app (AS_app (a_take pf _) (AS_one (ch_lt pf))) (a_drop pf _)
theorem l_take (pf : Nat → Nat) (k : Nat) : ((cfgT pf).take k).length ≤ 300 := by
  rw [List.length_take]
  have := l_cfg pf
  omega
theorem l_drop (pf : Nat → Nat) (k : Nat) : ((cfgT pf).drop k).length ≤ 300 := by
  rw [List.length_drop]
  have := l_cfg pf
  omega
def H_err (N : Nat) (n : Int32) (zs : T_PL) : Option T_PL := (P_errorPosition N zs).bind fun r => if r.1 < 0 then some r.2 else if n < r.1 then none else (H_loaded N r.2).bind fun r2 => if r2.1 = -1 then (P_setup N r2.2 3).bind fun r3 => if r3.1 = 0 then (if r3.2.1 = 0 then some r3.2.2 else none) else none else none
def lawLoop (N : Nat) (pf : Nat → Nat) : Nat → Nat → Int64 → Int32 → T_PL → Option (Int64 × Int32 × T_PL)
  | 0, _, x6, x8, zs => some (x6, x8, zs)
  | d + 1, k, x6, x8, zs => (f_L_turn N pf x6 x8 (nI k) zs).bind fun o => lawLoop N pf d (k + 1) o.1 o.2.1 o.2.2

set_option maxHeartbeats 4000000 in
set_option maxRecDepth 100000 in
theorem K_law104 {p : Program} {l : Launch} {e : Env} {s : State} {m : MethodId} {args : Array Value} {below : List Frame} {meth : Method} {c : Code} {D : va_G} {A : Nat → Nat → Nat} {cI cB cL cO : ClassId} {pf : Nat → Nat} {AP : Nat → Prop} {Q : State → Prop} {N k0 n0 : Nat} {a v cap q r : Nat} {zs : T_PL} (C : jC p s m args meth c cL_law 23 RL D [(cI, .int), (cB, .byte), (cL, .byte), (cO, .object RX0)] pf AP) (hf : l.stackTraces = false) (hL : pf 93 < 2 ^ 31) (hk : k0 + 10 ≤ room_1.cells) (hn : n0 + 20000 ≤ room_1.slots) (hg : ((cfgT pf).take (cutN pf)).length ≤ cap) (hz : cap ≤ 4096) (kk : ∀ q4 r4 : Nat, J p l e room_1 s m args below meth c 23 D AP Q (k0 + 10) (n0 + 20000) 135 [(4, .ref q4), (3, .int (nI (cutN pf))), (2, .ref q), (1, .ref (A 0 0)), (0, .ref (pf 92))] [] ([(q4, .inr (11, [.ref r4, .int 0, .int 0, .int 0])), (r4, .inl (cB, (spT pf).length, .inl (bN (spT pf)))), (q, .inr (11, [.ref r, .int 0, .int 0, .int 0])), (r, .inl (cB, (cfgT pf).length, .inl (bN (cfgT pf))))] ++ wPL cI cB cO A zs)) : J p l e room_1 s m args below meth c 23 D AP Q (k0) (n0) 104 [(3, .int (nI (cutN pf))), (2, .ref q), (1, .ref (A 0 0)), (0, .ref (pf 92))] [.ref a] ([(a, .inr (12, [.ref v, .int 0, .int 0, .int (nI ((cfgT pf).take (cutN pf)).length)])), (v, .inl (cB, cap, .inl (bN ((cfgT pf).take (cutN pf))))), (q, .inr (11, [.ref r, .int 0, .int 0, .int 0])), (r, .inl (cB, (cfgT pf).length, .inl (bN (cfgT pf))))] ++ wPL cI cB cO A zs) := by
  have hAt := a_take pf (cutN pf)
  have hbt := l_take pf (cutN pf)
  have hcut := cut_lt pf
  have hcl := l_cfg pf
  rcases Nat.eq_zero_or_pos (cutN pf) with h0 | h0
  · refine J_ldcS (pc := 104) C dL_law_104 39 rfl ?_
    refine J_aload_n (pc := 106) C dL_law_106 3 rfl ?_
    refine J_bipush (v := (7 : Int32)) (pc := 107) C dL_law_107 (by decide) ?_
    refine J_csF (b := 0) (As := [.ref (pf 92), .int (7 : Int32)]) (st := [.ref (pf 19), .ref a]) (pc := 109) C dL_law_109 ml_RL_41 mi_yL_cell (c_cell l D cI cB cL cO pf (7 : Int32) (scI pf 7) (cell_val hL (k := 7) (by decide))) ([(a, .inr (12, [.ref v, .int 0, .int 0, .int (nI ((cfgT pf).take (cutN pf)).length)])), (v, .inl (cB, cap, .inl (bN ((cfgT pf).take (cutN pf))))), (q, .inr (11, [.ref r, .int 0, .int 0, .int 0])), (r, .inl (cB, (cfgT pf).length, .inl (bN (cfgT pf))))] ++ wPL cI cB cO A zs) (permT (permN [] [0, 1, 2, 3] 4 rfl rfl rfl (by decide))) rfl ⟨(Nat.le_of_ble_eq_true rfl), (Nat.le_of_ble_eq_true rfl)⟩ ⟨(by first | (dsimp only; omega) | omega), (by first | (dsimp only; omega) | omega)⟩ (Nat.le_of_ble_eq_true rfl) ?_
    rintro v w1 ⟨rfl, rfl⟩
    refine J_ws (ws2 := ([(a, .inr (12, [.ref v, .int 0, .int 0, .int (nI ((cfgT pf).take (cutN pf)).length)])), (v, .inl (cB, cap, .inl (bN ((cfgT pf).take (cutN pf))))), (q, .inr (11, [.ref r, .int 0, .int 0, .int 0])), (r, .inl (cB, (cfgT pf).length, .inl (bN (cfgT pf))))] ++ wPL cI cB cO A zs)) rfl ?_
    refine J_iconst (v := (5 : Int32)) (pc := 112) C dL_law_112 (by decide) ?_
    refine J_csF (b := 0) (As := [.int (scI pf 7), .int (5 : Int32)]) (st := [.ref (pf 19), .ref a]) (pc := 113) C dL_law_113 ml_RL_45 mi_yL_in (c_L_in l D cI cB cL cO pf 0 (scI pf 7) (5 : Int32) (nI (inN (scI pf 7) 5)) (in_val _ (m := 5) (by decide) (by decide))) ([(a, .inr (12, [.ref v, .int 0, .int 0, .int (nI ((cfgT pf).take (cutN pf)).length)])), (v, .inl (cB, cap, .inl (bN ((cfgT pf).take (cutN pf))))), (q, .inr (11, [.ref r, .int 0, .int 0, .int 0])), (r, .inl (cB, (cfgT pf).length, .inl (bN (cfgT pf))))] ++ wPL cI cB cO A zs) (permT (permN [] [0, 1, 2, 3] 4 rfl rfl rfl (by decide))) rfl ⟨(Nat.le_of_ble_eq_true rfl), (Nat.le_of_ble_eq_true rfl)⟩ ⟨(by first | (dsimp only; omega) | omega), (by first | (dsimp only; omega) | omega)⟩ (Nat.le_of_ble_eq_true rfl) ?_
    rintro v w1 ⟨rfl, rfl⟩
    refine J_ws (ws2 := ([(a, .inr (12, [.ref v, .int 0, .int 0, .int (nI ((cfgT pf).take (cutN pf)).length)])), (v, .inl (cB, cap, .inl (bN ((cfgT pf).take (cutN pf))))), (q, .inr (11, [.ref r, .int 0, .int 0, .int 0])), (r, .inl (cB, (cfgT pf).length, .inl (bN (cfgT pf))))] ++ wPL cI cB cO A zs)) rfl ?_
    have hix : (inN (scI pf 7) 5) < 5 := inN_lt _ (by decide)
    refine J_cvSF (As := [.int (nI (inN (scI pf 7) 5))]) (st := [.ref a]) (pc := 116) C dL_law_116 ml_RL_26 mi_yJ0_charAt_5068e rfl (by decide) (c_J0_charAt l D cI cB cL cO pf 19 (nI (inN (scI pf 7) 5)) (by decide) (nI_pos (by omega)) (show ¬ nI 5 ≤ nI (inN (scI pf 7) 5) from nI_ge hix (by decide)) (by rw [nI_clamp (by omega), show sl_len 19 = 5 from rfl]; omega)) ([(a, .inr (12, [.ref v, .int 0, .int 0, .int (nI ((cfgT pf).take (cutN pf)).length)])), (v, .inl (cB, cap, .inl (bN ((cfgT pf).take (cutN pf))))), (q, .inr (11, [.ref r, .int 0, .int 0, .int 0])), (r, .inl (cB, (cfgT pf).length, .inl (bN (cfgT pf))))] ++ wPL cI cB cO A zs) (permT (permN [] [0, 1, 2, 3] 4 rfl rfl rfl (by decide))) rfl ⟨(Nat.le_of_ble_eq_true rfl), (Nat.le_of_ble_eq_true rfl)⟩ ⟨(by first | (dsimp only; omega) | omega), (by first | (dsimp only; omega) | omega)⟩ (Nat.le_of_ble_eq_true rfl) ?_
    rintro v w1 ⟨rfl, rfl⟩
    refine J_ws (ws2 := ([(a, .inr (12, [.ref v, .int 0, .int 0, .int (nI ((cfgT pf).take (cutN pf)).length)])), (v, .inl (cB, cap, .inl (bN ((cfgT pf).take (cutN pf))))), (q, .inr (11, [.ref r, .int 0, .int 0, .int 0])), (r, .inl (cB, (cfgT pf).length, .inl (bN (cfgT pf))))] ++ wPL cI cB cO A zs)) rfl ?_
    refine J_top (α := Unit) (X := none) (nI (chN pf)) (by rw [nI_clamp (by omega), tx_ch]; rfl) ?_
    have hAw1 : AS ((cfgT pf).take (cutN pf) ++ [chN pf]) := AS_app hAt (AS_one (ch_lt pf))
    have hbw1 : ((cfgT pf).take (cutN pf) ++ [chN pf]).length ≤ _ := l_app hbt (Nat.le_refl 1)
    refine J_cvF (As := [.int (nI (chN pf))]) (st := []) (pc := 119) C dL_law_119 ml_RL_86 mi_yJ4_append_cf468 (c_SBC l D cI cB cL cO pf a v cap ((cfgT pf).take (cutN pf)) (chN pf) (ch_lt pf) hAt hg hz (by have := hbt; omega)) ([(q, .inr (11, [.ref r, .int 0, .int 0, .int 0])), (r, .inl (cB, (cfgT pf).length, .inl (bN (cfgT pf))))] ++ wPL cI cB cO A zs) (permT (permN [0, 1] [2, 3] 4 rfl rfl rfl (by decide))) (q0 := 0) rfl rfl rfl ⟨(Nat.le_of_ble_eq_true rfl), (Nat.le_of_ble_eq_true rfl)⟩ ⟨(by first | (dsimp only; omega) | omega), (by first | (dsimp only; omega) | omega)⟩ (Nat.le_of_ble_eq_true rfl) ?_
    rintro v w1 ⟨rfl, vw1, capw1, rfl, gw1, zw1⟩
    refine J_ws (ws2 := ([(a, .inr (12, [.ref vw1, .int 0, .int 0, .int (nI ((cfgT pf).take (cutN pf) ++ [chN pf]).length)])), (vw1, .inl (cB, capw1, .inl (bN ((cfgT pf).take (cutN pf) ++ [chN pf])))), (q, .inr (11, [.ref r, .int 0, .int 0, .int 0])), (r, .inl (cB, (cfgT pf).length, .inl (bN (cfgT pf))))] ++ wPL cI cB cO A zs)) rfl ?_
    refine J_aload_n (pc := 122) C dL_law_122 1 rfl ?_
    refine J_iload_n (pc := 123) C dL_law_123 0 rfl ?_
    refine J_top (α := Unit) (X := none) (nI 0) (by rw [h0]) ?_
    refine J_cvF (As := [.int (nI 0)]) (st := [.ref a]) (pc := 124) C dL_law_124 ml_RL_238 mi_yJ0_substring_b52d3 (c_sub1T l D cI cB cL cO pf q r (cfgT pf) (by omega)) ([(a, .inr (12, [.ref vw1, .int 0, .int 0, .int (nI ((cfgT pf).take (cutN pf) ++ [chN pf]).length)])), (vw1, .inl (cB, capw1, .inl (bN ((cfgT pf).take (cutN pf) ++ [chN pf]))))] ++ wPL cI cB cO A zs) (permT (permN [2, 3] [0, 1] 4 rfl rfl rfl (by decide))) (q0 := 0) rfl rfl rfl ⟨(Nat.le_of_ble_eq_true rfl), (Nat.le_of_ble_eq_true rfl)⟩ ⟨(by first | (dsimp only; omega) | omega), (by first | (dsimp only; omega) | omega)⟩ (Nat.le_of_ble_eq_true rfl) ?_
    rintro v w1 ⟨rfl, rfl⟩
    refine J_ws (ws2 := ([(q, .inr (11, [.ref r, .int 0, .int 0, .int 0])), (r, .inl (cB, (cfgT pf).length, .inl (bN (cfgT pf)))), (a, .inr (12, [.ref vw1, .int 0, .int 0, .int (nI ((cfgT pf).take (cutN pf) ++ [chN pf]).length)])), (vw1, .inl (cB, capw1, .inl (bN ((cfgT pf).take (cutN pf) ++ [chN pf]))))] ++ wPL cI cB cO A zs)) rfl ?_
    refine J_drop (ws2 := ([(a, .inr (12, [.ref vw1, .int 0, .int 0, .int (nI ((cfgT pf).take (cutN pf) ++ [chN pf]).length)])), (vw1, .inl (cB, capw1, .inl (bN ((cfgT pf).take (cutN pf) ++ [chN pf])))), (q, .inr (11, [.ref r, .int 0, .int 0, .int 0])), (r, .inl (cB, (cfgT pf).length, .inl (bN (cfgT pf))))] ++ wPL cI cB cO A zs)) (Wr := []) (permDT (permN [2, 3, 0, 1] [] 4 rfl rfl rfl (by decide))) ?_
    have hAw2 : AS ((cfgT pf).take (cutN pf) ++ [chN pf] ++ (cfgT pf)) := AS_app hAw1 (a_cfg pf)
    have hbw2 : ((cfgT pf).take (cutN pf) ++ [chN pf] ++ (cfgT pf)).length ≤ _ := l_app hbw1 hcl
    refine J_cvF (As := [.ref q]) (st := []) (pc := 127) C dL_law_127 ml_RL_58 mi_yJ4_append_15ec4 (c_SBSM l D cI cB cL cO pf a vw1 capw1 ((cfgT pf).take (cutN pf) ++ [chN pf]) q r (cfgT pf) (a_cfg pf) hAw1 gw1 zw1 (by have := hbw1; have := hcl; omega)) ([] ++ wPL cI cB cO A zs) (permT (permN [0, 1, 2, 3] [] 4 rfl rfl rfl (by decide))) (q0 := 0) rfl rfl rfl ⟨(Nat.le_of_ble_eq_true rfl), (Nat.le_of_ble_eq_true rfl)⟩ ⟨(by first | (dsimp only; omega) | omega), (by first | (dsimp only; omega) | omega)⟩ (Nat.le_of_ble_eq_true rfl) ?_
    rintro v w1 ⟨rfl, vw2, capw2, rfl, gw2, zw2⟩
    refine J_ws (ws2 := ([(a, .inr (12, [.ref vw2, .int 0, .int 0, .int (nI ((cfgT pf).take (cutN pf) ++ [chN pf] ++ (cfgT pf)).length)])), (vw2, .inl (cB, capw2, .inl (bN ((cfgT pf).take (cutN pf) ++ [chN pf] ++ (cfgT pf))))), (q, .inr (11, [.ref r, .int 0, .int 0, .int 0])), (r, .inl (cB, (cfgT pf).length, .inl (bN (cfgT pf))))] ++ wPL cI cB cO A zs)) rfl ?_
    refine J_cvF (As := []) (st := []) (pc := 130) C dL_law_130 ml_RL_77 mi_yJ4_toString_0e30d (c_toS l D cI cB cL cO pf a vw2 capw2 ((cfgT pf).take (cutN pf) ++ [chN pf] ++ (cfgT pf)) hAw2 gw2 zw2) ([(q, .inr (11, [.ref r, .int 0, .int 0, .int 0])), (r, .inl (cB, (cfgT pf).length, .inl (bN (cfgT pf))))] ++ wPL cI cB cO A zs) (permT (permN [0, 1] [2, 3] 4 rfl rfl rfl (by decide))) (q0 := 0) rfl rfl rfl ⟨(Nat.le_of_ble_eq_true rfl), (Nat.le_of_ble_eq_true rfl)⟩ ⟨(by first | (dsimp only; omega) | omega), (by first | (dsimp only; omega) | omega)⟩ (Nat.le_of_ble_eq_true rfl) ?_
    rintro v w1 ⟨q4, r4, rfl, rfl⟩
    refine J_ws (ws2 := ([(q4, .inr (11, [.ref r4, .int 0, .int 0, .int 0])), (r4, .inl (cB, ((cfgT pf).take (cutN pf) ++ [chN pf] ++ (cfgT pf)).length, .inl (bN ((cfgT pf).take (cutN pf) ++ [chN pf] ++ (cfgT pf))))), (q, .inr (11, [.ref r, .int 0, .int 0, .int 0])), (r, .inl (cB, (cfgT pf).length, .inl (bN (cfgT pf))))] ++ wPL cI cB cO A zs)) rfl ?_
    refine J_drop (ws2 := ([(q4, .inr (11, [.ref r4, .int 0, .int 0, .int 0])), (r4, .inl (cB, ((cfgT pf).take (cutN pf) ++ [chN pf] ++ (cfgT pf)).length, .inl (bN ((cfgT pf).take (cutN pf) ++ [chN pf] ++ (cfgT pf))))), (q, .inr (11, [.ref r, .int 0, .int 0, .int 0])), (r, .inl (cB, (cfgT pf).length, .inl (bN (cfgT pf))))] ++ wPL cI cB cO A zs)) (Wr := []) (permDT (permN [0, 1, 2, 3] [] 4 rfl rfl rfl (by decide))) ?_
    refine J_ws (ws2 := ([(q4, .inr (11, [.ref r4, .int 0, .int 0, .int 0])), (r4, .inl (cB, (spT pf).length, .inl (bN (spT pf)))), (q, .inr (11, [.ref r, .int 0, .int 0, .int 0])), (r, .inl (cB, (cfgT pf).length, .inl (bN (cfgT pf))))] ++ wPL cI cB cO A zs)) (by rw [show (cfgT pf).take (cutN pf) ++ [chN pf] ++ (cfgT pf) = spT pf from (by unfold spT; rw [h0]; rfl)]) ?_
    refine J_astore (lv2 := [(4, .ref q4), (3, .int (nI (cutN pf))), (2, .ref q), (1, .ref (A 0 0)), (0, .ref (pf 92))]) (pc := 133) C dL_law_133 (by decide) rfl ?_
    refine J_widen (k2 := k0 + 10) (n2 := n0 + 20000) (by first | omega | (dsimp only; omega)) (by first | omega | (dsimp only; omega)) ?_
    exact kk q4 r4
  · refine J_ldcS (pc := 104) C dL_law_104 39 rfl ?_
    refine J_aload_n (pc := 106) C dL_law_106 3 rfl ?_
    refine J_bipush (v := (7 : Int32)) (pc := 107) C dL_law_107 (by decide) ?_
    refine J_csF (b := 0) (As := [.ref (pf 92), .int (7 : Int32)]) (st := [.ref (pf 19), .ref a]) (pc := 109) C dL_law_109 ml_RL_41 mi_yL_cell (c_cell l D cI cB cL cO pf (7 : Int32) (scI pf 7) (cell_val hL (k := 7) (by decide))) ([(a, .inr (12, [.ref v, .int 0, .int 0, .int (nI ((cfgT pf).take (cutN pf)).length)])), (v, .inl (cB, cap, .inl (bN ((cfgT pf).take (cutN pf))))), (q, .inr (11, [.ref r, .int 0, .int 0, .int 0])), (r, .inl (cB, (cfgT pf).length, .inl (bN (cfgT pf))))] ++ wPL cI cB cO A zs) (permT (permN [] [0, 1, 2, 3] 4 rfl rfl rfl (by decide))) rfl ⟨(Nat.le_of_ble_eq_true rfl), (Nat.le_of_ble_eq_true rfl)⟩ ⟨(by first | (dsimp only; omega) | omega), (by first | (dsimp only; omega) | omega)⟩ (Nat.le_of_ble_eq_true rfl) ?_
    rintro v w1 ⟨rfl, rfl⟩
    refine J_ws (ws2 := ([(a, .inr (12, [.ref v, .int 0, .int 0, .int (nI ((cfgT pf).take (cutN pf)).length)])), (v, .inl (cB, cap, .inl (bN ((cfgT pf).take (cutN pf))))), (q, .inr (11, [.ref r, .int 0, .int 0, .int 0])), (r, .inl (cB, (cfgT pf).length, .inl (bN (cfgT pf))))] ++ wPL cI cB cO A zs)) rfl ?_
    refine J_iconst (v := (5 : Int32)) (pc := 112) C dL_law_112 (by decide) ?_
    refine J_csF (b := 0) (As := [.int (scI pf 7), .int (5 : Int32)]) (st := [.ref (pf 19), .ref a]) (pc := 113) C dL_law_113 ml_RL_45 mi_yL_in (c_L_in l D cI cB cL cO pf 0 (scI pf 7) (5 : Int32) (nI (inN (scI pf 7) 5)) (in_val _ (m := 5) (by decide) (by decide))) ([(a, .inr (12, [.ref v, .int 0, .int 0, .int (nI ((cfgT pf).take (cutN pf)).length)])), (v, .inl (cB, cap, .inl (bN ((cfgT pf).take (cutN pf))))), (q, .inr (11, [.ref r, .int 0, .int 0, .int 0])), (r, .inl (cB, (cfgT pf).length, .inl (bN (cfgT pf))))] ++ wPL cI cB cO A zs) (permT (permN [] [0, 1, 2, 3] 4 rfl rfl rfl (by decide))) rfl ⟨(Nat.le_of_ble_eq_true rfl), (Nat.le_of_ble_eq_true rfl)⟩ ⟨(by first | (dsimp only; omega) | omega), (by first | (dsimp only; omega) | omega)⟩ (Nat.le_of_ble_eq_true rfl) ?_
    rintro v w1 ⟨rfl, rfl⟩
    refine J_ws (ws2 := ([(a, .inr (12, [.ref v, .int 0, .int 0, .int (nI ((cfgT pf).take (cutN pf)).length)])), (v, .inl (cB, cap, .inl (bN ((cfgT pf).take (cutN pf))))), (q, .inr (11, [.ref r, .int 0, .int 0, .int 0])), (r, .inl (cB, (cfgT pf).length, .inl (bN (cfgT pf))))] ++ wPL cI cB cO A zs)) rfl ?_
    have hix : (inN (scI pf 7) 5) < 5 := inN_lt _ (by decide)
    refine J_cvSF (As := [.int (nI (inN (scI pf 7) 5))]) (st := [.ref a]) (pc := 116) C dL_law_116 ml_RL_26 mi_yJ0_charAt_5068e rfl (by decide) (c_J0_charAt l D cI cB cL cO pf 19 (nI (inN (scI pf 7) 5)) (by decide) (nI_pos (by omega)) (show ¬ nI 5 ≤ nI (inN (scI pf 7) 5) from nI_ge hix (by decide)) (by rw [nI_clamp (by omega), show sl_len 19 = 5 from rfl]; omega)) ([(a, .inr (12, [.ref v, .int 0, .int 0, .int (nI ((cfgT pf).take (cutN pf)).length)])), (v, .inl (cB, cap, .inl (bN ((cfgT pf).take (cutN pf))))), (q, .inr (11, [.ref r, .int 0, .int 0, .int 0])), (r, .inl (cB, (cfgT pf).length, .inl (bN (cfgT pf))))] ++ wPL cI cB cO A zs) (permT (permN [] [0, 1, 2, 3] 4 rfl rfl rfl (by decide))) rfl ⟨(Nat.le_of_ble_eq_true rfl), (Nat.le_of_ble_eq_true rfl)⟩ ⟨(by first | (dsimp only; omega) | omega), (by first | (dsimp only; omega) | omega)⟩ (Nat.le_of_ble_eq_true rfl) ?_
    rintro v w1 ⟨rfl, rfl⟩
    refine J_ws (ws2 := ([(a, .inr (12, [.ref v, .int 0, .int 0, .int (nI ((cfgT pf).take (cutN pf)).length)])), (v, .inl (cB, cap, .inl (bN ((cfgT pf).take (cutN pf))))), (q, .inr (11, [.ref r, .int 0, .int 0, .int 0])), (r, .inl (cB, (cfgT pf).length, .inl (bN (cfgT pf))))] ++ wPL cI cB cO A zs)) rfl ?_
    refine J_top (α := Unit) (X := none) (nI (chN pf)) (by rw [nI_clamp (by omega), tx_ch]; rfl) ?_
    have hAw1 : AS ((cfgT pf).take (cutN pf) ++ [chN pf]) := AS_app hAt (AS_one (ch_lt pf))
    have hbw1 : ((cfgT pf).take (cutN pf) ++ [chN pf]).length ≤ _ := l_app hbt (Nat.le_refl 1)
    refine J_cvF (As := [.int (nI (chN pf))]) (st := []) (pc := 119) C dL_law_119 ml_RL_86 mi_yJ4_append_cf468 (c_SBC l D cI cB cL cO pf a v cap ((cfgT pf).take (cutN pf)) (chN pf) (ch_lt pf) hAt hg hz (by have := hbt; omega)) ([(q, .inr (11, [.ref r, .int 0, .int 0, .int 0])), (r, .inl (cB, (cfgT pf).length, .inl (bN (cfgT pf))))] ++ wPL cI cB cO A zs) (permT (permN [0, 1] [2, 3] 4 rfl rfl rfl (by decide))) (q0 := 0) rfl rfl rfl ⟨(Nat.le_of_ble_eq_true rfl), (Nat.le_of_ble_eq_true rfl)⟩ ⟨(by first | (dsimp only; omega) | omega), (by first | (dsimp only; omega) | omega)⟩ (Nat.le_of_ble_eq_true rfl) ?_
    rintro v w1 ⟨rfl, vw1, capw1, rfl, gw1, zw1⟩
    refine J_ws (ws2 := ([(a, .inr (12, [.ref vw1, .int 0, .int 0, .int (nI ((cfgT pf).take (cutN pf) ++ [chN pf]).length)])), (vw1, .inl (cB, capw1, .inl (bN ((cfgT pf).take (cutN pf) ++ [chN pf])))), (q, .inr (11, [.ref r, .int 0, .int 0, .int 0])), (r, .inl (cB, (cfgT pf).length, .inl (bN (cfgT pf))))] ++ wPL cI cB cO A zs)) rfl ?_
    refine J_aload_n (pc := 122) C dL_law_122 1 rfl ?_
    refine J_iload_n (pc := 123) C dL_law_123 0 rfl ?_
    refine J_cvF (As := [.int (nI (cutN pf))]) (st := [.ref a]) (pc := 124) C dL_law_124 ml_RL_238 mi_yJ0_substring_b52d3 (c_sub1 l D cI cB cL cO pf q r (cutN pf) (cfgT pf) (a_cfg pf) h0 hcut (by omega)) ([(a, .inr (12, [.ref vw1, .int 0, .int 0, .int (nI ((cfgT pf).take (cutN pf) ++ [chN pf]).length)])), (vw1, .inl (cB, capw1, .inl (bN ((cfgT pf).take (cutN pf) ++ [chN pf]))))] ++ wPL cI cB cO A zs) (permT (permN [2, 3] [0, 1] 4 rfl rfl rfl (by decide))) (q0 := 0) rfl rfl rfl ⟨(Nat.le_of_ble_eq_true rfl), (Nat.le_of_ble_eq_true rfl)⟩ ⟨(by first | (dsimp only; omega) | omega), (by first | (dsimp only; omega) | omega)⟩ (Nat.le_of_ble_eq_true rfl) ?_
    rintro v w1 ⟨q1, r1, rfl, rfl⟩
    refine J_ws (ws2 := ([(q, .inr (11, [.ref r, .int 0, .int 0, .int 0])), (r, .inl (cB, (cfgT pf).length, .inl (bN (cfgT pf)))), (q1, .inr (11, [.ref r1, .int 0, .int 0, .int 0])), (r1, .inl (cB, ((cfgT pf).length - cutN pf), .inl (bN (((cfgT pf).drop (cutN pf)).take ((cfgT pf).length - cutN pf))))), (a, .inr (12, [.ref vw1, .int 0, .int 0, .int (nI ((cfgT pf).take (cutN pf) ++ [chN pf]).length)])), (vw1, .inl (cB, capw1, .inl (bN ((cfgT pf).take (cutN pf) ++ [chN pf]))))] ++ wPL cI cB cO A zs)) rfl ?_
    refine J_drop (ws2 := ([(a, .inr (12, [.ref vw1, .int 0, .int 0, .int (nI ((cfgT pf).take (cutN pf) ++ [chN pf]).length)])), (vw1, .inl (cB, capw1, .inl (bN ((cfgT pf).take (cutN pf) ++ [chN pf])))), (q1, .inr (11, [.ref r1, .int 0, .int 0, .int 0])), (r1, .inl (cB, ((cfgT pf).length - cutN pf), .inl (bN (((cfgT pf).drop (cutN pf)).take ((cfgT pf).length - cutN pf))))), (q, .inr (11, [.ref r, .int 0, .int 0, .int 0])), (r, .inl (cB, (cfgT pf).length, .inl (bN (cfgT pf))))] ++ wPL cI cB cO A zs)) (Wr := []) (permDT (permN [4, 5, 2, 3, 0, 1] [] 6 rfl rfl rfl (by decide))) ?_
    refine J_ws (ws2 := ([(a, .inr (12, [.ref vw1, .int 0, .int 0, .int (nI ((cfgT pf).take (cutN pf) ++ [chN pf]).length)])), (vw1, .inl (cB, capw1, .inl (bN ((cfgT pf).take (cutN pf) ++ [chN pf])))), (q1, .inr (11, [.ref r1, .int 0, .int 0, .int 0])), (r1, .inl (cB, ((cfgT pf).drop (cutN pf)).length, .inl (bN ((cfgT pf).drop (cutN pf))))), (q, .inr (11, [.ref r, .int 0, .int 0, .int 0])), (r, .inl (cB, (cfgT pf).length, .inl (bN (cfgT pf))))] ++ wPL cI cB cO A zs)) (by rw [show ((cfgT pf).drop (cutN pf)).take ((cfgT pf).length - cutN pf) = (cfgT pf).drop (cutN pf) from List.take_of_length_le (by rw [List.length_drop]; exact Nat.le_refl _), List.length_drop]) ?_
    have hAw2 : AS ((cfgT pf).take (cutN pf) ++ [chN pf] ++ ((cfgT pf).drop (cutN pf))) := AS_app hAw1 (a_drop pf (cutN pf))
    have hbw2 : ((cfgT pf).take (cutN pf) ++ [chN pf] ++ ((cfgT pf).drop (cutN pf))).length ≤ _ := l_app hbw1 (l_drop pf (cutN pf))
    refine J_cvF (As := [.ref q1]) (st := []) (pc := 127) C dL_law_127 ml_RL_58 mi_yJ4_append_15ec4 (c_SBSM l D cI cB cL cO pf a vw1 capw1 ((cfgT pf).take (cutN pf) ++ [chN pf]) q1 r1 ((cfgT pf).drop (cutN pf)) (a_drop pf (cutN pf)) hAw1 gw1 zw1 (by have := hbw1; have := (l_drop pf (cutN pf)); omega)) ([(q, .inr (11, [.ref r, .int 0, .int 0, .int 0])), (r, .inl (cB, (cfgT pf).length, .inl (bN (cfgT pf))))] ++ wPL cI cB cO A zs) (permT (permN [0, 1, 2, 3] [4, 5] 6 rfl rfl rfl (by decide))) (q0 := 0) rfl rfl rfl ⟨(Nat.le_of_ble_eq_true rfl), (Nat.le_of_ble_eq_true rfl)⟩ ⟨(by first | (dsimp only; omega) | omega), (by first | (dsimp only; omega) | omega)⟩ (Nat.le_of_ble_eq_true rfl) ?_
    rintro v w1 ⟨rfl, vw2, capw2, rfl, gw2, zw2⟩
    refine J_ws (ws2 := ([(a, .inr (12, [.ref vw2, .int 0, .int 0, .int (nI ((cfgT pf).take (cutN pf) ++ [chN pf] ++ ((cfgT pf).drop (cutN pf))).length)])), (vw2, .inl (cB, capw2, .inl (bN ((cfgT pf).take (cutN pf) ++ [chN pf] ++ ((cfgT pf).drop (cutN pf)))))), (q1, .inr (11, [.ref r1, .int 0, .int 0, .int 0])), (r1, .inl (cB, ((cfgT pf).drop (cutN pf)).length, .inl (bN ((cfgT pf).drop (cutN pf))))), (q, .inr (11, [.ref r, .int 0, .int 0, .int 0])), (r, .inl (cB, (cfgT pf).length, .inl (bN (cfgT pf))))] ++ wPL cI cB cO A zs)) rfl ?_
    refine J_cvF (As := []) (st := []) (pc := 130) C dL_law_130 ml_RL_77 mi_yJ4_toString_0e30d (c_toS l D cI cB cL cO pf a vw2 capw2 ((cfgT pf).take (cutN pf) ++ [chN pf] ++ ((cfgT pf).drop (cutN pf))) hAw2 gw2 zw2) ([(q1, .inr (11, [.ref r1, .int 0, .int 0, .int 0])), (r1, .inl (cB, ((cfgT pf).drop (cutN pf)).length, .inl (bN ((cfgT pf).drop (cutN pf))))), (q, .inr (11, [.ref r, .int 0, .int 0, .int 0])), (r, .inl (cB, (cfgT pf).length, .inl (bN (cfgT pf))))] ++ wPL cI cB cO A zs) (permT (permN [0, 1] [2, 3, 4, 5] 6 rfl rfl rfl (by decide))) (q0 := 0) rfl rfl rfl ⟨(Nat.le_of_ble_eq_true rfl), (Nat.le_of_ble_eq_true rfl)⟩ ⟨(by first | (dsimp only; omega) | omega), (by first | (dsimp only; omega) | omega)⟩ (Nat.le_of_ble_eq_true rfl) ?_
    rintro v w1 ⟨q4, r4, rfl, rfl⟩
    refine J_ws (ws2 := ([(q4, .inr (11, [.ref r4, .int 0, .int 0, .int 0])), (r4, .inl (cB, ((cfgT pf).take (cutN pf) ++ [chN pf] ++ ((cfgT pf).drop (cutN pf))).length, .inl (bN ((cfgT pf).take (cutN pf) ++ [chN pf] ++ ((cfgT pf).drop (cutN pf)))))), (q1, .inr (11, [.ref r1, .int 0, .int 0, .int 0])), (r1, .inl (cB, ((cfgT pf).drop (cutN pf)).length, .inl (bN ((cfgT pf).drop (cutN pf))))), (q, .inr (11, [.ref r, .int 0, .int 0, .int 0])), (r, .inl (cB, (cfgT pf).length, .inl (bN (cfgT pf))))] ++ wPL cI cB cO A zs)) rfl ?_
    refine J_drop (ws2 := ([(q4, .inr (11, [.ref r4, .int 0, .int 0, .int 0])), (r4, .inl (cB, ((cfgT pf).take (cutN pf) ++ [chN pf] ++ ((cfgT pf).drop (cutN pf))).length, .inl (bN ((cfgT pf).take (cutN pf) ++ [chN pf] ++ ((cfgT pf).drop (cutN pf)))))), (q, .inr (11, [.ref r, .int 0, .int 0, .int 0])), (r, .inl (cB, (cfgT pf).length, .inl (bN (cfgT pf))))] ++ wPL cI cB cO A zs)) (Wr := [(q1, .inr (11, [.ref r1, .int 0, .int 0, .int 0])), (r1, .inl (cB, ((cfgT pf).drop (cutN pf)).length, .inl (bN ((cfgT pf).drop (cutN pf)))))]) (permDT (permN [0, 1, 4, 5] [2, 3] 6 rfl rfl rfl (by decide))) ?_
    refine J_ws (ws2 := ([(q4, .inr (11, [.ref r4, .int 0, .int 0, .int 0])), (r4, .inl (cB, (spT pf).length, .inl (bN (spT pf)))), (q, .inr (11, [.ref r, .int 0, .int 0, .int 0])), (r, .inl (cB, (cfgT pf).length, .inl (bN (cfgT pf))))] ++ wPL cI cB cO A zs)) rfl ?_
    refine J_astore (lv2 := [(4, .ref q4), (3, .int (nI (cutN pf))), (2, .ref q), (1, .ref (A 0 0)), (0, .ref (pf 92))]) (pc := 133) C dL_law_133 (by decide) rfl ?_
    refine J_widen (k2 := k0 + 10) (n2 := n0 + 20000) (by first | omega | (dsimp only; omega)) (by first | omega | (dsimp only; omega)) ?_
    exact kk q4 r4

set_option maxHeartbeats 4000000 in
set_option maxRecDepth 100000 in
theorem K_law69 {p : Program} {l : Launch} {e : Env} {s : State} {m : MethodId} {args : Array Value} {below : List Frame} {meth : Method} {c : Code} {D : va_G} {A : Nat → Nat → Nat} {cI cB cL cO : ClassId} {pf : Nat → Nat} {AP : Nat → Prop} {Q : State → Prop} {N k0 n0 : Nat} {zs : T_PL} (C : jC p s m args meth c cL_law 23 RL D [(cI, .int), (cB, .byte), (cL, .byte), (cO, .object RX0)] pf AP) (hf : l.stackTraces = false) (hL : pf 93 < 2 ^ 31) (hk : k0 + 170 ≤ room_1.cells) (hn : n0 + 450000 ≤ room_1.slots) (kk : ∀ q r q4 r4 : Nat, J p l e room_1 s m args below meth c 23 D AP Q (k0 + 170) (n0 + 450000) 135 [(4, .ref q4), (3, .int (nI (cutN pf))), (2, .ref q), (1, .ref (A 0 0)), (0, .ref (pf 92))] [] ([(q4, .inr (11, [.ref r4, .int 0, .int 0, .int 0])), (r4, .inl (cB, (spT pf).length, .inl (bN (spT pf)))), (q, .inr (11, [.ref r, .int 0, .int 0, .int 0])), (r, .inl (cB, (cfgT pf).length, .inl (bN (cfgT pf))))] ++ wPL cI cB cO A zs)) : J p l e room_1 s m args below meth c 23 D AP Q (k0) (n0) 69 [(1, .ref (A 0 0)), (0, .ref (pf 92))] [] ([] ++ wPL cI cB cO A zs) := by
  have hcut := cut_lt pf
  have hcl := l_cfg pf
  rcases Nat.eq_zero_or_pos (cutN pf) with h0 | h0
  · refine J_aload_n (pc := 69) C dL_law_69 1 rfl ?_
    refine J_csF (b := 0) (As := [.ref (pf 92)]) (st := []) (pc := 70) C dL_law_70 ml_RL_228 mi_yL_config (c_L_config l D cI cB cL cO pf hL) ([] ++ wPL cI cB cO A zs) (permT (permN [] [] 0 rfl rfl rfl (by decide))) rfl ⟨(Nat.le_of_ble_eq_true rfl), (Nat.le_of_ble_eq_true rfl)⟩ ⟨(by first | (dsimp only; omega) | omega), (by first | (dsimp only; omega) | omega)⟩ (Nat.le_of_ble_eq_true rfl) ?_
    rintro v w1 ⟨q, r, rfl, rfl⟩
    refine J_ws (ws2 := ([(q, .inr (11, [.ref r, .int 0, .int 0, .int 0])), (r, .inl (cB, (cfgT pf).length, .inl (bN (cfgT pf))))] ++ wPL cI cB cO A zs)) rfl ?_
    refine J_astore_n (lv2 := [(2, .ref q), (1, .ref (A 0 0)), (0, .ref (pf 92))]) (pc := 73) C dL_law_73 (by decide) rfl ?_
    refine J_aload_n (pc := 74) C dL_law_74 2 rfl ?_
    refine J_bipush (v := (6 : Int32)) (pc := 75) C dL_law_75 (by decide) ?_
    refine J_csF (b := 0) (As := [.ref (pf 92), .int (6 : Int32)]) (st := []) (pc := 77) C dL_law_77 ml_RL_41 mi_yL_cell (c_cell l D cI cB cL cO pf (6 : Int32) (scI pf 6) (cell_val hL (k := 6) (by decide))) ([(q, .inr (11, [.ref r, .int 0, .int 0, .int 0])), (r, .inl (cB, (cfgT pf).length, .inl (bN (cfgT pf))))] ++ wPL cI cB cO A zs) (permT (permN [] [0, 1] 2 rfl rfl rfl (by decide))) rfl ⟨(Nat.le_of_ble_eq_true rfl), (Nat.le_of_ble_eq_true rfl)⟩ ⟨(by first | (dsimp only; omega) | omega), (by first | (dsimp only; omega) | omega)⟩ (Nat.le_of_ble_eq_true rfl) ?_
    rintro v w1 ⟨rfl, rfl⟩
    refine J_ws (ws2 := ([(q, .inr (11, [.ref r, .int 0, .int 0, .int 0])), (r, .inl (cB, (cfgT pf).length, .inl (bN (cfgT pf))))] ++ wPL cI cB cO A zs)) rfl ?_
    refine J_aload_n (pc := 80) C dL_law_80 0 rfl ?_
    refine J_cvF (As := []) (st := [.int (scI pf 6)]) (pc := 81) C dL_law_81 ml_RL_20 mi_yJ0_length_8abf5 (c_mlen l D cI cB cL cO pf q r (cfgT pf)) ([] ++ wPL cI cB cO A zs) (permT (permN [0, 1] [] 2 rfl rfl rfl (by decide))) (q0 := 0) rfl rfl rfl ⟨(Nat.le_of_ble_eq_true rfl), (Nat.le_of_ble_eq_true rfl)⟩ ⟨(by first | (dsimp only; omega) | omega), (by first | (dsimp only; omega) | omega)⟩ (Nat.le_of_ble_eq_true rfl) ?_
    rintro v w1 ⟨rfl, rfl⟩
    refine J_ws (ws2 := ([(q, .inr (11, [.ref r, .int 0, .int 0, .int 0])), (r, .inl (cB, (cfgT pf).length, .inl (bN (cfgT pf))))] ++ wPL cI cB cO A zs)) rfl ?_
    refine J_csF (b := 0) (As := [.int (scI pf 6), .int (nI (cfgT pf).length)]) (st := []) (pc := 84) C dL_law_84 ml_RL_45 mi_yL_in (c_L_in l D cI cB cL cO pf 0 (scI pf 6) (nI (cfgT pf).length) (nI (cutN pf)) (in_val _ (cfg_pos pf) (by omega))) ([(q, .inr (11, [.ref r, .int 0, .int 0, .int 0])), (r, .inl (cB, (cfgT pf).length, .inl (bN (cfgT pf))))] ++ wPL cI cB cO A zs) (permT (permN [] [0, 1] 2 rfl rfl rfl (by decide))) rfl ⟨(Nat.le_of_ble_eq_true rfl), (Nat.le_of_ble_eq_true rfl)⟩ ⟨(by first | (dsimp only; omega) | omega), (by first | (dsimp only; omega) | omega)⟩ (Nat.le_of_ble_eq_true rfl) ?_
    rintro v w1 ⟨rfl, rfl⟩
    refine J_ws (ws2 := ([(q, .inr (11, [.ref r, .int 0, .int 0, .int 0])), (r, .inl (cB, (cfgT pf).length, .inl (bN (cfgT pf))))] ++ wPL cI cB cO A zs)) rfl ?_
    refine J_istore_n (lv2 := [(3, .int (nI (cutN pf))), (2, .ref q), (1, .ref (A 0 0)), (0, .ref (pf 92))]) (pc := 87) C dL_law_87 (by decide) rfl ?_
    refine J_new (ci := 12) (fs := [.null, .int 0, .int 0, .int 0]) (pc := 88) C dL_law_88 jf_J4 clk_RL_53 ins_RJ4 ini_RJ4 rfl df_J4 ⟨(by first | (dsimp only; omega) | omega), (by first | (dsimp only; omega) | omega)⟩ (fun a => ?_)
    refine J_perm permNT ?_
    refine J_ws (ws2 := ([(q, .inr (11, [.ref r, .int 0, .int 0, .int 0])), (r, .inl (cB, (cfgT pf).length, .inl (bN (cfgT pf)))), (a, .inr (12, [.null, .int 0, .int 0, .int 0]))] ++ wPL cI cB cO A zs)) rfl ?_
    refine J_dupr (pc := 91) C dL_law_91 ?_
    refine J_ciF (As := []) (st := [.ref a]) (pc := 92) C dL_law_92 ml_RL_55 mi_yJ4_init_da8c8 (c_SBi l D cI cB cL cO pf a) ([(q, .inr (11, [.ref r, .int 0, .int 0, .int 0])), (r, .inl (cB, (cfgT pf).length, .inl (bN (cfgT pf))))] ++ wPL cI cB cO A zs) (permT (permN [2] [0, 1] 3 rfl rfl rfl (by decide))) rfl ⟨(Nat.le_of_ble_eq_true rfl), (Nat.le_of_ble_eq_true rfl)⟩ ⟨(by first | (dsimp only; omega) | omega), (by first | (dsimp only; omega) | omega)⟩ (Nat.le_of_ble_eq_true rfl) ?_
    rintro v w1 ⟨rfl, vw0, rfl⟩
    refine J_ws (ws2 := ([(a, .inr (12, [.ref vw0, .int 0, .int 0, .int (nI [].length)])), (vw0, .inl (cB, 16, .inl (bN []))), (q, .inr (11, [.ref r, .int 0, .int 0, .int 0])), (r, .inl (cB, (cfgT pf).length, .inl (bN (cfgT pf))))] ++ wPL cI cB cO A zs)) rfl ?_
    refine J_aload_n (pc := 95) C dL_law_95 1 rfl ?_
    refine J_iconst (v := (0 : Int32)) (pc := 96) C dL_law_96 (by decide) ?_
    refine J_iload_n (pc := 97) C dL_law_97 0 rfl ?_
    refine J_top (α := Unit) (X := none) (nI 0) (by rw [h0]) ?_
    refine J_cvF (As := [.int (0 : Int32), .int (nI 0)]) (st := [.ref a]) (pc := 98) C dL_law_98 ml_RL_232 mi_yJ0_substring_37a41 (c_sub0 l D cI cB cL cO pf q r (cfgT pf) (cfg_pos pf) (by omega)) ([(a, .inr (12, [.ref vw0, .int 0, .int 0, .int (nI [].length)])), (vw0, .inl (cB, 16, .inl (bN [])))] ++ wPL cI cB cO A zs) (permT (permN [2, 3] [0, 1] 4 rfl rfl rfl (by decide))) (q0 := 0) rfl rfl rfl ⟨(Nat.le_of_ble_eq_true rfl), (Nat.le_of_ble_eq_true rfl)⟩ ⟨(by first | (dsimp only; omega) | omega), (by first | (dsimp only; omega) | omega)⟩ (Nat.le_of_ble_eq_true rfl) ?_
    rintro v w1 ⟨rfl, rfl⟩
    refine J_ws (ws2 := ([(q, .inr (11, [.ref r, .int 0, .int 0, .int 0])), (r, .inl (cB, (cfgT pf).length, .inl (bN (cfgT pf)))), (a, .inr (12, [.ref vw0, .int 0, .int 0, .int (nI [].length)])), (vw0, .inl (cB, 16, .inl (bN [])))] ++ wPL cI cB cO A zs)) rfl ?_
    refine J_drop (ws2 := ([(a, .inr (12, [.ref vw0, .int 0, .int 0, .int (nI [].length)])), (vw0, .inl (cB, 16, .inl (bN []))), (q, .inr (11, [.ref r, .int 0, .int 0, .int 0])), (r, .inl (cB, (cfgT pf).length, .inl (bN (cfgT pf))))] ++ wPL cI cB cO A zs)) (Wr := []) (permDT (permN [2, 3, 0, 1] [] 4 rfl rfl rfl (by decide))) ?_
    have hAw1 : AS (tx 18) := (tx_AS (i := 18) (by decide))
    have hbw1 : (tx 18).length ≤ _ := (tx_len11 18 (by decide))
    refine J_cvF (As := [.ref (pf 18)]) (st := []) (pc := 101) C dL_law_101 ml_RL_58 mi_yJ4_append_15ec4 (c_SBSK l D cI cB cL cO pf a vw0 16 [] 18 (by decide) AS_nil (by decide) (by decide) (by have := sl_lenS 18 (by decide); show 0 + _ ≤ _; omega)) ([(q, .inr (11, [.ref r, .int 0, .int 0, .int 0])), (r, .inl (cB, (cfgT pf).length, .inl (bN (cfgT pf))))] ++ wPL cI cB cO A zs) (permT (permN [0, 1] [2, 3] 4 rfl rfl rfl (by decide))) (q0 := 0) rfl rfl rfl ⟨(Nat.le_of_ble_eq_true rfl), (Nat.le_of_ble_eq_true rfl)⟩ ⟨(by first | (dsimp only; omega) | omega), (by first | (dsimp only; omega) | omega)⟩ (Nat.le_of_ble_eq_true rfl) ?_
    rintro v w1 ⟨rfl, vw1, capw1, rfl, gw1, zw1⟩
    refine J_ws (ws2 := ([(a, .inr (12, [.ref vw1, .int 0, .int 0, .int (nI (tx 18).length)])), (vw1, .inl (cB, capw1, .inl (bN (tx 18)))), (q, .inr (11, [.ref r, .int 0, .int 0, .int 0])), (r, .inl (cB, (cfgT pf).length, .inl (bN (cfgT pf))))] ++ wPL cI cB cO A zs)) rfl ?_
    refine J_ws (ws2 := ([(a, .inr (12, [.ref vw1, .int 0, .int 0, .int (nI ((cfgT pf).take (cutN pf)).length)])), (vw1, .inl (cB, capw1, .inl (bN ((cfgT pf).take (cutN pf))))), (q, .inr (11, [.ref r, .int 0, .int 0, .int 0])), (r, .inl (cB, (cfgT pf).length, .inl (bN (cfgT pf))))] ++ wPL cI cB cO A zs)) (by rw [show tx 18 = (cfgT pf).take (cutN pf) from (by rw [h0]; rfl)]) ?_
    refine J_widen (k2 := k0 + 160) (n2 := n0 + 430000) (by first | omega | (dsimp only; omega)) (by first | omega | (dsimp only; omega)) ?_
    refine K_law104 (N := N) (k0 := k0 + 160) (n0 := n0 + 430000) C hf hL (by omega) (by omega) (by rw [h0]; exact Nat.zero_le _) zw1 ?_
    intro q4 r4
    refine J_widen (k2 := k0 + 170) (n2 := n0 + 450000) (by first | omega | (dsimp only; omega)) (by first | omega | (dsimp only; omega)) ?_
    exact kk q r q4 r4
  · refine J_aload_n (pc := 69) C dL_law_69 1 rfl ?_
    refine J_csF (b := 0) (As := [.ref (pf 92)]) (st := []) (pc := 70) C dL_law_70 ml_RL_228 mi_yL_config (c_L_config l D cI cB cL cO pf hL) ([] ++ wPL cI cB cO A zs) (permT (permN [] [] 0 rfl rfl rfl (by decide))) rfl ⟨(Nat.le_of_ble_eq_true rfl), (Nat.le_of_ble_eq_true rfl)⟩ ⟨(by first | (dsimp only; omega) | omega), (by first | (dsimp only; omega) | omega)⟩ (Nat.le_of_ble_eq_true rfl) ?_
    rintro v w1 ⟨q, r, rfl, rfl⟩
    refine J_ws (ws2 := ([(q, .inr (11, [.ref r, .int 0, .int 0, .int 0])), (r, .inl (cB, (cfgT pf).length, .inl (bN (cfgT pf))))] ++ wPL cI cB cO A zs)) rfl ?_
    refine J_astore_n (lv2 := [(2, .ref q), (1, .ref (A 0 0)), (0, .ref (pf 92))]) (pc := 73) C dL_law_73 (by decide) rfl ?_
    refine J_aload_n (pc := 74) C dL_law_74 2 rfl ?_
    refine J_bipush (v := (6 : Int32)) (pc := 75) C dL_law_75 (by decide) ?_
    refine J_csF (b := 0) (As := [.ref (pf 92), .int (6 : Int32)]) (st := []) (pc := 77) C dL_law_77 ml_RL_41 mi_yL_cell (c_cell l D cI cB cL cO pf (6 : Int32) (scI pf 6) (cell_val hL (k := 6) (by decide))) ([(q, .inr (11, [.ref r, .int 0, .int 0, .int 0])), (r, .inl (cB, (cfgT pf).length, .inl (bN (cfgT pf))))] ++ wPL cI cB cO A zs) (permT (permN [] [0, 1] 2 rfl rfl rfl (by decide))) rfl ⟨(Nat.le_of_ble_eq_true rfl), (Nat.le_of_ble_eq_true rfl)⟩ ⟨(by first | (dsimp only; omega) | omega), (by first | (dsimp only; omega) | omega)⟩ (Nat.le_of_ble_eq_true rfl) ?_
    rintro v w1 ⟨rfl, rfl⟩
    refine J_ws (ws2 := ([(q, .inr (11, [.ref r, .int 0, .int 0, .int 0])), (r, .inl (cB, (cfgT pf).length, .inl (bN (cfgT pf))))] ++ wPL cI cB cO A zs)) rfl ?_
    refine J_aload_n (pc := 80) C dL_law_80 0 rfl ?_
    refine J_cvF (As := []) (st := [.int (scI pf 6)]) (pc := 81) C dL_law_81 ml_RL_20 mi_yJ0_length_8abf5 (c_mlen l D cI cB cL cO pf q r (cfgT pf)) ([] ++ wPL cI cB cO A zs) (permT (permN [0, 1] [] 2 rfl rfl rfl (by decide))) (q0 := 0) rfl rfl rfl ⟨(Nat.le_of_ble_eq_true rfl), (Nat.le_of_ble_eq_true rfl)⟩ ⟨(by first | (dsimp only; omega) | omega), (by first | (dsimp only; omega) | omega)⟩ (Nat.le_of_ble_eq_true rfl) ?_
    rintro v w1 ⟨rfl, rfl⟩
    refine J_ws (ws2 := ([(q, .inr (11, [.ref r, .int 0, .int 0, .int 0])), (r, .inl (cB, (cfgT pf).length, .inl (bN (cfgT pf))))] ++ wPL cI cB cO A zs)) rfl ?_
    refine J_csF (b := 0) (As := [.int (scI pf 6), .int (nI (cfgT pf).length)]) (st := []) (pc := 84) C dL_law_84 ml_RL_45 mi_yL_in (c_L_in l D cI cB cL cO pf 0 (scI pf 6) (nI (cfgT pf).length) (nI (cutN pf)) (in_val _ (cfg_pos pf) (by omega))) ([(q, .inr (11, [.ref r, .int 0, .int 0, .int 0])), (r, .inl (cB, (cfgT pf).length, .inl (bN (cfgT pf))))] ++ wPL cI cB cO A zs) (permT (permN [] [0, 1] 2 rfl rfl rfl (by decide))) rfl ⟨(Nat.le_of_ble_eq_true rfl), (Nat.le_of_ble_eq_true rfl)⟩ ⟨(by first | (dsimp only; omega) | omega), (by first | (dsimp only; omega) | omega)⟩ (Nat.le_of_ble_eq_true rfl) ?_
    rintro v w1 ⟨rfl, rfl⟩
    refine J_ws (ws2 := ([(q, .inr (11, [.ref r, .int 0, .int 0, .int 0])), (r, .inl (cB, (cfgT pf).length, .inl (bN (cfgT pf))))] ++ wPL cI cB cO A zs)) rfl ?_
    refine J_istore_n (lv2 := [(3, .int (nI (cutN pf))), (2, .ref q), (1, .ref (A 0 0)), (0, .ref (pf 92))]) (pc := 87) C dL_law_87 (by decide) rfl ?_
    refine J_new (ci := 12) (fs := [.null, .int 0, .int 0, .int 0]) (pc := 88) C dL_law_88 jf_J4 clk_RL_53 ins_RJ4 ini_RJ4 rfl df_J4 ⟨(by first | (dsimp only; omega) | omega), (by first | (dsimp only; omega) | omega)⟩ (fun a => ?_)
    refine J_perm permNT ?_
    refine J_ws (ws2 := ([(q, .inr (11, [.ref r, .int 0, .int 0, .int 0])), (r, .inl (cB, (cfgT pf).length, .inl (bN (cfgT pf)))), (a, .inr (12, [.null, .int 0, .int 0, .int 0]))] ++ wPL cI cB cO A zs)) rfl ?_
    refine J_dupr (pc := 91) C dL_law_91 ?_
    refine J_ciF (As := []) (st := [.ref a]) (pc := 92) C dL_law_92 ml_RL_55 mi_yJ4_init_da8c8 (c_SBi l D cI cB cL cO pf a) ([(q, .inr (11, [.ref r, .int 0, .int 0, .int 0])), (r, .inl (cB, (cfgT pf).length, .inl (bN (cfgT pf))))] ++ wPL cI cB cO A zs) (permT (permN [2] [0, 1] 3 rfl rfl rfl (by decide))) rfl ⟨(Nat.le_of_ble_eq_true rfl), (Nat.le_of_ble_eq_true rfl)⟩ ⟨(by first | (dsimp only; omega) | omega), (by first | (dsimp only; omega) | omega)⟩ (Nat.le_of_ble_eq_true rfl) ?_
    rintro v w1 ⟨rfl, vw0, rfl⟩
    refine J_ws (ws2 := ([(a, .inr (12, [.ref vw0, .int 0, .int 0, .int (nI [].length)])), (vw0, .inl (cB, 16, .inl (bN []))), (q, .inr (11, [.ref r, .int 0, .int 0, .int 0])), (r, .inl (cB, (cfgT pf).length, .inl (bN (cfgT pf))))] ++ wPL cI cB cO A zs)) rfl ?_
    refine J_aload_n (pc := 95) C dL_law_95 1 rfl ?_
    refine J_iconst (v := (0 : Int32)) (pc := 96) C dL_law_96 (by decide) ?_
    refine J_iload_n (pc := 97) C dL_law_97 0 rfl ?_
    refine J_cvF (As := [.int (0 : Int32), .int (nI (cutN pf))]) (st := [.ref a]) (pc := 98) C dL_law_98 ml_RL_232 mi_yJ0_substring_37a41 (c_sub l D cI cB cL cO pf q r 0 (cutN pf) (cfgT pf) (a_cfg pf) h0 (Nat.le_of_lt hcut) (by omega) (by omega)) ([(a, .inr (12, [.ref vw0, .int 0, .int 0, .int (nI [].length)])), (vw0, .inl (cB, 16, .inl (bN [])))] ++ wPL cI cB cO A zs) (permT (permN [2, 3] [0, 1] 4 rfl rfl rfl (by decide))) (q0 := 0) rfl rfl rfl ⟨(Nat.le_of_ble_eq_true rfl), (Nat.le_of_ble_eq_true rfl)⟩ ⟨(by first | (dsimp only; omega) | omega), (by first | (dsimp only; omega) | omega)⟩ (Nat.le_of_ble_eq_true rfl) ?_
    rintro v w1 ⟨q1, r1, rfl, rfl⟩
    refine J_ws (ws2 := ([(q, .inr (11, [.ref r, .int 0, .int 0, .int 0])), (r, .inl (cB, (cfgT pf).length, .inl (bN (cfgT pf)))), (q1, .inr (11, [.ref r1, .int 0, .int 0, .int 0])), (r1, .inl (cB, (cutN pf - 0), .inl (bN (((cfgT pf).drop 0).take (cutN pf - 0))))), (a, .inr (12, [.ref vw0, .int 0, .int 0, .int (nI [].length)])), (vw0, .inl (cB, 16, .inl (bN [])))] ++ wPL cI cB cO A zs)) rfl ?_
    refine J_drop (ws2 := ([(a, .inr (12, [.ref vw0, .int 0, .int 0, .int (nI [].length)])), (vw0, .inl (cB, 16, .inl (bN []))), (q1, .inr (11, [.ref r1, .int 0, .int 0, .int 0])), (r1, .inl (cB, (cutN pf - 0), .inl (bN (((cfgT pf).drop 0).take (cutN pf - 0))))), (q, .inr (11, [.ref r, .int 0, .int 0, .int 0])), (r, .inl (cB, (cfgT pf).length, .inl (bN (cfgT pf))))] ++ wPL cI cB cO A zs)) (Wr := []) (permDT (permN [4, 5, 2, 3, 0, 1] [] 6 rfl rfl rfl (by decide))) ?_
    refine J_ws (ws2 := ([(a, .inr (12, [.ref vw0, .int 0, .int 0, .int (nI [].length)])), (vw0, .inl (cB, 16, .inl (bN []))), (q1, .inr (11, [.ref r1, .int 0, .int 0, .int 0])), (r1, .inl (cB, ((cfgT pf).take (cutN pf)).length, .inl (bN ((cfgT pf).take (cutN pf))))), (q, .inr (11, [.ref r, .int 0, .int 0, .int 0])), (r, .inl (cB, (cfgT pf).length, .inl (bN (cfgT pf))))] ++ wPL cI cB cO A zs)) (by rw [show cutN pf - 0 = ((cfgT pf).take (cutN pf)).length from (by rw [List.length_take]; omega), show ((cfgT pf).drop 0).take (((cfgT pf).take (cutN pf)).length) = (cfgT pf).take (cutN pf) from (by rw [List.length_take, Nat.min_eq_left (Nat.le_of_lt hcut)]; rfl)]) ?_
    have hAw1 : AS (((cfgT pf).take (cutN pf))) := (a_take pf (cutN pf))
    have hbw1 : (((cfgT pf).take (cutN pf))).length ≤ _ := (l_take pf (cutN pf))
    refine J_cvF (As := [.ref q1]) (st := []) (pc := 101) C dL_law_101 ml_RL_58 mi_yJ4_append_15ec4 (c_SBSM l D cI cB cL cO pf a vw0 16 [] q1 r1 ((cfgT pf).take (cutN pf)) (a_take pf (cutN pf)) AS_nil (by decide) (by decide) (by show 0 + _ ≤ _; have := (l_take pf (cutN pf)); omega)) ([(q, .inr (11, [.ref r, .int 0, .int 0, .int 0])), (r, .inl (cB, (cfgT pf).length, .inl (bN (cfgT pf))))] ++ wPL cI cB cO A zs) (permT (permN [0, 1, 2, 3] [4, 5] 6 rfl rfl rfl (by decide))) (q0 := 0) rfl rfl rfl ⟨(Nat.le_of_ble_eq_true rfl), (Nat.le_of_ble_eq_true rfl)⟩ ⟨(by first | (dsimp only; omega) | omega), (by first | (dsimp only; omega) | omega)⟩ (Nat.le_of_ble_eq_true rfl) ?_
    rintro v w1 ⟨rfl, vw1, capw1, rfl, gw1, zw1⟩
    refine J_ws (ws2 := ([(a, .inr (12, [.ref vw1, .int 0, .int 0, .int (nI ((cfgT pf).take (cutN pf)).length)])), (vw1, .inl (cB, capw1, .inl (bN ((cfgT pf).take (cutN pf))))), (q1, .inr (11, [.ref r1, .int 0, .int 0, .int 0])), (r1, .inl (cB, ((cfgT pf).take (cutN pf)).length, .inl (bN ((cfgT pf).take (cutN pf))))), (q, .inr (11, [.ref r, .int 0, .int 0, .int 0])), (r, .inl (cB, (cfgT pf).length, .inl (bN (cfgT pf))))] ++ wPL cI cB cO A zs)) rfl ?_
    refine J_drop (ws2 := ([(a, .inr (12, [.ref vw1, .int 0, .int 0, .int (nI ((cfgT pf).take (cutN pf)).length)])), (vw1, .inl (cB, capw1, .inl (bN ((cfgT pf).take (cutN pf))))), (q, .inr (11, [.ref r, .int 0, .int 0, .int 0])), (r, .inl (cB, (cfgT pf).length, .inl (bN (cfgT pf))))] ++ wPL cI cB cO A zs)) (Wr := [(q1, .inr (11, [.ref r1, .int 0, .int 0, .int 0])), (r1, .inl (cB, ((cfgT pf).take (cutN pf)).length, .inl (bN ((cfgT pf).take (cutN pf)))))]) (permDT (permN [0, 1, 4, 5] [2, 3] 6 rfl rfl rfl (by decide))) ?_
    refine J_widen (k2 := k0 + 160) (n2 := n0 + 430000) (by first | omega | (dsimp only; omega)) (by first | omega | (dsimp only; omega)) ?_
    refine K_law104 (N := N) (k0 := k0 + 160) (n0 := n0 + 430000) C hf hL (by omega) (by omega) gw1 zw1 ?_
    intro q4 r4
    refine J_widen (k2 := k0 + 170) (n2 := n0 + 450000) (by first | omega | (dsimp only; omega)) (by first | omega | (dsimp only; omega)) ?_
    exact kk q r q4 r4

set_option maxHeartbeats 4000000 in
set_option maxRecDepth 100000 in
theorem K_law135 {p : Program} {l : Launch} {e : Env} {s : State} {m : MethodId} {args : Array Value} {below : List Frame} {meth : Method} {c : Code} {D : va_G} {A : Nat → Nat → Nat} {cI cB cL cO : ClassId} {pf : Nat → Nat} {AP : Nat → Prop} {Q : State → Prop} {N k0 n0 : Nat} {q r q4 r4 : Nat} {zs z2 z3 : T_PL} (C : jC p s m args meth c cL_law 23 RL D [(cI, .int), (cB, .byte), (cL, .byte), (cO, .object RX0)] pf AP) (hf : l.stackTraces = false) (hL : pf 93 < 2 ^ 31) (hk : k0 + 404 ≤ room_1.cells) (hn : n0 + 424 ≤ room_1.slots) (h2 : H_send N (spT pf) zs = some z2) (h3 : H_err N (nI (spT pf).length) z2 = some z3) (kk : ∀ x5 : Int32, J p l e room_1 s m args below meth c 23 D AP Q (k0 + 404) (n0 + 424) 185 [(5, .int x5), (4, .ref q4), (3, .int (nI (cutN pf))), (2, .ref q), (1, .ref (A 0 0)), (0, .ref (pf 92))] [] ([(q4, .inr (11, [.ref r4, .int 0, .int 0, .int 0])), (r4, .inl (cB, (spT pf).length, .inl (bN (spT pf)))), (q, .inr (11, [.ref r, .int 0, .int 0, .int 0])), (r, .inl (cB, (cfgT pf).length, .inl (bN (cfgT pf))))] ++ wPL cI cB cO A z3)) : J p l e room_1 s m args below meth c 23 D AP Q (k0) (n0) 135 [(4, .ref q4), (3, .int (nI (cutN pf))), (2, .ref q), (1, .ref (A 0 0)), (0, .ref (pf 92))] [] ([(q4, .inr (11, [.ref r4, .int 0, .int 0, .int 0])), (r4, .inl (cB, (spT pf).length, .inl (bN (spT pf)))), (q, .inr (11, [.ref r, .int 0, .int 0, .int 0])), (r, .inl (cB, (cfgT pf).length, .inl (bN (cfgT pf))))] ++ wPL cI cB cO A zs) := by
  have hcl := l_cfg pf
  have hsl := l_sp pf
  unfold H_err at h3
  obtain ⟨e1, he1, h3⟩ := Option.bind_eq_some_iff.mp h3
  by_cases hx : e1.1 < 0
  · rw [if_pos hx] at h3
    refine J_aload_n (pc := 135) C dL_law_135 3 rfl ?_
    refine J_aload (pc := 136) C dL_law_136 0 rfl ?_
    refine J_csF (b := 0) (As := [.ref (A 0 0), .ref q4]) (st := []) (pc := 138) C dL_law_138 ml_RL_241 mi_yL_send (c_L_send l D cI cB cL cO pf A N q4 r4 (spT pf) zs z2 hf (a_sp pf) (by omega) h2) [(q, .inr (11, [.ref r, .int 0, .int 0, .int 0])), (r, .inl (cB, (cfgT pf).length, .inl (bN (cfgT pf))))] (permDT (permN [0, 1] [2, 3] 4 rfl rfl rfl (by decide))) rfl ⟨(Nat.le_of_ble_eq_true rfl), (Nat.le_of_ble_eq_true rfl)⟩ ⟨(by first | (dsimp only; omega) | omega), (by first | (dsimp only; omega) | omega)⟩ (Nat.le_of_ble_eq_true rfl) ?_
    rintro v w1 ⟨rfl, rfl⟩
    refine J_perm (ws2 := ([(q4, .inr (11, [.ref r4, .int 0, .int 0, .int 0])), (r4, .inl (cB, (spT pf).length, .inl (bN (spT pf)))), (q, .inr (11, [.ref r, .int 0, .int 0, .int 0])), (r, .inl (cB, (cfgT pf).length, .inl (bN (cfgT pf))))] ++ wPL cI cB cO A z2)) (permDT (permN (ws := [(q4, .inr (11, [.ref r4, .int 0, .int 0, .int 0])), (r4, .inl (cB, (spT pf).length, .inl (bN (spT pf)))), (q, .inr (11, [.ref r, .int 0, .int 0, .int 0])), (r, .inl (cB, (cfgT pf).length, .inl (bN (cfgT pf))))]) (Wc := [(q4, .inr (11, [.ref r4, .int 0, .int 0, .int 0])), (r4, .inl (cB, (spT pf).length, .inl (bN (spT pf))))]) (Wr := [(q, .inr (11, [.ref r, .int 0, .int 0, .int 0])), (r, .inl (cB, (cfgT pf).length, .inl (bN (cfgT pf))))]) [0, 1] [2, 3] 4 rfl rfl rfl (by decide))).symm ?_
    refine J_if_ne (α := Unit) (o := ()) (X := none) (Y := some ()) (pc := 141) (tgt := 146) C dL_law_141 (by decide) (if_neg (by decide)) (fun _ => ?_) (fun h => by cases h)
    refine J_aload_n (pc := 146) C dL_law_146 3 rfl ?_
    refine J_cvF (As := []) (st := []) (pc := 147) C dL_law_147 ml_RL_221 mi_yX10_errorPosition (Q_errorPosition l D cI cB cL cO pf N A z2 e1 he1) [(q4, .inr (11, [.ref r4, .int 0, .int 0, .int 0])), (r4, .inl (cB, (spT pf).length, .inl (bN (spT pf)))), (q, .inr (11, [.ref r, .int 0, .int 0, .int 0])), (r, .inl (cB, (cfgT pf).length, .inl (bN (cfgT pf))))] List.perm_append_comm (q0 := 0) at_this rfl rfl ⟨(Nat.le_of_ble_eq_true rfl), (Nat.le_of_ble_eq_true rfl)⟩ ⟨(by first | (dsimp only; omega) | omega), (by first | (dsimp only; omega) | omega)⟩ (Nat.le_of_ble_eq_true rfl) ?_
    rintro v w1 ⟨rfl, rfl⟩
    refine J_perm List.perm_append_comm ?_
    refine J_ws (ws2 := ([(q4, .inr (11, [.ref r4, .int 0, .int 0, .int 0])), (r4, .inl (cB, (spT pf).length, .inl (bN (spT pf)))), (q, .inr (11, [.ref r, .int 0, .int 0, .int 0])), (r, .inl (cB, (cfgT pf).length, .inl (bN (cfgT pf))))] ++ wPL cI cB cO A e1.2)) rfl ?_
    refine J_istore (lv2 := [(5, .int e1.1), (4, .ref q4), (3, .int (nI (cutN pf))), (2, .ref q), (1, .ref (A 0 0)), (0, .ref (pf 92))]) (pc := 150) C dL_law_150 (by decide) rfl ?_
    refine J_iload (pc := 152) C dL_law_152 0 rfl ?_
    refine J_if_lt (α := Unit) (o := ()) (X := some ()) (Y := none) (pc := 154) (tgt := 185) C dL_law_154 (by decide) (if_pos hx) (fun _ => ?_) (fun h => by cases h)
    have h3 := Option.some.inj h3
    subst h3
    refine J_widen (k2 := k0 + 404) (n2 := n0 + 424) (by first | omega | (dsimp only; omega)) (by first | omega | (dsimp only; omega)) ?_
    exact kk _
  rw [if_neg hx] at h3
  by_cases hy : nI (spT pf).length < e1.1
  · rw [if_pos hy] at h3; cases h3
  rw [if_neg hy] at h3
  obtain ⟨r2, hr2, h3⟩ := Option.bind_eq_some_iff.mp h3
  by_cases hz : r2.1 = -1
  case neg => rw [if_neg hz] at h3; cases h3
  rw [if_pos hz] at h3
  obtain ⟨⟨r9, a9, z9⟩, hr3, h3⟩ := Option.bind_eq_some_iff.mp h3
  by_cases hv : r9 = 0
  case neg => rw [if_neg hv] at h3; cases h3
  rw [if_pos hv] at h3
  by_cases hw : a9 = 0
  case neg => rw [if_neg hw] at h3; cases h3
  rw [if_pos hw] at h3
  have hv : r9 = 0 := hv
  subst hv
  refine J_aload_n (pc := 135) C dL_law_135 3 rfl ?_
  refine J_aload (pc := 136) C dL_law_136 0 rfl ?_
  refine J_csF (b := 0) (As := [.ref (A 0 0), .ref q4]) (st := []) (pc := 138) C dL_law_138 ml_RL_241 mi_yL_send (c_L_send l D cI cB cL cO pf A N q4 r4 (spT pf) zs z2 hf (a_sp pf) (by omega) h2) [(q, .inr (11, [.ref r, .int 0, .int 0, .int 0])), (r, .inl (cB, (cfgT pf).length, .inl (bN (cfgT pf))))] (permDT (permN [0, 1] [2, 3] 4 rfl rfl rfl (by decide))) rfl ⟨(Nat.le_of_ble_eq_true rfl), (Nat.le_of_ble_eq_true rfl)⟩ ⟨(by first | (dsimp only; omega) | omega), (by first | (dsimp only; omega) | omega)⟩ (Nat.le_of_ble_eq_true rfl) ?_
  rintro v w1 ⟨rfl, rfl⟩
  refine J_perm (ws2 := ([(q4, .inr (11, [.ref r4, .int 0, .int 0, .int 0])), (r4, .inl (cB, (spT pf).length, .inl (bN (spT pf)))), (q, .inr (11, [.ref r, .int 0, .int 0, .int 0])), (r, .inl (cB, (cfgT pf).length, .inl (bN (cfgT pf))))] ++ wPL cI cB cO A z2)) (permDT (permN (ws := [(q4, .inr (11, [.ref r4, .int 0, .int 0, .int 0])), (r4, .inl (cB, (spT pf).length, .inl (bN (spT pf)))), (q, .inr (11, [.ref r, .int 0, .int 0, .int 0])), (r, .inl (cB, (cfgT pf).length, .inl (bN (cfgT pf))))]) (Wc := [(q4, .inr (11, [.ref r4, .int 0, .int 0, .int 0])), (r4, .inl (cB, (spT pf).length, .inl (bN (spT pf))))]) (Wr := [(q, .inr (11, [.ref r, .int 0, .int 0, .int 0])), (r, .inl (cB, (cfgT pf).length, .inl (bN (cfgT pf))))]) [0, 1] [2, 3] 4 rfl rfl rfl (by decide))).symm ?_
  refine J_if_ne (α := Unit) (o := ()) (X := none) (Y := some ()) (pc := 141) (tgt := 146) C dL_law_141 (by decide) (if_neg (by decide)) (fun _ => ?_) (fun h => by cases h)
  refine J_aload_n (pc := 146) C dL_law_146 3 rfl ?_
  refine J_cvF (As := []) (st := []) (pc := 147) C dL_law_147 ml_RL_221 mi_yX10_errorPosition (Q_errorPosition l D cI cB cL cO pf N A z2 e1 he1) [(q4, .inr (11, [.ref r4, .int 0, .int 0, .int 0])), (r4, .inl (cB, (spT pf).length, .inl (bN (spT pf)))), (q, .inr (11, [.ref r, .int 0, .int 0, .int 0])), (r, .inl (cB, (cfgT pf).length, .inl (bN (cfgT pf))))] List.perm_append_comm (q0 := 0) at_this rfl rfl ⟨(Nat.le_of_ble_eq_true rfl), (Nat.le_of_ble_eq_true rfl)⟩ ⟨(by first | (dsimp only; omega) | omega), (by first | (dsimp only; omega) | omega)⟩ (Nat.le_of_ble_eq_true rfl) ?_
  rintro v w1 ⟨rfl, rfl⟩
  refine J_perm List.perm_append_comm ?_
  refine J_ws (ws2 := ([(q4, .inr (11, [.ref r4, .int 0, .int 0, .int 0])), (r4, .inl (cB, (spT pf).length, .inl (bN (spT pf)))), (q, .inr (11, [.ref r, .int 0, .int 0, .int 0])), (r, .inl (cB, (cfgT pf).length, .inl (bN (cfgT pf))))] ++ wPL cI cB cO A e1.2)) rfl ?_
  refine J_istore (lv2 := [(5, .int e1.1), (4, .ref q4), (3, .int (nI (cutN pf))), (2, .ref q), (1, .ref (A 0 0)), (0, .ref (pf 92))]) (pc := 150) C dL_law_150 (by decide) rfl ?_
  refine J_iload (pc := 152) C dL_law_152 0 rfl ?_
  refine J_if_lt (α := Unit) (o := ()) (X := none) (Y := some ()) (pc := 154) (tgt := 185) C dL_law_154 (by decide) (if_neg hx) (fun h => by cases h) (fun _ => ?_)
  refine J_iload (pc := 157) C dL_law_157 0 rfl ?_
  refine J_aload (pc := 159) C dL_law_159 1 rfl ?_
  refine J_cvF (As := []) (st := [.int e1.1]) (pc := 161) C dL_law_161 ml_RL_20 mi_yJ0_length_8abf5 (c_mlen l D cI cB cL cO pf q4 r4 (spT pf)) ([(q, .inr (11, [.ref r, .int 0, .int 0, .int 0])), (r, .inl (cB, (cfgT pf).length, .inl (bN (cfgT pf))))] ++ wPL cI cB cO A e1.2) (permT (permN [0, 1] [2, 3] 4 rfl rfl rfl (by decide))) (q0 := 0) rfl rfl rfl ⟨(Nat.le_of_ble_eq_true rfl), (Nat.le_of_ble_eq_true rfl)⟩ ⟨(by first | (dsimp only; omega) | omega), (by first | (dsimp only; omega) | omega)⟩ (Nat.le_of_ble_eq_true rfl) ?_
  rintro v w1 ⟨rfl, rfl⟩
  refine J_ws (ws2 := ([(q4, .inr (11, [.ref r4, .int 0, .int 0, .int 0])), (r4, .inl (cB, (spT pf).length, .inl (bN (spT pf)))), (q, .inr (11, [.ref r, .int 0, .int 0, .int 0])), (r, .inl (cB, (cfgT pf).length, .inl (bN (cfgT pf))))] ++ wPL cI cB cO A e1.2)) rfl ?_
  refine J_ic_gt (α := Unit) (o := ()) (X := none) (Y := some ()) (pc := 164) (tgt := 183) C dL_law_164 (by decide) (if_neg hy) (fun h => by cases h) (fun _ => ?_)
  refine J_aload_n (pc := 167) C dL_law_167 4 rfl ?_
  refine J_csH (As := [.ref (A 0 0)]) (st := []) (pc := 168) C dL_law_168 ml_RL_224 wh_loaded (V_loaded l hf D cI cB cL cO pf N A e1.2 r2 hr2) [(q4, .inr (11, [.ref r4, .int 0, .int 0, .int 0])), (r4, .inl (cB, (spT pf).length, .inl (bN (spT pf)))), (q, .inr (11, [.ref r, .int 0, .int 0, .int 0])), (r, .inl (cB, (cfgT pf).length, .inl (bN (cfgT pf))))] List.perm_append_comm rfl ⟨(Nat.le_of_ble_eq_true rfl), (Nat.le_of_ble_eq_true rfl)⟩ ⟨(by first | (dsimp only; omega) | omega), (by first | (dsimp only; omega) | omega)⟩ (Nat.le_of_ble_eq_true rfl) ?_
  rintro v w1 ⟨rfl, rfl⟩
  refine J_perm List.perm_append_comm ?_
  refine J_ws (ws2 := ([(q4, .inr (11, [.ref r4, .int 0, .int 0, .int 0])), (r4, .inl (cB, (spT pf).length, .inl (bN (spT pf)))), (q, .inr (11, [.ref r, .int 0, .int 0, .int 0])), (r, .inl (cB, (cfgT pf).length, .inl (bN (cfgT pf))))] ++ wPL cI cB cO A r2.2)) rfl ?_
  refine J_iconst (v := (-1 : Int32)) (pc := 171) C dL_law_171 (by decide) ?_
  refine J_ic_ne (α := Unit) (o := ()) (X := some ()) (Y := none) (pc := 172) (tgt := 183) C dL_law_172 (by decide) (if_pos hz) (fun h => by cases h) (fun _ => ?_)
  refine J_aload_n (pc := 175) C dL_law_175 4 rfl ?_
  refine J_iconst (v := (3 : Int32)) (pc := 176) C dL_law_176 (by decide) ?_
  refine J_cvF (As := [.int (3 : Int32)]) (st := []) (pc := 177) C dL_law_177 ml_RL_161 mi_yX10_setup (R_setup l D cI cB cL cO pf N A r2.2 (3 : Int32) hr3) [(q4, .inr (11, [.ref r4, .int 0, .int 0, .int 0])), (r4, .inl (cB, (spT pf).length, .inl (bN (spT pf)))), (q, .inr (11, [.ref r, .int 0, .int 0, .int 0])), (r, .inl (cB, (cfgT pf).length, .inl (bN (cfgT pf))))] List.perm_append_comm (q0 := 0) at_this rfl rfl ⟨(Nat.le_of_ble_eq_true rfl), (Nat.le_of_ble_eq_true rfl)⟩ ⟨(by first | (dsimp only; omega) | omega), (by first | (dsimp only; omega) | omega)⟩ (Nat.le_of_ble_eq_true rfl) ?_
  rintro v w1 ⟨rfl, rfl⟩
  refine J_perm List.perm_append_comm ?_
  refine J_ws (ws2 := ([(q4, .inr (11, [.ref r4, .int 0, .int 0, .int 0])), (r4, .inl (cB, (spT pf).length, .inl (bN (spT pf)))), (q, .inr (11, [.ref r, .int 0, .int 0, .int 0])), (r, .inl (cB, (cfgT pf).length, .inl (bN (cfgT pf))))] ++ wPL cI cB cO A z9)) rfl ?_
  refine J_if_eq (α := Unit) (o := ()) (X := some ()) (Y := none) (pc := 180) (tgt := 185) C dL_law_180 (by decide) (if_pos hw) (fun _ => ?_) (fun h => by cases h)
  have h3 := Option.some.inj h3
  subst h3
  refine J_widen (k2 := k0 + 404) (n2 := n0 + 424) (by first | omega | (dsimp only; omega)) (by first | omega | (dsimp only; omega)) ?_
  exact kk _

set_option maxHeartbeats 4000000 in
set_option maxRecDepth 100000 in
theorem K_law185 {p : Program} {l : Launch} {e : Env} {s : State} {m : MethodId} {args : Array Value} {below : List Frame} {meth : Method} {c : Code} {D : va_G} {A : Nat → Nat → Nat} {cI cB cL cO : ClassId} {pf : Nat → Nat} {AP : Nat → Prop} {Q : State → Prop} {N k0 n0 : Nat} {q r q4 r4 : Nat} {x5 : Int32} {z3 z4 : T_PL} (C : jC p s m args meth c cL_law 23 RL D [(cI, .int), (cB, .byte), (cL, .byte), (cO, .object RX0)] pf AP) (hf : l.stackTraces = false) (hL : pf 93 < 2 ^ 31) (hk : k0 + 400 ≤ room_1.cells) (hn : n0 + 400 ≤ room_1.slots) (h4 : H_send N (cfgT pf) z3 = some z4) (kk : J p l e room_1 s m args below meth c 23 D AP Q (k0 + 400) (n0 + 400) 193 [(0, .ref (pf 92)), (1, .ref (A 0 0))] [] (wPL cI cB cO A z4)) : J p l e room_1 s m args below meth c 23 D AP Q (k0) (n0) 185 [(5, .int x5), (4, .ref q4), (3, .int (nI (cutN pf))), (2, .ref q), (1, .ref (A 0 0)), (0, .ref (pf 92))] [] ([(q4, .inr (11, [.ref r4, .int 0, .int 0, .int 0])), (r4, .inl (cB, (spT pf).length, .inl (bN (spT pf)))), (q, .inr (11, [.ref r, .int 0, .int 0, .int 0])), (r, .inl (cB, (cfgT pf).length, .inl (bN (cfgT pf))))] ++ wPL cI cB cO A z3) := by
  have hcl := l_cfg pf
  refine J_aload_n (pc := 185) C dL_law_185 4 rfl ?_
  refine J_aload_n (pc := 186) C dL_law_186 3 rfl ?_
  refine J_csF (b := 0) (As := [.ref (A 0 0), .ref q]) (st := []) (pc := 187) C dL_law_187 ml_RL_241 mi_yL_send (c_L_send l D cI cB cL cO pf A N q r (cfgT pf) z3 z4 hf (a_cfg pf) (by omega) h4) [(q4, .inr (11, [.ref r4, .int 0, .int 0, .int 0])), (r4, .inl (cB, (spT pf).length, .inl (bN (spT pf))))] (permDT (permN [2, 3] [0, 1] 4 rfl rfl rfl (by decide))) rfl ⟨(Nat.le_of_ble_eq_true rfl), (Nat.le_of_ble_eq_true rfl)⟩ ⟨(by first | (dsimp only; omega) | omega), (by first | (dsimp only; omega) | omega)⟩ (Nat.le_of_ble_eq_true rfl) ?_
  rintro v w1 ⟨rfl, rfl⟩
  refine J_perm (ws2 := ([(q4, .inr (11, [.ref r4, .int 0, .int 0, .int 0])), (r4, .inl (cB, (spT pf).length, .inl (bN (spT pf)))), (q, .inr (11, [.ref r, .int 0, .int 0, .int 0])), (r, .inl (cB, (cfgT pf).length, .inl (bN (cfgT pf))))] ++ wPL cI cB cO A z4)) (permDT (permN (ws := [(q4, .inr (11, [.ref r4, .int 0, .int 0, .int 0])), (r4, .inl (cB, (spT pf).length, .inl (bN (spT pf)))), (q, .inr (11, [.ref r, .int 0, .int 0, .int 0])), (r, .inl (cB, (cfgT pf).length, .inl (bN (cfgT pf))))]) (Wc := [(q, .inr (11, [.ref r, .int 0, .int 0, .int 0])), (r, .inl (cB, (cfgT pf).length, .inl (bN (cfgT pf))))]) (Wr := [(q4, .inr (11, [.ref r4, .int 0, .int 0, .int 0])), (r4, .inl (cB, (spT pf).length, .inl (bN (spT pf))))]) [2, 3] [0, 1] 4 rfl rfl rfl (by decide))).symm ?_
  refine J_if_eq (α := Unit) (o := ()) (X := none) (Y := some ()) (pc := 190) (tgt := 224) C dL_law_190 (by decide) (if_neg (by decide)) (fun h => by cases h) (fun _ => ?_)
  refine J_sub (lv2 := [(0, .ref (pf 92)), (1, .ref (A 0 0))]) [5, 4] rfl ?_
  refine J_drop (ws2 := wPL cI cB cO A z4) (Wr := [(q4, .inr (11, [.ref r4, .int 0, .int 0, .int 0])), (r4, .inl (cB, (spT pf).length, .inl (bN (spT pf)))), (q, .inr (11, [.ref r, .int 0, .int 0, .int 0])), (r, .inl (cB, (cfgT pf).length, .inl (bN (cfgT pf))))]) List.perm_append_comm ?_
  refine J_widen (k2 := k0 + 400) (n2 := n0 + 400) (by first | omega | (dsimp only; omega)) (by first | omega | (dsimp only; omega)) ?_
  exact kk

set_option maxHeartbeats 4000000 in
set_option maxRecDepth 100000 in
theorem K_law235 {p : Program} {l : Launch} {e : Env} {s : State} {m : MethodId} {args : Array Value} {below : List Frame} {meth : Method} {c : Code} {D : va_G} {A : Nat → Nat → Nat} {cI cB cL cO : ClassId} {pf : Nat → Nat} {AP : Nat → Prop} {Q : State → Prop} {N k0 n0 : Nat} {o : Int64 × Int32 × T_PL} (C : jC p s m args meth c cL_law 23 RL D [(cI, .int), (cB, .byte), (cL, .byte), (cO, .object RX0)] pf AP) (hf : l.stackTraces = false) (hL : pf 93 < 2 ^ 31) (hk : k0 + 64 ≤ room_1.cells) (hn : n0 + 384 ≤ room_1.slots) (kk : J p l e room_1 s m args below meth c 23 D AP Q (k0 + 64) (n0 + 384) 1020 [(0, .ref (pf 92)), (1, .ref (A 0 0)), (6, .long o.1), (8, .int o.2.1)] [] (wPL cI cB cO A o.2.2)) : ∀ (d k : Nat) (x6 : Int64) (x8 : Int32) (zs : T_PL), k + d = 16 → lawLoop N pf d k x6 x8 zs = some o → J p l e room_1 s m args below meth c 23 D AP Q (k0 + 4 * k) (n0 + 24 * k) 235 [(0, .ref (pf 92)), (1, .ref (A 0 0)), (6, .long x6), (8, .int x8), (9, .int (nI k))] [] (wPL cI cB cO A zs) := by
  intro d
  induction d with
  | zero =>
    intro k x6 x8 zs hd h
    have h := Option.some.inj h
    subst h
    refine J_iload (pc := 235) C dL_law_235 4 rfl ?_
    refine J_bipush (v := (16 : Int32)) (pc := 237) C dL_law_237 (by decide) ?_
    refine J_ic_ge (α := Unit) (o := ()) (X := some ()) (Y := none) (pc := 239) (tgt := 1020) C dL_law_239 (by decide) (if_pos (show nI 16 ≤ nI k from nI_le (by omega) (by omega))) (fun _ => ?_) (fun h => by cases h)
    refine J_sub (lv2 := [(0, .ref (pf 92)), (1, .ref (A 0 0)), (6, .long x6), (8, .int x8)]) [0, 1, 2, 3] rfl ?_
    refine J_widen (k2 := k0 + 64) (n2 := n0 + 384) (by first | omega | (dsimp only; omega)) (by first | omega | (dsimp only; omega)) ?_
    exact kk
  | succ d ih =>
    intro k x6 x8 zs hd h
    unfold lawLoop at h
    obtain ⟨o1, ho1, h⟩ := Option.bind_eq_some_iff.mp h
    refine J_iload (pc := 235) C dL_law_235 4 rfl ?_
    refine J_bipush (v := (16 : Int32)) (pc := 237) C dL_law_237 (by decide) ?_
    refine J_ic_ge (α := Unit) (o := ()) (X := none) (Y := some ()) (pc := 239) (tgt := 1020) C dL_law_239 (by decide) (if_neg (show ¬ nI 16 ≤ nI k from nI_ge (by omega) (by decide))) (fun h => by cases h) (fun _ => ?_)
    refine t_L_turn_b242 (k0 := k0 + 4 * k) (n0 := n0 + 24 * k) C hf (by omega) (by omega) ?_ ho1
    refine J_iincK (v := (1 : Int32)) (x2 := nI (k + 1)) (lv2 := [(9, .int (nI (k + 1))), (0, .ref (pf 92)), (1, .ref (A 0 0)), (6, .long o1.1), (8, .int o1.2.1)]) (pc := 1014) C dL_law_1014 4 rfl (by decide) (nI_add k 1) (by decide) rfl ?_
    refine J_goto (tgt := 235) (pc := 1017) C dL_law_1017 (by decide) ?_
    refine J_sub (lv2 := [(0, .ref (pf 92)), (1, .ref (A 0 0)), (6, .long o1.1), (8, .int o1.2.1), (9, .int (nI (k + 1)))]) [1, 2, 3, 4, 0] rfl ?_
    refine J_widen (k2 := k0 + 4 * (k + 1)) (n2 := n0 + 24 * (k + 1)) (by first | omega | (dsimp only; omega)) (by first | omega | (dsimp only; omega)) ?_
    exact ih (k + 1) o1.1 o1.2.1 o1.2.2 (by omega) h

set_option maxHeartbeats 4000000 in
set_option maxRecDepth 100000 in
theorem law_run {p : Program} {l : Launch} {e : Env} {s : State} {m : MethodId} {below : List Frame} {meth : Method} {c : Code} {D : va_G} {A : Nat → Nat → Nat} {cI cB cL cO : ClassId} {pf : Nat → Nat} {N b : Nat} {zs z1 z2 z3 z4 z5 z7 : T_PL} {o : Int64 × Int32 × T_PL} (C : jC p s m #[Value.ref b] meth c cL_law 23 RL D [(cI, .int), (cB, .byte), (cL, .byte), (cO, .object RX0)] pf (fun q => s.heap.size ≤ q)) (hr : meth.sig.returnType = ret) (hf : l.stackTraces = false) (hL : pf 93 < 2 ^ 31) (h1 : f_L_chk N zs = some z1) (h2 : H_send N (spT pf) z1 = some z2) (h3 : H_err N (nI (spT pf).length) z2 = some z3) (h4 : H_send N (cfgT pf) z3 = some z4) (h5 : f_L_chk2 N pf z4 = some z5) (h6 : lawLoop N pf 16 0 0 0 z5 = some o) (h7 : f_L_fin N o.1 o.2.1 o.2.2 = some z7) : J p l e room_1 s m #[Value.ref b] below meth c 23 D (fun q => s.heap.size ≤ q) (lw_Z below #[Value.ref b] s) (500) (90000) 8 [(0, .ref (pf 92)), (1, .ref (A 0 0))] [] (wPL cI cB cO A zs) := by
  have hRC : room_1.cells = 600086 := rfl
  have hRS : room_1.slots = 7301442 := rfl
  refine t_L_chk_b8 (k0 := 500) (n0 := 90000) C hf (by omega) (by omega) ?_ h1
  refine J_sub (lv2 := [(1, .ref (A 0 0)), (0, .ref (pf 92))]) [1, 0] rfl ?_
  refine K_law69 (N := N) (k0 := 504) (n0 := 90024) C hf hL (by omega) (by omega) ?_
  intro q r q4 r4
  refine K_law135 (k0 := 674) (n0 := 540024) C hf hL (by omega) (by omega) h2 h3 ?_
  intro x5
  refine K_law185 (k0 := 1078) (n0 := 540448) C hf hL (by omega) (by omega) h4 ?_
  refine t_L_chk2_b193 (k0 := 1478) (n0 := 540848) C hf (by omega) (by omega) ?_ h5
  refine J_lconst (v := 0) (pc := 226) C dL_law_226 (by decide) ?_
  refine J_lstore (lv2 := [(6, .long 0), (0, .ref (pf 92)), (1, .ref (A 0 0))]) (pc := 227) C dL_law_227 (by decide) rfl ?_
  refine J_iconst (v := 0) (pc := 229) C dL_law_229 (by decide) ?_
  refine J_istore (lv2 := [(8, .int 0), (6, .long 0), (0, .ref (pf 92)), (1, .ref (A 0 0))]) (pc := 230) C dL_law_230 (by decide) rfl ?_
  refine J_iconst (v := nI 0) (pc := 232) C dL_law_232 (by decide) ?_
  refine J_istore (lv2 := [(9, .int (nI 0)), (8, .int 0), (6, .long 0), (0, .ref (pf 92)), (1, .ref (A 0 0))]) (pc := 233) C dL_law_233 (by decide) rfl ?_
  refine J_sub (lv2 := [(0, .ref (pf 92)), (1, .ref (A 0 0)), (6, .long 0), (8, .int 0), (9, .int (nI 0))]) [3, 4, 2, 1, 0] rfl ?_
  refine K_law235 (k0 := 1482) (n0 := 540872) C hf hL (by omega) (by omega) ?_ 16 0 0 0 z5 rfl h6
  refine t_L_fin_b1020 (k0 := 1546) (n0 := 541256) C hf (by omega) (by omega) ?_ h7
  intro lv ws
  exact fun ls hL H locs hP hD hS => va_forget hS.2.2 (W.widen (by decide) (by decide) (lw_ret C.1 C.2.1 hr C.2.2.2.2.2.2.1 dL_law_1051))
