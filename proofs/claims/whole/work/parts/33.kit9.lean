/-- a contract of a method with a table of handlers, that returns -/
def CtH (l : Launch) (D : va_G) (ty : List (ClassId × FieldType)) (pf : Nat → Nat) (y : MethodName) (cc : ByteArray) (maxL : Nat) (ret : Option FieldType) (hh : List (Nat × Nat × Nat × Nat)) (rm : Room) (av : List Value) (W0 : va_W) (Post : Option Value → va_W → Prop) : Prop :=
  ∀ sz, Met l y (.codeWith y cc maxL ret hh :: BIG) rm (jP D ty pf av W0 sz) (jQ D ty W0 sz Post) rm.cells rm.slots (va_A W0 sz)
section J9b
variable {p : Program} {l : Launch} {e : Env} {R : Room} {s : State} {m : MethodId} {args : Array Value} {below : List Frame} {meth : Method} {c : Code} {cc : ByteArray} {nL : Nat} {own : String} {D : va_G} {ty : List (ClassId × FieldType)} {pf : Nat → Nat} {A : Nat → Prop} {Q : State → Prop} {k n : Nat} {pc : Nat} {lv : List (Nat × Value)} {st : List Value} {ws : va_W} {α : Type} {o : α}
theorem CtH_of {y : MethodName} {maxL : Nat} {ret : Option FieldType} {hh : List (Nat × Nat × Nat × Nat)} {rm : Room} {av : List Value} {W0 : va_W} {Post : Option Value → va_W → Prop} {lv0 : List (Nat × Value)} (hy : plainName y.cls = true) (ho : y.cls = own) (hlv : lv_args 0 av = lv0) (hlen : (lg_sl av).length ≤ maxL)
    (body : ∀ (p : Program) (e : Env) (s : State) (m : MethodId) (args : Array Value) (below : List Frame) (meth : Method) (c : Code), jC p s m args meth c cc maxL own D ty pf (va_A W0 s.heap.size) → meth.sig.returnType = ret → c.exceptionTable.toList = tableOf hh → J p l e rm s m args below meth c maxL D (va_A W0 s.heap.size) (MQ below (jQ D ty W0 s.heap.size Post) args s rm.cells rm.slots (va_A W0 s.heap.size)) 0 0 0 lv0 [] W0) : CtH l D ty pf y cc maxL ret hh rm av W0 Post := by
  intro sz
  subst ho
  refine Jvm.Free.MetFree.of_bodyS (code := cc) (maxLocals := maxL) (ret := ret) hy ?_ ?_
  · intro args s m h hn
    obtain ⟨m9, meth, c, hn9, h1, h2, h3, h4, -, h5, h6, -⟩ := Cond.codeWith_spec (atoms_spec (ws := (.codeWith y cc maxL ret hh :: BIG)) h _ List.mem_cons_self)
    cases hn.symm.trans hn9
    exact ⟨meth, c, h1, h2, h3, h4, h5, h6⟩
  · intro p e s m args below meth c s₁ B hml hv _
    have hh0 : s₁.heap = s.heap := by rw [B.state]; rfl
    obtain ⟨rfl, hsz, hP, hK, hD0, hpf⟩ := hv
    subst hsz
    have hts := atoms_spec (ws := (.codeWith y cc maxL ret hh :: BIG)) B.pre
    have hown : s.vm.findClass y.cls = some m.cls := findClass_of_methodNamed B.named
    have hl := lv_entry av (n := maxL) hlen
    rw [hlv] at hl
    have X := body p e s m av.toArray below meth c ⟨B.exec, B.bytes, hml, hown, fun w hw => hts w (List.mem_cons_of_mem _ hw), hK, B.notSynchronized, fun q h => Or.inr h, hpf⟩ B.returns (vx_table (x := y) B (hts _ List.mem_cons_self))
    have Y := X _ hl s.heap [] hP hD0.self va_S.rf
    rw [← lg_entry_eq] at Y
    obtain ⟨t, a1, o, b1, b2, b3⟩ := Y s₁ hh0 (Stand.of_body B)
    exact ⟨t, o, a1, b1, b2, b3⟩
/-- a call of a method that may throw, caught here -/
theorem J_xvH (C : jC p s m args meth c cc nL own D ty pf A) {y : MethodName} {bytes : ByteArray} {maxL : Nat} {ret : Option FieldType} {rm : Room} {na index b o9 : Nat} {As : List Value} {Wc W1 : va_W} {V : Option Value} (d : decode cc pc = .ok (.invokevirtual index, 3)) (w : Cond.methodLink own index y ∈ BIG) (hM : jMv y bytes maxL ret na) (hc : CtX l D ty pf y bytes maxL ret rm (.ref b :: As) Wc (isR o9 V W1) (isE o9 W1)) (Wr : va_W) (hp : ws.Perm (Wc ++ Wr)) {q0 ci : Nat} {fs : List Value} {T : u_T} {N : Nat} (he : Wc[q0]? = some (b, .inr (ci, fs))) (hcl : vwCl[ci]? = some (y.cls, T, N)) (hna : As.length = na) (hR : rm.frames + 1 ≤ R.frames ∧ 8 + (maxL + 11) + rm.locals ≤ R.locals) (hkn : k + rm.cells ≤ R.cells ∧ n + rm.slots ≤ R.slots) (hW : (st.map fun v => v.category).sum ≤ 8)
    (k0 : o9 = 0 → J p l e R s m args below meth c nL D A Q (k + rm.cells) (n + rm.slots) (pc + 3) (lv) (V.toList ++ st) (W1 ++ Wr))
    (kx : ¬ o9 = 0 → ∃ (pre suf : List ExceptionTableEntry) (x : ExceptionTableEntry) (name : String), c.exceptionTable.toList = pre ++ x :: suf ∧ (∀ z ∈ pre, z.catchType ≠ 0 ∧ ∃ nm : String, Cond.classLink own z.catchType nm ∈ BIG ∧ va_Nc (exN o9) nm s) ∧ covers x pc = true ∧ x.catchType ≠ 0 ∧ Cond.classLink own x.catchType name ∈ BIG ∧ va_Nw (.castable (exN o9) name) s ∧ ∀ q, J p l e R s m args below meth c nL D A Q (k + rm.cells) (n + rm.slots) (x.handlerPc) (lv) ([.ref q]) (W1 ++ Wr)) : J p l e R s m args below meth c nL D A Q (k) (n) (pc) (lv) (As.reverse ++ .ref b :: st) (ws) := by
  intro ls hL H locs hP hD hS
  have hPp := hP.perm hp
  have hDp := hD.perm hp
  have hPc : va_P D vwCl Wc H := hPp.left
  have hDc : va_D (fun _ => True) Wc := hDp.left.weaken fun _ _ _ _ => trivial
  have hF : ∀ q, va_A Wc H.size q → A q := wl_free hp hD hS C.2.2.2.2.2.2.2.1
  refine xcall (mc := rm.cells) (ms := rm.slots) (vx_runV ⟨C.1, C.2.1, C.2.2.1, C.2.2.2.1, C.2.2.2.2.1⟩ (hc H.size) ⟨callB_of na C.2.2.2.2.1 (bgGood hM.1.1) rfl rfl rfl (C.2.2.2.2.1 _ hM.1.2.1) (C.2.2.2.2.1 _ w) hM.1.2.2 hR, C.2.2.2.2.1 _ hM.2.1, C.2.2.2.2.1 _ hM.2.2⟩ ⟨jP_blind, va_recv C.2.2.2.2.2.1 hPc hcl he, fun U hU hW => ⟨rfl, by rw [hU], by rw [hU]; exact hPc, va_K.moved hW.alike C.2.2.2.2.2.1, hDc, PF.call C.2.2.2.2.2.2.2.2 hS hF hU hW⟩⟩ rfl hna hL.1 rfl (lv_room hW) d hkn) hS hF (fun v w1 H1 locs1 hp1 hP1 hD1 hz1 hk1 hS1 => ?_) (fun E w1 H1 locs1 q ce hp1 hP1 hD1 hz1 hk1 hS1 hce hcv hcl => ?_)
  · obtain ⟨h0, rfl, rfl⟩ := hp1
    obtain ⟨hP2, hD2⟩ := wl_join hPp hDp hk1 hP1 hD1
    exact k0 h0 ls hL H1 locs1 hP2 (hD2.weaken fun k q _ hA => (va_A_mem.mp hA).elim (fun ⟨e, h⟩ => (va_D_iff.mp hDp).2 (q.1, e) h) (fun h => C.2.2.2.2.2.2.2.1 _ (Nat.le_trans hS.1 h))) hS1
  · obtain ⟨h0, rfl, rfl⟩ := hp1
    obtain ⟨pre, suf, x, name, h1, h2, h3, h4, h5, h6, h7⟩ := kx h0
    obtain ⟨hP2, hD2⟩ := wl_join hPp hDp hk1 hP1 hD1
    exact vx_catch C.2.2.2.1 pre x suf h1 (fun z hz => Or.inr ⟨(h2 z hz).1, (h2 z hz).2.choose, C.2.2.2.2.1 _ (h2 z hz).2.choose_spec.1, (h2 z hz).2.choose_spec.2⟩) h3 h4 (C.2.2.2.2.1 _ h5) (h6.use rfl) hce hcv hcl
      (h7 q ls hL H1 locs1 hP2 (hD2.weaken fun k q _ hA => (va_A_mem.mp hA).elim (fun ⟨e, h⟩ => (va_D_iff.mp hDp).2 (q.1, e) h) (fun h => C.2.2.2.2.2.2.2.1 _ (Nat.le_trans hS.1 h))) hS1)
/-- a static call of a method with a table -/
theorem J_csH (C : jC p s m args meth c cc nL own D ty pf A) {y : MethodName} {bytes : ByteArray} {maxL : Nat} {ret : Option FieldType} {hh : List (Nat × Nat × Nat × Nat)} {rm : Room} {na index : Nat} {As : List Value} {Wc : va_W} {Post : Option Value → va_W → Prop} (d : decode cc pc = .ok (.invokestatic index, 3)) (w : Cond.methodLink own index y ∈ BIG) (hM : Cond.codeWith y bytes maxL ret hh ∈ BIG ∧ Cond.static y ∈ BIG ∧ Cond.initialized y.cls ∈ BIG ∧ y.cls ≠ "java/lang/invoke/MethodHandle" ∧ y.cls ≠ "java/lang/invoke/VarHandle" ∧ (parseMethodDescriptor y.desc).map (fun d => d.parameters.length) = some na) (hc : CtH l D ty pf y bytes maxL ret hh rm As Wc Post) (Wr : va_W) (hp : ws.Perm (Wc ++ Wr)) (hna : As.length = na) (hR : rm.frames + 1 ≤ R.frames ∧ 8 + (maxL + 11) + rm.locals ≤ R.locals) (hkn : k + rm.cells ≤ R.cells ∧ n + rm.slots ≤ R.slots) (hW : (st.map fun v => v.category).sum ≤ 8) (kk : ∀ v w1, Post v w1 → J p l e R s m args below meth c nL D A Q (k + rm.cells) (n + rm.slots) (pc + 3) (lv) (v.toList ++ st) (w1 ++ Wr)) : J p l e R s m args below meth c nL D A Q (k) (n) (pc) (lv) (As.reverse ++ st) (ws) := by
  intro ls hL H locs hP hD hS
  have hPp := hP.perm hp
  have hDp := hD.perm hp
  have hPc : va_P D vwCl Wc H := hPp.left
  have hDc : va_D (fun _ => True) Wc := hDp.left.weaken fun _ _ _ _ => trivial
  have hF : ∀ q, va_A Wc H.size q → A q := wl_free hp hD hS C.2.2.2.2.2.2.2.1
  have hG : GoodIn BIG (.codeWith y bytes maxL ret hh :: BIG) := fun w hw => (List.mem_cons.mp hw).elim (fun h => ⟨h ▸ hM.1, good_of_word (by have := (List.mem_filter.mp hM.1).2; rw [h]; exact this)⟩) (fun h => ⟨h, good_of_word (List.mem_filter.mp h).2⟩)
  refine jcall (mc := rm.cells) (ms := rm.slots) (vx_runSW ⟨C.1, C.2.1, C.2.2.1, C.2.2.2.1, C.2.2.2.2.1⟩ (hc H.size) ⟨⟨rfl, rfl, hR.1, hR.2, pay_in C.2.2.2.2.1 hG, List.mem_cons_self⟩, C.2.2.2.2.1 _ hM.1, C.2.2.2.2.1 _ hM.2.2.1, ⟨hM.2.2.2.1, hM.2.2.2.2.1⟩, (fun sig h => by have h2 := hM.2.2.2.2.2; rw [h] at h2; exact (Option.some.inj h2).symm), C.2.2.2.2.1 _ w, C.2.2.2.2.1 _ hM.2.1⟩ ⟨jP_blind, fun U hU hW => ⟨rfl, by rw [hU], by rw [hU]; exact hPc, va_K.moved hW.alike C.2.2.2.2.2.1, hDc, PF.call C.2.2.2.2.2.2.2.2 hS hF hU hW⟩⟩ rfl hna hL.1 rfl (lv_room hW) d hkn) hS hF (fun v w1 H1 locs1 hp1 hP1 hD1 hz1 hk1 hS1 => ?_)
  obtain ⟨hP2, hD2⟩ := wl_join hPp hDp hk1 hP1 hD1
  exact kk v w1 hp1 ls hL H1 locs1 hP2 (hD2.weaken fun k q _ hA => (va_A_mem.mp hA).elim (fun ⟨e, h⟩ => (va_D_iff.mp hDp).2 (q.1, e) h) (fun h => C.2.2.2.2.2.2.2.1 _ (Nat.le_trans hS.1 h))) hS1
end J9b
theorem perm_out (x : Nat × va_E) (w : va_W) : (List.flatten [w, [x]]).Perm ([x] ++ w) := by
  rw [List.flatten_cons, List.flatten_cons, List.flatten_nil, List.append_nil]
  exact List.perm_append_comm
theorem nc_of {pf : Nat → Nat} {A : Nat → Prop} {U : State} {H : Heap} (h : PF pf A U H) {a b : String} (hm : (a, b) ∈ pf_nc) : va_Nc a b U := h.2.2.2.2.2.2.2.2.2.1 _ hm
theorem ca_of {pf : Nat → Nat} {A : Nat → Prop} {U : State} {H : Heap} (h : PF pf A U H) {a : String} (hm : a ∈ pf_cast) : va_Nw (.castable a a) U := h.2.2.2.2.2.2.2.2.1 _ hm
abbrev R_lawN : String := "PointsLedgerLaw"
set_option maxRecDepth 100000 in
theorem cl_L_13 : Cond.classLink R_lawN 13 "java/lang/IllegalStateException" ∈ BIG := bg3 196 (by decide +kernel)
set_option maxRecDepth 100000 in
theorem cl_L_19 : Cond.classLink R_lawN 19 "java/lang/IllegalArgumentException" ∈ BIG := bg4 40 (by decide +kernel)
set_option maxRecDepth 100000 in
theorem cl_L_28 : Cond.classLink R_lawN 28 "java/util/NoSuchElementException" ∈ BIG := bg4 90 (by decide +kernel)
set_option maxRecDepth 100000 in
theorem cl_L_34 : Cond.classLink R_lawN 34 "java/lang/IndexOutOfBoundsException" ∈ BIG := bg4 116 (by decide +kernel)
set_option maxRecDepth 100000 in
theorem wh_append : Cond.codeWith yL_append cL_append 8 (some FieldType.int) [(0, 16, 19, 13)] ∈ BIG ∧ Cond.static yL_append ∈ BIG ∧ Cond.initialized yL_append.cls ∈ BIG ∧ yL_append.cls ≠ "java/lang/invoke/MethodHandle" ∧ yL_append.cls ≠ "java/lang/invoke/VarHandle" ∧ (parseMethodDescriptor yL_append.desc).map (fun d => d.parameters.length) = some 7 := ⟨bg3 195 (by decide +kernel), bg3 194 (by decide +kernel), bg1 0 (by decide +kernel), by decide +kernel⟩
set_option maxRecDepth 100000 in
theorem ml_L_7 : Cond.methodLink R_lawN 7 yX10_append ∈ BIG := bg3 197 (by decide +kernel)
set_option maxRecDepth 100000 in
theorem wh_truncate : Cond.codeWith yL_truncate cL_truncate 4 (some FieldType.int) [(0, 9, 12, 19)] ∈ BIG ∧ Cond.static yL_truncate ∈ BIG ∧ Cond.initialized yL_truncate.cls ∈ BIG ∧ yL_truncate.cls ≠ "java/lang/invoke/MethodHandle" ∧ yL_truncate.cls ≠ "java/lang/invoke/VarHandle" ∧ (parseMethodDescriptor yL_truncate.desc).map (fun d => d.parameters.length) = some 3 := ⟨bg4 39 (by decide +kernel), bg4 38 (by decide +kernel), bg1 0 (by decide +kernel), by decide +kernel⟩
set_option maxRecDepth 100000 in
theorem ml_L_15 : Cond.methodLink R_lawN 15 yX10_truncate ∈ BIG := bg4 41 (by decide +kernel)
set_option maxRecDepth 100000 in
theorem wh_load : Cond.codeWith yL_load cL_load 3 (some FieldType.int) [(0, 8, 11, 19)] ∈ BIG ∧ Cond.static yL_load ∈ BIG ∧ Cond.initialized yL_load.cls ∈ BIG ∧ yL_load.cls ≠ "java/lang/invoke/MethodHandle" ∧ yL_load.cls ≠ "java/lang/invoke/VarHandle" ∧ (parseMethodDescriptor yL_load.desc).map (fun d => d.parameters.length) = some 2 := ⟨bg4 70 (by decide +kernel), bg4 69 (by decide +kernel), bg1 0 (by decide +kernel), by decide +kernel⟩
set_option maxRecDepth 100000 in
theorem ml_L_21 : Cond.methodLink R_lawN 21 yX10_load ∈ BIG := bg4 71 (by decide +kernel)
set_option maxRecDepth 100000 in
theorem wh_find : Cond.codeWith yL_find cL_find 3 (some FieldType.int) [(0, 8, 11, 28)] ∈ BIG ∧ Cond.static yL_find ∈ BIG ∧ Cond.initialized yL_find.cls ∈ BIG ∧ yL_find.cls ≠ "java/lang/invoke/MethodHandle" ∧ yL_find.cls ≠ "java/lang/invoke/VarHandle" ∧ (parseMethodDescriptor yL_find.desc).map (fun d => d.parameters.length) = some 2 := ⟨bg4 89 (by decide +kernel), bg4 88 (by decide +kernel), bg1 0 (by decide +kernel), by decide +kernel⟩
set_option maxRecDepth 100000 in
theorem ml_L_25 : Cond.methodLink R_lawN 25 yX10_find ∈ BIG := bg4 91 (by decide +kernel)
set_option maxRecDepth 100000 in
theorem wh_purchase : Cond.codeWith yL_purchase cL_purchase 6 (some FieldType.int) [(0, 12, 15, 34), (0, 12, 19, 19)] ∈ BIG ∧ Cond.static yL_purchase ∈ BIG ∧ Cond.initialized yL_purchase.cls ∈ BIG ∧ yL_purchase.cls ≠ "java/lang/invoke/MethodHandle" ∧ yL_purchase.cls ≠ "java/lang/invoke/VarHandle" ∧ (parseMethodDescriptor yL_purchase.desc).map (fun d => d.parameters.length) = some 5 := ⟨bg4 115 (by decide +kernel), bg4 114 (by decide +kernel), bg1 0 (by decide +kernel), by decide +kernel⟩
set_option maxRecDepth 100000 in
theorem ml_L_30 : Cond.methodLink R_lawN 30 yX10_purchase ∈ BIG := bg4 117 (by decide +kernel)
set_option maxRecDepth 100000 in
theorem wh_refund : Cond.codeWith yL_refund cL_refund 4 (some FieldType.int) [(0, 9, 12, 28), (0, 9, 15, 13)] ∈ BIG ∧ Cond.static yL_refund ∈ BIG ∧ Cond.initialized yL_refund.cls ∈ BIG ∧ yL_refund.cls ≠ "java/lang/invoke/MethodHandle" ∧ yL_refund.cls ≠ "java/lang/invoke/VarHandle" ∧ (parseMethodDescriptor yL_refund.desc).map (fun d => d.parameters.length) = some 3 := ⟨bg5 12 (by decide +kernel), bg5 11 (by decide +kernel), bg1 0 (by decide +kernel), by decide +kernel⟩
set_option maxRecDepth 100000 in
theorem ml_L_36 : Cond.methodLink R_lawN 36 yX10_refund ∈ BIG := bg5 13 (by decide +kernel)
set_option maxRecDepth 100000 in
theorem wh_redeem : Cond.codeWith yL_redeem cL_redeem 5 (some FieldType.int) [(0, 10, 13, 34), (0, 10, 17, 19), (0, 10, 21, 13)] ∈ BIG ∧ Cond.static yL_redeem ∈ BIG ∧ Cond.initialized yL_redeem.cls ∈ BIG ∧ yL_redeem.cls ≠ "java/lang/invoke/MethodHandle" ∧ yL_redeem.cls ≠ "java/lang/invoke/VarHandle" ∧ (parseMethodDescriptor yL_redeem.desc).map (fun d => d.parameters.length) = some 4 := ⟨bg5 61 (by decide +kernel), bg5 60 (by decide +kernel), bg1 0 (by decide +kernel), by decide +kernel⟩
set_option maxRecDepth 100000 in
theorem ml_L_39 : Cond.methodLink R_lawN 39 yX10_redeem ∈ BIG := bg5 62 (by decide +kernel)
set_option maxRecDepth 100000 in
theorem wh_transfer : Cond.codeWith yL_transfer cL_transfer 6 (some FieldType.int) [(0, 12, 15, 34), (0, 12, 19, 19), (0, 12, 23, 13)] ∈ BIG ∧ Cond.static yL_transfer ∈ BIG ∧ Cond.initialized yL_transfer.cls ∈ BIG ∧ yL_transfer.cls ≠ "java/lang/invoke/MethodHandle" ∧ yL_transfer.cls ≠ "java/lang/invoke/VarHandle" ∧ (parseMethodDescriptor yL_transfer.desc).map (fun d => d.parameters.length) = some 5 := ⟨bg5 91 (by decide +kernel), bg5 90 (by decide +kernel), bg1 0 (by decide +kernel), by decide +kernel⟩
set_option maxRecDepth 100000 in
theorem ml_L_43 : Cond.methodLink R_lawN 43 yX10_transfer ∈ BIG := bg5 92 (by decide +kernel)
set_option maxRecDepth 100000 in
theorem wh_join : Cond.codeWith yL_join cL_join 5 (some FieldType.int) [(0, 10, 13, 34), (0, 10, 17, 13)] ∈ BIG ∧ Cond.static yL_join ∈ BIG ∧ Cond.initialized yL_join.cls ∈ BIG ∧ yL_join.cls ≠ "java/lang/invoke/MethodHandle" ∧ yL_join.cls ≠ "java/lang/invoke/VarHandle" ∧ (parseMethodDescriptor yL_join.desc).map (fun d => d.parameters.length) = some 4 := ⟨bg5 109 (by decide +kernel), bg5 108 (by decide +kernel), bg1 0 (by decide +kernel), by decide +kernel⟩
set_option maxRecDepth 100000 in
theorem ml_L_46 : Cond.methodLink R_lawN 46 yX10_join ∈ BIG := bg5 110 (by decide +kernel)
set_option maxRecDepth 100000 in
theorem wh_leave : Cond.codeWith yL_leave cL_leave 4 (some FieldType.int) [(0, 9, 12, 34), (0, 9, 15, 13)] ∈ BIG ∧ Cond.static yL_leave ∈ BIG ∧ Cond.initialized yL_leave.cls ∈ BIG ∧ yL_leave.cls ≠ "java/lang/invoke/MethodHandle" ∧ yL_leave.cls ≠ "java/lang/invoke/VarHandle" ∧ (parseMethodDescriptor yL_leave.desc).map (fun d => d.parameters.length) = some 3 := ⟨bg5 146 (by decide +kernel), bg5 145 (by decide +kernel), bg1 0 (by decide +kernel), by decide +kernel⟩
set_option maxRecDepth 100000 in
theorem ml_L_49 : Cond.methodLink R_lawN 49 yX10_leave ∈ BIG := bg5 147 (by decide +kernel)
set_option maxRecDepth 100000 in
theorem wh_setShare : Cond.codeWith yL_setShare cL_setShare 5 (some FieldType.int) [(0, 10, 13, 34), (0, 10, 17, 19)] ∈ BIG ∧ Cond.static yL_setShare ∈ BIG ∧ Cond.initialized yL_setShare.cls ∈ BIG ∧ yL_setShare.cls ≠ "java/lang/invoke/MethodHandle" ∧ yL_setShare.cls ≠ "java/lang/invoke/VarHandle" ∧ (parseMethodDescriptor yL_setShare.desc).map (fun d => d.parameters.length) = some 4 := ⟨bg5 158 (by decide +kernel), bg5 157 (by decide +kernel), bg1 0 (by decide +kernel), by decide +kernel⟩
set_option maxRecDepth 100000 in
theorem ml_L_52 : Cond.methodLink R_lawN 52 yX10_setShare ∈ BIG := bg5 159 (by decide +kernel)
set_option maxRecDepth 100000 in
theorem wh_advance : Cond.codeWith yL_advance cL_advance 4 (some FieldType.int) [(0, 9, 12, 19)] ∈ BIG ∧ Cond.static yL_advance ∈ BIG ∧ Cond.initialized yL_advance.cls ∈ BIG ∧ yL_advance.cls ≠ "java/lang/invoke/MethodHandle" ∧ yL_advance.cls ≠ "java/lang/invoke/VarHandle" ∧ (parseMethodDescriptor yL_advance.desc).map (fun d => d.parameters.length) = some 3 := ⟨bg5 169 (by decide +kernel), bg5 168 (by decide +kernel), bg1 0 (by decide +kernel), by decide +kernel⟩
set_option maxRecDepth 100000 in
theorem ml_L_55 : Cond.methodLink R_lawN 55 yX10_advance ∈ BIG := bg5 170 (by decide +kernel)
set_option maxRecDepth 100000 in
theorem wh_setup : Cond.codeWith yL_setup cL_setup 4 (some FieldType.int) [(0, 9, 12, 19)] ∈ BIG ∧ Cond.static yL_setup ∈ BIG ∧ Cond.initialized yL_setup.cls ∈ BIG ∧ yL_setup.cls ≠ "java/lang/invoke/MethodHandle" ∧ yL_setup.cls ≠ "java/lang/invoke/VarHandle" ∧ (parseMethodDescriptor yL_setup.desc).map (fun d => d.parameters.length) = some 3 := ⟨bg5 205 (by decide +kernel), bg5 204 (by decide +kernel), bg1 0 (by decide +kernel), by decide +kernel⟩
set_option maxRecDepth 100000 in
theorem ml_L_58 : Cond.methodLink R_lawN 58 yX10_setup ∈ BIG := bg5 206 (by decide +kernel)
set_option maxRecDepth 100000 in
theorem wh_threshold : Cond.codeWith yL_threshold cL_threshold 4 (some FieldType.int) [(0, 9, 12, 34)] ∈ BIG ∧ Cond.static yL_threshold ∈ BIG ∧ Cond.initialized yL_threshold.cls ∈ BIG ∧ yL_threshold.cls ≠ "java/lang/invoke/MethodHandle" ∧ yL_threshold.cls ≠ "java/lang/invoke/VarHandle" ∧ (parseMethodDescriptor yL_threshold.desc).map (fun d => d.parameters.length) = some 3 := ⟨bg5 215 (by decide +kernel), bg5 214 (by decide +kernel), bg1 0 (by decide +kernel), by decide +kernel⟩
set_option maxRecDepth 100000 in
theorem ml_L_61 : Cond.methodLink R_lawN 61 yX10_threshold ∈ BIG := bg5 216 (by decide +kernel)
set_option maxRecDepth 100000 in
theorem wh_extras : Cond.codeWith yL_extras cL_extras 5 (some FieldType.int) [(0, 10, 13, 34), (0, 10, 17, 19)] ∈ BIG ∧ Cond.static yL_extras ∈ BIG ∧ Cond.initialized yL_extras.cls ∈ BIG ∧ yL_extras.cls ≠ "java/lang/invoke/MethodHandle" ∧ yL_extras.cls ≠ "java/lang/invoke/VarHandle" ∧ (parseMethodDescriptor yL_extras.desc).map (fun d => d.parameters.length) = some 4 := ⟨bg5 224 (by decide +kernel), bg5 223 (by decide +kernel), bg1 0 (by decide +kernel), by decide +kernel⟩
set_option maxRecDepth 100000 in
theorem ml_L_64 : Cond.methodLink R_lawN 64 yX10_extras ∈ BIG := bg5 225 (by decide +kernel)
set_option maxRecDepth 100000 in
theorem wh_balance : Cond.codeWith yL_balance cL_balance 4 (some FieldType.int) [(0, 9, 12, 34)] ∈ BIG ∧ Cond.static yL_balance ∈ BIG ∧ Cond.initialized yL_balance.cls ∈ BIG ∧ yL_balance.cls ≠ "java/lang/invoke/MethodHandle" ∧ yL_balance.cls ≠ "java/lang/invoke/VarHandle" ∧ (parseMethodDescriptor yL_balance.desc).map (fun d => d.parameters.length) = some 3 := ⟨bg5 232 (by decide +kernel), bg5 231 (by decide +kernel), bg1 0 (by decide +kernel), by decide +kernel⟩
set_option maxRecDepth 100000 in
theorem ml_L_67 : Cond.methodLink R_lawN 67 yX10_balance ∈ BIG := bg5 233 (by decide +kernel)
set_option maxRecDepth 100000 in
theorem wh_debt : Cond.codeWith yL_debt cL_debt 4 (some FieldType.int) [(0, 9, 12, 34)] ∈ BIG ∧ Cond.static yL_debt ∈ BIG ∧ Cond.initialized yL_debt.cls ∈ BIG ∧ yL_debt.cls ≠ "java/lang/invoke/MethodHandle" ∧ yL_debt.cls ≠ "java/lang/invoke/VarHandle" ∧ (parseMethodDescriptor yL_debt.desc).map (fun d => d.parameters.length) = some 3 := ⟨bg5 239 (by decide +kernel), bg5 238 (by decide +kernel), bg1 0 (by decide +kernel), by decide +kernel⟩
set_option maxRecDepth 100000 in
theorem ml_L_70 : Cond.methodLink R_lawN 70 yX10_debt ∈ BIG := bg6 0 (by decide +kernel)
set_option maxRecDepth 100000 in
theorem wh_available : Cond.codeWith yL_available cL_available 4 (some FieldType.int) [(0, 9, 12, 34)] ∈ BIG ∧ Cond.static yL_available ∈ BIG ∧ Cond.initialized yL_available.cls ∈ BIG ∧ yL_available.cls ≠ "java/lang/invoke/MethodHandle" ∧ yL_available.cls ≠ "java/lang/invoke/VarHandle" ∧ (parseMethodDescriptor yL_available.desc).map (fun d => d.parameters.length) = some 3 := ⟨bg6 10 (by decide +kernel), bg6 9 (by decide +kernel), bg1 0 (by decide +kernel), by decide +kernel⟩
set_option maxRecDepth 100000 in
theorem ml_L_73 : Cond.methodLink R_lawN 73 yX10_available ∈ BIG := bg6 11 (by decide +kernel)
set_option maxRecDepth 100000 in
theorem wh_cohortCount : Cond.codeWith yL_cohortCount cL_cohortCount 4 (some FieldType.int) [(0, 9, 12, 34)] ∈ BIG ∧ Cond.static yL_cohortCount ∈ BIG ∧ Cond.initialized yL_cohortCount.cls ∈ BIG ∧ yL_cohortCount.cls ≠ "java/lang/invoke/MethodHandle" ∧ yL_cohortCount.cls ≠ "java/lang/invoke/VarHandle" ∧ (parseMethodDescriptor yL_cohortCount.desc).map (fun d => d.parameters.length) = some 3 := ⟨bg6 17 (by decide +kernel), bg6 16 (by decide +kernel), bg1 0 (by decide +kernel), by decide +kernel⟩
set_option maxRecDepth 100000 in
theorem ml_L_76 : Cond.methodLink R_lawN 76 yX10_cohortCount ∈ BIG := bg6 18 (by decide +kernel)
set_option maxRecDepth 100000 in
theorem wh_cohort : Cond.codeWith yL_cohort cL_cohort 6 (some FieldType.int) [(0, 12, 15, 34), (0, 12, 19, 19)] ∈ BIG ∧ Cond.static yL_cohort ∈ BIG ∧ Cond.initialized yL_cohort.cls ∈ BIG ∧ yL_cohort.cls ≠ "java/lang/invoke/MethodHandle" ∧ yL_cohort.cls ≠ "java/lang/invoke/VarHandle" ∧ (parseMethodDescriptor yL_cohort.desc).map (fun d => d.parameters.length) = some 5 := ⟨bg6 28 (by decide +kernel), bg6 27 (by decide +kernel), bg1 0 (by decide +kernel), by decide +kernel⟩
set_option maxRecDepth 100000 in
theorem ml_L_79 : Cond.methodLink R_lawN 79 yX10_cohort ∈ BIG := bg6 29 (by decide +kernel)
set_option maxRecDepth 100000 in
theorem wh_household : Cond.codeWith yL_household cL_household 4 (some FieldType.int) [(0, 9, 12, 34)] ∈ BIG ∧ Cond.static yL_household ∈ BIG ∧ Cond.initialized yL_household.cls ∈ BIG ∧ yL_household.cls ≠ "java/lang/invoke/MethodHandle" ∧ yL_household.cls ≠ "java/lang/invoke/VarHandle" ∧ (parseMethodDescriptor yL_household.desc).map (fun d => d.parameters.length) = some 3 := ⟨bg6 44 (by decide +kernel), bg6 43 (by decide +kernel), bg1 0 (by decide +kernel), by decide +kernel⟩
set_option maxRecDepth 100000 in
theorem ml_L_82 : Cond.methodLink R_lawN 82 yX10_household ∈ BIG := bg6 45 (by decide +kernel)
set_option maxRecDepth 100000 in
theorem wh_members : Cond.codeWith yL_members cL_members 4 (some FieldType.int) [(0, 9, 12, 34)] ∈ BIG ∧ Cond.static yL_members ∈ BIG ∧ Cond.initialized yL_members.cls ∈ BIG ∧ yL_members.cls ≠ "java/lang/invoke/MethodHandle" ∧ yL_members.cls ≠ "java/lang/invoke/VarHandle" ∧ (parseMethodDescriptor yL_members.desc).map (fun d => d.parameters.length) = some 3 := ⟨bg6 51 (by decide +kernel), bg6 50 (by decide +kernel), bg1 0 (by decide +kernel), by decide +kernel⟩
set_option maxRecDepth 100000 in
theorem ml_L_85 : Cond.methodLink R_lawN 85 yX10_members ∈ BIG := bg6 52 (by decide +kernel)
set_option maxRecDepth 100000 in
theorem wh_poolBalance : Cond.codeWith yL_poolBalance cL_poolBalance 4 (some FieldType.int) [(0, 9, 12, 34)] ∈ BIG ∧ Cond.static yL_poolBalance ∈ BIG ∧ Cond.initialized yL_poolBalance.cls ∈ BIG ∧ yL_poolBalance.cls ≠ "java/lang/invoke/MethodHandle" ∧ yL_poolBalance.cls ≠ "java/lang/invoke/VarHandle" ∧ (parseMethodDescriptor yL_poolBalance.desc).map (fun d => d.parameters.length) = some 3 := ⟨bg6 59 (by decide +kernel), bg6 58 (by decide +kernel), bg1 0 (by decide +kernel), by decide +kernel⟩
set_option maxRecDepth 100000 in
theorem ml_L_88 : Cond.methodLink R_lawN 88 yX10_poolBalance ∈ BIG := bg6 60 (by decide +kernel)
set_option maxRecDepth 100000 in
theorem wh_poolCohortCount : Cond.codeWith yL_poolCohortCount cL_poolCohortCount 4 (some FieldType.int) [(0, 9, 12, 34)] ∈ BIG ∧ Cond.static yL_poolCohortCount ∈ BIG ∧ Cond.initialized yL_poolCohortCount.cls ∈ BIG ∧ yL_poolCohortCount.cls ≠ "java/lang/invoke/MethodHandle" ∧ yL_poolCohortCount.cls ≠ "java/lang/invoke/VarHandle" ∧ (parseMethodDescriptor yL_poolCohortCount.desc).map (fun d => d.parameters.length) = some 3 := ⟨bg6 67 (by decide +kernel), bg6 66 (by decide +kernel), bg1 0 (by decide +kernel), by decide +kernel⟩
set_option maxRecDepth 100000 in
theorem ml_L_91 : Cond.methodLink R_lawN 91 yX10_poolCohortCount ∈ BIG := bg6 68 (by decide +kernel)
set_option maxRecDepth 100000 in
theorem wh_poolCohort : Cond.codeWith yL_poolCohort cL_poolCohort 6 (some FieldType.int) [(0, 12, 15, 34), (0, 12, 19, 19)] ∈ BIG ∧ Cond.static yL_poolCohort ∈ BIG ∧ Cond.initialized yL_poolCohort.cls ∈ BIG ∧ yL_poolCohort.cls ≠ "java/lang/invoke/MethodHandle" ∧ yL_poolCohort.cls ≠ "java/lang/invoke/VarHandle" ∧ (parseMethodDescriptor yL_poolCohort.desc).map (fun d => d.parameters.length) = some 5 := ⟨bg6 74 (by decide +kernel), bg6 73 (by decide +kernel), bg1 0 (by decide +kernel), by decide +kernel⟩
set_option maxRecDepth 100000 in
theorem ml_L_94 : Cond.methodLink R_lawN 94 yX10_poolCohort ∈ BIG := bg6 75 (by decide +kernel)
set_option maxRecDepth 100000 in
theorem wh_contributed : Cond.codeWith yL_contributed cL_contributed 4 (some FieldType.int) [(0, 9, 12, 34)] ∈ BIG ∧ Cond.static yL_contributed ∈ BIG ∧ Cond.initialized yL_contributed.cls ∈ BIG ∧ yL_contributed.cls ≠ "java/lang/invoke/MethodHandle" ∧ yL_contributed.cls ≠ "java/lang/invoke/VarHandle" ∧ (parseMethodDescriptor yL_contributed.desc).map (fun d => d.parameters.length) = some 3 := ⟨bg6 81 (by decide +kernel), bg6 80 (by decide +kernel), bg1 0 (by decide +kernel), by decide +kernel⟩
set_option maxRecDepth 100000 in
theorem ml_L_97 : Cond.methodLink R_lawN 97 yX10_contributed ∈ BIG := bg6 82 (by decide +kernel)
set_option maxRecDepth 100000 in
theorem wh_total : Cond.codeWith yL_total cL_total 4 (some FieldType.int) [(0, 9, 12, 19)] ∈ BIG ∧ Cond.static yL_total ∈ BIG ∧ Cond.initialized yL_total.cls ∈ BIG ∧ yL_total.cls ≠ "java/lang/invoke/MethodHandle" ∧ yL_total.cls ≠ "java/lang/invoke/VarHandle" ∧ (parseMethodDescriptor yL_total.desc).map (fun d => d.parameters.length) = some 3 := ⟨bg6 89 (by decide +kernel), bg6 88 (by decide +kernel), bg1 0 (by decide +kernel), by decide +kernel⟩
set_option maxRecDepth 100000 in
theorem ml_L_100 : Cond.methodLink R_lawN 100 yX10_total ∈ BIG := bg6 90 (by decide +kernel)
set_option maxRecDepth 100000 in
theorem wh_tier : Cond.codeWith yL_tier cL_tier 4 (some FieldType.int) [(0, 9, 12, 34)] ∈ BIG ∧ Cond.static yL_tier ∈ BIG ∧ Cond.initialized yL_tier.cls ∈ BIG ∧ yL_tier.cls ≠ "java/lang/invoke/MethodHandle" ∧ yL_tier.cls ≠ "java/lang/invoke/VarHandle" ∧ (parseMethodDescriptor yL_tier.desc).map (fun d => d.parameters.length) = some 3 := ⟨bg6 100 (by decide +kernel), bg6 99 (by decide +kernel), bg1 0 (by decide +kernel), by decide +kernel⟩
set_option maxRecDepth 100000 in
theorem ml_L_103 : Cond.methodLink R_lawN 103 yX10_tier ∈ BIG := bg6 101 (by decide +kernel)
set_option maxRecDepth 100000 in
theorem wh_earnedTier : Cond.codeWith yL_earnedTier cL_earnedTier 4 (some FieldType.int) [(0, 9, 12, 34)] ∈ BIG ∧ Cond.static yL_earnedTier ∈ BIG ∧ Cond.initialized yL_earnedTier.cls ∈ BIG ∧ yL_earnedTier.cls ≠ "java/lang/invoke/MethodHandle" ∧ yL_earnedTier.cls ≠ "java/lang/invoke/VarHandle" ∧ (parseMethodDescriptor yL_earnedTier.desc).map (fun d => d.parameters.length) = some 3 := ⟨bg6 111 (by decide +kernel), bg6 110 (by decide +kernel), bg1 0 (by decide +kernel), by decide +kernel⟩
set_option maxRecDepth 100000 in
theorem ml_L_106 : Cond.methodLink R_lawN 106 yX10_earnedTier ∈ BIG := bg6 112 (by decide +kernel)
set_option maxRecDepth 100000 in
theorem wh_qualifying : Cond.codeWith yL_qualifying cL_qualifying 4 (some FieldType.int) [(0, 9, 12, 34)] ∈ BIG ∧ Cond.static yL_qualifying ∈ BIG ∧ Cond.initialized yL_qualifying.cls ∈ BIG ∧ yL_qualifying.cls ≠ "java/lang/invoke/MethodHandle" ∧ yL_qualifying.cls ≠ "java/lang/invoke/VarHandle" ∧ (parseMethodDescriptor yL_qualifying.desc).map (fun d => d.parameters.length) = some 3 := ⟨bg6 123 (by decide +kernel), bg6 122 (by decide +kernel), bg1 0 (by decide +kernel), by decide +kernel⟩
set_option maxRecDepth 100000 in
theorem ml_L_109 : Cond.methodLink R_lawN 109 yX10_qualifying ∈ BIG := bg6 124 (by decide +kernel)
set_option maxRecDepth 100000 in
theorem wh_belowSince : Cond.codeWith yL_belowSince cL_belowSince 4 (some FieldType.int) [(0, 9, 12, 34)] ∈ BIG ∧ Cond.static yL_belowSince ∈ BIG ∧ Cond.initialized yL_belowSince.cls ∈ BIG ∧ yL_belowSince.cls ≠ "java/lang/invoke/MethodHandle" ∧ yL_belowSince.cls ≠ "java/lang/invoke/VarHandle" ∧ (parseMethodDescriptor yL_belowSince.desc).map (fun d => d.parameters.length) = some 3 := ⟨bg6 130 (by decide +kernel), bg6 129 (by decide +kernel), bg1 0 (by decide +kernel), by decide +kernel⟩
set_option maxRecDepth 100000 in
theorem ml_L_112 : Cond.methodLink R_lawN 112 yX10_belowSince ∈ BIG := bg6 131 (by decide +kernel)
set_option maxRecDepth 100000 in
theorem wh_toNextTier : Cond.codeWith yL_toNextTier cL_toNextTier 4 (some FieldType.int) [(0, 9, 12, 34), (0, 9, 15, 28)] ∈ BIG ∧ Cond.static yL_toNextTier ∈ BIG ∧ Cond.initialized yL_toNextTier.cls ∈ BIG ∧ yL_toNextTier.cls ≠ "java/lang/invoke/MethodHandle" ∧ yL_toNextTier.cls ≠ "java/lang/invoke/VarHandle" ∧ (parseMethodDescriptor yL_toNextTier.desc).map (fun d => d.parameters.length) = some 3 := ⟨bg6 141 (by decide +kernel), bg6 140 (by decide +kernel), bg1 0 (by decide +kernel), by decide +kernel⟩
set_option maxRecDepth 100000 in
theorem ml_L_115 : Cond.methodLink R_lawN 115 yX10_toNextTier ∈ BIG := bg6 142 (by decide +kernel)
set_option maxRecDepth 100000 in
theorem wh_tierAfter : Cond.codeWith yL_tierAfter cL_tierAfter 5 (some FieldType.int) [(0, 10, 13, 34), (0, 10, 17, 19)] ∈ BIG ∧ Cond.static yL_tierAfter ∈ BIG ∧ Cond.initialized yL_tierAfter.cls ∈ BIG ∧ yL_tierAfter.cls ≠ "java/lang/invoke/MethodHandle" ∧ yL_tierAfter.cls ≠ "java/lang/invoke/VarHandle" ∧ (parseMethodDescriptor yL_tierAfter.desc).map (fun d => d.parameters.length) = some 4 := ⟨bg6 149 (by decide +kernel), bg6 148 (by decide +kernel), bg1 0 (by decide +kernel), by decide +kernel⟩
set_option maxRecDepth 100000 in
theorem ml_L_118 : Cond.methodLink R_lawN 118 yX10_tierAfter ∈ BIG := bg6 150 (by decide +kernel)
set_option maxRecDepth 100000 in
theorem wh_wouldEarn : Cond.codeWith yL_wouldEarn cL_wouldEarn 6 (some FieldType.int) [(0, 12, 15, 34), (0, 12, 19, 19)] ∈ BIG ∧ Cond.static yL_wouldEarn ∈ BIG ∧ Cond.initialized yL_wouldEarn.cls ∈ BIG ∧ yL_wouldEarn.cls ≠ "java/lang/invoke/MethodHandle" ∧ yL_wouldEarn.cls ≠ "java/lang/invoke/VarHandle" ∧ (parseMethodDescriptor yL_wouldEarn.desc).map (fun d => d.parameters.length) = some 5 := ⟨bg6 160 (by decide +kernel), bg6 159 (by decide +kernel), bg1 0 (by decide +kernel), by decide +kernel⟩
set_option maxRecDepth 100000 in
theorem ml_L_121 : Cond.methodLink R_lawN 121 yX10_wouldEarn ∈ BIG := bg6 161 (by decide +kernel)
set_option maxRecDepth 100000 in
theorem wh_bestCategory : Cond.codeWith yL_bestCategory cL_bestCategory 5 (some FieldType.int) [(0, 10, 13, 34), (0, 10, 17, 19), (0, 10, 21, 28)] ∈ BIG ∧ Cond.static yL_bestCategory ∈ BIG ∧ Cond.initialized yL_bestCategory.cls ∈ BIG ∧ yL_bestCategory.cls ≠ "java/lang/invoke/MethodHandle" ∧ yL_bestCategory.cls ≠ "java/lang/invoke/VarHandle" ∧ (parseMethodDescriptor yL_bestCategory.desc).map (fun d => d.parameters.length) = some 4 := ⟨bg6 168 (by decide +kernel), bg6 167 (by decide +kernel), bg1 0 (by decide +kernel), by decide +kernel⟩
set_option maxRecDepth 100000 in
theorem ml_L_124 : Cond.methodLink R_lawN 124 yX10_bestCategory ∈ BIG := bg6 169 (by decide +kernel)
set_option maxRecDepth 100000 in
theorem wh_leastCents : Cond.codeWith yL_leastCents cL_leastCents 6 (some FieldType.int) [(0, 12, 15, 34), (0, 12, 19, 19), (0, 12, 23, 28)] ∈ BIG ∧ Cond.static yL_leastCents ∈ BIG ∧ Cond.initialized yL_leastCents.cls ∈ BIG ∧ yL_leastCents.cls ≠ "java/lang/invoke/MethodHandle" ∧ yL_leastCents.cls ≠ "java/lang/invoke/VarHandle" ∧ (parseMethodDescriptor yL_leastCents.desc).map (fun d => d.parameters.length) = some 5 := ⟨bg6 180 (by decide +kernel), bg6 179 (by decide +kernel), bg1 0 (by decide +kernel), by decide +kernel⟩
set_option maxRecDepth 100000 in
theorem ml_L_127 : Cond.methodLink R_lawN 127 yX10_leastCents ∈ BIG := bg6 181 (by decide +kernel)
set_option maxRecDepth 100000 in
theorem wh_purchasePart : Cond.codeWith yL_purchasePart cL_purchasePart 5 (some FieldType.int) [(0, 10, 13, 28), (0, 10, 17, 19)] ∈ BIG ∧ Cond.static yL_purchasePart ∈ BIG ∧ Cond.initialized yL_purchasePart.cls ∈ BIG ∧ yL_purchasePart.cls ≠ "java/lang/invoke/MethodHandle" ∧ yL_purchasePart.cls ≠ "java/lang/invoke/VarHandle" ∧ (parseMethodDescriptor yL_purchasePart.desc).map (fun d => d.parameters.length) = some 4 := ⟨bg6 193 (by decide +kernel), bg6 192 (by decide +kernel), bg1 0 (by decide +kernel), by decide +kernel⟩
set_option maxRecDepth 100000 in
theorem ml_L_130 : Cond.methodLink R_lawN 130 yX10_purchasePart ∈ BIG := bg6 194 (by decide +kernel)
set_option maxRecDepth 100000 in
theorem wh_expiringWithin : Cond.codeWith yL_expiringWithin cL_expiringWithin 5 (some FieldType.int) [(0, 10, 13, 34), (0, 10, 17, 19)] ∈ BIG ∧ Cond.static yL_expiringWithin ∈ BIG ∧ Cond.initialized yL_expiringWithin.cls ∈ BIG ∧ yL_expiringWithin.cls ≠ "java/lang/invoke/MethodHandle" ∧ yL_expiringWithin.cls ≠ "java/lang/invoke/VarHandle" ∧ (parseMethodDescriptor yL_expiringWithin.desc).map (fun d => d.parameters.length) = some 4 := ⟨bg6 200 (by decide +kernel), bg6 199 (by decide +kernel), bg1 0 (by decide +kernel), by decide +kernel⟩
set_option maxRecDepth 100000 in
theorem ml_L_133 : Cond.methodLink R_lawN 133 yX10_expiringWithin ∈ BIG := bg6 201 (by decide +kernel)
set_option maxRecDepth 100000 in
theorem wh_nextExpiry : Cond.codeWith yL_nextExpiry cL_nextExpiry 4 (some FieldType.int) [(0, 9, 12, 34), (0, 9, 15, 28)] ∈ BIG ∧ Cond.static yL_nextExpiry ∈ BIG ∧ Cond.initialized yL_nextExpiry.cls ∈ BIG ∧ yL_nextExpiry.cls ≠ "java/lang/invoke/MethodHandle" ∧ yL_nextExpiry.cls ≠ "java/lang/invoke/VarHandle" ∧ (parseMethodDescriptor yL_nextExpiry.desc).map (fun d => d.parameters.length) = some 3 := ⟨bg6 211 (by decide +kernel), bg6 210 (by decide +kernel), bg1 0 (by decide +kernel), by decide +kernel⟩
set_option maxRecDepth 100000 in
theorem ml_L_136 : Cond.methodLink R_lawN 136 yX10_nextExpiry ∈ BIG := bg6 212 (by decide +kernel)
set_option maxRecDepth 100000 in
theorem wh_redeemedWith : Cond.codeWith yL_redeemedWith cL_redeemedWith 4 (some FieldType.int) [(0, 9, 12, 19)] ∈ BIG ∧ Cond.static yL_redeemedWith ∈ BIG ∧ Cond.initialized yL_redeemedWith.cls ∈ BIG ∧ yL_redeemedWith.cls ≠ "java/lang/invoke/MethodHandle" ∧ yL_redeemedWith.cls ≠ "java/lang/invoke/VarHandle" ∧ (parseMethodDescriptor yL_redeemedWith.desc).map (fun d => d.parameters.length) = some 3 := ⟨bg6 223 (by decide +kernel), bg6 222 (by decide +kernel), bg1 0 (by decide +kernel), by decide +kernel⟩
set_option maxRecDepth 100000 in
theorem ml_L_139 : Cond.methodLink R_lawN 139 yX10_redeemedWith ∈ BIG := bg6 224 (by decide +kernel)
set_option maxRecDepth 100000 in
theorem wh_breakage : Cond.codeWith yL_breakage cL_breakage 4 (some FieldType.int) [(0, 9, 12, 34)] ∈ BIG ∧ Cond.static yL_breakage ∈ BIG ∧ Cond.initialized yL_breakage.cls ∈ BIG ∧ yL_breakage.cls ≠ "java/lang/invoke/MethodHandle" ∧ yL_breakage.cls ≠ "java/lang/invoke/VarHandle" ∧ (parseMethodDescriptor yL_breakage.desc).map (fun d => d.parameters.length) = some 3 := ⟨bg6 234 (by decide +kernel), bg6 233 (by decide +kernel), bg1 0 (by decide +kernel), by decide +kernel⟩
set_option maxRecDepth 100000 in
theorem ml_L_142 : Cond.methodLink R_lawN 142 yX10_breakage ∈ BIG := bg6 235 (by decide +kernel)
set_option maxRecDepth 100000 in
theorem wh_poolBreakage : Cond.codeWith yL_poolBreakage cL_poolBreakage 4 (some FieldType.int) [(0, 9, 12, 34)] ∈ BIG ∧ Cond.static yL_poolBreakage ∈ BIG ∧ Cond.initialized yL_poolBreakage.cls ∈ BIG ∧ yL_poolBreakage.cls ≠ "java/lang/invoke/MethodHandle" ∧ yL_poolBreakage.cls ≠ "java/lang/invoke/VarHandle" ∧ (parseMethodDescriptor yL_poolBreakage.desc).map (fun d => d.parameters.length) = some 3 := ⟨bg7 1 (by decide +kernel), bg7 0 (by decide +kernel), bg1 0 (by decide +kernel), by decide +kernel⟩
set_option maxRecDepth 100000 in
theorem ml_L_145 : Cond.methodLink R_lawN 145 yX10_poolBreakage ∈ BIG := bg7 2 (by decide +kernel)
set_option maxRecDepth 100000 in
theorem wh_rankedMember : Cond.codeWith yL_rankedMember cL_rankedMember 4 (some FieldType.int) [(0, 9, 12, 34)] ∈ BIG ∧ Cond.static yL_rankedMember ∈ BIG ∧ Cond.initialized yL_rankedMember.cls ∈ BIG ∧ yL_rankedMember.cls ≠ "java/lang/invoke/MethodHandle" ∧ yL_rankedMember.cls ≠ "java/lang/invoke/VarHandle" ∧ (parseMethodDescriptor yL_rankedMember.desc).map (fun d => d.parameters.length) = some 3 := ⟨bg7 8 (by decide +kernel), bg7 7 (by decide +kernel), bg1 0 (by decide +kernel), by decide +kernel⟩
set_option maxRecDepth 100000 in
theorem ml_L_148 : Cond.methodLink R_lawN 148 yX10_rankedMember ∈ BIG := bg7 9 (by decide +kernel)
set_option maxRecDepth 100000 in
theorem wh_log : Cond.codeWith yL_log cL_log 5 (some FieldType.int) [(0, 10, 13, 34), (0, 10, 17, 19)] ∈ BIG ∧ Cond.static yL_log ∈ BIG ∧ Cond.initialized yL_log.cls ∈ BIG ∧ yL_log.cls ≠ "java/lang/invoke/MethodHandle" ∧ yL_log.cls ≠ "java/lang/invoke/VarHandle" ∧ (parseMethodDescriptor yL_log.desc).map (fun d => d.parameters.length) = some 4 := ⟨bg7 28 (by decide +kernel), bg7 27 (by decide +kernel), bg1 0 (by decide +kernel), by decide +kernel⟩
set_option maxRecDepth 100000 in
theorem ml_L_151 : Cond.methodLink R_lawN 151 yX10_log ∈ BIG := bg7 29 (by decide +kernel)
set_option maxRecDepth 100000 in
theorem wh_undo : Cond.codeWith yL_undo cL_undo 3 (some FieldType.int) [(0, 8, 11, 13)] ∈ BIG ∧ Cond.static yL_undo ∈ BIG ∧ Cond.initialized yL_undo.cls ∈ BIG ∧ yL_undo.cls ≠ "java/lang/invoke/MethodHandle" ∧ yL_undo.cls ≠ "java/lang/invoke/VarHandle" ∧ (parseMethodDescriptor yL_undo.desc).map (fun d => d.parameters.length) = some 2 := ⟨bg7 41 (by decide +kernel), bg7 40 (by decide +kernel), bg1 0 (by decide +kernel), by decide +kernel⟩
set_option maxRecDepth 100000 in
theorem ml_L_154 : Cond.methodLink R_lawN 154 yX10_undo ∈ BIG := bg7 42 (by decide +kernel)
set_option maxRecDepth 100000 in
theorem wh_restore : Cond.codeWith yL_restore cL_restore 3 (some FieldType.int) [(0, 8, 11, 13)] ∈ BIG ∧ Cond.static yL_restore ∈ BIG ∧ Cond.initialized yL_restore.cls ∈ BIG ∧ yL_restore.cls ≠ "java/lang/invoke/MethodHandle" ∧ yL_restore.cls ≠ "java/lang/invoke/VarHandle" ∧ (parseMethodDescriptor yL_restore.desc).map (fun d => d.parameters.length) = some 2 := ⟨bg7 53 (by decide +kernel), bg7 52 (by decide +kernel), bg1 0 (by decide +kernel), by decide +kernel⟩
set_option maxRecDepth 100000 in
theorem ml_L_157 : Cond.methodLink R_lawN 157 yX10_restore ∈ BIG := bg7 54 (by decide +kernel)
