/-- a contract of a method with a table of handlers, that returns -/
def CtH (l : Launch) (D : va_G) (ty : List (ClassId × FieldType)) (pf : Nat → Nat) (y : MethodName) (cc : ByteArray) (maxL : Nat) (ret : Option FieldType) (hh : List (Nat × Nat × Nat × Nat)) (rm : Room) (av : List Value) (W0 : va_W) (Post : Option Value → va_W → Prop) : Prop :=
  ∀ sz, Met l y (.codeWith y cc maxL ret hh :: BIG) rm (jP D ty pf av W0 sz) (jQ D ty W0 sz Post) rm.cells rm.slots (va_A W0 sz)
section J9b
variable {p : Program} {l : Launch} {e : Env} {R : Room} {s : State} {m : MethodId} {args : Array Value} {below : List Frame} {meth : Method} {c : Code} {cc : ByteArray} {nL : Nat} {own : String} {D : va_G} {ty : List (ClassId × FieldType)} {pf : Nat → Nat} {A : Nat → Prop} {Q : State → Prop} {k n : Nat} {pc : Nat} {lv : List (Nat × Value)} {st : List Value} {ws : va_W} {α : Type} {o : α}
theorem CtH_of {y : MethodName} {maxL : Nat} {ret : Option FieldType} {hh : List (Nat × Nat × Nat × Nat)} {rm : Room} {av : List Value} {W0 : va_W} {Post : Option Value → va_W → Prop} {lv0 : List (Nat × Value)} (hy : plainName y.cls = true) (ho : y.cls = own) (hlv : lv_args 0 av = lv0) (hlen : (lg_sl av).length ≤ maxL)
    (body : ∀ (p : Program) (e : Env) (s : State) (m : MethodId) (args : Array Value) (below : List Frame) (meth : Method) (c : Code), jC p s m args meth c cc maxL own D ty pf (va_A W0 s.heap.size) → meth.sig.returnType = ret → c.exceptionTable.toList = tableOf hh → J p l e rm s m args below meth c maxL D (va_A W0 s.heap.size) (MQ below (jQ D ty W0 s.heap.size Post) args s rm.cells rm.slots (va_A W0 s.heap.size)) 0 0 0 lv0 [] W0) : CtH l D ty pf y cc maxL ret hh rm av W0 Post := by
  intro sz
  subst ho
  refine Jvm.Free.MetFree.of_bodyS (code := cc) (maxLocals := maxL) (ret := ret) hy ?_ ?_
  · intro args s m h hn
    obtain ⟨m9, meth, c, hn9, h1, h2, h3, h4, -, h5, h6, -⟩ := Cond.codeWith_spec (atoms_spec (ws := (.codeWith y cc maxL ret hh :: BIG)) h _ List.mem_cons_self)
    cases hn.symm.trans hn9
    exact ⟨meth, c, h1, h2, h3, h4, h5, h6⟩
  · intro p e s m args below meth c s₁ B hml hv _
    have hh0 : s₁.heap = s.heap := by rw [B.state]; rfl
    obtain ⟨rfl, hsz, hP, hK, hD0, hpf⟩ := hv
    subst hsz
    have hts := atoms_spec (ws := (.codeWith y cc maxL ret hh :: BIG)) B.pre
    have hown : s.vm.findClass y.cls = some m.cls := findClass_of_methodNamed B.named
    have hl := lv_entry av (n := maxL) hlen
    rw [hlv] at hl
    have X := body p e s m av.toArray below meth c ⟨B.exec, B.bytes, hml, hown, fun w hw => hts w (List.mem_cons_of_mem _ hw), hK, B.notSynchronized, fun q h => Or.inr h, hpf⟩ B.returns (vx_table (x := y) B (hts _ List.mem_cons_self))
    have Y := X _ hl s.heap [] hP hD0.self va_S.rf
    rw [← lg_entry_eq] at Y
    obtain ⟨t, a1, o, b1, b2, b3⟩ := Y s₁ hh0 (Stand.of_body B)
    exact ⟨t, o, a1, b1, b2, b3⟩
/-- a call of a method that may throw, caught here -/
theorem J_xvH (C : jC p s m args meth c cc nL own D ty pf A) {y : MethodName} {bytes : ByteArray} {maxL : Nat} {ret : Option FieldType} {rm : Room} {na index b o9 : Nat} {As : List Value} {Wc W1 : va_W} {V : Option Value} (d : decode cc pc = .ok (.invokevirtual index, 3)) (w : Cond.methodLink own index y ∈ BIG) (hM : jMv y bytes maxL ret na) (hc : CtX l D ty pf y bytes maxL ret rm (.ref b :: As) Wc (isR o9 V W1) (isE o9 W1)) (Wr : va_W) (hp : ws.Perm (Wc ++ Wr)) {q0 ci : Nat} {fs : List Value} {T : u_T} {N : Nat} (he : Wc[q0]? = some (b, .inr (ci, fs))) (hcl : vwCl[ci]? = some (y.cls, T, N)) (hna : As.length = na) (hR : rm.frames + 1 ≤ R.frames ∧ 8 + (maxL + 11) + rm.locals ≤ R.locals) (hkn : k + rm.cells ≤ R.cells ∧ n + rm.slots ≤ R.slots) (hW : (st.map fun v => v.category).sum ≤ 8)
    (k0 : o9 = 0 → J p l e R s m args below meth c nL D A Q (k + rm.cells) (n + rm.slots) (pc + 3) (lv) (V.toList ++ st) (W1 ++ Wr))
    (kx : ¬ o9 = 0 → ∃ (pre suf : List ExceptionTableEntry) (x : ExceptionTableEntry) (name : String), c.exceptionTable.toList = pre ++ x :: suf ∧ (∀ z ∈ pre, z.catchType ≠ 0 ∧ ∃ nm : String, Cond.classLink own z.catchType nm ∈ BIG ∧ va_Nc (exN o9) nm s) ∧ covers x pc = true ∧ x.catchType ≠ 0 ∧ Cond.classLink own x.catchType name ∈ BIG ∧ va_Nw (.castable (exN o9) name) s ∧ ∀ q, J p l e R s m args below meth c nL D A Q (k + rm.cells) (n + rm.slots) (x.handlerPc) (lv) ([.ref q]) (W1 ++ Wr)) : J p l e R s m args below meth c nL D A Q (k) (n) (pc) (lv) (As.reverse ++ .ref b :: st) (ws) := by
  intro ls hL H locs hP hD hS
  have hPp := hP.perm hp
  have hDp := hD.perm hp
  have hPc : va_P D vwCl Wc H := hPp.left
  have hDc : va_D (fun _ => True) Wc := hDp.left.weaken fun _ _ _ _ => trivial
  have hF : ∀ q, va_A Wc H.size q → A q := wl_free hp hD hS C.2.2.2.2.2.2.2.1
  refine xcall (mc := rm.cells) (ms := rm.slots) (vx_runV ⟨C.1, C.2.1, C.2.2.1, C.2.2.2.1, C.2.2.2.2.1⟩ (hc H.size) ⟨callB_of na C.2.2.2.2.1 (bgGood hM.1.1) rfl rfl rfl (C.2.2.2.2.1 _ hM.1.2.1) (C.2.2.2.2.1 _ w) hM.1.2.2 hR, C.2.2.2.2.1 _ hM.2.1, C.2.2.2.2.1 _ hM.2.2⟩ ⟨jP_blind, va_recv C.2.2.2.2.2.1 hPc hcl he, fun U hU hW => ⟨rfl, by rw [hU], by rw [hU]; exact hPc, va_K.moved hW.alike C.2.2.2.2.2.1, hDc, PF.call C.2.2.2.2.2.2.2.2 hS hF hU hW⟩⟩ rfl hna hL.1 rfl (lv_room hW) d hkn) hS hF (fun v w1 H1 locs1 hp1 hP1 hD1 hz1 hk1 hS1 => ?_) (fun E w1 H1 locs1 q ce hp1 hP1 hD1 hz1 hk1 hS1 hce hcv hcl => ?_)
  · obtain ⟨h0, rfl, rfl⟩ := hp1
    obtain ⟨hP2, hD2⟩ := wl_join hPp hDp hk1 hP1 hD1
    exact k0 h0 ls hL H1 locs1 hP2 (hD2.weaken fun k q _ hA => (va_A_mem.mp hA).elim (fun ⟨e, h⟩ => (va_D_iff.mp hDp).2 (q.1, e) h) (fun h => C.2.2.2.2.2.2.2.1 _ (Nat.le_trans hS.1 h))) hS1
  · obtain ⟨h0, rfl, rfl⟩ := hp1
    obtain ⟨pre, suf, x, name, h1, h2, h3, h4, h5, h6, h7⟩ := kx h0
    obtain ⟨hP2, hD2⟩ := wl_join hPp hDp hk1 hP1 hD1
    exact vx_catch C.2.2.2.1 pre x suf h1 (fun z hz => Or.inr ⟨(h2 z hz).1, (h2 z hz).2.choose, C.2.2.2.2.1 _ (h2 z hz).2.choose_spec.1, (h2 z hz).2.choose_spec.2⟩) h3 h4 (C.2.2.2.2.1 _ h5) (h6.use rfl) hce hcv hcl
      (h7 q ls hL H1 locs1 hP2 (hD2.weaken fun k q _ hA => (va_A_mem.mp hA).elim (fun ⟨e, h⟩ => (va_D_iff.mp hDp).2 (q.1, e) h) (fun h => C.2.2.2.2.2.2.2.1 _ (Nat.le_trans hS.1 h))) hS1)
/-- a static call of a method with a table -/
theorem J_csH (C : jC p s m args meth c cc nL own D ty pf A) {y : MethodName} {bytes : ByteArray} {maxL : Nat} {ret : Option FieldType} {hh : List (Nat × Nat × Nat × Nat)} {rm : Room} {na index : Nat} {As : List Value} {Wc : va_W} {Post : Option Value → va_W → Prop} (d : decode cc pc = .ok (.invokestatic index, 3)) (w : Cond.methodLink own index y ∈ BIG) (hM : Cond.codeWith y bytes maxL ret hh ∈ BIG ∧ Cond.static y ∈ BIG ∧ Cond.initialized y.cls ∈ BIG ∧ y.cls ≠ "java/lang/invoke/MethodHandle" ∧ y.cls ≠ "java/lang/invoke/VarHandle" ∧ (parseMethodDescriptor y.desc).map (fun d => d.parameters.length) = some na) (hc : CtH l D ty pf y bytes maxL ret hh rm As Wc Post) (Wr : va_W) (hp : ws.Perm (Wc ++ Wr)) (hna : As.length = na) (hR : rm.frames + 1 ≤ R.frames ∧ 8 + (maxL + 11) + rm.locals ≤ R.locals) (hkn : k + rm.cells ≤ R.cells ∧ n + rm.slots ≤ R.slots) (hW : (st.map fun v => v.category).sum ≤ 8) (kk : ∀ v w1, Post v w1 → J p l e R s m args below meth c nL D A Q (k + rm.cells) (n + rm.slots) (pc + 3) (lv) (v.toList ++ st) (w1 ++ Wr)) : J p l e R s m args below meth c nL D A Q (k) (n) (pc) (lv) (As.reverse ++ st) (ws) := by
  intro ls hL H locs hP hD hS
  have hPp := hP.perm hp
  have hDp := hD.perm hp
  have hPc : va_P D vwCl Wc H := hPp.left
  have hDc : va_D (fun _ => True) Wc := hDp.left.weaken fun _ _ _ _ => trivial
  have hF : ∀ q, va_A Wc H.size q → A q := wl_free hp hD hS C.2.2.2.2.2.2.2.1
  have hG : GoodIn BIG (.codeWith y bytes maxL ret hh :: BIG) := fun w hw => (List.mem_cons.mp hw).elim (fun h => ⟨h ▸ hM.1, good_of_word (by have := (List.mem_filter.mp hM.1).2; rw [h]; exact this)⟩) (fun h => ⟨h, good_of_word (List.mem_filter.mp h).2⟩)
  refine jcall (mc := rm.cells) (ms := rm.slots) (vx_runSW ⟨C.1, C.2.1, C.2.2.1, C.2.2.2.1, C.2.2.2.2.1⟩ (hc H.size) ⟨⟨rfl, rfl, hR.1, hR.2, pay_in C.2.2.2.2.1 hG, List.mem_cons_self⟩, C.2.2.2.2.1 _ hM.1, C.2.2.2.2.1 _ hM.2.2.1, ⟨hM.2.2.2.1, hM.2.2.2.2.1⟩, (fun sig h => by have h2 := hM.2.2.2.2.2; rw [h] at h2; exact (Option.some.inj h2).symm), C.2.2.2.2.1 _ w, C.2.2.2.2.1 _ hM.2.1⟩ ⟨jP_blind, fun U hU hW => ⟨rfl, by rw [hU], by rw [hU]; exact hPc, va_K.moved hW.alike C.2.2.2.2.2.1, hDc, PF.call C.2.2.2.2.2.2.2.2 hS hF hU hW⟩⟩ rfl hna hL.1 rfl (lv_room hW) d hkn) hS hF (fun v w1 H1 locs1 hp1 hP1 hD1 hz1 hk1 hS1 => ?_)
  obtain ⟨hP2, hD2⟩ := wl_join hPp hDp hk1 hP1 hD1
  exact kk v w1 hp1 ls hL H1 locs1 hP2 (hD2.weaken fun k q _ hA => (va_A_mem.mp hA).elim (fun ⟨e, h⟩ => (va_D_iff.mp hDp).2 (q.1, e) h) (fun h => C.2.2.2.2.2.2.2.1 _ (Nat.le_trans hS.1 h))) hS1
end J9b
theorem perm_out (x : Nat × va_E) (w : va_W) : (List.flatten [w, [x]]).Perm ([x] ++ w) := by
  rw [List.flatten_cons, List.flatten_cons, List.flatten_nil, List.append_nil]
  exact List.perm_append_comm
theorem nc_of {pf : Nat → Nat} {A : Nat → Prop} {U : State} {H : Heap} (h : PF pf A U H) {a b : String} (hm : (a, b) ∈ pf_nc) : va_Nc a b U := h.2.2.2.2.2.2.2.2.2.1 _ hm
theorem ca_of {pf : Nat → Nat} {A : Nat → Prop} {U : State} {H : Heap} (h : PF pf A U H) {a : String} (hm : a ∈ pf_cast) : va_Nw (.castable a a) U := h.2.2.2.2.2.2.2.2.1 _ hm
set_option maxRecDepth 100000 in
theorem cl_L_14 : Cond.classLink RL 14 "java/lang/IllegalStateException" ∈ BIG := bg5 128 (by decide +kernel)
set_option maxRecDepth 100000 in
theorem cl_L_39 : Cond.classLink RL 39 "java/lang/IllegalArgumentException" ∈ BIG := bg5 144 (by decide +kernel)
set_option maxRecDepth 100000 in
theorem cl_L_135 : Cond.classLink RL 135 "java/util/NoSuchElementException" ∈ BIG := bg6 205 (by decide +kernel)
set_option maxRecDepth 100000 in
theorem wh_appended : Cond.codeWith yL_appended cL_appended 7 (some FieldType.int) [(0, 11, 12, 14)] ∈ BIG ∧ Cond.static yL_appended ∈ BIG ∧ Cond.initialized yL_appended.cls ∈ BIG ∧ yL_appended.cls ≠ "java/lang/invoke/MethodHandle" ∧ yL_appended.cls ≠ "java/lang/invoke/VarHandle" ∧ (parseMethodDescriptor yL_appended.desc).map (fun d => d.parameters.length) = some 6 := ⟨bg5 127 (by decide +kernel), bg5 126 (by decide +kernel), ini_RL, by decide +kernel⟩
set_option maxRecDepth 100000 in
theorem wh_loaded : Cond.codeWith yL_loaded cL_loaded 2 (some FieldType.int) [(0, 4, 5, 39)] ∈ BIG ∧ Cond.static yL_loaded ∈ BIG ∧ Cond.initialized yL_loaded.cls ∈ BIG ∧ yL_loaded.cls ≠ "java/lang/invoke/MethodHandle" ∧ yL_loaded.cls ≠ "java/lang/invoke/VarHandle" ∧ (parseMethodDescriptor yL_loaded.desc).map (fun d => d.parameters.length) = some 1 := ⟨bg5 143 (by decide +kernel), bg5 142 (by decide +kernel), ini_RL, by decide +kernel⟩
set_option maxRecDepth 100000 in
theorem wh_refunded : Cond.codeWith yL_refunded cL_refunded 3 (some FieldType.int) [(0, 5, 6, 135), (0, 5, 9, 14)] ∈ BIG ∧ Cond.static yL_refunded ∈ BIG ∧ Cond.initialized yL_refunded.cls ∈ BIG ∧ yL_refunded.cls ≠ "java/lang/invoke/MethodHandle" ∧ yL_refunded.cls ≠ "java/lang/invoke/VarHandle" ∧ (parseMethodDescriptor yL_refunded.desc).map (fun d => d.parameters.length) = some 2 := ⟨bg6 204 (by decide +kernel), bg6 203 (by decide +kernel), ini_RL, by decide +kernel⟩
set_option maxRecDepth 100000 in
theorem wh_redeemed : Cond.codeWith yL_redeemed cL_redeemed 4 (some FieldType.int) [(0, 6, 7, 39), (0, 6, 10, 14)] ∈ BIG ∧ Cond.static yL_redeemed ∈ BIG ∧ Cond.initialized yL_redeemed.cls ∈ BIG ∧ yL_redeemed.cls ≠ "java/lang/invoke/MethodHandle" ∧ yL_redeemed.cls ≠ "java/lang/invoke/VarHandle" ∧ (parseMethodDescriptor yL_redeemed.desc).map (fun d => d.parameters.length) = some 3 := ⟨bg6 235 (by decide +kernel), bg6 234 (by decide +kernel), ini_RL, by decide +kernel⟩
set_option maxRecDepth 100000 in
theorem wh_transferred : Cond.codeWith yL_transferred cL_transferred 5 (some FieldType.int) [(0, 7, 8, 39), (0, 7, 12, 14)] ∈ BIG ∧ Cond.static yL_transferred ∈ BIG ∧ Cond.initialized yL_transferred.cls ∈ BIG ∧ yL_transferred.cls ≠ "java/lang/invoke/MethodHandle" ∧ yL_transferred.cls ≠ "java/lang/invoke/VarHandle" ∧ (parseMethodDescriptor yL_transferred.desc).map (fun d => d.parameters.length) = some 4 := ⟨bg7 29 (by decide +kernel), bg7 28 (by decide +kernel), ini_RL, by decide +kernel⟩
set_option maxRecDepth 100000 in
theorem wh_joined : Cond.codeWith yL_joined cL_joined 3 (some FieldType.int) [(0, 6, 7, 14)] ∈ BIG ∧ Cond.static yL_joined ∈ BIG ∧ Cond.initialized yL_joined.cls ∈ BIG ∧ yL_joined.cls ≠ "java/lang/invoke/MethodHandle" ∧ yL_joined.cls ≠ "java/lang/invoke/VarHandle" ∧ (parseMethodDescriptor yL_joined.desc).map (fun d => d.parameters.length) = some 2 := ⟨bg7 42 (by decide +kernel), bg7 41 (by decide +kernel), ini_RL, by decide +kernel⟩
set_option maxRecDepth 100000 in
theorem wh_left : Cond.codeWith yL_left cL_left 3 (some FieldType.int) [(0, 5, 6, 14)] ∈ BIG ∧ Cond.static yL_left ∈ BIG ∧ Cond.initialized yL_left.cls ∈ BIG ∧ yL_left.cls ≠ "java/lang/invoke/MethodHandle" ∧ yL_left.cls ≠ "java/lang/invoke/VarHandle" ∧ (parseMethodDescriptor yL_left.desc).map (fun d => d.parameters.length) = some 2 := ⟨bg7 66 (by decide +kernel), bg7 65 (by decide +kernel), ini_RL, by decide +kernel⟩
/-- a contract over no world, over a world -/
theorem Ct_nil {l : Launch} {D : va_G} {ty : List (ClassId × FieldType)} {pf : Nat → Nat} {y : MethodName} {cc : ByteArray} {maxL : Nat} {ret : Option FieldType} {rm : Room} {av : List Value} {V : Option Value} {ws : va_W} (h : Ct l D ty pf y cc maxL ret rm av [] (is1 V [])) : Ct l D ty pf y cc maxL ret rm av ws (is1 V ws) :=
  Ct_sub h (Wr := ws) (by rw [List.nil_append]) (by
    rintro v w ⟨rfl, rfl⟩
    exact ⟨_, ⟨rfl, rfl⟩, by rw [List.nil_append]⟩)
section JL1
variable {p : Program} {l : Launch} {e : Env} {R : Room} {s : State} {m : MethodId} {args : Array Value} {below : List Frame} {meth : Method} {c : Code} {cc : ByteArray} {nL : Nat} {own : String} {D : va_G} {ty : List (ClassId × FieldType)} {pf : Nat → Nat} {A : Nat → Prop} {Q : State → Prop} {k n : Nat} {pc : Nat} {lv : List (Nat × Value)} {st : List Value} {ws : va_W} {α : Type} {o : α}
theorem J_lret {W0 : va_W} {sz : Nat} {Post : Option Value → va_W → Prop} (C : jC p s m args meth c cc nL own D ty pf (va_A W0 sz)) (d : decode cc pc = .ok (.lreturn, 1)) (hr : meth.sig.returnType = some .long) {v : Int64} (hp : Post (some (.long v)) ws) : J p l e R s m args below meth c nL D (va_A W0 sz) (MQ below (jQ D ty W0 sz Post) args s k n (va_A W0 sz)) k n pc lv [.long v] ws := fun ls hL H locs hP hD hS =>
  W.lret C.1 C.2.1 hr (fun t ht hW => ⟨⟨_, _, rfl, hp, by rw [ht]; exact hP, va_K.moved hW.alike C.2.2.2.2.2.1, hD⟩, hS.F ht⟩) hS.2.2 d C.2.2.2.2.2.2.1
theorem J_cvP (C : jC p s m args meth c cc nL own D ty pf A) {y : MethodName} {bytes : ByteArray} {maxL : Nat} {ret : Option FieldType} {rm : Room} {na index : Nat} {b : Nat} {As : List Value} {fx : Option (Nat × Int32 × T_PL)} {K : Nat × Int32 × T_PL → Option α} (W2 : T_PL → va_W) (d : decode cc pc = .ok (.invokevirtual index, 3)) (w : Cond.methodLink own index y ∈ BIG) (hM : jMv y bytes maxL ret na) (hc : ∀ (a : Int32) (s2 : T_PL), fx = some (0, a, s2) → Ct l D ty pf y bytes maxL ret rm (.ref b :: As) ws (is1 (some (.int a)) (W2 s2))) (h : (fx.bind fun r => if ¬ r.1 = 0 then none else K r) = some o) {q0 ci : Nat} {fs : List Value} {T : u_T} {N : Nat} (he : ws[q0]? = some (b, .inr (ci, fs))) (hcl : vwCl[ci]? = some (y.cls, T, N)) (hna : As.length = na) (hz : rm.cells = 0 ∧ rm.slots = 0) (hR : rm.frames + 1 ≤ R.frames ∧ 8 + (maxL + 11) + rm.locals ≤ R.locals) (hkn : k ≤ R.cells ∧ n ≤ R.slots) (hW : (st.map fun v => v.category).sum ≤ 8) (kk : ∀ r, K r = some o → J p l e R s m args below meth c nL D A Q (k) (n) (pc + 3) (lv) (.int r.2.1 :: st) (W2 r.2.2)) : J p l e R s m args below meth c nL D A Q (k) (n) (pc) (lv) (As.reverse ++ .ref b :: st) (ws) := by
  obtain ⟨r, h1, h2⟩ := Option.bind_eq_some_iff.mp h
  by_cases h0 : r.1 = 0
  · rw [if_neg (fun z => z h0)] at h2
    obtain ⟨r0, a, s2⟩ := r
    have h0 : r0 = 0 := h0
    subst h0
    exact J_cvK (V := some (.int a)) C (W2 s2) d w hM (hc a s2 h1) he hcl hna hz hR hkn hW (kk _ h2)
  · rw [if_pos h0] at h2; cases h2
end JL1
/-- a cell of the script, 0 behind its end -/
def f_cell (pf : Nat → Nat) (x : Int32) : Option Int32 := if nI (pf 93) ≤ x then some 0 else (if x < 0 ∨ pf 93 ≤ x.toNatClampNeg then none else some (nI (pf (1000 + x.toNatClampNeg))))
theorem J_sld {p : Program} {l : Launch} {e : Env} {R : Room} {s : State} {m : MethodId} {args : Array Value} {below : List Frame} {meth : Method} {c : Code} {cc : ByteArray} {nL : Nat} {own : String} {D : va_G} {ty : List (ClassId × FieldType)} {pf : Nat → Nat} {A : Nat → Prop} {Q : State → Prop} {k n : Nat} {pc : Nat} {lv : List (Nat × Value)} {st : List Value} {ws : va_W} (C : jC p s m args meth c cc nL own D ty pf A) {b L : Nat} {xs : Nat → Int32} (hX : va_X b L xs s s.heap) (hbl : b < s.heap.size) (hbA : ¬ A b) {i : Int32} (d : decode cc pc = .ok (.iaload, 1)) (hin : vp_in i L) (kk : J p l e R s m args below meth c nL D A Q k n (pc + 1) lv (.int (xs i.toNatClampNeg) :: st) ws) : J p l e R s m args below meth c nL D A Q k n pc lv (.int i :: .ref b :: st) ws := fun ls hL H locs hP hD hS => va_sld C.1 C.2.1 hX hbl hbA hS hin d (kk ls hL H locs hP hD hS)
theorem J_slenX {p : Program} {l : Launch} {e : Env} {R : Room} {s : State} {m : MethodId} {args : Array Value} {below : List Frame} {meth : Method} {c : Code} {cc : ByteArray} {nL : Nat} {own : String} {D : va_G} {ty : List (ClassId × FieldType)} {pf : Nat → Nat} {A : Nat → Prop} {Q : State → Prop} {k n : Nat} {pc : Nat} {lv : List (Nat × Value)} {st : List Value} {ws : va_W} (C : jC p s m args meth c cc nL own D ty pf A) {b L : Nat} {xs : Nat → Int32} (hX : va_X b L xs s s.heap) (hbl : b < s.heap.size) (hbA : ¬ A b) (d : decode cc pc = .ok (.arraylength, 1)) (kk : J p l e R s m args below meth c nL D A Q k n (pc + 1) lv (.int (Int32.ofNat L) :: st) ws) : J p l e R s m args below meth c nL D A Q k n pc lv (.ref b :: st) ws := fun ls hL H locs hP hD hS => va_slen C.1 C.2.1 hX hbl hbA hS d (kk ls hL H locs hP hD hS)
theorem dL_cell_0 : decode cL_cell 0 = .ok (.iload_n 1, 1) := by decide +kernel
theorem dL_cell_1 : decode cL_cell 1 = .ok (.aload_n 0, 1) := by decide +kernel
theorem dL_cell_2 : decode cL_cell 2 = .ok (.arraylength, 1) := by decide +kernel
theorem dL_cell_3 : decode cL_cell 3 = .ok (.if_icmp .ge 9, 3) := by decide +kernel
theorem dL_cell_6 : decode cL_cell 6 = .ok (.aload_n 0, 1) := by decide +kernel
theorem dL_cell_7 : decode cL_cell 7 = .ok (.iload_n 1, 1) := by decide +kernel
theorem dL_cell_8 : decode cL_cell 8 = .ok (.iaload, 1) := by decide +kernel
theorem dL_cell_9 : decode cL_cell 9 = .ok (.goto 4, 3) := by decide +kernel
theorem dL_cell_12 : decode cL_cell 12 = .ok (.iconst 0, 1) := by decide +kernel
theorem dL_cell_13 : decode cL_cell 13 = .ok (.ireturn, 1) := by decide +kernel
set_option maxRecDepth 100000 in
theorem c_cell (l : Launch) (D : va_G) (cI cB cL cO : ClassId) (pf : Nat → Nat) (x1 : Int32) (o : Int32) (h : f_cell pf x1 = some o) : Ct l D [(cI, .int), (cB, .byte), (cL, .byte), (cO, .object RX0)] pf yL_cell cL_cell 2 (some FieldType.int) { frames := 0, cells := 0, slots := 0, locals := 0 } [.ref (pf 92), .int x1] [] (is1 (some (.int o)) []) := by
  refine Ct_of (own := RL) (lv0 := [(0, .ref (pf 92)), (1, .int x1)]) (by decide) rfl rfl (Nat.le_of_ble_eq_true rfl) ?_
  intro p e s m args below meth c C hr hnm
  unfold f_cell at h
  have hX := C.2.2.2.2.2.2.2.2.2.2.2.1
  have hb : pf 92 < s.heap.size := by
    obtain ⟨scr, h1, -⟩ := hX.2.2.2.2.2.1
    exact (Array.getElem?_eq_some_iff.mp h1).1
  refine J_iload_n (pc := 0) C dL_cell_0 1 rfl ?_
  refine J_aload_n (pc := 1) C dL_cell_1 0 rfl ?_
  refine J_slenX C hX.2.2.2.2.2.1 hb hX.2.2.2.2.2.2 (pc := 2) dL_cell_2 ?_
  refine J_ic_ge (pc := 3) (tgt := 12) C dL_cell_3 (by decide) h (fun h => ?_) (fun h => ?_)
  · refine J_iconst (v := (0 : Int32)) (pc := 12) C dL_cell_12 (by decide) ?_
    cases h
    exact J_iret (pc := 13) C dL_cell_13 hr ⟨rfl, rfl⟩
  · refine J_aload_n (pc := 6) C dL_cell_6 0 rfl ?_
    refine J_iload_n (pc := 7) C dL_cell_7 1 rfl ?_
    by_cases hg : x1 < 0 ∨ pf 93 ≤ x1.toNatClampNeg
    · rw [if_pos hg] at h; cases h
    · rw [if_neg hg] at h
      refine J_sld C hX.2.2.2.2.2.1 hb hX.2.2.2.2.2.2 (pc := 8) dL_cell_8 hg ?_
      refine J_goto (tgt := 13) (pc := 9) C dL_cell_9 (by decide) ?_
      cases h
      exact J_iret (pc := 13) C dL_cell_13 hr ⟨rfl, rfl⟩
