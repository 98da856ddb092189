def exN (k : Nat) : String := if k = 1 then "java/lang/IllegalStateException" else if k = 2 then "java/lang/IllegalArgumentException" else if k = 3 then "java/util/NoSuchElementException" else "java/lang/IndexOutOfBoundsException"
def jX (D : va_G) (W0 : va_W) (sz : Nat) (PX : String → va_W → Prop) : String → State → State → Prop := fun E st t => (∃ w1, PX E w1 ∧ va_P D vwCl w1 t.heap ∧ va_D (va_A W0 sz) w1) ∧ va_F (va_A W0 sz) st t
/-- a contract of a method that returns or throws -/
def CtX (l : Launch) (D : va_G) (ty : List (ClassId × FieldType)) (pf : Nat → Nat) (y : MethodName) (cc : ByteArray) (maxL : Nat) (ret : Option FieldType) (rm : Room) (av : List Value) (W0 : va_W) (Post : Option Value → va_W → Prop) (PX : String → va_W → Prop) : Prop :=
  ∀ sz, vx_Met l y (.code y cc maxL ret :: BIG) rm (jP D ty pf av W0 sz) (jQ D ty W0 sz Post) (jX D W0 sz PX) rm.cells rm.slots (va_A W0 sz)
/-- the answer's code: 0 a value, else the exception's number -/
def isR (k : Nat) (V : Option Value) (W1 : va_W) : Option Value → va_W → Prop := fun v w => k = 0 ∧ v = V ∧ w = W1
def isE (k : Nat) (W1 : va_W) : String → va_W → Prop := fun E w => ¬ k = 0 ∧ E = exN k ∧ w = W1
def exB (cls : String) : List Cond := [.castable cls cls, .declares ⟨"java/lang/RuntimeException", "<init>", "(Ljava/lang/String;)V"⟩, .declares ⟨"java/lang/Exception", "<init>", "(Ljava/lang/String;)V"⟩, .declares ⟨"java/lang/Throwable", "<init>", "(Ljava/lang/String;)V"⟩]
def exNm : List String := ["java/lang/RuntimeException", "java/lang/Exception"]

def nseB : ByteArray := ⟨#[0x2a, 0x2b, 0xb7, 0x00, 0x0d, 0xb1]⟩
theorem nseD : decode nseB 0 = .ok (.aload_n 0, 1) ∧ decode nseB 1 = .ok (.aload_n 1, 1) ∧ decode nseB 2 = .ok (.invokespecial 13, 3) ∧ decode nseB 5 = .ok (.return_, 1) := by decide +kernel
set_option maxRecDepth 100000 in
theorem ex_big3 : (∀ w ∈ (vx_atI RX10 115 "java/util/NoSuchElementException" 13 nseB "java/lang/RuntimeException" ["java/lang/Exception"]).filter goodWord, w ∈ BIG) ∧ (∀ w ∈ (vx_atI RX10 115 "java/util/NoSuchElementException" 13 nseB "java/lang/RuntimeException" ["java/lang/Exception"]).filter (fun w => !goodWord w), w ∈ exB "java/util/NoSuchElementException") := by decide +kernel
set_option maxRecDepth 100000 in
theorem ex_good3 : ∀ w ∈ Cond.classLink RX10 111 "java/util/NoSuchElementException" :: Cond.initialized "java/util/NoSuchElementException" :: vx_atI RX10 115 "java/util/NoSuchElementException" 13 nseB "java/lang/RuntimeException" ["java/lang/Exception"], vx_ot w = true := by decide +kernel
set_option maxRecDepth 100000 in
theorem ex_w3 : Cond.classLink RX10 111 "java/util/NoSuchElementException" ∈ BIG ∧ Cond.initialized "java/util/NoSuchElementException" ∈ BIG := by decide +kernel
set_option maxRecDepth 100000 in
theorem ex_big1 : (∀ w ∈ (vx_atS RX10 70 "java/lang/IllegalStateException" exNm).filter goodWord, w ∈ BIG) ∧ (∀ w ∈ (vx_atS RX10 70 "java/lang/IllegalStateException" exNm).filter (fun w => !goodWord w), w ∈ exB "java/lang/IllegalStateException") := by decide +kernel
set_option maxRecDepth 100000 in
theorem ex_good1 : ∀ w ∈ Cond.classLink RX10 66 "java/lang/IllegalStateException" :: Cond.initialized "java/lang/IllegalStateException" :: vx_atS RX10 70 "java/lang/IllegalStateException" exNm, vx_ot w = true := by decide +kernel
set_option maxRecDepth 100000 in
theorem ex_w1 : Cond.classLink RX10 66 "java/lang/IllegalStateException" ∈ BIG ∧ Cond.initialized "java/lang/IllegalStateException" ∈ BIG := by decide +kernel
set_option maxRecDepth 100000 in
theorem ex_big2 : (∀ w ∈ (vx_atS RX10 91 "java/lang/IllegalArgumentException" exNm).filter goodWord, w ∈ BIG) ∧ (∀ w ∈ (vx_atS RX10 91 "java/lang/IllegalArgumentException" exNm).filter (fun w => !goodWord w), w ∈ exB "java/lang/IllegalArgumentException") := by decide +kernel
set_option maxRecDepth 100000 in
theorem ex_good2 : ∀ w ∈ Cond.classLink RX10 87 "java/lang/IllegalArgumentException" :: Cond.initialized "java/lang/IllegalArgumentException" :: vx_atS RX10 91 "java/lang/IllegalArgumentException" exNm, vx_ot w = true := by decide +kernel
set_option maxRecDepth 100000 in
theorem ex_w2 : Cond.classLink RX10 87 "java/lang/IllegalArgumentException" ∈ BIG ∧ Cond.initialized "java/lang/IllegalArgumentException" ∈ BIG := by decide +kernel
set_option maxRecDepth 100000 in
theorem ex_big4 : (∀ w ∈ (vx_atS RX10 219 "java/lang/IndexOutOfBoundsException" exNm).filter goodWord, w ∈ BIG) ∧ (∀ w ∈ (vx_atS RX10 219 "java/lang/IndexOutOfBoundsException" exNm).filter (fun w => !goodWord w), w ∈ exB "java/lang/IndexOutOfBoundsException") := by decide +kernel
set_option maxRecDepth 100000 in
theorem ex_good4 : ∀ w ∈ Cond.classLink RX10 215 "java/lang/IndexOutOfBoundsException" :: Cond.initialized "java/lang/IndexOutOfBoundsException" :: vx_atS RX10 219 "java/lang/IndexOutOfBoundsException" exNm, vx_ot w = true := by decide +kernel
set_option maxRecDepth 100000 in
theorem ex_w4 : Cond.classLink RX10 215 "java/lang/IndexOutOfBoundsException" ∈ BIG ∧ Cond.initialized "java/lang/IndexOutOfBoundsException" ∈ BIG := by decide +kernel
section JX
variable {p : Program} {l : Launch} {e : Env} {R : Room} {s : State} {m : MethodId} {args : Array Value} {below : List Frame} {meth : Method} {c : Code} {cc : ByteArray} {nL : Nat} {own : String} {D : va_G} {ty : List (ClassId × FieldType)} {pf : Nat → Nat} {A : Nat → Prop} {Q : State → Prop} {k n : Nat} {pc : Nat} {lv : List (Nat × Value)} {st : List Value} {ws : va_W} {α : Type} {o : α}
theorem CtX_of {y : MethodName} {maxL : Nat} {ret : Option FieldType} {rm : Room} {av : List Value} {W0 : va_W} {Post : Option Value → va_W → Prop} {PX : String → va_W → Prop} {lv0 : List (Nat × Value)} (hy : plainName y.cls = true) (ho : y.cls = own) (hlv : lv_args 0 av = lv0) (hlen : (lg_sl av).length ≤ maxL)
    (body : ∀ (p : Program) (e : Env) (s : State) (m : MethodId) (args : Array Value) (below : List Frame) (meth : Method) (c : Code), jC p s m args meth c cc maxL own D ty pf (va_A W0 s.heap.size) → meth.sig.returnType = ret → (∀ x ∈ c.exceptionTable.toList, False) → J p l e rm s m args below meth c maxL D (va_A W0 s.heap.size) (vx_MQ below (jQ D ty W0 s.heap.size Post) (jX D W0 s.heap.size PX) args s rm.cells rm.slots (va_A W0 s.heap.size)) 0 0 0 lv0 [] W0) : CtX l D ty pf y cc maxL ret rm av W0 Post PX := by
  intro sz
  subst ho
  refine vx_ofW (cc := cc) (maxL := maxL) (ret := ret) hy rfl ?_
  intro p e s m args below meth c s₁ B hml ht hv
  obtain ⟨rfl, hsz, hP, hK, hD0, hpf⟩ := hv
  subst hsz
  have hts := atoms_spec (ws := (.code y cc maxL ret :: BIG)) B.pre
  have hown : s.vm.findClass y.cls = some m.cls := findClass_of_methodNamed B.named
  have hl := lv_entry av (n := maxL) hlen
  rw [hlv] at hl
  have X := body p e s m av.toArray below meth c ⟨B.exec, B.bytes, hml, hown, fun w hw => hts w (List.mem_cons_of_mem _ hw), hK, B.notSynchronized, fun q h => Or.inr h, hpf⟩ B.returns ht
  rw [lg_entry_eq]
  exact X _ hl s.heap [] hP hD0.self va_S.rf
theorem J_x {Qc : Array Value → State → Outcome → State → Prop} {XC : String → State → State → Prop} {mc ms : Nat} {fr : Nat → Prop} (kk : J p l e R s m args below meth c nL D A (MQ below Qc args s mc ms fr) k n pc lv st ws) : J p l e R s m args below meth c nL D A (vx_MQ below Qc XC args s mc ms fr) k n pc lv st ws := fun ls hL H locs hP hD hS => vx_ret (kk ls hL H locs hP hD hS)
theorem xcall {H : Heap} {locs : List Loc} {mc ms : Nat} {ls : Array Slot} {st0 rest : List Value} {a : Array Value} {Wc : va_W} {Post : Option Value → va_W → Prop} {PX : String → va_W → Prop} (hr : vx_Run p l e R s m args below meth c H locs k n mc ms (F0 m pc ls st0) rest (jQ D ty Wc H.size Post a) (jX D Wc H.size PX) (va_A Wc H.size)) (hS : va_S A s.heap H locs) (hF : ∀ q, va_A Wc H.size q → A q)
    (kk : ∀ (v : Option Value) (w1 : va_W) (H1 : Heap) (locs1 : List Loc), Post v w1 → va_P D vwCl w1 H1 → va_D (va_A Wc H.size) w1 → H.size ≤ H1.size → (∀ q : Nat, q < H.size → ¬ va_A Wc H.size q → H1[q]? = H[q]?) → va_S A s.heap H1 locs1 → W p l e R s m args below meth c H1 locs1 (k + mc) (n + ms) Q (F0 m (pc + 3) ls (v.toList ++ rest)))
    (kx : ∀ (E : String) (w1 : va_W) (H1 : Heap) (locs1 : List Loc) (q : Addr) (ce : Cell), PX E w1 → va_P D vwCl w1 H1 → va_D (va_A Wc H.size) w1 → H.size ≤ H1.size → (∀ q : Nat, q < H.size → ¬ va_A Wc H.size q → H1[q]? = H[q]?) → va_S A s.heap H1 locs1 → H1[q]? = some ce → ce.vm = .none → s.vm.findClass E = some ce.cls → vx_W p l e R s m args below meth c H1 locs1 (k + mc) (n + ms) Q (F0 m pc ls rest) q) : W p l e R s m args below meth c H locs k n Q (F0 m pc ls st0) := by
  intro T hT X
  rcases hr T hT X with ⟨v, st₀, t, T', L, h0, X', hL, e1, e2, ⟨⟨v2, w1, hv, hp, hP1, hK1, hD1⟩, hz, hk⟩, stp⟩ | ⟨q, st₀, t, T', L, E, ce, h0, X', hL, e1, e2, ⟨⟨w1, hp, hP1, hD1⟩, hz, hk⟩, hce, hcv, hcl, stp⟩
  · cases hv
    rw [h0] at hz hk
    obtain ⟨t2, a1, b1⟩ := kk v w1 T'.heap (locs ++ L) hp (by rw [e1]; exact hP1) hD1 (by rw [e1]; exact hz) (fun q h1 h2 => by rw [e1]; exact hk q h1 h2)
      ⟨Nat.le_trans hS.1 (by rw [e1]; exact hz), fun q h1 h2 => by rw [e1, hk q (Nat.lt_of_lt_of_le h1 hS.1) (fun z => h2 (hF q z))]; exact hS.2.1 q h1 h2, fun q hq => by
        rcases List.mem_append.mp hq with h | h
        · exact hS.2.2 q h
        · exact hF _ (hL q h)⟩ T' rfl X'
    exact ⟨t2, stp t2 a1, b1⟩
  · rw [h0] at hz hk
    obtain ⟨t2, a1, b1⟩ := kx E w1 T'.heap (locs ++ L) q ce hp (by rw [e1]; exact hP1) hD1 (by rw [e1]; exact hz) (fun q h1 h2 => by rw [e1]; exact hk q h1 h2)
      ⟨Nat.le_trans hS.1 (by rw [e1]; exact hz), fun q h1 h2 => by rw [e1, hk q (Nat.lt_of_lt_of_le h1 hS.1) (fun z => h2 (hF q z))]; exact hS.2.1 q h1 h2, fun q hq => by
        rcases List.mem_append.mp hq with h | h
        · exact hS.2.2 q h
        · exact hF _ (hL q h)⟩ (by rw [e1]; exact hce) hcv hcl T' rfl X'
    exact ⟨t2, stp.trans a1, b1⟩
theorem J_thr {W0 : va_W} {Post : Option Value → va_W → Prop} {PX : String → va_W → Prop} {mc ms : Nat} (C : jC p s m args meth c cc nL RX10 D ty pf (va_A W0 s.heap.size)) (hl : l.stackTraces = false) (ht : ∀ x ∈ c.exceptionTable.toList, False) {ik is ic q j : Nat} {cls text : String} (hE : (∀ w ∈ (vx_atS RX10 ic cls exNm).filter goodWord, w ∈ BIG) ∧ (∀ w ∈ (vx_atS RX10 ic cls exNm).filter (fun w => !goodWord w), w ∈ exB cls)) (hG : ∀ w ∈ Cond.classLink RX10 ik cls :: Cond.initialized cls :: vx_atS RX10 ic cls exNm, vx_ot w = true) (hW : Cond.classLink RX10 ik cls ∈ BIG ∧ Cond.initialized cls ∈ BIG) (hcls : Bundle.fit cls = true) (hca : cls ∈ pf_cast) (d0 : decode cc pc = .ok (.new ik, 3)) (d3 : decode cc (pc + 3) = .ok (.dup, 1)) (d4 : decode cc (pc + 4) = .ok (.ldc is, 2)) (d6 : decode cc (pc + 6) = .ok (.invokespecial ic, 3)) (d9 : decode cc (pc + 9) = .ok (.athrow, 1)) (hj : pf_strs[j]? = some (RX10, is, text, q)) (hR : 5 < R.frames ∧ (st.map fun v => v.category).sum + 82 ≤ R.locals ∧ k + 1 ≤ R.cells ∧ n + 6 ≤ R.slots) (hc : k + 1 ≤ mc ∧ n + 6 ≤ ms) (hp : PX cls ws) : J p l e R s m args below meth c nL D (va_A W0 s.heap.size) (vx_MQ below (jQ D ty W0 s.heap.size Post) (jX D W0 s.heap.size PX) args s mc ms (va_A W0 s.heap.size)) k n pc lv st ws := fun ls hL H locs hP hD hS => by
  have hpf := C.2.2.2.2.2.2.2.2
  refine vx_throwS (names := exNm) (A := va_A W0 s.heap.size) C.1 C.2.1 hl C.2.2.2.1 hcls (by decide +kernel) (C.2.2.2.2.1 _ hW.1) (C.2.2.2.2.1 _ hW.2) (hpf.2.2.1 _ (List.mem_of_getElem? hj)) (vx_hat (fun w hw => C.2.2.2.2.1 w (hE.1 w hw)) hE.2 (fun w hw => ?_)) hG hpf.2.2.2.2.2.2.1 hpf.2.2.2.2.2.2.2.1 hS (hL.1.trans C.2.2.1.symm) d0 d3 d4 d6 d9 (fun x hx => (ht x hx).elim) hR.1 hR.2.1 hR.2.2.1 hR.2.2.2 C.2.2.2.2.2.2.1 (fun t hal hz hk => ?_) hS.2.2 hc.1 hc.2
  · have hdd := hpf.2.2.2.2.2.2.2.2.2.2.1
    rcases List.mem_cons.mp hw with rfl | hw
    · exact (hpf.2.2.2.2.2.2.2.2.1 _ hca).use rfl
    rcases List.mem_cons.mp hw with rfl | hw
    · exact (hdd "java/lang/RuntimeException" (by decide)).use rfl
    rcases List.mem_cons.mp hw with rfl | hw
    · exact (hdd "java/lang/Exception" (by decide)).use rfl
    rcases List.mem_cons.mp hw with rfl | hw
    · exact (hdd "java/lang/Throwable" (by decide)).use rfl
    · cases hw
  · exact ⟨⟨ws, hp, hP.kept (fun k q hq => hk q.1 (hP k q hq).lt), hD⟩, Nat.le_trans hS.1 hz, fun q h1 h2 => (hk q (Nat.lt_of_lt_of_le h1 hS.1)).trans (hS.2.1 q h1 h2)⟩
theorem J_thrW {W0 : va_W} {Post : Option Value → va_W → Prop} {PX : String → va_W → Prop} {mc ms : Nat} (C : jC p s m args meth c cc nL RX10 D ty pf (va_A W0 s.heap.size)) (hl : l.stackTraces = false) (ht : ∀ x ∈ c.exceptionTable.toList, False) {ik is ic q j : Nat} {cls text : String} (hE : (∀ w ∈ (vx_atS RX10 ic cls exNm).filter goodWord, w ∈ BIG) ∧ (∀ w ∈ (vx_atS RX10 ic cls exNm).filter (fun w => !goodWord w), w ∈ exB cls)) (hG : ∀ w ∈ Cond.classLink RX10 ik cls :: Cond.initialized cls :: vx_atS RX10 ic cls exNm, vx_ot w = true) (hW : Cond.classLink RX10 ik cls ∈ BIG ∧ Cond.initialized cls ∈ BIG) (hcls : Bundle.fit cls = true) (hca : cls ∈ pf_cast) (d0 : decode cc pc = .ok (.new ik, 3)) (d3 : decode cc (pc + 3) = .ok (.dup, 1)) (d4 : decode cc (pc + 4) = .ok (.ldc_w is, 3)) (d6 : decode cc (pc + 7) = .ok (.invokespecial ic, 3)) (d9 : decode cc (pc + 10) = .ok (.athrow, 1)) (hj : pf_strs[j]? = some (RX10, is, text, q)) (hR : 5 < R.frames ∧ (st.map fun v => v.category).sum + 82 ≤ R.locals ∧ k + 1 ≤ R.cells ∧ n + 6 ≤ R.slots) (hc : k + 1 ≤ mc ∧ n + 6 ≤ ms) (hp : PX cls ws) : J p l e R s m args below meth c nL D (va_A W0 s.heap.size) (vx_MQ below (jQ D ty W0 s.heap.size Post) (jX D W0 s.heap.size PX) args s mc ms (va_A W0 s.heap.size)) k n pc lv st ws := fun ls hL H locs hP hD hS => by
  have hpf := C.2.2.2.2.2.2.2.2
  refine vx_throwSW (names := exNm) (A := va_A W0 s.heap.size) C.1 C.2.1 hl C.2.2.2.1 hcls (by decide +kernel) (C.2.2.2.2.1 _ hW.1) (C.2.2.2.2.1 _ hW.2) (hpf.2.2.1 _ (List.mem_of_getElem? hj)) (vx_hat (fun w hw => C.2.2.2.2.1 w (hE.1 w hw)) hE.2 (fun w hw => ?_)) hG hpf.2.2.2.2.2.2.1 hpf.2.2.2.2.2.2.2.1 hS (hL.1.trans C.2.2.1.symm) d0 d3 d4 d6 d9 (fun x hx => (ht x hx).elim) hR.1 hR.2.1 hR.2.2.1 hR.2.2.2 C.2.2.2.2.2.2.1 (fun t hal hz hk => ?_) hS.2.2 hc.1 hc.2
  · have hdd := hpf.2.2.2.2.2.2.2.2.2.2.1
    rcases List.mem_cons.mp hw with rfl | hw
    · exact (hpf.2.2.2.2.2.2.2.2.1 _ hca).use rfl
    rcases List.mem_cons.mp hw with rfl | hw
    · exact (hdd "java/lang/RuntimeException" (by decide)).use rfl
    rcases List.mem_cons.mp hw with rfl | hw
    · exact (hdd "java/lang/Exception" (by decide)).use rfl
    rcases List.mem_cons.mp hw with rfl | hw
    · exact (hdd "java/lang/Throwable" (by decide)).use rfl
    · cases hw
  · exact ⟨⟨ws, hp, hP.kept (fun k q hq => hk q.1 (hP k q hq).lt), hD⟩, Nat.le_trans hS.1 hz, fun q h1 h2 => (hk q (Nat.lt_of_lt_of_le h1 hS.1)).trans (hS.2.1 q h1 h2)⟩
theorem J_thrI {W0 : va_W} {Post : Option Value → va_W → Prop} {PX : String → va_W → Prop} {mc ms : Nat} (C : jC p s m args meth c cc nL RX10 D ty pf (va_A W0 s.heap.size)) (hl : l.stackTraces = false) (ht : ∀ x ∈ c.exceptionTable.toList, False) {ik is ic q j : Nat} {text : String} (hE : (∀ w ∈ (vx_atI RX10 ic "java/util/NoSuchElementException" 13 nseB "java/lang/RuntimeException" ["java/lang/Exception"]).filter goodWord, w ∈ BIG) ∧ (∀ w ∈ (vx_atI RX10 ic "java/util/NoSuchElementException" 13 nseB "java/lang/RuntimeException" ["java/lang/Exception"]).filter (fun w => !goodWord w), w ∈ exB "java/util/NoSuchElementException")) (hG : ∀ w ∈ Cond.classLink RX10 ik "java/util/NoSuchElementException" :: Cond.initialized "java/util/NoSuchElementException" :: vx_atI RX10 ic "java/util/NoSuchElementException" 13 nseB "java/lang/RuntimeException" ["java/lang/Exception"], vx_ot w = true) (hW : Cond.classLink RX10 ik "java/util/NoSuchElementException" ∈ BIG ∧ Cond.initialized "java/util/NoSuchElementException" ∈ BIG) (d0 : decode cc pc = .ok (.new ik, 3)) (d3 : decode cc (pc + 3) = .ok (.dup, 1)) (d4 : decode cc (pc + 4) = .ok (.ldc is, 2)) (d6 : decode cc (pc + 6) = .ok (.invokespecial ic, 3)) (d9 : decode cc (pc + 9) = .ok (.athrow, 1)) (hj : pf_strs[j]? = some (RX10, is, text, q)) (hR : 5 < R.frames ∧ (st.map fun v => v.category).sum + 82 ≤ R.locals ∧ k + 1 ≤ R.cells ∧ n + 6 ≤ R.slots) (hc : k + 1 ≤ mc ∧ n + 6 ≤ ms) (hp : PX "java/util/NoSuchElementException" ws) : J p l e R s m args below meth c nL D (va_A W0 s.heap.size) (vx_MQ below (jQ D ty W0 s.heap.size Post) (jX D W0 s.heap.size PX) args s mc ms (va_A W0 s.heap.size)) k n pc lv st ws := fun ls hL H locs hP hD hS => by
  have hpf := C.2.2.2.2.2.2.2.2
  refine vx_throwSI (names := ["java/lang/Exception"]) nseD (by decide +kernel) (A := va_A W0 s.heap.size) C.1 C.2.1 hl C.2.2.2.1 (by decide +kernel) (by decide +kernel) (C.2.2.2.2.1 _ hW.1) (C.2.2.2.2.1 _ hW.2) (hpf.2.2.1 _ (List.mem_of_getElem? hj)) (vx_hat (fun w hw => C.2.2.2.2.1 w (hE.1 w hw)) hE.2 (fun w hw => ?_)) hG hpf.2.2.2.2.2.2.1 hpf.2.2.2.2.2.2.2.1 hS (hL.1.trans C.2.2.1.symm) d0 d3 d4 d6 d9 (fun x hx => (ht x hx).elim) hR.1 hR.2.1 hR.2.2.1 hR.2.2.2 C.2.2.2.2.2.2.1 (fun t hal hz hk => ?_) hS.2.2 hc.1 hc.2
  · have hdd := hpf.2.2.2.2.2.2.2.2.2.2.1
    rcases List.mem_cons.mp hw with rfl | hw
    · exact (hpf.2.2.2.2.2.2.2.2.1 _ (by decide)).use rfl
    rcases List.mem_cons.mp hw with rfl | hw
    · exact (hdd "java/lang/RuntimeException" (by decide)).use rfl
    rcases List.mem_cons.mp hw with rfl | hw
    · exact (hdd "java/lang/Exception" (by decide)).use rfl
    rcases List.mem_cons.mp hw with rfl | hw
    · exact (hdd "java/lang/Throwable" (by decide)).use rfl
    · cases hw
  · exact ⟨⟨ws, hp, hP.kept (fun k q hq => hk q.1 (hP k q hq).lt), hD⟩, Nat.le_trans hS.1 hz, fun q h1 h2 => (hk q (Nat.lt_of_lt_of_le h1 hS.1)).trans (hS.2.1 q h1 h2)⟩
theorem J_thrWI {W0 : va_W} {Post : Option Value → va_W → Prop} {PX : String → va_W → Prop} {mc ms : Nat} (C : jC p s m args meth c cc nL RX10 D ty pf (va_A W0 s.heap.size)) (hl : l.stackTraces = false) (ht : ∀ x ∈ c.exceptionTable.toList, False) {ik is ic q j : Nat} {text : String} (hE : (∀ w ∈ (vx_atI RX10 ic "java/util/NoSuchElementException" 13 nseB "java/lang/RuntimeException" ["java/lang/Exception"]).filter goodWord, w ∈ BIG) ∧ (∀ w ∈ (vx_atI RX10 ic "java/util/NoSuchElementException" 13 nseB "java/lang/RuntimeException" ["java/lang/Exception"]).filter (fun w => !goodWord w), w ∈ exB "java/util/NoSuchElementException")) (hG : ∀ w ∈ Cond.classLink RX10 ik "java/util/NoSuchElementException" :: Cond.initialized "java/util/NoSuchElementException" :: vx_atI RX10 ic "java/util/NoSuchElementException" 13 nseB "java/lang/RuntimeException" ["java/lang/Exception"], vx_ot w = true) (hW : Cond.classLink RX10 ik "java/util/NoSuchElementException" ∈ BIG ∧ Cond.initialized "java/util/NoSuchElementException" ∈ BIG) (d0 : decode cc pc = .ok (.new ik, 3)) (d3 : decode cc (pc + 3) = .ok (.dup, 1)) (d4 : decode cc (pc + 4) = .ok (.ldc_w is, 3)) (d6 : decode cc (pc + 7) = .ok (.invokespecial ic, 3)) (d9 : decode cc (pc + 10) = .ok (.athrow, 1)) (hj : pf_strs[j]? = some (RX10, is, text, q)) (hR : 5 < R.frames ∧ (st.map fun v => v.category).sum + 82 ≤ R.locals ∧ k + 1 ≤ R.cells ∧ n + 6 ≤ R.slots) (hc : k + 1 ≤ mc ∧ n + 6 ≤ ms) (hp : PX "java/util/NoSuchElementException" ws) : J p l e R s m args below meth c nL D (va_A W0 s.heap.size) (vx_MQ below (jQ D ty W0 s.heap.size Post) (jX D W0 s.heap.size PX) args s mc ms (va_A W0 s.heap.size)) k n pc lv st ws := fun ls hL H locs hP hD hS => by
  have hpf := C.2.2.2.2.2.2.2.2
  refine vx_throwSWI (names := ["java/lang/Exception"]) nseD (by decide +kernel) (A := va_A W0 s.heap.size) C.1 C.2.1 hl C.2.2.2.1 (by decide +kernel) (by decide +kernel) (C.2.2.2.2.1 _ hW.1) (C.2.2.2.2.1 _ hW.2) (hpf.2.2.1 _ (List.mem_of_getElem? hj)) (vx_hat (fun w hw => C.2.2.2.2.1 w (hE.1 w hw)) hE.2 (fun w hw => ?_)) hG hpf.2.2.2.2.2.2.1 hpf.2.2.2.2.2.2.2.1 hS (hL.1.trans C.2.2.1.symm) d0 d3 d4 d6 d9 (fun x hx => (ht x hx).elim) hR.1 hR.2.1 hR.2.2.1 hR.2.2.2 C.2.2.2.2.2.2.1 (fun t hal hz hk => ?_) hS.2.2 hc.1 hc.2
  · have hdd := hpf.2.2.2.2.2.2.2.2.2.2.1
    rcases List.mem_cons.mp hw with rfl | hw
    · exact (hpf.2.2.2.2.2.2.2.2.1 _ (by decide)).use rfl
    rcases List.mem_cons.mp hw with rfl | hw
    · exact (hdd "java/lang/RuntimeException" (by decide)).use rfl
    rcases List.mem_cons.mp hw with rfl | hw
    · exact (hdd "java/lang/Exception" (by decide)).use rfl
    rcases List.mem_cons.mp hw with rfl | hw
    · exact (hdd "java/lang/Throwable" (by decide)).use rfl
    · cases hw
  · exact ⟨⟨ws, hp, hP.kept (fun k q hq => hk q.1 (hP k q hq).lt), hD⟩, Nat.le_trans hS.1 hz, fun q h1 h2 => (hk q (Nat.lt_of_lt_of_le h1 hS.1)).trans (hS.2.1 q h1 h2)⟩
theorem J_xvL {W0 : va_W} {Post : Option Value → va_W → Prop} {PX : String → va_W → Prop} {mc ms : Nat} (C : jC p s m args meth c cc nL own D ty pf (va_A W0 s.heap.size)) (ht : ∀ x ∈ c.exceptionTable.toList, False) {y : MethodName} {bytes : ByteArray} {maxL : Nat} {ret : Option FieldType} {rm : Room} {na index : Nat} {b : Nat} {As : List Value} {fx : Option Nat} {X : Option α} {K : Nat → Option α} (d : decode cc pc = .ok (.invokevirtual index, 3)) (w : Cond.methodLink own index y ∈ BIG) (hM : jMv y bytes maxL ret na) (hc : ∀ r, fx = some r → CtX l D ty pf y bytes maxL ret rm (.ref b :: As) ws (isR r none ws) (isE r ws)) (h : (fx.bind fun r => if r = 0 then X else K r) = some o) {q0 ci : Nat} {fs : List Value} {T : u_T} {N : Nat} (he : ws[q0]? = some (b, .inr (ci, fs))) (hcl : vwCl[ci]? = some (y.cls, T, N)) (hna : As.length = na) (hR : rm.frames + 1 ≤ R.frames ∧ 8 + (maxL + 11) + rm.locals ≤ R.locals) (hkn : k + rm.cells ≤ R.cells ∧ n + rm.slots ≤ R.slots) (hW : (st.map fun v => v.category).sum ≤ 8) (hm : k + rm.cells ≤ mc ∧ n + rm.slots ≤ ms) (kx : ∀ r, ¬ r = 0 → K r = some o → PX (exN r) ws)
    (kk : X = some o → J p l e R s m args below meth c nL D (va_A W0 s.heap.size) (vx_MQ below (jQ D ty W0 s.heap.size Post) (jX D W0 s.heap.size PX) args s mc ms (va_A W0 s.heap.size)) (k + rm.cells) (n + rm.slots) (pc + 3) lv st ws) : J p l e R s m args below meth c nL D (va_A W0 s.heap.size) (vx_MQ below (jQ D ty W0 s.heap.size Post) (jX D W0 s.heap.size PX) args s mc ms (va_A W0 s.heap.size)) k n pc lv (As.reverse ++ .ref b :: st) ws := by
  obtain ⟨r, hr, hK⟩ := Option.bind_eq_some_iff.mp h
  intro ls hL H locs hP hD hS
  have hDc : va_D (fun _ => True) ws := hD.weaken fun _ _ _ _ => trivial
  have hp0 : ws.Perm (ws ++ []) := by rw [List.append_nil]
  have hF : ∀ q, va_A ws H.size q → va_A W0 s.heap.size q := wl_free hp0 hD hS C.2.2.2.2.2.2.2.1
  have hback : ∀ (H1 : Heap) (w1 : va_W), va_D (va_A ws H.size) w1 → va_D (va_A W0 s.heap.size) w1 := fun H1 w1 h => h.weaken fun k q _ hA => hF _ hA
  refine xcall (mc := rm.cells) (ms := rm.slots) (vx_runV ⟨C.1, C.2.1, C.2.2.1, C.2.2.2.1, C.2.2.2.2.1⟩ (hc r hr H.size) ⟨callB_of na C.2.2.2.2.1 (bgGood hM.1.1) rfl rfl rfl (C.2.2.2.2.1 _ hM.1.2.1) (C.2.2.2.2.1 _ w) hM.1.2.2 hR, C.2.2.2.2.1 _ hM.2.1, C.2.2.2.2.1 _ hM.2.2⟩ ⟨jP_blind, va_recv C.2.2.2.2.2.1 hP hcl he, fun U hU hW => ⟨rfl, by rw [hU], by rw [hU]; exact hP, va_K.moved hW.alike C.2.2.2.2.2.1, hDc, PF.call C.2.2.2.2.2.2.2.2 hS hF hU hW⟩⟩ rfl hna hL.1 rfl (lv_room hW) d hkn) hS hF (fun v w1 H1 locs1 hp1 hP1 hD1 hz1 hk1 hS1 => ?_) (fun E w1 H1 locs1 q ce hp1 hP1 hD1 hz1 hk1 hS1 hce hcv hcl => ?_)
  · obtain ⟨h0, rfl, rfl⟩ := hp1
    rw [if_pos h0] at hK
    exact kk hK ls hL H1 locs1 hP1 (hback H1 _ hD1) hS1
  · obtain ⟨h0, rfl, rfl⟩ := hp1
    rw [if_neg h0] at hK
    refine vx_out (fun x hx => (ht x hx).elim) C.2.2.2.2.2.2.1 hce hcv hcl (fun t ht hal => ?_) hS1.2.2 hm.1 hm.2
    refine ⟨⟨_, kx r h0 hK, by rw [ht]; exact hP1, hback H1 _ hD1⟩, hS1.F ht⟩
theorem J_xsL {W0 : va_W} {Post : Option Value → va_W → Prop} {PX : String → va_W → Prop} {mc ms : Nat} (C : jC p s m args meth c cc nL own D ty pf (va_A W0 s.heap.size)) (ht : ∀ x ∈ c.exceptionTable.toList, False) {y : MethodName} {bytes : ByteArray} {maxL : Nat} {ret : Option FieldType} {rm : Room} {na index : Nat} {b : Nat} {As : List Value} {fx : Option Nat} {X : Option α} {K : Nat → Option α} (d : decode cc pc = .ok (.invokestatic index, 3)) (w : Cond.methodLink own index y ∈ BIG) (hM : jMs y bytes maxL ret na) (hc : ∀ r, fx = some r → CtX l D ty pf y bytes maxL ret rm As ws (isR r none ws) (isE r ws)) (h : (fx.bind fun r => if r = 0 then X else K r) = some o) (hna : As.length = na) (hR : rm.frames + 1 ≤ R.frames ∧ 8 + (maxL + 11) + rm.locals ≤ R.locals) (hkn : k + rm.cells ≤ R.cells ∧ n + rm.slots ≤ R.slots) (hW : (st.map fun v => v.category).sum ≤ 8) (hm : k + rm.cells ≤ mc ∧ n + rm.slots ≤ ms) (kx : ∀ r, ¬ r = 0 → K r = some o → PX (exN r) ws)
    (kk : X = some o → J p l e R s m args below meth c nL D (va_A W0 s.heap.size) (vx_MQ below (jQ D ty W0 s.heap.size Post) (jX D W0 s.heap.size PX) args s mc ms (va_A W0 s.heap.size)) (k + rm.cells) (n + rm.slots) (pc + 3) lv st ws) : J p l e R s m args below meth c nL D (va_A W0 s.heap.size) (vx_MQ below (jQ D ty W0 s.heap.size Post) (jX D W0 s.heap.size PX) args s mc ms (va_A W0 s.heap.size)) k n pc lv (As.reverse ++ st) ws := by
  obtain ⟨r, hr, hK⟩ := Option.bind_eq_some_iff.mp h
  intro ls hL H locs hP hD hS
  have hDc : va_D (fun _ => True) ws := hD.weaken fun _ _ _ _ => trivial
  have hp0 : ws.Perm (ws ++ []) := by rw [List.append_nil]
  have hF : ∀ q, va_A ws H.size q → va_A W0 s.heap.size q := wl_free hp0 hD hS C.2.2.2.2.2.2.2.1
  have hback : ∀ (H1 : Heap) (w1 : va_W), va_D (va_A ws H.size) w1 → va_D (va_A W0 s.heap.size) w1 := fun H1 w1 h => h.weaken fun k q _ hA => hF _ hA
  refine xcall (mc := rm.cells) (ms := rm.slots) (vx_runS ⟨C.1, C.2.1, C.2.2.1, C.2.2.2.1, C.2.2.2.2.1⟩ (hc r hr H.size) ⟨callB_of na C.2.2.2.2.1 (bgGood hM.1.1) rfl rfl rfl (C.2.2.2.2.1 _ hM.1.2.1) (C.2.2.2.2.1 _ w) hM.1.2.2 hR, C.2.2.2.2.1 _ hM.2⟩ ⟨jP_blind, fun U hU hW => ⟨rfl, by rw [hU], by rw [hU]; exact hP, va_K.moved hW.alike C.2.2.2.2.2.1, hDc, PF.call C.2.2.2.2.2.2.2.2 hS hF hU hW⟩⟩ rfl hna hL.1 rfl (lv_room hW) d hkn) hS hF (fun v w1 H1 locs1 hp1 hP1 hD1 hz1 hk1 hS1 => ?_) (fun E w1 H1 locs1 q ce hp1 hP1 hD1 hz1 hk1 hS1 hce hcv hcl => ?_)
  · obtain ⟨h0, rfl, rfl⟩ := hp1
    rw [if_pos h0] at hK
    exact kk hK ls hL H1 locs1 hP1 (hback H1 _ hD1) hS1
  · obtain ⟨h0, rfl, rfl⟩ := hp1
    rw [if_neg h0] at hK
    refine vx_out (fun x hx => (ht x hx).elim) C.2.2.2.2.2.2.1 hce hcv hcl (fun t ht hal => ?_) hS1.2.2 hm.1 hm.2
    refine ⟨⟨_, kx r h0 hK, by rw [ht]; exact hP1, hback H1 _ hD1⟩, hS1.F ht⟩
theorem J_cvL (C : jC p s m args meth c cc nL own D ty pf A) {y : MethodName} {bytes : ByteArray} {maxL : Nat} {ret : Option FieldType} {rm : Room} {na index : Nat} {b : Nat} {As : List Value} {ρ : Type} {fx : Option ρ} {K : ρ → Option α} {V : ρ → Option Value} (ws2 : ρ → va_W) (d : decode cc pc = .ok (.invokevirtual index, 3)) (w : Cond.methodLink own index y ∈ BIG) (hM : jMv y bytes maxL ret na) (hc : ∀ r, fx = some r → Ct l D ty pf y bytes maxL ret rm (.ref b :: As) ws (is1 (V r) (ws2 r))) (h : fx.bind K = some o) {q0 ci : Nat} {fs : List Value} {T : u_T} {N : Nat} (he : ws[q0]? = some (b, .inr (ci, fs))) (hcl : vwCl[ci]? = some (y.cls, T, N)) (hna : As.length = na) (hz : rm.cells = 0 ∧ rm.slots = 0) (hR : rm.frames + 1 ≤ R.frames ∧ 8 + (maxL + 11) + rm.locals ≤ R.locals) (hkn : k ≤ R.cells ∧ n ≤ R.slots) (hW : (st.map fun v => v.category).sum ≤ 8) (kk : ∀ r, K r = some o → J p l e R s m args below meth c nL D A Q (k) (n) (pc + 3) (lv) ((V r).toList ++ st) (ws2 r)) : J p l e R s m args below meth c nL D A Q (k) (n) (pc) (lv) (As.reverse ++ .ref b :: st) (ws) := by
  obtain ⟨r, hr, hK⟩ := Option.bind_eq_some_iff.mp h
  refine J_cvF C d w hM (hc r hr) [] (by rw [List.append_nil]) he hcl hna hR ⟨by rw [hz.1]; exact hkn.1, by rw [hz.2]; exact hkn.2⟩ hW ?_
  rintro v w1 ⟨rfl, rfl⟩
  rw [hz.1, hz.2, List.append_nil]
  exact kk r hK
theorem J_csL (C : jC p s m args meth c cc nL own D ty pf A) {y : MethodName} {bytes : ByteArray} {maxL : Nat} {ret : Option FieldType} {rm : Room} {na index : Nat} {b : Nat} {As : List Value} {ρ : Type} {fx : Option ρ} {K : ρ → Option α} {V : ρ → Option Value} (ws2 : ρ → va_W) (d : decode cc pc = .ok (.invokestatic index, 3)) (w : Cond.methodLink own index y ∈ BIG) (hM : jMs y bytes maxL ret na) (hc : ∀ r, fx = some r → Ct l D ty pf y bytes maxL ret rm As ws (is1 (V r) (ws2 r))) (h : fx.bind K = some o) (hna : As.length = na) (hz : rm.cells = 0 ∧ rm.slots = 0) (hR : rm.frames + 1 ≤ R.frames ∧ 8 + (maxL + 11) + rm.locals ≤ R.locals) (hkn : k ≤ R.cells ∧ n ≤ R.slots) (hW : (st.map fun v => v.category).sum ≤ 8) (kk : ∀ r, K r = some o → J p l e R s m args below meth c nL D A Q (k) (n) (pc + 3) (lv) ((V r).toList ++ st) (ws2 r)) : J p l e R s m args below meth c nL D A Q (k) (n) (pc) (lv) (As.reverse ++ st) (ws) := by
  obtain ⟨r, hr, hK⟩ := Option.bind_eq_some_iff.mp h
  refine J_csF (b := b) C d w hM (hc r hr) [] (by rw [List.append_nil]) hna hR ⟨by rw [hz.1]; exact hkn.1, by rw [hz.2]; exact hkn.2⟩ hW ?_
  rintro v w1 ⟨rfl, rfl⟩
  rw [hz.1, hz.2, List.append_nil]
  exact kk r hK
end JX
theorem perm_flatten {α : Type} {l1 l2 : List (List α)} (h : l1.Perm l2) : l1.flatten.Perm l2.flatten := by
  induction h with
  | nil => exact List.Perm.refl _
  | cons x _ ih => rw [List.flatten_cons, List.flatten_cons]; exact ih.append_left x
  | swap x y l => rw [List.flatten_cons, List.flatten_cons, List.flatten_cons, List.flatten_cons, ← List.append_assoc, ← List.append_assoc]; exact List.perm_append_comm.append_right _
  | trans _ _ h1 h2 => exact h1.trans h2
/-- chunks among chunks -/
theorem Ct_ch {l : Launch} {D : va_G} {ty : List (ClassId × FieldType)} {pf : Nat → Nat} {y : MethodName} {cc : ByteArray} {maxL : Nat} {ret : Option FieldType} {rm : Room} {av : List Value} {Wc w1 : List va_W} {V : Option Value} (h : Ct l D ty pf y cc maxL ret rm av (List.flatten Wc) (is1 V (List.flatten w1))) {cs cs2 : List va_W} (Wr : List va_W) (isC isR : List Nat) (hC : isC.map (fun i => cs[i]?) = Wc.map some) (hR : isR.map (fun i => cs[i]?) = Wr.map some) (hC2 : isC.map (fun i => cs2[i]?) = w1.map some) (hR2 : isR.map (fun i => cs2[i]?) = Wr.map some) (n : Nat) (hn : cs.length = n) (hn2 : cs2.length = n) (hp : (isC ++ isR).isPerm (List.range n) = true) : Ct l D ty pf y cc maxL ret rm av (List.flatten cs) (is1 V (List.flatten cs2)) := by
  have hp' := List.isPerm_iff.mp hp
  refine Ct_sub h (Wr := Wr.flatten) ?_ ?_
  · have := perm_flatten (perm_pos isC isR hC hR (by rw [hn]; exact hp'))
    rwa [List.flatten_append] at this
  · rintro v w ⟨rfl, rfl⟩
    have := perm_flatten (perm_pos isC isR hC2 hR2 (by rw [hn2]; exact hp'))
    rw [List.flatten_append] at this
    exact ⟨_, ⟨rfl, rfl⟩, this.symm⟩
