/-- the words of a method that is called through a class below its own -/
def jMu (y : MethodName) (bytes : ByteArray) (maxL : Nat) (ret : Option FieldType) (na : Nat) : Prop := jM y bytes maxL ret na ∧ Cond.instanceMethod y ∈ BIG ∧ Cond.sameMethod y.cls y.cls y.name y.desc ∈ BIG ∧ y.name ≠ "<init>" ∧ y = ⟨y.cls, y.name, y.desc⟩
set_option maxRecDepth 100000 in
theorem w_clone : Cond.sameMethod "[B" "java/lang/Object" "clone" "()Ljava/lang/Object;" ∈ BIG ∧ Cond.native ⟨"java/lang/Object", "clone", "()Ljava/lang/Object;"⟩ ∈ BIG ∧ Cond.instanceMethod ⟨"java/lang/Object", "clone", "()Ljava/lang/Object;"⟩ ∈ BIG ∧ Cond.selects "[B" ⟨"[B", "clone", "()Ljava/lang/Object;"⟩ ⟨"java/lang/Object", "clone", "()Ljava/lang/Object;"⟩ ∈ BIG := ⟨bg5 231 (by decide +kernel), bg5 232 (by decide +kernel), bg5 233 (by decide +kernel), bg5 234 (by decide +kernel)⟩
set_option maxRecDepth 100000 in
theorem w_sup : Cond.superclass RJ4 RJ5 ∈ BIG := bg5 197 (by decide +kernel)
set_option maxRecDepth 100000 in
theorem mu_yJ5_length_8abf5 : jMu yJ5_length_8abf5 cJ5_length_8abf5 1 (some FieldType.int) 0 := ⟨⟨bg6 115 (by decide +kernel), ini_RJ5, by decide +kernel⟩, bg6 109 (by decide +kernel), bg6 110 (by decide +kernel), by decide, rfl⟩
set_option maxRecDepth 100000 in
theorem mu_yJ5_ensureCapacityInternal_d00df : jMu yJ5_ensureCapacityInternal_d00df cJ5_ensureCapacityInternal_d00df 3 (none : Option FieldType) 1 := ⟨⟨bg5 213 (by decide +kernel), ini_RJ5, by decide +kernel⟩, bg5 212 (by decide +kernel), bg7 215 (by decide +kernel), by decide, rfl⟩
set_option maxRecDepth 100000 in
theorem se_yJ5_ensureCapacityInternal_d00df : Cond.selects RJ4 yJ5_ensureCapacityInternal_d00df yJ5_ensureCapacityInternal_d00df ∈ BIG := bgS (by decide)
set_option maxRecDepth 100000 in
theorem mu_yJ5_newCapacity_0f7a4 : jMu yJ5_newCapacity_0f7a4 cJ5_newCapacity_0f7a4 6 (some FieldType.int) 1 := ⟨⟨bg5 217 (by decide +kernel), ini_RJ5, by decide +kernel⟩, bg5 216 (by decide +kernel), bg7 216 (by decide +kernel), by decide, rfl⟩
set_option maxRecDepth 100000 in
theorem se_yJ5_newCapacity_0f7a4 : Cond.selects RJ4 yJ5_newCapacity_0f7a4 yJ5_newCapacity_0f7a4 ∈ BIG := bgS (by decide)
set_option maxRecDepth 100000 in
theorem mu_yJ5_inflate_da8c8 : jMu yJ5_inflate_da8c8 cJ5_inflate_da8c8 2 (none : Option FieldType) 0 := ⟨⟨bg6 32 (by decide +kernel), ini_RJ5, by decide +kernel⟩, bg6 31 (by decide +kernel), bg7 219 (by decide +kernel), by decide, rfl⟩
set_option maxRecDepth 100000 in
theorem mu_yJ5_append_cf1ce : jMu yJ5_append_cf1ce cJ5_append_cf1ce 3 (some (FieldType.object "java/lang/AbstractStringBuilder")) 1 := ⟨⟨bg5 205 (by decide +kernel), ini_RJ5, by decide +kernel⟩, bg5 204 (by decide +kernel), bg7 213 (by decide +kernel), by decide, rfl⟩
set_option maxRecDepth 100000 in
theorem mu_yJ5_appendNull_278bc : jMu yJ5_appendNull_278bc cJ5_appendNull_278bc 3 (some (FieldType.object "java/lang/AbstractStringBuilder")) 0 := ⟨⟨bg5 209 (by decide +kernel), ini_RJ5, by decide +kernel⟩, bg5 208 (by decide +kernel), bg7 214 (by decide +kernel), by decide, rfl⟩
set_option maxRecDepth 100000 in
theorem mu_yJ5_append_3fe6f : jMu yJ5_append_3fe6f cJ5_append_3fe6f 2 (some (FieldType.object "java/lang/AbstractStringBuilder")) 1 := ⟨⟨bg6 162 (by decide +kernel), ini_RJ5, by decide +kernel⟩, bg6 161 (by decide +kernel), bg7 221 (by decide +kernel), by decide, rfl⟩
set_option maxRecDepth 100000 in
theorem mu_yJ5_append_c97b9 : jMu yJ5_append_c97b9 cJ5_append_c97b9 4 (some (FieldType.object "java/lang/AbstractStringBuilder")) 1 := ⟨⟨bg6 63 (by decide +kernel), ini_RJ5, by decide +kernel⟩, bg6 62 (by decide +kernel), bg7 220 (by decide +kernel), by decide, rfl⟩
set_option maxRecDepth 100000 in
theorem mu_yJ5_getValue_6d5f1 : jMu yJ5_getValue_6d5f1 cJ5_getValue_6d5f1 1 (some (FieldType.array FieldType.byte)) 0 := ⟨⟨bg6 107 (by decide +kernel), ini_RJ5, by decide +kernel⟩, bg6 104 (by decide +kernel), bg6 105 (by decide +kernel), by decide, rfl⟩
set_option maxRecDepth 100000 in
theorem se_yJ5_getValue_6d5f1 : Cond.selects RJ4 yJ5_getValue_6d5f1 yJ5_getValue_6d5f1 ∈ BIG := bg6 106 (by decide +kernel)
set_option maxRecDepth 100000 in
theorem mu_yJ5_isLatin1_aae02 : jMu yJ5_isLatin1_aae02 cJ5_isLatin1_aae02 1 (some FieldType.boolean) 0 := ⟨⟨bg6 3 (by decide +kernel), ini_RJ5, by decide +kernel⟩, bg6 0 (by decide +kernel), bg6 1 (by decide +kernel), by decide, rfl⟩
set_option maxRecDepth 100000 in
theorem se_yJ5_isLatin1_aae02 : Cond.selects RJ4 yJ5_isLatin1_aae02 yJ5_isLatin1_aae02 ∈ BIG := bg6 2 (by decide +kernel)
set_option maxRecDepth 100000 in
theorem mu_yJ5_inflateIfNeededFor_a7421 : jMu yJ5_inflateIfNeededFor_a7421 cJ5_inflateIfNeededFor_a7421 2 (none : Option FieldType) 1 := ⟨⟨bg6 27 (by decide +kernel), ini_RJ5, by decide +kernel⟩, bg6 26 (by decide +kernel), bg7 218 (by decide +kernel), by decide, rfl⟩
set_option maxRecDepth 100000 in
theorem se_yJ5_inflateIfNeededFor_a7421 : Cond.selects RJ4 yJ5_inflateIfNeededFor_a7421 yJ5_inflateIfNeededFor_a7421 ∈ BIG := bgS (by decide)
set_option maxRecDepth 100000 in
theorem mu_yJ5_putStringAt_47b60 : jMu yJ5_putStringAt_47b60 cJ5_putStringAt_47b60 3 (none : Option FieldType) 2 := ⟨⟨bg6 23 (by decide +kernel), ini_RJ5, by decide +kernel⟩, bg6 22 (by decide +kernel), bg7 217 (by decide +kernel), by decide, rfl⟩
set_option maxRecDepth 100000 in
theorem se_yJ5_putStringAt_47b60 : Cond.selects RJ4 yJ5_putStringAt_47b60 yJ5_putStringAt_47b60 ∈ BIG := bgS (by decide)
set_option maxRecDepth 100000 in
theorem ml_RJ7_310 : Cond.methodLink RJ7 310 ⟨"[B", "clone", "()Ljava/lang/Object;"⟩ ∈ BIG := bg5 230 (by decide +kernel)
set_option maxRecDepth 100000 in
theorem clk_RJ7_311 : Cond.classLink RJ7 311 "[B" ∈ BIG := bg5 236 (by decide +kernel)
set_option maxRecDepth 100000 in
theorem mj_SBlen : jM yJ4_length_8abf5 cJ4_length_8abf5 1 (some FieldType.int) 0 := ⟨bg6 113 (by decide +kernel), ini_RJ4, by decide +kernel⟩
set_option maxRecDepth 100000 in
theorem mj_SBlenI : Cond.instanceMethod yJ4_length_8abf5 ∈ BIG := bg6 112 (by decide +kernel)
set_option maxRecDepth 100000 in
theorem se_SBlen : Cond.selects RJ4 yJ5_length_8abf5 yJ4_length_8abf5 ∈ BIG := bg6 111 (by decide +kernel)
set_option maxRecDepth 100000 in
theorem jf_J0 : jF RJ0 TJ0 4 tyJ0 := ⟨by decide +kernel, tyJ0_ok, nmJ0⟩
set_option maxRecDepth 100000 in
theorem jf_J4 : jF RJ4 TJ4 4 tyJ4 := ⟨by decide +kernel, tyJ4_ok, nmJ4⟩
set_option maxRecDepth 100000 in
theorem df_J0 : ∀ j, j < 4 → defaultValue (tyJ0 j) = vp_V [.null, .int 0, .int 0, .int 0] j := by decide +kernel
set_option maxRecDepth 100000 in
theorem df_J4 : ∀ j, j < 4 → defaultValue (tyJ4 j) = vp_V [.null, .int 0, .int 0, .int 0] j := by decide +kernel
section JSU
variable {p : Program} {l : Launch} {e : Env} {R : Room} {s : State} {m : MethodId} {args : Array Value} {below : List Frame} {meth : Method} {c : Code} {cc : ByteArray} {nL : Nat} {own : String} {D : va_G} {ty : List (ClassId × FieldType)} {pf : Nat → Nat} {A : Nat → Prop} {Q : State → Prop} {k n : Nat} {pc : Nat} {lv : List (Nat × Value)} {st : List Value} {ws : va_W} {α : Type} {o : α}
theorem J_drop {ws2 Wr : va_W} (hp : ws.Perm (ws2 ++ Wr)) (kk : J p l e R s m args below meth c nL D A Q (k) (n) (pc) (lv) (st) (ws2)) : J p l e R s m args below meth c nL D A Q (k) (n) (pc) (lv) (st) (ws) := fun ls hL H locs hP hD hS => kk ls hL H locs (hP.perm hp).left (hD.perm hp).left hS
theorem permN {ws Wc Wr : va_W} (isC isR : List Nat) (n : Nat) (hC : isC.map (fun i => ws[i]?) = Wc.map some) (hR : isR.map (fun i => ws[i]?) = Wr.map some) (hn : ws.length = n) (hp : (isC ++ isR).isPerm (List.range n) = true) : ws.Perm (Wc ++ Wr) := perm_pos isC isR hC hR (by rw [hn]; exact List.isPerm_iff.mp hp)
theorem J_getA (C : jC p s m args meth c cc nL own D ty pf A) {C2 : String} {T : u_T} {N ci index : Nat} {tyv : Nat → FieldType} {a : Nat} {fs : List Value} {v : Value} (d : decode cc pc = .ok (.getfield index, 3)) (hF : jF C2 T N tyv) (q0 : Nat) (he : ws[q0]? = some (a, .inr (ci, fs))) (hc : vwCl[ci]? = some (C2, T, N)) (i : Nat) (hi : i < N) (w : Cond.fieldLink own index (T i).1 (T i).2.1 (T i).2.2.1 ∈ BIG) (hv : fs[i]? = some v) (kk : J p l e R s m args below meth c nL D A Q (k) (n) (pc + 3) (lv) (v :: st) (ws)) : J p l e R s m args below meth c nL D A Q (k) (n) (pc) (lv) (.ref a :: st) (ws) := fun ls hL H locs hP hD hS =>
  va_get C.1 C.2.1 C.2.2.2.2.1 hF.1 C.2.2.2.1 C.2.2.2.2.2.1 hP q0 he hc i hi (C.2.2.2.2.1 _ w) (fun x hx => hx) hv d (kk ls hL H locs hP hD hS)
theorem J_putA (C : jC p s m args meth c cc nL own D ty pf A) {C2 : String} {T : u_T} {N ci index : Nat} {tyv : Nat → FieldType} {a : Nat} {fs : List Value} {v : Value} {tt : FieldType} (d : decode cc pc = .ok (.putfield index, 3)) (hF : jF C2 T N tyv) (q0 : Nat) (he : ws[q0]? = some (a, .inr (ci, fs))) (hc : vwCl[ci]? = some (C2, T, N)) (i : Nat) (hi : i < N) (w : Cond.fieldLink own index (T i).1 (T i).2.1 (T i).2.2.1 ∈ BIG) (hfin : (T i).2.2.2 = false) (hd : parseFieldDescriptor (T i).2.2.1 = some tt) (hn : narrow tt v = v) (hfit : fits tt v = true) (hl : i < fs.length) (kk : J p l e R s m args below meth c nL D A Q (k) (n) (pc + 3) (lv) (st) (ws.set q0 (a, .inr (ci, fs.set i v)))) : J p l e R s m args below meth c nL D A Q (k) (n) (pc) (lv) (v :: .ref a :: st) (ws) := fun ls hL H locs hP hD hS =>
  va_put C.1 C.2.1 C.2.2.2.2.1 hF.1 tyv hF.2.1 hF.2.2 C.2.2.2.1 C.2.2.2.2.2.1 hP hD hS q0 he hc i hi (C.2.2.2.2.1 _ w) (fun x hx => hx) hfin hd hn hfit hl d (fun H1 locs1 hP1 hD1 hS1 => kk ls hL H1 locs1 hP1 hD1 hS1)
theorem J_dupx1 (C : jC p s m args meth c cc nL own D ty pf A) {va vb : Value} (d : decode cc pc = .ok (.dup_x1, 1)) (ha : va.category = 1) (hb : vb.category = 1) (kk : J p l e R s m args below meth c nL D A Q (k) (n) (pc + 1) (lv) (va :: vb :: va :: st) (ws)) : J p l e R s m args below meth c nL D A Q (k) (n) (pc) (lv) (va :: vb :: st) (ws) := fun ls hL H locs hP hD hS => lv_dup_x1 C.1 C.2.1 d ha hb (kk ls hL H locs hP hD hS)
theorem J_acn (C : jC p s m args meth c cc nL own D ty pf A) (d : decode cc pc = .ok (.aconst_null, 1)) (kk : J p l e R s m args below meth c nL D A Q (k) (n) (pc + 1) (lv) (.null :: st) (ws)) : J p l e R s m args below meth c nL D A Q (k) (n) (pc) (lv) (st) (ws) := fun ls hL H locs hP hD hS => lv_null C.1 C.2.1 d (kk ls hL H locs hP hD hS)
theorem J_ifnonnullR (C : jC p s m args meth c cc nL own D ty pf A) {x : Nat} {off : Int} {tgt : Nat} (d : decode cc pc = .ok (.ifnonnull off, 3)) (ht : (pc : Int) + off = (tgt : Int)) (kk : J p l e R s m args below meth c nL D A Q (k) (n) (tgt) (lv) (st) (ws)) : J p l e R s m args below meth c nL D A Q (k) (n) (pc) (lv) (.ref x :: st) (ws) := fun ls hL H locs hP hD hS => lv_ifnonnull C.1 C.2.1 d ht (kk ls hL H locs hP hD hS)
theorem J_copyB (C : jC p s m args meth c cc nL own D ty pf A) {index a0 a n0 n1 : Nat} {c0 c1 : ClassId} {f g : Nat → Int32} {sp dp nn : Int32} (ws2 : va_W) (d : decode cc pc = .ok (.invokestatic index, 3)) (w : Cond.methodLink own index arraycopyName ∈ BIG) (q0 q1 t0 t1 : Nat) (ha0 : ws[q0]? = some (a0, .inl (c0, n0, .inl f))) (ha1 : ws[q1]? = some (a, .inl (c1, n1, .inl g))) (ht0 : ty[t0]? = some (c0, .byte)) (ht1 : ty[t1]? = some (c1, .byte)) (h : ¬ sp < 0 ∧ ¬ dp < 0 ∧ ¬ nn < 0 ∧ sp.toNatClampNeg + nn.toNatClampNeg ≤ n0 ∧ dp.toNatClampNeg + nn.toNatClampNeg ≤ n1) (hfit : ∀ i, i < nn.toNatClampNeg → fits .byte (.int (f (sp.toNatClampNeg + i))) = true) (hf : 1 ≤ R.frames) (hlo : (st.map fun v => v.category).sum + (nativeFrameWords "java/lang/System" "arraycopy" 5 + 11) ≤ R.locals) (hw : ws.set q1 (a, .inl (c1, n1, .inl (va_cpy f g sp.toNatClampNeg dp.toNatClampNeg nn.toNatClampNeg))) = ws2) (kk : J p l e R s m args below meth c nL D A Q (k) (n) (pc + 3) (lv) (st) (ws2)) : J p l e R s m args below meth c nL D A Q (k) (n) (pc) (lv) (.int nn :: .int dp :: .ref a :: .int sp :: .ref a0 :: st) (ws) := by
  subst hw
  exact fun ls hL H locs hP hD hS => va_copyi C.1 C.2.1 (C.2.2.1.trans hL.1.symm) C.2.2.2.1 (C.2.2.2.2.1 _ w) (C.2.2.2.2.1 _ w_copy.1) (C.2.2.2.2.1 _ w_copy.2.1) (C.2.2.2.2.1 _ w_copy.2.2) C.2.2.2.2.2.1 hP hD hS q0 q1 t0 t1 ha0 ha1 ht0 ht1 rfl h.1 h.2.1 h.2.2.1 h.2.2.2.1 h.2.2.2.2 hfit hf hlo d (fun H1 locs1 hP1 hD1 hS1 => kk ls hL H1 locs1 hP1 hD1 hS1)
theorem J_copyS (C : jC p s m args meth c cc nL own D ty pf A) {index i a n1 : Nat} {c1 : ClassId} {g : Nat → Int32} {sp dp nn : Int32} (hi : i < 20) (ws2 : va_W) (d : decode cc pc = .ok (.invokestatic index, 3)) (w : Cond.methodLink own index arraycopyName ∈ BIG) (q1 t1 : Nat) (ha1 : ws[q1]? = some (a, .inl (c1, n1, .inl g))) (ht1 : ty[t1]? = some (c1, .byte)) (h : ¬ sp < 0 ∧ ¬ dp < 0 ∧ ¬ nn < 0 ∧ sp.toNatClampNeg + nn.toNatClampNeg ≤ sl_len i ∧ dp.toNatClampNeg + nn.toNatClampNeg ≤ n1) (hfit : ∀ j, j < nn.toNatClampNeg → fits .byte (.int (sl_ch i (sp.toNatClampNeg + j))) = true) (hf : 1 ≤ R.frames) (hlo : (st.map fun v => v.category).sum + (nativeFrameWords "java/lang/System" "arraycopy" 5 + 11) ≤ R.locals) (hw : ws.set q1 (a, .inl (c1, n1, .inl (va_cpy (sl_ch i) g sp.toNatClampNeg dp.toNatClampNeg nn.toNatClampNeg))) = ws2) (kk : J p l e R s m args below meth c nL D A Q (k) (n) (pc + 3) (lv) (st) (ws2)) : J p l e R s m args below meth c nL D A Q (k) (n) (pc) (lv) (.int nn :: .int dp :: .ref a :: .int sp :: .ref (pf (50 + i)) :: st) (ws) := by
  subst hw
  exact fun ls hL H locs hP hD hS => vk_copyt C.1 C.2.1 (C.2.2.1.trans hL.1.symm) C.2.2.2.1 (C.2.2.2.2.1 _ w) (C.2.2.2.2.1 _ w_copy.1) (C.2.2.2.2.1 _ w_copy.2.1) (C.2.2.2.2.1 _ w_copy.2.2) C.2.2.2.2.2.1 hP hD hS (C.str hi).2.2.2 q1 t1 ha1 ht1 h.1 h.2.1 h.2.2.1 h.2.2.2.1 h.2.2.2.2 hfit hf hlo d (fun H1 locs1 hP1 hD1 hS1 => kk ls hL H1 locs1 hP1 hD1 hS1)
theorem J_cloneB (C : jC p s m args meth c cc nL own D ty pf A) {index a N : Nat} {cA : ClassId} {f : Nat → Int32} (d : decode cc pc = .ok (.invokevirtual index, 3)) (w : Cond.methodLink own index ⟨"[B", "clone", "()Ljava/lang/Object;"⟩ ∈ BIG) (q0 t0 : Nat) (ha : ws[q0]? = some (a, .inl (cA, N, .inl f))) (ht : ty[t0]? = some (cA, .byte)) (hfit : ∀ i, i < N → fits .byte (.int (f i)) = true) (hf : 1 ≤ R.frames) (hlo : (st.map fun v => v.category).sum + 14 ≤ R.locals) (hkn : k + 1 ≤ R.cells ∧ n + N ≤ R.slots) (kk : ∀ q, J p l e R s m args below meth c nL D A Q (k + 1) (n + N) (pc + 3) lv (.ref q :: st) (ws ++ [(q, .inl (cA, N, .inl f))])) : J p l e R s m args below meth c nL D A Q (k) (n) (pc) (lv) (.ref a :: st) (ws) := fun ls hL H locs hP hD hS => by
  have hnm : s.vm.findClass "[B" = some cA := (C.2.2.2.2.2.1.2 t0 _ ht).2
  refine va_clone (ad := "[B") (x := (N, .inl f)) C.1 C.2.1 (C.2.2.1.trans hL.1.symm) C.2.2.2.1 (C.2.2.2.2.1 _ w) (C.2.2.2.2.1 _ w_clone.1) (C.2.2.2.2.1 _ w_clone.2.1) (C.2.2.2.2.1 _ w_clone.2.2.1) (C.2.2.2.2.1 _ w_clone.2.2.2) C.2.2.2.2.2.2.2.2.2.2.2.2.2.2.2.2.2.2.2.2 C.2.2.2.2.2.1 hP hD hS C.2.2.2.2.2.2.2.1 q0 t0 ha ht hnm (fun i v hv => ?_) hf hlo hkn.1 hkn.2 d (fun q H1 hK1 hP1 hD1 hS1 => kk q ls hL H1 locs hP1 hD1 hS1)
  have e1 : vp_cell cA (N, .inl f) = arrV cA N (fun j => .int (f j)) := rfl
  rw [e1] at hv
  have hi : i < N := by
    have h1 := (Array.getElem?_eq_some_iff.mp hv).1
    rwa [arrV_size] at h1
  rw [arrV_read cA (fun j => Value.int (f j)) hi] at hv
  cases hv
  exact hfit i hi
theorem J_castB (C : jC p s m args meth c cc nL own D ty pf A) {index a : Nat} {cA : ClassId} {x : vp_A} (d : decode cc pc = .ok (.checkcast index, 3)) (w : Cond.classLink own index "[B" ∈ BIG) (q0 t0 : Nat) (ha : ws[q0]? = some (a, .inl (cA, x))) (ht : ty[t0]? = some (cA, .byte)) (kk : J p l e R s m args below meth c nL D A Q (k) (n) (pc + 3) (lv) (.ref a :: st) (ws)) : J p l e R s m args below meth c nL D A Q (k) (n) (pc) (lv) (.ref a :: st) (ws) := fun ls hL H locs hP hD hS =>
  va_castA C.1 C.2.1 C.2.2.2.1 (C.2.2.2.2.1 _ w) hP q0 ha (C.2.2.2.2.2.1.2 t0 _ ht).2 d (kk ls hL H locs hP hD hS)
theorem J_dig (C : jC p s m args meth c cc nL own D ty pf A) {index : Nat} (d : decode cc pc = .ok (.getstatic index, 3)) (w : Cond.fieldLink own index "java/lang/Integer" "DigitOnes" "[B" ∈ BIG) (kk : J p l e R s m args below meth c nL D A Q (k) (n) (pc + 3) (lv) (.ref (pf 90) :: st) (ws)) : J p l e R s m args below meth c nL D A Q (k) (n) (pc) (lv) (st) (ws) := fun ls hL H locs hP hD hS => va_gets C.1 C.2.1 C.2.2.2.2.2.2.2.2.2.2.2.1.2.1 hS C.2.2.2.1 (C.2.2.2.2.1 _ w) (fun _ hx => hx) d (kk ls hL H locs hP hD hS)
theorem J_digT (C : jC p s m args meth c cc nL own D ty pf A) {index : Nat} (d : decode cc pc = .ok (.getstatic index, 3)) (w : Cond.fieldLink own index "java/lang/Integer" "DigitTens" "[B" ∈ BIG) (kk : J p l e R s m args below meth c nL D A Q (k) (n) (pc + 3) (lv) (.ref (pf 91) :: st) (ws)) : J p l e R s m args below meth c nL D A Q (k) (n) (pc) (lv) (st) (ws) := fun ls hL H locs hP hD hS => va_gets C.1 C.2.1 C.2.2.2.2.2.2.2.2.2.2.2.1.2.2.2.1 hS C.2.2.2.1 (C.2.2.2.2.1 _ w) (fun _ hx => hx) d (kk ls hL H locs hP hD hS)
theorem J_digAt (C : jC p s m args meth c cc nL own D ty pf A) {x : Nat} (hx : x < 100) (d : decode cc pc = .ok (.baload, 1)) (kk : J p l e R s m args below meth c nL D A Q (k) (n) (pc + 1) (lv) (.int (nI (48 + x % 10)) :: st) (ws)) : J p l e R s m args below meth c nL D A Q (k) (n) (pc) (lv) (.int (nI x) :: .ref (pf 90) :: st) (ws) := fun ls hL H locs hP hD hS => va_tb C.1 C.2.1 C.2.2.2.2.2.2.2.2.2.2.2.1.2.2.1 hS (vp_in_nI hx (by omega)) (by rw [nI_clamp (by omega)]; rfl) d (kk ls hL H locs hP hD hS)
theorem J_digTAt (C : jC p s m args meth c cc nL own D ty pf A) {x : Nat} (hx : x < 100) (d : decode cc pc = .ok (.baload, 1)) (kk : J p l e R s m args below meth c nL D A Q (k) (n) (pc + 1) (lv) (.int (nI (48 + x / 10)) :: st) (ws)) : J p l e R s m args below meth c nL D A Q (k) (n) (pc) (lv) (.int (nI x) :: .ref (pf 91) :: st) (ws) := fun ls hL H locs hP hD hS => va_tb C.1 C.2.1 C.2.2.2.2.2.2.2.2.2.2.2.1.2.2.2.2.1 hS (vp_in_nI hx (by omega)) (by rw [nI_clamp (by omega)]; rfl) d (kk ls hL H locs hP hD hS)
/-- a method of the class above, by 'super' -/
theorem J_spF (C : jC p s m args meth c cc nL own D ty pf A) {y : MethodName} {bytes : ByteArray} {maxL : Nat} {ret : Option FieldType} {rm : Room} {na index : Nat} {b : Nat} {As : List Value} {Wc : va_W} {Post : Option Value → va_W → Prop} (d : decode cc pc = .ok (.invokespecial index, 3)) (w : Cond.methodLink own index y ∈ BIG) (wu : Cond.superclass own y.cls ∈ BIG) (hM : jMu y bytes maxL ret na) (hc : Ct l D ty pf y bytes maxL ret rm (.ref b :: As) Wc Post) (Wr : va_W) (hp : ws.Perm (Wc ++ Wr)) {q0 ci : Nat} {fs : List Value} {C2 : String} {T : u_T} {N : Nat} (he : Wc[q0]? = some (b, .inr (ci, fs))) (hcl : vwCl[ci]? = some (C2, T, N)) (hna : As.length = na) (hR : rm.frames + 1 ≤ R.frames ∧ 8 + (maxL + 11) + rm.locals ≤ R.locals) (hkn : k + rm.cells ≤ R.cells ∧ n + rm.slots ≤ R.slots) (hW : (st.map fun v => v.category).sum ≤ 8) (kk : ∀ v w1, Post v w1 → J p l e R s m args below meth c nL D A Q (k + rm.cells) (n + rm.slots) (pc + 3) (lv) (v.toList ++ st) (w1 ++ Wr)) : J p l e R s m args below meth c nL D A Q (k) (n) (pc) (lv) (As.reverse ++ .ref b :: st) (ws) := by
  intro ls hL H locs hP hD hS
  have hPp := hP.perm hp
  have hDp := hD.perm hp
  have hPc : va_P D vwCl Wc H := hPp.left
  have hDc : va_D (fun _ => True) Wc := hDp.left.weaken fun _ _ _ _ => trivial
  have hF : ∀ q, va_A Wc H.size q → A q := wl_free hp hD hS C.2.2.2.2.2.2.2.1
  refine jcall (mc := rm.cells) (ms := rm.slots) (va_runSU (C.2.2.2.2.2.1.1 ci _ hcl).2 ⟨C.1, C.2.1, C.2.2.1, C.2.2.2.1, C.2.2.2.2.1⟩ (hc H.size) ⟨⟨rfl, rfl, hR.1, hR.2, pay_in C.2.2.2.2.1 (bgGood hM.1.1), List.mem_cons_self⟩, C.2.2.2.2.1 _ w, C.2.2.2.2.1 _ hM.2.2.1, C.2.2.2.2.1 _ wu, C.2.2.2.2.1 _ hM.2.1, C.2.2.2.2.1 _ hM.1.2.1, C.2.2.2.2.1 _ hM.1.1, hM.2.2.2.1, (fun sig h => by have h2 := hM.1.2.2.2.2; rw [h] at h2; exact (Option.some.inj h2).symm)⟩ ⟨jP_blind, va_recv C.2.2.2.2.2.1 hPc hcl he, fun U hU hW => ⟨rfl, by rw [hU], by rw [hU]; exact hPc, va_K.moved hW.alike C.2.2.2.2.2.1, hDc, PF.call C.2.2.2.2.2.2.2.2 hS hF hU hW⟩⟩ rfl hna hL.1 rfl (lv_room hW) d hkn) hS hF (fun v w1 H1 locs1 hp1 hP1 hD1 hz1 hk1 hS1 => ?_)
  obtain ⟨hP2, hD2⟩ := wl_join hPp hDp hk1 hP1 hD1
  exact kk v w1 hp1 ls hL H1 locs1 hP2 (hD2.weaken fun k q _ hA => (va_A_mem.mp hA).elim (fun ⟨e, h⟩ => (va_D_iff.mp hDp).2 (q.1, e) h) (fun h => C.2.2.2.2.2.2.2.1 _ (Nat.le_trans hS.1 h))) hS1
/-- an inherited method -/
theorem J_cuF (C : jC p s m args meth c cc nL own D ty pf A) {y : MethodName} {bytes : ByteArray} {maxL : Nat} {ret : Option FieldType} {rm : Room} {na index : Nat} {b : Nat} {As : List Value} {Wc : va_W} {Post : Option Value → va_W → Prop} {C2 : String} (d : decode cc pc = .ok (.invokevirtual index, 3)) (w : Cond.methodLink own index y ∈ BIG) (ws1 : Cond.selects C2 y y ∈ BIG) (hM : jMu y bytes maxL ret na) (hc : Ct l D ty pf y bytes maxL ret rm (.ref b :: As) Wc Post) (Wr : va_W) (hp : ws.Perm (Wc ++ Wr)) {q0 ci : Nat} {fs : List Value} {T : u_T} {N : Nat} (he : Wc[q0]? = some (b, .inr (ci, fs))) (hcl : vwCl[ci]? = some (C2, T, N)) (hna : As.length = na) (hR : rm.frames + 1 ≤ R.frames ∧ 8 + (maxL + 11) + rm.locals ≤ R.locals) (hkn : k + rm.cells ≤ R.cells ∧ n + rm.slots ≤ R.slots) (hW : (st.map fun v => v.category).sum ≤ 8) (kk : ∀ v w1, Post v w1 → J p l e R s m args below meth c nL D A Q (k + rm.cells) (n + rm.slots) (pc + 3) (lv) (v.toList ++ st) (w1 ++ Wr)) : J p l e R s m args below meth c nL D A Q (k) (n) (pc) (lv) (As.reverse ++ .ref b :: st) (ws) := by
  intro ls hL H locs hP hD hS
  have hPp := hP.perm hp
  have hDp := hD.perm hp
  have hPc : va_P D vwCl Wc H := hPp.left
  have hDc : va_D (fun _ => True) Wc := hDp.left.weaken fun _ _ _ _ => trivial
  have hF : ∀ q, va_A Wc H.size q → A q := wl_free hp hD hS C.2.2.2.2.2.2.2.1
  refine jcall (mc := rm.cells) (ms := rm.slots) (va_runU (x := y) (owner := y.cls) ⟨C.1, C.2.1, C.2.2.1, C.2.2.2.1, C.2.2.2.2.1⟩ (hc H.size) ⟨⟨rfl, rfl, hR.1, hR.2, pay_in C.2.2.2.2.1 (bgGood hM.1.1), List.mem_cons_self⟩, C.2.2.2.2.1 _ hM.1.1, C.2.2.2.2.1 _ hM.1.2.1, ⟨hM.1.2.2.1, hM.1.2.2.2.1⟩, (fun sig h => by have h2 := hM.1.2.2.2.2; rw [h] at h2; exact (Option.some.inj h2).symm), C.2.2.2.2.1 _ w, C.2.2.2.2.1 _ hM.2.2.1, va_Decl.of (C.2.2.2.2.1 _ hM.2.1) (C.2.2.2.2.1 _ hM.1.1), C.2.2.2.2.1 _ ws1, C.2.2.2.2.1 _ hM.2.1⟩ ⟨jP_blind, va_recv C.2.2.2.2.2.1 hPc hcl he, fun U hU hW => ⟨rfl, by rw [hU], by rw [hU]; exact hPc, va_K.moved hW.alike C.2.2.2.2.2.1, hDc, PF.call C.2.2.2.2.2.2.2.2 hS hF hU hW⟩⟩ rfl hna hL.1 rfl (lv_room hW) d hkn) hS hF (fun v w1 H1 locs1 hp1 hP1 hD1 hz1 hk1 hS1 => ?_)
  obtain ⟨hP2, hD2⟩ := wl_join hPp hDp hk1 hP1 hD1
  exact kk v w1 hp1 ls hL H1 locs1 hP2 (hD2.weaken fun k q _ hA => (va_A_mem.mp hA).elim (fun ⟨e, h⟩ => (va_D_iff.mp hDp).2 (q.1, e) h) (fun h => C.2.2.2.2.2.2.2.1 _ (Nat.le_trans hS.1 h))) hS1
/-- a method of a constant text, over a world -/
theorem J_cvSF (C : jC p s m args meth c cc nL own D ty pf A) {y : MethodName} {bytes : ByteArray} {maxL : Nat} {ret : Option FieldType} {rm : Room} {na index i : Nat} {As : List Value} {Wc : va_W} {Post : Option Value → va_W → Prop} (d : decode cc pc = .ok (.invokevirtual index, 3)) (w : Cond.methodLink own index y ∈ BIG) (hM : jMv y bytes maxL ret na) (hy : y.cls = "java/lang/String") (hi : i < 20) (hc : Ct l D ty pf y bytes maxL ret rm (.ref (pf i) :: As) Wc Post) (Wr : va_W) (hp : ws.Perm (Wc ++ Wr)) (hna : As.length = na) (hR : rm.frames + 1 ≤ R.frames ∧ 8 + (maxL + 11) + rm.locals ≤ R.locals) (hkn : k + rm.cells ≤ R.cells ∧ n + rm.slots ≤ R.slots) (hW : (st.map fun v => v.category).sum ≤ 8) (kk : ∀ v w1, Post v w1 → J p l e R s m args below meth c nL D A Q (k + rm.cells) (n + rm.slots) (pc + 3) (lv) (v.toList ++ st) (w1 ++ Wr)) : J p l e R s m args below meth c nL D A Q (k) (n) (pc) (lv) (As.reverse ++ .ref (pf i) :: st) (ws) := by
  intro ls hL H locs hP hD hS
  have hPp := hP.perm hp
  have hDp := hD.perm hp
  have hPc : va_P D vwCl Wc H := hPp.left
  have hDc : va_D (fun _ => True) Wc := hDp.left.weaken fun _ _ _ _ => trivial
  have hF : ∀ q, va_A Wc H.size q → A q := wl_free hp hD hS C.2.2.2.2.2.2.2.1
  refine jcall (mc := rm.cells) (ms := rm.slots) (va_runV ⟨C.1, C.2.1, C.2.2.1, C.2.2.2.1, C.2.2.2.2.1⟩ (hc H.size) ⟨callB_of na C.2.2.2.2.1 (bgGood hM.1.1) rfl rfl rfl (C.2.2.2.2.1 _ hM.1.2.1) (C.2.2.2.2.1 _ w) hM.1.2.2 hR, C.2.2.2.2.1 _ hM.2.1, C.2.2.2.2.1 _ hM.2.2⟩ ⟨jP_blind, by rw [hy]; exact vk_recv C.2.2.2.2.2.2.2.2.2.2.2.1.1 hi hS, fun U hU hW => ⟨rfl, by rw [hU], by rw [hU]; exact hPc, va_K.moved hW.alike C.2.2.2.2.2.1, hDc, PF.call C.2.2.2.2.2.2.2.2 hS hF hU hW⟩⟩ rfl hna hL.1 rfl (lv_room hW) d hkn) hS hF (fun v w1 H1 locs1 hp1 hP1 hD1 hz1 hk1 hS1 => ?_)
  obtain ⟨hP2, hD2⟩ := wl_join hPp hDp hk1 hP1 hD1
  exact kk v w1 hp1 ls hL H1 locs1 hP2 (hD2.weaken fun k q _ hA => (va_A_mem.mp hA).elim (fun ⟨e, h⟩ => (va_D_iff.mp hDp).2 (q.1, e) h) (fun h => C.2.2.2.2.2.2.2.1 _ (Nat.le_trans hS.1 h))) hS1
/-- a method that a class below has in its own way -/
theorem J_coF (C : jC p s m args meth c cc nL own D ty pf A) {x y : MethodName} {bytes bx : ByteArray} {maxL mx : Nat} {ret rx : Option FieldType} {rm : Room} {na index : Nat} {b : Nat} {As : List Value} {Wc : va_W} {Post : Option Value → va_W → Prop} {C2 : String} (d : decode cc pc = .ok (.invokevirtual index, 3)) (w : Cond.methodLink own index x ∈ BIG) (ws1 : Cond.selects C2 x y ∈ BIG) (hX : jMu x bx mx rx na) (hM : jM y bytes maxL ret na) (hMi : Cond.instanceMethod y ∈ BIG) (hc : Ct l D ty pf y bytes maxL ret rm (.ref b :: As) Wc Post) (Wr : va_W) (hp : ws.Perm (Wc ++ Wr)) {q0 ci : Nat} {fs : List Value} {T : u_T} {N : Nat} (he : Wc[q0]? = some (b, .inr (ci, fs))) (hcl : vwCl[ci]? = some (C2, T, N)) (hna : As.length = na) (hR : rm.frames + 1 ≤ R.frames ∧ 8 + (maxL + 11) + rm.locals ≤ R.locals) (hkn : k + rm.cells ≤ R.cells ∧ n + rm.slots ≤ R.slots) (hW : (st.map fun v => v.category).sum ≤ 8) (kk : ∀ v w1, Post v w1 → J p l e R s m args below meth c nL D A Q (k + rm.cells) (n + rm.slots) (pc + 3) (lv) (v.toList ++ st) (w1 ++ Wr)) : J p l e R s m args below meth c nL D A Q (k) (n) (pc) (lv) (As.reverse ++ .ref b :: st) (ws) := by
  intro ls hL H locs hP hD hS
  have hPp := hP.perm hp
  have hDp := hD.perm hp
  have hPc : va_P D vwCl Wc H := hPp.left
  have hDc : va_D (fun _ => True) Wc := hDp.left.weaken fun _ _ _ _ => trivial
  have hF : ∀ q, va_A Wc H.size q → A q := wl_free hp hD hS C.2.2.2.2.2.2.2.1
  refine jcall (mc := rm.cells) (ms := rm.slots) (va_runU (x := x) (owner := x.cls) ⟨C.1, C.2.1, C.2.2.1, C.2.2.2.1, C.2.2.2.2.1⟩ (hc H.size) ⟨⟨rfl, rfl, hR.1, hR.2, pay_in C.2.2.2.2.1 (bgGood hM.1), List.mem_cons_self⟩, C.2.2.2.2.1 _ hM.1, C.2.2.2.2.1 _ hM.2.1, ⟨hX.1.2.2.1, hX.1.2.2.2.1⟩, (fun sig h => by have h2 := hX.1.2.2.2.2; rw [h] at h2; exact (Option.some.inj h2).symm), C.2.2.2.2.1 _ w, C.2.2.2.2.1 _ hX.2.2.1, va_Decl.of (C.2.2.2.2.1 _ hX.2.1) (C.2.2.2.2.1 _ hX.1.1), C.2.2.2.2.1 _ ws1, C.2.2.2.2.1 _ hMi⟩ ⟨jP_blind, va_recv C.2.2.2.2.2.1 hPc hcl he, fun U hU hW => ⟨rfl, by rw [hU], by rw [hU]; exact hPc, va_K.moved hW.alike C.2.2.2.2.2.1, hDc, PF.call C.2.2.2.2.2.2.2.2 hS hF hU hW⟩⟩ rfl hna hL.1 rfl (lv_room hW) d hkn) hS hF (fun v w1 H1 locs1 hp1 hP1 hD1 hz1 hk1 hS1 => ?_)
  obtain ⟨hP2, hD2⟩ := wl_join hPp hDp hk1 hP1 hD1
  exact kk v w1 hp1 ls hL H1 locs1 hP2 (hD2.weaken fun k q _ hA => (va_A_mem.mp hA).elim (fun ⟨e, h⟩ => (va_D_iff.mp hDp).2 (q.1, e) h) (fun h => C.2.2.2.2.2.2.2.1 _ (Nat.le_trans hS.1 h))) hS1
end JSU

