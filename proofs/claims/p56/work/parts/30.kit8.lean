theorem w_oi1 : Cond.instanceMethod Lib.objectInit ∈ BIG := bg1 37 (by decide +kernel)
theorem w_oi2 : Cond.code Lib.objectInit ⟨#[0xb1]⟩ 1 none ∈ BIG := bg1 38 (by decide +kernel)
theorem w_arI : Cond.arrayClass .int ∈ BIG := bg1 52 (by decide +kernel)
theorem w_arB : Cond.arrayClass .byte ∈ BIG := bg3 77 (by decide +kernel)
section J8
variable {p : Program} {l : Launch} {e : Env} {R : Room} {s : State} {m : MethodId} {args : Array Value} {below : List Frame} {meth : Method} {c : Code} {cc : ByteArray} {nL : Nat} {own : String} {D : va_G} {ty : List (ClassId × FieldType)} {pf : Nat → Nat} {A : Nat → Prop} {Q : State → Prop} {k n : Nat} {pc : Nat} {lv : List (Nat × Value)} {st : List Value} {ws : va_W} {α : Type} {o : α}
theorem J_objInit (C : jC p s m args meth c cc nL own D ty pf A) {index a : Nat} (d : decode cc pc = .ok (.invokespecial index, 3)) (w : Cond.methodLink own index Lib.objectInit ∈ BIG) (hR : 1 ≤ R.frames ∧ 20 ≤ R.locals) (hW : (st.map fun v => v.category).sum ≤ 8) (kk : J p l e R s m args below meth c nL D A Q (k) (n) (pc + 3) (lv) (st) (ws)) : J p l e R s m args below meth c nL D A Q (k) (n) (pc) (lv) (.ref a :: st) (ws) := fun ls hL H locs hP hD hS =>
  W.objInit C.1 C.2.1 C.2.2.2.1 (C.2.2.2.2.1 _ w) (C.2.2.2.2.1 _ w_oi1) (C.2.2.2.2.1 _ w_oi2) rfl (hL.1.trans C.2.2.1.symm) rfl d hR.1 (Nat.le_trans (Nat.add_le_add_right (lv_room hW) 12) hR.2) (kk ls hL H locs hP hD hS)
theorem J_ciNF (C : jC p s m args meth c cc nL own D ty pf A) {y : MethodName} {bytes : ByteArray} {maxL : Nat} {rm : Room} {na index : Nat} {b : Nat} {As : List Value} {Wc : va_W} {Post : Option Value → va_W → Prop} {host : String} (d : decode cc pc = .ok (.invokespecial index, 3)) (w : va_Nw (.methodLinkNest own index y host) s) (hM : jMi y bytes maxL na) (hc : Ct l D ty pf y bytes maxL none rm (.ref b :: As) Wc Post) (Wr : va_W) (hp : ws.Perm (Wc ++ Wr)) (hna : As.length = na) (hR : rm.frames + 1 ≤ R.frames ∧ 8 + (maxL + 11) + rm.locals ≤ R.locals) (hkn : k + rm.cells ≤ R.cells ∧ n + rm.slots ≤ R.slots) (hW : (st.map fun v => v.category).sum ≤ 8) (kk : ∀ v w1, Post v w1 → J p l e R s m args below meth c nL D A Q (k + rm.cells) (n + rm.slots) (pc + 3) (lv) (v.toList ++ st) (w1 ++ Wr)) : J p l e R s m args below meth c nL D A Q (k) (n) (pc) (lv) (As.reverse ++ .ref b :: st) (ws) := by
  intro ls hL H locs hP hD hS
  have hPp := hP.perm hp
  have hDp := hD.perm hp
  have hPc : va_P D vwCl Wc H := hPp.left
  have hDc : va_D (fun _ => True) Wc := hDp.left.weaken fun _ _ _ _ => trivial
  have hF : ∀ q, va_A Wc H.size q → A q := wl_free hp hD hS C.2.2.2.2.2.2.2.1
  refine jcall (mc := rm.cells) (ms := rm.slots) (va_runIN ⟨C.1, C.2.1, C.2.2.1, C.2.2.2.1, C.2.2.2.2.1⟩ (hc H.size) ⟨⟨⟨rfl, rfl, hR.1, hR.2, pay_in C.2.2.2.2.1 (bgGood hM.1.1), List.mem_cons_self⟩, C.2.2.2.2.1 _ hM.1.1, C.2.2.2.2.1 _ hM.1.2.1, ⟨hM.1.2.2.1, hM.1.2.2.2.1⟩, (fun sig h => by have h2 := hM.1.2.2.2.2; rw [h] at h2; exact (Option.some.inj h2).symm), va_Nw.use rfl w⟩, hM.2.2, C.2.2.2.2.1 _ hM.2.1⟩ ⟨jP_blind, fun U hU hW => ⟨rfl, by rw [hU], by rw [hU]; exact hPc, va_K.moved hW.alike C.2.2.2.2.2.1, hDc, PF.call C.2.2.2.2.2.2.2.2 hS hF hU hW⟩⟩ rfl hna hL.1 rfl (lv_room hW) d hkn) hS hF (fun v w1 H1 locs1 hp1 hP1 hD1 hz1 hk1 hS1 => ?_)
  obtain ⟨hP2, hD2⟩ := wl_join hPp hDp hk1 hP1 hD1
  exact kk v w1 hp1 ls hL H1 locs1 hP2 (hD2.weaken fun k q _ hA => (va_A_mem.mp hA).elim (fun ⟨e, h⟩ => (va_D_iff.mp hDp).2 (q.1, e) h) (fun h => C.2.2.2.2.2.2.2.1 _ (Nat.le_trans hS.1 h))) hS1
theorem J_astq (C : jC p s m args meth c cc nL own D ty pf A) {cA : ClassId} {r : vw_C} {a N v ci : Nat} {vs : List Value} {f : Nat → Option Nat} {i : Int32} (d : decode cc pc = .ok (.aastore, 1)) (q0 t0 qk : Nat) (ha : ws[q0]? = some (a, .inl (cA, N, .inr (.inr (.inr (.inr f)))))) (ht : ty[t0]? = some (cA, .object r.1)) (hv : ws[qk]? = some (v, .inr (ci, vs))) (hc : vwCl[ci]? = some r) (hin : vp_in i N) (kk : J p l e R s m args below meth c nL D A Q (k) (n) (pc + 1) (lv) (st) (ws.set q0 (a, .inl (cA, N, .inr (.inr (.inr (.inr (va_up f i.toNatClampNeg (some v))))))))) : J p l e R s m args below meth c nL D A Q (k) (n) (pc) (lv) (.ref v :: .int i :: .ref a :: st) (ws) := fun ls hL H locs hP hD hS =>
  va_astq C.1 C.2.1 C.2.2.2.2.2.1 hP hD hS q0 t0 qk ci ha ht hv hc hin d (fun H1 locs1 hP1 hD1 hS1 => kk ls hL H1 locs1 hP1 hD1 hS1)
theorem J_iincK (C : jC p s m args meth c cc nL own D ty pf A) {i : Nat} {j : Int} {x v x2 : Int32} {lv2 : List (Nat × Value)} (d : decode cc pc = .ok (.iinc i j, 3)) (q : Nat) (hk : lv[q]? = some (i, .int x)) (hv : Int32.ofInt j = v) (hx : x + v = x2) (hn : i < nL) (hl : (i, Value.int x2) :: lv.filter (fun q => !(q.1 == i) && !(q.1 + 1 == i && q.2.category == 2)) = lv2) (kk : J p l e R s m args below meth c nL D A Q (k) (n) (pc + 3) (lv2) (st) (ws)) : J p l e R s m args below meth c nL D A Q (k) (n) (pc) (lv) (st) (ws) := by
  subst hx
  exact J_iinc C d q hk hv hn hl kk
end J8
/-- pieces of a world and the rest -/
theorem seg_split {segs Wc Wr : List va_W} (isC isR : List Nat) (hC : isC.map (fun i => segs[i]?) = Wc.map some) (hR : isR.map (fun i => segs[i]?) = Wr.map some) (n : Nat) (hn : segs.length = n) (hp : (isC ++ isR).isPerm (List.range n) = true) : (List.flatten segs).Perm (List.flatten Wc ++ List.flatten Wr) := by
  have := perm_flatten (perm_pos isC isR hC hR (by rw [hn]; exact List.isPerm_iff.mp hp))
  rwa [List.flatten_append] at this
theorem flat_snoc (l : List va_W) (c : va_W) : List.flatten l ++ c = List.flatten (l ++ [c]) := by
  rw [List.flatten_append, List.flatten_cons, List.flatten_nil, List.append_nil]

set_option maxRecDepth 100000 in
theorem df_X0 : ∀ j, j < 17 → defaultValue (tyX0 j) = vp_V [.null, .null, .null, .null, .null, .null, .null, .null, .null, .null, .null, .null, .null, .null, .null, .int 0, .int 0] j := by decide +kernel
set_option maxRecDepth 100000 in
theorem df_X1 : ∀ j, j < 5 → defaultValue (tyX1 j) = vp_V [.null, .null, .null, .null, .int 0] j := by decide +kernel
set_option maxRecDepth 100000 in
theorem df_X2 : ∀ j, j < 3 → defaultValue (tyX2 j) = vp_V [.null, .int 0, .int 0] j := by decide +kernel
set_option maxRecDepth 100000 in
theorem df_X3 : ∀ j, j < 2 → defaultValue (tyX3 j) = vp_V [.null, .int 0] j := by decide +kernel
set_option maxRecDepth 100000 in
theorem df_X4 : ∀ j, j < 3 → defaultValue (tyX4 j) = vp_V [.null, .int 0, .int 0] j := by decide +kernel
set_option maxRecDepth 100000 in
theorem df_X5 : ∀ j, j < 2 → defaultValue (tyX5 j) = vp_V [.null, .int 0] j := by decide +kernel
set_option maxRecDepth 100000 in
theorem df_X6 : ∀ j, j < 1 → defaultValue (tyX6 j) = vp_V [.null] j := by decide +kernel
set_option maxRecDepth 100000 in
theorem df_X7 : ∀ j, j < 14 → defaultValue (tyX7 j) = vp_V [.null, .null, .null, .null, .null, .null, .null, .null, .null, .null, .null, .int 0, .int 0, .int 0] j := by decide +kernel
set_option maxRecDepth 100000 in
theorem df_X8 : ∀ j, j < 6 → defaultValue (tyX8 j) = vp_V [.null, .null, .int 0, .int 0, .int 0, .int 0] j := by decide +kernel
set_option maxRecDepth 100000 in
theorem df_X9 : ∀ j, j < 2 → defaultValue (tyX9 j) = vp_V [.int 0, .int 0] j := by decide +kernel
set_option maxRecDepth 100000 in
theorem df_X10 : ∀ j, j < 8 → defaultValue (tyX10 j) = vp_V [.null, .null, .null, .null, .null, .null, .null, .int 0] j := by decide +kernel
