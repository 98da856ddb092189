section WL
variable {D : va_G} {cl : List vw_C}
theorem va_P.perm {ws ws2 : va_W} {H : Heap} (hp : ws.Perm ws2) (h : va_P D cl ws H) : va_P D cl ws2 H := fun k q hq => by
  obtain ⟨j, hj⟩ := List.getElem?_of_mem (hp.mem_iff.mpr (List.mem_of_getElem? hq))
  exact h j q hj
theorem va_D_iff {A : Nat → Prop} {ws : va_W} : va_D A ws ↔ (ws.map (fun q => q.1)).Nodup ∧ ∀ q ∈ ws, A q.1 := by
  constructor
  · intro h
    refine ⟨?_, fun q hq => ?_⟩
    · rw [List.Nodup, List.pairwise_iff_getElem]
      intro i j hi hj hij he
      rw [List.getElem_map, List.getElem_map] at he
      have hi' : i < ws.length := by simpa using hi
      have hj' : j < ws.length := by simpa using hj
      have := h.1 i j ws[i] ws[j] (List.getElem?_eq_getElem hi') (List.getElem?_eq_getElem hj') he
      omega
    · obtain ⟨k, hk⟩ := List.getElem?_of_mem hq
      exact h.2 k q hk
  · rintro ⟨h1, h2⟩
    refine ⟨fun i j x y hi hj he => ?_, fun k q hq => h2 q (List.mem_of_getElem? hq)⟩
    rw [List.Nodup, List.pairwise_iff_getElem] at h1
    obtain ⟨hi1, hi2⟩ := List.getElem?_eq_some_iff.mp hi
    obtain ⟨hj1, hj2⟩ := List.getElem?_eq_some_iff.mp hj
    rcases Nat.lt_trichotomy i j with q | q | q
    · exact absurd (by rw [List.getElem_map, List.getElem_map, hi2, hj2]; exact he) (h1 i j (by simpa using hi1) (by simpa using hj1) q)
    · exact q
    · exact absurd (by rw [List.getElem_map, List.getElem_map, hi2, hj2]; exact he.symm) (h1 j i (by simpa using hj1) (by simpa using hi1) q)
theorem va_D.perm {A : Nat → Prop} {ws ws2 : va_W} (hp : ws.Perm ws2) (h : va_D A ws) : va_D A ws2 := by
  rw [va_D_iff] at h ⊢
  exact ⟨(hp.map _).nodup_iff.mp h.1, fun q hq => h.2 q (hp.mem_iff.mpr hq)⟩
theorem va_A_mem {ws : va_W} {sz q : Nat} : va_A ws sz q ↔ (∃ e : va_E, (q, e) ∈ ws) ∨ sz ≤ q := by
  constructor
  · rintro (⟨k, e, h⟩ | h)
    · exact Or.inl ⟨e, List.mem_of_getElem? h⟩
    · exact Or.inr h
  · rintro (⟨e, h⟩ | h)
    · obtain ⟨k, hk⟩ := List.getElem?_of_mem h
      exact Or.inl ⟨k, e, hk⟩
    · exact Or.inr h
theorem va_A.perm {ws ws2 : va_W} {sz q : Nat} (hp : ws.Perm ws2) (h : va_A ws sz q) : va_A ws2 sz q := by
  rw [va_A_mem] at h ⊢
  exact h.imp (fun ⟨e, h⟩ => ⟨e, hp.mem_iff.mp h⟩) id
theorem va_A.appL {Wc Wr : va_W} {sz q : Nat} (h : va_A Wc sz q) : va_A (Wc ++ Wr) sz q := by
  rw [va_A_mem] at h ⊢
  exact h.imp (fun ⟨e, h⟩ => ⟨e, List.mem_append_left _ h⟩) id
theorem va_P.left {Wc Wr : va_W} {H : Heap} (h : va_P D cl (Wc ++ Wr) H) : va_P D cl Wc H := fun k q hq => h k q (by rw [List.getElem?_append_left (List.getElem?_eq_some_iff.mp hq).1]; exact hq)
theorem va_P.right {Wc Wr : va_W} {H : Heap} (h : va_P D cl (Wc ++ Wr) H) : va_P D cl Wr H := (va_P.perm List.perm_append_comm h).left
theorem va_D.left {A : Nat → Prop} {Wc Wr : va_W} (h : va_D A (Wc ++ Wr)) : va_D A Wc := by
  rw [va_D_iff] at h ⊢
  rw [List.map_append, List.nodup_append] at h
  exact ⟨h.1.1, fun q hq => h.2 q (List.mem_append_left _ hq)⟩
theorem wl_out {A0 : Nat → Prop} {Wc Wr : va_W} {H : Heap} (hP : va_P D cl (Wc ++ Wr) H) (hD : va_D A0 (Wc ++ Wr)) {q : Nat × va_E} (hq : q ∈ Wr) : q.1 < H.size ∧ ¬ va_A Wc H.size q.1 := by
  obtain ⟨k, hk⟩ := List.getElem?_of_mem hq
  have hlt := (hP.right k q hk).lt
  refine ⟨hlt, fun h => ?_⟩
  rw [va_A_mem] at h
  rcases h with ⟨e, h⟩ | h
  · rw [va_D_iff, List.map_append, List.nodup_append] at hD
    exact hD.1.2.2 _ (List.mem_map_of_mem h) _ (List.mem_map_of_mem hq) rfl
  · omega
/-- a callee's cells changed, the rest's not -/
theorem wl_join {A0 : Nat → Prop} {Wc Wr w1 : va_W} {H H1 : Heap} (hP : va_P D cl (Wc ++ Wr) H) (hD : va_D A0 (Wc ++ Wr)) (hk : ∀ q : Nat, q < H.size → ¬ va_A Wc H.size q → H1[q]? = H[q]?) (hP1 : va_P D cl w1 H1) (hD1 : va_D (va_A Wc H.size) w1) : va_P D cl (w1 ++ Wr) H1 ∧ va_D (va_A (Wc ++ Wr) H.size) (w1 ++ Wr) := by
  refine ⟨hP1.app (hP.right.kept fun k q hq => ?_), ?_⟩
  · have := wl_out hP hD (List.mem_of_getElem? hq)
    exact hk _ this.1 this.2
  · have hD0 := hD
    rw [va_D_iff] at hD hD1 ⊢
    rw [List.map_append, List.nodup_append] at hD ⊢
    refine ⟨⟨hD1.1, hD.1.2.1, fun a ha b hb he => ?_⟩, fun q hq => ?_⟩
    · obtain ⟨x, hx, rfl⟩ := List.mem_map.mp ha
      obtain ⟨y, hy, rfl⟩ := List.mem_map.mp hb
      exact (wl_out hP hD0 hy).2 (by rw [← he]; exact hD1.2 x hx)
    · rcases List.mem_append.mp hq with h | h
      · exact (hD1.2 q h).appL
      · rw [va_A_mem]
        exact Or.inl ⟨q.2, List.mem_append_right _ h⟩
/-- explicit lists: a selection and its rest -/
theorem perm_pos {α : Type} {ws Wc Wr : List α} (isC isR : List Nat) (hC : isC.map (fun i => ws[i]?) = Wc.map some) (hR : isR.map (fun i => ws[i]?) = Wr.map some) (hp : (isC ++ isR).Perm (List.range ws.length)) : ws.Perm (Wc ++ Wr) := by
  have h1 : ((isC ++ isR).map (fun i => ws[i]?)).Perm ((List.range ws.length).map (fun i => ws[i]?)) := hp.map _
  rw [List.map_append, hC, hR, ← List.map_append] at h1
  have h2 : (List.range ws.length).map (fun i => ws[i]?) = ws.map some := by
    apply List.ext_getElem?
    intro k
    rw [List.getElem?_map, List.getElem?_map]
    by_cases hk : k < ws.length
    · rw [List.getElem?_range hk]; show some (ws[k]?) = (ws[k]?).map some; rw [List.getElem?_eq_getElem hk]; rfl
    · rw [List.getElem?_eq_none (by rw [List.length_range]; omega), List.getElem?_eq_none (by omega)]; rfl
  rw [h2] at h1
  have h3 := (h1.filterMap id).symm
  have h4 : ∀ l : List α, (l.map some).filterMap id = l := fun l => by
    induction l with
    | nil => rfl
    | cons a l ih => simp
  rw [h4, h4] at h3
  exact h3
end WL
section CK
variable {l : Launch} {D : va_G} {ty : List (ClassId × FieldType)} {pf : Nat → Nat}
theorem PF.narrow {A B : Nat → Prop} {U : State} (h : PF pf A U U.heap) (hB : ∀ q, B q → A q) : PF pf B U U.heap := by
  obtain ⟨h1, h2, h3, h4, h5, h6, h7, h8, h9⟩ := h
  exact ⟨h1, h2, h3, h4.narrow hB, h5.narrow hB, h6.narrow hB, h7.narrow hB, h8.narrow hB, h9⟩
theorem jP_narrow {av : List Value} {ws Wc Wr : va_W} {sz : Nat} (hp : ws.Perm (Wc ++ Wr)) {a : Array Value} {s : State} (h : jP D ty pf av ws sz a s) : jP D ty pf av Wc sz a s := by
  obtain ⟨h1, h2, h3, h4, h5, h6⟩ := h
  exact ⟨h1, h2, (h3.perm hp).left, h4, (h5.perm hp).left, h6.narrow fun q hq => (hq.appL (Wr := Wr)).perm hp.symm⟩
theorem jQ_frame {av : List Value} {ws Wc Wr : va_W} {sz : Nat} {Post Post' : Option Value → va_W → Prop} (hp : ws.Perm (Wc ++ Wr)) (hq : ∀ v w1, Post v w1 → ∃ ws2 : va_W, Post' v ws2 ∧ (w1 ++ Wr).Perm ws2) {a : Array Value} {s : State} {o : Outcome} {t : State} (h0 : jP D ty pf av ws sz a s) (h : jQ D ty Wc sz Post a s o t) : jQ D ty ws sz Post' a s o t := by
  obtain ⟨h1, h2, h3, h4, h5, h6⟩ := h0
  obtain ⟨⟨v, w1, g1, g2, g3, g4, g5⟩, g6, g7⟩ := h
  subst h2
  obtain ⟨ws2, g8, g9⟩ := hq v w1 g2
  obtain ⟨k1, k2⟩ := wl_join (h3.perm hp) (h5.perm hp) g7 g3 g5
  exact ⟨⟨v, ws2, g1, g8, k1.perm g9, g4, (k2.perm g9).weaken fun k q _ hA => hA.perm hp.symm⟩, g6, fun q q1 q2 => g7 q q1 fun z => q2 ((z.appL (Wr := Wr)).perm hp.symm)⟩
/-- a contract over a bigger world -/
theorem Ct_sub {y : MethodName} {cc : ByteArray} {maxL : Nat} {ret : Option FieldType} {rm : Room} {av : List Value} {ws Wc Wr : va_W} {Post Post' : Option Value → va_W → Prop} (h : Ct l D ty pf y cc maxL ret rm av Wc Post) (hp : ws.Perm (Wc ++ Wr)) (hq : ∀ v w1, Post v w1 → ∃ ws2 : va_W, Post' v ws2 ∧ (w1 ++ Wr).Perm ws2) : Ct l D ty pf y cc maxL ret rm av ws Post' := fun sz =>
  Jvm.Free.MetFree.mono (h sz) (fun a s q => jP_narrow hp q) (fun _ _ _ _ _ q => q) (fun a s o t h0 q => ⟨jQ_frame hp hq h0 q.1, by
    obtain ⟨-, L, q1, q2⟩ := q
    exact ⟨L, q1, fun z hz => ((q2 z hz).appL (Wr := Wr)).perm hp.symm⟩⟩)
/-- .. that stays what it is, but for cells at places -/
theorem Ct_at {y : MethodName} {cc : ByteArray} {maxL : Nat} {ret : Option FieldType} {rm : Room} {av : List Value} {ws ws2 Wc w1 : va_W} {V : Option Value} (h : Ct l D ty pf y cc maxL ret rm av Wc (is1 V w1)) (Wr : va_W) (isC isR : List Nat) (hC : isC.map (fun i => ws[i]?) = Wc.map some) (hR : isR.map (fun i => ws[i]?) = Wr.map some) (hC2 : isC.map (fun i => ws2[i]?) = w1.map some) (hR2 : isR.map (fun i => ws2[i]?) = Wr.map some) (n : Nat) (hn : ws.length = n) (hn2 : ws2.length = n) (hp : (isC ++ isR).isPerm (List.range n) = true) : Ct l D ty pf y cc maxL ret rm av ws (is1 V ws2) := by
  have hp' := List.isPerm_iff.mp hp
  refine Ct_sub h (perm_pos isC isR hC hR (by rw [hn]; exact hp')) ?_
  rintro v w ⟨rfl, rfl⟩
  exact ⟨ws2, ⟨rfl, rfl⟩, (perm_pos isC isR hC2 hR2 (by rw [hn2]; exact hp')).symm⟩
end CK
section JF
variable {p : Program} {l : Launch} {e : Env} {R : Room} {s : State} {m : MethodId} {args : Array Value} {below : List Frame} {meth : Method} {c : Code} {cc : ByteArray} {nL : Nat} {own : String} {D : va_G} {ty : List (ClassId × FieldType)} {pf : Nat → Nat} {A : Nat → Prop} {Q : State → Prop} {k n : Nat} {pc : Nat} {lv : List (Nat × Value)} {st : List Value} {ws : va_W} {α : Type} {o : α}
theorem J_perm {ws2 : va_W} (hp : ws.Perm ws2) (kk : J p l e R s m args below meth c nL D A Q (k) (n) (pc) (lv) (st) (ws2)) : J p l e R s m args below meth c nL D A Q (k) (n) (pc) (lv) (st) (ws) := fun ls hL H locs hP hD hS => kk ls hL H locs (hP.perm hp) (hD.perm hp) hS
theorem J_bind {ρ : Type} {fx : Option ρ} {K : ρ → Option α} (h : fx.bind K = some o) (kk : ∀ r, fx = some r → K r = some o → J p l e R s m args below meth c nL D A Q (k) (n) (pc) (lv) (st) (ws)) : J p l e R s m args below meth c nL D A Q (k) (n) (pc) (lv) (st) (ws) := by
  obtain ⟨r, hr, hK⟩ := Option.bind_eq_some_iff.mp h
  exact kk r hr hK
theorem wl_free {A : Nat → Prop} {ws Wc Wr : va_W} {H0 H : Heap} {locs : List Loc} (hp : ws.Perm (Wc ++ Wr)) (hD : va_D A ws) (hS : va_S A H0 H locs) (hA : ∀ q, H0.size ≤ q → A q) : ∀ q, va_A Wc H.size q → A q := by
  intro q h
  rcases va_A_mem.mp h with ⟨e, h⟩ | h
  · exact (va_D_iff.mp hD).2 (q, e) (hp.mem_iff.mpr (List.mem_append_left _ h))
  · exact hA q (Nat.le_trans hS.1 h)
theorem J_cvF (C : jC p s m args meth c cc nL own D ty pf A) {y : MethodName} {bytes : ByteArray} {maxL : Nat} {ret : Option FieldType} {rm : Room} {na index : Nat} {b : Nat} {As : List Value} {Wc : va_W} {Post : Option Value → va_W → Prop} (d : decode cc pc = .ok (.invokevirtual index, 3)) (w : Cond.methodLink own index y ∈ BIG) (hM : jMv y bytes maxL ret na) (hc : Ct l D ty pf y bytes maxL ret rm (.ref b :: As) Wc Post) (Wr : va_W) (hp : ws.Perm (Wc ++ Wr)) {q0 ci : Nat} {fs : List Value} {T : u_T} {N : Nat} (he : Wc[q0]? = some (b, .inr (ci, fs))) (hcl : vwCl[ci]? = some (y.cls, T, N)) (hna : As.length = na) (hR : rm.frames + 1 ≤ R.frames ∧ 8 + (maxL + 11) + rm.locals ≤ R.locals) (hkn : k + rm.cells ≤ R.cells ∧ n + rm.slots ≤ R.slots) (hW : (st.map fun v => v.category).sum ≤ 8) (kk : ∀ v w1, Post v w1 → J p l e R s m args below meth c nL D A Q (k + rm.cells) (n + rm.slots) (pc + 3) (lv) (v.toList ++ st) (w1 ++ Wr)) : J p l e R s m args below meth c nL D A Q (k) (n) (pc) (lv) (As.reverse ++ .ref b :: st) (ws) := by
  intro ls hL H locs hP hD hS
  have hPp := hP.perm hp
  have hDp := hD.perm hp
  have hPc : va_P D vwCl Wc H := hPp.left
  have hDc : va_D (fun _ => True) Wc := hDp.left.weaken fun _ _ _ _ => trivial
  have hF : ∀ q, va_A Wc H.size q → A q := wl_free hp hD hS C.2.2.2.2.2.2.2.1
  refine jcall (mc := rm.cells) (ms := rm.slots) (va_runV ⟨C.1, C.2.1, C.2.2.1, C.2.2.2.1, C.2.2.2.2.1⟩ (hc H.size) ⟨callB_of na C.2.2.2.2.1 (bgGood hM.1.1) rfl rfl rfl (C.2.2.2.2.1 _ hM.1.2.1) (C.2.2.2.2.1 _ w) hM.1.2.2 hR, C.2.2.2.2.1 _ hM.2.1, C.2.2.2.2.1 _ hM.2.2⟩ ⟨jP_blind, va_recv C.2.2.2.2.2.1 hPc hcl he, fun U hU hW => ⟨rfl, by rw [hU], by rw [hU]; exact hPc, va_K.moved hW.alike C.2.2.2.2.2.1, hDc, PF.call C.2.2.2.2.2.2.2.2 hS hF hU hW⟩⟩ rfl hna hL.1 rfl (lv_room hW) d hkn) hS hF (fun v w1 H1 locs1 hp1 hP1 hD1 hz1 hk1 hS1 => ?_)
  obtain ⟨hP2, hD2⟩ := wl_join hPp hDp hk1 hP1 hD1
  exact kk v w1 hp1 ls hL H1 locs1 hP2 (hD2.weaken fun k q _ hA => (va_A_mem.mp hA).elim (fun ⟨e, h⟩ => (va_D_iff.mp hDp).2 (q.1, e) h) (fun h => C.2.2.2.2.2.2.2.1 _ (Nat.le_trans hS.1 h))) hS1
theorem J_csF (C : jC p s m args meth c cc nL own D ty pf A) {y : MethodName} {bytes : ByteArray} {maxL : Nat} {ret : Option FieldType} {rm : Room} {na index : Nat} {b : Nat} {As : List Value} {Wc : va_W} {Post : Option Value → va_W → Prop} (d : decode cc pc = .ok (.invokestatic index, 3)) (w : Cond.methodLink own index y ∈ BIG) (hM : jMs y bytes maxL ret na) (hc : Ct l D ty pf y bytes maxL ret rm As Wc Post) (Wr : va_W) (hp : ws.Perm (Wc ++ Wr)) (hna : As.length = na) (hR : rm.frames + 1 ≤ R.frames ∧ 8 + (maxL + 11) + rm.locals ≤ R.locals) (hkn : k + rm.cells ≤ R.cells ∧ n + rm.slots ≤ R.slots) (hW : (st.map fun v => v.category).sum ≤ 8) (kk : ∀ v w1, Post v w1 → J p l e R s m args below meth c nL D A Q (k + rm.cells) (n + rm.slots) (pc + 3) (lv) (v.toList ++ st) (w1 ++ Wr)) : J p l e R s m args below meth c nL D A Q (k) (n) (pc) (lv) (As.reverse ++ st) (ws) := by
  intro ls hL H locs hP hD hS
  have hPp := hP.perm hp
  have hDp := hD.perm hp
  have hPc : va_P D vwCl Wc H := hPp.left
  have hDc : va_D (fun _ => True) Wc := hDp.left.weaken fun _ _ _ _ => trivial
  have hF : ∀ q, va_A Wc H.size q → A q := wl_free hp hD hS C.2.2.2.2.2.2.2.1
  refine jcall (mc := rm.cells) (ms := rm.slots) (va_runS ⟨C.1, C.2.1, C.2.2.1, C.2.2.2.1, C.2.2.2.2.1⟩ (hc H.size) ⟨callB_of na C.2.2.2.2.1 (bgGood hM.1.1) rfl rfl rfl (C.2.2.2.2.1 _ hM.1.2.1) (C.2.2.2.2.1 _ w) hM.1.2.2 hR, C.2.2.2.2.1 _ hM.2⟩ ⟨jP_blind, fun U hU hW => ⟨rfl, by rw [hU], by rw [hU]; exact hPc, va_K.moved hW.alike C.2.2.2.2.2.1, hDc, PF.call C.2.2.2.2.2.2.2.2 hS hF hU hW⟩⟩ rfl hna hL.1 rfl (lv_room hW) d hkn) hS hF (fun v w1 H1 locs1 hp1 hP1 hD1 hz1 hk1 hS1 => ?_)
  obtain ⟨hP2, hD2⟩ := wl_join hPp hDp hk1 hP1 hD1
  exact kk v w1 hp1 ls hL H1 locs1 hP2 (hD2.weaken fun k q _ hA => (va_A_mem.mp hA).elim (fun ⟨e, h⟩ => (va_D_iff.mp hDp).2 (q.1, e) h) (fun h => C.2.2.2.2.2.2.2.1 _ (Nat.le_trans hS.1 h))) hS1
theorem J_ciF (C : jC p s m args meth c cc nL own D ty pf A) {y : MethodName} {bytes : ByteArray} {maxL : Nat} {rm : Room} {na index : Nat} {b : Nat} {As : List Value} {Wc : va_W} {Post : Option Value → va_W → Prop} (d : decode cc pc = .ok (.invokespecial index, 3)) (w : Cond.methodLink own index y ∈ BIG) (hM : jMi y bytes maxL na) (hc : Ct l D ty pf y bytes maxL none rm (.ref b :: As) Wc Post) (Wr : va_W) (hp : ws.Perm (Wc ++ Wr)) (hna : As.length = na) (hR : rm.frames + 1 ≤ R.frames ∧ 8 + (maxL + 11) + rm.locals ≤ R.locals) (hkn : k + rm.cells ≤ R.cells ∧ n + rm.slots ≤ R.slots) (hW : (st.map fun v => v.category).sum ≤ 8) (kk : ∀ v w1, Post v w1 → J p l e R s m args below meth c nL D A Q (k + rm.cells) (n + rm.slots) (pc + 3) (lv) (v.toList ++ st) (w1 ++ Wr)) : J p l e R s m args below meth c nL D A Q (k) (n) (pc) (lv) (As.reverse ++ .ref b :: st) (ws) := by
  intro ls hL H locs hP hD hS
  have hPp := hP.perm hp
  have hDp := hD.perm hp
  have hPc : va_P D vwCl Wc H := hPp.left
  have hDc : va_D (fun _ => True) Wc := hDp.left.weaken fun _ _ _ _ => trivial
  have hF : ∀ q, va_A Wc H.size q → A q := wl_free hp hD hS C.2.2.2.2.2.2.2.1
  refine jcall (mc := rm.cells) (ms := rm.slots) (va_runI ⟨C.1, C.2.1, C.2.2.1, C.2.2.2.1, C.2.2.2.2.1⟩ (hc H.size) ⟨callB_of na C.2.2.2.2.1 (bgGood hM.1.1) rfl rfl rfl (C.2.2.2.2.1 _ hM.1.2.1) (C.2.2.2.2.1 _ w) hM.1.2.2 hR, hM.2.2, C.2.2.2.2.1 _ hM.2.1⟩ ⟨jP_blind, fun U hU hW => ⟨rfl, by rw [hU], by rw [hU]; exact hPc, va_K.moved hW.alike C.2.2.2.2.2.1, hDc, PF.call C.2.2.2.2.2.2.2.2 hS hF hU hW⟩⟩ rfl hna hL.1 rfl (lv_room hW) d hkn) hS hF (fun v w1 H1 locs1 hp1 hP1 hD1 hz1 hk1 hS1 => ?_)
  obtain ⟨hP2, hD2⟩ := wl_join hPp hDp hk1 hP1 hD1
  exact kk v w1 hp1 ls hL H1 locs1 hP2 (hD2.weaken fun k q _ hA => (va_A_mem.mp hA).elim (fun ⟨e, h⟩ => (va_D_iff.mp hDp).2 (q.1, e) h) (fun h => C.2.2.2.2.2.2.2.1 _ (Nat.le_trans hS.1 h))) hS1
theorem J_new (C : jC p s m args meth c cc nL own D ty pf A) {C2 : String} {T : u_T} {N ci index : Nat} {tyv : Nat → FieldType} {fs : List Value} (d : decode cc pc = .ok (.new index, 3)) (hF : jF C2 T N tyv) (wl : Cond.classLink own index C2 ∈ BIG) (wi : Cond.instantiable C2 N ∈ BIG) (wn : Cond.initialized C2 ∈ BIG) (hc : vwCl[ci]? = some (C2, T, N)) (hfs : ∀ j, j < N → defaultValue (tyv j) = vp_V fs j) (hkn : k + 1 ≤ R.cells ∧ n + N ≤ R.slots) (kk : ∀ q, J p l e R s m args below meth c nL D A Q (k + 1) (n + N) (pc + 3) (lv) (.ref q :: st) (ws ++ [(q, .inr (ci, fs))])) : J p l e R s m args below meth c nL D A Q (k) (n) (pc) (lv) (st) (ws) := fun ls hL H locs hP hD hS =>
  va_new C.1 C.2.1 C.2.2.2.2.1 hF.1 tyv hF.2.1 C.2.2.2.1 (C.2.2.2.2.1 _ wl) (C.2.2.2.2.1 _ wi) (C.2.2.2.2.1 _ wn) C.2.2.2.2.2.1 hP hD hS C.2.2.2.2.2.2.2.1 hc hfs hkn.1 hkn.2 d (fun q H1 hP1 hD1 hS1 => kk q ls hL H1 locs hP1 hD1 hS1)
theorem J_newa (C : jC p s m args meth c cc nL own D ty pf A) {atype : ArrayType} {tt : FieldType} {x : Int32} {N : Nat} {a0 : vp_A} {cA : ClassId} (d : decode cc pc = .ok (.newarray atype, 2)) (wa : Cond.arrayClass (newarray.typeOf atype) ∈ BIG) (hty : newarray.typeOf atype = tt) (t0 : Nat) (ht : ty[t0]? = some (cA, tt)) (hob : ∀ C, tt ≠ .object C) (ha : ∀ cA : ClassId, vp_cell cA a0 = arrV cA N (fun _ => defaultValue tt)) (hx : ¬ x < 0) (hN : x.toNatClampNeg = N) (hb : N * componentBytes tt ≤ 536870912) (hkn : k + 1 ≤ R.cells ∧ n + N ≤ R.slots) (kk : ∀ q, J p l e R s m args below meth c nL D A Q (k + 1) (n + N) (pc + 2) (lv) (.ref q :: st) (ws ++ [(q, .inl (cA, a0))])) : J p l e R s m args below meth c nL D A Q (k) (n) (pc) (lv) (.int x :: st) (ws) := fun ls hL H locs hP hD hS =>
  va_newa C.1 C.2.1 (C.2.2.2.2.1 _ wa) hty C.2.2.2.2.2.1 hP hD hS C.2.2.2.2.2.2.2.1 ha hx hN hb hkn.1 hkn.2 d (fun q cB H1 hK1 hP1 hD1 hS1 => by
    have e1 := (C.2.2.2.2.2.1.2 t0 _ ht).2
    have e2 := (hK1.2 ty.length (cB, tt) (by rw [List.getElem?_append_right (Nat.le_refl _), Nat.sub_self]; rfl)).2
    have : cB = cA := by
      cases tt with
      | object C => exact absurd rfl (hob C)
      | _ => exact Option.some.inj (e2.symm.trans e1)
    subst this
    exact kk q ls hL H1 locs hP1 hD1 hS1)
theorem J_newq (C : jC p s m args meth c cc nL own D ty pf A) {C2 : String} {index N : Nat} {x : Int32} {cA : ClassId} (d : decode cc pc = .ok (.anewarray index, 3)) (wl : Cond.classLink own index C2 ∈ BIG) (wo : va_AO C2 s) (t0 : Nat) (ht : ty[t0]? = some (cA, .object C2)) (hx : ¬ x < 0) (hN : x.toNatClampNeg = N) (hb : N * 4 ≤ 536870912) (hkn : k + 1 ≤ R.cells ∧ n + N ≤ R.slots) (kk : ∀ q, J p l e R s m args below meth c nL D A Q (k + 1) (n + N) (pc + 3) (lv) (.ref q :: st) (ws ++ [(q, .inl (cA, N, .inr (.inr (.inr (.inr (fun _ => none))))))])) : J p l e R s m args below meth c nL D A Q (k) (n) (pc) (lv) (.int x :: st) (ws) := fun ls hL H locs hP hD hS =>
  va_newq C.1 C.2.1 C.2.2.2.1 (C.2.2.2.2.1 _ wl) wo C.2.2.2.2.2.1 hP hD hS C.2.2.2.2.2.2.2.1 hx hN hb hkn.1 hkn.2 d (fun q cB H1 hK1 hP1 hD1 hS1 => by
    have e1 := (C.2.2.2.2.2.1.2 t0 _ ht).2
    have e2 := (hK1.2 ty.length (cB, .object C2) (by rw [List.getElem?_append_right (Nat.le_refl _), Nat.sub_self]; rfl)).2
    obtain ⟨_, _, -, -, -, g1⟩ := e1
    obtain ⟨_, _, -, -, -, g2⟩ := e2
    have : cB = cA := Option.some.inj (g2.symm.trans g1)
    subst this
    exact kk q ls hL H1 locs hP1 hD1 hS1)
end JF
