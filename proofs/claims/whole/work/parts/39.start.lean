set_option maxRecDepth 100000 in
theorem cl_L_8 : Cond.classLink R_lawN 8 RX10 ∈ BIG := bg1 27 (by decide +kernel)
set_option maxRecDepth 100000 in
theorem cl_L_161 : Cond.classLink R_lawN 161 RX11 ∈ BIG := bg7 63 (by decide +kernel)
set_option maxRecDepth 100000 in
theorem ml_L_160 : Cond.methodLink R_lawN 160 yX10_init ∈ BIG := bg1 29 (by decide +kernel)
set_option maxRecDepth 100000 in
theorem ml_L_163 : Cond.methodLink R_lawN 163 yX11_init ∈ BIG := bg7 65 (by decide +kernel)
def wN : List Cond := flatC (Jvm.Cond.and given_1 narrow_1)
def sx_i : List Nat := [150, 152, 154, 156, 158, 160, 162, 164]
def sx_t (i : Nat) : Term := .string RX8 (sx_i.getD i 0)
set_option maxRecDepth 100000 in
theorem wn_str : ∀ i : Nat, i < 8 → Cond.exactly (sx_t i) "java/lang/String" ∈ wN ∧ Cond.eq (.field (sx_t i) "java/lang/String" "coder" "B") (.int 0) ∈ wN ∧ Cond.arrayOf (.field (sx_t i) "java/lang/String" "value" "[B") .byte ∈ wN ∧ Cond.eq (.length (.field (sx_t i) "java/lang/String" "value" "[B")) (.int (Int32.ofNat (pf_len.getD i 0))) ∈ wN := by decide +kernel
set_option maxRecDepth 100000 in
theorem wn_el : ∀ i : Nat, i < 8 → ∀ j : Nat, j < pf_len.getD i 0 → Cond.eq (.elem (.field (sx_t i) "java/lang/String" "value" "[B") (.int (Int32.ofNat j))) (.int ((pf_byt.getD i []).getD j 0)) ∈ wN := by decide +kernel
set_option maxRecDepth 100000 in
theorem wn_len : ∀ i : Nat, i < 8 → pf_len.getD i 0 < 2 ^ 31 := by decide +kernel
set_option maxRecDepth 100000 in
theorem wn_ap : ∀ i : Nat, i < 8 → ∀ j : Nat, j < 8 → pf_len.getD i 0 = pf_len.getD j 0 → (∀ k : Nat, k < pf_len.getD i 0 → (pf_byt.getD i []).getD k 0 = (pf_byt.getD j []).getD k 0) → i = j := by decide +kernel
set_option maxRecDepth 100000 in
theorem wn_ex : ∀ q ∈ pf_strs, Cond.exactly (.string q.1 q.2.1) "java/lang/String" ∈ wN := by decide +kernel
set_option maxRecDepth 100000 in
theorem wn_rf : ∀ q ∈ pf_strs, Cond.stringRef q.1 q.2.1 q.2.2.1 ∈ tables_1 := by decide +kernel
set_option maxRecDepth 100000 in
theorem wn_un : ∀ q ∈ pf_strs, ∀ r ∈ pf_strs, q.2.2.2 = r.2.2.2 → (q.1 = r.1 ∧ q.2.1 = r.2.1) ∨ (Cond.eq (.string q.1 q.2.1) (.string r.1 r.2.1) ∈ wN) ∨ Cond.eq (.string r.1 r.2.1) (.string q.1 q.2.1) ∈ wN := by decide +kernel
set_option maxRecDepth 100000 in
theorem wn_s8 : ∀ i : Nat, i < 8 → ∃ q ∈ pf_strs, q.1 = RX8 ∧ q.2.1 = sx_i.getD i 0 ∧ q.2.2.2 = i := by decide +kernel
set_option maxRecDepth 100000 in
theorem wn_lo : ∀ q ∈ pf_strs, q.2.2.2 < 8 ∨ 16 ≤ q.2.2.2 := by decide +kernel
set_option maxRecDepth 100000 in
theorem wn_nc : ∀ q ∈ pf_nc, Cond.not (.castable q.1 q.2) ∈ wN := by decide +kernel
set_option maxRecDepth 100000 in
theorem wn_ca : ∀ q ∈ pf_cast, Cond.castable q q ∈ tables_1 := by decide +kernel
set_option maxRecDepth 100000 in
theorem wn_de : ∀ q ∈ pf_decl, Cond.declares ⟨q, "<init>", "(Ljava/lang/String;)V"⟩ ∈ tables_1 := by decide +kernel
set_option maxRecDepth 100000 in
theorem wn_mn : Cond.methodLinkNest RX0 74 yX9_init RX10 ∈ tables_1 ∧ Cond.methodLinkNest RX0 124 yX10_poolList RX10 ∈ tables_1 ∧ Cond.arrayOver (.object RX0) ∈ tables_1 := by decide +kernel
set_option maxRecDepth 100000 in
theorem wn_st : Cond.eq (.static "java/lang/String" "COMPACT_STRINGS" "Z") (.int 1) ∈ wN ∧ Cond.isRef (.static "jdk/internal/util/Preconditions" "SIOOBE_FORMATTER" "Ljava/util/function/BiFunction;") ∈ wN ∧ Cond.isRef (.static Bundle.tN "UNASSIGNED_STACK" Bundle.steD) ∈ wN ∧ Cond.isRef (.static Bundle.tN "SUPPRESSED_SENTINEL" Bundle.listD) ∈ wN := by decide +kernel
set_option maxRecDepth 100000 in
theorem wn_ls : Cond.laysStatic "java/lang/String" "COMPACT_STRINGS" "Z" ∈ tables_1 ∧ Cond.laysStatic "jdk/internal/util/Preconditions" "SIOOBE_FORMATTER" "Ljava/util/function/BiFunction;" ∈ tables_1 ∧ Cond.laysStatic Bundle.tN "UNASSIGNED_STACK" Bundle.steD ∈ tables_1 ∧ Cond.laysStatic Bundle.tN "SUPPRESSED_SENTINEL" Bundle.listD ∈ tables_1 ∧ Cond.initialized "java/lang/String" ∈ tables_1 ∧ Cond.initialized "jdk/internal/util/Preconditions" ∈ tables_1 ∧ Cond.initialized Bundle.tN ∈ tables_1 := by decide +kernel
theorem va_OF_inj {o n d : String} {v w : Value} {t : Nat} {A : Nat → Prop} {U : State} {H : Heap} (h1 : va_OF o n d v t A U H) (h2 : va_OF o n d w t A U H) : v = w := by
  obtain ⟨cf, k, i, f, cell, a1, a2, a3, a4, a5, a6⟩ := h1
  obtain ⟨cf', k', i', f', cell', b1, b2, b3, b4, b5, b6⟩ := h2
  rw [a1] at b1
  cases b1
  rw [a3] at b3
  cases b3
  rw [a5] at b5
  exact Option.some.inj b5
theorem va_T_inj {ty : FieldType} {t N N' : Nat} {f f' : Nat → Value} {A : Nat → Prop} {U : State} {H : Heap} (hN : N < 2 ^ 31) (hN' : N' < 2 ^ 31) (h1 : va_T ty t N f A U H) (h2 : va_T ty t N' f' A U H) : N = N' ∧ ∀ j, j < N → f j = f' j := by
  obtain ⟨cell, a1, a2, a3, a4, a5, a6, a7⟩ := h1
  obtain ⟨cell', b1, b2, b3, b4, b5, b6, b7⟩ := h2
  rw [a1] at b1
  cases b1
  rw [a5] at b5
  have hNN : N = N' := by
    have := congrArg Int32.toInt b5
    rw [Int32.toInt_ofNat_of_lt hN, Int32.toInt_ofNat_of_lt hN'] at this
    omega
  refine ⟨hNN, fun j hj => ?_⟩
  have := a6 j hj
  rw [b6 j (by omega)] at this
  exact (Option.some.inj this).symm
theorem str_eval {args : Array Value} {s : State} {t : Term} (h : (Cond.exactly t "java/lang/String").before args s = true) : ∃ a, t.eval args s none [] s = some (.ref a) := by
  obtain ⟨a, c, cA, kA, q1, -⟩ := Cond.exactly_spec (args := args) (first := s) (o := none) (s := s) (idx := []) (t := t) (cls := "java/lang/String") h
  exact ⟨a, q1⟩
theorem eq_eval {args : Array Value} {s : State} {t u : Term} {a b : Nat} (h : (Cond.eq t u).before args s = true) (ht : t.eval args s none [] s = some (.ref a)) (hu : u.eval args s none [] s = some (.ref b)) : a = b := by
  simp only [Cond.before, Cond.holds, Cond.value, ht, hu] at h
  simpa using h
theorem PF_start {s : State} {b : Nat} {A : Nat → Prop} (hA : ∀ a : Nat, a < s.heap.size → ¬ A a) (hts : ∀ w ∈ tables_1, w.before #[Value.ref b] s = true) (hgv : (Jvm.Cond.and given_1 narrow_1).before #[Value.ref b] s = true) : ∃ pf : Nat → Nat, PF pf A s s.heap := by
  have hn : ∀ w ∈ wN, w.before #[Value.ref b] s = true := flat_of_before _ hgv
  have h0 : ∀ i : Nat, ∃ q : Nat × Nat, i < 8 → (sx_t i).eval #[Value.ref b] s none [] s = some (.ref q.1) ∧ va_O "java/lang/String" q.1 A s s.heap ∧ va_OF "java/lang/String" "coder" "B" (.int 0) q.1 A s s.heap ∧ va_OF "java/lang/String" "value" "[B" (.ref q.2) q.1 A s s.heap ∧ va_T .byte q.2 (pf_len.getD i 0) (fun j => .int ((pf_byt.getD i []).getD j 0)) A s s.heap := by
    intro i
    by_cases hi : i < 8
    · obtain ⟨w1, w2, w3, w4⟩ := wn_str i hi
      obtain ⟨a, c, cA, kA, q1, q2, q3, q4, q5, q6, -⟩ := Cond.exactly_spec (args := #[Value.ref b]) (first := s) (o := none) (s := s) (idx := []) (t := sx_t i) (cls := "java/lang/String") (hn _ w1)
      obtain ⟨t, ht, hT⟩ := va_Tof (f := fun j => .int ((pf_byt.getD i []).getD j 0)) (A := A) (wn_len i hi) (hn _ w3) (va_eqt (hn _ w4)) (fun j hj => va_eqt (hn _ (wn_el i hi j hj))) hA
      exact ⟨(a, t), fun _ => ⟨q1, ⟨cA, q3, q5, by rw [q6]; exact q2, hA a (Array.getElem?_eq_some_iff.mp q3).1⟩, vk_OFof q1 (va_eqt (hn _ w2)) hA, vk_OFof q1 ht hA, hT⟩⟩
    · exact ⟨(0, 0), fun h => absurd h hi⟩
  obtain ⟨ad, had⟩ := Classical.axiomOfChoice h0
  have hm : ∀ q : Nat, ∃ a : Nat, ∀ x ∈ pf_strs, x.2.2.2 = q → (Term.string x.1 x.2.1).eval #[Value.ref b] s none [] s = some (.ref a) := by
    intro q
    by_cases hq : ∃ x ∈ pf_strs, x.2.2.2 = q
    · obtain ⟨x, hx, rfl⟩ := hq
      obtain ⟨a, ha⟩ := str_eval (hn _ (wn_ex x hx))
      refine ⟨a, fun y hy he => ?_⟩
      rcases wn_un y hy x hx he with ⟨e1, e2⟩ | h | h
      · rw [e1, e2]; exact ha
      · obtain ⟨a', ha'⟩ := str_eval (hn _ (wn_ex y hy))
        rw [ha', eq_eval (hn _ h) ha' ha]
      · obtain ⟨a', ha'⟩ := str_eval (hn _ (wn_ex y hy))
        rw [ha', eq_eval (hn _ h) ha ha']
    · exact ⟨0, fun x hx he => absurd ⟨x, hx, he⟩ hq⟩
  obtain ⟨ms, hms⟩ := Classical.axiomOfChoice hm
  have hms8 : ∀ i, i < 8 → ms i = (ad i).1 := fun i hi => by
    obtain ⟨x, hx, e1, e2, e3⟩ := wn_s8 i hi
    have h1 := hms i x hx e3
    have h2 := (had i hi).1
    rw [e1, e2] at h1
    exact Value.ref.inj (Option.some.inj (h1.symm.trans h2))
  obtain ⟨n1, n2, n3⟩ := wn_mn
  obtain ⟨t1, t2, t3, t4⟩ := wn_st
  obtain ⟨l1, l2, l3, l4, l5, l6, l7⟩ := wn_ls
  refine ⟨fun q => if 8 ≤ q ∧ q < 16 then (ad (q - 8)).2 else ms q, va_Nw.of rfl (hts _ n1), va_Nw.of rfl (hts _ n2), fun q hq => ?_, ⟨fun i hi => ?_, fun i j hi hj he => ?_⟩, va_Zof (hts _ l1) (hts _ l5) (va_eqt (hn _ t1)) hA, va_Zqof (hts _ l2) (hts _ l6) (hn _ t2) hA, vx_Zqof (hts _ l3) (hts _ l7) (hn _ t3) hA, vx_Zqof (hts _ l4) (hts _ l7) (hn _ t4) hA, fun q hq => va_Nw.of rfl (hts _ (wn_ca q hq)), fun q hq => va_Nc.of (hn _ (wn_nc q hq)), fun q hq => va_Nw.of rfl (hts _ (wn_de q hq)), va_AO.of (hts _ n3)⟩
  · refine vk_R.of (hts _ (wn_rf q hq)) ?_
    have h1 := hms _ q hq rfl
    show _ = some (Value.ref (if 8 ≤ q.2.2.2 ∧ q.2.2.2 < 16 then (ad (q.2.2.2 - 8)).2 else ms q.2.2.2))
    have hlo := wn_lo q hq
    rw [if_neg (by omega)]; exact h1
  · obtain ⟨-, g2, g3, g4, g5⟩ := had i hi
    have e1 : (if 8 ≤ i ∧ i < 16 then (ad (i - 8)).2 else ms i) = (ad i).1 := by rw [if_neg (by omega)]; exact hms8 i hi
    have e2 : (if 8 ≤ 8 + i ∧ 8 + i < 16 then (ad (8 + i - 8)).2 else ms (8 + i)) = (ad i).2 := by rw [if_pos (by omega), Nat.add_sub_cancel_left]
    show va_O "java/lang/String" (if 8 ≤ i ∧ i < 16 then (ad (i - 8)).2 else ms i) A s s.heap ∧ va_OF "java/lang/String" "coder" "B" (.int 0) (if 8 ≤ i ∧ i < 16 then (ad (i - 8)).2 else ms i) A s s.heap ∧ va_OF "java/lang/String" "value" "[B" (.ref (if 8 ≤ 8 + i ∧ 8 + i < 16 then (ad (8 + i - 8)).2 else ms (8 + i))) (if 8 ≤ i ∧ i < 16 then (ad (i - 8)).2 else ms i) A s s.heap ∧ va_T .byte (if 8 ≤ 8 + i ∧ 8 + i < 16 then (ad (8 + i - 8)).2 else ms (8 + i)) (pf_len.getD i 0) (fun j => .int ((pf_byt.getD i []).getD j 0)) A s s.heap
    rw [e1, e2]
    exact ⟨g2, g3, g4, g5⟩
  · have he' : (if 8 ≤ i ∧ i < 16 then (ad (i - 8)).2 else ms i) = (if 8 ≤ j ∧ j < 16 then (ad (j - 8)).2 else ms j) := he
    rw [if_neg (by omega), if_neg (by omega), hms8 i hi, hms8 j hj] at he'
    obtain ⟨-, -, -, g4, g5⟩ := had i hi
    obtain ⟨-, -, -, k4, k5⟩ := had j hj
    rw [he'] at g4
    have e3 : (ad i).2 = (ad j).2 := Value.ref.inj (va_OF_inj g4 k4)
    rw [e3] at g5
    obtain ⟨e4, e5⟩ := va_T_inj (wn_len i hi) (wn_len j hj) g5 k5
    exact wn_ap i hi j hj e4 (fun k hk => Value.int.inj (e5 k hk))
set_option maxHeartbeats 4000000 in
set_option maxRecDepth 100000 in
theorem start_of {p : Program} {e : Env} {s : State} {m : MethodId} {below : List Frame} {meth : Method} {c : Code} (l : Launch) (hl : l.stackTraces = false) {b L : Nat} {xs : Nat → Int32} (hL : L ≤ 3072) (C0 : lw_At p s m meth c b L xs) (N : Nat) (Rl : Nat → T_PL → T_MO → Prop) (hS : AllSteps N Rl) (o1 oS : T_SE) (e1 : F_S_clear N zSE = some o1) (e2 : F_S_finish N o1 = some oS) (oB : T_BK) (e3 : F_B_reset N oS zBK = some oB) (g1 : Nat → Int32) (e4 : f_X11_begins N 71 (fun _ => 0) = some g1) (oM : T_MO) (e5 : F_M_starts N (zMO.1, zMO.2.1, zMO.2.2.1, zMO.2.2.2.1, zMO.2.2.2.2.1, zMO.2.2.2.2.2.1, zMO.2.2.2.2.2.2.1, zMO.2.2.2.2.2.2.2.1, zMO.2.2.2.2.2.2.2.2.1, zMO.2.2.2.2.2.2.2.2.2.1, zMO.2.2.2.2.2.2.2.2.2.2.1, g1, zMO.2.2.2.2.2.2.2.2.2.2.2.2.1, zMO.2.2.2.2.2.2.2.2.2.2.2.2.2.1, zMO.2.2.2.2.2.2.2.2.2.2.2.2.2.2.1, zMO.2.2.2.2.2.2.2.2.2.2.2.2.2.2.2.1, zMO.2.2.2.2.2.2.2.2.2.2.2.2.2.2.2.2.1, zMO.2.2.2.2.2.2.2.2.2.2.2.2.2.2.2.2.2.1, zMO.2.2.2.2.2.2.2.2.2.2.2.2.2.2.2.2.2.2.1, zMO.2.2.2.2.2.2.2.2.2.2.2.2.2.2.2.2.2.2.2.1, zMO.2.2.2.2.2.2.2.2.2.2.2.2.2.2.2.2.2.2.2.2.1, zMO.2.2.2.2.2.2.2.2.2.2.2.2.2.2.2.2.2.2.2.2.2.1, zMO.2.2.2.2.2.2.2.2.2.2.2.2.2.2.2.2.2.2.2.2.2.2) = some oM) (hR0 : Rl 0 (zIN, oS, oS, zRD, oB, oB, (0, 0, fun _ => oB), 0) oM) : W p l e room_1 s m #[Value.ref b] below meth c s.heap [] 0 0 (lw_Z below #[Value.ref b] s) (entryFrame m ([Value.ref b] : List Value).toArray 7) := by
  obtain ⟨hx, hb, hr, hml, hown, hts, hX, hbl, hlocks, hgv⟩ := id C0
  have hbg : ∀ w ∈ BIG, w.before #[Value.ref b] s = true := fun w hw => hts w (List.mem_filter.mp hw).1
  have htb : ∀ w ∈ tables_1, w.before #[Value.ref b] s = true := fun w hw => hts w (List.mem_append_right _ hw)
  have hA : ∀ a : Nat, a < s.heap.size → ¬ (fun q : Nat => s.heap.size ≤ q) a := fun a h => Nat.not_le.mpr h
  have hbA : ¬ (fun q : Nat => s.heap.size ≤ q) b := Nat.not_le.mpr hbl
  obtain ⟨c0, iS0, hKn0⟩ := u_known (C := RX0) (T := TX0) (N := 17) (n := 17) hbg jf_X0.1 (hbg _ ins_RX0)
  obtain ⟨c1, iS1, hKn1⟩ := u_known (C := RX1) (T := TX1) (N := 5) (n := 5) hbg jf_X1.1 (hbg _ ins_RX1)
  obtain ⟨c2, iS2, hKn2⟩ := u_known (C := RX2) (T := TX2) (N := 3) (n := 3) hbg jf_X2.1 (hbg _ ins_RX2)
  obtain ⟨c3, iS3, hKn3⟩ := u_known (C := RX3) (T := TX3) (N := 2) (n := 2) hbg jf_X3.1 (hbg _ ins_RX3)
  obtain ⟨c4, iS4, hKn4⟩ := u_known (C := RX4) (T := TX4) (N := 3) (n := 3) hbg jf_X4.1 (hbg _ ins_RX4)
  obtain ⟨c5, iS5, hKn5⟩ := u_known (C := RX5) (T := TX5) (N := 2) (n := 2) hbg jf_X5.1 (hbg _ ins_RX5)
  obtain ⟨c6, iS6, hKn6⟩ := u_known (C := RX6) (T := TX6) (N := 1) (n := 1) hbg jf_X6.1 (hbg _ ins_RX6)
  obtain ⟨c7, iS7, hKn7⟩ := u_known (C := RX7) (T := TX7) (N := 14) (n := 14) hbg jf_X7.1 (hbg _ ins_RX7)
  obtain ⟨c8, iS8, hKn8⟩ := u_known (C := RX8) (T := TX8) (N := 6) (n := 6) hbg jf_X8.1 (hbg _ ins_RX8)
  obtain ⟨c9, iS9, hKn9⟩ := u_known (C := RX9) (T := TX9) (N := 2) (n := 2) hbg jf_X9.1 (hbg _ ins_RX9)
  obtain ⟨c10, iS10, hKn10⟩ := u_known (C := RX10) (T := TX10) (N := 8) (n := 8) hbg jf_X10.1 (hbg _ ins_RX10)
  obtain ⟨c11, iS11, hKn11⟩ := u_known (C := RX11) (T := TX11) (N := 23) (n := 23) hbg jf_X11.1 (hbg _ ins_RX11)
  obtain ⟨dC, dI, hKc⟩ : ∃ (dC : Nat → ClassId) (dI : Nat → Nat → Nat), ∀ (k : Nat) (q : vw_C), vwCl[k]? = some q → u_Kn s q.1 q.2.1 q.2.2 (dC k) (dI k) := by
    refine ⟨fun k => [c0, c1, c2, c3, c4, c5, c6, c7, c8, c9, c10, c11].getD k c0, fun k => [iS0, iS1, iS2, iS3, iS4, iS5, iS6, iS7, iS8, iS9, iS10, iS11].getD k iS0, ?_⟩
    intro k q hq
    match k, hq with
    | 0, hq => cases hq; exact hKn0
    | 1, hq => cases hq; exact hKn1
    | 2, hq => cases hq; exact hKn2
    | 3, hq => cases hq; exact hKn3
    | 4, hq => cases hq; exact hKn4
    | 5, hq => cases hq; exact hKn5
    | 6, hq => cases hq; exact hKn6
    | 7, hq => cases hq; exact hKn7
    | 8, hq => cases hq; exact hKn8
    | 9, hq => cases hq; exact hKn9
    | 10, hq => cases hq; exact hKn10
    | 11, hq => cases hq; exact hKn11
    | k + 12, hq => simp [vwCl] at hq
  obtain ⟨cI, kI, coI, a1, a2, a3⟩ := Cond.arrayClass_spec (hbg _ w_arI)
  obtain ⟨cB, kB, coB, b1, b2, b3⟩ := Cond.arrayClass_spec (hbg _ w_arB)
  obtain ⟨cL, kL, coL, d1, d2, d3⟩ := Cond.arrayClass_spec (hbg _ w_arL)
  obtain ⟨coO, cO, kO, f0, -, f2, f3, f4⟩ := Cond.arrayOver_spec (htb _ wn_mn.2.2)
  have hK : va_K (dC, dI) vwCl [(cI, .int), (cB, .byte), (cL, .long), (cO, .object RX0)] s := by
    refine ⟨hKc, fun k q hq => ?_⟩
    match k, hq with
    | 0, hq => cases hq; exact ⟨fun n z => ⟨fun k h => (by cases h), kI, a2, coI, a3⟩, a1⟩
    | 1, hq => cases hq; exact ⟨fun n z => ⟨fun k h => (by cases h), kB, b2, coB, b3⟩, b1⟩
    | 2, hq => cases hq; exact ⟨fun n z => ⟨fun k h => (by cases h), kL, d2, coL, d3⟩, d1⟩
    | 3, hq => cases hq; exact ⟨fun n z => ⟨fun k h => (by cases h), kO, f2, coO, f3⟩, kO, coO, f2, f3, f0, f4⟩
    | k + 4, hq => simp at hq
  obtain ⟨pf, hpf⟩ := PF_start (A := fun q : Nat => s.heap.size ≤ q) hA htb hgv
  have C : jC p s m #[Value.ref b] meth c code 7 R_lawN (dC, dI) [(cI, .int), (cB, .byte), (cL, .long), (cO, .object RX0)] pf (fun q => s.heap.size ≤ q) := ⟨hx, hb, hml, hown, hbg, hK, hlocks, fun _ h => h, hpf⟩
  have hlv := lv_entry ([.ref b]) (n := 7) (Nat.le_of_ble_eq_true rfl)
  rw [lg_entry_eq]
  generalize (lg_sl ([.ref b]) ++ List.replicate (7 - (lg_sl ([.ref b])).length) Slot.unset).toArray = ls at hlv ⊢
  have hlv : lv_has ls 7 [(0, .ref b)] := hlv
  have K : J p l e room_1 s m #[Value.ref b] below meth c 7 (dC, dI) (fun q => s.heap.size ≤ q) (lw_Z below #[Value.ref b] s) 0 0 0 [(0, .ref b)] [] (List.flatten []) := by
    refine J_new (ci := 10) (fs := [.null, .null, .null, .null, .null, .null, .null, .int 0]) (pc := 0) C dlw_0 jf_X10 cl_L_8 ins_RX10 ini_RX10 rfl df_X10 ⟨(Nat.le_of_ble_eq_true rfl), (Nat.le_of_ble_eq_true rfl)⟩ (fun q1 => ?_)
    refine J_ws (ws2 := List.flatten [[(q1, .inr (10, [.null, .null, .null, .null, .null, .null, .null, .int 0]))]]) rfl ?_
    refine J_dupr (pc := 3) C dlw_3 ?_
    refine J_ciF (pc := 4) (As := []) (st := [.ref q1]) C dlw_4 ml_L_160 mi_yX10_init (I_PL l (dC, dI) cI cB cL cO pf N o1 oS e1 e2 oB e3 q1) [] (by rw [List.append_nil]) rfl ⟨(Nat.le_of_ble_eq_true rfl), (Nat.le_of_ble_eq_true rfl)⟩ ⟨(Nat.le_of_ble_eq_true rfl), (Nat.le_of_ble_eq_true rfl)⟩ (Nat.le_of_ble_eq_true rfl) ?_
    rintro v w1 ⟨rfl, A, rfl, rfl⟩
    refine J_ws (ws2 := List.flatten [wPL cI cB cO A (zIN, oS, oS, zRD, oB, oB, (0, 0, fun _ => oB), 0)]) (by rw [List.append_nil]; simp [List.flatten]) ?_
    refine J_astore_n (lv2 := [(1, .ref (A 0 0)), (0, .ref b)]) (pc := 7) C dlw_7 (by decide) rfl ?_
    refine J_new (ci := 11) (fs := [.int 0, .null, .null, .null, .null, .null, .null, .null, .null, .null, .null, .null, .int 0, .int 0, .null, .int 0, .int 0, .int 0, .int 0, .int 0, .int 0, .int 0, .int 0]) (pc := 8) C dlw_8 jf_X11 cl_L_161 ins_RX11 ini_RX11 rfl df_X11 ⟨(Nat.le_of_ble_eq_true rfl), (Nat.le_of_ble_eq_true rfl)⟩ (fun q2 => ?_)
    refine J_ws (ws2 := List.flatten [wPL cI cB cO A (zIN, oS, oS, zRD, oB, oB, (0, 0, fun _ => oB), 0), [(q2, .inr (11, [.int 0, .null, .null, .null, .null, .null, .null, .null, .null, .null, .null, .null, .int 0, .int 0, .null, .int 0, .int 0, .int 0, .int 0, .int 0, .int 0, .int 0, .int 0]))]]) (flat_snoc _ _) ?_
    refine J_dupr (pc := 11) C dlw_11 ?_
    refine J_ciF (pc := 12) (As := []) (st := [.ref q2]) C dlw_12 ml_L_163 mi_yX11_init (I_MO l (dC, dI) cI cB cL cO pf N g1 e4 oM e5 q2) (List.flatten [wPL cI cB cO A (zIN, oS, oS, zRD, oB, oB, (0, 0, fun _ => oB), 0)]) (seg_split (segs := [wPL cI cB cO A (zIN, oS, oS, zRD, oB, oB, (0, 0, fun _ => oB), 0), [(q2, .inr (11, [.int 0, .null, .null, .null, .null, .null, .null, .null, .null, .null, .null, .null, .int 0, .int 0, .null, .int 0, .int 0, .int 0, .int 0, .int 0, .int 0, .int 0, .int 0]))]]) (Wc := [[(q2, .inr (11, [.int 0, .null, .null, .null, .null, .null, .null, .null, .null, .null, .null, .null, .int 0, .int 0, .null, .int 0, .int 0, .int 0, .int 0, .int 0, .int 0, .int 0, .int 0]))]]) (Wr := [wPL cI cB cO A (zIN, oS, oS, zRD, oB, oB, (0, 0, fun _ => oB), 0)]) [1] [0] rfl rfl 2 rfl (by decide)) rfl ⟨(Nat.le_of_ble_eq_true rfl), (Nat.le_of_ble_eq_true rfl)⟩ ⟨(Nat.le_of_ble_eq_true rfl), (Nat.le_of_ble_eq_true rfl)⟩ (Nat.le_of_ble_eq_true rfl) ?_
    rintro v w1 ⟨rfl, am, rfl, rfl⟩
    refine J_perm (seg_split (segs := [wPL cI cB cO A (zIN, oS, oS, zRD, oB, oB, (0, 0, fun _ => oB), 0), wMO cI cB am oM]) (Wc := [wMO cI cB am oM]) (Wr := [wPL cI cB cO A (zIN, oS, oS, zRD, oB, oB, (0, 0, fun _ => oB), 0)]) [1] [0] rfl rfl 2 rfl (by decide)).symm ?_
    refine J_astore_n (lv2 := [(2, .ref (am 0)), (1, .ref (A 0 0)), (0, .ref b)]) (pc := 15) C dlw_15 (by decide) rfl ?_
    refine J_iconst (v := (1 : Int32)) (pc := 16) C dlw_16 (by decide) ?_
    refine J_newa (atype := .long) (a0 := (1, .inr (.inl (fun _ => 0)))) (N := 1) (pc := 17) C dlw_17 w_arL rfl 2 rfl (by intro C h; cases h) (fun _ => rfl) (by decide) rfl (Nat.le_of_ble_eq_true rfl) ⟨(Nat.le_of_ble_eq_true rfl), (Nat.le_of_ble_eq_true rfl)⟩ (fun ao => ?_)
    refine J_ws (ws2 := (List.flatten [wPL cI cB cO A (zIN, oS, oS, zRD, oB, oB, (0, 0, fun _ => oB), 0), wMO cI cB am oM, [(ao, .inl (cL, 1, .inr (.inl (fun _ => 0))))]])) (flat_snoc _ _) ?_
    refine J_astore_n (lv2 := [(3, .ref ao), (2, .ref (am 0)), (1, .ref (A 0 0)), (0, .ref b)]) (pc := 19) C dlw_19 (by decide) rfl ?_
    refine J_iconst (v := nI (6 * 0)) (pc := 20) C dlw_20 (by decide) ?_
    refine J_istore (lv2 := [(4, .int (nI (6 * 0))), (3, .ref ao), (2, .ref (am 0)), (1, .ref (A 0 0)), (0, .ref b)]) (pc := 21) C dlw_21 (by decide) rfl ?_
    exact law_loop C hr hl hX hbl hbA hL hS 513 0 _ _ _ _ _ rfl hR0 ⟨(Nat.le_of_ble_eq_true rfl), (Nat.le_of_ble_eq_true rfl)⟩
  exact K ls hlv s.heap [] (fun k q h => by simp at h) ⟨fun i j p q h => by simp at h, fun k q h => by simp at h⟩ va_S.rf
