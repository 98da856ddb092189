/-! the law sends a text: twenty bytes a call -/
def pkW (t : List Nat) (i : Nat) : Nat → Nat → Int32
  | 0 => fun _ => 0
  | j + 1 => upd (pkW t i j) (j / 4) (pkW t i j (j / 4) <<< ((8 : Int32) &&& 31) ||| nI (t.getD (i + j) 0))
def H_sendL (N : Nat) (t : List Nat) : Nat → Nat → Int32 → T_PL → Option T_PL
  | 0, _, _, _ => none
  | f + 1, i, x, zs => if t.length ≤ i then (if x = nI t.length then some zs else none) else (H_appended N zs (pkW t i 20 0) (pkW t i 20 1) (pkW t i 20 2) (pkW t i 20 3) (pkW t i 20 4)).bind fun r => if r.1 < 0 then none else H_sendL N t f (i + 20) r.1 r.2
def H_send (N : Nat) (t : List Nat) (zs : T_PL) : Option T_PL := (P_truncate N zs 0).bind fun r => if r.1 = 0 then (if r.2.1 = 0 then H_sendL N t N 0 0 r.2.2 else none) else none

theorem dL_send_0 : decode cL_send 0 = .ok (.aload_n 0, 1) := by decide +kernel
theorem dL_send_1 : decode cL_send 1 = .ok (.iconst 0, 1) := by decide +kernel
theorem dL_send_2 : decode cL_send 2 = .ok (.invokevirtual 16, 3) := by decide +kernel
theorem dL_send_5 : decode cL_send 5 = .ok (.ifCond .eq 5, 3) := by decide +kernel
theorem dL_send_8 : decode cL_send 8 = .ok (.iconst 0, 1) := by decide +kernel
theorem dL_send_9 : decode cL_send 9 = .ok (.ireturn, 1) := by decide +kernel
theorem dL_send_10 : decode cL_send 10 = .ok (.iconst 0, 1) := by decide +kernel
theorem dL_send_11 : decode cL_send 11 = .ok (.istore_n 2, 1) := by decide +kernel
theorem dL_send_12 : decode cL_send 12 = .ok (.iconst 0, 1) := by decide +kernel
theorem dL_send_13 : decode cL_send 13 = .ok (.istore_n 3, 1) := by decide +kernel
theorem dL_send_14 : decode cL_send 14 = .ok (.iload_n 3, 1) := by decide +kernel
theorem dL_send_15 : decode cL_send 15 = .ok (.aload_n 1, 1) := by decide +kernel
theorem dL_send_16 : decode cL_send 16 = .ok (.invokevirtual 20, 3) := by decide +kernel
theorem dL_send_19 : decode cL_send 19 = .ok (.if_icmp .ge 102, 3) := by decide +kernel
theorem dL_send_22 : decode cL_send 22 = .ok (.iconst 5, 1) := by decide +kernel
theorem dL_send_23 : decode cL_send 23 = .ok (.newarray .int, 2) := by decide +kernel
theorem dL_send_25 : decode cL_send 25 = .ok (.astore 4, 2) := by decide +kernel
theorem dL_send_27 : decode cL_send 27 = .ok (.iconst 0, 1) := by decide +kernel
theorem dL_send_28 : decode cL_send 28 = .ok (.istore 5, 2) := by decide +kernel
theorem dL_send_30 : decode cL_send 30 = .ok (.iload 5, 2) := by decide +kernel
theorem dL_send_32 : decode cL_send 32 = .ok (.bipush 20, 2) := by decide +kernel
theorem dL_send_34 : decode cL_send 34 = .ok (.if_icmp .ge 50, 3) := by decide +kernel
theorem dL_send_37 : decode cL_send 37 = .ok (.aload 4, 2) := by decide +kernel
theorem dL_send_39 : decode cL_send 39 = .ok (.iload 5, 2) := by decide +kernel
theorem dL_send_41 : decode cL_send 41 = .ok (.iconst 4, 1) := by decide +kernel
theorem dL_send_42 : decode cL_send 42 = .ok (.idiv, 1) := by decide +kernel
theorem dL_send_43 : decode cL_send 43 = .ok (.aload 4, 2) := by decide +kernel
theorem dL_send_45 : decode cL_send 45 = .ok (.iload 5, 2) := by decide +kernel
theorem dL_send_47 : decode cL_send 47 = .ok (.iconst 4, 1) := by decide +kernel
theorem dL_send_48 : decode cL_send 48 = .ok (.idiv, 1) := by decide +kernel
theorem dL_send_49 : decode cL_send 49 = .ok (.iaload, 1) := by decide +kernel
theorem dL_send_50 : decode cL_send 50 = .ok (.bipush 8, 2) := by decide +kernel
theorem dL_send_52 : decode cL_send 52 = .ok (.ishl, 1) := by decide +kernel
theorem dL_send_53 : decode cL_send 53 = .ok (.iload_n 3, 1) := by decide +kernel
theorem dL_send_54 : decode cL_send 54 = .ok (.iload 5, 2) := by decide +kernel
theorem dL_send_56 : decode cL_send 56 = .ok (.iadd, 1) := by decide +kernel
theorem dL_send_57 : decode cL_send 57 = .ok (.aload_n 1, 1) := by decide +kernel
theorem dL_send_58 : decode cL_send 58 = .ok (.invokevirtual 20, 3) := by decide +kernel
theorem dL_send_61 : decode cL_send 61 = .ok (.if_icmp .ge 14, 3) := by decide +kernel
theorem dL_send_64 : decode cL_send 64 = .ok (.aload_n 1, 1) := by decide +kernel
theorem dL_send_65 : decode cL_send 65 = .ok (.iload_n 3, 1) := by decide +kernel
theorem dL_send_66 : decode cL_send 66 = .ok (.iload 5, 2) := by decide +kernel
theorem dL_send_68 : decode cL_send 68 = .ok (.iadd, 1) := by decide +kernel
theorem dL_send_69 : decode cL_send 69 = .ok (.invokevirtual 26, 3) := by decide +kernel
theorem dL_send_72 : decode cL_send 72 = .ok (.goto 4, 3) := by decide +kernel
theorem dL_send_75 : decode cL_send 75 = .ok (.iconst 0, 1) := by decide +kernel
theorem dL_send_76 : decode cL_send 76 = .ok (.ior, 1) := by decide +kernel
theorem dL_send_77 : decode cL_send 77 = .ok (.iastore, 1) := by decide +kernel
theorem dL_send_78 : decode cL_send 78 = .ok (.iinc 5 1, 3) := by decide +kernel
theorem dL_send_81 : decode cL_send 81 = .ok (.goto (-51), 3) := by decide +kernel
theorem dL_send_84 : decode cL_send 84 = .ok (.aload_n 0, 1) := by decide +kernel
theorem dL_send_85 : decode cL_send 85 = .ok (.aload 4, 2) := by decide +kernel
theorem dL_send_87 : decode cL_send 87 = .ok (.iconst 0, 1) := by decide +kernel
theorem dL_send_88 : decode cL_send 88 = .ok (.iaload, 1) := by decide +kernel
theorem dL_send_89 : decode cL_send 89 = .ok (.aload 4, 2) := by decide +kernel
theorem dL_send_91 : decode cL_send 91 = .ok (.iconst 1, 1) := by decide +kernel
theorem dL_send_92 : decode cL_send 92 = .ok (.iaload, 1) := by decide +kernel
theorem dL_send_93 : decode cL_send 93 = .ok (.aload 4, 2) := by decide +kernel
theorem dL_send_95 : decode cL_send 95 = .ok (.iconst 2, 1) := by decide +kernel
theorem dL_send_96 : decode cL_send 96 = .ok (.iaload, 1) := by decide +kernel
theorem dL_send_97 : decode cL_send 97 = .ok (.aload 4, 2) := by decide +kernel
theorem dL_send_99 : decode cL_send 99 = .ok (.iconst 3, 1) := by decide +kernel
theorem dL_send_100 : decode cL_send 100 = .ok (.iaload, 1) := by decide +kernel
theorem dL_send_101 : decode cL_send 101 = .ok (.aload 4, 2) := by decide +kernel
theorem dL_send_103 : decode cL_send 103 = .ok (.iconst 4, 1) := by decide +kernel
theorem dL_send_104 : decode cL_send 104 = .ok (.iaload, 1) := by decide +kernel
theorem dL_send_105 : decode cL_send 105 = .ok (.invokestatic 30, 3) := by decide +kernel
theorem dL_send_108 : decode cL_send 108 = .ok (.istore_n 2, 1) := by decide +kernel
theorem dL_send_109 : decode cL_send 109 = .ok (.iload_n 2, 1) := by decide +kernel
theorem dL_send_110 : decode cL_send 110 = .ok (.ifCond .ge 5, 3) := by decide +kernel
theorem dL_send_113 : decode cL_send 113 = .ok (.iconst 0, 1) := by decide +kernel
theorem dL_send_114 : decode cL_send 114 = .ok (.ireturn, 1) := by decide +kernel
theorem dL_send_115 : decode cL_send 115 = .ok (.iinc 3 20, 3) := by decide +kernel
theorem dL_send_118 : decode cL_send 118 = .ok (.goto (-104), 3) := by decide +kernel
theorem dL_send_121 : decode cL_send 121 = .ok (.iload_n 2, 1) := by decide +kernel
theorem dL_send_122 : decode cL_send 122 = .ok (.aload_n 1, 1) := by decide +kernel
theorem dL_send_123 : decode cL_send 123 = .ok (.invokevirtual 20, 3) := by decide +kernel
theorem dL_send_126 : decode cL_send 126 = .ok (.if_icmp .ne 7, 3) := by decide +kernel
theorem dL_send_129 : decode cL_send 129 = .ok (.iconst 1, 1) := by decide +kernel
theorem dL_send_130 : decode cL_send 130 = .ok (.goto 4, 3) := by decide +kernel
theorem dL_send_133 : decode cL_send 133 = .ok (.iconst 0, 1) := by decide +kernel
theorem dL_send_134 : decode cL_send 134 = .ok (.ireturn, 1) := by decide +kernel

set_option maxHeartbeats 4000000 in
set_option maxRecDepth 100000 in
theorem K_send30 {p : Program} {l : Launch} {e : Env} {s : State} {m : MethodId} {args : Array Value} {below : List Frame} {meth : Method} {c : Code} {D : va_G} {cI cB cL cO : ClassId} {pf : Nat → Nat} {A : Nat → Nat → Nat} {N : Nat} {b u : Nat} {t : List Nat} {z2 : T_PL} {W0 : va_W} {w i : Nat} {x : Int32} {zs : T_PL} (C : jC p s m args meth c cL_send 6 RL D [(cI, .int), (cB, .byte), (cL, .byte), (cO, .object RX0)] pf (va_A W0 s.heap.size)) (hr : meth.sig.returnType = (some FieldType.boolean)) (hf : l.stackTraces = false) (ht : AS t) (hn : t.length ≤ 320) (hi : i ≤ 340) (kk : J p l e { frames := 9, cells := 400, slots := 400, locals := 182 } s m args below meth c 6 D (va_A W0 s.heap.size) (MQ below (jQ D [(cI, .int), (cB, .byte), (cL, .byte), (cO, .object RX0)] W0 s.heap.size (is1 (some (.int 1)) ([(b, .inr (11, [.ref u, .int 0, .int 0, .int 0])), (u, .inl (cB, t.length, .inl (bN t)))] ++ wPL cI cB cO A z2))) args s 400 400 (va_A W0 s.heap.size)) (i + 1) (i + 5) 84 [(5, .int (nI 20)), (4, .ref w), (3, .int (nI i)), (2, .int x), (0, .ref (A 0 0)), (1, .ref b)] [] ([(w, .inl (cI, 5, .inl (pkW t i 20))), (b, .inr (11, [.ref u, .int 0, .int 0, .int 0])), (u, .inl (cB, t.length, .inl (bN t)))] ++ wPL cI cB cO A zs)) : ∀ (d j : Nat), j + d = 20 → J p l e { frames := 9, cells := 400, slots := 400, locals := 182 } s m args below meth c 6 D (va_A W0 s.heap.size) (MQ below (jQ D [(cI, .int), (cB, .byte), (cL, .byte), (cO, .object RX0)] W0 s.heap.size (is1 (some (.int 1)) ([(b, .inr (11, [.ref u, .int 0, .int 0, .int 0])), (u, .inl (cB, t.length, .inl (bN t)))] ++ wPL cI cB cO A z2))) args s 400 400 (va_A W0 s.heap.size)) (i + 1) (i + 5) 30 [(5, .int (nI j)), (4, .ref w), (3, .int (nI i)), (2, .int x), (0, .ref (A 0 0)), (1, .ref b)] [] ([(w, .inl (cI, 5, .inl (pkW t i j))), (b, .inr (11, [.ref u, .int 0, .int 0, .int 0])), (u, .inl (cB, t.length, .inl (bN t)))] ++ wPL cI cB cO A zs) := by
  intro d
  induction d with
  | zero =>
    intro j hj
    have hj : j = 20 := by omega
    refine J_iload (pc := 30) C dL_send_30 0 rfl ?_
    refine J_bipush (v := (20 : Int32)) (pc := 32) C dL_send_32 (by decide) ?_
    refine J_ic_ge (α := Unit) (o := ()) (X := some ()) (Y := none) (pc := 34) (tgt := 84) C dL_send_34 (by decide) (if_pos (by rw [hj]; exact Int32.le_refl _)) (fun _ => ?_) (fun h => by cases h)
    subst hj
    exact kk
  | succ d ih =>
    intro j hj
    rcases Nat.lt_or_ge (i + j) t.length with hg | hg
    · refine J_iload (pc := 30) C dL_send_30 0 rfl ?_
      refine J_bipush (v := (20 : Int32)) (pc := 32) C dL_send_32 (by decide) ?_
      refine J_ic_ge (α := Unit) (o := ()) (X := none) (Y := some ()) (pc := 34) (tgt := 84) C dL_send_34 (by decide) (if_neg (show ¬ nI 20 ≤ nI j from nI_ge (by omega) (by decide))) (fun h => by cases h) (fun _ => ?_)
      refine J_aload (pc := 37) C dL_send_37 1 rfl ?_
      refine J_iload (pc := 39) C dL_send_39 0 rfl ?_
      refine J_iconst (v := (4 : Int32)) (pc := 41) C dL_send_41 (by decide) ?_
      refine J_idiv (α := Unit) (o := ()) (X := some ()) (pc := 42) C dL_send_42 (if_neg (by decide)) (fun _ => ?_)
      refine J_top (α := Unit) (X := none) (nI (j / 4)) (div_nI (b := 4) (by omega) (by decide) (by decide)) ?_
      refine J_aload (pc := 43) C dL_send_43 1 rfl ?_
      refine J_iload (pc := 45) C dL_send_45 0 rfl ?_
      refine J_iconst (v := (4 : Int32)) (pc := 47) C dL_send_47 (by decide) ?_
      refine J_idiv (α := Unit) (o := ()) (X := some ()) (pc := 48) C dL_send_48 (if_neg (by decide)) (fun _ => ?_)
      refine J_top (α := Unit) (X := none) (nI (j / 4)) (div_nI (b := 4) (by omega) (by decide) (by decide)) ?_
      refine J_iald (α := Unit) (o := ()) (X := some ()) (pc := 49) C dL_send_49 0 0 rfl rfl (if_neg (in_row (by omega) (by decide))) (fun _ => ?_)
      refine J_top (α := Unit) (X := none) (pkW t i j (j / 4)) (by rw [nI_clamp (by omega)]) ?_
      refine J_bipush (v := (8 : Int32)) (pc := 50) C dL_send_50 (by decide) ?_
      refine J_ishl (pc := 52) C dL_send_52 ?_
      refine J_iload_n (pc := 53) C dL_send_53 2 rfl ?_
      refine J_iload (pc := 54) C dL_send_54 0 rfl ?_
      refine J_iadd (pc := 56) C dL_send_56 ?_
      refine J_top (α := Unit) (X := none) (nI (i + j)) (nI_add i j) ?_
      refine J_aload_n (pc := 57) C dL_send_57 5 rfl ?_
      refine J_cvF (As := []) (st := [.int (nI (i + j)), .int ((pkW t i j (j / 4)) <<< ((8 : Int32) &&& 31)), .int (nI (j / 4)), .ref w]) (pc := 58) C dL_send_58 ml_RL_20 mi_yJ0_length_8abf5 (c_mlen l D cI cB cL cO pf b u t) ([(w, .inl (cI, 5, .inl (pkW t i j)))] ++ wPL cI cB cO A zs) (permT (permN [1, 2] [0] 3 rfl rfl rfl (by decide))) (q0 := 0) rfl rfl rfl ⟨(Nat.le_of_ble_eq_true rfl), (Nat.le_of_ble_eq_true rfl)⟩ ⟨(by first | (dsimp only; omega) | omega), (by first | (dsimp only; omega) | omega)⟩ (Nat.le_of_ble_eq_true rfl) ?_
      rintro v w1 ⟨rfl, rfl⟩
      refine J_ws (ws2 := ([(b, .inr (11, [.ref u, .int 0, .int 0, .int 0])), (u, .inl (cB, t.length, .inl (bN t))), (w, .inl (cI, 5, .inl (pkW t i j)))] ++ wPL cI cB cO A zs)) rfl ?_
      refine J_drop (ws2 := ([(w, .inl (cI, 5, .inl (pkW t i j))), (b, .inr (11, [.ref u, .int 0, .int 0, .int 0])), (u, .inl (cB, t.length, .inl (bN t)))] ++ wPL cI cB cO A zs)) (Wr := []) (permDT (permN [2, 0, 1] [] 3 rfl rfl rfl (by decide))) ?_
      refine J_ic_ge (α := Unit) (o := ()) (X := none) (Y := some ()) (pc := 61) (tgt := 75) C dL_send_61 (by decide) (if_neg (nI_ge hg (by omega))) (fun h => by cases h) (fun _ => ?_)
      refine J_aload_n (pc := 64) C dL_send_64 5 rfl ?_
      refine J_iload_n (pc := 65) C dL_send_65 2 rfl ?_
      refine J_iload (pc := 66) C dL_send_66 0 rfl ?_
      refine J_iadd (pc := 68) C dL_send_68 ?_
      refine J_top (α := Unit) (X := none) (nI (i + j)) (nI_add i j) ?_
      refine J_cvF (As := [.int (nI (i + j))]) (st := [.int ((pkW t i j (j / 4)) <<< ((8 : Int32) &&& 31)), .int (nI (j / 4)), .ref w]) (pc := 69) C dL_send_69 ml_RL_26 mi_yJ0_charAt_5068e (c_mch l D cI cB cL cO pf b u (i + j) t ht hg (by omega)) ([(w, .inl (cI, 5, .inl (pkW t i j)))] ++ wPL cI cB cO A zs) (permT (permN [1, 2] [0] 3 rfl rfl rfl (by decide))) (q0 := 0) rfl rfl rfl ⟨(Nat.le_of_ble_eq_true rfl), (Nat.le_of_ble_eq_true rfl)⟩ ⟨(by first | (dsimp only; omega) | omega), (by first | (dsimp only; omega) | omega)⟩ (Nat.le_of_ble_eq_true rfl) ?_
      rintro v w1 ⟨rfl, rfl⟩
      refine J_ws (ws2 := ([(b, .inr (11, [.ref u, .int 0, .int 0, .int 0])), (u, .inl (cB, t.length, .inl (bN t))), (w, .inl (cI, 5, .inl (pkW t i j)))] ++ wPL cI cB cO A zs)) rfl ?_
      refine J_drop (ws2 := ([(w, .inl (cI, 5, .inl (pkW t i j))), (b, .inr (11, [.ref u, .int 0, .int 0, .int 0])), (u, .inl (cB, t.length, .inl (bN t)))] ++ wPL cI cB cO A zs)) (Wr := []) (permDT (permN [2, 0, 1] [] 3 rfl rfl rfl (by decide))) ?_
      refine J_goto (tgt := 76) (pc := 72) C dL_send_72 (by decide) ?_
      refine J_ior (pc := 76) C dL_send_76 ?_
      refine J_iast (α := Unit) (o := ()) (X := some ()) (pc := 77) C dL_send_77 0 0 rfl rfl (if_neg (in_row (by omega) (by decide))) (fun _ => ?_)
      refine J_ws (ws2 := ([(w, .inl (cI, 5, .inl (pkW t i (j + 1)))), (b, .inr (11, [.ref u, .int 0, .int 0, .int 0])), (u, .inl (cB, t.length, .inl (bN t)))] ++ wPL cI cB cO A zs)) (by rw [nI_clamp (by omega)]; rfl) ?_
      refine J_iincK (v := (1 : Int32)) (x2 := nI (j + 1)) (lv2 := [(5, .int (nI (j + 1))), (4, .ref w), (3, .int (nI i)), (2, .int x), (0, .ref (A 0 0)), (1, .ref b)]) (pc := 78) C dL_send_78 0 rfl (by decide) (nI_add j 1) (by decide) rfl ?_
      refine J_goto (tgt := 30) (pc := 81) C dL_send_81 (by decide) ?_
      exact ih (j + 1) (by omega)
    · refine J_iload (pc := 30) C dL_send_30 0 rfl ?_
      refine J_bipush (v := (20 : Int32)) (pc := 32) C dL_send_32 (by decide) ?_
      refine J_ic_ge (α := Unit) (o := ()) (X := none) (Y := some ()) (pc := 34) (tgt := 84) C dL_send_34 (by decide) (if_neg (show ¬ nI 20 ≤ nI j from nI_ge (by omega) (by decide))) (fun h => by cases h) (fun _ => ?_)
      refine J_aload (pc := 37) C dL_send_37 1 rfl ?_
      refine J_iload (pc := 39) C dL_send_39 0 rfl ?_
      refine J_iconst (v := (4 : Int32)) (pc := 41) C dL_send_41 (by decide) ?_
      refine J_idiv (α := Unit) (o := ()) (X := some ()) (pc := 42) C dL_send_42 (if_neg (by decide)) (fun _ => ?_)
      refine J_top (α := Unit) (X := none) (nI (j / 4)) (div_nI (b := 4) (by omega) (by decide) (by decide)) ?_
      refine J_aload (pc := 43) C dL_send_43 1 rfl ?_
      refine J_iload (pc := 45) C dL_send_45 0 rfl ?_
      refine J_iconst (v := (4 : Int32)) (pc := 47) C dL_send_47 (by decide) ?_
      refine J_idiv (α := Unit) (o := ()) (X := some ()) (pc := 48) C dL_send_48 (if_neg (by decide)) (fun _ => ?_)
      refine J_top (α := Unit) (X := none) (nI (j / 4)) (div_nI (b := 4) (by omega) (by decide) (by decide)) ?_
      refine J_iald (α := Unit) (o := ()) (X := some ()) (pc := 49) C dL_send_49 0 0 rfl rfl (if_neg (in_row (by omega) (by decide))) (fun _ => ?_)
      refine J_top (α := Unit) (X := none) (pkW t i j (j / 4)) (by rw [nI_clamp (by omega)]) ?_
      refine J_bipush (v := (8 : Int32)) (pc := 50) C dL_send_50 (by decide) ?_
      refine J_ishl (pc := 52) C dL_send_52 ?_
      refine J_iload_n (pc := 53) C dL_send_53 2 rfl ?_
      refine J_iload (pc := 54) C dL_send_54 0 rfl ?_
      refine J_iadd (pc := 56) C dL_send_56 ?_
      refine J_top (α := Unit) (X := none) (nI (i + j)) (nI_add i j) ?_
      refine J_aload_n (pc := 57) C dL_send_57 5 rfl ?_
      refine J_cvF (As := []) (st := [.int (nI (i + j)), .int ((pkW t i j (j / 4)) <<< ((8 : Int32) &&& 31)), .int (nI (j / 4)), .ref w]) (pc := 58) C dL_send_58 ml_RL_20 mi_yJ0_length_8abf5 (c_mlen l D cI cB cL cO pf b u t) ([(w, .inl (cI, 5, .inl (pkW t i j)))] ++ wPL cI cB cO A zs) (permT (permN [1, 2] [0] 3 rfl rfl rfl (by decide))) (q0 := 0) rfl rfl rfl ⟨(Nat.le_of_ble_eq_true rfl), (Nat.le_of_ble_eq_true rfl)⟩ ⟨(by first | (dsimp only; omega) | omega), (by first | (dsimp only; omega) | omega)⟩ (Nat.le_of_ble_eq_true rfl) ?_
      rintro v w1 ⟨rfl, rfl⟩
      refine J_ws (ws2 := ([(b, .inr (11, [.ref u, .int 0, .int 0, .int 0])), (u, .inl (cB, t.length, .inl (bN t))), (w, .inl (cI, 5, .inl (pkW t i j)))] ++ wPL cI cB cO A zs)) rfl ?_
      refine J_drop (ws2 := ([(w, .inl (cI, 5, .inl (pkW t i j))), (b, .inr (11, [.ref u, .int 0, .int 0, .int 0])), (u, .inl (cB, t.length, .inl (bN t)))] ++ wPL cI cB cO A zs)) (Wr := []) (permDT (permN [2, 0, 1] [] 3 rfl rfl rfl (by decide))) ?_
      refine J_ic_ge (α := Unit) (o := ()) (X := some ()) (Y := none) (pc := 61) (tgt := 75) C dL_send_61 (by decide) (if_pos (nI_le hg (by omega))) (fun _ => ?_) (fun h => by cases h)
      refine J_iconst (v := (0 : Int32)) (pc := 75) C dL_send_75 (by decide) ?_
      refine J_top (α := Unit) (X := none) (nI (t.getD (i + j) 0)) (by rw [gD_out hg]; rfl) ?_
      refine J_ior (pc := 76) C dL_send_76 ?_
      refine J_iast (α := Unit) (o := ()) (X := some ()) (pc := 77) C dL_send_77 0 0 rfl rfl (if_neg (in_row (by omega) (by decide))) (fun _ => ?_)
      refine J_ws (ws2 := ([(w, .inl (cI, 5, .inl (pkW t i (j + 1)))), (b, .inr (11, [.ref u, .int 0, .int 0, .int 0])), (u, .inl (cB, t.length, .inl (bN t)))] ++ wPL cI cB cO A zs)) (by rw [nI_clamp (by omega)]; rfl) ?_
      refine J_iincK (v := (1 : Int32)) (x2 := nI (j + 1)) (lv2 := [(5, .int (nI (j + 1))), (4, .ref w), (3, .int (nI i)), (2, .int x), (0, .ref (A 0 0)), (1, .ref b)]) (pc := 78) C dL_send_78 0 rfl (by decide) (nI_add j 1) (by decide) rfl ?_
      refine J_goto (tgt := 30) (pc := 81) C dL_send_81 (by decide) ?_
      exact ih (j + 1) (by omega)

set_option maxHeartbeats 4000000 in
set_option maxRecDepth 100000 in
theorem K_send14 {p : Program} {l : Launch} {e : Env} {s : State} {m : MethodId} {args : Array Value} {below : List Frame} {meth : Method} {c : Code} {D : va_G} {cI cB cL cO : ClassId} {pf : Nat → Nat} {A : Nat → Nat → Nat} {N : Nat} {b u : Nat} {t : List Nat} {z2 : T_PL} {W0 : va_W} (C : jC p s m args meth c cL_send 6 RL D [(cI, .int), (cB, .byte), (cL, .byte), (cO, .object RX0)] pf (va_A W0 s.heap.size)) (hr : meth.sig.returnType = (some FieldType.boolean)) (hf : l.stackTraces = false) (ht : AS t) (hn : t.length ≤ 320) : ∀ (f i : Nat) (x : Int32) (zs : T_PL), i ≤ 340 → H_sendL N t f i x zs = some z2 → J p l e { frames := 9, cells := 400, slots := 400, locals := 182 } s m args below meth c 6 D (va_A W0 s.heap.size) (MQ below (jQ D [(cI, .int), (cB, .byte), (cL, .byte), (cO, .object RX0)] W0 s.heap.size (is1 (some (.int 1)) ([(b, .inr (11, [.ref u, .int 0, .int 0, .int 0])), (u, .inl (cB, t.length, .inl (bN t)))] ++ wPL cI cB cO A z2))) args s 400 400 (va_A W0 s.heap.size)) (i) (i) 14 [(3, .int (nI i)), (2, .int x), (0, .ref (A 0 0)), (1, .ref b)] [] ([(b, .inr (11, [.ref u, .int 0, .int 0, .int 0])), (u, .inl (cB, t.length, .inl (bN t)))] ++ wPL cI cB cO A zs) := by
  intro f
  induction f with
  | zero =>
    intro i x zs hi h
    cases h
  | succ f ih =>
    intro i x zs hi h
    unfold H_sendL at h
    by_cases hg : t.length ≤ i
    · rw [if_pos hg] at h
      by_cases hx : x = nI t.length
      · rw [if_pos hx] at h
        have h := Option.some.inj h
        subst h
        refine J_iload_n (pc := 14) C dL_send_14 0 rfl ?_
        refine J_aload_n (pc := 15) C dL_send_15 3 rfl ?_
        refine J_cvF (As := []) (st := [.int (nI i)]) (pc := 16) C dL_send_16 ml_RL_20 mi_yJ0_length_8abf5 (c_mlen l D cI cB cL cO pf b u t) ([] ++ wPL cI cB cO A zs) (permT (permN [0, 1] [] 2 rfl rfl rfl (by decide))) (q0 := 0) rfl rfl rfl ⟨(Nat.le_of_ble_eq_true rfl), (Nat.le_of_ble_eq_true rfl)⟩ ⟨(by first | (dsimp only; omega) | omega), (by first | (dsimp only; omega) | omega)⟩ (Nat.le_of_ble_eq_true rfl) ?_
        rintro v w1 ⟨rfl, rfl⟩
        refine J_ws (ws2 := ([(b, .inr (11, [.ref u, .int 0, .int 0, .int 0])), (u, .inl (cB, t.length, .inl (bN t)))] ++ wPL cI cB cO A zs)) rfl ?_
        refine J_ic_ge (α := Unit) (o := ()) (X := some ()) (Y := none) (pc := 19) (tgt := 121) C dL_send_19 (by decide) (if_pos (nI_le hg (by omega))) (fun _ => ?_) (fun h => by cases h)
        refine J_iload_n (pc := 121) C dL_send_121 1 rfl ?_
        refine J_aload_n (pc := 122) C dL_send_122 3 rfl ?_
        refine J_cvF (As := []) (st := [.int x]) (pc := 123) C dL_send_123 ml_RL_20 mi_yJ0_length_8abf5 (c_mlen l D cI cB cL cO pf b u t) ([] ++ wPL cI cB cO A zs) (permT (permN [0, 1] [] 2 rfl rfl rfl (by decide))) (q0 := 0) rfl rfl rfl ⟨(Nat.le_of_ble_eq_true rfl), (Nat.le_of_ble_eq_true rfl)⟩ ⟨(by first | (dsimp only; omega) | omega), (by first | (dsimp only; omega) | omega)⟩ (Nat.le_of_ble_eq_true rfl) ?_
        rintro v w1 ⟨rfl, rfl⟩
        refine J_ws (ws2 := ([(b, .inr (11, [.ref u, .int 0, .int 0, .int 0])), (u, .inl (cB, t.length, .inl (bN t)))] ++ wPL cI cB cO A zs)) rfl ?_
        refine J_ic_ne (α := Unit) (o := ()) (X := some ()) (Y := none) (pc := 126) (tgt := 133) C dL_send_126 (by decide) (if_pos hx) (fun h => by cases h) (fun _ => ?_)
        refine J_iconst (v := (1 : Int32)) (pc := 129) C dL_send_129 (by decide) ?_
        refine J_goto (tgt := 134) (pc := 130) C dL_send_130 (by decide) ?_
        refine J_widen (k2 := 400) (n2 := 400) (by first | (dsimp only; omega) | omega) (by first | (dsimp only; omega) | omega) ?_
        exact J_zret (pc := 134) C dL_send_134 hr rfl ⟨rfl, rfl⟩
      · rw [if_neg hx] at h; cases h
    · rw [if_neg hg] at h
      obtain ⟨r, hr1, h⟩ := Option.bind_eq_some_iff.mp h
      by_cases hx : r.1 < 0
      · rw [if_pos hx] at h; cases h
      rw [if_neg hx] at h
      refine J_iload_n (pc := 14) C dL_send_14 0 rfl ?_
      refine J_aload_n (pc := 15) C dL_send_15 3 rfl ?_
      refine J_cvF (As := []) (st := [.int (nI i)]) (pc := 16) C dL_send_16 ml_RL_20 mi_yJ0_length_8abf5 (c_mlen l D cI cB cL cO pf b u t) ([] ++ wPL cI cB cO A zs) (permT (permN [0, 1] [] 2 rfl rfl rfl (by decide))) (q0 := 0) rfl rfl rfl ⟨(Nat.le_of_ble_eq_true rfl), (Nat.le_of_ble_eq_true rfl)⟩ ⟨(by first | (dsimp only; omega) | omega), (by first | (dsimp only; omega) | omega)⟩ (Nat.le_of_ble_eq_true rfl) ?_
      rintro v w1 ⟨rfl, rfl⟩
      refine J_ws (ws2 := ([(b, .inr (11, [.ref u, .int 0, .int 0, .int 0])), (u, .inl (cB, t.length, .inl (bN t)))] ++ wPL cI cB cO A zs)) rfl ?_
      refine J_ic_ge (α := Unit) (o := ()) (X := none) (Y := some ()) (pc := 19) (tgt := 121) C dL_send_19 (by decide) (if_neg (nI_ge (by omega) (by omega))) (fun h => by cases h) (fun _ => ?_)
      refine J_iconst (v := (5 : Int32)) (pc := 22) C dL_send_22 (by decide) ?_
      refine J_newa (atype := .int) (a0 := (5, .inl (fun _ => 0))) (N := 5) (pc := 23) C dL_send_23 w_arI rfl 0 rfl (by intro C h; cases h) (fun _ => rfl) (by decide) rfl (Nat.le_of_ble_eq_true rfl) ⟨(by first | (dsimp only; omega) | omega), (by first | (dsimp only; omega) | omega)⟩ (fun w => ?_)
      refine J_perm permNT ?_
      refine J_ws (ws2 := ([(b, .inr (11, [.ref u, .int 0, .int 0, .int 0])), (u, .inl (cB, t.length, .inl (bN t))), (w, .inl (cI, 5, .inl (fun _ => 0)))] ++ wPL cI cB cO A zs)) rfl ?_
      refine J_drop (ws2 := ([(w, .inl (cI, 5, .inl (fun _ => 0))), (b, .inr (11, [.ref u, .int 0, .int 0, .int 0])), (u, .inl (cB, t.length, .inl (bN t)))] ++ wPL cI cB cO A zs)) (Wr := []) (permDT (permN [2, 0, 1] [] 3 rfl rfl rfl (by decide))) ?_
      refine J_astore (lv2 := [(4, .ref w), (3, .int (nI i)), (2, .int x), (0, .ref (A 0 0)), (1, .ref b)]) (pc := 25) C dL_send_25 (by decide) rfl ?_
      refine J_iconst (v := (0 : Int32)) (pc := 27) C dL_send_27 (by decide) ?_
      refine J_istore (lv2 := [(5, .int (0 : Int32)), (4, .ref w), (3, .int (nI i)), (2, .int x), (0, .ref (A 0 0)), (1, .ref b)]) (pc := 28) C dL_send_28 (by decide) rfl ?_
      refine J_widen (k2 := i + 1) (n2 := i + 5) (by first | omega | (dsimp only; omega)) (by first | omega | (dsimp only; omega)) ?_
      refine K_send30 (N := N) C hr hf ht hn hi ?_ 20 0 rfl
      refine J_aload_n (pc := 84) C dL_send_84 4 rfl ?_
      refine J_aload (pc := 85) C dL_send_85 1 rfl ?_
      refine J_iconst (v := (0 : Int32)) (pc := 87) C dL_send_87 (by decide) ?_
      refine J_iald (α := Unit) (o := ()) (X := some ()) (pc := 88) C dL_send_88 0 0 rfl rfl (if_neg (by decide)) (fun _ => ?_)
      refine J_top (α := Unit) (X := none) (pkW t i 20 0) rfl ?_
      refine J_aload (pc := 89) C dL_send_89 1 rfl ?_
      refine J_iconst (v := (1 : Int32)) (pc := 91) C dL_send_91 (by decide) ?_
      refine J_iald (α := Unit) (o := ()) (X := some ()) (pc := 92) C dL_send_92 0 0 rfl rfl (if_neg (by decide)) (fun _ => ?_)
      refine J_top (α := Unit) (X := none) (pkW t i 20 1) rfl ?_
      refine J_aload (pc := 93) C dL_send_93 1 rfl ?_
      refine J_iconst (v := (2 : Int32)) (pc := 95) C dL_send_95 (by decide) ?_
      refine J_iald (α := Unit) (o := ()) (X := some ()) (pc := 96) C dL_send_96 0 0 rfl rfl (if_neg (by decide)) (fun _ => ?_)
      refine J_top (α := Unit) (X := none) (pkW t i 20 2) rfl ?_
      refine J_aload (pc := 97) C dL_send_97 1 rfl ?_
      refine J_iconst (v := (3 : Int32)) (pc := 99) C dL_send_99 (by decide) ?_
      refine J_iald (α := Unit) (o := ()) (X := some ()) (pc := 100) C dL_send_100 0 0 rfl rfl (if_neg (by decide)) (fun _ => ?_)
      refine J_top (α := Unit) (X := none) (pkW t i 20 3) rfl ?_
      refine J_aload (pc := 101) C dL_send_101 1 rfl ?_
      refine J_iconst (v := (4 : Int32)) (pc := 103) C dL_send_103 (by decide) ?_
      refine J_iald (α := Unit) (o := ()) (X := some ()) (pc := 104) C dL_send_104 0 0 rfl rfl (if_neg (by decide)) (fun _ => ?_)
      refine J_top (α := Unit) (X := none) (pkW t i 20 4) rfl ?_
      refine J_csH (As := [.ref (A 0 0), .int (pkW t i 20 0), .int (pkW t i 20 1), .int (pkW t i 20 2), .int (pkW t i 20 3), .int (pkW t i 20 4)]) (st := []) (pc := 105) C dL_send_105 ml_RL_30 wh_appended (V_appended l hf D cI cB cL cO pf N A zs (pkW t i 20 0) (pkW t i 20 1) (pkW t i 20 2) (pkW t i 20 3) (pkW t i 20 4) r hr1) [(w, .inl (cI, 5, .inl (pkW t i 20))), (b, .inr (11, [.ref u, .int 0, .int 0, .int 0])), (u, .inl (cB, t.length, .inl (bN t)))] List.perm_append_comm rfl ⟨(Nat.le_of_ble_eq_true rfl), (Nat.le_of_ble_eq_true rfl)⟩ ⟨(by first | (dsimp only; omega) | omega), (by first | (dsimp only; omega) | omega)⟩ (Nat.le_of_ble_eq_true rfl) ?_
      rintro v w1 ⟨rfl, rfl⟩
      refine J_perm List.perm_append_comm ?_
      refine J_ws (ws2 := ([(w, .inl (cI, 5, .inl (pkW t i 20))), (b, .inr (11, [.ref u, .int 0, .int 0, .int 0])), (u, .inl (cB, t.length, .inl (bN t)))] ++ wPL cI cB cO A r.2)) rfl ?_
      refine J_istore_n (lv2 := [(2, .int r.1), (5, .int (nI 20)), (4, .ref w), (3, .int (nI i)), (0, .ref (A 0 0)), (1, .ref b)]) (pc := 108) C dL_send_108 (by decide) rfl ?_
      refine J_iload_n (pc := 109) C dL_send_109 0 rfl ?_
      refine J_if_ge (α := Unit) (o := ()) (X := some ()) (Y := none) (pc := 110) (tgt := 115) C dL_send_110 (by decide) (if_pos (Int32.not_lt.mp hx)) (fun _ => ?_) (fun h => by cases h)
      refine J_iincK (v := (20 : Int32)) (x2 := nI (i + 20)) (lv2 := [(3, .int (nI (i + 20))), (2, .int r.1), (5, .int (nI 20)), (4, .ref w), (0, .ref (A 0 0)), (1, .ref b)]) (pc := 115) C dL_send_115 3 rfl (by decide) (nI_add i 20) (by decide) rfl ?_
      refine J_goto (tgt := 14) (pc := 118) C dL_send_118 (by decide) ?_
      refine J_sub (lv2 := [(3, .int (nI (i + 20))), (2, .int r.1), (0, .ref (A 0 0)), (1, .ref b)]) [0, 1, 4, 5] rfl ?_
      refine J_drop (ws2 := ([(b, .inr (11, [.ref u, .int 0, .int 0, .int 0])), (u, .inl (cB, t.length, .inl (bN t)))] ++ wPL cI cB cO A r.2)) (Wr := [(w, .inl (cI, 5, .inl (pkW t i 20)))]) (permDT (permN [1, 2] [0] 3 rfl rfl rfl (by decide))) ?_
      refine J_widen (k2 := i + 20) (n2 := i + 20) (by first | omega | (dsimp only; omega)) (by first | omega | (dsimp only; omega)) ?_
      exact ih (i + 20) _ _ (by omega) h

set_option maxHeartbeats 4000000 in
set_option maxRecDepth 100000 in
theorem c_L_send (l : Launch) (D : va_G) (cI cB cL cO : ClassId) (pf : Nat → Nat) (A : Nat → Nat → Nat) (N b u : Nat) (t : List Nat) (zs z2 : T_PL) (hf : l.stackTraces = false) (ht : AS t) (hn : t.length ≤ 320) (h : H_send N t zs = some z2) : Ct l D [(cI, .int), (cB, .byte), (cL, .byte), (cO, .object RX0)] pf yL_send cL_send 6 (some FieldType.boolean) { frames := 9, cells := 400, slots := 400, locals := 182 } [.ref (A 0 0), .ref b] ([(b, .inr (11, [.ref u, .int 0, .int 0, .int 0])), (u, .inl (cB, t.length, .inl (bN t)))] ++ wPL cI cB cO A zs) (is1 (some (.int 1)) ([(b, .inr (11, [.ref u, .int 0, .int 0, .int 0])), (u, .inl (cB, t.length, .inl (bN t)))] ++ wPL cI cB cO A z2)) := by
  refine Ct_of (own := RL) (lv0 := [(0, .ref (A 0 0)), (1, .ref b)]) (by decide) rfl rfl (Nat.le_of_ble_eq_true rfl) ?_
  intro pZ eZ sZ mZ argsZ belowZ methZ cZ C hr hnm
  unfold H_send at h
  obtain ⟨⟨r0, a0, z1⟩, hr1, h⟩ := Option.bind_eq_some_iff.mp h
  by_cases h0 : r0 = 0
  case neg => rw [if_neg h0] at h; cases h
  rw [if_pos h0] at h
  by_cases h1 : a0 = 0
  case neg => rw [if_neg h1] at h; cases h
  rw [if_pos h1] at h
  have h0 : r0 = 0 := h0
  subst h0
  refine J_aload_n (pc := 0) C dL_send_0 0 rfl ?_
  refine J_iconst (v := (0 : Int32)) (pc := 1) C dL_send_1 (by decide) ?_
  refine J_cvF (As := [.int (0 : Int32)]) (st := []) (pc := 2) C dL_send_2 ml_RL_16 mi_yX10_truncate (R_truncate l D cI cB cL cO pf N A zs (0 : Int32) hr1) [(b, .inr (11, [.ref u, .int 0, .int 0, .int 0])), (u, .inl (cB, t.length, .inl (bN t)))] List.perm_append_comm (q0 := 0) at_this rfl rfl ⟨(Nat.le_of_ble_eq_true rfl), (Nat.le_of_ble_eq_true rfl)⟩ ⟨(by first | (dsimp only; omega) | omega), (by first | (dsimp only; omega) | omega)⟩ (Nat.le_of_ble_eq_true rfl) ?_
  rintro v w1 ⟨rfl, rfl⟩
  refine J_perm List.perm_append_comm ?_
  refine J_ws (ws2 := ([(b, .inr (11, [.ref u, .int 0, .int 0, .int 0])), (u, .inl (cB, t.length, .inl (bN t)))] ++ wPL cI cB cO A z1)) rfl ?_
  refine J_if_eq (α := Unit) (o := ()) (X := some ()) (Y := none) (pc := 5) (tgt := 10) C dL_send_5 (by decide) (if_pos h1) (fun _ => ?_) (fun h => by cases h)
  refine J_iconst (v := (0 : Int32)) (pc := 10) C dL_send_10 (by decide) ?_
  refine J_istore_n (lv2 := [(2, .int (0 : Int32)), (0, .ref (A 0 0)), (1, .ref b)]) (pc := 11) C dL_send_11 (by decide) rfl ?_
  refine J_iconst (v := (0 : Int32)) (pc := 12) C dL_send_12 (by decide) ?_
  refine J_istore_n (lv2 := [(3, .int (0 : Int32)), (2, .int (0 : Int32)), (0, .ref (A 0 0)), (1, .ref b)]) (pc := 13) C dL_send_13 (by decide) rfl ?_
  exact K_send14 C hr hf ht hn N 0 _ z1 (Nat.zero_le _) h
