/-! the law's texts -/
theorem permT {L Wc Wr T : va_W} (h : L.Perm (Wc ++ Wr)) : (L ++ T).Perm (Wc ++ (Wr ++ T)) := by
  rw [← List.append_assoc]
  exact h.append_right T
theorem permDT {L K Wr T : va_W} (h : L.Perm (K ++ Wr)) : (L ++ T).Perm ((K ++ T) ++ Wr) :=
  (h.append_right T).trans (by
    rw [List.append_assoc, List.append_assoc]
    exact List.Perm.append_left K List.perm_append_comm)
theorem permNT {L T : va_W} {x : Nat × va_E} : ((L ++ T) ++ [x]).Perm ((L ++ [x]) ++ T) := by
  rw [List.append_assoc, List.append_assoc]
  exact List.Perm.append_left L List.perm_append_comm
theorem ch_i2c : ∀ n : Nat, n < 128 → ((nI n).toUInt32 % 65536).toInt32 = nI n := by decide +kernel
theorem rem_nI {a b : Nat} (ha : a < 2 ^ 31) (hb : b < 2 ^ 31) (h0 : 0 < b) : nI a - nI a / nI b * nI b = nI (a % b) := by
  rw [div_nI ha hb h0, show nI (a / b) * nI b = nI (a / b * b) from (Int32.ofNat_mul _ _).symm, pk_sub (Nat.div_mul_le_self _ _)]
  congr 1
  have := Nat.div_add_mod' a b
  omega
theorem l_app {l s : List Nat} {n k : Nat} (h : l.length ≤ n) (h2 : s.length ≤ k) : (l ++ s).length ≤ n + k := by
  rw [List.length_append]; omega
theorem tx_len11 : ∀ i : Nat, i < 20 → (tx i).length ≤ 11 := by decide +kernel

theorem dL_name_0 : decode cL_name 0 = .ok (.new 53, 3) := by decide +kernel
theorem dL_name_3 : decode cL_name 3 = .ok (.dup, 1) := by decide +kernel
theorem dL_name_4 : decode cL_name 4 = .ok (.invokespecial 55, 3) := by decide +kernel
theorem dL_name_7 : decode cL_name 7 = .ok (.ldc 130, 2) := by decide +kernel
theorem dL_name_9 : decode cL_name 9 = .ok (.invokevirtual 58, 3) := by decide +kernel
theorem dL_name_12 : decode cL_name 12 = .ok (.bipush 97, 2) := by decide +kernel
theorem dL_name_14 : decode cL_name 14 = .ok (.iload_n 1, 1) := by decide +kernel
theorem dL_name_15 : decode cL_name 15 = .ok (.bipush 7, 2) := by decide +kernel
theorem dL_name_17 : decode cL_name 17 = .ok (.imul, 1) := by decide +kernel
theorem dL_name_18 : decode cL_name 18 = .ok (.aload_n 0, 1) := by decide +kernel
theorem dL_name_19 : decode cL_name 19 = .ok (.iconst 5, 1) := by decide +kernel
theorem dL_name_20 : decode cL_name 20 = .ok (.invokestatic 41, 3) := by decide +kernel
theorem dL_name_23 : decode cL_name 23 = .ok (.bipush 24, 2) := by decide +kernel
theorem dL_name_25 : decode cL_name 25 = .ok (.ishr, 1) := by decide +kernel
theorem dL_name_26 : decode cL_name 26 = .ok (.bipush 26, 2) := by decide +kernel
theorem dL_name_28 : decode cL_name 28 = .ok (.invokestatic 45, 3) := by decide +kernel
theorem dL_name_31 : decode cL_name 31 = .ok (.iadd, 1) := by decide +kernel
theorem dL_name_32 : decode cL_name 32 = .ok (.bipush 26, 2) := by decide +kernel
theorem dL_name_34 : decode cL_name 34 = .ok (.irem, 1) := by decide +kernel
theorem dL_name_35 : decode cL_name 35 = .ok (.iadd, 1) := by decide +kernel
theorem dL_name_36 : decode cL_name 36 = .ok (.i2c, 1) := by decide +kernel
theorem dL_name_37 : decode cL_name 37 = .ok (.invokevirtual 86, 3) := by decide +kernel
theorem dL_name_40 : decode cL_name 40 = .ok (.invokevirtual 77, 3) := by decide +kernel
theorem dL_name_43 : decode cL_name 43 = .ok (.areturn, 1) := by decide +kernel

set_option maxHeartbeats 4000000 in
set_option maxRecDepth 100000 in
theorem c_L_name (l : Launch) (D : va_G) (cI cB cL cO : ClassId) (pf : Nat → Nat) (hL : pf 93 < 2 ^ 31) (i : Nat) (hi : i < 10) : Ct l D [(cI, .int), (cB, .byte), (cL, .byte), (cO, .object RX0)] pf yL_name cL_name 2 (some (FieldType.object "java/lang/String")) { frames := 6, cells := 6, slots := 12312, locals := 171 } [.ref (pf 92), .int (nI i)] [] (fun V w => ∃ q r, V = some (.ref q) ∧ w = [(q, .inr (11, [.ref r, .int 0, .int 0, .int 0])), (r, .inl (cB, [109, nameN pf i].length, .inl (bN [109, nameN pf i])))]) := by
  refine Ct_of (own := RL) (lv0 := [(0, .ref (pf 92)), (1, .int (nI i))]) (by decide) rfl rfl (Nat.le_of_ble_eq_true rfl) ?_
  intro pZ eZ sZ mZ argsZ belowZ methZ cZ C hr hnm
  refine J_new (ci := 12) (fs := [.null, .int 0, .int 0, .int 0]) (pc := 0) C dL_name_0 jf_J4 clk_RL_53 ins_RJ4 ini_RJ4 rfl df_J4 ⟨(by first | (dsimp only; omega) | omega), (by first | (dsimp only; omega) | omega)⟩ (fun a => ?_)
  refine J_ws (ws2 := [(a, .inr (12, [.null, .int 0, .int 0, .int 0]))]) rfl ?_
  refine J_dupr (pc := 3) C dL_name_3 ?_
  refine J_ciF (As := []) (st := [.ref a]) (pc := 4) C dL_name_4 ml_RL_55 mi_yJ4_init_da8c8 (c_SBi l D cI cB cL cO pf a) [] (permN [0] [] 1 rfl rfl rfl (by decide)) rfl ⟨(Nat.le_of_ble_eq_true rfl), (Nat.le_of_ble_eq_true rfl)⟩ ⟨(by first | (dsimp only; omega) | omega), (by first | (dsimp only; omega) | omega)⟩ (Nat.le_of_ble_eq_true rfl) ?_
  rintro v w1 ⟨rfl, vx0, rfl⟩
  refine J_ws (ws2 := [(a, .inr (12, [.ref vx0, .int 0, .int 0, .int (nI [].length)])), (vx0, .inl (cB, 16, .inl (bN [])))]) rfl ?_
  refine J_ldcS (pc := 7) C dL_name_7 25 rfl ?_
  have hAx1 : AS (tx 15) := (tx_AS (i := 15) (by decide))
  have hbx1 : (tx 15).length ≤ _ := (tx_len11 15 (by decide))
  refine J_cvF (As := [.ref (pf 15)]) (st := []) (pc := 9) C dL_name_9 ml_RL_58 mi_yJ4_append_15ec4 (c_SBSK l D cI cB cL cO pf a vx0 16 [] 15 (by decide) AS_nil (by decide) (by decide) (by have := sl_lenS 15 (by decide); show 0 + _ ≤ _; omega)) [] (permN [0, 1] [] 2 rfl rfl rfl (by decide)) (q0 := 0) rfl rfl rfl ⟨(Nat.le_of_ble_eq_true rfl), (Nat.le_of_ble_eq_true rfl)⟩ ⟨(by first | (dsimp only; omega) | omega), (by first | (dsimp only; omega) | omega)⟩ (Nat.le_of_ble_eq_true rfl) ?_
  rintro v w1 ⟨rfl, vx1, capx1, rfl, gx1, zx1⟩
  refine J_ws (ws2 := [(a, .inr (12, [.ref vx1, .int 0, .int 0, .int (nI (tx 15).length)])), (vx1, .inl (cB, capx1, .inl (bN (tx 15))))]) rfl ?_
  refine J_bipush (v := (97 : Int32)) (pc := 12) C dL_name_12 (by decide) ?_
  refine J_iload_n (pc := 14) C dL_name_14 1 rfl ?_
  refine J_bipush (v := (7 : Int32)) (pc := 15) C dL_name_15 (by decide) ?_
  refine J_imul (pc := 17) C dL_name_17 ?_
  refine J_top (α := Unit) (X := none) (nI (i * 7)) (Int32.ofNat_mul i 7).symm ?_
  refine J_aload_n (pc := 18) C dL_name_18 0 rfl ?_
  refine J_iconst (v := (5 : Int32)) (pc := 19) C dL_name_19 (by decide) ?_
  refine J_csF (b := 0) (As := [.ref (pf 92), .int (5 : Int32)]) (st := [.int (nI (i * 7)), .int (97 : Int32), .ref a]) (pc := 20) C dL_name_20 ml_RL_41 mi_yL_cell (c_cell l D cI cB cL cO pf (5 : Int32) (scI pf 5) (cell_val hL (k := 5) (by decide))) [(a, .inr (12, [.ref vx1, .int 0, .int 0, .int (nI (tx 15).length)])), (vx1, .inl (cB, capx1, .inl (bN (tx 15))))] (permN [] [0, 1] 2 rfl rfl rfl (by decide)) rfl ⟨(Nat.le_of_ble_eq_true rfl), (Nat.le_of_ble_eq_true rfl)⟩ ⟨(by first | (dsimp only; omega) | omega), (by first | (dsimp only; omega) | omega)⟩ (Nat.le_of_ble_eq_true rfl) ?_
  rintro v w1 ⟨rfl, rfl⟩
  refine J_ws (ws2 := [(a, .inr (12, [.ref vx1, .int 0, .int 0, .int (nI (tx 15).length)])), (vx1, .inl (cB, capx1, .inl (bN (tx 15))))]) rfl ?_
  refine J_bipush (v := (24 : Int32)) (pc := 23) C dL_name_23 (by decide) ?_
  refine J_ishr (pc := 25) C dL_name_25 ?_
  refine J_bipush (v := (26 : Int32)) (pc := 26) C dL_name_26 (by decide) ?_
  refine J_csF (b := 0) (As := [.int ((scI pf 5) >>> ((24 : Int32) &&& 31)), .int (26 : Int32)]) (st := [.int (nI (i * 7)), .int (97 : Int32), .ref a]) (pc := 28) C dL_name_28 ml_RL_45 mi_yL_in (c_L_in l D cI cB cL cO pf 0 (scI pf 5 >>> ((24 : Int32) &&& 31)) (26 : Int32) (nI (inN (scI pf 5 >>> ((24 : Int32) &&& 31)) 26)) (in_val _ (m := 26) (by decide) (by decide))) [(a, .inr (12, [.ref vx1, .int 0, .int 0, .int (nI (tx 15).length)])), (vx1, .inl (cB, capx1, .inl (bN (tx 15))))] (permN [] [0, 1] 2 rfl rfl rfl (by decide)) rfl ⟨(Nat.le_of_ble_eq_true rfl), (Nat.le_of_ble_eq_true rfl)⟩ ⟨(by first | (dsimp only; omega) | omega), (by first | (dsimp only; omega) | omega)⟩ (Nat.le_of_ble_eq_true rfl) ?_
  rintro v w1 ⟨rfl, rfl⟩
  refine J_ws (ws2 := [(a, .inr (12, [.ref vx1, .int 0, .int 0, .int (nI (tx 15).length)])), (vx1, .inl (cB, capx1, .inl (bN (tx 15))))]) rfl ?_
  refine J_iadd (pc := 31) C dL_name_31 ?_
  refine J_top (α := Unit) (X := none) (nI (i * 7 + inN (scI pf 5 >>> ((24 : Int32) &&& 31)) 26)) (nI_add _ _) ?_
  refine J_bipush (v := (26 : Int32)) (pc := 32) C dL_name_32 (by decide) ?_
  refine J_irem (α := Unit) (o := ()) (X := some ()) (pc := 34) C dL_name_34 (if_neg (by decide)) (fun _ => ?_)
  refine J_top (α := Unit) (X := none) (nI ((i * 7 + inN (scI pf 5 >>> ((24 : Int32) &&& 31)) 26) % 26)) (rem_nI (b := 26) (by have := inN_lt (scI pf 5 >>> ((24 : Int32) &&& 31)) (m := 26) (by decide); omega) (by decide) (by decide)) ?_
  refine J_iadd (pc := 35) C dL_name_35 ?_
  refine J_top (α := Unit) (X := none) (nI (nameN pf i)) (nI_add 97 _) ?_
  refine J_i2c (v := nI (nameN pf i)) (pc := 36) C dL_name_36 (ch_i2c _ (by have := (b_name (pf := pf) i).2; omega)) ?_
  have hAx2 : AS (tx 15 ++ [nameN pf i]) := AS_app hAx1 (AS_one (by have := (b_name (pf := pf) i).2; omega))
  have hbx2 : (tx 15 ++ [nameN pf i]).length ≤ _ := l_app hbx1 (Nat.le_refl 1)
  refine J_cvF (As := [.int (nI (nameN pf i))]) (st := []) (pc := 37) C dL_name_37 ml_RL_86 mi_yJ4_append_cf468 (c_SBC l D cI cB cL cO pf a vx1 capx1 (tx 15) (nameN pf i) (by have := (b_name (pf := pf) i).2; omega) hAx1 gx1 zx1 (by have := hbx1; omega)) [] (permN [0, 1] [] 2 rfl rfl rfl (by decide)) (q0 := 0) rfl rfl rfl ⟨(Nat.le_of_ble_eq_true rfl), (Nat.le_of_ble_eq_true rfl)⟩ ⟨(by first | (dsimp only; omega) | omega), (by first | (dsimp only; omega) | omega)⟩ (Nat.le_of_ble_eq_true rfl) ?_
  rintro v w1 ⟨rfl, vx2, capx2, rfl, gx2, zx2⟩
  refine J_ws (ws2 := [(a, .inr (12, [.ref vx2, .int 0, .int 0, .int (nI (tx 15 ++ [nameN pf i]).length)])), (vx2, .inl (cB, capx2, .inl (bN (tx 15 ++ [nameN pf i]))))]) rfl ?_
  refine J_cvF (As := []) (st := []) (pc := 40) C dL_name_40 ml_RL_77 mi_yJ4_toString_0e30d (c_toS l D cI cB cL cO pf a vx2 capx2 (tx 15 ++ [nameN pf i]) hAx2 gx2 zx2) [] (permN [0, 1] [] 2 rfl rfl rfl (by decide)) (q0 := 0) rfl rfl rfl ⟨(Nat.le_of_ble_eq_true rfl), (Nat.le_of_ble_eq_true rfl)⟩ ⟨(by first | (dsimp only; omega) | omega), (by first | (dsimp only; omega) | omega)⟩ (Nat.le_of_ble_eq_true rfl) ?_
  rintro v w1 ⟨q, r, rfl, rfl⟩
  refine J_ws (ws2 := [(q, .inr (11, [.ref r, .int 0, .int 0, .int 0])), (r, .inl (cB, (tx 15 ++ [nameN pf i]).length, .inl (bN (tx 15 ++ [nameN pf i]))))]) rfl ?_
  refine J_drop (ws2 := [(q, .inr (11, [.ref r, .int 0, .int 0, .int 0])), (r, .inl (cB, (tx 15 ++ [nameN pf i]).length, .inl (bN (tx 15 ++ [nameN pf i]))))]) (Wr := []) (permN [0, 1] [] 2 rfl rfl rfl (by decide)) ?_
  refine J_widen (k2 := 6) (n2 := 12312) (by first | (dsimp only; omega) | omega) (by first | (dsimp only; omega) | omega) ?_
  exact J_aret (pc := 43) C dL_name_43 hr (by first | exact Or.inl ⟨_, rfl⟩ | exact Or.inr ⟨_, rfl⟩) (Or.inr ⟨_, rfl⟩) ⟨q, r, rfl, rfl⟩

theorem dL_config_0 : decode cL_config 0 = .ok (.new 53, 3) := by decide +kernel
theorem dL_config_3 : decode cL_config 3 = .ok (.dup, 1) := by decide +kernel
theorem dL_config_4 : decode cL_config 4 = .ok (.invokespecial 55, 3) := by decide +kernel
theorem dL_config_7 : decode cL_config 7 = .ok (.ldc 56, 2) := by decide +kernel
theorem dL_config_9 : decode cL_config 9 = .ok (.invokevirtual 58, 3) := by decide +kernel
theorem dL_config_12 : decode cL_config 12 = .ok (.aload_n 0, 1) := by decide +kernel
theorem dL_config_13 : decode cL_config 13 = .ok (.invokestatic 61, 3) := by decide +kernel
theorem dL_config_16 : decode cL_config 16 = .ok (.invokevirtual 64, 3) := by decide +kernel
theorem dL_config_19 : decode cL_config 19 = .ok (.ldc 67, 2) := by decide +kernel
theorem dL_config_21 : decode cL_config 21 = .ok (.invokevirtual 58, 3) := by decide +kernel
theorem dL_config_24 : decode cL_config 24 = .ok (.aload_n 0, 1) := by decide +kernel
theorem dL_config_25 : decode cL_config 25 = .ok (.invokestatic 69, 3) := by decide +kernel
theorem dL_config_28 : decode cL_config 28 = .ok (.invokevirtual 64, 3) := by decide +kernel
theorem dL_config_31 : decode cL_config 31 = .ok (.ldc 72, 2) := by decide +kernel
theorem dL_config_33 : decode cL_config 33 = .ok (.invokevirtual 58, 3) := by decide +kernel
theorem dL_config_36 : decode cL_config 36 = .ok (.aload_n 0, 1) := by decide +kernel
theorem dL_config_37 : decode cL_config 37 = .ok (.invokestatic 74, 3) := by decide +kernel
theorem dL_config_40 : decode cL_config 40 = .ok (.invokevirtual 64, 3) := by decide +kernel
theorem dL_config_43 : decode cL_config 43 = .ok (.invokevirtual 77, 3) := by decide +kernel
theorem dL_config_46 : decode cL_config 46 = .ok (.astore_n 1, 1) := by decide +kernel
theorem dL_config_47 : decode cL_config 47 = .ok (.iconst 0, 1) := by decide +kernel
theorem dL_config_48 : decode cL_config 48 = .ok (.istore_n 2, 1) := by decide +kernel
theorem dL_config_49 : decode cL_config 49 = .ok (.iload_n 2, 1) := by decide +kernel
theorem dL_config_50 : decode cL_config 50 = .ok (.aload_n 0, 1) := by decide +kernel
theorem dL_config_51 : decode cL_config 51 = .ok (.invokestatic 81, 3) := by decide +kernel
theorem dL_config_54 : decode cL_config 54 = .ok (.if_icmp .ge 63, 3) := by decide +kernel
theorem dL_config_57 : decode cL_config 57 = .ok (.new 53, 3) := by decide +kernel
theorem dL_config_60 : decode cL_config 60 = .ok (.dup, 1) := by decide +kernel
theorem dL_config_61 : decode cL_config 61 = .ok (.invokespecial 55, 3) := by decide +kernel
theorem dL_config_64 : decode cL_config 64 = .ok (.aload_n 1, 1) := by decide +kernel
theorem dL_config_65 : decode cL_config 65 = .ok (.invokevirtual 58, 3) := by decide +kernel
theorem dL_config_68 : decode cL_config 68 = .ok (.ldc 84, 2) := by decide +kernel
theorem dL_config_70 : decode cL_config 70 = .ok (.invokevirtual 58, 3) := by decide +kernel
theorem dL_config_73 : decode cL_config 73 = .ok (.bipush 97, 2) := by decide +kernel
theorem dL_config_75 : decode cL_config 75 = .ok (.iload_n 2, 1) := by decide +kernel
theorem dL_config_76 : decode cL_config 76 = .ok (.iadd, 1) := by decide +kernel
theorem dL_config_77 : decode cL_config 77 = .ok (.i2c, 1) := by decide +kernel
theorem dL_config_78 : decode cL_config 78 = .ok (.invokevirtual 86, 3) := by decide +kernel
theorem dL_config_81 : decode cL_config 81 = .ok (.ldc 89, 2) := by decide +kernel
theorem dL_config_83 : decode cL_config 83 = .ok (.invokevirtual 58, 3) := by decide +kernel
theorem dL_config_86 : decode cL_config 86 = .ok (.aload_n 0, 1) := by decide +kernel
theorem dL_config_87 : decode cL_config 87 = .ok (.iload_n 2, 1) := by decide +kernel
theorem dL_config_88 : decode cL_config 88 = .ok (.invokestatic 91, 3) := by decide +kernel
theorem dL_config_91 : decode cL_config 91 = .ok (.invokevirtual 64, 3) := by decide +kernel
theorem dL_config_94 : decode cL_config 94 = .ok (.ldc 89, 2) := by decide +kernel
theorem dL_config_96 : decode cL_config 96 = .ok (.invokevirtual 58, 3) := by decide +kernel
theorem dL_config_99 : decode cL_config 99 = .ok (.aload_n 0, 1) := by decide +kernel
theorem dL_config_100 : decode cL_config 100 = .ok (.iload_n 2, 1) := by decide +kernel
theorem dL_config_101 : decode cL_config 101 = .ok (.invokestatic 94, 3) := by decide +kernel
theorem dL_config_104 : decode cL_config 104 = .ok (.invokevirtual 64, 3) := by decide +kernel
theorem dL_config_107 : decode cL_config 107 = .ok (.invokevirtual 77, 3) := by decide +kernel
theorem dL_config_110 : decode cL_config 110 = .ok (.astore_n 1, 1) := by decide +kernel
theorem dL_config_111 : decode cL_config 111 = .ok (.iinc 2 1, 3) := by decide +kernel
theorem dL_config_114 : decode cL_config 114 = .ok (.goto (-65), 3) := by decide +kernel
theorem dL_config_117 : decode cL_config 117 = .ok (.iconst 0, 1) := by decide +kernel
theorem dL_config_118 : decode cL_config 118 = .ok (.istore_n 2, 1) := by decide +kernel
theorem dL_config_119 : decode cL_config 119 = .ok (.iload_n 2, 1) := by decide +kernel
theorem dL_config_120 : decode cL_config 120 = .ok (.aload_n 0, 1) := by decide +kernel
theorem dL_config_121 : decode cL_config 121 = .ok (.invokestatic 97, 3) := by decide +kernel
theorem dL_config_124 : decode cL_config 124 = .ok (.if_icmp .ge 63, 3) := by decide +kernel
theorem dL_config_127 : decode cL_config 127 = .ok (.new 53, 3) := by decide +kernel
theorem dL_config_130 : decode cL_config 130 = .ok (.dup, 1) := by decide +kernel
theorem dL_config_131 : decode cL_config 131 = .ok (.invokespecial 55, 3) := by decide +kernel
theorem dL_config_134 : decode cL_config 134 = .ok (.aload_n 1, 1) := by decide +kernel
theorem dL_config_135 : decode cL_config 135 = .ok (.invokevirtual 58, 3) := by decide +kernel
theorem dL_config_138 : decode cL_config 138 = .ok (.ldc 100, 2) := by decide +kernel
theorem dL_config_140 : decode cL_config 140 = .ok (.invokevirtual 58, 3) := by decide +kernel
theorem dL_config_143 : decode cL_config 143 = .ok (.bipush 97, 2) := by decide +kernel
theorem dL_config_145 : decode cL_config 145 = .ok (.iload_n 2, 1) := by decide +kernel
theorem dL_config_146 : decode cL_config 146 = .ok (.iadd, 1) := by decide +kernel
theorem dL_config_147 : decode cL_config 147 = .ok (.i2c, 1) := by decide +kernel
theorem dL_config_148 : decode cL_config 148 = .ok (.invokevirtual 86, 3) := by decide +kernel
theorem dL_config_151 : decode cL_config 151 = .ok (.ldc 89, 2) := by decide +kernel
theorem dL_config_153 : decode cL_config 153 = .ok (.invokevirtual 58, 3) := by decide +kernel
theorem dL_config_156 : decode cL_config 156 = .ok (.aload_n 0, 1) := by decide +kernel
theorem dL_config_157 : decode cL_config 157 = .ok (.iload_n 2, 1) := by decide +kernel
theorem dL_config_158 : decode cL_config 158 = .ok (.invokestatic 102, 3) := by decide +kernel
theorem dL_config_161 : decode cL_config 161 = .ok (.invokevirtual 64, 3) := by decide +kernel
theorem dL_config_164 : decode cL_config 164 = .ok (.ldc 89, 2) := by decide +kernel
theorem dL_config_166 : decode cL_config 166 = .ok (.invokevirtual 58, 3) := by decide +kernel
theorem dL_config_169 : decode cL_config 169 = .ok (.aload_n 0, 1) := by decide +kernel
theorem dL_config_170 : decode cL_config 170 = .ok (.iload_n 2, 1) := by decide +kernel
theorem dL_config_171 : decode cL_config 171 = .ok (.invokestatic 105, 3) := by decide +kernel
theorem dL_config_174 : decode cL_config 174 = .ok (.invokevirtual 64, 3) := by decide +kernel
theorem dL_config_177 : decode cL_config 177 = .ok (.invokevirtual 77, 3) := by decide +kernel
theorem dL_config_180 : decode cL_config 180 = .ok (.astore_n 1, 1) := by decide +kernel
theorem dL_config_181 : decode cL_config 181 = .ok (.iinc 2 1, 3) := by decide +kernel
theorem dL_config_184 : decode cL_config 184 = .ok (.goto (-65), 3) := by decide +kernel
theorem dL_config_187 : decode cL_config 187 = .ok (.iconst 0, 1) := by decide +kernel
theorem dL_config_188 : decode cL_config 188 = .ok (.istore_n 2, 1) := by decide +kernel
theorem dL_config_189 : decode cL_config 189 = .ok (.iload_n 2, 1) := by decide +kernel
theorem dL_config_190 : decode cL_config 190 = .ok (.aload_n 0, 1) := by decide +kernel
theorem dL_config_191 : decode cL_config 191 = .ok (.invokestatic 108, 3) := by decide +kernel
theorem dL_config_194 : decode cL_config 194 = .ok (.if_icmp .ge 37, 3) := by decide +kernel
theorem dL_config_197 : decode cL_config 197 = .ok (.new 53, 3) := by decide +kernel
theorem dL_config_200 : decode cL_config 200 = .ok (.dup, 1) := by decide +kernel
theorem dL_config_201 : decode cL_config 201 = .ok (.invokespecial 55, 3) := by decide +kernel
theorem dL_config_204 : decode cL_config 204 = .ok (.aload_n 1, 1) := by decide +kernel
theorem dL_config_205 : decode cL_config 205 = .ok (.invokevirtual 58, 3) := by decide +kernel
theorem dL_config_208 : decode cL_config 208 = .ok (.ldc 111, 2) := by decide +kernel
theorem dL_config_210 : decode cL_config 210 = .ok (.invokevirtual 58, 3) := by decide +kernel
theorem dL_config_213 : decode cL_config 213 = .ok (.aload_n 0, 1) := by decide +kernel
theorem dL_config_214 : decode cL_config 214 = .ok (.iload_n 2, 1) := by decide +kernel
theorem dL_config_215 : decode cL_config 215 = .ok (.invokestatic 113, 3) := by decide +kernel
theorem dL_config_218 : decode cL_config 218 = .ok (.invokevirtual 58, 3) := by decide +kernel
theorem dL_config_221 : decode cL_config 221 = .ok (.invokevirtual 77, 3) := by decide +kernel
theorem dL_config_224 : decode cL_config 224 = .ok (.astore_n 1, 1) := by decide +kernel
theorem dL_config_225 : decode cL_config 225 = .ok (.iinc 2 1, 3) := by decide +kernel
theorem dL_config_228 : decode cL_config 228 = .ok (.goto (-39), 3) := by decide +kernel
theorem dL_config_231 : decode cL_config 231 = .ok (.new 53, 3) := by decide +kernel
theorem dL_config_234 : decode cL_config 234 = .ok (.dup, 1) := by decide +kernel
theorem dL_config_235 : decode cL_config 235 = .ok (.invokespecial 55, 3) := by decide +kernel
theorem dL_config_238 : decode cL_config 238 = .ok (.aload_n 1, 1) := by decide +kernel
theorem dL_config_239 : decode cL_config 239 = .ok (.invokevirtual 58, 3) := by decide +kernel
theorem dL_config_242 : decode cL_config 242 = .ok (.ldc 117, 2) := by decide +kernel
theorem dL_config_244 : decode cL_config 244 = .ok (.invokevirtual 58, 3) := by decide +kernel
theorem dL_config_247 : decode cL_config 247 = .ok (.aload_n 0, 1) := by decide +kernel
theorem dL_config_248 : decode cL_config 248 = .ok (.invokestatic 49, 3) := by decide +kernel
theorem dL_config_251 : decode cL_config 251 = .ok (.invokevirtual 64, 3) := by decide +kernel
theorem dL_config_254 : decode cL_config 254 = .ok (.ldc 89, 2) := by decide +kernel
theorem dL_config_256 : decode cL_config 256 = .ok (.invokevirtual 58, 3) := by decide +kernel
theorem dL_config_259 : decode cL_config 259 = .ok (.aload_n 0, 1) := by decide +kernel
theorem dL_config_260 : decode cL_config 260 = .ok (.invokestatic 119, 3) := by decide +kernel
theorem dL_config_263 : decode cL_config 263 = .ok (.invokevirtual 64, 3) := by decide +kernel
theorem dL_config_266 : decode cL_config 266 = .ok (.ldc 89, 2) := by decide +kernel
theorem dL_config_268 : decode cL_config 268 = .ok (.invokevirtual 58, 3) := by decide +kernel
theorem dL_config_271 : decode cL_config 271 = .ok (.aload_n 0, 1) := by decide +kernel
theorem dL_config_272 : decode cL_config 272 = .ok (.invokestatic 122, 3) := by decide +kernel
theorem dL_config_275 : decode cL_config 275 = .ok (.invokevirtual 64, 3) := by decide +kernel
theorem dL_config_278 : decode cL_config 278 = .ok (.ldc 125, 2) := by decide +kernel
theorem dL_config_280 : decode cL_config 280 = .ok (.invokevirtual 58, 3) := by decide +kernel
theorem dL_config_283 : decode cL_config 283 = .ok (.aload_n 0, 1) := by decide +kernel
theorem dL_config_284 : decode cL_config 284 = .ok (.invokestatic 127, 3) := by decide +kernel
theorem dL_config_287 : decode cL_config 287 = .ok (.invokevirtual 64, 3) := by decide +kernel
theorem dL_config_290 : decode cL_config 290 = .ok (.invokevirtual 77, 3) := by decide +kernel
theorem dL_config_293 : decode cL_config 293 = .ok (.areturn, 1) := by decide +kernel

set_option maxHeartbeats 4000000 in
set_option maxRecDepth 100000 in
theorem K_cfg189 {p : Program} {l : Launch} {e : Env} {s : State} {m : MethodId} {args : Array Value} {below : List Frame} {meth : Method} {c : Code} {D : va_G} {cI cB cL cO : ClassId} {pf : Nat → Nat} (C : jC p s m args meth c cL_config 3 RL D [(cI, .int), (cB, .byte), (cL, .byte), (cO, .object RX0)] pf (va_A [] s.heap.size)) (hr : meth.sig.returnType = (some (FieldType.object "java/lang/String"))) (hL : pf 93 < 2 ^ 31) : ∀ (d i : Nat), i + d = membN pf → ∀ (q r : Nat), J p l e { frames := 7, cells := 152, slots := 414104, locals := 192 } s m args below meth c 3 D (va_A [] s.heap.size) (MQ below (jQ D [(cI, .int), (cB, .byte), (cL, .byte), (cO, .object RX0)] [] s.heap.size (fun V w => ∃ q r, V = some (.ref q) ∧ w = [(q, .inr (11, [.ref r, .int 0, .int 0, .int 0])), (r, .inl (cB, (cfgT pf).length, .inl (bN (cfgT pf))))])) args s 152 414104 (va_A [] s.heap.size)) (87 + 13 * i) (258240 + 28720 * i) 189 [(2, .int (nI i)), (1, .ref q), (0, .ref (pf 92))] [] [(q, .inr (11, [.ref r, .int 0, .int 0, .int 0])), (r, .inl (cB, (cfg3 pf i).length, .inl (bN (cfg3 pf i))))] := by
  intro d
  induction d with
  | zero =>
    intro i hi q r
    have hi : i = membN pf := by omega
    have hB := (b_memb (pf := pf)).2
    refine J_iload_n (pc := 189) C dL_config_189 0 rfl ?_
    refine J_aload_n (pc := 190) C dL_config_190 2 rfl ?_
    refine J_csF (b := 0) (As := [.ref (pf 92)]) (st := [.int (nI i)]) (pc := 191) C dL_config_191 ml_RL_108 mi_yL_members (c_L_members l D cI cB cL cO pf 0 (nI (membN pf)) (e_members hL)) [(q, .inr (11, [.ref r, .int 0, .int 0, .int 0])), (r, .inl (cB, (cfg3 pf i).length, .inl (bN (cfg3 pf i))))] (permN [] [0, 1] 2 rfl rfl rfl (by decide)) rfl ⟨(Nat.le_of_ble_eq_true rfl), (Nat.le_of_ble_eq_true rfl)⟩ ⟨(by first | (dsimp only; omega) | omega), (by first | (dsimp only; omega) | omega)⟩ (Nat.le_of_ble_eq_true rfl) ?_
    rintro v w1 ⟨rfl, rfl⟩
    refine J_ws (ws2 := [(q, .inr (11, [.ref r, .int 0, .int 0, .int 0])), (r, .inl (cB, (cfg3 pf i).length, .inl (bN (cfg3 pf i))))]) rfl ?_
    refine J_ic_ge (α := Unit) (o := ()) (X := some ()) (Y := none) (pc := 194) (tgt := 231) C dL_config_194 (by decide) (if_pos (by rw [hi]; exact Int32.le_refl _)) (fun _ => ?_) (fun h => by cases h)
    refine J_new (ci := 12) (fs := [.null, .int 0, .int 0, .int 0]) (pc := 231) C dL_config_231 jf_J4 clk_RL_53 ins_RJ4 ini_RJ4 rfl df_J4 ⟨(by first | (dsimp only; omega) | omega), (by first | (dsimp only; omega) | omega)⟩ (fun a => ?_)
    refine J_ws (ws2 := [(q, .inr (11, [.ref r, .int 0, .int 0, .int 0])), (r, .inl (cB, (cfg3 pf i).length, .inl (bN (cfg3 pf i)))), (a, .inr (12, [.null, .int 0, .int 0, .int 0]))]) rfl ?_
    refine J_dupr (pc := 234) C dL_config_234 ?_
    refine J_ciF (As := []) (st := [.ref a]) (pc := 235) C dL_config_235 ml_RL_55 mi_yJ4_init_da8c8 (c_SBi l D cI cB cL cO pf a) [(q, .inr (11, [.ref r, .int 0, .int 0, .int 0])), (r, .inl (cB, (cfg3 pf i).length, .inl (bN (cfg3 pf i))))] (permN [2] [0, 1] 3 rfl rfl rfl (by decide)) rfl ⟨(Nat.le_of_ble_eq_true rfl), (Nat.le_of_ble_eq_true rfl)⟩ ⟨(by first | (dsimp only; omega) | omega), (by first | (dsimp only; omega) | omega)⟩ (Nat.le_of_ble_eq_true rfl) ?_
    rintro v w1 ⟨rfl, vw0, rfl⟩
    refine J_ws (ws2 := [(a, .inr (12, [.ref vw0, .int 0, .int 0, .int (nI [].length)])), (vw0, .inl (cB, 16, .inl (bN []))), (q, .inr (11, [.ref r, .int 0, .int 0, .int 0])), (r, .inl (cB, (cfg3 pf i).length, .inl (bN (cfg3 pf i))))]) rfl ?_
    refine J_aload_n (pc := 238) C dL_config_238 1 rfl ?_
    have hAw1 : AS ((cfg3 pf i)) := (a_cfg3 pf i)
    have hbw1 : ((cfg3 pf i)).length ≤ _ := (l_cfg3 pf (k := i) (by omega))
    refine J_cvF (As := [.ref q]) (st := []) (pc := 239) C dL_config_239 ml_RL_58 mi_yJ4_append_15ec4 (c_SBSM l D cI cB cL cO pf a vw0 16 [] q r (cfg3 pf i) (a_cfg3 pf i) AS_nil (by decide) (by decide) (by show 0 + _ ≤ _; have := (l_cfg3 pf (k := i) (by omega)); omega)) [] (permN [0, 1, 2, 3] [] 4 rfl rfl rfl (by decide)) (q0 := 0) rfl rfl rfl ⟨(Nat.le_of_ble_eq_true rfl), (Nat.le_of_ble_eq_true rfl)⟩ ⟨(by first | (dsimp only; omega) | omega), (by first | (dsimp only; omega) | omega)⟩ (Nat.le_of_ble_eq_true rfl) ?_
    rintro v w1 ⟨rfl, vw1, capw1, rfl, gw1, zw1⟩
    refine J_ws (ws2 := [(a, .inr (12, [.ref vw1, .int 0, .int 0, .int (nI (cfg3 pf i).length)])), (vw1, .inl (cB, capw1, .inl (bN (cfg3 pf i)))), (q, .inr (11, [.ref r, .int 0, .int 0, .int 0])), (r, .inl (cB, (cfg3 pf i).length, .inl (bN (cfg3 pf i))))]) rfl ?_
    refine J_ldcS (pc := 242) C dL_config_242 26 rfl ?_
    have hAw2 : AS ((cfg3 pf i) ++ tx 16) := AS_app hAw1 (tx_AS (i := 16) (by decide))
    have hbw2 : ((cfg3 pf i) ++ tx 16).length ≤ _ := l_app hbw1 (tx_len11 16 (by decide))
    refine J_cvF (As := [.ref (pf 16)]) (st := []) (pc := 244) C dL_config_244 ml_RL_58 mi_yJ4_append_15ec4 (c_SBSK l D cI cB cL cO pf a vw1 capw1 (cfg3 pf i) 16 (by decide) hAw1 gw1 zw1 (by have := sl_lenS 16 (by decide); first | omega | (have := hbw1; omega))) [(q, .inr (11, [.ref r, .int 0, .int 0, .int 0])), (r, .inl (cB, (cfg3 pf i).length, .inl (bN (cfg3 pf i))))] (permN [0, 1] [2, 3] 4 rfl rfl rfl (by decide)) (q0 := 0) rfl rfl rfl ⟨(Nat.le_of_ble_eq_true rfl), (Nat.le_of_ble_eq_true rfl)⟩ ⟨(by first | (dsimp only; omega) | omega), (by first | (dsimp only; omega) | omega)⟩ (Nat.le_of_ble_eq_true rfl) ?_
    rintro v w1 ⟨rfl, vw2, capw2, rfl, gw2, zw2⟩
    refine J_ws (ws2 := [(a, .inr (12, [.ref vw2, .int 0, .int 0, .int (nI ((cfg3 pf i) ++ tx 16).length)])), (vw2, .inl (cB, capw2, .inl (bN ((cfg3 pf i) ++ tx 16)))), (q, .inr (11, [.ref r, .int 0, .int 0, .int 0])), (r, .inl (cB, (cfg3 pf i).length, .inl (bN (cfg3 pf i))))]) rfl ?_
    refine J_aload_n (pc := 247) C dL_config_247 2 rfl ?_
    refine J_csF (b := 0) (As := [.ref (pf 92)]) (st := [.ref a]) (pc := 248) C dL_config_248 ml_RL_49 mi_yL_from (c_L_from l D cI cB cL cO pf 0 (nI (fromP pf)) (e_from hL)) [(a, .inr (12, [.ref vw2, .int 0, .int 0, .int (nI ((cfg3 pf i) ++ tx 16).length)])), (vw2, .inl (cB, capw2, .inl (bN ((cfg3 pf i) ++ tx 16)))), (q, .inr (11, [.ref r, .int 0, .int 0, .int 0])), (r, .inl (cB, (cfg3 pf i).length, .inl (bN (cfg3 pf i))))] (permN [] [0, 1, 2, 3] 4 rfl rfl rfl (by decide)) rfl ⟨(Nat.le_of_ble_eq_true rfl), (Nat.le_of_ble_eq_true rfl)⟩ ⟨(by first | (dsimp only; omega) | omega), (by first | (dsimp only; omega) | omega)⟩ (Nat.le_of_ble_eq_true rfl) ?_
    rintro v w1 ⟨rfl, rfl⟩
    refine J_ws (ws2 := [(a, .inr (12, [.ref vw2, .int 0, .int 0, .int (nI ((cfg3 pf i) ++ tx 16).length)])), (vw2, .inl (cB, capw2, .inl (bN ((cfg3 pf i) ++ tx 16)))), (q, .inr (11, [.ref r, .int 0, .int 0, .int 0])), (r, .inl (cB, (cfg3 pf i).length, .inl (bN (cfg3 pf i))))]) rfl ?_
    have hAw3 : AS ((cfg3 pf i) ++ tx 16 ++ dg (fromP pf)) := AS_app hAw2 (dg_AS (by have := b_from (pf := pf); omega))
    have hbw3 : ((cfg3 pf i) ++ tx 16 ++ dg (fromP pf)).length ≤ _ := l_app hbw2 (dg_len _)
    refine J_cvF (As := [.int (nI (fromP pf))]) (st := []) (pc := 251) C dL_config_251 ml_RL_64 mi_yJ4_append_bf812 (c_SBI l D cI cB cL cO pf a vw2 capw2 ((cfg3 pf i) ++ tx 16) (fromP pf) (by have := b_from (pf := pf); omega) hAw2 gw2 zw2 (by have := hbw2; omega)) [(q, .inr (11, [.ref r, .int 0, .int 0, .int 0])), (r, .inl (cB, (cfg3 pf i).length, .inl (bN (cfg3 pf i))))] (permN [0, 1] [2, 3] 4 rfl rfl rfl (by decide)) (q0 := 0) rfl rfl rfl ⟨(Nat.le_of_ble_eq_true rfl), (Nat.le_of_ble_eq_true rfl)⟩ ⟨(by first | (dsimp only; omega) | omega), (by first | (dsimp only; omega) | omega)⟩ (Nat.le_of_ble_eq_true rfl) ?_
    rintro v w1 ⟨rfl, vw3, capw3, rfl, gw3, zw3⟩
    refine J_ws (ws2 := [(a, .inr (12, [.ref vw3, .int 0, .int 0, .int (nI ((cfg3 pf i) ++ tx 16 ++ dg (fromP pf)).length)])), (vw3, .inl (cB, capw3, .inl (bN ((cfg3 pf i) ++ tx 16 ++ dg (fromP pf))))), (q, .inr (11, [.ref r, .int 0, .int 0, .int 0])), (r, .inl (cB, (cfg3 pf i).length, .inl (bN (cfg3 pf i))))]) rfl ?_
    refine J_ldcS (pc := 254) C dL_config_254 22 rfl ?_
    have hAw4 : AS ((cfg3 pf i) ++ tx 16 ++ dg (fromP pf) ++ tx 12) := AS_app hAw3 (tx_AS (i := 12) (by decide))
    have hbw4 : ((cfg3 pf i) ++ tx 16 ++ dg (fromP pf) ++ tx 12).length ≤ _ := l_app hbw3 (tx_len11 12 (by decide))
    refine J_cvF (As := [.ref (pf 12)]) (st := []) (pc := 256) C dL_config_256 ml_RL_58 mi_yJ4_append_15ec4 (c_SBSK l D cI cB cL cO pf a vw3 capw3 ((cfg3 pf i) ++ tx 16 ++ dg (fromP pf)) 12 (by decide) hAw3 gw3 zw3 (by have := sl_lenS 12 (by decide); first | omega | (have := hbw3; omega))) [(q, .inr (11, [.ref r, .int 0, .int 0, .int 0])), (r, .inl (cB, (cfg3 pf i).length, .inl (bN (cfg3 pf i))))] (permN [0, 1] [2, 3] 4 rfl rfl rfl (by decide)) (q0 := 0) rfl rfl rfl ⟨(Nat.le_of_ble_eq_true rfl), (Nat.le_of_ble_eq_true rfl)⟩ ⟨(by first | (dsimp only; omega) | omega), (by first | (dsimp only; omega) | omega)⟩ (Nat.le_of_ble_eq_true rfl) ?_
    rintro v w1 ⟨rfl, vw4, capw4, rfl, gw4, zw4⟩
    refine J_ws (ws2 := [(a, .inr (12, [.ref vw4, .int 0, .int 0, .int (nI ((cfg3 pf i) ++ tx 16 ++ dg (fromP pf) ++ tx 12).length)])), (vw4, .inl (cB, capw4, .inl (bN ((cfg3 pf i) ++ tx 16 ++ dg (fromP pf) ++ tx 12)))), (q, .inr (11, [.ref r, .int 0, .int 0, .int 0])), (r, .inl (cB, (cfg3 pf i).length, .inl (bN (cfg3 pf i))))]) rfl ?_
    refine J_aload_n (pc := 259) C dL_config_259 2 rfl ?_
    refine J_csF (b := 0) (As := [.ref (pf 92)]) (st := [.ref a]) (pc := 260) C dL_config_260 ml_RL_119 mi_yL_to (c_L_to l D cI cB cL cO pf 0 (nI (toP pf)) (e_to hL)) [(a, .inr (12, [.ref vw4, .int 0, .int 0, .int (nI ((cfg3 pf i) ++ tx 16 ++ dg (fromP pf) ++ tx 12).length)])), (vw4, .inl (cB, capw4, .inl (bN ((cfg3 pf i) ++ tx 16 ++ dg (fromP pf) ++ tx 12)))), (q, .inr (11, [.ref r, .int 0, .int 0, .int 0])), (r, .inl (cB, (cfg3 pf i).length, .inl (bN (cfg3 pf i))))] (permN [] [0, 1, 2, 3] 4 rfl rfl rfl (by decide)) rfl ⟨(Nat.le_of_ble_eq_true rfl), (Nat.le_of_ble_eq_true rfl)⟩ ⟨(by first | (dsimp only; omega) | omega), (by first | (dsimp only; omega) | omega)⟩ (Nat.le_of_ble_eq_true rfl) ?_
    rintro v w1 ⟨rfl, rfl⟩
    refine J_ws (ws2 := [(a, .inr (12, [.ref vw4, .int 0, .int 0, .int (nI ((cfg3 pf i) ++ tx 16 ++ dg (fromP pf) ++ tx 12).length)])), (vw4, .inl (cB, capw4, .inl (bN ((cfg3 pf i) ++ tx 16 ++ dg (fromP pf) ++ tx 12)))), (q, .inr (11, [.ref r, .int 0, .int 0, .int 0])), (r, .inl (cB, (cfg3 pf i).length, .inl (bN (cfg3 pf i))))]) rfl ?_
    have hAw5 : AS ((cfg3 pf i) ++ tx 16 ++ dg (fromP pf) ++ tx 12 ++ dg (toP pf)) := AS_app hAw4 (dg_AS (by have := (b_to (pf := pf)).2; omega))
    have hbw5 : ((cfg3 pf i) ++ tx 16 ++ dg (fromP pf) ++ tx 12 ++ dg (toP pf)).length ≤ _ := l_app hbw4 (dg_len _)
    refine J_cvF (As := [.int (nI (toP pf))]) (st := []) (pc := 263) C dL_config_263 ml_RL_64 mi_yJ4_append_bf812 (c_SBI l D cI cB cL cO pf a vw4 capw4 ((cfg3 pf i) ++ tx 16 ++ dg (fromP pf) ++ tx 12) (toP pf) (by have := (b_to (pf := pf)).2; omega) hAw4 gw4 zw4 (by have := hbw4; omega)) [(q, .inr (11, [.ref r, .int 0, .int 0, .int 0])), (r, .inl (cB, (cfg3 pf i).length, .inl (bN (cfg3 pf i))))] (permN [0, 1] [2, 3] 4 rfl rfl rfl (by decide)) (q0 := 0) rfl rfl rfl ⟨(Nat.le_of_ble_eq_true rfl), (Nat.le_of_ble_eq_true rfl)⟩ ⟨(by first | (dsimp only; omega) | omega), (by first | (dsimp only; omega) | omega)⟩ (Nat.le_of_ble_eq_true rfl) ?_
    rintro v w1 ⟨rfl, vw5, capw5, rfl, gw5, zw5⟩
    refine J_ws (ws2 := [(a, .inr (12, [.ref vw5, .int 0, .int 0, .int (nI ((cfg3 pf i) ++ tx 16 ++ dg (fromP pf) ++ tx 12 ++ dg (toP pf)).length)])), (vw5, .inl (cB, capw5, .inl (bN ((cfg3 pf i) ++ tx 16 ++ dg (fromP pf) ++ tx 12 ++ dg (toP pf))))), (q, .inr (11, [.ref r, .int 0, .int 0, .int 0])), (r, .inl (cB, (cfg3 pf i).length, .inl (bN (cfg3 pf i))))]) rfl ?_
    refine J_ldcS (pc := 266) C dL_config_266 22 rfl ?_
    have hAw6 : AS ((cfg3 pf i) ++ tx 16 ++ dg (fromP pf) ++ tx 12 ++ dg (toP pf) ++ tx 12) := AS_app hAw5 (tx_AS (i := 12) (by decide))
    have hbw6 : ((cfg3 pf i) ++ tx 16 ++ dg (fromP pf) ++ tx 12 ++ dg (toP pf) ++ tx 12).length ≤ _ := l_app hbw5 (tx_len11 12 (by decide))
    refine J_cvF (As := [.ref (pf 12)]) (st := []) (pc := 268) C dL_config_268 ml_RL_58 mi_yJ4_append_15ec4 (c_SBSK l D cI cB cL cO pf a vw5 capw5 ((cfg3 pf i) ++ tx 16 ++ dg (fromP pf) ++ tx 12 ++ dg (toP pf)) 12 (by decide) hAw5 gw5 zw5 (by have := sl_lenS 12 (by decide); first | omega | (have := hbw5; omega))) [(q, .inr (11, [.ref r, .int 0, .int 0, .int 0])), (r, .inl (cB, (cfg3 pf i).length, .inl (bN (cfg3 pf i))))] (permN [0, 1] [2, 3] 4 rfl rfl rfl (by decide)) (q0 := 0) rfl rfl rfl ⟨(Nat.le_of_ble_eq_true rfl), (Nat.le_of_ble_eq_true rfl)⟩ ⟨(by first | (dsimp only; omega) | omega), (by first | (dsimp only; omega) | omega)⟩ (Nat.le_of_ble_eq_true rfl) ?_
    rintro v w1 ⟨rfl, vw6, capw6, rfl, gw6, zw6⟩
    refine J_ws (ws2 := [(a, .inr (12, [.ref vw6, .int 0, .int 0, .int (nI ((cfg3 pf i) ++ tx 16 ++ dg (fromP pf) ++ tx 12 ++ dg (toP pf) ++ tx 12).length)])), (vw6, .inl (cB, capw6, .inl (bN ((cfg3 pf i) ++ tx 16 ++ dg (fromP pf) ++ tx 12 ++ dg (toP pf) ++ tx 12)))), (q, .inr (11, [.ref r, .int 0, .int 0, .int 0])), (r, .inl (cB, (cfg3 pf i).length, .inl (bN (cfg3 pf i))))]) rfl ?_
    refine J_aload_n (pc := 271) C dL_config_271 2 rfl ?_
    refine J_csF (b := 0) (As := [.ref (pf 92)]) (st := [.ref a]) (pc := 272) C dL_config_272 ml_RL_122 mi_yL_extra (c_L_extra l D cI cB cL cO pf 0 (nI (extraN pf)) (e_extra hL)) [(a, .inr (12, [.ref vw6, .int 0, .int 0, .int (nI ((cfg3 pf i) ++ tx 16 ++ dg (fromP pf) ++ tx 12 ++ dg (toP pf) ++ tx 12).length)])), (vw6, .inl (cB, capw6, .inl (bN ((cfg3 pf i) ++ tx 16 ++ dg (fromP pf) ++ tx 12 ++ dg (toP pf) ++ tx 12)))), (q, .inr (11, [.ref r, .int 0, .int 0, .int 0])), (r, .inl (cB, (cfg3 pf i).length, .inl (bN (cfg3 pf i))))] (permN [] [0, 1, 2, 3] 4 rfl rfl rfl (by decide)) rfl ⟨(Nat.le_of_ble_eq_true rfl), (Nat.le_of_ble_eq_true rfl)⟩ ⟨(by first | (dsimp only; omega) | omega), (by first | (dsimp only; omega) | omega)⟩ (Nat.le_of_ble_eq_true rfl) ?_
    rintro v w1 ⟨rfl, rfl⟩
    refine J_ws (ws2 := [(a, .inr (12, [.ref vw6, .int 0, .int 0, .int (nI ((cfg3 pf i) ++ tx 16 ++ dg (fromP pf) ++ tx 12 ++ dg (toP pf) ++ tx 12).length)])), (vw6, .inl (cB, capw6, .inl (bN ((cfg3 pf i) ++ tx 16 ++ dg (fromP pf) ++ tx 12 ++ dg (toP pf) ++ tx 12)))), (q, .inr (11, [.ref r, .int 0, .int 0, .int 0])), (r, .inl (cB, (cfg3 pf i).length, .inl (bN (cfg3 pf i))))]) rfl ?_
    have hAw7 : AS ((cfg3 pf i) ++ tx 16 ++ dg (fromP pf) ++ tx 12 ++ dg (toP pf) ++ tx 12 ++ dg (extraN pf)) := AS_app hAw6 (dg_AS (by have := (b_extra (pf := pf)).2; omega))
    have hbw7 : ((cfg3 pf i) ++ tx 16 ++ dg (fromP pf) ++ tx 12 ++ dg (toP pf) ++ tx 12 ++ dg (extraN pf)).length ≤ _ := l_app hbw6 (dg_len _)
    refine J_cvF (As := [.int (nI (extraN pf))]) (st := []) (pc := 275) C dL_config_275 ml_RL_64 mi_yJ4_append_bf812 (c_SBI l D cI cB cL cO pf a vw6 capw6 ((cfg3 pf i) ++ tx 16 ++ dg (fromP pf) ++ tx 12 ++ dg (toP pf) ++ tx 12) (extraN pf) (by have := (b_extra (pf := pf)).2; omega) hAw6 gw6 zw6 (by have := hbw6; omega)) [(q, .inr (11, [.ref r, .int 0, .int 0, .int 0])), (r, .inl (cB, (cfg3 pf i).length, .inl (bN (cfg3 pf i))))] (permN [0, 1] [2, 3] 4 rfl rfl rfl (by decide)) (q0 := 0) rfl rfl rfl ⟨(Nat.le_of_ble_eq_true rfl), (Nat.le_of_ble_eq_true rfl)⟩ ⟨(by first | (dsimp only; omega) | omega), (by first | (dsimp only; omega) | omega)⟩ (Nat.le_of_ble_eq_true rfl) ?_
    rintro v w1 ⟨rfl, vw7, capw7, rfl, gw7, zw7⟩
    refine J_ws (ws2 := [(a, .inr (12, [.ref vw7, .int 0, .int 0, .int (nI ((cfg3 pf i) ++ tx 16 ++ dg (fromP pf) ++ tx 12 ++ dg (toP pf) ++ tx 12 ++ dg (extraN pf)).length)])), (vw7, .inl (cB, capw7, .inl (bN ((cfg3 pf i) ++ tx 16 ++ dg (fromP pf) ++ tx 12 ++ dg (toP pf) ++ tx 12 ++ dg (extraN pf))))), (q, .inr (11, [.ref r, .int 0, .int 0, .int 0])), (r, .inl (cB, (cfg3 pf i).length, .inl (bN (cfg3 pf i))))]) rfl ?_
    refine J_ldcS (pc := 278) C dL_config_278 27 rfl ?_
    have hAw8 : AS ((cfg3 pf i) ++ tx 16 ++ dg (fromP pf) ++ tx 12 ++ dg (toP pf) ++ tx 12 ++ dg (extraN pf) ++ tx 17) := AS_app hAw7 (tx_AS (i := 17) (by decide))
    have hbw8 : ((cfg3 pf i) ++ tx 16 ++ dg (fromP pf) ++ tx 12 ++ dg (toP pf) ++ tx 12 ++ dg (extraN pf) ++ tx 17).length ≤ _ := l_app hbw7 (tx_len11 17 (by decide))
    refine J_cvF (As := [.ref (pf 17)]) (st := []) (pc := 280) C dL_config_280 ml_RL_58 mi_yJ4_append_15ec4 (c_SBSK l D cI cB cL cO pf a vw7 capw7 ((cfg3 pf i) ++ tx 16 ++ dg (fromP pf) ++ tx 12 ++ dg (toP pf) ++ tx 12 ++ dg (extraN pf)) 17 (by decide) hAw7 gw7 zw7 (by have := sl_lenS 17 (by decide); first | omega | (have := hbw7; omega))) [(q, .inr (11, [.ref r, .int 0, .int 0, .int 0])), (r, .inl (cB, (cfg3 pf i).length, .inl (bN (cfg3 pf i))))] (permN [0, 1] [2, 3] 4 rfl rfl rfl (by decide)) (q0 := 0) rfl rfl rfl ⟨(Nat.le_of_ble_eq_true rfl), (Nat.le_of_ble_eq_true rfl)⟩ ⟨(by first | (dsimp only; omega) | omega), (by first | (dsimp only; omega) | omega)⟩ (Nat.le_of_ble_eq_true rfl) ?_
    rintro v w1 ⟨rfl, vw8, capw8, rfl, gw8, zw8⟩
    refine J_ws (ws2 := [(a, .inr (12, [.ref vw8, .int 0, .int 0, .int (nI ((cfg3 pf i) ++ tx 16 ++ dg (fromP pf) ++ tx 12 ++ dg (toP pf) ++ tx 12 ++ dg (extraN pf) ++ tx 17).length)])), (vw8, .inl (cB, capw8, .inl (bN ((cfg3 pf i) ++ tx 16 ++ dg (fromP pf) ++ tx 12 ++ dg (toP pf) ++ tx 12 ++ dg (extraN pf) ++ tx 17)))), (q, .inr (11, [.ref r, .int 0, .int 0, .int 0])), (r, .inl (cB, (cfg3 pf i).length, .inl (bN (cfg3 pf i))))]) rfl ?_
    refine J_aload_n (pc := 283) C dL_config_283 2 rfl ?_
    refine J_csF (b := 0) (As := [.ref (pf 92)]) (st := [.ref a]) (pc := 284) C dL_config_284 ml_RL_127 mi_yL_share (c_L_share l D cI cB cL cO pf 0 (nI (shareN pf)) (e_share hL)) [(a, .inr (12, [.ref vw8, .int 0, .int 0, .int (nI ((cfg3 pf i) ++ tx 16 ++ dg (fromP pf) ++ tx 12 ++ dg (toP pf) ++ tx 12 ++ dg (extraN pf) ++ tx 17).length)])), (vw8, .inl (cB, capw8, .inl (bN ((cfg3 pf i) ++ tx 16 ++ dg (fromP pf) ++ tx 12 ++ dg (toP pf) ++ tx 12 ++ dg (extraN pf) ++ tx 17)))), (q, .inr (11, [.ref r, .int 0, .int 0, .int 0])), (r, .inl (cB, (cfg3 pf i).length, .inl (bN (cfg3 pf i))))] (permN [] [0, 1, 2, 3] 4 rfl rfl rfl (by decide)) rfl ⟨(Nat.le_of_ble_eq_true rfl), (Nat.le_of_ble_eq_true rfl)⟩ ⟨(by first | (dsimp only; omega) | omega), (by first | (dsimp only; omega) | omega)⟩ (Nat.le_of_ble_eq_true rfl) ?_
    rintro v w1 ⟨rfl, rfl⟩
    refine J_ws (ws2 := [(a, .inr (12, [.ref vw8, .int 0, .int 0, .int (nI ((cfg3 pf i) ++ tx 16 ++ dg (fromP pf) ++ tx 12 ++ dg (toP pf) ++ tx 12 ++ dg (extraN pf) ++ tx 17).length)])), (vw8, .inl (cB, capw8, .inl (bN ((cfg3 pf i) ++ tx 16 ++ dg (fromP pf) ++ tx 12 ++ dg (toP pf) ++ tx 12 ++ dg (extraN pf) ++ tx 17)))), (q, .inr (11, [.ref r, .int 0, .int 0, .int 0])), (r, .inl (cB, (cfg3 pf i).length, .inl (bN (cfg3 pf i))))]) rfl ?_
    have hAw9 : AS ((cfg3 pf i) ++ tx 16 ++ dg (fromP pf) ++ tx 12 ++ dg (toP pf) ++ tx 12 ++ dg (extraN pf) ++ tx 17 ++ dg (shareN pf)) := AS_app hAw8 (dg_AS (by have := b_share (pf := pf); omega))
    have hbw9 : ((cfg3 pf i) ++ tx 16 ++ dg (fromP pf) ++ tx 12 ++ dg (toP pf) ++ tx 12 ++ dg (extraN pf) ++ tx 17 ++ dg (shareN pf)).length ≤ _ := l_app hbw8 (dg_len _)
    refine J_cvF (As := [.int (nI (shareN pf))]) (st := []) (pc := 287) C dL_config_287 ml_RL_64 mi_yJ4_append_bf812 (c_SBI l D cI cB cL cO pf a vw8 capw8 ((cfg3 pf i) ++ tx 16 ++ dg (fromP pf) ++ tx 12 ++ dg (toP pf) ++ tx 12 ++ dg (extraN pf) ++ tx 17) (shareN pf) (by have := b_share (pf := pf); omega) hAw8 gw8 zw8 (by have := hbw8; omega)) [(q, .inr (11, [.ref r, .int 0, .int 0, .int 0])), (r, .inl (cB, (cfg3 pf i).length, .inl (bN (cfg3 pf i))))] (permN [0, 1] [2, 3] 4 rfl rfl rfl (by decide)) (q0 := 0) rfl rfl rfl ⟨(Nat.le_of_ble_eq_true rfl), (Nat.le_of_ble_eq_true rfl)⟩ ⟨(by first | (dsimp only; omega) | omega), (by first | (dsimp only; omega) | omega)⟩ (Nat.le_of_ble_eq_true rfl) ?_
    rintro v w1 ⟨rfl, vw9, capw9, rfl, gw9, zw9⟩
    refine J_ws (ws2 := [(a, .inr (12, [.ref vw9, .int 0, .int 0, .int (nI ((cfg3 pf i) ++ tx 16 ++ dg (fromP pf) ++ tx 12 ++ dg (toP pf) ++ tx 12 ++ dg (extraN pf) ++ tx 17 ++ dg (shareN pf)).length)])), (vw9, .inl (cB, capw9, .inl (bN ((cfg3 pf i) ++ tx 16 ++ dg (fromP pf) ++ tx 12 ++ dg (toP pf) ++ tx 12 ++ dg (extraN pf) ++ tx 17 ++ dg (shareN pf))))), (q, .inr (11, [.ref r, .int 0, .int 0, .int 0])), (r, .inl (cB, (cfg3 pf i).length, .inl (bN (cfg3 pf i))))]) rfl ?_
    refine J_cvF (As := []) (st := []) (pc := 290) C dL_config_290 ml_RL_77 mi_yJ4_toString_0e30d (c_toS l D cI cB cL cO pf a vw9 capw9 ((cfg3 pf i) ++ tx 16 ++ dg (fromP pf) ++ tx 12 ++ dg (toP pf) ++ tx 12 ++ dg (extraN pf) ++ tx 17 ++ dg (shareN pf)) hAw9 gw9 zw9) [(q, .inr (11, [.ref r, .int 0, .int 0, .int 0])), (r, .inl (cB, (cfg3 pf i).length, .inl (bN (cfg3 pf i))))] (permN [0, 1] [2, 3] 4 rfl rfl rfl (by decide)) (q0 := 0) rfl rfl rfl ⟨(Nat.le_of_ble_eq_true rfl), (Nat.le_of_ble_eq_true rfl)⟩ ⟨(by first | (dsimp only; omega) | omega), (by first | (dsimp only; omega) | omega)⟩ (Nat.le_of_ble_eq_true rfl) ?_
    rintro v w1 ⟨q2, r2, rfl, rfl⟩
    refine J_ws (ws2 := [(q2, .inr (11, [.ref r2, .int 0, .int 0, .int 0])), (r2, .inl (cB, ((cfg3 pf i) ++ tx 16 ++ dg (fromP pf) ++ tx 12 ++ dg (toP pf) ++ tx 12 ++ dg (extraN pf) ++ tx 17 ++ dg (shareN pf)).length, .inl (bN ((cfg3 pf i) ++ tx 16 ++ dg (fromP pf) ++ tx 12 ++ dg (toP pf) ++ tx 12 ++ dg (extraN pf) ++ tx 17 ++ dg (shareN pf))))), (q, .inr (11, [.ref r, .int 0, .int 0, .int 0])), (r, .inl (cB, (cfg3 pf i).length, .inl (bN (cfg3 pf i))))]) rfl ?_
    refine J_drop (ws2 := [(q2, .inr (11, [.ref r2, .int 0, .int 0, .int 0])), (r2, .inl (cB, ((cfg3 pf i) ++ tx 16 ++ dg (fromP pf) ++ tx 12 ++ dg (toP pf) ++ tx 12 ++ dg (extraN pf) ++ tx 17 ++ dg (shareN pf)).length, .inl (bN ((cfg3 pf i) ++ tx 16 ++ dg (fromP pf) ++ tx 12 ++ dg (toP pf) ++ tx 12 ++ dg (extraN pf) ++ tx 17 ++ dg (shareN pf)))))]) (Wr := [(q, .inr (11, [.ref r, .int 0, .int 0, .int 0])), (r, .inl (cB, (cfg3 pf i).length, .inl (bN (cfg3 pf i))))]) (permN [0, 1] [2, 3] 4 rfl rfl rfl (by decide)) ?_
    refine J_ws (ws2 := [(q2, .inr (11, [.ref r2, .int 0, .int 0, .int 0])), (r2, .inl (cB, (cfgT pf).length, .inl (bN (cfgT pf))))]) (by subst hi; rfl) ?_
    refine J_widen (k2 := 152) (n2 := 414104) (by first | (dsimp only; omega) | omega) (by first | (dsimp only; omega) | omega) ?_
    exact J_aret (pc := 293) C dL_config_293 hr (by first | exact Or.inl ⟨_, rfl⟩ | exact Or.inr ⟨_, rfl⟩) (Or.inr ⟨_, rfl⟩) ⟨q2, r2, rfl, rfl⟩
  | succ d ih =>
    intro i hi q r
    have hB := (b_memb (pf := pf)).2
    refine J_iload_n (pc := 189) C dL_config_189 0 rfl ?_
    refine J_aload_n (pc := 190) C dL_config_190 2 rfl ?_
    refine J_csF (b := 0) (As := [.ref (pf 92)]) (st := [.int (nI i)]) (pc := 191) C dL_config_191 ml_RL_108 mi_yL_members (c_L_members l D cI cB cL cO pf 0 (nI (membN pf)) (e_members hL)) [(q, .inr (11, [.ref r, .int 0, .int 0, .int 0])), (r, .inl (cB, (cfg3 pf i).length, .inl (bN (cfg3 pf i))))] (permN [] [0, 1] 2 rfl rfl rfl (by decide)) rfl ⟨(Nat.le_of_ble_eq_true rfl), (Nat.le_of_ble_eq_true rfl)⟩ ⟨(by first | (dsimp only; omega) | omega), (by first | (dsimp only; omega) | omega)⟩ (Nat.le_of_ble_eq_true rfl) ?_
    rintro v w1 ⟨rfl, rfl⟩
    refine J_ws (ws2 := [(q, .inr (11, [.ref r, .int 0, .int 0, .int 0])), (r, .inl (cB, (cfg3 pf i).length, .inl (bN (cfg3 pf i))))]) rfl ?_
    refine J_ic_ge (α := Unit) (o := ()) (X := none) (Y := some ()) (pc := 194) (tgt := 231) C dL_config_194 (by decide) (if_neg (nI_ge (by omega) (by omega))) (fun h => by cases h) (fun _ => ?_)
    refine J_new (ci := 12) (fs := [.null, .int 0, .int 0, .int 0]) (pc := 197) C dL_config_197 jf_J4 clk_RL_53 ins_RJ4 ini_RJ4 rfl df_J4 ⟨(by first | (dsimp only; omega) | omega), (by first | (dsimp only; omega) | omega)⟩ (fun a => ?_)
    refine J_ws (ws2 := [(q, .inr (11, [.ref r, .int 0, .int 0, .int 0])), (r, .inl (cB, (cfg3 pf i).length, .inl (bN (cfg3 pf i)))), (a, .inr (12, [.null, .int 0, .int 0, .int 0]))]) rfl ?_
    refine J_dupr (pc := 200) C dL_config_200 ?_
    refine J_ciF (As := []) (st := [.ref a]) (pc := 201) C dL_config_201 ml_RL_55 mi_yJ4_init_da8c8 (c_SBi l D cI cB cL cO pf a) [(q, .inr (11, [.ref r, .int 0, .int 0, .int 0])), (r, .inl (cB, (cfg3 pf i).length, .inl (bN (cfg3 pf i))))] (permN [2] [0, 1] 3 rfl rfl rfl (by decide)) rfl ⟨(Nat.le_of_ble_eq_true rfl), (Nat.le_of_ble_eq_true rfl)⟩ ⟨(by first | (dsimp only; omega) | omega), (by first | (dsimp only; omega) | omega)⟩ (Nat.le_of_ble_eq_true rfl) ?_
    rintro v w1 ⟨rfl, vw0, rfl⟩
    refine J_ws (ws2 := [(a, .inr (12, [.ref vw0, .int 0, .int 0, .int (nI [].length)])), (vw0, .inl (cB, 16, .inl (bN []))), (q, .inr (11, [.ref r, .int 0, .int 0, .int 0])), (r, .inl (cB, (cfg3 pf i).length, .inl (bN (cfg3 pf i))))]) rfl ?_
    refine J_aload_n (pc := 204) C dL_config_204 1 rfl ?_
    have hAw1 : AS ((cfg3 pf i)) := (a_cfg3 pf i)
    have hbw1 : ((cfg3 pf i)).length ≤ _ := (l_cfg3 pf (k := i) (by omega))
    refine J_cvF (As := [.ref q]) (st := []) (pc := 205) C dL_config_205 ml_RL_58 mi_yJ4_append_15ec4 (c_SBSM l D cI cB cL cO pf a vw0 16 [] q r (cfg3 pf i) (a_cfg3 pf i) AS_nil (by decide) (by decide) (by show 0 + _ ≤ _; have := (l_cfg3 pf (k := i) (by omega)); omega)) [] (permN [0, 1, 2, 3] [] 4 rfl rfl rfl (by decide)) (q0 := 0) rfl rfl rfl ⟨(Nat.le_of_ble_eq_true rfl), (Nat.le_of_ble_eq_true rfl)⟩ ⟨(by first | (dsimp only; omega) | omega), (by first | (dsimp only; omega) | omega)⟩ (Nat.le_of_ble_eq_true rfl) ?_
    rintro v w1 ⟨rfl, vw1, capw1, rfl, gw1, zw1⟩
    refine J_ws (ws2 := [(a, .inr (12, [.ref vw1, .int 0, .int 0, .int (nI (cfg3 pf i).length)])), (vw1, .inl (cB, capw1, .inl (bN (cfg3 pf i)))), (q, .inr (11, [.ref r, .int 0, .int 0, .int 0])), (r, .inl (cB, (cfg3 pf i).length, .inl (bN (cfg3 pf i))))]) rfl ?_
    refine J_ldcS (pc := 208) C dL_config_208 24 rfl ?_
    have hAw2 : AS ((cfg3 pf i) ++ tx 14) := AS_app hAw1 (tx_AS (i := 14) (by decide))
    have hbw2 : ((cfg3 pf i) ++ tx 14).length ≤ _ := l_app hbw1 (tx_len11 14 (by decide))
    refine J_cvF (As := [.ref (pf 14)]) (st := []) (pc := 210) C dL_config_210 ml_RL_58 mi_yJ4_append_15ec4 (c_SBSK l D cI cB cL cO pf a vw1 capw1 (cfg3 pf i) 14 (by decide) hAw1 gw1 zw1 (by have := sl_lenS 14 (by decide); first | omega | (have := hbw1; omega))) [(q, .inr (11, [.ref r, .int 0, .int 0, .int 0])), (r, .inl (cB, (cfg3 pf i).length, .inl (bN (cfg3 pf i))))] (permN [0, 1] [2, 3] 4 rfl rfl rfl (by decide)) (q0 := 0) rfl rfl rfl ⟨(Nat.le_of_ble_eq_true rfl), (Nat.le_of_ble_eq_true rfl)⟩ ⟨(by first | (dsimp only; omega) | omega), (by first | (dsimp only; omega) | omega)⟩ (Nat.le_of_ble_eq_true rfl) ?_
    rintro v w1 ⟨rfl, vw2, capw2, rfl, gw2, zw2⟩
    refine J_ws (ws2 := [(a, .inr (12, [.ref vw2, .int 0, .int 0, .int (nI ((cfg3 pf i) ++ tx 14).length)])), (vw2, .inl (cB, capw2, .inl (bN ((cfg3 pf i) ++ tx 14)))), (q, .inr (11, [.ref r, .int 0, .int 0, .int 0])), (r, .inl (cB, (cfg3 pf i).length, .inl (bN (cfg3 pf i))))]) rfl ?_
    refine J_aload_n (pc := 213) C dL_config_213 2 rfl ?_
    refine J_iload_n (pc := 214) C dL_config_214 0 rfl ?_
    have hLn : [109, nameN pf i].length ≤ 2 := Nat.le_refl 2
    have hAn : AS [109, nameN pf i] := AS_of (fun z hz => by have := (b_name (pf := pf) i).2; simp only [List.mem_cons, List.not_mem_nil, or_false] at hz; omega)
    refine J_csF (b := 0) (As := [.ref (pf 92), .int (nI i)]) (st := [.ref a]) (pc := 215) C dL_config_215 ml_RL_113 mi_yL_name (c_L_name l D cI cB cL cO pf hL i (by omega)) [(a, .inr (12, [.ref vw2, .int 0, .int 0, .int (nI ((cfg3 pf i) ++ tx 14).length)])), (vw2, .inl (cB, capw2, .inl (bN ((cfg3 pf i) ++ tx 14)))), (q, .inr (11, [.ref r, .int 0, .int 0, .int 0])), (r, .inl (cB, (cfg3 pf i).length, .inl (bN (cfg3 pf i))))] (permN [] [0, 1, 2, 3] 4 rfl rfl rfl (by decide)) rfl ⟨(Nat.le_of_ble_eq_true rfl), (Nat.le_of_ble_eq_true rfl)⟩ ⟨(by first | (dsimp only; omega) | omega), (by first | (dsimp only; omega) | omega)⟩ (Nat.le_of_ble_eq_true rfl) ?_
    rintro v w1 ⟨b, u, rfl, rfl⟩
    refine J_ws (ws2 := [(b, .inr (11, [.ref u, .int 0, .int 0, .int 0])), (u, .inl (cB, [109, nameN pf i].length, .inl (bN [109, nameN pf i]))), (a, .inr (12, [.ref vw2, .int 0, .int 0, .int (nI ((cfg3 pf i) ++ tx 14).length)])), (vw2, .inl (cB, capw2, .inl (bN ((cfg3 pf i) ++ tx 14)))), (q, .inr (11, [.ref r, .int 0, .int 0, .int 0])), (r, .inl (cB, (cfg3 pf i).length, .inl (bN (cfg3 pf i))))]) rfl ?_
    have hAw3 : AS ((cfg3 pf i) ++ tx 14 ++ [109, nameN pf i]) := AS_app hAw2 (hAn)
    have hbw3 : ((cfg3 pf i) ++ tx 14 ++ [109, nameN pf i]).length ≤ _ := l_app hbw2 (hLn)
    refine J_cvF (As := [.ref b]) (st := []) (pc := 218) C dL_config_218 ml_RL_58 mi_yJ4_append_15ec4 (c_SBSM l D cI cB cL cO pf a vw2 capw2 ((cfg3 pf i) ++ tx 14) b u [109, nameN pf i] (hAn) hAw2 gw2 zw2 (by have := hbw2; have := (hLn); omega)) [(q, .inr (11, [.ref r, .int 0, .int 0, .int 0])), (r, .inl (cB, (cfg3 pf i).length, .inl (bN (cfg3 pf i))))] (permN [2, 3, 0, 1] [4, 5] 6 rfl rfl rfl (by decide)) (q0 := 0) rfl rfl rfl ⟨(Nat.le_of_ble_eq_true rfl), (Nat.le_of_ble_eq_true rfl)⟩ ⟨(by first | (dsimp only; omega) | omega), (by first | (dsimp only; omega) | omega)⟩ (Nat.le_of_ble_eq_true rfl) ?_
    rintro v w1 ⟨rfl, vw3, capw3, rfl, gw3, zw3⟩
    refine J_ws (ws2 := [(a, .inr (12, [.ref vw3, .int 0, .int 0, .int (nI ((cfg3 pf i) ++ tx 14 ++ [109, nameN pf i]).length)])), (vw3, .inl (cB, capw3, .inl (bN ((cfg3 pf i) ++ tx 14 ++ [109, nameN pf i])))), (b, .inr (11, [.ref u, .int 0, .int 0, .int 0])), (u, .inl (cB, [109, nameN pf i].length, .inl (bN [109, nameN pf i]))), (q, .inr (11, [.ref r, .int 0, .int 0, .int 0])), (r, .inl (cB, (cfg3 pf i).length, .inl (bN (cfg3 pf i))))]) rfl ?_
    refine J_cvF (As := []) (st := []) (pc := 221) C dL_config_221 ml_RL_77 mi_yJ4_toString_0e30d (c_toS l D cI cB cL cO pf a vw3 capw3 ((cfg3 pf i) ++ tx 14 ++ [109, nameN pf i]) hAw3 gw3 zw3) [(b, .inr (11, [.ref u, .int 0, .int 0, .int 0])), (u, .inl (cB, [109, nameN pf i].length, .inl (bN [109, nameN pf i]))), (q, .inr (11, [.ref r, .int 0, .int 0, .int 0])), (r, .inl (cB, (cfg3 pf i).length, .inl (bN (cfg3 pf i))))] (permN [0, 1] [2, 3, 4, 5] 6 rfl rfl rfl (by decide)) (q0 := 0) rfl rfl rfl ⟨(Nat.le_of_ble_eq_true rfl), (Nat.le_of_ble_eq_true rfl)⟩ ⟨(by first | (dsimp only; omega) | omega), (by first | (dsimp only; omega) | omega)⟩ (Nat.le_of_ble_eq_true rfl) ?_
    rintro v w1 ⟨q2, r2, rfl, rfl⟩
    refine J_ws (ws2 := [(q2, .inr (11, [.ref r2, .int 0, .int 0, .int 0])), (r2, .inl (cB, ((cfg3 pf i) ++ tx 14 ++ [109, nameN pf i]).length, .inl (bN ((cfg3 pf i) ++ tx 14 ++ [109, nameN pf i])))), (b, .inr (11, [.ref u, .int 0, .int 0, .int 0])), (u, .inl (cB, [109, nameN pf i].length, .inl (bN [109, nameN pf i]))), (q, .inr (11, [.ref r, .int 0, .int 0, .int 0])), (r, .inl (cB, (cfg3 pf i).length, .inl (bN (cfg3 pf i))))]) rfl ?_
    refine J_drop (ws2 := [(q2, .inr (11, [.ref r2, .int 0, .int 0, .int 0])), (r2, .inl (cB, ((cfg3 pf i) ++ tx 14 ++ [109, nameN pf i]).length, .inl (bN ((cfg3 pf i) ++ tx 14 ++ [109, nameN pf i]))))]) (Wr := [(b, .inr (11, [.ref u, .int 0, .int 0, .int 0])), (u, .inl (cB, [109, nameN pf i].length, .inl (bN [109, nameN pf i]))), (q, .inr (11, [.ref r, .int 0, .int 0, .int 0])), (r, .inl (cB, (cfg3 pf i).length, .inl (bN (cfg3 pf i))))]) (permN [0, 1] [2, 3, 4, 5] 6 rfl rfl rfl (by decide)) ?_
    refine J_ws (ws2 := [(q2, .inr (11, [.ref r2, .int 0, .int 0, .int 0])), (r2, .inl (cB, (cfg3 pf (i + 1)).length, .inl (bN (cfg3 pf (i + 1)))))]) (by rw [show cfg3 pf i ++ tx 14 ++ [109, nameN pf i] = cfg3 pf (i + 1) from List.append_assoc _ _ _]) ?_
    refine J_astore_n (lv2 := [(1, .ref q2), (2, .int (nI i)), (0, .ref (pf 92))]) (pc := 224) C dL_config_224 (by decide) rfl ?_
    refine J_iincK (v := (1 : Int32)) (x2 := nI (i + 1)) (lv2 := [(2, .int (nI (i + 1))), (1, .ref q2), (0, .ref (pf 92))]) (pc := 225) C dL_config_225 1 rfl (by decide) (nI_add i 1) (by decide) rfl ?_
    refine J_goto (tgt := 189) (pc := 228) C dL_config_228 (by decide) ?_
    refine J_widen (k2 := 87 + 13 * (i + 1)) (n2 := 258240 + 28720 * (i + 1)) (by first | omega | (dsimp only; omega)) (by first | omega | (dsimp only; omega)) ?_
    exact ih (i + 1) (by omega) _ _

set_option maxHeartbeats 4000000 in
set_option maxRecDepth 100000 in
theorem K_cfg119 {p : Program} {l : Launch} {e : Env} {s : State} {m : MethodId} {args : Array Value} {below : List Frame} {meth : Method} {c : Code} {D : va_G} {cI cB cL cO : ClassId} {pf : Nat → Nat} (C : jC p s m args meth c cL_config 3 RL D [(cI, .int), (cB, .byte), (cL, .byte), (cO, .object RX0)] pf (va_A [] s.heap.size)) (hr : meth.sig.returnType = (some (FieldType.object "java/lang/String"))) (hL : pf 93 < 2 ^ 31) : ∀ (d i : Nat), i + d = catsN pf → ∀ (q r : Nat), J p l e { frames := 7, cells := 152, slots := 414104, locals := 192 } s m args below meth c 3 D (va_A [] s.heap.size) (MQ below (jQ D [(cI, .int), (cB, .byte), (cL, .byte), (cO, .object RX0)] [] s.heap.size (fun V w => ∃ q r, V = some (.ref q) ∧ w = [(q, .inr (11, [.ref r, .int 0, .int 0, .int 0])), (r, .inl (cB, (cfgT pf).length, .inl (bN (cfgT pf))))])) args s 152 414104 (va_A [] s.heap.size)) (54 + 11 * i) (159864 + 32792 * i) 119 [(2, .int (nI i)), (1, .ref q), (0, .ref (pf 92))] [] [(q, .inr (11, [.ref r, .int 0, .int 0, .int 0])), (r, .inl (cB, (cfg2 pf i).length, .inl (bN (cfg2 pf i))))] := by
  intro d
  induction d with
  | zero =>
    intro i hi q r
    have hi : i = catsN pf := by omega
    have hB := (b_cats (pf := pf)).2
    refine J_iload_n (pc := 119) C dL_config_119 0 rfl ?_
    refine J_aload_n (pc := 120) C dL_config_120 2 rfl ?_
    refine J_csF (b := 0) (As := [.ref (pf 92)]) (st := [.int (nI i)]) (pc := 121) C dL_config_121 ml_RL_97 mi_yL_categories (c_L_categories l D cI cB cL cO pf 0 (nI (catsN pf)) (e_categories hL)) [(q, .inr (11, [.ref r, .int 0, .int 0, .int 0])), (r, .inl (cB, (cfg2 pf i).length, .inl (bN (cfg2 pf i))))] (permN [] [0, 1] 2 rfl rfl rfl (by decide)) rfl ⟨(Nat.le_of_ble_eq_true rfl), (Nat.le_of_ble_eq_true rfl)⟩ ⟨(by first | (dsimp only; omega) | omega), (by first | (dsimp only; omega) | omega)⟩ (Nat.le_of_ble_eq_true rfl) ?_
    rintro v w1 ⟨rfl, rfl⟩
    refine J_ws (ws2 := [(q, .inr (11, [.ref r, .int 0, .int 0, .int 0])), (r, .inl (cB, (cfg2 pf i).length, .inl (bN (cfg2 pf i))))]) rfl ?_
    refine J_ic_ge (α := Unit) (o := ()) (X := some ()) (Y := none) (pc := 124) (tgt := 187) C dL_config_124 (by decide) (if_pos (by rw [hi]; exact Int32.le_refl _)) (fun _ => ?_) (fun h => by cases h)
    refine J_iconst (v := (0 : Int32)) (pc := 187) C dL_config_187 (by decide) ?_
    refine J_istore_n (lv2 := [(2, .int (0 : Int32)), (1, .ref q), (0, .ref (pf 92))]) (pc := 188) C dL_config_188 (by decide) rfl ?_
    subst hi
    refine J_widen (k2 := 87 + 13 * 0) (n2 := 258240 + 28720 * 0) (by first | omega | (dsimp only; omega)) (by first | omega | (dsimp only; omega)) ?_
    exact K_cfg189 C hr hL _ 0 (Nat.zero_add _) q r
  | succ d ih =>
    intro i hi q r
    have hB := (b_cats (pf := pf)).2
    refine J_iload_n (pc := 119) C dL_config_119 0 rfl ?_
    refine J_aload_n (pc := 120) C dL_config_120 2 rfl ?_
    refine J_csF (b := 0) (As := [.ref (pf 92)]) (st := [.int (nI i)]) (pc := 121) C dL_config_121 ml_RL_97 mi_yL_categories (c_L_categories l D cI cB cL cO pf 0 (nI (catsN pf)) (e_categories hL)) [(q, .inr (11, [.ref r, .int 0, .int 0, .int 0])), (r, .inl (cB, (cfg2 pf i).length, .inl (bN (cfg2 pf i))))] (permN [] [0, 1] 2 rfl rfl rfl (by decide)) rfl ⟨(Nat.le_of_ble_eq_true rfl), (Nat.le_of_ble_eq_true rfl)⟩ ⟨(by first | (dsimp only; omega) | omega), (by first | (dsimp only; omega) | omega)⟩ (Nat.le_of_ble_eq_true rfl) ?_
    rintro v w1 ⟨rfl, rfl⟩
    refine J_ws (ws2 := [(q, .inr (11, [.ref r, .int 0, .int 0, .int 0])), (r, .inl (cB, (cfg2 pf i).length, .inl (bN (cfg2 pf i))))]) rfl ?_
    refine J_ic_ge (α := Unit) (o := ()) (X := none) (Y := some ()) (pc := 124) (tgt := 187) C dL_config_124 (by decide) (if_neg (nI_ge (by omega) (by omega))) (fun h => by cases h) (fun _ => ?_)
    refine J_new (ci := 12) (fs := [.null, .int 0, .int 0, .int 0]) (pc := 127) C dL_config_127 jf_J4 clk_RL_53 ins_RJ4 ini_RJ4 rfl df_J4 ⟨(by first | (dsimp only; omega) | omega), (by first | (dsimp only; omega) | omega)⟩ (fun a => ?_)
    refine J_ws (ws2 := [(q, .inr (11, [.ref r, .int 0, .int 0, .int 0])), (r, .inl (cB, (cfg2 pf i).length, .inl (bN (cfg2 pf i)))), (a, .inr (12, [.null, .int 0, .int 0, .int 0]))]) rfl ?_
    refine J_dupr (pc := 130) C dL_config_130 ?_
    refine J_ciF (As := []) (st := [.ref a]) (pc := 131) C dL_config_131 ml_RL_55 mi_yJ4_init_da8c8 (c_SBi l D cI cB cL cO pf a) [(q, .inr (11, [.ref r, .int 0, .int 0, .int 0])), (r, .inl (cB, (cfg2 pf i).length, .inl (bN (cfg2 pf i))))] (permN [2] [0, 1] 3 rfl rfl rfl (by decide)) rfl ⟨(Nat.le_of_ble_eq_true rfl), (Nat.le_of_ble_eq_true rfl)⟩ ⟨(by first | (dsimp only; omega) | omega), (by first | (dsimp only; omega) | omega)⟩ (Nat.le_of_ble_eq_true rfl) ?_
    rintro v w1 ⟨rfl, vw0, rfl⟩
    refine J_ws (ws2 := [(a, .inr (12, [.ref vw0, .int 0, .int 0, .int (nI [].length)])), (vw0, .inl (cB, 16, .inl (bN []))), (q, .inr (11, [.ref r, .int 0, .int 0, .int 0])), (r, .inl (cB, (cfg2 pf i).length, .inl (bN (cfg2 pf i))))]) rfl ?_
    refine J_aload_n (pc := 134) C dL_config_134 1 rfl ?_
    have hAw1 : AS ((cfg2 pf i)) := (a_cfg2 pf (k := i) (by omega))
    have hbw1 : ((cfg2 pf i)).length ≤ _ := (l_cfg2 pf (k := i) (by omega))
    refine J_cvF (As := [.ref q]) (st := []) (pc := 135) C dL_config_135 ml_RL_58 mi_yJ4_append_15ec4 (c_SBSM l D cI cB cL cO pf a vw0 16 [] q r (cfg2 pf i) (a_cfg2 pf (k := i) (by omega)) AS_nil (by decide) (by decide) (by show 0 + _ ≤ _; have := (l_cfg2 pf (k := i) (by omega)); omega)) [] (permN [0, 1, 2, 3] [] 4 rfl rfl rfl (by decide)) (q0 := 0) rfl rfl rfl ⟨(Nat.le_of_ble_eq_true rfl), (Nat.le_of_ble_eq_true rfl)⟩ ⟨(by first | (dsimp only; omega) | omega), (by first | (dsimp only; omega) | omega)⟩ (Nat.le_of_ble_eq_true rfl) ?_
    rintro v w1 ⟨rfl, vw1, capw1, rfl, gw1, zw1⟩
    refine J_ws (ws2 := [(a, .inr (12, [.ref vw1, .int 0, .int 0, .int (nI (cfg2 pf i).length)])), (vw1, .inl (cB, capw1, .inl (bN (cfg2 pf i)))), (q, .inr (11, [.ref r, .int 0, .int 0, .int 0])), (r, .inl (cB, (cfg2 pf i).length, .inl (bN (cfg2 pf i))))]) rfl ?_
    refine J_ldcS (pc := 138) C dL_config_138 23 rfl ?_
    have hAw2 : AS ((cfg2 pf i) ++ tx 13) := AS_app hAw1 (tx_AS (i := 13) (by decide))
    have hbw2 : ((cfg2 pf i) ++ tx 13).length ≤ _ := l_app hbw1 (tx_len11 13 (by decide))
    refine J_cvF (As := [.ref (pf 13)]) (st := []) (pc := 140) C dL_config_140 ml_RL_58 mi_yJ4_append_15ec4 (c_SBSK l D cI cB cL cO pf a vw1 capw1 (cfg2 pf i) 13 (by decide) hAw1 gw1 zw1 (by have := sl_lenS 13 (by decide); first | omega | (have := hbw1; omega))) [(q, .inr (11, [.ref r, .int 0, .int 0, .int 0])), (r, .inl (cB, (cfg2 pf i).length, .inl (bN (cfg2 pf i))))] (permN [0, 1] [2, 3] 4 rfl rfl rfl (by decide)) (q0 := 0) rfl rfl rfl ⟨(Nat.le_of_ble_eq_true rfl), (Nat.le_of_ble_eq_true rfl)⟩ ⟨(by first | (dsimp only; omega) | omega), (by first | (dsimp only; omega) | omega)⟩ (Nat.le_of_ble_eq_true rfl) ?_
    rintro v w1 ⟨rfl, vw2, capw2, rfl, gw2, zw2⟩
    refine J_ws (ws2 := [(a, .inr (12, [.ref vw2, .int 0, .int 0, .int (nI ((cfg2 pf i) ++ tx 13).length)])), (vw2, .inl (cB, capw2, .inl (bN ((cfg2 pf i) ++ tx 13)))), (q, .inr (11, [.ref r, .int 0, .int 0, .int 0])), (r, .inl (cB, (cfg2 pf i).length, .inl (bN (cfg2 pf i))))]) rfl ?_
    refine J_bipush (v := (97 : Int32)) (pc := 143) C dL_config_143 (by decide) ?_
    refine J_iload_n (pc := 145) C dL_config_145 0 rfl ?_
    refine J_iadd (pc := 146) C dL_config_146 ?_
    refine J_top (α := Unit) (X := none) (nI (97 + i)) (nI_add 97 i) ?_
    refine J_i2c (v := nI (97 + i)) (pc := 147) C dL_config_147 (ch_i2c _ (by omega)) ?_
    have hAw3 : AS ((cfg2 pf i) ++ tx 13 ++ [97 + i]) := AS_app hAw2 (AS_one (by omega))
    have hbw3 : ((cfg2 pf i) ++ tx 13 ++ [97 + i]).length ≤ _ := l_app hbw2 (Nat.le_refl 1)
    refine J_cvF (As := [.int (nI (97 + i))]) (st := []) (pc := 148) C dL_config_148 ml_RL_86 mi_yJ4_append_cf468 (c_SBC l D cI cB cL cO pf a vw2 capw2 ((cfg2 pf i) ++ tx 13) (97 + i) (by omega) hAw2 gw2 zw2 (by have := hbw2; omega)) [(q, .inr (11, [.ref r, .int 0, .int 0, .int 0])), (r, .inl (cB, (cfg2 pf i).length, .inl (bN (cfg2 pf i))))] (permN [0, 1] [2, 3] 4 rfl rfl rfl (by decide)) (q0 := 0) rfl rfl rfl ⟨(Nat.le_of_ble_eq_true rfl), (Nat.le_of_ble_eq_true rfl)⟩ ⟨(by first | (dsimp only; omega) | omega), (by first | (dsimp only; omega) | omega)⟩ (Nat.le_of_ble_eq_true rfl) ?_
    rintro v w1 ⟨rfl, vw3, capw3, rfl, gw3, zw3⟩
    refine J_ws (ws2 := [(a, .inr (12, [.ref vw3, .int 0, .int 0, .int (nI ((cfg2 pf i) ++ tx 13 ++ [97 + i]).length)])), (vw3, .inl (cB, capw3, .inl (bN ((cfg2 pf i) ++ tx 13 ++ [97 + i])))), (q, .inr (11, [.ref r, .int 0, .int 0, .int 0])), (r, .inl (cB, (cfg2 pf i).length, .inl (bN (cfg2 pf i))))]) rfl ?_
    refine J_ldcS (pc := 151) C dL_config_151 22 rfl ?_
    have hAw4 : AS ((cfg2 pf i) ++ tx 13 ++ [97 + i] ++ tx 12) := AS_app hAw3 (tx_AS (i := 12) (by decide))
    have hbw4 : ((cfg2 pf i) ++ tx 13 ++ [97 + i] ++ tx 12).length ≤ _ := l_app hbw3 (tx_len11 12 (by decide))
    refine J_cvF (As := [.ref (pf 12)]) (st := []) (pc := 153) C dL_config_153 ml_RL_58 mi_yJ4_append_15ec4 (c_SBSK l D cI cB cL cO pf a vw3 capw3 ((cfg2 pf i) ++ tx 13 ++ [97 + i]) 12 (by decide) hAw3 gw3 zw3 (by have := sl_lenS 12 (by decide); first | omega | (have := hbw3; omega))) [(q, .inr (11, [.ref r, .int 0, .int 0, .int 0])), (r, .inl (cB, (cfg2 pf i).length, .inl (bN (cfg2 pf i))))] (permN [0, 1] [2, 3] 4 rfl rfl rfl (by decide)) (q0 := 0) rfl rfl rfl ⟨(Nat.le_of_ble_eq_true rfl), (Nat.le_of_ble_eq_true rfl)⟩ ⟨(by first | (dsimp only; omega) | omega), (by first | (dsimp only; omega) | omega)⟩ (Nat.le_of_ble_eq_true rfl) ?_
    rintro v w1 ⟨rfl, vw4, capw4, rfl, gw4, zw4⟩
    refine J_ws (ws2 := [(a, .inr (12, [.ref vw4, .int 0, .int 0, .int (nI ((cfg2 pf i) ++ tx 13 ++ [97 + i] ++ tx 12).length)])), (vw4, .inl (cB, capw4, .inl (bN ((cfg2 pf i) ++ tx 13 ++ [97 + i] ++ tx 12)))), (q, .inr (11, [.ref r, .int 0, .int 0, .int 0])), (r, .inl (cB, (cfg2 pf i).length, .inl (bN (cfg2 pf i))))]) rfl ?_
    refine J_aload_n (pc := 156) C dL_config_156 2 rfl ?_
    refine J_iload_n (pc := 157) C dL_config_157 0 rfl ?_
    refine J_csF (b := 0) (As := [.ref (pf 92), .int (nI i)]) (st := [.ref a]) (pc := 158) C dL_config_158 ml_RL_102 mi_yL_rate (c_L_rate l D cI cB cL cO pf 0 (nI i) (nI (rateN pf i)) (e_rate hL i)) [(a, .inr (12, [.ref vw4, .int 0, .int 0, .int (nI ((cfg2 pf i) ++ tx 13 ++ [97 + i] ++ tx 12).length)])), (vw4, .inl (cB, capw4, .inl (bN ((cfg2 pf i) ++ tx 13 ++ [97 + i] ++ tx 12)))), (q, .inr (11, [.ref r, .int 0, .int 0, .int 0])), (r, .inl (cB, (cfg2 pf i).length, .inl (bN (cfg2 pf i))))] (permN [] [0, 1, 2, 3] 4 rfl rfl rfl (by decide)) rfl ⟨(Nat.le_of_ble_eq_true rfl), (Nat.le_of_ble_eq_true rfl)⟩ ⟨(by first | (dsimp only; omega) | omega), (by first | (dsimp only; omega) | omega)⟩ (Nat.le_of_ble_eq_true rfl) ?_
    rintro v w1 ⟨rfl, rfl⟩
    refine J_ws (ws2 := [(a, .inr (12, [.ref vw4, .int 0, .int 0, .int (nI ((cfg2 pf i) ++ tx 13 ++ [97 + i] ++ tx 12).length)])), (vw4, .inl (cB, capw4, .inl (bN ((cfg2 pf i) ++ tx 13 ++ [97 + i] ++ tx 12)))), (q, .inr (11, [.ref r, .int 0, .int 0, .int 0])), (r, .inl (cB, (cfg2 pf i).length, .inl (bN (cfg2 pf i))))]) rfl ?_
    have hAw5 : AS ((cfg2 pf i) ++ tx 13 ++ [97 + i] ++ tx 12 ++ dg (rateN pf i)) := AS_app hAw4 (dg_AS (by have := b_rate (pf := pf) i; omega))
    have hbw5 : ((cfg2 pf i) ++ tx 13 ++ [97 + i] ++ tx 12 ++ dg (rateN pf i)).length ≤ _ := l_app hbw4 (dg_len _)
    refine J_cvF (As := [.int (nI (rateN pf i))]) (st := []) (pc := 161) C dL_config_161 ml_RL_64 mi_yJ4_append_bf812 (c_SBI l D cI cB cL cO pf a vw4 capw4 ((cfg2 pf i) ++ tx 13 ++ [97 + i] ++ tx 12) (rateN pf i) (by have := b_rate (pf := pf) i; omega) hAw4 gw4 zw4 (by have := hbw4; omega)) [(q, .inr (11, [.ref r, .int 0, .int 0, .int 0])), (r, .inl (cB, (cfg2 pf i).length, .inl (bN (cfg2 pf i))))] (permN [0, 1] [2, 3] 4 rfl rfl rfl (by decide)) (q0 := 0) rfl rfl rfl ⟨(Nat.le_of_ble_eq_true rfl), (Nat.le_of_ble_eq_true rfl)⟩ ⟨(by first | (dsimp only; omega) | omega), (by first | (dsimp only; omega) | omega)⟩ (Nat.le_of_ble_eq_true rfl) ?_
    rintro v w1 ⟨rfl, vw5, capw5, rfl, gw5, zw5⟩
    refine J_ws (ws2 := [(a, .inr (12, [.ref vw5, .int 0, .int 0, .int (nI ((cfg2 pf i) ++ tx 13 ++ [97 + i] ++ tx 12 ++ dg (rateN pf i)).length)])), (vw5, .inl (cB, capw5, .inl (bN ((cfg2 pf i) ++ tx 13 ++ [97 + i] ++ tx 12 ++ dg (rateN pf i))))), (q, .inr (11, [.ref r, .int 0, .int 0, .int 0])), (r, .inl (cB, (cfg2 pf i).length, .inl (bN (cfg2 pf i))))]) rfl ?_
    refine J_ldcS (pc := 164) C dL_config_164 22 rfl ?_
    have hAw6 : AS ((cfg2 pf i) ++ tx 13 ++ [97 + i] ++ tx 12 ++ dg (rateN pf i) ++ tx 12) := AS_app hAw5 (tx_AS (i := 12) (by decide))
    have hbw6 : ((cfg2 pf i) ++ tx 13 ++ [97 + i] ++ tx 12 ++ dg (rateN pf i) ++ tx 12).length ≤ _ := l_app hbw5 (tx_len11 12 (by decide))
    refine J_cvF (As := [.ref (pf 12)]) (st := []) (pc := 166) C dL_config_166 ml_RL_58 mi_yJ4_append_15ec4 (c_SBSK l D cI cB cL cO pf a vw5 capw5 ((cfg2 pf i) ++ tx 13 ++ [97 + i] ++ tx 12 ++ dg (rateN pf i)) 12 (by decide) hAw5 gw5 zw5 (by have := sl_lenS 12 (by decide); first | omega | (have := hbw5; omega))) [(q, .inr (11, [.ref r, .int 0, .int 0, .int 0])), (r, .inl (cB, (cfg2 pf i).length, .inl (bN (cfg2 pf i))))] (permN [0, 1] [2, 3] 4 rfl rfl rfl (by decide)) (q0 := 0) rfl rfl rfl ⟨(Nat.le_of_ble_eq_true rfl), (Nat.le_of_ble_eq_true rfl)⟩ ⟨(by first | (dsimp only; omega) | omega), (by first | (dsimp only; omega) | omega)⟩ (Nat.le_of_ble_eq_true rfl) ?_
    rintro v w1 ⟨rfl, vw6, capw6, rfl, gw6, zw6⟩
    refine J_ws (ws2 := [(a, .inr (12, [.ref vw6, .int 0, .int 0, .int (nI ((cfg2 pf i) ++ tx 13 ++ [97 + i] ++ tx 12 ++ dg (rateN pf i) ++ tx 12).length)])), (vw6, .inl (cB, capw6, .inl (bN ((cfg2 pf i) ++ tx 13 ++ [97 + i] ++ tx 12 ++ dg (rateN pf i) ++ tx 12)))), (q, .inr (11, [.ref r, .int 0, .int 0, .int 0])), (r, .inl (cB, (cfg2 pf i).length, .inl (bN (cfg2 pf i))))]) rfl ?_
    refine J_aload_n (pc := 169) C dL_config_169 2 rfl ?_
    refine J_iload_n (pc := 170) C dL_config_170 0 rfl ?_
    refine J_csF (b := 0) (As := [.ref (pf 92), .int (nI i)]) (st := [.ref a]) (pc := 171) C dL_config_171 ml_RL_105 mi_yL_cap (c_L_cap l D cI cB cL cO pf 0 (nI i) (nI (capN pf i)) (e_cap hL i)) [(a, .inr (12, [.ref vw6, .int 0, .int 0, .int (nI ((cfg2 pf i) ++ tx 13 ++ [97 + i] ++ tx 12 ++ dg (rateN pf i) ++ tx 12).length)])), (vw6, .inl (cB, capw6, .inl (bN ((cfg2 pf i) ++ tx 13 ++ [97 + i] ++ tx 12 ++ dg (rateN pf i) ++ tx 12)))), (q, .inr (11, [.ref r, .int 0, .int 0, .int 0])), (r, .inl (cB, (cfg2 pf i).length, .inl (bN (cfg2 pf i))))] (permN [] [0, 1, 2, 3] 4 rfl rfl rfl (by decide)) rfl ⟨(Nat.le_of_ble_eq_true rfl), (Nat.le_of_ble_eq_true rfl)⟩ ⟨(by first | (dsimp only; omega) | omega), (by first | (dsimp only; omega) | omega)⟩ (Nat.le_of_ble_eq_true rfl) ?_
    rintro v w1 ⟨rfl, rfl⟩
    refine J_ws (ws2 := [(a, .inr (12, [.ref vw6, .int 0, .int 0, .int (nI ((cfg2 pf i) ++ tx 13 ++ [97 + i] ++ tx 12 ++ dg (rateN pf i) ++ tx 12).length)])), (vw6, .inl (cB, capw6, .inl (bN ((cfg2 pf i) ++ tx 13 ++ [97 + i] ++ tx 12 ++ dg (rateN pf i) ++ tx 12)))), (q, .inr (11, [.ref r, .int 0, .int 0, .int 0])), (r, .inl (cB, (cfg2 pf i).length, .inl (bN (cfg2 pf i))))]) rfl ?_
    have hAw7 : AS ((cfg2 pf i) ++ tx 13 ++ [97 + i] ++ tx 12 ++ dg (rateN pf i) ++ tx 12 ++ dg (capN pf i)) := AS_app hAw6 (dg_AS (by have := b_cap (pf := pf) i; omega))
    have hbw7 : ((cfg2 pf i) ++ tx 13 ++ [97 + i] ++ tx 12 ++ dg (rateN pf i) ++ tx 12 ++ dg (capN pf i)).length ≤ _ := l_app hbw6 (dg_len _)
    refine J_cvF (As := [.int (nI (capN pf i))]) (st := []) (pc := 174) C dL_config_174 ml_RL_64 mi_yJ4_append_bf812 (c_SBI l D cI cB cL cO pf a vw6 capw6 ((cfg2 pf i) ++ tx 13 ++ [97 + i] ++ tx 12 ++ dg (rateN pf i) ++ tx 12) (capN pf i) (by have := b_cap (pf := pf) i; omega) hAw6 gw6 zw6 (by have := hbw6; omega)) [(q, .inr (11, [.ref r, .int 0, .int 0, .int 0])), (r, .inl (cB, (cfg2 pf i).length, .inl (bN (cfg2 pf i))))] (permN [0, 1] [2, 3] 4 rfl rfl rfl (by decide)) (q0 := 0) rfl rfl rfl ⟨(Nat.le_of_ble_eq_true rfl), (Nat.le_of_ble_eq_true rfl)⟩ ⟨(by first | (dsimp only; omega) | omega), (by first | (dsimp only; omega) | omega)⟩ (Nat.le_of_ble_eq_true rfl) ?_
    rintro v w1 ⟨rfl, vw7, capw7, rfl, gw7, zw7⟩
    refine J_ws (ws2 := [(a, .inr (12, [.ref vw7, .int 0, .int 0, .int (nI ((cfg2 pf i) ++ tx 13 ++ [97 + i] ++ tx 12 ++ dg (rateN pf i) ++ tx 12 ++ dg (capN pf i)).length)])), (vw7, .inl (cB, capw7, .inl (bN ((cfg2 pf i) ++ tx 13 ++ [97 + i] ++ tx 12 ++ dg (rateN pf i) ++ tx 12 ++ dg (capN pf i))))), (q, .inr (11, [.ref r, .int 0, .int 0, .int 0])), (r, .inl (cB, (cfg2 pf i).length, .inl (bN (cfg2 pf i))))]) rfl ?_
    refine J_cvF (As := []) (st := []) (pc := 177) C dL_config_177 ml_RL_77 mi_yJ4_toString_0e30d (c_toS l D cI cB cL cO pf a vw7 capw7 ((cfg2 pf i) ++ tx 13 ++ [97 + i] ++ tx 12 ++ dg (rateN pf i) ++ tx 12 ++ dg (capN pf i)) hAw7 gw7 zw7) [(q, .inr (11, [.ref r, .int 0, .int 0, .int 0])), (r, .inl (cB, (cfg2 pf i).length, .inl (bN (cfg2 pf i))))] (permN [0, 1] [2, 3] 4 rfl rfl rfl (by decide)) (q0 := 0) rfl rfl rfl ⟨(Nat.le_of_ble_eq_true rfl), (Nat.le_of_ble_eq_true rfl)⟩ ⟨(by first | (dsimp only; omega) | omega), (by first | (dsimp only; omega) | omega)⟩ (Nat.le_of_ble_eq_true rfl) ?_
    rintro v w1 ⟨q2, r2, rfl, rfl⟩
    refine J_ws (ws2 := [(q2, .inr (11, [.ref r2, .int 0, .int 0, .int 0])), (r2, .inl (cB, ((cfg2 pf i) ++ tx 13 ++ [97 + i] ++ tx 12 ++ dg (rateN pf i) ++ tx 12 ++ dg (capN pf i)).length, .inl (bN ((cfg2 pf i) ++ tx 13 ++ [97 + i] ++ tx 12 ++ dg (rateN pf i) ++ tx 12 ++ dg (capN pf i))))), (q, .inr (11, [.ref r, .int 0, .int 0, .int 0])), (r, .inl (cB, (cfg2 pf i).length, .inl (bN (cfg2 pf i))))]) rfl ?_
    refine J_drop (ws2 := [(q2, .inr (11, [.ref r2, .int 0, .int 0, .int 0])), (r2, .inl (cB, ((cfg2 pf i) ++ tx 13 ++ [97 + i] ++ tx 12 ++ dg (rateN pf i) ++ tx 12 ++ dg (capN pf i)).length, .inl (bN ((cfg2 pf i) ++ tx 13 ++ [97 + i] ++ tx 12 ++ dg (rateN pf i) ++ tx 12 ++ dg (capN pf i)))))]) (Wr := [(q, .inr (11, [.ref r, .int 0, .int 0, .int 0])), (r, .inl (cB, (cfg2 pf i).length, .inl (bN (cfg2 pf i))))]) (permN [0, 1] [2, 3] 4 rfl rfl rfl (by decide)) ?_
    refine J_ws (ws2 := [(q2, .inr (11, [.ref r2, .int 0, .int 0, .int 0])), (r2, .inl (cB, (cfg2 pf (i + 1)).length, .inl (bN (cfg2 pf (i + 1)))))]) (by rw [show cfg2 pf i ++ tx 13 ++ [97 + i] ++ tx 12 ++ dg (rateN pf i) ++ tx 12 ++ dg (capN pf i) = cfg2 pf (i + 1) from (by show _ = cfg2 pf i ++ (catT pf i); unfold catT; simp only [List.append_assoc])]) ?_
    refine J_astore_n (lv2 := [(1, .ref q2), (2, .int (nI i)), (0, .ref (pf 92))]) (pc := 180) C dL_config_180 (by decide) rfl ?_
    refine J_iincK (v := (1 : Int32)) (x2 := nI (i + 1)) (lv2 := [(2, .int (nI (i + 1))), (1, .ref q2), (0, .ref (pf 92))]) (pc := 181) C dL_config_181 1 rfl (by decide) (nI_add i 1) (by decide) rfl ?_
    refine J_goto (tgt := 119) (pc := 184) C dL_config_184 (by decide) ?_
    refine J_widen (k2 := 54 + 11 * (i + 1)) (n2 := 159864 + 32792 * (i + 1)) (by first | omega | (dsimp only; omega)) (by first | omega | (dsimp only; omega)) ?_
    exact ih (i + 1) (by omega) _ _

set_option maxHeartbeats 4000000 in
set_option maxRecDepth 100000 in
theorem K_cfg49 {p : Program} {l : Launch} {e : Env} {s : State} {m : MethodId} {args : Array Value} {below : List Frame} {meth : Method} {c : Code} {D : va_G} {cI cB cL cO : ClassId} {pf : Nat → Nat} (C : jC p s m args meth c cL_config 3 RL D [(cI, .int), (cB, .byte), (cL, .byte), (cO, .object RX0)] pf (va_A [] s.heap.size)) (hr : meth.sig.returnType = (some (FieldType.object "java/lang/String"))) (hL : pf 93 < 2 ^ 31) : ∀ (d i : Nat), i + d = tiersN pf → ∀ (q r : Nat), J p l e { frames := 7, cells := 152, slots := 414104, locals := 192 } s m args below meth c 3 D (va_A [] s.heap.size) (MQ below (jQ D [(cI, .int), (cB, .byte), (cL, .byte), (cO, .object RX0)] [] s.heap.size (fun V w => ∃ q r, V = some (.ref q) ∧ w = [(q, .inr (11, [.ref r, .int 0, .int 0, .int 0])), (r, .inl (cB, (cfgT pf).length, .inl (bN (cfgT pf))))])) args s 152 414104 (va_A [] s.heap.size)) (10 + 11 * i) (28696 + 32792 * i) 49 [(2, .int (nI i)), (1, .ref q), (0, .ref (pf 92))] [] [(q, .inr (11, [.ref r, .int 0, .int 0, .int 0])), (r, .inl (cB, (cfg1 pf i).length, .inl (bN (cfg1 pf i))))] := by
  intro d
  induction d with
  | zero =>
    intro i hi q r
    have hi : i = tiersN pf := by omega
    have hB := (b_tiers (pf := pf)).2
    refine J_iload_n (pc := 49) C dL_config_49 0 rfl ?_
    refine J_aload_n (pc := 50) C dL_config_50 2 rfl ?_
    refine J_csF (b := 0) (As := [.ref (pf 92)]) (st := [.int (nI i)]) (pc := 51) C dL_config_51 ml_RL_81 mi_yL_tiers (c_L_tiers l D cI cB cL cO pf 0 (nI (tiersN pf)) (e_tiers hL)) [(q, .inr (11, [.ref r, .int 0, .int 0, .int 0])), (r, .inl (cB, (cfg1 pf i).length, .inl (bN (cfg1 pf i))))] (permN [] [0, 1] 2 rfl rfl rfl (by decide)) rfl ⟨(Nat.le_of_ble_eq_true rfl), (Nat.le_of_ble_eq_true rfl)⟩ ⟨(by first | (dsimp only; omega) | omega), (by first | (dsimp only; omega) | omega)⟩ (Nat.le_of_ble_eq_true rfl) ?_
    rintro v w1 ⟨rfl, rfl⟩
    refine J_ws (ws2 := [(q, .inr (11, [.ref r, .int 0, .int 0, .int 0])), (r, .inl (cB, (cfg1 pf i).length, .inl (bN (cfg1 pf i))))]) rfl ?_
    refine J_ic_ge (α := Unit) (o := ()) (X := some ()) (Y := none) (pc := 54) (tgt := 117) C dL_config_54 (by decide) (if_pos (by rw [hi]; exact Int32.le_refl _)) (fun _ => ?_) (fun h => by cases h)
    refine J_iconst (v := (0 : Int32)) (pc := 117) C dL_config_117 (by decide) ?_
    refine J_istore_n (lv2 := [(2, .int (0 : Int32)), (1, .ref q), (0, .ref (pf 92))]) (pc := 118) C dL_config_118 (by decide) rfl ?_
    subst hi
    refine J_widen (k2 := 54 + 11 * 0) (n2 := 159864 + 32792 * 0) (by first | omega | (dsimp only; omega)) (by first | omega | (dsimp only; omega)) ?_
    exact K_cfg119 C hr hL _ 0 (Nat.zero_add _) q r
  | succ d ih =>
    intro i hi q r
    have hB := (b_tiers (pf := pf)).2
    refine J_iload_n (pc := 49) C dL_config_49 0 rfl ?_
    refine J_aload_n (pc := 50) C dL_config_50 2 rfl ?_
    refine J_csF (b := 0) (As := [.ref (pf 92)]) (st := [.int (nI i)]) (pc := 51) C dL_config_51 ml_RL_81 mi_yL_tiers (c_L_tiers l D cI cB cL cO pf 0 (nI (tiersN pf)) (e_tiers hL)) [(q, .inr (11, [.ref r, .int 0, .int 0, .int 0])), (r, .inl (cB, (cfg1 pf i).length, .inl (bN (cfg1 pf i))))] (permN [] [0, 1] 2 rfl rfl rfl (by decide)) rfl ⟨(Nat.le_of_ble_eq_true rfl), (Nat.le_of_ble_eq_true rfl)⟩ ⟨(by first | (dsimp only; omega) | omega), (by first | (dsimp only; omega) | omega)⟩ (Nat.le_of_ble_eq_true rfl) ?_
    rintro v w1 ⟨rfl, rfl⟩
    refine J_ws (ws2 := [(q, .inr (11, [.ref r, .int 0, .int 0, .int 0])), (r, .inl (cB, (cfg1 pf i).length, .inl (bN (cfg1 pf i))))]) rfl ?_
    refine J_ic_ge (α := Unit) (o := ()) (X := none) (Y := some ()) (pc := 54) (tgt := 117) C dL_config_54 (by decide) (if_neg (nI_ge (by omega) (by omega))) (fun h => by cases h) (fun _ => ?_)
    refine J_new (ci := 12) (fs := [.null, .int 0, .int 0, .int 0]) (pc := 57) C dL_config_57 jf_J4 clk_RL_53 ins_RJ4 ini_RJ4 rfl df_J4 ⟨(by first | (dsimp only; omega) | omega), (by first | (dsimp only; omega) | omega)⟩ (fun a => ?_)
    refine J_ws (ws2 := [(q, .inr (11, [.ref r, .int 0, .int 0, .int 0])), (r, .inl (cB, (cfg1 pf i).length, .inl (bN (cfg1 pf i)))), (a, .inr (12, [.null, .int 0, .int 0, .int 0]))]) rfl ?_
    refine J_dupr (pc := 60) C dL_config_60 ?_
    refine J_ciF (As := []) (st := [.ref a]) (pc := 61) C dL_config_61 ml_RL_55 mi_yJ4_init_da8c8 (c_SBi l D cI cB cL cO pf a) [(q, .inr (11, [.ref r, .int 0, .int 0, .int 0])), (r, .inl (cB, (cfg1 pf i).length, .inl (bN (cfg1 pf i))))] (permN [2] [0, 1] 3 rfl rfl rfl (by decide)) rfl ⟨(Nat.le_of_ble_eq_true rfl), (Nat.le_of_ble_eq_true rfl)⟩ ⟨(by first | (dsimp only; omega) | omega), (by first | (dsimp only; omega) | omega)⟩ (Nat.le_of_ble_eq_true rfl) ?_
    rintro v w1 ⟨rfl, vw0, rfl⟩
    refine J_ws (ws2 := [(a, .inr (12, [.ref vw0, .int 0, .int 0, .int (nI [].length)])), (vw0, .inl (cB, 16, .inl (bN []))), (q, .inr (11, [.ref r, .int 0, .int 0, .int 0])), (r, .inl (cB, (cfg1 pf i).length, .inl (bN (cfg1 pf i))))]) rfl ?_
    refine J_aload_n (pc := 64) C dL_config_64 1 rfl ?_
    have hAw1 : AS ((cfg1 pf i)) := (a_cfg1 pf (k := i) (by omega))
    have hbw1 : ((cfg1 pf i)).length ≤ _ := (l_cfg1 pf (k := i) (by omega))
    refine J_cvF (As := [.ref q]) (st := []) (pc := 65) C dL_config_65 ml_RL_58 mi_yJ4_append_15ec4 (c_SBSM l D cI cB cL cO pf a vw0 16 [] q r (cfg1 pf i) (a_cfg1 pf (k := i) (by omega)) AS_nil (by decide) (by decide) (by show 0 + _ ≤ _; have := (l_cfg1 pf (k := i) (by omega)); omega)) [] (permN [0, 1, 2, 3] [] 4 rfl rfl rfl (by decide)) (q0 := 0) rfl rfl rfl ⟨(Nat.le_of_ble_eq_true rfl), (Nat.le_of_ble_eq_true rfl)⟩ ⟨(by first | (dsimp only; omega) | omega), (by first | (dsimp only; omega) | omega)⟩ (Nat.le_of_ble_eq_true rfl) ?_
    rintro v w1 ⟨rfl, vw1, capw1, rfl, gw1, zw1⟩
    refine J_ws (ws2 := [(a, .inr (12, [.ref vw1, .int 0, .int 0, .int (nI (cfg1 pf i).length)])), (vw1, .inl (cB, capw1, .inl (bN (cfg1 pf i)))), (q, .inr (11, [.ref r, .int 0, .int 0, .int 0])), (r, .inl (cB, (cfg1 pf i).length, .inl (bN (cfg1 pf i))))]) rfl ?_
    refine J_ldcS (pc := 68) C dL_config_68 21 rfl ?_
    have hAw2 : AS ((cfg1 pf i) ++ tx 11) := AS_app hAw1 (tx_AS (i := 11) (by decide))
    have hbw2 : ((cfg1 pf i) ++ tx 11).length ≤ _ := l_app hbw1 (tx_len11 11 (by decide))
    refine J_cvF (As := [.ref (pf 11)]) (st := []) (pc := 70) C dL_config_70 ml_RL_58 mi_yJ4_append_15ec4 (c_SBSK l D cI cB cL cO pf a vw1 capw1 (cfg1 pf i) 11 (by decide) hAw1 gw1 zw1 (by have := sl_lenS 11 (by decide); first | omega | (have := hbw1; omega))) [(q, .inr (11, [.ref r, .int 0, .int 0, .int 0])), (r, .inl (cB, (cfg1 pf i).length, .inl (bN (cfg1 pf i))))] (permN [0, 1] [2, 3] 4 rfl rfl rfl (by decide)) (q0 := 0) rfl rfl rfl ⟨(Nat.le_of_ble_eq_true rfl), (Nat.le_of_ble_eq_true rfl)⟩ ⟨(by first | (dsimp only; omega) | omega), (by first | (dsimp only; omega) | omega)⟩ (Nat.le_of_ble_eq_true rfl) ?_
    rintro v w1 ⟨rfl, vw2, capw2, rfl, gw2, zw2⟩
    refine J_ws (ws2 := [(a, .inr (12, [.ref vw2, .int 0, .int 0, .int (nI ((cfg1 pf i) ++ tx 11).length)])), (vw2, .inl (cB, capw2, .inl (bN ((cfg1 pf i) ++ tx 11)))), (q, .inr (11, [.ref r, .int 0, .int 0, .int 0])), (r, .inl (cB, (cfg1 pf i).length, .inl (bN (cfg1 pf i))))]) rfl ?_
    refine J_bipush (v := (97 : Int32)) (pc := 73) C dL_config_73 (by decide) ?_
    refine J_iload_n (pc := 75) C dL_config_75 0 rfl ?_
    refine J_iadd (pc := 76) C dL_config_76 ?_
    refine J_top (α := Unit) (X := none) (nI (97 + i)) (nI_add 97 i) ?_
    refine J_i2c (v := nI (97 + i)) (pc := 77) C dL_config_77 (ch_i2c _ (by omega)) ?_
    have hAw3 : AS ((cfg1 pf i) ++ tx 11 ++ [97 + i]) := AS_app hAw2 (AS_one (by omega))
    have hbw3 : ((cfg1 pf i) ++ tx 11 ++ [97 + i]).length ≤ _ := l_app hbw2 (Nat.le_refl 1)
    refine J_cvF (As := [.int (nI (97 + i))]) (st := []) (pc := 78) C dL_config_78 ml_RL_86 mi_yJ4_append_cf468 (c_SBC l D cI cB cL cO pf a vw2 capw2 ((cfg1 pf i) ++ tx 11) (97 + i) (by omega) hAw2 gw2 zw2 (by have := hbw2; omega)) [(q, .inr (11, [.ref r, .int 0, .int 0, .int 0])), (r, .inl (cB, (cfg1 pf i).length, .inl (bN (cfg1 pf i))))] (permN [0, 1] [2, 3] 4 rfl rfl rfl (by decide)) (q0 := 0) rfl rfl rfl ⟨(Nat.le_of_ble_eq_true rfl), (Nat.le_of_ble_eq_true rfl)⟩ ⟨(by first | (dsimp only; omega) | omega), (by first | (dsimp only; omega) | omega)⟩ (Nat.le_of_ble_eq_true rfl) ?_
    rintro v w1 ⟨rfl, vw3, capw3, rfl, gw3, zw3⟩
    refine J_ws (ws2 := [(a, .inr (12, [.ref vw3, .int 0, .int 0, .int (nI ((cfg1 pf i) ++ tx 11 ++ [97 + i]).length)])), (vw3, .inl (cB, capw3, .inl (bN ((cfg1 pf i) ++ tx 11 ++ [97 + i])))), (q, .inr (11, [.ref r, .int 0, .int 0, .int 0])), (r, .inl (cB, (cfg1 pf i).length, .inl (bN (cfg1 pf i))))]) rfl ?_
    refine J_ldcS (pc := 81) C dL_config_81 22 rfl ?_
    have hAw4 : AS ((cfg1 pf i) ++ tx 11 ++ [97 + i] ++ tx 12) := AS_app hAw3 (tx_AS (i := 12) (by decide))
    have hbw4 : ((cfg1 pf i) ++ tx 11 ++ [97 + i] ++ tx 12).length ≤ _ := l_app hbw3 (tx_len11 12 (by decide))
    refine J_cvF (As := [.ref (pf 12)]) (st := []) (pc := 83) C dL_config_83 ml_RL_58 mi_yJ4_append_15ec4 (c_SBSK l D cI cB cL cO pf a vw3 capw3 ((cfg1 pf i) ++ tx 11 ++ [97 + i]) 12 (by decide) hAw3 gw3 zw3 (by have := sl_lenS 12 (by decide); first | omega | (have := hbw3; omega))) [(q, .inr (11, [.ref r, .int 0, .int 0, .int 0])), (r, .inl (cB, (cfg1 pf i).length, .inl (bN (cfg1 pf i))))] (permN [0, 1] [2, 3] 4 rfl rfl rfl (by decide)) (q0 := 0) rfl rfl rfl ⟨(Nat.le_of_ble_eq_true rfl), (Nat.le_of_ble_eq_true rfl)⟩ ⟨(by first | (dsimp only; omega) | omega), (by first | (dsimp only; omega) | omega)⟩ (Nat.le_of_ble_eq_true rfl) ?_
    rintro v w1 ⟨rfl, vw4, capw4, rfl, gw4, zw4⟩
    refine J_ws (ws2 := [(a, .inr (12, [.ref vw4, .int 0, .int 0, .int (nI ((cfg1 pf i) ++ tx 11 ++ [97 + i] ++ tx 12).length)])), (vw4, .inl (cB, capw4, .inl (bN ((cfg1 pf i) ++ tx 11 ++ [97 + i] ++ tx 12)))), (q, .inr (11, [.ref r, .int 0, .int 0, .int 0])), (r, .inl (cB, (cfg1 pf i).length, .inl (bN (cfg1 pf i))))]) rfl ?_
    refine J_aload_n (pc := 86) C dL_config_86 2 rfl ?_
    refine J_iload_n (pc := 87) C dL_config_87 0 rfl ?_
    refine J_csF (b := 0) (As := [.ref (pf 92), .int (nI i)]) (st := [.ref a]) (pc := 88) C dL_config_88 ml_RL_91 mi_yL_threshold (c_L_threshold l D cI cB cL cO pf 0 (nI i) (nI (i * stepN pf)) (e_threshold hL (t := i) (by omega))) [(a, .inr (12, [.ref vw4, .int 0, .int 0, .int (nI ((cfg1 pf i) ++ tx 11 ++ [97 + i] ++ tx 12).length)])), (vw4, .inl (cB, capw4, .inl (bN ((cfg1 pf i) ++ tx 11 ++ [97 + i] ++ tx 12)))), (q, .inr (11, [.ref r, .int 0, .int 0, .int 0])), (r, .inl (cB, (cfg1 pf i).length, .inl (bN (cfg1 pf i))))] (permN [] [0, 1, 2, 3] 4 rfl rfl rfl (by decide)) rfl ⟨(Nat.le_of_ble_eq_true rfl), (Nat.le_of_ble_eq_true rfl)⟩ ⟨(by first | (dsimp only; omega) | omega), (by first | (dsimp only; omega) | omega)⟩ (Nat.le_of_ble_eq_true rfl) ?_
    rintro v w1 ⟨rfl, rfl⟩
    refine J_ws (ws2 := [(a, .inr (12, [.ref vw4, .int 0, .int 0, .int (nI ((cfg1 pf i) ++ tx 11 ++ [97 + i] ++ tx 12).length)])), (vw4, .inl (cB, capw4, .inl (bN ((cfg1 pf i) ++ tx 11 ++ [97 + i] ++ tx 12)))), (q, .inr (11, [.ref r, .int 0, .int 0, .int 0])), (r, .inl (cB, (cfg1 pf i).length, .inl (bN (cfg1 pf i))))]) rfl ?_
    have hAw5 : AS ((cfg1 pf i) ++ tx 11 ++ [97 + i] ++ tx 12 ++ dg (i * stepN pf)) := AS_app hAw4 (dg_AS (by have := (b_step (pf := pf)).2; have : i * stepN pf ≤ 3 * 449 := Nat.mul_le_mul (by omega) this; omega))
    have hbw5 : ((cfg1 pf i) ++ tx 11 ++ [97 + i] ++ tx 12 ++ dg (i * stepN pf)).length ≤ _ := l_app hbw4 (dg_len _)
    refine J_cvF (As := [.int (nI (i * stepN pf))]) (st := []) (pc := 91) C dL_config_91 ml_RL_64 mi_yJ4_append_bf812 (c_SBI l D cI cB cL cO pf a vw4 capw4 ((cfg1 pf i) ++ tx 11 ++ [97 + i] ++ tx 12) (i * stepN pf) (by have := (b_step (pf := pf)).2; have : i * stepN pf ≤ 3 * 449 := Nat.mul_le_mul (by omega) this; omega) hAw4 gw4 zw4 (by have := hbw4; omega)) [(q, .inr (11, [.ref r, .int 0, .int 0, .int 0])), (r, .inl (cB, (cfg1 pf i).length, .inl (bN (cfg1 pf i))))] (permN [0, 1] [2, 3] 4 rfl rfl rfl (by decide)) (q0 := 0) rfl rfl rfl ⟨(Nat.le_of_ble_eq_true rfl), (Nat.le_of_ble_eq_true rfl)⟩ ⟨(by first | (dsimp only; omega) | omega), (by first | (dsimp only; omega) | omega)⟩ (Nat.le_of_ble_eq_true rfl) ?_
    rintro v w1 ⟨rfl, vw5, capw5, rfl, gw5, zw5⟩
    refine J_ws (ws2 := [(a, .inr (12, [.ref vw5, .int 0, .int 0, .int (nI ((cfg1 pf i) ++ tx 11 ++ [97 + i] ++ tx 12 ++ dg (i * stepN pf)).length)])), (vw5, .inl (cB, capw5, .inl (bN ((cfg1 pf i) ++ tx 11 ++ [97 + i] ++ tx 12 ++ dg (i * stepN pf))))), (q, .inr (11, [.ref r, .int 0, .int 0, .int 0])), (r, .inl (cB, (cfg1 pf i).length, .inl (bN (cfg1 pf i))))]) rfl ?_
    refine J_ldcS (pc := 94) C dL_config_94 22 rfl ?_
    have hAw6 : AS ((cfg1 pf i) ++ tx 11 ++ [97 + i] ++ tx 12 ++ dg (i * stepN pf) ++ tx 12) := AS_app hAw5 (tx_AS (i := 12) (by decide))
    have hbw6 : ((cfg1 pf i) ++ tx 11 ++ [97 + i] ++ tx 12 ++ dg (i * stepN pf) ++ tx 12).length ≤ _ := l_app hbw5 (tx_len11 12 (by decide))
    refine J_cvF (As := [.ref (pf 12)]) (st := []) (pc := 96) C dL_config_96 ml_RL_58 mi_yJ4_append_15ec4 (c_SBSK l D cI cB cL cO pf a vw5 capw5 ((cfg1 pf i) ++ tx 11 ++ [97 + i] ++ tx 12 ++ dg (i * stepN pf)) 12 (by decide) hAw5 gw5 zw5 (by have := sl_lenS 12 (by decide); first | omega | (have := hbw5; omega))) [(q, .inr (11, [.ref r, .int 0, .int 0, .int 0])), (r, .inl (cB, (cfg1 pf i).length, .inl (bN (cfg1 pf i))))] (permN [0, 1] [2, 3] 4 rfl rfl rfl (by decide)) (q0 := 0) rfl rfl rfl ⟨(Nat.le_of_ble_eq_true rfl), (Nat.le_of_ble_eq_true rfl)⟩ ⟨(by first | (dsimp only; omega) | omega), (by first | (dsimp only; omega) | omega)⟩ (Nat.le_of_ble_eq_true rfl) ?_
    rintro v w1 ⟨rfl, vw6, capw6, rfl, gw6, zw6⟩
    refine J_ws (ws2 := [(a, .inr (12, [.ref vw6, .int 0, .int 0, .int (nI ((cfg1 pf i) ++ tx 11 ++ [97 + i] ++ tx 12 ++ dg (i * stepN pf) ++ tx 12).length)])), (vw6, .inl (cB, capw6, .inl (bN ((cfg1 pf i) ++ tx 11 ++ [97 + i] ++ tx 12 ++ dg (i * stepN pf) ++ tx 12)))), (q, .inr (11, [.ref r, .int 0, .int 0, .int 0])), (r, .inl (cB, (cfg1 pf i).length, .inl (bN (cfg1 pf i))))]) rfl ?_
    refine J_aload_n (pc := 99) C dL_config_99 2 rfl ?_
    refine J_iload_n (pc := 100) C dL_config_100 0 rfl ?_
    refine J_csF (b := 0) (As := [.ref (pf 92), .int (nI i)]) (st := [.ref a]) (pc := 101) C dL_config_101 ml_RL_94 mi_yL_bonus (c_L_bonus l D cI cB cL cO pf 0 (nI i) (nI (bonusN pf i)) (e_bonus hL i)) [(a, .inr (12, [.ref vw6, .int 0, .int 0, .int (nI ((cfg1 pf i) ++ tx 11 ++ [97 + i] ++ tx 12 ++ dg (i * stepN pf) ++ tx 12).length)])), (vw6, .inl (cB, capw6, .inl (bN ((cfg1 pf i) ++ tx 11 ++ [97 + i] ++ tx 12 ++ dg (i * stepN pf) ++ tx 12)))), (q, .inr (11, [.ref r, .int 0, .int 0, .int 0])), (r, .inl (cB, (cfg1 pf i).length, .inl (bN (cfg1 pf i))))] (permN [] [0, 1, 2, 3] 4 rfl rfl rfl (by decide)) rfl ⟨(Nat.le_of_ble_eq_true rfl), (Nat.le_of_ble_eq_true rfl)⟩ ⟨(by first | (dsimp only; omega) | omega), (by first | (dsimp only; omega) | omega)⟩ (Nat.le_of_ble_eq_true rfl) ?_
    rintro v w1 ⟨rfl, rfl⟩
    refine J_ws (ws2 := [(a, .inr (12, [.ref vw6, .int 0, .int 0, .int (nI ((cfg1 pf i) ++ tx 11 ++ [97 + i] ++ tx 12 ++ dg (i * stepN pf) ++ tx 12).length)])), (vw6, .inl (cB, capw6, .inl (bN ((cfg1 pf i) ++ tx 11 ++ [97 + i] ++ tx 12 ++ dg (i * stepN pf) ++ tx 12)))), (q, .inr (11, [.ref r, .int 0, .int 0, .int 0])), (r, .inl (cB, (cfg1 pf i).length, .inl (bN (cfg1 pf i))))]) rfl ?_
    have hAw7 : AS ((cfg1 pf i) ++ tx 11 ++ [97 + i] ++ tx 12 ++ dg (i * stepN pf) ++ tx 12 ++ dg (bonusN pf i)) := AS_app hAw6 (dg_AS (by have := b_bonus (pf := pf) i; omega))
    have hbw7 : ((cfg1 pf i) ++ tx 11 ++ [97 + i] ++ tx 12 ++ dg (i * stepN pf) ++ tx 12 ++ dg (bonusN pf i)).length ≤ _ := l_app hbw6 (dg_len _)
    refine J_cvF (As := [.int (nI (bonusN pf i))]) (st := []) (pc := 104) C dL_config_104 ml_RL_64 mi_yJ4_append_bf812 (c_SBI l D cI cB cL cO pf a vw6 capw6 ((cfg1 pf i) ++ tx 11 ++ [97 + i] ++ tx 12 ++ dg (i * stepN pf) ++ tx 12) (bonusN pf i) (by have := b_bonus (pf := pf) i; omega) hAw6 gw6 zw6 (by have := hbw6; omega)) [(q, .inr (11, [.ref r, .int 0, .int 0, .int 0])), (r, .inl (cB, (cfg1 pf i).length, .inl (bN (cfg1 pf i))))] (permN [0, 1] [2, 3] 4 rfl rfl rfl (by decide)) (q0 := 0) rfl rfl rfl ⟨(Nat.le_of_ble_eq_true rfl), (Nat.le_of_ble_eq_true rfl)⟩ ⟨(by first | (dsimp only; omega) | omega), (by first | (dsimp only; omega) | omega)⟩ (Nat.le_of_ble_eq_true rfl) ?_
    rintro v w1 ⟨rfl, vw7, capw7, rfl, gw7, zw7⟩
    refine J_ws (ws2 := [(a, .inr (12, [.ref vw7, .int 0, .int 0, .int (nI ((cfg1 pf i) ++ tx 11 ++ [97 + i] ++ tx 12 ++ dg (i * stepN pf) ++ tx 12 ++ dg (bonusN pf i)).length)])), (vw7, .inl (cB, capw7, .inl (bN ((cfg1 pf i) ++ tx 11 ++ [97 + i] ++ tx 12 ++ dg (i * stepN pf) ++ tx 12 ++ dg (bonusN pf i))))), (q, .inr (11, [.ref r, .int 0, .int 0, .int 0])), (r, .inl (cB, (cfg1 pf i).length, .inl (bN (cfg1 pf i))))]) rfl ?_
    refine J_cvF (As := []) (st := []) (pc := 107) C dL_config_107 ml_RL_77 mi_yJ4_toString_0e30d (c_toS l D cI cB cL cO pf a vw7 capw7 ((cfg1 pf i) ++ tx 11 ++ [97 + i] ++ tx 12 ++ dg (i * stepN pf) ++ tx 12 ++ dg (bonusN pf i)) hAw7 gw7 zw7) [(q, .inr (11, [.ref r, .int 0, .int 0, .int 0])), (r, .inl (cB, (cfg1 pf i).length, .inl (bN (cfg1 pf i))))] (permN [0, 1] [2, 3] 4 rfl rfl rfl (by decide)) (q0 := 0) rfl rfl rfl ⟨(Nat.le_of_ble_eq_true rfl), (Nat.le_of_ble_eq_true rfl)⟩ ⟨(by first | (dsimp only; omega) | omega), (by first | (dsimp only; omega) | omega)⟩ (Nat.le_of_ble_eq_true rfl) ?_
    rintro v w1 ⟨q2, r2, rfl, rfl⟩
    refine J_ws (ws2 := [(q2, .inr (11, [.ref r2, .int 0, .int 0, .int 0])), (r2, .inl (cB, ((cfg1 pf i) ++ tx 11 ++ [97 + i] ++ tx 12 ++ dg (i * stepN pf) ++ tx 12 ++ dg (bonusN pf i)).length, .inl (bN ((cfg1 pf i) ++ tx 11 ++ [97 + i] ++ tx 12 ++ dg (i * stepN pf) ++ tx 12 ++ dg (bonusN pf i))))), (q, .inr (11, [.ref r, .int 0, .int 0, .int 0])), (r, .inl (cB, (cfg1 pf i).length, .inl (bN (cfg1 pf i))))]) rfl ?_
    refine J_drop (ws2 := [(q2, .inr (11, [.ref r2, .int 0, .int 0, .int 0])), (r2, .inl (cB, ((cfg1 pf i) ++ tx 11 ++ [97 + i] ++ tx 12 ++ dg (i * stepN pf) ++ tx 12 ++ dg (bonusN pf i)).length, .inl (bN ((cfg1 pf i) ++ tx 11 ++ [97 + i] ++ tx 12 ++ dg (i * stepN pf) ++ tx 12 ++ dg (bonusN pf i)))))]) (Wr := [(q, .inr (11, [.ref r, .int 0, .int 0, .int 0])), (r, .inl (cB, (cfg1 pf i).length, .inl (bN (cfg1 pf i))))]) (permN [0, 1] [2, 3] 4 rfl rfl rfl (by decide)) ?_
    refine J_ws (ws2 := [(q2, .inr (11, [.ref r2, .int 0, .int 0, .int 0])), (r2, .inl (cB, (cfg1 pf (i + 1)).length, .inl (bN (cfg1 pf (i + 1)))))]) (by rw [show cfg1 pf i ++ tx 11 ++ [97 + i] ++ tx 12 ++ dg (i * stepN pf) ++ tx 12 ++ dg (bonusN pf i) = cfg1 pf (i + 1) from (by show _ = cfg1 pf i ++ (tierT' pf i); unfold tierT'; simp only [List.append_assoc])]) ?_
    refine J_astore_n (lv2 := [(1, .ref q2), (2, .int (nI i)), (0, .ref (pf 92))]) (pc := 110) C dL_config_110 (by decide) rfl ?_
    refine J_iincK (v := (1 : Int32)) (x2 := nI (i + 1)) (lv2 := [(2, .int (nI (i + 1))), (1, .ref q2), (0, .ref (pf 92))]) (pc := 111) C dL_config_111 1 rfl (by decide) (nI_add i 1) (by decide) rfl ?_
    refine J_goto (tgt := 49) (pc := 114) C dL_config_114 (by decide) ?_
    refine J_widen (k2 := 10 + 11 * (i + 1)) (n2 := 28696 + 32792 * (i + 1)) (by first | omega | (dsimp only; omega)) (by first | omega | (dsimp only; omega)) ?_
    exact ih (i + 1) (by omega) _ _

set_option maxHeartbeats 4000000 in
set_option maxRecDepth 100000 in
theorem c_L_config (l : Launch) (D : va_G) (cI cB cL cO : ClassId) (pf : Nat → Nat) (hL : pf 93 < 2 ^ 31) : Ct l D [(cI, .int), (cB, .byte), (cL, .byte), (cO, .object RX0)] pf yL_config cL_config 3 (some (FieldType.object "java/lang/String")) { frames := 7, cells := 152, slots := 414104, locals := 192 } [.ref (pf 92)] [] (fun V w => ∃ q r, V = some (.ref q) ∧ w = [(q, .inr (11, [.ref r, .int 0, .int 0, .int 0])), (r, .inl (cB, (cfgT pf).length, .inl (bN (cfgT pf))))]) := by
  refine Ct_of (own := RL) (lv0 := [(0, .ref (pf 92))]) (by decide) rfl rfl (Nat.le_of_ble_eq_true rfl) ?_
  intro pZ eZ sZ mZ argsZ belowZ methZ cZ C hr hnm
  refine J_new (ci := 12) (fs := [.null, .int 0, .int 0, .int 0]) (pc := 0) C dL_config_0 jf_J4 clk_RL_53 ins_RJ4 ini_RJ4 rfl df_J4 ⟨(by first | (dsimp only; omega) | omega), (by first | (dsimp only; omega) | omega)⟩ (fun a => ?_)
  refine J_ws (ws2 := [(a, .inr (12, [.null, .int 0, .int 0, .int 0]))]) rfl ?_
  refine J_dupr (pc := 3) C dL_config_3 ?_
  refine J_ciF (As := []) (st := [.ref a]) (pc := 4) C dL_config_4 ml_RL_55 mi_yJ4_init_da8c8 (c_SBi l D cI cB cL cO pf a) [] (permN [0] [] 1 rfl rfl rfl (by decide)) rfl ⟨(Nat.le_of_ble_eq_true rfl), (Nat.le_of_ble_eq_true rfl)⟩ ⟨(by first | (dsimp only; omega) | omega), (by first | (dsimp only; omega) | omega)⟩ (Nat.le_of_ble_eq_true rfl) ?_
  rintro v w1 ⟨rfl, vw0, rfl⟩
  refine J_ws (ws2 := [(a, .inr (12, [.ref vw0, .int 0, .int 0, .int (nI [].length)])), (vw0, .inl (cB, 16, .inl (bN [])))]) rfl ?_
  refine J_ldcS (pc := 7) C dL_config_7 18 rfl ?_
  have hAw1 : AS (tx 8) := (tx_AS (i := 8) (by decide))
  have hbw1 : (tx 8).length ≤ _ := (tx_len11 8 (by decide))
  refine J_cvF (As := [.ref (pf 8)]) (st := []) (pc := 9) C dL_config_9 ml_RL_58 mi_yJ4_append_15ec4 (c_SBSK l D cI cB cL cO pf a vw0 16 [] 8 (by decide) AS_nil (by decide) (by decide) (by have := sl_lenS 8 (by decide); show 0 + _ ≤ _; omega)) [] (permN [0, 1] [] 2 rfl rfl rfl (by decide)) (q0 := 0) rfl rfl rfl ⟨(Nat.le_of_ble_eq_true rfl), (Nat.le_of_ble_eq_true rfl)⟩ ⟨(by first | (dsimp only; omega) | omega), (by first | (dsimp only; omega) | omega)⟩ (Nat.le_of_ble_eq_true rfl) ?_
  rintro v w1 ⟨rfl, vw1, capw1, rfl, gw1, zw1⟩
  refine J_ws (ws2 := [(a, .inr (12, [.ref vw1, .int 0, .int 0, .int (nI (tx 8).length)])), (vw1, .inl (cB, capw1, .inl (bN (tx 8))))]) rfl ?_
  refine J_aload_n (pc := 12) C dL_config_12 0 rfl ?_
  refine J_csF (b := 0) (As := [.ref (pf 92)]) (st := [.ref a]) (pc := 13) C dL_config_13 ml_RL_61 mi_yL_life (c_L_life l D cI cB cL cO pf 0 (nI (lifeN pf)) (e_life hL)) [(a, .inr (12, [.ref vw1, .int 0, .int 0, .int (nI (tx 8).length)])), (vw1, .inl (cB, capw1, .inl (bN (tx 8))))] (permN [] [0, 1] 2 rfl rfl rfl (by decide)) rfl ⟨(Nat.le_of_ble_eq_true rfl), (Nat.le_of_ble_eq_true rfl)⟩ ⟨(by first | (dsimp only; omega) | omega), (by first | (dsimp only; omega) | omega)⟩ (Nat.le_of_ble_eq_true rfl) ?_
  rintro v w1 ⟨rfl, rfl⟩
  refine J_ws (ws2 := [(a, .inr (12, [.ref vw1, .int 0, .int 0, .int (nI (tx 8).length)])), (vw1, .inl (cB, capw1, .inl (bN (tx 8))))]) rfl ?_
  have hAw2 : AS (tx 8 ++ dg (lifeN pf)) := AS_app hAw1 (dg_AS (by have := (b_life (pf := pf)).2; omega))
  have hbw2 : (tx 8 ++ dg (lifeN pf)).length ≤ _ := l_app hbw1 (dg_len _)
  refine J_cvF (As := [.int (nI (lifeN pf))]) (st := []) (pc := 16) C dL_config_16 ml_RL_64 mi_yJ4_append_bf812 (c_SBI l D cI cB cL cO pf a vw1 capw1 (tx 8) (lifeN pf) (by have := (b_life (pf := pf)).2; omega) hAw1 gw1 zw1 (by have := hbw1; omega)) [] (permN [0, 1] [] 2 rfl rfl rfl (by decide)) (q0 := 0) rfl rfl rfl ⟨(Nat.le_of_ble_eq_true rfl), (Nat.le_of_ble_eq_true rfl)⟩ ⟨(by first | (dsimp only; omega) | omega), (by first | (dsimp only; omega) | omega)⟩ (Nat.le_of_ble_eq_true rfl) ?_
  rintro v w1 ⟨rfl, vw2, capw2, rfl, gw2, zw2⟩
  refine J_ws (ws2 := [(a, .inr (12, [.ref vw2, .int 0, .int 0, .int (nI (tx 8 ++ dg (lifeN pf)).length)])), (vw2, .inl (cB, capw2, .inl (bN (tx 8 ++ dg (lifeN pf)))))]) rfl ?_
  refine J_ldcS (pc := 19) C dL_config_19 19 rfl ?_
  have hAw3 : AS (tx 8 ++ dg (lifeN pf) ++ tx 9) := AS_app hAw2 (tx_AS (i := 9) (by decide))
  have hbw3 : (tx 8 ++ dg (lifeN pf) ++ tx 9).length ≤ _ := l_app hbw2 (tx_len11 9 (by decide))
  refine J_cvF (As := [.ref (pf 9)]) (st := []) (pc := 21) C dL_config_21 ml_RL_58 mi_yJ4_append_15ec4 (c_SBSK l D cI cB cL cO pf a vw2 capw2 (tx 8 ++ dg (lifeN pf)) 9 (by decide) hAw2 gw2 zw2 (by have := sl_lenS 9 (by decide); first | omega | (have := hbw2; omega))) [] (permN [0, 1] [] 2 rfl rfl rfl (by decide)) (q0 := 0) rfl rfl rfl ⟨(Nat.le_of_ble_eq_true rfl), (Nat.le_of_ble_eq_true rfl)⟩ ⟨(by first | (dsimp only; omega) | omega), (by first | (dsimp only; omega) | omega)⟩ (Nat.le_of_ble_eq_true rfl) ?_
  rintro v w1 ⟨rfl, vw3, capw3, rfl, gw3, zw3⟩
  refine J_ws (ws2 := [(a, .inr (12, [.ref vw3, .int 0, .int 0, .int (nI (tx 8 ++ dg (lifeN pf) ++ tx 9).length)])), (vw3, .inl (cB, capw3, .inl (bN (tx 8 ++ dg (lifeN pf) ++ tx 9))))]) rfl ?_
  refine J_aload_n (pc := 24) C dL_config_24 0 rfl ?_
  refine J_csF (b := 0) (As := [.ref (pf 92)]) (st := [.ref a]) (pc := 25) C dL_config_25 ml_RL_69 mi_yL_window (c_L_window l D cI cB cL cO pf 0 (nI (winN pf)) (e_window hL)) [(a, .inr (12, [.ref vw3, .int 0, .int 0, .int (nI (tx 8 ++ dg (lifeN pf) ++ tx 9).length)])), (vw3, .inl (cB, capw3, .inl (bN (tx 8 ++ dg (lifeN pf) ++ tx 9))))] (permN [] [0, 1] 2 rfl rfl rfl (by decide)) rfl ⟨(Nat.le_of_ble_eq_true rfl), (Nat.le_of_ble_eq_true rfl)⟩ ⟨(by first | (dsimp only; omega) | omega), (by first | (dsimp only; omega) | omega)⟩ (Nat.le_of_ble_eq_true rfl) ?_
  rintro v w1 ⟨rfl, rfl⟩
  refine J_ws (ws2 := [(a, .inr (12, [.ref vw3, .int 0, .int 0, .int (nI (tx 8 ++ dg (lifeN pf) ++ tx 9).length)])), (vw3, .inl (cB, capw3, .inl (bN (tx 8 ++ dg (lifeN pf) ++ tx 9))))]) rfl ?_
  have hAw4 : AS (tx 8 ++ dg (lifeN pf) ++ tx 9 ++ dg (winN pf)) := AS_app hAw3 (dg_AS (by have := (b_win (pf := pf)).2; omega))
  have hbw4 : (tx 8 ++ dg (lifeN pf) ++ tx 9 ++ dg (winN pf)).length ≤ _ := l_app hbw3 (dg_len _)
  refine J_cvF (As := [.int (nI (winN pf))]) (st := []) (pc := 28) C dL_config_28 ml_RL_64 mi_yJ4_append_bf812 (c_SBI l D cI cB cL cO pf a vw3 capw3 (tx 8 ++ dg (lifeN pf) ++ tx 9) (winN pf) (by have := (b_win (pf := pf)).2; omega) hAw3 gw3 zw3 (by have := hbw3; omega)) [] (permN [0, 1] [] 2 rfl rfl rfl (by decide)) (q0 := 0) rfl rfl rfl ⟨(Nat.le_of_ble_eq_true rfl), (Nat.le_of_ble_eq_true rfl)⟩ ⟨(by first | (dsimp only; omega) | omega), (by first | (dsimp only; omega) | omega)⟩ (Nat.le_of_ble_eq_true rfl) ?_
  rintro v w1 ⟨rfl, vw4, capw4, rfl, gw4, zw4⟩
  refine J_ws (ws2 := [(a, .inr (12, [.ref vw4, .int 0, .int 0, .int (nI (tx 8 ++ dg (lifeN pf) ++ tx 9 ++ dg (winN pf)).length)])), (vw4, .inl (cB, capw4, .inl (bN (tx 8 ++ dg (lifeN pf) ++ tx 9 ++ dg (winN pf)))))]) rfl ?_
  refine J_ldcS (pc := 31) C dL_config_31 20 rfl ?_
  have hAw5 : AS (tx 8 ++ dg (lifeN pf) ++ tx 9 ++ dg (winN pf) ++ tx 10) := AS_app hAw4 (tx_AS (i := 10) (by decide))
  have hbw5 : (tx 8 ++ dg (lifeN pf) ++ tx 9 ++ dg (winN pf) ++ tx 10).length ≤ _ := l_app hbw4 (tx_len11 10 (by decide))
  refine J_cvF (As := [.ref (pf 10)]) (st := []) (pc := 33) C dL_config_33 ml_RL_58 mi_yJ4_append_15ec4 (c_SBSK l D cI cB cL cO pf a vw4 capw4 (tx 8 ++ dg (lifeN pf) ++ tx 9 ++ dg (winN pf)) 10 (by decide) hAw4 gw4 zw4 (by have := sl_lenS 10 (by decide); first | omega | (have := hbw4; omega))) [] (permN [0, 1] [] 2 rfl rfl rfl (by decide)) (q0 := 0) rfl rfl rfl ⟨(Nat.le_of_ble_eq_true rfl), (Nat.le_of_ble_eq_true rfl)⟩ ⟨(by first | (dsimp only; omega) | omega), (by first | (dsimp only; omega) | omega)⟩ (Nat.le_of_ble_eq_true rfl) ?_
  rintro v w1 ⟨rfl, vw5, capw5, rfl, gw5, zw5⟩
  refine J_ws (ws2 := [(a, .inr (12, [.ref vw5, .int 0, .int 0, .int (nI (tx 8 ++ dg (lifeN pf) ++ tx 9 ++ dg (winN pf) ++ tx 10).length)])), (vw5, .inl (cB, capw5, .inl (bN (tx 8 ++ dg (lifeN pf) ++ tx 9 ++ dg (winN pf) ++ tx 10))))]) rfl ?_
  refine J_aload_n (pc := 36) C dL_config_36 0 rfl ?_
  refine J_csF (b := 0) (As := [.ref (pf 92)]) (st := [.ref a]) (pc := 37) C dL_config_37 ml_RL_74 mi_yL_grace (c_L_grace l D cI cB cL cO pf 0 (nI (graceN pf)) (e_grace hL)) [(a, .inr (12, [.ref vw5, .int 0, .int 0, .int (nI (tx 8 ++ dg (lifeN pf) ++ tx 9 ++ dg (winN pf) ++ tx 10).length)])), (vw5, .inl (cB, capw5, .inl (bN (tx 8 ++ dg (lifeN pf) ++ tx 9 ++ dg (winN pf) ++ tx 10))))] (permN [] [0, 1] 2 rfl rfl rfl (by decide)) rfl ⟨(Nat.le_of_ble_eq_true rfl), (Nat.le_of_ble_eq_true rfl)⟩ ⟨(by first | (dsimp only; omega) | omega), (by first | (dsimp only; omega) | omega)⟩ (Nat.le_of_ble_eq_true rfl) ?_
  rintro v w1 ⟨rfl, rfl⟩
  refine J_ws (ws2 := [(a, .inr (12, [.ref vw5, .int 0, .int 0, .int (nI (tx 8 ++ dg (lifeN pf) ++ tx 9 ++ dg (winN pf) ++ tx 10).length)])), (vw5, .inl (cB, capw5, .inl (bN (tx 8 ++ dg (lifeN pf) ++ tx 9 ++ dg (winN pf) ++ tx 10))))]) rfl ?_
  have hAw6 : AS (tx 8 ++ dg (lifeN pf) ++ tx 9 ++ dg (winN pf) ++ tx 10 ++ dg (graceN pf)) := AS_app hAw5 (dg_AS (by have := b_grace (pf := pf); omega))
  have hbw6 : (tx 8 ++ dg (lifeN pf) ++ tx 9 ++ dg (winN pf) ++ tx 10 ++ dg (graceN pf)).length ≤ _ := l_app hbw5 (dg_len _)
  refine J_cvF (As := [.int (nI (graceN pf))]) (st := []) (pc := 40) C dL_config_40 ml_RL_64 mi_yJ4_append_bf812 (c_SBI l D cI cB cL cO pf a vw5 capw5 (tx 8 ++ dg (lifeN pf) ++ tx 9 ++ dg (winN pf) ++ tx 10) (graceN pf) (by have := b_grace (pf := pf); omega) hAw5 gw5 zw5 (by have := hbw5; omega)) [] (permN [0, 1] [] 2 rfl rfl rfl (by decide)) (q0 := 0) rfl rfl rfl ⟨(Nat.le_of_ble_eq_true rfl), (Nat.le_of_ble_eq_true rfl)⟩ ⟨(by first | (dsimp only; omega) | omega), (by first | (dsimp only; omega) | omega)⟩ (Nat.le_of_ble_eq_true rfl) ?_
  rintro v w1 ⟨rfl, vw6, capw6, rfl, gw6, zw6⟩
  refine J_ws (ws2 := [(a, .inr (12, [.ref vw6, .int 0, .int 0, .int (nI (tx 8 ++ dg (lifeN pf) ++ tx 9 ++ dg (winN pf) ++ tx 10 ++ dg (graceN pf)).length)])), (vw6, .inl (cB, capw6, .inl (bN (tx 8 ++ dg (lifeN pf) ++ tx 9 ++ dg (winN pf) ++ tx 10 ++ dg (graceN pf)))))]) rfl ?_
  refine J_cvF (As := []) (st := []) (pc := 43) C dL_config_43 ml_RL_77 mi_yJ4_toString_0e30d (c_toS l D cI cB cL cO pf a vw6 capw6 (tx 8 ++ dg (lifeN pf) ++ tx 9 ++ dg (winN pf) ++ tx 10 ++ dg (graceN pf)) hAw6 gw6 zw6) [] (permN [0, 1] [] 2 rfl rfl rfl (by decide)) (q0 := 0) rfl rfl rfl ⟨(Nat.le_of_ble_eq_true rfl), (Nat.le_of_ble_eq_true rfl)⟩ ⟨(by first | (dsimp only; omega) | omega), (by first | (dsimp only; omega) | omega)⟩ (Nat.le_of_ble_eq_true rfl) ?_
  rintro v w1 ⟨q, r, rfl, rfl⟩
  refine J_ws (ws2 := [(q, .inr (11, [.ref r, .int 0, .int 0, .int 0])), (r, .inl (cB, (tx 8 ++ dg (lifeN pf) ++ tx 9 ++ dg (winN pf) ++ tx 10 ++ dg (graceN pf)).length, .inl (bN (tx 8 ++ dg (lifeN pf) ++ tx 9 ++ dg (winN pf) ++ tx 10 ++ dg (graceN pf)))))]) rfl ?_
  refine J_drop (ws2 := [(q, .inr (11, [.ref r, .int 0, .int 0, .int 0])), (r, .inl (cB, (tx 8 ++ dg (lifeN pf) ++ tx 9 ++ dg (winN pf) ++ tx 10 ++ dg (graceN pf)).length, .inl (bN (tx 8 ++ dg (lifeN pf) ++ tx 9 ++ dg (winN pf) ++ tx 10 ++ dg (graceN pf)))))]) (Wr := []) (permN [0, 1] [] 2 rfl rfl rfl (by decide)) ?_
  refine J_astore_n (lv2 := [(1, .ref q), (0, .ref (pf 92))]) (pc := 46) C dL_config_46 (by decide) rfl ?_
  refine J_iconst (v := (0 : Int32)) (pc := 47) C dL_config_47 (by decide) ?_
  refine J_istore_n (lv2 := [(2, .int (0 : Int32)), (1, .ref q), (0, .ref (pf 92))]) (pc := 48) C dL_config_48 (by decide) rfl ?_
  refine J_widen (k2 := 10 + 11 * 0) (n2 := 28696 + 32792 * 0) (by first | omega | (dsimp only; omega)) (by first | omega | (dsimp only; omega)) ?_
  exact K_cfg49 C hr hL _ 0 (Nat.zero_add _) q r
