set_option maxHeartbeats 4000000 in
set_option maxRecDepth 100000 in
theorem K_threshold {p : Program} {l : Launch} {e : Env} {s : State} {m : MethodId} {below : List Frame} {meth : Method} {c : Code} {D : va_G} {cI cB cL cO : ClassId} {pf : Nat → Nat} {Q : State → Prop} {k n b L : Nat} {xs : Nat → Int32} {N : Nat} {A : Nat → Nat → Nat} {am : Nat → Nat} {ao : Nat} {i : Int32} {Rl : Nat → T_PL → T_MO → Prop} {st : T_PL} {mo : T_MO} {f : Nat → Int64} {kk : Nat} (C : jC p s m #[Value.ref b] meth c code 7 R_lawN D [(cI, .int), (cB, .byte), (cL, .long), (cO, .object RX0)] pf (fun q => s.heap.size ≤ q)) (hl : l.stackTraces = false) (hX : va_X b L xs s s.heap) (hbl : b < s.heap.size) (hbA : ¬ (fun q : Nat => s.heap.size ≤ q) b) (h1 : vp_in (i + (1 : Int32)) L) (h2 : vp_in (i + (2 : Int32)) L) (h3 : vp_in (i + (3 : Int32)) L) (h4 : vp_in (i + (4 : Int32)) L) (h5 : vp_in (i + (5 : Int32)) L) (hSt : (∀ x1 : Int32, StA Rl (fun s f => W_threshold N s f x1) (fun m => F_M_threshold N m x1))) (hk : kk < 512) (hR : Rl kk st mo) (hkn : k + 4 ≤ room_1.cells ∧ n + 24 ≤ room_1.slots) (kx : ∀ st2 mo2 f2, Rl (kk + 1) st2 mo2 → J p l e room_1 s m #[Value.ref b] below meth c 7 D (fun q => s.heap.size ≤ q) Q (k + 4) (n + 24) 3187 [(4, .int i), (3, .ref ao), (2, .ref (am 0)), (1, .ref (A 0 0)), (0, .ref b)] [] (List.flatten [wPL cI cB cO A st2, wMO cI cB am mo2, [(ao, .inl (cL, 1, .inr (.inl f2)))]])) : J p l e room_1 s m #[Value.ref b] below meth c 7 D (fun q => s.heap.size ≤ q) Q (k) (n) 1117 [(4, .int i), (3, .ref ao), (2, .ref (am 0)), (1, .ref (A 0 0)), (0, .ref b)] [] (List.flatten [wPL cI cB cO A st, wMO cI cB am mo, [(ao, .inl (cL, 1, .inr (.inl f)))]]) := by
  refine J_aload_n (pc := 1117) C dlw_1117 3 rfl ?_
  refine J_aload_n (pc := 1118) C dlw_1118 4 rfl ?_
  refine J_iload (pc := 1119) C dlw_1119 0 rfl ?_
  refine J_iconst (v := (1 : Int32)) (pc := 1121) C dlw_1121 (by decide) ?_
  refine J_iadd (pc := 1122) C dlw_1122 ?_
  refine J_sld C hX hbl hbA (pc := 1123) dlw_1123 h1 ?_
  refine J_aload_n (pc := 1124) C dlw_1124 1 rfl ?_
  obtain ⟨o1, o2, e1, e2, hth, hval, hRn⟩ := hSt (xs (i + (1 : Int32)).toNatClampNeg) kk st mo f hk hR
  refine J_csH (pc := 1125) (As := [.ref (A 0 0), .int (xs (i + (1 : Int32)).toNatClampNeg), .ref ao]) (st := []) C dlw_1125 ml_L_217 wh_threshold (V_threshold l hl D cI cB cL cO pf N A ao st f (xs (i + (1 : Int32)).toNatClampNeg) o1 e1) (List.flatten [wMO cI cB am mo]) (seg_split (segs := [wPL cI cB cO A st, wMO cI cB am mo, [(ao, .inl (cL, 1, .inr (.inl f)))]]) (Wc := [wPL cI cB cO A st, [(ao, .inl (cL, 1, .inr (.inl f)))]]) (Wr := [wMO cI cB am mo]) [0, 2] [1] rfl rfl 3 rfl (by decide)) rfl ⟨(Nat.le_of_ble_eq_true rfl), (Nat.le_of_ble_eq_true rfl)⟩ ⟨Nat.le_trans (Nat.add_le_add_left (Nat.le_of_ble_eq_true rfl) _) hkn.1, Nat.le_trans (Nat.add_le_add_left (Nat.le_of_ble_eq_true rfl) _) hkn.2⟩ (Nat.le_of_ble_eq_true rfl) ?_
  rintro v w1 ⟨rfl, rfl⟩
  refine J_perm (ws2 := (List.flatten [wPL cI cB cO A o1.2.1, wMO cI cB am mo, [(ao, .inl (cL, 1, .inr (.inl o1.2.2)))]])) (seg_split (segs := [wPL cI cB cO A o1.2.1, wMO cI cB am mo, [(ao, .inl (cL, 1, .inr (.inl o1.2.2)))]]) (Wc := [wPL cI cB cO A o1.2.1, [(ao, .inl (cL, 1, .inr (.inl o1.2.2)))]]) (Wr := [wMO cI cB am mo]) [0, 2] [1] rfl rfl 3 rfl (by decide)).symm ?_
  refine J_widen (k2 := k + 4) (n2 := n + 24) (Nat.add_le_add_left (Nat.le_of_ble_eq_true rfl) _) (Nat.add_le_add_left (Nat.le_of_ble_eq_true rfl) _) ?_
  refine J_istore (lv2 := [(5, .int o1.1), (4, .int i), (3, .ref ao), (2, .ref (am 0)), (1, .ref (A 0 0)), (0, .ref b)]) (pc := 1128) C dlw_1128 (by decide) rfl ?_
  refine J_aload_n (pc := 1130) C dlw_1130 3 rfl ?_
  refine J_aload_n (pc := 1131) C dlw_1131 5 rfl ?_
  refine J_iload (pc := 1132) C dlw_1132 1 rfl ?_
  refine J_iconst (v := (1 : Int32)) (pc := 1134) C dlw_1134 (by decide) ?_
  refine J_iadd (pc := 1135) C dlw_1135 ?_
  refine J_sld C hX hbl hbA (pc := 1136) dlw_1136 h1 ?_
  refine J_cvF (pc := 1137) (As := [.int (xs (i + (1 : Int32)).toNatClampNeg)]) (st := []) C dlw_1137 ml_L_219 mi_yX11_threshold (C_M_threshold l D cI cB cL cO pf N am mo (xs (i + (1 : Int32)).toNatClampNeg) o2 e2) (List.flatten [wPL cI cB cO A o1.2.1, [(ao, .inl (cL, 1, .inr (.inl o1.2.2)))]]) (seg_split (segs := [wPL cI cB cO A o1.2.1, wMO cI cB am mo, [(ao, .inl (cL, 1, .inr (.inl o1.2.2)))]]) (Wc := [wMO cI cB am mo]) (Wr := [wPL cI cB cO A o1.2.1, [(ao, .inl (cL, 1, .inr (.inl o1.2.2)))]]) [1] [0, 2] rfl rfl 3 rfl (by decide)) (q0 := 0) rfl rfl rfl ⟨(Nat.le_of_ble_eq_true rfl), (Nat.le_of_ble_eq_true rfl)⟩ hkn (Nat.le_of_ble_eq_true rfl) ?_
  rintro v w1 ⟨rfl, rfl⟩
  refine J_perm (ws2 := (List.flatten [wPL cI cB cO A o1.2.1, wMO cI cB am o2.2, [(ao, .inl (cL, 1, .inr (.inl o1.2.2)))]])) (seg_split (segs := [wPL cI cB cO A o1.2.1, wMO cI cB am o2.2, [(ao, .inl (cL, 1, .inr (.inl o1.2.2)))]]) (Wc := [wMO cI cB am o2.2]) (Wr := [wPL cI cB cO A o1.2.1, [(ao, .inl (cL, 1, .inr (.inl o1.2.2)))]]) [1] [0, 2] rfl rfl 3 rfl (by decide)).symm ?_
  refine J_istore (lv2 := [(6, .int o2.1), (5, .int o1.1), (4, .int i), (3, .ref ao), (2, .ref (am 0)), (1, .ref (A 0 0)), (0, .ref b)]) (pc := 1140) C dlw_1140 (by decide) rfl ?_
  refine J_aload_n (pc := 1142) C dlw_1142 4 rfl ?_
  refine J_cvF (pc := 1143) (As := []) (st := []) C dlw_1143 ml_L_170 mi_yX11_thrown (C_M_thrown l D cI cB cL cO pf N am o2.2 o2.2.1 rfl) (List.flatten [wPL cI cB cO A o1.2.1, [(ao, .inl (cL, 1, .inr (.inl o1.2.2)))]]) (seg_split (segs := [wPL cI cB cO A o1.2.1, wMO cI cB am o2.2, [(ao, .inl (cL, 1, .inr (.inl o1.2.2)))]]) (Wc := [wMO cI cB am o2.2]) (Wr := [wPL cI cB cO A o1.2.1, [(ao, .inl (cL, 1, .inr (.inl o1.2.2)))]]) [1] [0, 2] rfl rfl 3 rfl (by decide)) (q0 := 0) rfl rfl rfl ⟨(Nat.le_of_ble_eq_true rfl), (Nat.le_of_ble_eq_true rfl)⟩ hkn (Nat.le_of_ble_eq_true rfl) ?_
  rintro v w1 ⟨rfl, rfl⟩
  refine J_perm (ws2 := (List.flatten [wPL cI cB cO A o1.2.1, wMO cI cB am o2.2, [(ao, .inl (cL, 1, .inr (.inl o1.2.2)))]])) (seg_split (segs := [wPL cI cB cO A o1.2.1, wMO cI cB am o2.2, [(ao, .inl (cL, 1, .inr (.inl o1.2.2)))]]) (Wc := [wMO cI cB am o2.2]) (Wr := [wPL cI cB cO A o1.2.1, [(ao, .inl (cL, 1, .inr (.inl o1.2.2)))]]) [1] [0, 2] rfl rfl 3 rfl (by decide)).symm ?_
  refine J_iload (pc := 1146) C dlw_1146 1 rfl ?_
  refine J_ic_eq (α := Unit) (o := ()) (X := some ()) (Y := none) (pc := 1148) (tgt := 1153) C dlw_1148 (by decide) (if_pos hth) (fun _ => ?_) (fun h => by cases h)
  refine J_iload (pc := 1153) C dlw_1153 1 rfl ?_
  by_cases h0 : o1.1 = 0
  · refine J_if_ne (α := Unit) (o := ()) (X := some ()) (Y := none) (pc := 1155) (tgt := 1170) C dlw_1155 (by decide) (if_pos h0) (fun h => by cases h) (fun _ => ?_)
    refine J_aload_n (pc := 1158) C dlw_1158 3 rfl ?_
    refine J_iconst (v := (0 : Int32)) (pc := 1159) C dlw_1159 (by decide) ?_
    refine J_perm (ws2 := [(ao, .inl (cL, 1, .inr (.inl o1.2.2)))] ++ List.flatten [wPL cI cB cO A o1.2.1, wMO cI cB am o2.2]) (by simpa using seg_split (segs := [wPL cI cB cO A o1.2.1, wMO cI cB am o2.2, [(ao, .inl (cL, 1, .inr (.inl o1.2.2)))]]) (Wc := [[(ao, .inl (cL, 1, .inr (.inl o1.2.2)))]]) (Wr := [wPL cI cB cO A o1.2.1, wMO cI cB am o2.2]) [2] [0, 1] rfl rfl 3 rfl (by decide)) ?_
    refine J_lald (pc := 1160) C dlw_1160 0 2 (rfl : ([(ao, .inl (cL, 1, .inr (.inl o1.2.2)))] ++ List.flatten [wPL cI cB cO A o1.2.1, wMO cI cB am o2.2] : va_W)[0]? = some (ao, .inl (cL, 1, .inr (.inl o1.2.2)))) rfl (by unfold vp_in; decide) ?_
    refine J_perm (ws2 := (List.flatten [wPL cI cB cO A o1.2.1, wMO cI cB am o2.2, [(ao, .inl (cL, 1, .inr (.inl o1.2.2)))]])) (by simpa using (seg_split (segs := [wPL cI cB cO A o1.2.1, wMO cI cB am o2.2, [(ao, .inl (cL, 1, .inr (.inl o1.2.2)))]]) (Wc := [[(ao, .inl (cL, 1, .inr (.inl o1.2.2)))]]) (Wr := [wPL cI cB cO A o1.2.1, wMO cI cB am o2.2]) [2] [0, 1] rfl rfl 3 rfl (by decide)).symm) ?_
    refine J_iload (pc := 1161) C dlw_1161 0 rfl ?_
    refine J_i2l (pc := 1163) C dlw_1163 ?_
    refine J_lcmp (pc := 1164) C dlw_1164 ?_
    refine J_if_eq (α := Unit) (o := ()) (X := some ()) (Y := none) (pc := 1165) (tgt := 1170) C dlw_1165 (by decide) (if_pos (by have hv := hval h0; rw [show (0 : Int32).toNatClampNeg = 0 from rfl, hv]; exact lg_cmp_self _)) (fun _ => ?_) (fun h => by cases h)
    refine J_goto (tgt := 3187) (pc := 1170) C dlw_1170 (by decide) ?_
    refine J_sub (lv2 := [(4, .int i), (3, .ref ao), (2, .ref (am 0)), (1, .ref (A 0 0)), (0, .ref b)]) [2, 3, 4, 5, 6] rfl ?_
    exact kx _ _ _ hRn
  · refine J_if_ne (α := Unit) (o := ()) (X := none) (Y := some ()) (pc := 1155) (tgt := 1170) C dlw_1155 (by decide) (if_neg h0) (fun _ => ?_) (fun h => by cases h)
    refine J_goto (tgt := 3187) (pc := 1170) C dlw_1170 (by decide) ?_
    refine J_sub (lv2 := [(4, .int i), (3, .ref ao), (2, .ref (am 0)), (1, .ref (A 0 0)), (0, .ref b)]) [2, 3, 4, 5, 6] rfl ?_
    exact kx _ _ _ hRn
set_option maxHeartbeats 4000000 in
set_option maxRecDepth 100000 in
theorem K_extras {p : Program} {l : Launch} {e : Env} {s : State} {m : MethodId} {below : List Frame} {meth : Method} {c : Code} {D : va_G} {cI cB cL cO : ClassId} {pf : Nat → Nat} {Q : State → Prop} {k n b L : Nat} {xs : Nat → Int32} {N : Nat} {A : Nat → Nat → Nat} {am : Nat → Nat} {ao : Nat} {i : Int32} {Rl : Nat → T_PL → T_MO → Prop} {st : T_PL} {mo : T_MO} {f : Nat → Int64} {kk : Nat} (C : jC p s m #[Value.ref b] meth c code 7 R_lawN D [(cI, .int), (cB, .byte), (cL, .long), (cO, .object RX0)] pf (fun q => s.heap.size ≤ q)) (hl : l.stackTraces = false) (hX : va_X b L xs s s.heap) (hbl : b < s.heap.size) (hbA : ¬ (fun q : Nat => s.heap.size ≤ q) b) (h1 : vp_in (i + (1 : Int32)) L) (h2 : vp_in (i + (2 : Int32)) L) (h3 : vp_in (i + (3 : Int32)) L) (h4 : vp_in (i + (4 : Int32)) L) (h5 : vp_in (i + (5 : Int32)) L) (hSt : (∀ x1 : Int32, ∀ x2 : Int32, StA Rl (fun s f => W_extras N s f x1 x2) (fun m => F_M_extras N m x1 x2))) (hk : kk < 512) (hR : Rl kk st mo) (hkn : k + 4 ≤ room_1.cells ∧ n + 24 ≤ room_1.slots) (kx : ∀ st2 mo2 f2, Rl (kk + 1) st2 mo2 → J p l e room_1 s m #[Value.ref b] below meth c 7 D (fun q => s.heap.size ≤ q) Q (k + 4) (n + 24) 3187 [(4, .int i), (3, .ref ao), (2, .ref (am 0)), (1, .ref (A 0 0)), (0, .ref b)] [] (List.flatten [wPL cI cB cO A st2, wMO cI cB am mo2, [(ao, .inl (cL, 1, .inr (.inl f2)))]])) : J p l e room_1 s m #[Value.ref b] below meth c 7 D (fun q => s.heap.size ≤ q) Q (k) (n) 1173 [(4, .int i), (3, .ref ao), (2, .ref (am 0)), (1, .ref (A 0 0)), (0, .ref b)] [] (List.flatten [wPL cI cB cO A st, wMO cI cB am mo, [(ao, .inl (cL, 1, .inr (.inl f)))]]) := by
  refine J_aload_n (pc := 1173) C dlw_1173 3 rfl ?_
  refine J_aload_n (pc := 1174) C dlw_1174 4 rfl ?_
  refine J_iload (pc := 1175) C dlw_1175 0 rfl ?_
  refine J_iconst (v := (1 : Int32)) (pc := 1177) C dlw_1177 (by decide) ?_
  refine J_iadd (pc := 1178) C dlw_1178 ?_
  refine J_sld C hX hbl hbA (pc := 1179) dlw_1179 h1 ?_
  refine J_aload_n (pc := 1180) C dlw_1180 4 rfl ?_
  refine J_iload (pc := 1181) C dlw_1181 0 rfl ?_
  refine J_iconst (v := (2 : Int32)) (pc := 1183) C dlw_1183 (by decide) ?_
  refine J_iadd (pc := 1184) C dlw_1184 ?_
  refine J_sld C hX hbl hbA (pc := 1185) dlw_1185 h2 ?_
  refine J_aload_n (pc := 1186) C dlw_1186 1 rfl ?_
  obtain ⟨o1, o2, e1, e2, hth, hval, hRn⟩ := hSt (xs (i + (1 : Int32)).toNatClampNeg) (xs (i + (2 : Int32)).toNatClampNeg) kk st mo f hk hR
  refine J_csH (pc := 1187) (As := [.ref (A 0 0), .int (xs (i + (1 : Int32)).toNatClampNeg), .int (xs (i + (2 : Int32)).toNatClampNeg), .ref ao]) (st := []) C dlw_1187 ml_L_220 wh_extras (V_extras l hl D cI cB cL cO pf N A ao st f (xs (i + (1 : Int32)).toNatClampNeg) (xs (i + (2 : Int32)).toNatClampNeg) o1 e1) (List.flatten [wMO cI cB am mo]) (seg_split (segs := [wPL cI cB cO A st, wMO cI cB am mo, [(ao, .inl (cL, 1, .inr (.inl f)))]]) (Wc := [wPL cI cB cO A st, [(ao, .inl (cL, 1, .inr (.inl f)))]]) (Wr := [wMO cI cB am mo]) [0, 2] [1] rfl rfl 3 rfl (by decide)) rfl ⟨(Nat.le_of_ble_eq_true rfl), (Nat.le_of_ble_eq_true rfl)⟩ ⟨Nat.le_trans (Nat.add_le_add_left (Nat.le_of_ble_eq_true rfl) _) hkn.1, Nat.le_trans (Nat.add_le_add_left (Nat.le_of_ble_eq_true rfl) _) hkn.2⟩ (Nat.le_of_ble_eq_true rfl) ?_
  rintro v w1 ⟨rfl, rfl⟩
  refine J_perm (ws2 := (List.flatten [wPL cI cB cO A o1.2.1, wMO cI cB am mo, [(ao, .inl (cL, 1, .inr (.inl o1.2.2)))]])) (seg_split (segs := [wPL cI cB cO A o1.2.1, wMO cI cB am mo, [(ao, .inl (cL, 1, .inr (.inl o1.2.2)))]]) (Wc := [wPL cI cB cO A o1.2.1, [(ao, .inl (cL, 1, .inr (.inl o1.2.2)))]]) (Wr := [wMO cI cB am mo]) [0, 2] [1] rfl rfl 3 rfl (by decide)).symm ?_
  refine J_widen (k2 := k + 4) (n2 := n + 24) (Nat.add_le_add_left (Nat.le_of_ble_eq_true rfl) _) (Nat.add_le_add_left (Nat.le_of_ble_eq_true rfl) _) ?_
  refine J_istore (lv2 := [(5, .int o1.1), (4, .int i), (3, .ref ao), (2, .ref (am 0)), (1, .ref (A 0 0)), (0, .ref b)]) (pc := 1190) C dlw_1190 (by decide) rfl ?_
  refine J_aload_n (pc := 1192) C dlw_1192 3 rfl ?_
  refine J_aload_n (pc := 1193) C dlw_1193 5 rfl ?_
  refine J_iload (pc := 1194) C dlw_1194 1 rfl ?_
  refine J_iconst (v := (1 : Int32)) (pc := 1196) C dlw_1196 (by decide) ?_
  refine J_iadd (pc := 1197) C dlw_1197 ?_
  refine J_sld C hX hbl hbA (pc := 1198) dlw_1198 h1 ?_
  refine J_aload_n (pc := 1199) C dlw_1199 5 rfl ?_
  refine J_iload (pc := 1200) C dlw_1200 1 rfl ?_
  refine J_iconst (v := (2 : Int32)) (pc := 1202) C dlw_1202 (by decide) ?_
  refine J_iadd (pc := 1203) C dlw_1203 ?_
  refine J_sld C hX hbl hbA (pc := 1204) dlw_1204 h2 ?_
  refine J_cvF (pc := 1205) (As := [.int (xs (i + (1 : Int32)).toNatClampNeg), .int (xs (i + (2 : Int32)).toNatClampNeg)]) (st := []) C dlw_1205 ml_L_222 mi_yX11_extras (C_M_extras l D cI cB cL cO pf N am mo (xs (i + (1 : Int32)).toNatClampNeg) (xs (i + (2 : Int32)).toNatClampNeg) o2 e2) (List.flatten [wPL cI cB cO A o1.2.1, [(ao, .inl (cL, 1, .inr (.inl o1.2.2)))]]) (seg_split (segs := [wPL cI cB cO A o1.2.1, wMO cI cB am mo, [(ao, .inl (cL, 1, .inr (.inl o1.2.2)))]]) (Wc := [wMO cI cB am mo]) (Wr := [wPL cI cB cO A o1.2.1, [(ao, .inl (cL, 1, .inr (.inl o1.2.2)))]]) [1] [0, 2] rfl rfl 3 rfl (by decide)) (q0 := 0) rfl rfl rfl ⟨(Nat.le_of_ble_eq_true rfl), (Nat.le_of_ble_eq_true rfl)⟩ hkn (Nat.le_of_ble_eq_true rfl) ?_
  rintro v w1 ⟨rfl, rfl⟩
  refine J_perm (ws2 := (List.flatten [wPL cI cB cO A o1.2.1, wMO cI cB am o2.2, [(ao, .inl (cL, 1, .inr (.inl o1.2.2)))]])) (seg_split (segs := [wPL cI cB cO A o1.2.1, wMO cI cB am o2.2, [(ao, .inl (cL, 1, .inr (.inl o1.2.2)))]]) (Wc := [wMO cI cB am o2.2]) (Wr := [wPL cI cB cO A o1.2.1, [(ao, .inl (cL, 1, .inr (.inl o1.2.2)))]]) [1] [0, 2] rfl rfl 3 rfl (by decide)).symm ?_
  refine J_istore (lv2 := [(6, .int o2.1), (5, .int o1.1), (4, .int i), (3, .ref ao), (2, .ref (am 0)), (1, .ref (A 0 0)), (0, .ref b)]) (pc := 1208) C dlw_1208 (by decide) rfl ?_
  refine J_aload_n (pc := 1210) C dlw_1210 4 rfl ?_
  refine J_cvF (pc := 1211) (As := []) (st := []) C dlw_1211 ml_L_170 mi_yX11_thrown (C_M_thrown l D cI cB cL cO pf N am o2.2 o2.2.1 rfl) (List.flatten [wPL cI cB cO A o1.2.1, [(ao, .inl (cL, 1, .inr (.inl o1.2.2)))]]) (seg_split (segs := [wPL cI cB cO A o1.2.1, wMO cI cB am o2.2, [(ao, .inl (cL, 1, .inr (.inl o1.2.2)))]]) (Wc := [wMO cI cB am o2.2]) (Wr := [wPL cI cB cO A o1.2.1, [(ao, .inl (cL, 1, .inr (.inl o1.2.2)))]]) [1] [0, 2] rfl rfl 3 rfl (by decide)) (q0 := 0) rfl rfl rfl ⟨(Nat.le_of_ble_eq_true rfl), (Nat.le_of_ble_eq_true rfl)⟩ hkn (Nat.le_of_ble_eq_true rfl) ?_
  rintro v w1 ⟨rfl, rfl⟩
  refine J_perm (ws2 := (List.flatten [wPL cI cB cO A o1.2.1, wMO cI cB am o2.2, [(ao, .inl (cL, 1, .inr (.inl o1.2.2)))]])) (seg_split (segs := [wPL cI cB cO A o1.2.1, wMO cI cB am o2.2, [(ao, .inl (cL, 1, .inr (.inl o1.2.2)))]]) (Wc := [wMO cI cB am o2.2]) (Wr := [wPL cI cB cO A o1.2.1, [(ao, .inl (cL, 1, .inr (.inl o1.2.2)))]]) [1] [0, 2] rfl rfl 3 rfl (by decide)).symm ?_
  refine J_iload (pc := 1214) C dlw_1214 1 rfl ?_
  refine J_ic_eq (α := Unit) (o := ()) (X := some ()) (Y := none) (pc := 1216) (tgt := 1221) C dlw_1216 (by decide) (if_pos hth) (fun _ => ?_) (fun h => by cases h)
  refine J_iload (pc := 1221) C dlw_1221 1 rfl ?_
  by_cases h0 : o1.1 = 0
  · refine J_if_ne (α := Unit) (o := ()) (X := some ()) (Y := none) (pc := 1223) (tgt := 1238) C dlw_1223 (by decide) (if_pos h0) (fun h => by cases h) (fun _ => ?_)
    refine J_aload_n (pc := 1226) C dlw_1226 3 rfl ?_
    refine J_iconst (v := (0 : Int32)) (pc := 1227) C dlw_1227 (by decide) ?_
    refine J_perm (ws2 := [(ao, .inl (cL, 1, .inr (.inl o1.2.2)))] ++ List.flatten [wPL cI cB cO A o1.2.1, wMO cI cB am o2.2]) (by simpa using seg_split (segs := [wPL cI cB cO A o1.2.1, wMO cI cB am o2.2, [(ao, .inl (cL, 1, .inr (.inl o1.2.2)))]]) (Wc := [[(ao, .inl (cL, 1, .inr (.inl o1.2.2)))]]) (Wr := [wPL cI cB cO A o1.2.1, wMO cI cB am o2.2]) [2] [0, 1] rfl rfl 3 rfl (by decide)) ?_
    refine J_lald (pc := 1228) C dlw_1228 0 2 (rfl : ([(ao, .inl (cL, 1, .inr (.inl o1.2.2)))] ++ List.flatten [wPL cI cB cO A o1.2.1, wMO cI cB am o2.2] : va_W)[0]? = some (ao, .inl (cL, 1, .inr (.inl o1.2.2)))) rfl (by unfold vp_in; decide) ?_
    refine J_perm (ws2 := (List.flatten [wPL cI cB cO A o1.2.1, wMO cI cB am o2.2, [(ao, .inl (cL, 1, .inr (.inl o1.2.2)))]])) (by simpa using (seg_split (segs := [wPL cI cB cO A o1.2.1, wMO cI cB am o2.2, [(ao, .inl (cL, 1, .inr (.inl o1.2.2)))]]) (Wc := [[(ao, .inl (cL, 1, .inr (.inl o1.2.2)))]]) (Wr := [wPL cI cB cO A o1.2.1, wMO cI cB am o2.2]) [2] [0, 1] rfl rfl 3 rfl (by decide)).symm) ?_
    refine J_iload (pc := 1229) C dlw_1229 0 rfl ?_
    refine J_i2l (pc := 1231) C dlw_1231 ?_
    refine J_lcmp (pc := 1232) C dlw_1232 ?_
    refine J_if_eq (α := Unit) (o := ()) (X := some ()) (Y := none) (pc := 1233) (tgt := 1238) C dlw_1233 (by decide) (if_pos (by have hv := hval h0; rw [show (0 : Int32).toNatClampNeg = 0 from rfl, hv]; exact lg_cmp_self _)) (fun _ => ?_) (fun h => by cases h)
    refine J_goto (tgt := 3187) (pc := 1238) C dlw_1238 (by decide) ?_
    refine J_sub (lv2 := [(4, .int i), (3, .ref ao), (2, .ref (am 0)), (1, .ref (A 0 0)), (0, .ref b)]) [2, 3, 4, 5, 6] rfl ?_
    exact kx _ _ _ hRn
  · refine J_if_ne (α := Unit) (o := ()) (X := none) (Y := some ()) (pc := 1223) (tgt := 1238) C dlw_1223 (by decide) (if_neg h0) (fun _ => ?_) (fun h => by cases h)
    refine J_goto (tgt := 3187) (pc := 1238) C dlw_1238 (by decide) ?_
    refine J_sub (lv2 := [(4, .int i), (3, .ref ao), (2, .ref (am 0)), (1, .ref (A 0 0)), (0, .ref b)]) [2, 3, 4, 5, 6] rfl ?_
    exact kx _ _ _ hRn
set_option maxHeartbeats 4000000 in
set_option maxRecDepth 100000 in
theorem K_today {p : Program} {l : Launch} {e : Env} {s : State} {m : MethodId} {below : List Frame} {meth : Method} {c : Code} {D : va_G} {cI cB cL cO : ClassId} {pf : Nat → Nat} {Q : State → Prop} {k n b L : Nat} {xs : Nat → Int32} {N : Nat} {A : Nat → Nat → Nat} {am : Nat → Nat} {ao : Nat} {i : Int32} {Rl : Nat → T_PL → T_MO → Prop} {st : T_PL} {mo : T_MO} {f : Nat → Int64} {kk : Nat} (C : jC p s m #[Value.ref b] meth c code 7 R_lawN D [(cI, .int), (cB, .byte), (cL, .long), (cO, .object RX0)] pf (fun q => s.heap.size ≤ q)) (hl : l.stackTraces = false) (hX : va_X b L xs s s.heap) (hbl : b < s.heap.size) (hbA : ¬ (fun q : Nat => s.heap.size ≤ q) b) (h1 : vp_in (i + (1 : Int32)) L) (h2 : vp_in (i + (2 : Int32)) L) (h3 : vp_in (i + (3 : Int32)) L) (h4 : vp_in (i + (4 : Int32)) L) (h5 : vp_in (i + (5 : Int32)) L) (hSt : (StB Rl (fun s => P_today N s) (fun m => F_M_today N m))) (hk : kk < 512) (hR : Rl kk st mo) (hkn : k + 4 ≤ room_1.cells ∧ n + 24 ≤ room_1.slots) (kx : ∀ st2 mo2 f2, Rl (kk + 1) st2 mo2 → J p l e room_1 s m #[Value.ref b] below meth c 7 D (fun q => s.heap.size ≤ q) Q (k + 4) (n + 24) 3187 [(4, .int i), (3, .ref ao), (2, .ref (am 0)), (1, .ref (A 0 0)), (0, .ref b)] [] (List.flatten [wPL cI cB cO A st2, wMO cI cB am mo2, [(ao, .inl (cL, 1, .inr (.inl f2)))]])) : J p l e room_1 s m #[Value.ref b] below meth c 7 D (fun q => s.heap.size ≤ q) Q (k) (n) 1241 [(4, .int i), (3, .ref ao), (2, .ref (am 0)), (1, .ref (A 0 0)), (0, .ref b)] [] (List.flatten [wPL cI cB cO A st, wMO cI cB am mo, [(ao, .inl (cL, 1, .inr (.inl f)))]]) := by
  refine J_aload_n (pc := 1241) C dlw_1241 3 rfl ?_
  obtain ⟨o1, o2, e1, e2, hth, hRn⟩ := hSt kk st mo hk hR
  refine J_cvF (pc := 1242) (As := []) (st := []) C dlw_1242 ml_L_223 mi_yX10_today (Q_today l D cI cB cL cO pf N A st o1 e1) (List.flatten [wMO cI cB am mo, [(ao, .inl (cL, 1, .inr (.inl f)))]]) (List.Perm.refl _) at_this rfl rfl ⟨(Nat.le_of_ble_eq_true rfl), (Nat.le_of_ble_eq_true rfl)⟩ ⟨Nat.le_trans (Nat.le_add_right _ 4) hkn.1, Nat.le_trans (Nat.le_add_right _ 24) hkn.2⟩ (Nat.le_of_ble_eq_true rfl) ?_
  rintro v w1 ⟨rfl, rfl⟩
  refine J_ws (ws2 := (List.flatten [wPL cI cB cO A o1.2, wMO cI cB am mo, [(ao, .inl (cL, 1, .inr (.inl f)))]])) rfl ?_
  refine J_widen (k2 := k + 4) (n2 := n + 24) (Nat.le_add_right _ 4) (Nat.le_add_right _ 24) ?_
  refine J_aload_n (pc := 1245) C dlw_1245 2 rfl ?_
  refine J_cvF (pc := 1246) (As := []) (st := [.int o1.1]) C dlw_1246 ml_L_226 mi_yX11_today (C_M_today l D cI cB cL cO pf N am mo o2 e2) (List.flatten [wPL cI cB cO A o1.2, [(ao, .inl (cL, 1, .inr (.inl f)))]]) (seg_split (segs := [wPL cI cB cO A o1.2, wMO cI cB am mo, [(ao, .inl (cL, 1, .inr (.inl f)))]]) (Wc := [wMO cI cB am mo]) (Wr := [wPL cI cB cO A o1.2, [(ao, .inl (cL, 1, .inr (.inl f)))]]) [1] [0, 2] rfl rfl 3 rfl (by decide)) (q0 := 0) rfl rfl rfl ⟨(Nat.le_of_ble_eq_true rfl), (Nat.le_of_ble_eq_true rfl)⟩ hkn (Nat.le_of_ble_eq_true rfl) ?_
  rintro v w1 ⟨rfl, rfl⟩
  refine J_perm (ws2 := (List.flatten [wPL cI cB cO A o1.2, wMO cI cB am o2.2, [(ao, .inl (cL, 1, .inr (.inl f)))]])) (seg_split (segs := [wPL cI cB cO A o1.2, wMO cI cB am o2.2, [(ao, .inl (cL, 1, .inr (.inl f)))]]) (Wc := [wMO cI cB am o2.2]) (Wr := [wPL cI cB cO A o1.2, [(ao, .inl (cL, 1, .inr (.inl f)))]]) [1] [0, 2] rfl rfl 3 rfl (by decide)).symm ?_
  refine J_ic_eq (α := Unit) (o := ()) (X := some ()) (Y := none) (pc := 1249) (tgt := 3187) C dlw_1249 (by decide) (if_pos hth) (fun _ => ?_) (fun h => by cases h)
  exact kx _ _ _ hRn
set_option maxHeartbeats 4000000 in
set_option maxRecDepth 100000 in
theorem K_balance {p : Program} {l : Launch} {e : Env} {s : State} {m : MethodId} {below : List Frame} {meth : Method} {c : Code} {D : va_G} {cI cB cL cO : ClassId} {pf : Nat → Nat} {Q : State → Prop} {k n b L : Nat} {xs : Nat → Int32} {N : Nat} {A : Nat → Nat → Nat} {am : Nat → Nat} {ao : Nat} {i : Int32} {Rl : Nat → T_PL → T_MO → Prop} {st : T_PL} {mo : T_MO} {f : Nat → Int64} {kk : Nat} (C : jC p s m #[Value.ref b] meth c code 7 R_lawN D [(cI, .int), (cB, .byte), (cL, .long), (cO, .object RX0)] pf (fun q => s.heap.size ≤ q)) (hl : l.stackTraces = false) (hX : va_X b L xs s s.heap) (hbl : b < s.heap.size) (hbA : ¬ (fun q : Nat => s.heap.size ≤ q) b) (h1 : vp_in (i + (1 : Int32)) L) (h2 : vp_in (i + (2 : Int32)) L) (h3 : vp_in (i + (3 : Int32)) L) (h4 : vp_in (i + (4 : Int32)) L) (h5 : vp_in (i + (5 : Int32)) L) (hSt : (∀ x1 : Int32, StA Rl (fun s f => W_balance N s f x1) (fun m => F_M_balance N m x1))) (hk : kk < 512) (hR : Rl kk st mo) (hkn : k + 4 ≤ room_1.cells ∧ n + 24 ≤ room_1.slots) (kx : ∀ st2 mo2 f2, Rl (kk + 1) st2 mo2 → J p l e room_1 s m #[Value.ref b] below meth c 7 D (fun q => s.heap.size ≤ q) Q (k + 4) (n + 24) 3187 [(4, .int i), (3, .ref ao), (2, .ref (am 0)), (1, .ref (A 0 0)), (0, .ref b)] [] (List.flatten [wPL cI cB cO A st2, wMO cI cB am mo2, [(ao, .inl (cL, 1, .inr (.inl f2)))]])) : J p l e room_1 s m #[Value.ref b] below meth c 7 D (fun q => s.heap.size ≤ q) Q (k) (n) 1254 [(4, .int i), (3, .ref ao), (2, .ref (am 0)), (1, .ref (A 0 0)), (0, .ref b)] [] (List.flatten [wPL cI cB cO A st, wMO cI cB am mo, [(ao, .inl (cL, 1, .inr (.inl f)))]]) := by
  refine J_aload_n (pc := 1254) C dlw_1254 3 rfl ?_
  refine J_aload_n (pc := 1255) C dlw_1255 4 rfl ?_
  refine J_iload (pc := 1256) C dlw_1256 0 rfl ?_
  refine J_iconst (v := (1 : Int32)) (pc := 1258) C dlw_1258 (by decide) ?_
  refine J_iadd (pc := 1259) C dlw_1259 ?_
  refine J_sld C hX hbl hbA (pc := 1260) dlw_1260 h1 ?_
  refine J_aload_n (pc := 1261) C dlw_1261 1 rfl ?_
  obtain ⟨o1, o2, e1, e2, hth, hval, hRn⟩ := hSt (xs (i + (1 : Int32)).toNatClampNeg) kk st mo f hk hR
  refine J_csH (pc := 1262) (As := [.ref (A 0 0), .int (xs (i + (1 : Int32)).toNatClampNeg), .ref ao]) (st := []) C dlw_1262 ml_L_227 wh_balance (V_balance l hl D cI cB cL cO pf N A ao st f (xs (i + (1 : Int32)).toNatClampNeg) o1 e1) (List.flatten [wMO cI cB am mo]) (seg_split (segs := [wPL cI cB cO A st, wMO cI cB am mo, [(ao, .inl (cL, 1, .inr (.inl f)))]]) (Wc := [wPL cI cB cO A st, [(ao, .inl (cL, 1, .inr (.inl f)))]]) (Wr := [wMO cI cB am mo]) [0, 2] [1] rfl rfl 3 rfl (by decide)) rfl ⟨(Nat.le_of_ble_eq_true rfl), (Nat.le_of_ble_eq_true rfl)⟩ ⟨Nat.le_trans (Nat.add_le_add_left (Nat.le_of_ble_eq_true rfl) _) hkn.1, Nat.le_trans (Nat.add_le_add_left (Nat.le_of_ble_eq_true rfl) _) hkn.2⟩ (Nat.le_of_ble_eq_true rfl) ?_
  rintro v w1 ⟨rfl, rfl⟩
  refine J_perm (ws2 := (List.flatten [wPL cI cB cO A o1.2.1, wMO cI cB am mo, [(ao, .inl (cL, 1, .inr (.inl o1.2.2)))]])) (seg_split (segs := [wPL cI cB cO A o1.2.1, wMO cI cB am mo, [(ao, .inl (cL, 1, .inr (.inl o1.2.2)))]]) (Wc := [wPL cI cB cO A o1.2.1, [(ao, .inl (cL, 1, .inr (.inl o1.2.2)))]]) (Wr := [wMO cI cB am mo]) [0, 2] [1] rfl rfl 3 rfl (by decide)).symm ?_
  refine J_widen (k2 := k + 4) (n2 := n + 24) (Nat.add_le_add_left (Nat.le_of_ble_eq_true rfl) _) (Nat.add_le_add_left (Nat.le_of_ble_eq_true rfl) _) ?_
  refine J_istore (lv2 := [(5, .int o1.1), (4, .int i), (3, .ref ao), (2, .ref (am 0)), (1, .ref (A 0 0)), (0, .ref b)]) (pc := 1265) C dlw_1265 (by decide) rfl ?_
  refine J_aload_n (pc := 1267) C dlw_1267 3 rfl ?_
  refine J_aload_n (pc := 1268) C dlw_1268 5 rfl ?_
  refine J_iload (pc := 1269) C dlw_1269 1 rfl ?_
  refine J_iconst (v := (1 : Int32)) (pc := 1271) C dlw_1271 (by decide) ?_
  refine J_iadd (pc := 1272) C dlw_1272 ?_
  refine J_sld C hX hbl hbA (pc := 1273) dlw_1273 h1 ?_
  refine J_cvF (pc := 1274) (As := [.int (xs (i + (1 : Int32)).toNatClampNeg)]) (st := []) C dlw_1274 ml_L_229 mi_yX11_balance (C_M_balance l D cI cB cL cO pf N am mo (xs (i + (1 : Int32)).toNatClampNeg) o2 e2) (List.flatten [wPL cI cB cO A o1.2.1, [(ao, .inl (cL, 1, .inr (.inl o1.2.2)))]]) (seg_split (segs := [wPL cI cB cO A o1.2.1, wMO cI cB am mo, [(ao, .inl (cL, 1, .inr (.inl o1.2.2)))]]) (Wc := [wMO cI cB am mo]) (Wr := [wPL cI cB cO A o1.2.1, [(ao, .inl (cL, 1, .inr (.inl o1.2.2)))]]) [1] [0, 2] rfl rfl 3 rfl (by decide)) (q0 := 0) rfl rfl rfl ⟨(Nat.le_of_ble_eq_true rfl), (Nat.le_of_ble_eq_true rfl)⟩ hkn (Nat.le_of_ble_eq_true rfl) ?_
  rintro v w1 ⟨rfl, rfl⟩
  refine J_perm (ws2 := (List.flatten [wPL cI cB cO A o1.2.1, wMO cI cB am o2.2, [(ao, .inl (cL, 1, .inr (.inl o1.2.2)))]])) (seg_split (segs := [wPL cI cB cO A o1.2.1, wMO cI cB am o2.2, [(ao, .inl (cL, 1, .inr (.inl o1.2.2)))]]) (Wc := [wMO cI cB am o2.2]) (Wr := [wPL cI cB cO A o1.2.1, [(ao, .inl (cL, 1, .inr (.inl o1.2.2)))]]) [1] [0, 2] rfl rfl 3 rfl (by decide)).symm ?_
  refine J_istore (lv2 := [(6, .int o2.1), (5, .int o1.1), (4, .int i), (3, .ref ao), (2, .ref (am 0)), (1, .ref (A 0 0)), (0, .ref b)]) (pc := 1277) C dlw_1277 (by decide) rfl ?_
  refine J_aload_n (pc := 1279) C dlw_1279 4 rfl ?_
  refine J_cvF (pc := 1280) (As := []) (st := []) C dlw_1280 ml_L_170 mi_yX11_thrown (C_M_thrown l D cI cB cL cO pf N am o2.2 o2.2.1 rfl) (List.flatten [wPL cI cB cO A o1.2.1, [(ao, .inl (cL, 1, .inr (.inl o1.2.2)))]]) (seg_split (segs := [wPL cI cB cO A o1.2.1, wMO cI cB am o2.2, [(ao, .inl (cL, 1, .inr (.inl o1.2.2)))]]) (Wc := [wMO cI cB am o2.2]) (Wr := [wPL cI cB cO A o1.2.1, [(ao, .inl (cL, 1, .inr (.inl o1.2.2)))]]) [1] [0, 2] rfl rfl 3 rfl (by decide)) (q0 := 0) rfl rfl rfl ⟨(Nat.le_of_ble_eq_true rfl), (Nat.le_of_ble_eq_true rfl)⟩ hkn (Nat.le_of_ble_eq_true rfl) ?_
  rintro v w1 ⟨rfl, rfl⟩
  refine J_perm (ws2 := (List.flatten [wPL cI cB cO A o1.2.1, wMO cI cB am o2.2, [(ao, .inl (cL, 1, .inr (.inl o1.2.2)))]])) (seg_split (segs := [wPL cI cB cO A o1.2.1, wMO cI cB am o2.2, [(ao, .inl (cL, 1, .inr (.inl o1.2.2)))]]) (Wc := [wMO cI cB am o2.2]) (Wr := [wPL cI cB cO A o1.2.1, [(ao, .inl (cL, 1, .inr (.inl o1.2.2)))]]) [1] [0, 2] rfl rfl 3 rfl (by decide)).symm ?_
  refine J_iload (pc := 1283) C dlw_1283 1 rfl ?_
  refine J_ic_eq (α := Unit) (o := ()) (X := some ()) (Y := none) (pc := 1285) (tgt := 1290) C dlw_1285 (by decide) (if_pos hth) (fun _ => ?_) (fun h => by cases h)
  refine J_iload (pc := 1290) C dlw_1290 1 rfl ?_
  by_cases h0 : o1.1 = 0
  · refine J_if_ne (α := Unit) (o := ()) (X := some ()) (Y := none) (pc := 1292) (tgt := 1307) C dlw_1292 (by decide) (if_pos h0) (fun h => by cases h) (fun _ => ?_)
    refine J_aload_n (pc := 1295) C dlw_1295 3 rfl ?_
    refine J_iconst (v := (0 : Int32)) (pc := 1296) C dlw_1296 (by decide) ?_
    refine J_perm (ws2 := [(ao, .inl (cL, 1, .inr (.inl o1.2.2)))] ++ List.flatten [wPL cI cB cO A o1.2.1, wMO cI cB am o2.2]) (by simpa using seg_split (segs := [wPL cI cB cO A o1.2.1, wMO cI cB am o2.2, [(ao, .inl (cL, 1, .inr (.inl o1.2.2)))]]) (Wc := [[(ao, .inl (cL, 1, .inr (.inl o1.2.2)))]]) (Wr := [wPL cI cB cO A o1.2.1, wMO cI cB am o2.2]) [2] [0, 1] rfl rfl 3 rfl (by decide)) ?_
    refine J_lald (pc := 1297) C dlw_1297 0 2 (rfl : ([(ao, .inl (cL, 1, .inr (.inl o1.2.2)))] ++ List.flatten [wPL cI cB cO A o1.2.1, wMO cI cB am o2.2] : va_W)[0]? = some (ao, .inl (cL, 1, .inr (.inl o1.2.2)))) rfl (by unfold vp_in; decide) ?_
    refine J_perm (ws2 := (List.flatten [wPL cI cB cO A o1.2.1, wMO cI cB am o2.2, [(ao, .inl (cL, 1, .inr (.inl o1.2.2)))]])) (by simpa using (seg_split (segs := [wPL cI cB cO A o1.2.1, wMO cI cB am o2.2, [(ao, .inl (cL, 1, .inr (.inl o1.2.2)))]]) (Wc := [[(ao, .inl (cL, 1, .inr (.inl o1.2.2)))]]) (Wr := [wPL cI cB cO A o1.2.1, wMO cI cB am o2.2]) [2] [0, 1] rfl rfl 3 rfl (by decide)).symm) ?_
    refine J_iload (pc := 1298) C dlw_1298 0 rfl ?_
    refine J_i2l (pc := 1300) C dlw_1300 ?_
    refine J_lcmp (pc := 1301) C dlw_1301 ?_
    refine J_if_eq (α := Unit) (o := ()) (X := some ()) (Y := none) (pc := 1302) (tgt := 1307) C dlw_1302 (by decide) (if_pos (by have hv := hval h0; rw [show (0 : Int32).toNatClampNeg = 0 from rfl, hv]; exact lg_cmp_self _)) (fun _ => ?_) (fun h => by cases h)
    refine J_goto (tgt := 3187) (pc := 1307) C dlw_1307 (by decide) ?_
    refine J_sub (lv2 := [(4, .int i), (3, .ref ao), (2, .ref (am 0)), (1, .ref (A 0 0)), (0, .ref b)]) [2, 3, 4, 5, 6] rfl ?_
    exact kx _ _ _ hRn
  · refine J_if_ne (α := Unit) (o := ()) (X := none) (Y := some ()) (pc := 1292) (tgt := 1307) C dlw_1292 (by decide) (if_neg h0) (fun _ => ?_) (fun h => by cases h)
    refine J_goto (tgt := 3187) (pc := 1307) C dlw_1307 (by decide) ?_
    refine J_sub (lv2 := [(4, .int i), (3, .ref ao), (2, .ref (am 0)), (1, .ref (A 0 0)), (0, .ref b)]) [2, 3, 4, 5, 6] rfl ?_
    exact kx _ _ _ hRn
set_option maxHeartbeats 4000000 in
set_option maxRecDepth 100000 in
theorem K_debt {p : Program} {l : Launch} {e : Env} {s : State} {m : MethodId} {below : List Frame} {meth : Method} {c : Code} {D : va_G} {cI cB cL cO : ClassId} {pf : Nat → Nat} {Q : State → Prop} {k n b L : Nat} {xs : Nat → Int32} {N : Nat} {A : Nat → Nat → Nat} {am : Nat → Nat} {ao : Nat} {i : Int32} {Rl : Nat → T_PL → T_MO → Prop} {st : T_PL} {mo : T_MO} {f : Nat → Int64} {kk : Nat} (C : jC p s m #[Value.ref b] meth c code 7 R_lawN D [(cI, .int), (cB, .byte), (cL, .long), (cO, .object RX0)] pf (fun q => s.heap.size ≤ q)) (hl : l.stackTraces = false) (hX : va_X b L xs s s.heap) (hbl : b < s.heap.size) (hbA : ¬ (fun q : Nat => s.heap.size ≤ q) b) (h1 : vp_in (i + (1 : Int32)) L) (h2 : vp_in (i + (2 : Int32)) L) (h3 : vp_in (i + (3 : Int32)) L) (h4 : vp_in (i + (4 : Int32)) L) (h5 : vp_in (i + (5 : Int32)) L) (hSt : (∀ x1 : Int32, StA Rl (fun s f => W_debt N s f x1) (fun m => F_M_debt N m x1))) (hk : kk < 512) (hR : Rl kk st mo) (hkn : k + 4 ≤ room_1.cells ∧ n + 24 ≤ room_1.slots) (kx : ∀ st2 mo2 f2, Rl (kk + 1) st2 mo2 → J p l e room_1 s m #[Value.ref b] below meth c 7 D (fun q => s.heap.size ≤ q) Q (k + 4) (n + 24) 3187 [(4, .int i), (3, .ref ao), (2, .ref (am 0)), (1, .ref (A 0 0)), (0, .ref b)] [] (List.flatten [wPL cI cB cO A st2, wMO cI cB am mo2, [(ao, .inl (cL, 1, .inr (.inl f2)))]])) : J p l e room_1 s m #[Value.ref b] below meth c 7 D (fun q => s.heap.size ≤ q) Q (k) (n) 1310 [(4, .int i), (3, .ref ao), (2, .ref (am 0)), (1, .ref (A 0 0)), (0, .ref b)] [] (List.flatten [wPL cI cB cO A st, wMO cI cB am mo, [(ao, .inl (cL, 1, .inr (.inl f)))]]) := by
  refine J_aload_n (pc := 1310) C dlw_1310 3 rfl ?_
  refine J_aload_n (pc := 1311) C dlw_1311 4 rfl ?_
  refine J_iload (pc := 1312) C dlw_1312 0 rfl ?_
  refine J_iconst (v := (1 : Int32)) (pc := 1314) C dlw_1314 (by decide) ?_
  refine J_iadd (pc := 1315) C dlw_1315 ?_
  refine J_sld C hX hbl hbA (pc := 1316) dlw_1316 h1 ?_
  refine J_aload_n (pc := 1317) C dlw_1317 1 rfl ?_
  obtain ⟨o1, o2, e1, e2, hth, hval, hRn⟩ := hSt (xs (i + (1 : Int32)).toNatClampNeg) kk st mo f hk hR
  refine J_csH (pc := 1318) (As := [.ref (A 0 0), .int (xs (i + (1 : Int32)).toNatClampNeg), .ref ao]) (st := []) C dlw_1318 ml_L_230 wh_debt (V_debt l hl D cI cB cL cO pf N A ao st f (xs (i + (1 : Int32)).toNatClampNeg) o1 e1) (List.flatten [wMO cI cB am mo]) (seg_split (segs := [wPL cI cB cO A st, wMO cI cB am mo, [(ao, .inl (cL, 1, .inr (.inl f)))]]) (Wc := [wPL cI cB cO A st, [(ao, .inl (cL, 1, .inr (.inl f)))]]) (Wr := [wMO cI cB am mo]) [0, 2] [1] rfl rfl 3 rfl (by decide)) rfl ⟨(Nat.le_of_ble_eq_true rfl), (Nat.le_of_ble_eq_true rfl)⟩ ⟨Nat.le_trans (Nat.add_le_add_left (Nat.le_of_ble_eq_true rfl) _) hkn.1, Nat.le_trans (Nat.add_le_add_left (Nat.le_of_ble_eq_true rfl) _) hkn.2⟩ (Nat.le_of_ble_eq_true rfl) ?_
  rintro v w1 ⟨rfl, rfl⟩
  refine J_perm (ws2 := (List.flatten [wPL cI cB cO A o1.2.1, wMO cI cB am mo, [(ao, .inl (cL, 1, .inr (.inl o1.2.2)))]])) (seg_split (segs := [wPL cI cB cO A o1.2.1, wMO cI cB am mo, [(ao, .inl (cL, 1, .inr (.inl o1.2.2)))]]) (Wc := [wPL cI cB cO A o1.2.1, [(ao, .inl (cL, 1, .inr (.inl o1.2.2)))]]) (Wr := [wMO cI cB am mo]) [0, 2] [1] rfl rfl 3 rfl (by decide)).symm ?_
  refine J_widen (k2 := k + 4) (n2 := n + 24) (Nat.add_le_add_left (Nat.le_of_ble_eq_true rfl) _) (Nat.add_le_add_left (Nat.le_of_ble_eq_true rfl) _) ?_
  refine J_istore (lv2 := [(5, .int o1.1), (4, .int i), (3, .ref ao), (2, .ref (am 0)), (1, .ref (A 0 0)), (0, .ref b)]) (pc := 1321) C dlw_1321 (by decide) rfl ?_
  refine J_aload_n (pc := 1323) C dlw_1323 3 rfl ?_
  refine J_aload_n (pc := 1324) C dlw_1324 5 rfl ?_
  refine J_iload (pc := 1325) C dlw_1325 1 rfl ?_
  refine J_iconst (v := (1 : Int32)) (pc := 1327) C dlw_1327 (by decide) ?_
  refine J_iadd (pc := 1328) C dlw_1328 ?_
  refine J_sld C hX hbl hbA (pc := 1329) dlw_1329 h1 ?_
  refine J_cvF (pc := 1330) (As := [.int (xs (i + (1 : Int32)).toNatClampNeg)]) (st := []) C dlw_1330 ml_L_232 mi_yX11_debt (C_M_debt l D cI cB cL cO pf N am mo (xs (i + (1 : Int32)).toNatClampNeg) o2 e2) (List.flatten [wPL cI cB cO A o1.2.1, [(ao, .inl (cL, 1, .inr (.inl o1.2.2)))]]) (seg_split (segs := [wPL cI cB cO A o1.2.1, wMO cI cB am mo, [(ao, .inl (cL, 1, .inr (.inl o1.2.2)))]]) (Wc := [wMO cI cB am mo]) (Wr := [wPL cI cB cO A o1.2.1, [(ao, .inl (cL, 1, .inr (.inl o1.2.2)))]]) [1] [0, 2] rfl rfl 3 rfl (by decide)) (q0 := 0) rfl rfl rfl ⟨(Nat.le_of_ble_eq_true rfl), (Nat.le_of_ble_eq_true rfl)⟩ hkn (Nat.le_of_ble_eq_true rfl) ?_
  rintro v w1 ⟨rfl, rfl⟩
  refine J_perm (ws2 := (List.flatten [wPL cI cB cO A o1.2.1, wMO cI cB am o2.2, [(ao, .inl (cL, 1, .inr (.inl o1.2.2)))]])) (seg_split (segs := [wPL cI cB cO A o1.2.1, wMO cI cB am o2.2, [(ao, .inl (cL, 1, .inr (.inl o1.2.2)))]]) (Wc := [wMO cI cB am o2.2]) (Wr := [wPL cI cB cO A o1.2.1, [(ao, .inl (cL, 1, .inr (.inl o1.2.2)))]]) [1] [0, 2] rfl rfl 3 rfl (by decide)).symm ?_
  refine J_istore (lv2 := [(6, .int o2.1), (5, .int o1.1), (4, .int i), (3, .ref ao), (2, .ref (am 0)), (1, .ref (A 0 0)), (0, .ref b)]) (pc := 1333) C dlw_1333 (by decide) rfl ?_
  refine J_aload_n (pc := 1335) C dlw_1335 4 rfl ?_
  refine J_cvF (pc := 1336) (As := []) (st := []) C dlw_1336 ml_L_170 mi_yX11_thrown (C_M_thrown l D cI cB cL cO pf N am o2.2 o2.2.1 rfl) (List.flatten [wPL cI cB cO A o1.2.1, [(ao, .inl (cL, 1, .inr (.inl o1.2.2)))]]) (seg_split (segs := [wPL cI cB cO A o1.2.1, wMO cI cB am o2.2, [(ao, .inl (cL, 1, .inr (.inl o1.2.2)))]]) (Wc := [wMO cI cB am o2.2]) (Wr := [wPL cI cB cO A o1.2.1, [(ao, .inl (cL, 1, .inr (.inl o1.2.2)))]]) [1] [0, 2] rfl rfl 3 rfl (by decide)) (q0 := 0) rfl rfl rfl ⟨(Nat.le_of_ble_eq_true rfl), (Nat.le_of_ble_eq_true rfl)⟩ hkn (Nat.le_of_ble_eq_true rfl) ?_
  rintro v w1 ⟨rfl, rfl⟩
  refine J_perm (ws2 := (List.flatten [wPL cI cB cO A o1.2.1, wMO cI cB am o2.2, [(ao, .inl (cL, 1, .inr (.inl o1.2.2)))]])) (seg_split (segs := [wPL cI cB cO A o1.2.1, wMO cI cB am o2.2, [(ao, .inl (cL, 1, .inr (.inl o1.2.2)))]]) (Wc := [wMO cI cB am o2.2]) (Wr := [wPL cI cB cO A o1.2.1, [(ao, .inl (cL, 1, .inr (.inl o1.2.2)))]]) [1] [0, 2] rfl rfl 3 rfl (by decide)).symm ?_
  refine J_iload (pc := 1339) C dlw_1339 1 rfl ?_
  refine J_ic_eq (α := Unit) (o := ()) (X := some ()) (Y := none) (pc := 1341) (tgt := 1346) C dlw_1341 (by decide) (if_pos hth) (fun _ => ?_) (fun h => by cases h)
  refine J_iload (pc := 1346) C dlw_1346 1 rfl ?_
  by_cases h0 : o1.1 = 0
  · refine J_if_ne (α := Unit) (o := ()) (X := some ()) (Y := none) (pc := 1348) (tgt := 1363) C dlw_1348 (by decide) (if_pos h0) (fun h => by cases h) (fun _ => ?_)
    refine J_aload_n (pc := 1351) C dlw_1351 3 rfl ?_
    refine J_iconst (v := (0 : Int32)) (pc := 1352) C dlw_1352 (by decide) ?_
    refine J_perm (ws2 := [(ao, .inl (cL, 1, .inr (.inl o1.2.2)))] ++ List.flatten [wPL cI cB cO A o1.2.1, wMO cI cB am o2.2]) (by simpa using seg_split (segs := [wPL cI cB cO A o1.2.1, wMO cI cB am o2.2, [(ao, .inl (cL, 1, .inr (.inl o1.2.2)))]]) (Wc := [[(ao, .inl (cL, 1, .inr (.inl o1.2.2)))]]) (Wr := [wPL cI cB cO A o1.2.1, wMO cI cB am o2.2]) [2] [0, 1] rfl rfl 3 rfl (by decide)) ?_
    refine J_lald (pc := 1353) C dlw_1353 0 2 (rfl : ([(ao, .inl (cL, 1, .inr (.inl o1.2.2)))] ++ List.flatten [wPL cI cB cO A o1.2.1, wMO cI cB am o2.2] : va_W)[0]? = some (ao, .inl (cL, 1, .inr (.inl o1.2.2)))) rfl (by unfold vp_in; decide) ?_
    refine J_perm (ws2 := (List.flatten [wPL cI cB cO A o1.2.1, wMO cI cB am o2.2, [(ao, .inl (cL, 1, .inr (.inl o1.2.2)))]])) (by simpa using (seg_split (segs := [wPL cI cB cO A o1.2.1, wMO cI cB am o2.2, [(ao, .inl (cL, 1, .inr (.inl o1.2.2)))]]) (Wc := [[(ao, .inl (cL, 1, .inr (.inl o1.2.2)))]]) (Wr := [wPL cI cB cO A o1.2.1, wMO cI cB am o2.2]) [2] [0, 1] rfl rfl 3 rfl (by decide)).symm) ?_
    refine J_iload (pc := 1354) C dlw_1354 0 rfl ?_
    refine J_i2l (pc := 1356) C dlw_1356 ?_
    refine J_lcmp (pc := 1357) C dlw_1357 ?_
    refine J_if_eq (α := Unit) (o := ()) (X := some ()) (Y := none) (pc := 1358) (tgt := 1363) C dlw_1358 (by decide) (if_pos (by have hv := hval h0; rw [show (0 : Int32).toNatClampNeg = 0 from rfl, hv]; exact lg_cmp_self _)) (fun _ => ?_) (fun h => by cases h)
    refine J_goto (tgt := 3187) (pc := 1363) C dlw_1363 (by decide) ?_
    refine J_sub (lv2 := [(4, .int i), (3, .ref ao), (2, .ref (am 0)), (1, .ref (A 0 0)), (0, .ref b)]) [2, 3, 4, 5, 6] rfl ?_
    exact kx _ _ _ hRn
  · refine J_if_ne (α := Unit) (o := ()) (X := none) (Y := some ()) (pc := 1348) (tgt := 1363) C dlw_1348 (by decide) (if_neg h0) (fun _ => ?_) (fun h => by cases h)
    refine J_goto (tgt := 3187) (pc := 1363) C dlw_1363 (by decide) ?_
    refine J_sub (lv2 := [(4, .int i), (3, .ref ao), (2, .ref (am 0)), (1, .ref (A 0 0)), (0, .ref b)]) [2, 3, 4, 5, 6] rfl ?_
    exact kx _ _ _ hRn
set_option maxHeartbeats 4000000 in
set_option maxRecDepth 100000 in
theorem K_available {p : Program} {l : Launch} {e : Env} {s : State} {m : MethodId} {below : List Frame} {meth : Method} {c : Code} {D : va_G} {cI cB cL cO : ClassId} {pf : Nat → Nat} {Q : State → Prop} {k n b L : Nat} {xs : Nat → Int32} {N : Nat} {A : Nat → Nat → Nat} {am : Nat → Nat} {ao : Nat} {i : Int32} {Rl : Nat → T_PL → T_MO → Prop} {st : T_PL} {mo : T_MO} {f : Nat → Int64} {kk : Nat} (C : jC p s m #[Value.ref b] meth c code 7 R_lawN D [(cI, .int), (cB, .byte), (cL, .long), (cO, .object RX0)] pf (fun q => s.heap.size ≤ q)) (hl : l.stackTraces = false) (hX : va_X b L xs s s.heap) (hbl : b < s.heap.size) (hbA : ¬ (fun q : Nat => s.heap.size ≤ q) b) (h1 : vp_in (i + (1 : Int32)) L) (h2 : vp_in (i + (2 : Int32)) L) (h3 : vp_in (i + (3 : Int32)) L) (h4 : vp_in (i + (4 : Int32)) L) (h5 : vp_in (i + (5 : Int32)) L) (hSt : (∀ x1 : Int32, StA Rl (fun s f => W_available N s f x1) (fun m => F_M_available N m x1))) (hk : kk < 512) (hR : Rl kk st mo) (hkn : k + 4 ≤ room_1.cells ∧ n + 24 ≤ room_1.slots) (kx : ∀ st2 mo2 f2, Rl (kk + 1) st2 mo2 → J p l e room_1 s m #[Value.ref b] below meth c 7 D (fun q => s.heap.size ≤ q) Q (k + 4) (n + 24) 3187 [(4, .int i), (3, .ref ao), (2, .ref (am 0)), (1, .ref (A 0 0)), (0, .ref b)] [] (List.flatten [wPL cI cB cO A st2, wMO cI cB am mo2, [(ao, .inl (cL, 1, .inr (.inl f2)))]])) : J p l e room_1 s m #[Value.ref b] below meth c 7 D (fun q => s.heap.size ≤ q) Q (k) (n) 1366 [(4, .int i), (3, .ref ao), (2, .ref (am 0)), (1, .ref (A 0 0)), (0, .ref b)] [] (List.flatten [wPL cI cB cO A st, wMO cI cB am mo, [(ao, .inl (cL, 1, .inr (.inl f)))]]) := by
  refine J_aload_n (pc := 1366) C dlw_1366 3 rfl ?_
  refine J_aload_n (pc := 1367) C dlw_1367 4 rfl ?_
  refine J_iload (pc := 1368) C dlw_1368 0 rfl ?_
  refine J_iconst (v := (1 : Int32)) (pc := 1370) C dlw_1370 (by decide) ?_
  refine J_iadd (pc := 1371) C dlw_1371 ?_
  refine J_sld C hX hbl hbA (pc := 1372) dlw_1372 h1 ?_
  refine J_aload_n (pc := 1373) C dlw_1373 1 rfl ?_
  obtain ⟨o1, o2, e1, e2, hth, hval, hRn⟩ := hSt (xs (i + (1 : Int32)).toNatClampNeg) kk st mo f hk hR
  refine J_csH (pc := 1374) (As := [.ref (A 0 0), .int (xs (i + (1 : Int32)).toNatClampNeg), .ref ao]) (st := []) C dlw_1374 ml_L_233 wh_available (V_available l hl D cI cB cL cO pf N A ao st f (xs (i + (1 : Int32)).toNatClampNeg) o1 e1) (List.flatten [wMO cI cB am mo]) (seg_split (segs := [wPL cI cB cO A st, wMO cI cB am mo, [(ao, .inl (cL, 1, .inr (.inl f)))]]) (Wc := [wPL cI cB cO A st, [(ao, .inl (cL, 1, .inr (.inl f)))]]) (Wr := [wMO cI cB am mo]) [0, 2] [1] rfl rfl 3 rfl (by decide)) rfl ⟨(Nat.le_of_ble_eq_true rfl), (Nat.le_of_ble_eq_true rfl)⟩ ⟨Nat.le_trans (Nat.add_le_add_left (Nat.le_of_ble_eq_true rfl) _) hkn.1, Nat.le_trans (Nat.add_le_add_left (Nat.le_of_ble_eq_true rfl) _) hkn.2⟩ (Nat.le_of_ble_eq_true rfl) ?_
  rintro v w1 ⟨rfl, rfl⟩
  refine J_perm (ws2 := (List.flatten [wPL cI cB cO A o1.2.1, wMO cI cB am mo, [(ao, .inl (cL, 1, .inr (.inl o1.2.2)))]])) (seg_split (segs := [wPL cI cB cO A o1.2.1, wMO cI cB am mo, [(ao, .inl (cL, 1, .inr (.inl o1.2.2)))]]) (Wc := [wPL cI cB cO A o1.2.1, [(ao, .inl (cL, 1, .inr (.inl o1.2.2)))]]) (Wr := [wMO cI cB am mo]) [0, 2] [1] rfl rfl 3 rfl (by decide)).symm ?_
  refine J_widen (k2 := k + 4) (n2 := n + 24) (Nat.add_le_add_left (Nat.le_of_ble_eq_true rfl) _) (Nat.add_le_add_left (Nat.le_of_ble_eq_true rfl) _) ?_
  refine J_istore (lv2 := [(5, .int o1.1), (4, .int i), (3, .ref ao), (2, .ref (am 0)), (1, .ref (A 0 0)), (0, .ref b)]) (pc := 1377) C dlw_1377 (by decide) rfl ?_
  refine J_aload_n (pc := 1379) C dlw_1379 3 rfl ?_
  refine J_aload_n (pc := 1380) C dlw_1380 5 rfl ?_
  refine J_iload (pc := 1381) C dlw_1381 1 rfl ?_
  refine J_iconst (v := (1 : Int32)) (pc := 1383) C dlw_1383 (by decide) ?_
  refine J_iadd (pc := 1384) C dlw_1384 ?_
  refine J_sld C hX hbl hbA (pc := 1385) dlw_1385 h1 ?_
  refine J_cvF (pc := 1386) (As := [.int (xs (i + (1 : Int32)).toNatClampNeg)]) (st := []) C dlw_1386 ml_L_235 mi_yX11_available (C_M_available l D cI cB cL cO pf N am mo (xs (i + (1 : Int32)).toNatClampNeg) o2 e2) (List.flatten [wPL cI cB cO A o1.2.1, [(ao, .inl (cL, 1, .inr (.inl o1.2.2)))]]) (seg_split (segs := [wPL cI cB cO A o1.2.1, wMO cI cB am mo, [(ao, .inl (cL, 1, .inr (.inl o1.2.2)))]]) (Wc := [wMO cI cB am mo]) (Wr := [wPL cI cB cO A o1.2.1, [(ao, .inl (cL, 1, .inr (.inl o1.2.2)))]]) [1] [0, 2] rfl rfl 3 rfl (by decide)) (q0 := 0) rfl rfl rfl ⟨(Nat.le_of_ble_eq_true rfl), (Nat.le_of_ble_eq_true rfl)⟩ hkn (Nat.le_of_ble_eq_true rfl) ?_
  rintro v w1 ⟨rfl, rfl⟩
  refine J_perm (ws2 := (List.flatten [wPL cI cB cO A o1.2.1, wMO cI cB am o2.2, [(ao, .inl (cL, 1, .inr (.inl o1.2.2)))]])) (seg_split (segs := [wPL cI cB cO A o1.2.1, wMO cI cB am o2.2, [(ao, .inl (cL, 1, .inr (.inl o1.2.2)))]]) (Wc := [wMO cI cB am o2.2]) (Wr := [wPL cI cB cO A o1.2.1, [(ao, .inl (cL, 1, .inr (.inl o1.2.2)))]]) [1] [0, 2] rfl rfl 3 rfl (by decide)).symm ?_
  refine J_istore (lv2 := [(6, .int o2.1), (5, .int o1.1), (4, .int i), (3, .ref ao), (2, .ref (am 0)), (1, .ref (A 0 0)), (0, .ref b)]) (pc := 1389) C dlw_1389 (by decide) rfl ?_
  refine J_aload_n (pc := 1391) C dlw_1391 4 rfl ?_
  refine J_cvF (pc := 1392) (As := []) (st := []) C dlw_1392 ml_L_170 mi_yX11_thrown (C_M_thrown l D cI cB cL cO pf N am o2.2 o2.2.1 rfl) (List.flatten [wPL cI cB cO A o1.2.1, [(ao, .inl (cL, 1, .inr (.inl o1.2.2)))]]) (seg_split (segs := [wPL cI cB cO A o1.2.1, wMO cI cB am o2.2, [(ao, .inl (cL, 1, .inr (.inl o1.2.2)))]]) (Wc := [wMO cI cB am o2.2]) (Wr := [wPL cI cB cO A o1.2.1, [(ao, .inl (cL, 1, .inr (.inl o1.2.2)))]]) [1] [0, 2] rfl rfl 3 rfl (by decide)) (q0 := 0) rfl rfl rfl ⟨(Nat.le_of_ble_eq_true rfl), (Nat.le_of_ble_eq_true rfl)⟩ hkn (Nat.le_of_ble_eq_true rfl) ?_
  rintro v w1 ⟨rfl, rfl⟩
  refine J_perm (ws2 := (List.flatten [wPL cI cB cO A o1.2.1, wMO cI cB am o2.2, [(ao, .inl (cL, 1, .inr (.inl o1.2.2)))]])) (seg_split (segs := [wPL cI cB cO A o1.2.1, wMO cI cB am o2.2, [(ao, .inl (cL, 1, .inr (.inl o1.2.2)))]]) (Wc := [wMO cI cB am o2.2]) (Wr := [wPL cI cB cO A o1.2.1, [(ao, .inl (cL, 1, .inr (.inl o1.2.2)))]]) [1] [0, 2] rfl rfl 3 rfl (by decide)).symm ?_
  refine J_iload (pc := 1395) C dlw_1395 1 rfl ?_
  refine J_ic_eq (α := Unit) (o := ()) (X := some ()) (Y := none) (pc := 1397) (tgt := 1402) C dlw_1397 (by decide) (if_pos hth) (fun _ => ?_) (fun h => by cases h)
  refine J_iload (pc := 1402) C dlw_1402 1 rfl ?_
  by_cases h0 : o1.1 = 0
  · refine J_if_ne (α := Unit) (o := ()) (X := some ()) (Y := none) (pc := 1404) (tgt := 1419) C dlw_1404 (by decide) (if_pos h0) (fun h => by cases h) (fun _ => ?_)
    refine J_aload_n (pc := 1407) C dlw_1407 3 rfl ?_
    refine J_iconst (v := (0 : Int32)) (pc := 1408) C dlw_1408 (by decide) ?_
    refine J_perm (ws2 := [(ao, .inl (cL, 1, .inr (.inl o1.2.2)))] ++ List.flatten [wPL cI cB cO A o1.2.1, wMO cI cB am o2.2]) (by simpa using seg_split (segs := [wPL cI cB cO A o1.2.1, wMO cI cB am o2.2, [(ao, .inl (cL, 1, .inr (.inl o1.2.2)))]]) (Wc := [[(ao, .inl (cL, 1, .inr (.inl o1.2.2)))]]) (Wr := [wPL cI cB cO A o1.2.1, wMO cI cB am o2.2]) [2] [0, 1] rfl rfl 3 rfl (by decide)) ?_
    refine J_lald (pc := 1409) C dlw_1409 0 2 (rfl : ([(ao, .inl (cL, 1, .inr (.inl o1.2.2)))] ++ List.flatten [wPL cI cB cO A o1.2.1, wMO cI cB am o2.2] : va_W)[0]? = some (ao, .inl (cL, 1, .inr (.inl o1.2.2)))) rfl (by unfold vp_in; decide) ?_
    refine J_perm (ws2 := (List.flatten [wPL cI cB cO A o1.2.1, wMO cI cB am o2.2, [(ao, .inl (cL, 1, .inr (.inl o1.2.2)))]])) (by simpa using (seg_split (segs := [wPL cI cB cO A o1.2.1, wMO cI cB am o2.2, [(ao, .inl (cL, 1, .inr (.inl o1.2.2)))]]) (Wc := [[(ao, .inl (cL, 1, .inr (.inl o1.2.2)))]]) (Wr := [wPL cI cB cO A o1.2.1, wMO cI cB am o2.2]) [2] [0, 1] rfl rfl 3 rfl (by decide)).symm) ?_
    refine J_iload (pc := 1410) C dlw_1410 0 rfl ?_
    refine J_i2l (pc := 1412) C dlw_1412 ?_
    refine J_lcmp (pc := 1413) C dlw_1413 ?_
    refine J_if_eq (α := Unit) (o := ()) (X := some ()) (Y := none) (pc := 1414) (tgt := 1419) C dlw_1414 (by decide) (if_pos (by have hv := hval h0; rw [show (0 : Int32).toNatClampNeg = 0 from rfl, hv]; exact lg_cmp_self _)) (fun _ => ?_) (fun h => by cases h)
    refine J_goto (tgt := 3187) (pc := 1419) C dlw_1419 (by decide) ?_
    refine J_sub (lv2 := [(4, .int i), (3, .ref ao), (2, .ref (am 0)), (1, .ref (A 0 0)), (0, .ref b)]) [2, 3, 4, 5, 6] rfl ?_
    exact kx _ _ _ hRn
  · refine J_if_ne (α := Unit) (o := ()) (X := none) (Y := some ()) (pc := 1404) (tgt := 1419) C dlw_1404 (by decide) (if_neg h0) (fun _ => ?_) (fun h => by cases h)
    refine J_goto (tgt := 3187) (pc := 1419) C dlw_1419 (by decide) ?_
    refine J_sub (lv2 := [(4, .int i), (3, .ref ao), (2, .ref (am 0)), (1, .ref (A 0 0)), (0, .ref b)]) [2, 3, 4, 5, 6] rfl ?_
    exact kx _ _ _ hRn
set_option maxHeartbeats 4000000 in
set_option maxRecDepth 100000 in
theorem K_cohortCount {p : Program} {l : Launch} {e : Env} {s : State} {m : MethodId} {below : List Frame} {meth : Method} {c : Code} {D : va_G} {cI cB cL cO : ClassId} {pf : Nat → Nat} {Q : State → Prop} {k n b L : Nat} {xs : Nat → Int32} {N : Nat} {A : Nat → Nat → Nat} {am : Nat → Nat} {ao : Nat} {i : Int32} {Rl : Nat → T_PL → T_MO → Prop} {st : T_PL} {mo : T_MO} {f : Nat → Int64} {kk : Nat} (C : jC p s m #[Value.ref b] meth c code 7 R_lawN D [(cI, .int), (cB, .byte), (cL, .long), (cO, .object RX0)] pf (fun q => s.heap.size ≤ q)) (hl : l.stackTraces = false) (hX : va_X b L xs s s.heap) (hbl : b < s.heap.size) (hbA : ¬ (fun q : Nat => s.heap.size ≤ q) b) (h1 : vp_in (i + (1 : Int32)) L) (h2 : vp_in (i + (2 : Int32)) L) (h3 : vp_in (i + (3 : Int32)) L) (h4 : vp_in (i + (4 : Int32)) L) (h5 : vp_in (i + (5 : Int32)) L) (hSt : (∀ x1 : Int32, StA Rl (fun s f => W_cohortCount N s f x1) (fun m => F_M_cohortCount N m x1))) (hk : kk < 512) (hR : Rl kk st mo) (hkn : k + 4 ≤ room_1.cells ∧ n + 24 ≤ room_1.slots) (kx : ∀ st2 mo2 f2, Rl (kk + 1) st2 mo2 → J p l e room_1 s m #[Value.ref b] below meth c 7 D (fun q => s.heap.size ≤ q) Q (k + 4) (n + 24) 3187 [(4, .int i), (3, .ref ao), (2, .ref (am 0)), (1, .ref (A 0 0)), (0, .ref b)] [] (List.flatten [wPL cI cB cO A st2, wMO cI cB am mo2, [(ao, .inl (cL, 1, .inr (.inl f2)))]])) : J p l e room_1 s m #[Value.ref b] below meth c 7 D (fun q => s.heap.size ≤ q) Q (k) (n) 1422 [(4, .int i), (3, .ref ao), (2, .ref (am 0)), (1, .ref (A 0 0)), (0, .ref b)] [] (List.flatten [wPL cI cB cO A st, wMO cI cB am mo, [(ao, .inl (cL, 1, .inr (.inl f)))]]) := by
  refine J_aload_n (pc := 1422) C dlw_1422 3 rfl ?_
  refine J_aload_n (pc := 1423) C dlw_1423 4 rfl ?_
  refine J_iload (pc := 1424) C dlw_1424 0 rfl ?_
  refine J_iconst (v := (1 : Int32)) (pc := 1426) C dlw_1426 (by decide) ?_
  refine J_iadd (pc := 1427) C dlw_1427 ?_
  refine J_sld C hX hbl hbA (pc := 1428) dlw_1428 h1 ?_
  refine J_aload_n (pc := 1429) C dlw_1429 1 rfl ?_
  obtain ⟨o1, o2, e1, e2, hth, hval, hRn⟩ := hSt (xs (i + (1 : Int32)).toNatClampNeg) kk st mo f hk hR
  refine J_csH (pc := 1430) (As := [.ref (A 0 0), .int (xs (i + (1 : Int32)).toNatClampNeg), .ref ao]) (st := []) C dlw_1430 ml_L_236 wh_cohortCount (V_cohortCount l hl D cI cB cL cO pf N A ao st f (xs (i + (1 : Int32)).toNatClampNeg) o1 e1) (List.flatten [wMO cI cB am mo]) (seg_split (segs := [wPL cI cB cO A st, wMO cI cB am mo, [(ao, .inl (cL, 1, .inr (.inl f)))]]) (Wc := [wPL cI cB cO A st, [(ao, .inl (cL, 1, .inr (.inl f)))]]) (Wr := [wMO cI cB am mo]) [0, 2] [1] rfl rfl 3 rfl (by decide)) rfl ⟨(Nat.le_of_ble_eq_true rfl), (Nat.le_of_ble_eq_true rfl)⟩ ⟨Nat.le_trans (Nat.add_le_add_left (Nat.le_of_ble_eq_true rfl) _) hkn.1, Nat.le_trans (Nat.add_le_add_left (Nat.le_of_ble_eq_true rfl) _) hkn.2⟩ (Nat.le_of_ble_eq_true rfl) ?_
  rintro v w1 ⟨rfl, rfl⟩
  refine J_perm (ws2 := (List.flatten [wPL cI cB cO A o1.2.1, wMO cI cB am mo, [(ao, .inl (cL, 1, .inr (.inl o1.2.2)))]])) (seg_split (segs := [wPL cI cB cO A o1.2.1, wMO cI cB am mo, [(ao, .inl (cL, 1, .inr (.inl o1.2.2)))]]) (Wc := [wPL cI cB cO A o1.2.1, [(ao, .inl (cL, 1, .inr (.inl o1.2.2)))]]) (Wr := [wMO cI cB am mo]) [0, 2] [1] rfl rfl 3 rfl (by decide)).symm ?_
  refine J_widen (k2 := k + 4) (n2 := n + 24) (Nat.add_le_add_left (Nat.le_of_ble_eq_true rfl) _) (Nat.add_le_add_left (Nat.le_of_ble_eq_true rfl) _) ?_
  refine J_istore (lv2 := [(5, .int o1.1), (4, .int i), (3, .ref ao), (2, .ref (am 0)), (1, .ref (A 0 0)), (0, .ref b)]) (pc := 1433) C dlw_1433 (by decide) rfl ?_
  refine J_aload_n (pc := 1435) C dlw_1435 3 rfl ?_
  refine J_aload_n (pc := 1436) C dlw_1436 5 rfl ?_
  refine J_iload (pc := 1437) C dlw_1437 1 rfl ?_
  refine J_iconst (v := (1 : Int32)) (pc := 1439) C dlw_1439 (by decide) ?_
  refine J_iadd (pc := 1440) C dlw_1440 ?_
  refine J_sld C hX hbl hbA (pc := 1441) dlw_1441 h1 ?_
  refine J_cvF (pc := 1442) (As := [.int (xs (i + (1 : Int32)).toNatClampNeg)]) (st := []) C dlw_1442 ml_L_238 mi_yX11_cohortCount (C_M_cohortCount l D cI cB cL cO pf N am mo (xs (i + (1 : Int32)).toNatClampNeg) o2 e2) (List.flatten [wPL cI cB cO A o1.2.1, [(ao, .inl (cL, 1, .inr (.inl o1.2.2)))]]) (seg_split (segs := [wPL cI cB cO A o1.2.1, wMO cI cB am mo, [(ao, .inl (cL, 1, .inr (.inl o1.2.2)))]]) (Wc := [wMO cI cB am mo]) (Wr := [wPL cI cB cO A o1.2.1, [(ao, .inl (cL, 1, .inr (.inl o1.2.2)))]]) [1] [0, 2] rfl rfl 3 rfl (by decide)) (q0 := 0) rfl rfl rfl ⟨(Nat.le_of_ble_eq_true rfl), (Nat.le_of_ble_eq_true rfl)⟩ hkn (Nat.le_of_ble_eq_true rfl) ?_
  rintro v w1 ⟨rfl, rfl⟩
  refine J_perm (ws2 := (List.flatten [wPL cI cB cO A o1.2.1, wMO cI cB am o2.2, [(ao, .inl (cL, 1, .inr (.inl o1.2.2)))]])) (seg_split (segs := [wPL cI cB cO A o1.2.1, wMO cI cB am o2.2, [(ao, .inl (cL, 1, .inr (.inl o1.2.2)))]]) (Wc := [wMO cI cB am o2.2]) (Wr := [wPL cI cB cO A o1.2.1, [(ao, .inl (cL, 1, .inr (.inl o1.2.2)))]]) [1] [0, 2] rfl rfl 3 rfl (by decide)).symm ?_
  refine J_istore (lv2 := [(6, .int o2.1), (5, .int o1.1), (4, .int i), (3, .ref ao), (2, .ref (am 0)), (1, .ref (A 0 0)), (0, .ref b)]) (pc := 1445) C dlw_1445 (by decide) rfl ?_
  refine J_aload_n (pc := 1447) C dlw_1447 4 rfl ?_
  refine J_cvF (pc := 1448) (As := []) (st := []) C dlw_1448 ml_L_170 mi_yX11_thrown (C_M_thrown l D cI cB cL cO pf N am o2.2 o2.2.1 rfl) (List.flatten [wPL cI cB cO A o1.2.1, [(ao, .inl (cL, 1, .inr (.inl o1.2.2)))]]) (seg_split (segs := [wPL cI cB cO A o1.2.1, wMO cI cB am o2.2, [(ao, .inl (cL, 1, .inr (.inl o1.2.2)))]]) (Wc := [wMO cI cB am o2.2]) (Wr := [wPL cI cB cO A o1.2.1, [(ao, .inl (cL, 1, .inr (.inl o1.2.2)))]]) [1] [0, 2] rfl rfl 3 rfl (by decide)) (q0 := 0) rfl rfl rfl ⟨(Nat.le_of_ble_eq_true rfl), (Nat.le_of_ble_eq_true rfl)⟩ hkn (Nat.le_of_ble_eq_true rfl) ?_
  rintro v w1 ⟨rfl, rfl⟩
  refine J_perm (ws2 := (List.flatten [wPL cI cB cO A o1.2.1, wMO cI cB am o2.2, [(ao, .inl (cL, 1, .inr (.inl o1.2.2)))]])) (seg_split (segs := [wPL cI cB cO A o1.2.1, wMO cI cB am o2.2, [(ao, .inl (cL, 1, .inr (.inl o1.2.2)))]]) (Wc := [wMO cI cB am o2.2]) (Wr := [wPL cI cB cO A o1.2.1, [(ao, .inl (cL, 1, .inr (.inl o1.2.2)))]]) [1] [0, 2] rfl rfl 3 rfl (by decide)).symm ?_
  refine J_iload (pc := 1451) C dlw_1451 1 rfl ?_
  refine J_ic_eq (α := Unit) (o := ()) (X := some ()) (Y := none) (pc := 1453) (tgt := 1458) C dlw_1453 (by decide) (if_pos hth) (fun _ => ?_) (fun h => by cases h)
  refine J_iload (pc := 1458) C dlw_1458 1 rfl ?_
  by_cases h0 : o1.1 = 0
  · refine J_if_ne (α := Unit) (o := ()) (X := some ()) (Y := none) (pc := 1460) (tgt := 1475) C dlw_1460 (by decide) (if_pos h0) (fun h => by cases h) (fun _ => ?_)
    refine J_aload_n (pc := 1463) C dlw_1463 3 rfl ?_
    refine J_iconst (v := (0 : Int32)) (pc := 1464) C dlw_1464 (by decide) ?_
    refine J_perm (ws2 := [(ao, .inl (cL, 1, .inr (.inl o1.2.2)))] ++ List.flatten [wPL cI cB cO A o1.2.1, wMO cI cB am o2.2]) (by simpa using seg_split (segs := [wPL cI cB cO A o1.2.1, wMO cI cB am o2.2, [(ao, .inl (cL, 1, .inr (.inl o1.2.2)))]]) (Wc := [[(ao, .inl (cL, 1, .inr (.inl o1.2.2)))]]) (Wr := [wPL cI cB cO A o1.2.1, wMO cI cB am o2.2]) [2] [0, 1] rfl rfl 3 rfl (by decide)) ?_
    refine J_lald (pc := 1465) C dlw_1465 0 2 (rfl : ([(ao, .inl (cL, 1, .inr (.inl o1.2.2)))] ++ List.flatten [wPL cI cB cO A o1.2.1, wMO cI cB am o2.2] : va_W)[0]? = some (ao, .inl (cL, 1, .inr (.inl o1.2.2)))) rfl (by unfold vp_in; decide) ?_
    refine J_perm (ws2 := (List.flatten [wPL cI cB cO A o1.2.1, wMO cI cB am o2.2, [(ao, .inl (cL, 1, .inr (.inl o1.2.2)))]])) (by simpa using (seg_split (segs := [wPL cI cB cO A o1.2.1, wMO cI cB am o2.2, [(ao, .inl (cL, 1, .inr (.inl o1.2.2)))]]) (Wc := [[(ao, .inl (cL, 1, .inr (.inl o1.2.2)))]]) (Wr := [wPL cI cB cO A o1.2.1, wMO cI cB am o2.2]) [2] [0, 1] rfl rfl 3 rfl (by decide)).symm) ?_
    refine J_iload (pc := 1466) C dlw_1466 0 rfl ?_
    refine J_i2l (pc := 1468) C dlw_1468 ?_
    refine J_lcmp (pc := 1469) C dlw_1469 ?_
    refine J_if_eq (α := Unit) (o := ()) (X := some ()) (Y := none) (pc := 1470) (tgt := 1475) C dlw_1470 (by decide) (if_pos (by have hv := hval h0; rw [show (0 : Int32).toNatClampNeg = 0 from rfl, hv]; exact lg_cmp_self _)) (fun _ => ?_) (fun h => by cases h)
    refine J_goto (tgt := 3187) (pc := 1475) C dlw_1475 (by decide) ?_
    refine J_sub (lv2 := [(4, .int i), (3, .ref ao), (2, .ref (am 0)), (1, .ref (A 0 0)), (0, .ref b)]) [2, 3, 4, 5, 6] rfl ?_
    exact kx _ _ _ hRn
  · refine J_if_ne (α := Unit) (o := ()) (X := none) (Y := some ()) (pc := 1460) (tgt := 1475) C dlw_1460 (by decide) (if_neg h0) (fun _ => ?_) (fun h => by cases h)
    refine J_goto (tgt := 3187) (pc := 1475) C dlw_1475 (by decide) ?_
    refine J_sub (lv2 := [(4, .int i), (3, .ref ao), (2, .ref (am 0)), (1, .ref (A 0 0)), (0, .ref b)]) [2, 3, 4, 5, 6] rfl ?_
    exact kx _ _ _ hRn
set_option maxHeartbeats 4000000 in
set_option maxRecDepth 100000 in
theorem K_cohort {p : Program} {l : Launch} {e : Env} {s : State} {m : MethodId} {below : List Frame} {meth : Method} {c : Code} {D : va_G} {cI cB cL cO : ClassId} {pf : Nat → Nat} {Q : State → Prop} {k n b L : Nat} {xs : Nat → Int32} {N : Nat} {A : Nat → Nat → Nat} {am : Nat → Nat} {ao : Nat} {i : Int32} {Rl : Nat → T_PL → T_MO → Prop} {st : T_PL} {mo : T_MO} {f : Nat → Int64} {kk : Nat} (C : jC p s m #[Value.ref b] meth c code 7 R_lawN D [(cI, .int), (cB, .byte), (cL, .long), (cO, .object RX0)] pf (fun q => s.heap.size ≤ q)) (hl : l.stackTraces = false) (hX : va_X b L xs s s.heap) (hbl : b < s.heap.size) (hbA : ¬ (fun q : Nat => s.heap.size ≤ q) b) (h1 : vp_in (i + (1 : Int32)) L) (h2 : vp_in (i + (2 : Int32)) L) (h3 : vp_in (i + (3 : Int32)) L) (h4 : vp_in (i + (4 : Int32)) L) (h5 : vp_in (i + (5 : Int32)) L) (hSt : (∀ x1 : Int32, ∀ x2 : Int32, ∀ x3 : Int32, StA Rl (fun s f => W_cohort N s f x1 x2 x3) (fun m => F_M_cohort N m x1 x2 x3))) (hk : kk < 512) (hR : Rl kk st mo) (hkn : k + 4 ≤ room_1.cells ∧ n + 24 ≤ room_1.slots) (kx : ∀ st2 mo2 f2, Rl (kk + 1) st2 mo2 → J p l e room_1 s m #[Value.ref b] below meth c 7 D (fun q => s.heap.size ≤ q) Q (k + 4) (n + 24) 3187 [(4, .int i), (3, .ref ao), (2, .ref (am 0)), (1, .ref (A 0 0)), (0, .ref b)] [] (List.flatten [wPL cI cB cO A st2, wMO cI cB am mo2, [(ao, .inl (cL, 1, .inr (.inl f2)))]])) : J p l e room_1 s m #[Value.ref b] below meth c 7 D (fun q => s.heap.size ≤ q) Q (k) (n) 1478 [(4, .int i), (3, .ref ao), (2, .ref (am 0)), (1, .ref (A 0 0)), (0, .ref b)] [] (List.flatten [wPL cI cB cO A st, wMO cI cB am mo, [(ao, .inl (cL, 1, .inr (.inl f)))]]) := by
  refine J_aload_n (pc := 1478) C dlw_1478 3 rfl ?_
  refine J_aload_n (pc := 1479) C dlw_1479 4 rfl ?_
  refine J_iload (pc := 1480) C dlw_1480 0 rfl ?_
  refine J_iconst (v := (1 : Int32)) (pc := 1482) C dlw_1482 (by decide) ?_
  refine J_iadd (pc := 1483) C dlw_1483 ?_
  refine J_sld C hX hbl hbA (pc := 1484) dlw_1484 h1 ?_
  refine J_aload_n (pc := 1485) C dlw_1485 4 rfl ?_
  refine J_iload (pc := 1486) C dlw_1486 0 rfl ?_
  refine J_iconst (v := (2 : Int32)) (pc := 1488) C dlw_1488 (by decide) ?_
  refine J_iadd (pc := 1489) C dlw_1489 ?_
  refine J_sld C hX hbl hbA (pc := 1490) dlw_1490 h2 ?_
  refine J_aload_n (pc := 1491) C dlw_1491 4 rfl ?_
  refine J_iload (pc := 1492) C dlw_1492 0 rfl ?_
  refine J_iconst (v := (3 : Int32)) (pc := 1494) C dlw_1494 (by decide) ?_
  refine J_iadd (pc := 1495) C dlw_1495 ?_
  refine J_sld C hX hbl hbA (pc := 1496) dlw_1496 h3 ?_
  refine J_aload_n (pc := 1497) C dlw_1497 1 rfl ?_
  obtain ⟨o1, o2, e1, e2, hth, hval, hRn⟩ := hSt (xs (i + (1 : Int32)).toNatClampNeg) (xs (i + (2 : Int32)).toNatClampNeg) (xs (i + (3 : Int32)).toNatClampNeg) kk st mo f hk hR
  refine J_csH (pc := 1498) (As := [.ref (A 0 0), .int (xs (i + (1 : Int32)).toNatClampNeg), .int (xs (i + (2 : Int32)).toNatClampNeg), .int (xs (i + (3 : Int32)).toNatClampNeg), .ref ao]) (st := []) C dlw_1498 ml_L_239 wh_cohort (V_cohort l hl D cI cB cL cO pf N A ao st f (xs (i + (1 : Int32)).toNatClampNeg) (xs (i + (2 : Int32)).toNatClampNeg) (xs (i + (3 : Int32)).toNatClampNeg) o1 e1) (List.flatten [wMO cI cB am mo]) (seg_split (segs := [wPL cI cB cO A st, wMO cI cB am mo, [(ao, .inl (cL, 1, .inr (.inl f)))]]) (Wc := [wPL cI cB cO A st, [(ao, .inl (cL, 1, .inr (.inl f)))]]) (Wr := [wMO cI cB am mo]) [0, 2] [1] rfl rfl 3 rfl (by decide)) rfl ⟨(Nat.le_of_ble_eq_true rfl), (Nat.le_of_ble_eq_true rfl)⟩ ⟨Nat.le_trans (Nat.add_le_add_left (Nat.le_of_ble_eq_true rfl) _) hkn.1, Nat.le_trans (Nat.add_le_add_left (Nat.le_of_ble_eq_true rfl) _) hkn.2⟩ (Nat.le_of_ble_eq_true rfl) ?_
  rintro v w1 ⟨rfl, rfl⟩
  refine J_perm (ws2 := (List.flatten [wPL cI cB cO A o1.2.1, wMO cI cB am mo, [(ao, .inl (cL, 1, .inr (.inl o1.2.2)))]])) (seg_split (segs := [wPL cI cB cO A o1.2.1, wMO cI cB am mo, [(ao, .inl (cL, 1, .inr (.inl o1.2.2)))]]) (Wc := [wPL cI cB cO A o1.2.1, [(ao, .inl (cL, 1, .inr (.inl o1.2.2)))]]) (Wr := [wMO cI cB am mo]) [0, 2] [1] rfl rfl 3 rfl (by decide)).symm ?_
  refine J_widen (k2 := k + 4) (n2 := n + 24) (Nat.add_le_add_left (Nat.le_of_ble_eq_true rfl) _) (Nat.add_le_add_left (Nat.le_of_ble_eq_true rfl) _) ?_
  refine J_istore (lv2 := [(5, .int o1.1), (4, .int i), (3, .ref ao), (2, .ref (am 0)), (1, .ref (A 0 0)), (0, .ref b)]) (pc := 1501) C dlw_1501 (by decide) rfl ?_
  refine J_aload_n (pc := 1503) C dlw_1503 3 rfl ?_
  refine J_aload_n (pc := 1504) C dlw_1504 5 rfl ?_
  refine J_iload (pc := 1505) C dlw_1505 1 rfl ?_
  refine J_iconst (v := (1 : Int32)) (pc := 1507) C dlw_1507 (by decide) ?_
  refine J_iadd (pc := 1508) C dlw_1508 ?_
  refine J_sld C hX hbl hbA (pc := 1509) dlw_1509 h1 ?_
  refine J_aload_n (pc := 1510) C dlw_1510 5 rfl ?_
  refine J_iload (pc := 1511) C dlw_1511 1 rfl ?_
  refine J_iconst (v := (2 : Int32)) (pc := 1513) C dlw_1513 (by decide) ?_
  refine J_iadd (pc := 1514) C dlw_1514 ?_
  refine J_sld C hX hbl hbA (pc := 1515) dlw_1515 h2 ?_
  refine J_aload_n (pc := 1516) C dlw_1516 5 rfl ?_
  refine J_iload (pc := 1517) C dlw_1517 1 rfl ?_
  refine J_iconst (v := (3 : Int32)) (pc := 1519) C dlw_1519 (by decide) ?_
  refine J_iadd (pc := 1520) C dlw_1520 ?_
  refine J_sld C hX hbl hbA (pc := 1521) dlw_1521 h3 ?_
  refine J_cvF (pc := 1522) (As := [.int (xs (i + (1 : Int32)).toNatClampNeg), .int (xs (i + (2 : Int32)).toNatClampNeg), .int (xs (i + (3 : Int32)).toNatClampNeg)]) (st := []) C dlw_1522 ml_L_241 mi_yX11_cohort (C_M_cohort l D cI cB cL cO pf N am mo (xs (i + (1 : Int32)).toNatClampNeg) (xs (i + (2 : Int32)).toNatClampNeg) (xs (i + (3 : Int32)).toNatClampNeg) o2 e2) (List.flatten [wPL cI cB cO A o1.2.1, [(ao, .inl (cL, 1, .inr (.inl o1.2.2)))]]) (seg_split (segs := [wPL cI cB cO A o1.2.1, wMO cI cB am mo, [(ao, .inl (cL, 1, .inr (.inl o1.2.2)))]]) (Wc := [wMO cI cB am mo]) (Wr := [wPL cI cB cO A o1.2.1, [(ao, .inl (cL, 1, .inr (.inl o1.2.2)))]]) [1] [0, 2] rfl rfl 3 rfl (by decide)) (q0 := 0) rfl rfl rfl ⟨(Nat.le_of_ble_eq_true rfl), (Nat.le_of_ble_eq_true rfl)⟩ hkn (Nat.le_of_ble_eq_true rfl) ?_
  rintro v w1 ⟨rfl, rfl⟩
  refine J_perm (ws2 := (List.flatten [wPL cI cB cO A o1.2.1, wMO cI cB am o2.2, [(ao, .inl (cL, 1, .inr (.inl o1.2.2)))]])) (seg_split (segs := [wPL cI cB cO A o1.2.1, wMO cI cB am o2.2, [(ao, .inl (cL, 1, .inr (.inl o1.2.2)))]]) (Wc := [wMO cI cB am o2.2]) (Wr := [wPL cI cB cO A o1.2.1, [(ao, .inl (cL, 1, .inr (.inl o1.2.2)))]]) [1] [0, 2] rfl rfl 3 rfl (by decide)).symm ?_
  refine J_istore (lv2 := [(6, .int o2.1), (5, .int o1.1), (4, .int i), (3, .ref ao), (2, .ref (am 0)), (1, .ref (A 0 0)), (0, .ref b)]) (pc := 1525) C dlw_1525 (by decide) rfl ?_
  refine J_aload_n (pc := 1527) C dlw_1527 4 rfl ?_
  refine J_cvF (pc := 1528) (As := []) (st := []) C dlw_1528 ml_L_170 mi_yX11_thrown (C_M_thrown l D cI cB cL cO pf N am o2.2 o2.2.1 rfl) (List.flatten [wPL cI cB cO A o1.2.1, [(ao, .inl (cL, 1, .inr (.inl o1.2.2)))]]) (seg_split (segs := [wPL cI cB cO A o1.2.1, wMO cI cB am o2.2, [(ao, .inl (cL, 1, .inr (.inl o1.2.2)))]]) (Wc := [wMO cI cB am o2.2]) (Wr := [wPL cI cB cO A o1.2.1, [(ao, .inl (cL, 1, .inr (.inl o1.2.2)))]]) [1] [0, 2] rfl rfl 3 rfl (by decide)) (q0 := 0) rfl rfl rfl ⟨(Nat.le_of_ble_eq_true rfl), (Nat.le_of_ble_eq_true rfl)⟩ hkn (Nat.le_of_ble_eq_true rfl) ?_
  rintro v w1 ⟨rfl, rfl⟩
  refine J_perm (ws2 := (List.flatten [wPL cI cB cO A o1.2.1, wMO cI cB am o2.2, [(ao, .inl (cL, 1, .inr (.inl o1.2.2)))]])) (seg_split (segs := [wPL cI cB cO A o1.2.1, wMO cI cB am o2.2, [(ao, .inl (cL, 1, .inr (.inl o1.2.2)))]]) (Wc := [wMO cI cB am o2.2]) (Wr := [wPL cI cB cO A o1.2.1, [(ao, .inl (cL, 1, .inr (.inl o1.2.2)))]]) [1] [0, 2] rfl rfl 3 rfl (by decide)).symm ?_
  refine J_iload (pc := 1531) C dlw_1531 1 rfl ?_
  refine J_ic_eq (α := Unit) (o := ()) (X := some ()) (Y := none) (pc := 1533) (tgt := 1538) C dlw_1533 (by decide) (if_pos hth) (fun _ => ?_) (fun h => by cases h)
  refine J_iload (pc := 1538) C dlw_1538 1 rfl ?_
  by_cases h0 : o1.1 = 0
  · refine J_if_ne (α := Unit) (o := ()) (X := some ()) (Y := none) (pc := 1540) (tgt := 1555) C dlw_1540 (by decide) (if_pos h0) (fun h => by cases h) (fun _ => ?_)
    refine J_aload_n (pc := 1543) C dlw_1543 3 rfl ?_
    refine J_iconst (v := (0 : Int32)) (pc := 1544) C dlw_1544 (by decide) ?_
    refine J_perm (ws2 := [(ao, .inl (cL, 1, .inr (.inl o1.2.2)))] ++ List.flatten [wPL cI cB cO A o1.2.1, wMO cI cB am o2.2]) (by simpa using seg_split (segs := [wPL cI cB cO A o1.2.1, wMO cI cB am o2.2, [(ao, .inl (cL, 1, .inr (.inl o1.2.2)))]]) (Wc := [[(ao, .inl (cL, 1, .inr (.inl o1.2.2)))]]) (Wr := [wPL cI cB cO A o1.2.1, wMO cI cB am o2.2]) [2] [0, 1] rfl rfl 3 rfl (by decide)) ?_
    refine J_lald (pc := 1545) C dlw_1545 0 2 (rfl : ([(ao, .inl (cL, 1, .inr (.inl o1.2.2)))] ++ List.flatten [wPL cI cB cO A o1.2.1, wMO cI cB am o2.2] : va_W)[0]? = some (ao, .inl (cL, 1, .inr (.inl o1.2.2)))) rfl (by unfold vp_in; decide) ?_
    refine J_perm (ws2 := (List.flatten [wPL cI cB cO A o1.2.1, wMO cI cB am o2.2, [(ao, .inl (cL, 1, .inr (.inl o1.2.2)))]])) (by simpa using (seg_split (segs := [wPL cI cB cO A o1.2.1, wMO cI cB am o2.2, [(ao, .inl (cL, 1, .inr (.inl o1.2.2)))]]) (Wc := [[(ao, .inl (cL, 1, .inr (.inl o1.2.2)))]]) (Wr := [wPL cI cB cO A o1.2.1, wMO cI cB am o2.2]) [2] [0, 1] rfl rfl 3 rfl (by decide)).symm) ?_
    refine J_iload (pc := 1546) C dlw_1546 0 rfl ?_
    refine J_i2l (pc := 1548) C dlw_1548 ?_
    refine J_lcmp (pc := 1549) C dlw_1549 ?_
    refine J_if_eq (α := Unit) (o := ()) (X := some ()) (Y := none) (pc := 1550) (tgt := 1555) C dlw_1550 (by decide) (if_pos (by have hv := hval h0; rw [show (0 : Int32).toNatClampNeg = 0 from rfl, hv]; exact lg_cmp_self _)) (fun _ => ?_) (fun h => by cases h)
    refine J_goto (tgt := 3187) (pc := 1555) C dlw_1555 (by decide) ?_
    refine J_sub (lv2 := [(4, .int i), (3, .ref ao), (2, .ref (am 0)), (1, .ref (A 0 0)), (0, .ref b)]) [2, 3, 4, 5, 6] rfl ?_
    exact kx _ _ _ hRn
  · refine J_if_ne (α := Unit) (o := ()) (X := none) (Y := some ()) (pc := 1540) (tgt := 1555) C dlw_1540 (by decide) (if_neg h0) (fun _ => ?_) (fun h => by cases h)
    refine J_goto (tgt := 3187) (pc := 1555) C dlw_1555 (by decide) ?_
    refine J_sub (lv2 := [(4, .int i), (3, .ref ao), (2, .ref (am 0)), (1, .ref (A 0 0)), (0, .ref b)]) [2, 3, 4, 5, 6] rfl ?_
    exact kx _ _ _ hRn
set_option maxHeartbeats 4000000 in
set_option maxRecDepth 100000 in
theorem K_household {p : Program} {l : Launch} {e : Env} {s : State} {m : MethodId} {below : List Frame} {meth : Method} {c : Code} {D : va_G} {cI cB cL cO : ClassId} {pf : Nat → Nat} {Q : State → Prop} {k n b L : Nat} {xs : Nat → Int32} {N : Nat} {A : Nat → Nat → Nat} {am : Nat → Nat} {ao : Nat} {i : Int32} {Rl : Nat → T_PL → T_MO → Prop} {st : T_PL} {mo : T_MO} {f : Nat → Int64} {kk : Nat} (C : jC p s m #[Value.ref b] meth c code 7 R_lawN D [(cI, .int), (cB, .byte), (cL, .long), (cO, .object RX0)] pf (fun q => s.heap.size ≤ q)) (hl : l.stackTraces = false) (hX : va_X b L xs s s.heap) (hbl : b < s.heap.size) (hbA : ¬ (fun q : Nat => s.heap.size ≤ q) b) (h1 : vp_in (i + (1 : Int32)) L) (h2 : vp_in (i + (2 : Int32)) L) (h3 : vp_in (i + (3 : Int32)) L) (h4 : vp_in (i + (4 : Int32)) L) (h5 : vp_in (i + (5 : Int32)) L) (hSt : (∀ x1 : Int32, StA Rl (fun s f => W_household N s f x1) (fun m => F_M_household N m x1))) (hk : kk < 512) (hR : Rl kk st mo) (hkn : k + 4 ≤ room_1.cells ∧ n + 24 ≤ room_1.slots) (kx : ∀ st2 mo2 f2, Rl (kk + 1) st2 mo2 → J p l e room_1 s m #[Value.ref b] below meth c 7 D (fun q => s.heap.size ≤ q) Q (k + 4) (n + 24) 3187 [(4, .int i), (3, .ref ao), (2, .ref (am 0)), (1, .ref (A 0 0)), (0, .ref b)] [] (List.flatten [wPL cI cB cO A st2, wMO cI cB am mo2, [(ao, .inl (cL, 1, .inr (.inl f2)))]])) : J p l e room_1 s m #[Value.ref b] below meth c 7 D (fun q => s.heap.size ≤ q) Q (k) (n) 1558 [(4, .int i), (3, .ref ao), (2, .ref (am 0)), (1, .ref (A 0 0)), (0, .ref b)] [] (List.flatten [wPL cI cB cO A st, wMO cI cB am mo, [(ao, .inl (cL, 1, .inr (.inl f)))]]) := by
  refine J_aload_n (pc := 1558) C dlw_1558 3 rfl ?_
  refine J_aload_n (pc := 1559) C dlw_1559 4 rfl ?_
  refine J_iload (pc := 1560) C dlw_1560 0 rfl ?_
  refine J_iconst (v := (1 : Int32)) (pc := 1562) C dlw_1562 (by decide) ?_
  refine J_iadd (pc := 1563) C dlw_1563 ?_
  refine J_sld C hX hbl hbA (pc := 1564) dlw_1564 h1 ?_
  refine J_aload_n (pc := 1565) C dlw_1565 1 rfl ?_
  obtain ⟨o1, o2, e1, e2, hth, hval, hRn⟩ := hSt (xs (i + (1 : Int32)).toNatClampNeg) kk st mo f hk hR
  refine J_csH (pc := 1566) (As := [.ref (A 0 0), .int (xs (i + (1 : Int32)).toNatClampNeg), .ref ao]) (st := []) C dlw_1566 ml_L_242 wh_household (V_household l hl D cI cB cL cO pf N A ao st f (xs (i + (1 : Int32)).toNatClampNeg) o1 e1) (List.flatten [wMO cI cB am mo]) (seg_split (segs := [wPL cI cB cO A st, wMO cI cB am mo, [(ao, .inl (cL, 1, .inr (.inl f)))]]) (Wc := [wPL cI cB cO A st, [(ao, .inl (cL, 1, .inr (.inl f)))]]) (Wr := [wMO cI cB am mo]) [0, 2] [1] rfl rfl 3 rfl (by decide)) rfl ⟨(Nat.le_of_ble_eq_true rfl), (Nat.le_of_ble_eq_true rfl)⟩ ⟨Nat.le_trans (Nat.add_le_add_left (Nat.le_of_ble_eq_true rfl) _) hkn.1, Nat.le_trans (Nat.add_le_add_left (Nat.le_of_ble_eq_true rfl) _) hkn.2⟩ (Nat.le_of_ble_eq_true rfl) ?_
  rintro v w1 ⟨rfl, rfl⟩
  refine J_perm (ws2 := (List.flatten [wPL cI cB cO A o1.2.1, wMO cI cB am mo, [(ao, .inl (cL, 1, .inr (.inl o1.2.2)))]])) (seg_split (segs := [wPL cI cB cO A o1.2.1, wMO cI cB am mo, [(ao, .inl (cL, 1, .inr (.inl o1.2.2)))]]) (Wc := [wPL cI cB cO A o1.2.1, [(ao, .inl (cL, 1, .inr (.inl o1.2.2)))]]) (Wr := [wMO cI cB am mo]) [0, 2] [1] rfl rfl 3 rfl (by decide)).symm ?_
  refine J_widen (k2 := k + 4) (n2 := n + 24) (Nat.add_le_add_left (Nat.le_of_ble_eq_true rfl) _) (Nat.add_le_add_left (Nat.le_of_ble_eq_true rfl) _) ?_
  refine J_istore (lv2 := [(5, .int o1.1), (4, .int i), (3, .ref ao), (2, .ref (am 0)), (1, .ref (A 0 0)), (0, .ref b)]) (pc := 1569) C dlw_1569 (by decide) rfl ?_
  refine J_aload_n (pc := 1571) C dlw_1571 3 rfl ?_
  refine J_aload_n (pc := 1572) C dlw_1572 5 rfl ?_
  refine J_iload (pc := 1573) C dlw_1573 1 rfl ?_
  refine J_iconst (v := (1 : Int32)) (pc := 1575) C dlw_1575 (by decide) ?_
  refine J_iadd (pc := 1576) C dlw_1576 ?_
  refine J_sld C hX hbl hbA (pc := 1577) dlw_1577 h1 ?_
  refine J_cvF (pc := 1578) (As := [.int (xs (i + (1 : Int32)).toNatClampNeg)]) (st := []) C dlw_1578 ml_L_244 mi_yX11_household (C_M_household l D cI cB cL cO pf N am mo (xs (i + (1 : Int32)).toNatClampNeg) o2 e2) (List.flatten [wPL cI cB cO A o1.2.1, [(ao, .inl (cL, 1, .inr (.inl o1.2.2)))]]) (seg_split (segs := [wPL cI cB cO A o1.2.1, wMO cI cB am mo, [(ao, .inl (cL, 1, .inr (.inl o1.2.2)))]]) (Wc := [wMO cI cB am mo]) (Wr := [wPL cI cB cO A o1.2.1, [(ao, .inl (cL, 1, .inr (.inl o1.2.2)))]]) [1] [0, 2] rfl rfl 3 rfl (by decide)) (q0 := 0) rfl rfl rfl ⟨(Nat.le_of_ble_eq_true rfl), (Nat.le_of_ble_eq_true rfl)⟩ hkn (Nat.le_of_ble_eq_true rfl) ?_
  rintro v w1 ⟨rfl, rfl⟩
  refine J_perm (ws2 := (List.flatten [wPL cI cB cO A o1.2.1, wMO cI cB am o2.2, [(ao, .inl (cL, 1, .inr (.inl o1.2.2)))]])) (seg_split (segs := [wPL cI cB cO A o1.2.1, wMO cI cB am o2.2, [(ao, .inl (cL, 1, .inr (.inl o1.2.2)))]]) (Wc := [wMO cI cB am o2.2]) (Wr := [wPL cI cB cO A o1.2.1, [(ao, .inl (cL, 1, .inr (.inl o1.2.2)))]]) [1] [0, 2] rfl rfl 3 rfl (by decide)).symm ?_
  refine J_istore (lv2 := [(6, .int o2.1), (5, .int o1.1), (4, .int i), (3, .ref ao), (2, .ref (am 0)), (1, .ref (A 0 0)), (0, .ref b)]) (pc := 1581) C dlw_1581 (by decide) rfl ?_
  refine J_aload_n (pc := 1583) C dlw_1583 4 rfl ?_
  refine J_cvF (pc := 1584) (As := []) (st := []) C dlw_1584 ml_L_170 mi_yX11_thrown (C_M_thrown l D cI cB cL cO pf N am o2.2 o2.2.1 rfl) (List.flatten [wPL cI cB cO A o1.2.1, [(ao, .inl (cL, 1, .inr (.inl o1.2.2)))]]) (seg_split (segs := [wPL cI cB cO A o1.2.1, wMO cI cB am o2.2, [(ao, .inl (cL, 1, .inr (.inl o1.2.2)))]]) (Wc := [wMO cI cB am o2.2]) (Wr := [wPL cI cB cO A o1.2.1, [(ao, .inl (cL, 1, .inr (.inl o1.2.2)))]]) [1] [0, 2] rfl rfl 3 rfl (by decide)) (q0 := 0) rfl rfl rfl ⟨(Nat.le_of_ble_eq_true rfl), (Nat.le_of_ble_eq_true rfl)⟩ hkn (Nat.le_of_ble_eq_true rfl) ?_
  rintro v w1 ⟨rfl, rfl⟩
  refine J_perm (ws2 := (List.flatten [wPL cI cB cO A o1.2.1, wMO cI cB am o2.2, [(ao, .inl (cL, 1, .inr (.inl o1.2.2)))]])) (seg_split (segs := [wPL cI cB cO A o1.2.1, wMO cI cB am o2.2, [(ao, .inl (cL, 1, .inr (.inl o1.2.2)))]]) (Wc := [wMO cI cB am o2.2]) (Wr := [wPL cI cB cO A o1.2.1, [(ao, .inl (cL, 1, .inr (.inl o1.2.2)))]]) [1] [0, 2] rfl rfl 3 rfl (by decide)).symm ?_
  refine J_iload (pc := 1587) C dlw_1587 1 rfl ?_
  refine J_ic_eq (α := Unit) (o := ()) (X := some ()) (Y := none) (pc := 1589) (tgt := 1594) C dlw_1589 (by decide) (if_pos hth) (fun _ => ?_) (fun h => by cases h)
  refine J_iload (pc := 1594) C dlw_1594 1 rfl ?_
  by_cases h0 : o1.1 = 0
  · refine J_if_ne (α := Unit) (o := ()) (X := some ()) (Y := none) (pc := 1596) (tgt := 1611) C dlw_1596 (by decide) (if_pos h0) (fun h => by cases h) (fun _ => ?_)
    refine J_aload_n (pc := 1599) C dlw_1599 3 rfl ?_
    refine J_iconst (v := (0 : Int32)) (pc := 1600) C dlw_1600 (by decide) ?_
    refine J_perm (ws2 := [(ao, .inl (cL, 1, .inr (.inl o1.2.2)))] ++ List.flatten [wPL cI cB cO A o1.2.1, wMO cI cB am o2.2]) (by simpa using seg_split (segs := [wPL cI cB cO A o1.2.1, wMO cI cB am o2.2, [(ao, .inl (cL, 1, .inr (.inl o1.2.2)))]]) (Wc := [[(ao, .inl (cL, 1, .inr (.inl o1.2.2)))]]) (Wr := [wPL cI cB cO A o1.2.1, wMO cI cB am o2.2]) [2] [0, 1] rfl rfl 3 rfl (by decide)) ?_
    refine J_lald (pc := 1601) C dlw_1601 0 2 (rfl : ([(ao, .inl (cL, 1, .inr (.inl o1.2.2)))] ++ List.flatten [wPL cI cB cO A o1.2.1, wMO cI cB am o2.2] : va_W)[0]? = some (ao, .inl (cL, 1, .inr (.inl o1.2.2)))) rfl (by unfold vp_in; decide) ?_
    refine J_perm (ws2 := (List.flatten [wPL cI cB cO A o1.2.1, wMO cI cB am o2.2, [(ao, .inl (cL, 1, .inr (.inl o1.2.2)))]])) (by simpa using (seg_split (segs := [wPL cI cB cO A o1.2.1, wMO cI cB am o2.2, [(ao, .inl (cL, 1, .inr (.inl o1.2.2)))]]) (Wc := [[(ao, .inl (cL, 1, .inr (.inl o1.2.2)))]]) (Wr := [wPL cI cB cO A o1.2.1, wMO cI cB am o2.2]) [2] [0, 1] rfl rfl 3 rfl (by decide)).symm) ?_
    refine J_iload (pc := 1602) C dlw_1602 0 rfl ?_
    refine J_i2l (pc := 1604) C dlw_1604 ?_
    refine J_lcmp (pc := 1605) C dlw_1605 ?_
    refine J_if_eq (α := Unit) (o := ()) (X := some ()) (Y := none) (pc := 1606) (tgt := 1611) C dlw_1606 (by decide) (if_pos (by have hv := hval h0; rw [show (0 : Int32).toNatClampNeg = 0 from rfl, hv]; exact lg_cmp_self _)) (fun _ => ?_) (fun h => by cases h)
    refine J_goto (tgt := 3187) (pc := 1611) C dlw_1611 (by decide) ?_
    refine J_sub (lv2 := [(4, .int i), (3, .ref ao), (2, .ref (am 0)), (1, .ref (A 0 0)), (0, .ref b)]) [2, 3, 4, 5, 6] rfl ?_
    exact kx _ _ _ hRn
  · refine J_if_ne (α := Unit) (o := ()) (X := none) (Y := some ()) (pc := 1596) (tgt := 1611) C dlw_1596 (by decide) (if_neg h0) (fun _ => ?_) (fun h => by cases h)
    refine J_goto (tgt := 3187) (pc := 1611) C dlw_1611 (by decide) ?_
    refine J_sub (lv2 := [(4, .int i), (3, .ref ao), (2, .ref (am 0)), (1, .ref (A 0 0)), (0, .ref b)]) [2, 3, 4, 5, 6] rfl ?_
    exact kx _ _ _ hRn
set_option maxHeartbeats 4000000 in
set_option maxRecDepth 100000 in
theorem K_members {p : Program} {l : Launch} {e : Env} {s : State} {m : MethodId} {below : List Frame} {meth : Method} {c : Code} {D : va_G} {cI cB cL cO : ClassId} {pf : Nat → Nat} {Q : State → Prop} {k n b L : Nat} {xs : Nat → Int32} {N : Nat} {A : Nat → Nat → Nat} {am : Nat → Nat} {ao : Nat} {i : Int32} {Rl : Nat → T_PL → T_MO → Prop} {st : T_PL} {mo : T_MO} {f : Nat → Int64} {kk : Nat} (C : jC p s m #[Value.ref b] meth c code 7 R_lawN D [(cI, .int), (cB, .byte), (cL, .long), (cO, .object RX0)] pf (fun q => s.heap.size ≤ q)) (hl : l.stackTraces = false) (hX : va_X b L xs s s.heap) (hbl : b < s.heap.size) (hbA : ¬ (fun q : Nat => s.heap.size ≤ q) b) (h1 : vp_in (i + (1 : Int32)) L) (h2 : vp_in (i + (2 : Int32)) L) (h3 : vp_in (i + (3 : Int32)) L) (h4 : vp_in (i + (4 : Int32)) L) (h5 : vp_in (i + (5 : Int32)) L) (hSt : (∀ x1 : Int32, StA Rl (fun s f => W_members N s f x1) (fun m => F_M_members N m x1))) (hk : kk < 512) (hR : Rl kk st mo) (hkn : k + 4 ≤ room_1.cells ∧ n + 24 ≤ room_1.slots) (kx : ∀ st2 mo2 f2, Rl (kk + 1) st2 mo2 → J p l e room_1 s m #[Value.ref b] below meth c 7 D (fun q => s.heap.size ≤ q) Q (k + 4) (n + 24) 3187 [(4, .int i), (3, .ref ao), (2, .ref (am 0)), (1, .ref (A 0 0)), (0, .ref b)] [] (List.flatten [wPL cI cB cO A st2, wMO cI cB am mo2, [(ao, .inl (cL, 1, .inr (.inl f2)))]])) : J p l e room_1 s m #[Value.ref b] below meth c 7 D (fun q => s.heap.size ≤ q) Q (k) (n) 1614 [(4, .int i), (3, .ref ao), (2, .ref (am 0)), (1, .ref (A 0 0)), (0, .ref b)] [] (List.flatten [wPL cI cB cO A st, wMO cI cB am mo, [(ao, .inl (cL, 1, .inr (.inl f)))]]) := by
  refine J_aload_n (pc := 1614) C dlw_1614 3 rfl ?_
  refine J_aload_n (pc := 1615) C dlw_1615 4 rfl ?_
  refine J_iload (pc := 1616) C dlw_1616 0 rfl ?_
  refine J_iconst (v := (1 : Int32)) (pc := 1618) C dlw_1618 (by decide) ?_
  refine J_iadd (pc := 1619) C dlw_1619 ?_
  refine J_sld C hX hbl hbA (pc := 1620) dlw_1620 h1 ?_
  refine J_aload_n (pc := 1621) C dlw_1621 1 rfl ?_
  obtain ⟨o1, o2, e1, e2, hth, hval, hRn⟩ := hSt (xs (i + (1 : Int32)).toNatClampNeg) kk st mo f hk hR
  refine J_csH (pc := 1622) (As := [.ref (A 0 0), .int (xs (i + (1 : Int32)).toNatClampNeg), .ref ao]) (st := []) C dlw_1622 ml_L_245 wh_members (V_members l hl D cI cB cL cO pf N A ao st f (xs (i + (1 : Int32)).toNatClampNeg) o1 e1) (List.flatten [wMO cI cB am mo]) (seg_split (segs := [wPL cI cB cO A st, wMO cI cB am mo, [(ao, .inl (cL, 1, .inr (.inl f)))]]) (Wc := [wPL cI cB cO A st, [(ao, .inl (cL, 1, .inr (.inl f)))]]) (Wr := [wMO cI cB am mo]) [0, 2] [1] rfl rfl 3 rfl (by decide)) rfl ⟨(Nat.le_of_ble_eq_true rfl), (Nat.le_of_ble_eq_true rfl)⟩ ⟨Nat.le_trans (Nat.add_le_add_left (Nat.le_of_ble_eq_true rfl) _) hkn.1, Nat.le_trans (Nat.add_le_add_left (Nat.le_of_ble_eq_true rfl) _) hkn.2⟩ (Nat.le_of_ble_eq_true rfl) ?_
  rintro v w1 ⟨rfl, rfl⟩
  refine J_perm (ws2 := (List.flatten [wPL cI cB cO A o1.2.1, wMO cI cB am mo, [(ao, .inl (cL, 1, .inr (.inl o1.2.2)))]])) (seg_split (segs := [wPL cI cB cO A o1.2.1, wMO cI cB am mo, [(ao, .inl (cL, 1, .inr (.inl o1.2.2)))]]) (Wc := [wPL cI cB cO A o1.2.1, [(ao, .inl (cL, 1, .inr (.inl o1.2.2)))]]) (Wr := [wMO cI cB am mo]) [0, 2] [1] rfl rfl 3 rfl (by decide)).symm ?_
  refine J_widen (k2 := k + 4) (n2 := n + 24) (Nat.add_le_add_left (Nat.le_of_ble_eq_true rfl) _) (Nat.add_le_add_left (Nat.le_of_ble_eq_true rfl) _) ?_
  refine J_istore (lv2 := [(5, .int o1.1), (4, .int i), (3, .ref ao), (2, .ref (am 0)), (1, .ref (A 0 0)), (0, .ref b)]) (pc := 1625) C dlw_1625 (by decide) rfl ?_
  refine J_aload_n (pc := 1627) C dlw_1627 3 rfl ?_
  refine J_aload_n (pc := 1628) C dlw_1628 5 rfl ?_
  refine J_iload (pc := 1629) C dlw_1629 1 rfl ?_
  refine J_iconst (v := (1 : Int32)) (pc := 1631) C dlw_1631 (by decide) ?_
  refine J_iadd (pc := 1632) C dlw_1632 ?_
  refine J_sld C hX hbl hbA (pc := 1633) dlw_1633 h1 ?_
  refine J_cvF (pc := 1634) (As := [.int (xs (i + (1 : Int32)).toNatClampNeg)]) (st := []) C dlw_1634 ml_L_247 mi_yX11_members (C_M_members l D cI cB cL cO pf N am mo (xs (i + (1 : Int32)).toNatClampNeg) o2 e2) (List.flatten [wPL cI cB cO A o1.2.1, [(ao, .inl (cL, 1, .inr (.inl o1.2.2)))]]) (seg_split (segs := [wPL cI cB cO A o1.2.1, wMO cI cB am mo, [(ao, .inl (cL, 1, .inr (.inl o1.2.2)))]]) (Wc := [wMO cI cB am mo]) (Wr := [wPL cI cB cO A o1.2.1, [(ao, .inl (cL, 1, .inr (.inl o1.2.2)))]]) [1] [0, 2] rfl rfl 3 rfl (by decide)) (q0 := 0) rfl rfl rfl ⟨(Nat.le_of_ble_eq_true rfl), (Nat.le_of_ble_eq_true rfl)⟩ hkn (Nat.le_of_ble_eq_true rfl) ?_
  rintro v w1 ⟨rfl, rfl⟩
  refine J_perm (ws2 := (List.flatten [wPL cI cB cO A o1.2.1, wMO cI cB am o2.2, [(ao, .inl (cL, 1, .inr (.inl o1.2.2)))]])) (seg_split (segs := [wPL cI cB cO A o1.2.1, wMO cI cB am o2.2, [(ao, .inl (cL, 1, .inr (.inl o1.2.2)))]]) (Wc := [wMO cI cB am o2.2]) (Wr := [wPL cI cB cO A o1.2.1, [(ao, .inl (cL, 1, .inr (.inl o1.2.2)))]]) [1] [0, 2] rfl rfl 3 rfl (by decide)).symm ?_
  refine J_istore (lv2 := [(6, .int o2.1), (5, .int o1.1), (4, .int i), (3, .ref ao), (2, .ref (am 0)), (1, .ref (A 0 0)), (0, .ref b)]) (pc := 1637) C dlw_1637 (by decide) rfl ?_
  refine J_aload_n (pc := 1639) C dlw_1639 4 rfl ?_
  refine J_cvF (pc := 1640) (As := []) (st := []) C dlw_1640 ml_L_170 mi_yX11_thrown (C_M_thrown l D cI cB cL cO pf N am o2.2 o2.2.1 rfl) (List.flatten [wPL cI cB cO A o1.2.1, [(ao, .inl (cL, 1, .inr (.inl o1.2.2)))]]) (seg_split (segs := [wPL cI cB cO A o1.2.1, wMO cI cB am o2.2, [(ao, .inl (cL, 1, .inr (.inl o1.2.2)))]]) (Wc := [wMO cI cB am o2.2]) (Wr := [wPL cI cB cO A o1.2.1, [(ao, .inl (cL, 1, .inr (.inl o1.2.2)))]]) [1] [0, 2] rfl rfl 3 rfl (by decide)) (q0 := 0) rfl rfl rfl ⟨(Nat.le_of_ble_eq_true rfl), (Nat.le_of_ble_eq_true rfl)⟩ hkn (Nat.le_of_ble_eq_true rfl) ?_
  rintro v w1 ⟨rfl, rfl⟩
  refine J_perm (ws2 := (List.flatten [wPL cI cB cO A o1.2.1, wMO cI cB am o2.2, [(ao, .inl (cL, 1, .inr (.inl o1.2.2)))]])) (seg_split (segs := [wPL cI cB cO A o1.2.1, wMO cI cB am o2.2, [(ao, .inl (cL, 1, .inr (.inl o1.2.2)))]]) (Wc := [wMO cI cB am o2.2]) (Wr := [wPL cI cB cO A o1.2.1, [(ao, .inl (cL, 1, .inr (.inl o1.2.2)))]]) [1] [0, 2] rfl rfl 3 rfl (by decide)).symm ?_
  refine J_iload (pc := 1643) C dlw_1643 1 rfl ?_
  refine J_ic_eq (α := Unit) (o := ()) (X := some ()) (Y := none) (pc := 1645) (tgt := 1650) C dlw_1645 (by decide) (if_pos hth) (fun _ => ?_) (fun h => by cases h)
  refine J_iload (pc := 1650) C dlw_1650 1 rfl ?_
  by_cases h0 : o1.1 = 0
  · refine J_if_ne (α := Unit) (o := ()) (X := some ()) (Y := none) (pc := 1652) (tgt := 1667) C dlw_1652 (by decide) (if_pos h0) (fun h => by cases h) (fun _ => ?_)
    refine J_aload_n (pc := 1655) C dlw_1655 3 rfl ?_
    refine J_iconst (v := (0 : Int32)) (pc := 1656) C dlw_1656 (by decide) ?_
    refine J_perm (ws2 := [(ao, .inl (cL, 1, .inr (.inl o1.2.2)))] ++ List.flatten [wPL cI cB cO A o1.2.1, wMO cI cB am o2.2]) (by simpa using seg_split (segs := [wPL cI cB cO A o1.2.1, wMO cI cB am o2.2, [(ao, .inl (cL, 1, .inr (.inl o1.2.2)))]]) (Wc := [[(ao, .inl (cL, 1, .inr (.inl o1.2.2)))]]) (Wr := [wPL cI cB cO A o1.2.1, wMO cI cB am o2.2]) [2] [0, 1] rfl rfl 3 rfl (by decide)) ?_
    refine J_lald (pc := 1657) C dlw_1657 0 2 (rfl : ([(ao, .inl (cL, 1, .inr (.inl o1.2.2)))] ++ List.flatten [wPL cI cB cO A o1.2.1, wMO cI cB am o2.2] : va_W)[0]? = some (ao, .inl (cL, 1, .inr (.inl o1.2.2)))) rfl (by unfold vp_in; decide) ?_
    refine J_perm (ws2 := (List.flatten [wPL cI cB cO A o1.2.1, wMO cI cB am o2.2, [(ao, .inl (cL, 1, .inr (.inl o1.2.2)))]])) (by simpa using (seg_split (segs := [wPL cI cB cO A o1.2.1, wMO cI cB am o2.2, [(ao, .inl (cL, 1, .inr (.inl o1.2.2)))]]) (Wc := [[(ao, .inl (cL, 1, .inr (.inl o1.2.2)))]]) (Wr := [wPL cI cB cO A o1.2.1, wMO cI cB am o2.2]) [2] [0, 1] rfl rfl 3 rfl (by decide)).symm) ?_
    refine J_iload (pc := 1658) C dlw_1658 0 rfl ?_
    refine J_i2l (pc := 1660) C dlw_1660 ?_
    refine J_lcmp (pc := 1661) C dlw_1661 ?_
    refine J_if_eq (α := Unit) (o := ()) (X := some ()) (Y := none) (pc := 1662) (tgt := 1667) C dlw_1662 (by decide) (if_pos (by have hv := hval h0; rw [show (0 : Int32).toNatClampNeg = 0 from rfl, hv]; exact lg_cmp_self _)) (fun _ => ?_) (fun h => by cases h)
    refine J_goto (tgt := 3187) (pc := 1667) C dlw_1667 (by decide) ?_
    refine J_sub (lv2 := [(4, .int i), (3, .ref ao), (2, .ref (am 0)), (1, .ref (A 0 0)), (0, .ref b)]) [2, 3, 4, 5, 6] rfl ?_
    exact kx _ _ _ hRn
  · refine J_if_ne (α := Unit) (o := ()) (X := none) (Y := some ()) (pc := 1652) (tgt := 1667) C dlw_1652 (by decide) (if_neg h0) (fun _ => ?_) (fun h => by cases h)
    refine J_goto (tgt := 3187) (pc := 1667) C dlw_1667 (by decide) ?_
    refine J_sub (lv2 := [(4, .int i), (3, .ref ao), (2, .ref (am 0)), (1, .ref (A 0 0)), (0, .ref b)]) [2, 3, 4, 5, 6] rfl ?_
    exact kx _ _ _ hRn
set_option maxHeartbeats 4000000 in
set_option maxRecDepth 100000 in
theorem K_poolBalance {p : Program} {l : Launch} {e : Env} {s : State} {m : MethodId} {below : List Frame} {meth : Method} {c : Code} {D : va_G} {cI cB cL cO : ClassId} {pf : Nat → Nat} {Q : State → Prop} {k n b L : Nat} {xs : Nat → Int32} {N : Nat} {A : Nat → Nat → Nat} {am : Nat → Nat} {ao : Nat} {i : Int32} {Rl : Nat → T_PL → T_MO → Prop} {st : T_PL} {mo : T_MO} {f : Nat → Int64} {kk : Nat} (C : jC p s m #[Value.ref b] meth c code 7 R_lawN D [(cI, .int), (cB, .byte), (cL, .long), (cO, .object RX0)] pf (fun q => s.heap.size ≤ q)) (hl : l.stackTraces = false) (hX : va_X b L xs s s.heap) (hbl : b < s.heap.size) (hbA : ¬ (fun q : Nat => s.heap.size ≤ q) b) (h1 : vp_in (i + (1 : Int32)) L) (h2 : vp_in (i + (2 : Int32)) L) (h3 : vp_in (i + (3 : Int32)) L) (h4 : vp_in (i + (4 : Int32)) L) (h5 : vp_in (i + (5 : Int32)) L) (hSt : (∀ x1 : Int32, StA Rl (fun s f => W_poolBalance N s f x1) (fun m => F_M_poolBalance N m x1))) (hk : kk < 512) (hR : Rl kk st mo) (hkn : k + 4 ≤ room_1.cells ∧ n + 24 ≤ room_1.slots) (kx : ∀ st2 mo2 f2, Rl (kk + 1) st2 mo2 → J p l e room_1 s m #[Value.ref b] below meth c 7 D (fun q => s.heap.size ≤ q) Q (k + 4) (n + 24) 3187 [(4, .int i), (3, .ref ao), (2, .ref (am 0)), (1, .ref (A 0 0)), (0, .ref b)] [] (List.flatten [wPL cI cB cO A st2, wMO cI cB am mo2, [(ao, .inl (cL, 1, .inr (.inl f2)))]])) : J p l e room_1 s m #[Value.ref b] below meth c 7 D (fun q => s.heap.size ≤ q) Q (k) (n) 1670 [(4, .int i), (3, .ref ao), (2, .ref (am 0)), (1, .ref (A 0 0)), (0, .ref b)] [] (List.flatten [wPL cI cB cO A st, wMO cI cB am mo, [(ao, .inl (cL, 1, .inr (.inl f)))]]) := by
  refine J_aload_n (pc := 1670) C dlw_1670 3 rfl ?_
  refine J_aload_n (pc := 1671) C dlw_1671 4 rfl ?_
  refine J_iload (pc := 1672) C dlw_1672 0 rfl ?_
  refine J_iconst (v := (1 : Int32)) (pc := 1674) C dlw_1674 (by decide) ?_
  refine J_iadd (pc := 1675) C dlw_1675 ?_
  refine J_sld C hX hbl hbA (pc := 1676) dlw_1676 h1 ?_
  refine J_aload_n (pc := 1677) C dlw_1677 1 rfl ?_
  obtain ⟨o1, o2, e1, e2, hth, hval, hRn⟩ := hSt (xs (i + (1 : Int32)).toNatClampNeg) kk st mo f hk hR
  refine J_csH (pc := 1678) (As := [.ref (A 0 0), .int (xs (i + (1 : Int32)).toNatClampNeg), .ref ao]) (st := []) C dlw_1678 ml_L_248 wh_poolBalance (V_poolBalance l hl D cI cB cL cO pf N A ao st f (xs (i + (1 : Int32)).toNatClampNeg) o1 e1) (List.flatten [wMO cI cB am mo]) (seg_split (segs := [wPL cI cB cO A st, wMO cI cB am mo, [(ao, .inl (cL, 1, .inr (.inl f)))]]) (Wc := [wPL cI cB cO A st, [(ao, .inl (cL, 1, .inr (.inl f)))]]) (Wr := [wMO cI cB am mo]) [0, 2] [1] rfl rfl 3 rfl (by decide)) rfl ⟨(Nat.le_of_ble_eq_true rfl), (Nat.le_of_ble_eq_true rfl)⟩ ⟨Nat.le_trans (Nat.add_le_add_left (Nat.le_of_ble_eq_true rfl) _) hkn.1, Nat.le_trans (Nat.add_le_add_left (Nat.le_of_ble_eq_true rfl) _) hkn.2⟩ (Nat.le_of_ble_eq_true rfl) ?_
  rintro v w1 ⟨rfl, rfl⟩
  refine J_perm (ws2 := (List.flatten [wPL cI cB cO A o1.2.1, wMO cI cB am mo, [(ao, .inl (cL, 1, .inr (.inl o1.2.2)))]])) (seg_split (segs := [wPL cI cB cO A o1.2.1, wMO cI cB am mo, [(ao, .inl (cL, 1, .inr (.inl o1.2.2)))]]) (Wc := [wPL cI cB cO A o1.2.1, [(ao, .inl (cL, 1, .inr (.inl o1.2.2)))]]) (Wr := [wMO cI cB am mo]) [0, 2] [1] rfl rfl 3 rfl (by decide)).symm ?_
  refine J_widen (k2 := k + 4) (n2 := n + 24) (Nat.add_le_add_left (Nat.le_of_ble_eq_true rfl) _) (Nat.add_le_add_left (Nat.le_of_ble_eq_true rfl) _) ?_
  refine J_istore (lv2 := [(5, .int o1.1), (4, .int i), (3, .ref ao), (2, .ref (am 0)), (1, .ref (A 0 0)), (0, .ref b)]) (pc := 1681) C dlw_1681 (by decide) rfl ?_
  refine J_aload_n (pc := 1683) C dlw_1683 3 rfl ?_
  refine J_aload_n (pc := 1684) C dlw_1684 5 rfl ?_
  refine J_iload (pc := 1685) C dlw_1685 1 rfl ?_
  refine J_iconst (v := (1 : Int32)) (pc := 1687) C dlw_1687 (by decide) ?_
  refine J_iadd (pc := 1688) C dlw_1688 ?_
  refine J_sld C hX hbl hbA (pc := 1689) dlw_1689 h1 ?_
  refine J_cvF (pc := 1690) (As := [.int (xs (i + (1 : Int32)).toNatClampNeg)]) (st := []) C dlw_1690 ml_L_250 mi_yX11_poolBalance (C_M_poolBalance l D cI cB cL cO pf N am mo (xs (i + (1 : Int32)).toNatClampNeg) o2 e2) (List.flatten [wPL cI cB cO A o1.2.1, [(ao, .inl (cL, 1, .inr (.inl o1.2.2)))]]) (seg_split (segs := [wPL cI cB cO A o1.2.1, wMO cI cB am mo, [(ao, .inl (cL, 1, .inr (.inl o1.2.2)))]]) (Wc := [wMO cI cB am mo]) (Wr := [wPL cI cB cO A o1.2.1, [(ao, .inl (cL, 1, .inr (.inl o1.2.2)))]]) [1] [0, 2] rfl rfl 3 rfl (by decide)) (q0 := 0) rfl rfl rfl ⟨(Nat.le_of_ble_eq_true rfl), (Nat.le_of_ble_eq_true rfl)⟩ hkn (Nat.le_of_ble_eq_true rfl) ?_
  rintro v w1 ⟨rfl, rfl⟩
  refine J_perm (ws2 := (List.flatten [wPL cI cB cO A o1.2.1, wMO cI cB am o2.2, [(ao, .inl (cL, 1, .inr (.inl o1.2.2)))]])) (seg_split (segs := [wPL cI cB cO A o1.2.1, wMO cI cB am o2.2, [(ao, .inl (cL, 1, .inr (.inl o1.2.2)))]]) (Wc := [wMO cI cB am o2.2]) (Wr := [wPL cI cB cO A o1.2.1, [(ao, .inl (cL, 1, .inr (.inl o1.2.2)))]]) [1] [0, 2] rfl rfl 3 rfl (by decide)).symm ?_
  refine J_istore (lv2 := [(6, .int o2.1), (5, .int o1.1), (4, .int i), (3, .ref ao), (2, .ref (am 0)), (1, .ref (A 0 0)), (0, .ref b)]) (pc := 1693) C dlw_1693 (by decide) rfl ?_
  refine J_aload_n (pc := 1695) C dlw_1695 4 rfl ?_
  refine J_cvF (pc := 1696) (As := []) (st := []) C dlw_1696 ml_L_170 mi_yX11_thrown (C_M_thrown l D cI cB cL cO pf N am o2.2 o2.2.1 rfl) (List.flatten [wPL cI cB cO A o1.2.1, [(ao, .inl (cL, 1, .inr (.inl o1.2.2)))]]) (seg_split (segs := [wPL cI cB cO A o1.2.1, wMO cI cB am o2.2, [(ao, .inl (cL, 1, .inr (.inl o1.2.2)))]]) (Wc := [wMO cI cB am o2.2]) (Wr := [wPL cI cB cO A o1.2.1, [(ao, .inl (cL, 1, .inr (.inl o1.2.2)))]]) [1] [0, 2] rfl rfl 3 rfl (by decide)) (q0 := 0) rfl rfl rfl ⟨(Nat.le_of_ble_eq_true rfl), (Nat.le_of_ble_eq_true rfl)⟩ hkn (Nat.le_of_ble_eq_true rfl) ?_
  rintro v w1 ⟨rfl, rfl⟩
  refine J_perm (ws2 := (List.flatten [wPL cI cB cO A o1.2.1, wMO cI cB am o2.2, [(ao, .inl (cL, 1, .inr (.inl o1.2.2)))]])) (seg_split (segs := [wPL cI cB cO A o1.2.1, wMO cI cB am o2.2, [(ao, .inl (cL, 1, .inr (.inl o1.2.2)))]]) (Wc := [wMO cI cB am o2.2]) (Wr := [wPL cI cB cO A o1.2.1, [(ao, .inl (cL, 1, .inr (.inl o1.2.2)))]]) [1] [0, 2] rfl rfl 3 rfl (by decide)).symm ?_
  refine J_iload (pc := 1699) C dlw_1699 1 rfl ?_
  refine J_ic_eq (α := Unit) (o := ()) (X := some ()) (Y := none) (pc := 1701) (tgt := 1706) C dlw_1701 (by decide) (if_pos hth) (fun _ => ?_) (fun h => by cases h)
  refine J_iload (pc := 1706) C dlw_1706 1 rfl ?_
  by_cases h0 : o1.1 = 0
  · refine J_if_ne (α := Unit) (o := ()) (X := some ()) (Y := none) (pc := 1708) (tgt := 1723) C dlw_1708 (by decide) (if_pos h0) (fun h => by cases h) (fun _ => ?_)
    refine J_aload_n (pc := 1711) C dlw_1711 3 rfl ?_
    refine J_iconst (v := (0 : Int32)) (pc := 1712) C dlw_1712 (by decide) ?_
    refine J_perm (ws2 := [(ao, .inl (cL, 1, .inr (.inl o1.2.2)))] ++ List.flatten [wPL cI cB cO A o1.2.1, wMO cI cB am o2.2]) (by simpa using seg_split (segs := [wPL cI cB cO A o1.2.1, wMO cI cB am o2.2, [(ao, .inl (cL, 1, .inr (.inl o1.2.2)))]]) (Wc := [[(ao, .inl (cL, 1, .inr (.inl o1.2.2)))]]) (Wr := [wPL cI cB cO A o1.2.1, wMO cI cB am o2.2]) [2] [0, 1] rfl rfl 3 rfl (by decide)) ?_
    refine J_lald (pc := 1713) C dlw_1713 0 2 (rfl : ([(ao, .inl (cL, 1, .inr (.inl o1.2.2)))] ++ List.flatten [wPL cI cB cO A o1.2.1, wMO cI cB am o2.2] : va_W)[0]? = some (ao, .inl (cL, 1, .inr (.inl o1.2.2)))) rfl (by unfold vp_in; decide) ?_
    refine J_perm (ws2 := (List.flatten [wPL cI cB cO A o1.2.1, wMO cI cB am o2.2, [(ao, .inl (cL, 1, .inr (.inl o1.2.2)))]])) (by simpa using (seg_split (segs := [wPL cI cB cO A o1.2.1, wMO cI cB am o2.2, [(ao, .inl (cL, 1, .inr (.inl o1.2.2)))]]) (Wc := [[(ao, .inl (cL, 1, .inr (.inl o1.2.2)))]]) (Wr := [wPL cI cB cO A o1.2.1, wMO cI cB am o2.2]) [2] [0, 1] rfl rfl 3 rfl (by decide)).symm) ?_
    refine J_iload (pc := 1714) C dlw_1714 0 rfl ?_
    refine J_i2l (pc := 1716) C dlw_1716 ?_
    refine J_lcmp (pc := 1717) C dlw_1717 ?_
    refine J_if_eq (α := Unit) (o := ()) (X := some ()) (Y := none) (pc := 1718) (tgt := 1723) C dlw_1718 (by decide) (if_pos (by have hv := hval h0; rw [show (0 : Int32).toNatClampNeg = 0 from rfl, hv]; exact lg_cmp_self _)) (fun _ => ?_) (fun h => by cases h)
    refine J_goto (tgt := 3187) (pc := 1723) C dlw_1723 (by decide) ?_
    refine J_sub (lv2 := [(4, .int i), (3, .ref ao), (2, .ref (am 0)), (1, .ref (A 0 0)), (0, .ref b)]) [2, 3, 4, 5, 6] rfl ?_
    exact kx _ _ _ hRn
  · refine J_if_ne (α := Unit) (o := ()) (X := none) (Y := some ()) (pc := 1708) (tgt := 1723) C dlw_1708 (by decide) (if_neg h0) (fun _ => ?_) (fun h => by cases h)
    refine J_goto (tgt := 3187) (pc := 1723) C dlw_1723 (by decide) ?_
    refine J_sub (lv2 := [(4, .int i), (3, .ref ao), (2, .ref (am 0)), (1, .ref (A 0 0)), (0, .ref b)]) [2, 3, 4, 5, 6] rfl ?_
    exact kx _ _ _ hRn
set_option maxHeartbeats 4000000 in
set_option maxRecDepth 100000 in
theorem K_poolCohortCount {p : Program} {l : Launch} {e : Env} {s : State} {m : MethodId} {below : List Frame} {meth : Method} {c : Code} {D : va_G} {cI cB cL cO : ClassId} {pf : Nat → Nat} {Q : State → Prop} {k n b L : Nat} {xs : Nat → Int32} {N : Nat} {A : Nat → Nat → Nat} {am : Nat → Nat} {ao : Nat} {i : Int32} {Rl : Nat → T_PL → T_MO → Prop} {st : T_PL} {mo : T_MO} {f : Nat → Int64} {kk : Nat} (C : jC p s m #[Value.ref b] meth c code 7 R_lawN D [(cI, .int), (cB, .byte), (cL, .long), (cO, .object RX0)] pf (fun q => s.heap.size ≤ q)) (hl : l.stackTraces = false) (hX : va_X b L xs s s.heap) (hbl : b < s.heap.size) (hbA : ¬ (fun q : Nat => s.heap.size ≤ q) b) (h1 : vp_in (i + (1 : Int32)) L) (h2 : vp_in (i + (2 : Int32)) L) (h3 : vp_in (i + (3 : Int32)) L) (h4 : vp_in (i + (4 : Int32)) L) (h5 : vp_in (i + (5 : Int32)) L) (hSt : (∀ x1 : Int32, StA Rl (fun s f => W_poolCohortCount N s f x1) (fun m => F_M_poolCohortCount N m x1))) (hk : kk < 512) (hR : Rl kk st mo) (hkn : k + 4 ≤ room_1.cells ∧ n + 24 ≤ room_1.slots) (kx : ∀ st2 mo2 f2, Rl (kk + 1) st2 mo2 → J p l e room_1 s m #[Value.ref b] below meth c 7 D (fun q => s.heap.size ≤ q) Q (k + 4) (n + 24) 3187 [(4, .int i), (3, .ref ao), (2, .ref (am 0)), (1, .ref (A 0 0)), (0, .ref b)] [] (List.flatten [wPL cI cB cO A st2, wMO cI cB am mo2, [(ao, .inl (cL, 1, .inr (.inl f2)))]])) : J p l e room_1 s m #[Value.ref b] below meth c 7 D (fun q => s.heap.size ≤ q) Q (k) (n) 1726 [(4, .int i), (3, .ref ao), (2, .ref (am 0)), (1, .ref (A 0 0)), (0, .ref b)] [] (List.flatten [wPL cI cB cO A st, wMO cI cB am mo, [(ao, .inl (cL, 1, .inr (.inl f)))]]) := by
  refine J_aload_n (pc := 1726) C dlw_1726 3 rfl ?_
  refine J_aload_n (pc := 1727) C dlw_1727 4 rfl ?_
  refine J_iload (pc := 1728) C dlw_1728 0 rfl ?_
  refine J_iconst (v := (1 : Int32)) (pc := 1730) C dlw_1730 (by decide) ?_
  refine J_iadd (pc := 1731) C dlw_1731 ?_
  refine J_sld C hX hbl hbA (pc := 1732) dlw_1732 h1 ?_
  refine J_aload_n (pc := 1733) C dlw_1733 1 rfl ?_
  obtain ⟨o1, o2, e1, e2, hth, hval, hRn⟩ := hSt (xs (i + (1 : Int32)).toNatClampNeg) kk st mo f hk hR
  refine J_csH (pc := 1734) (As := [.ref (A 0 0), .int (xs (i + (1 : Int32)).toNatClampNeg), .ref ao]) (st := []) C dlw_1734 ml_L_251 wh_poolCohortCount (V_poolCohortCount l hl D cI cB cL cO pf N A ao st f (xs (i + (1 : Int32)).toNatClampNeg) o1 e1) (List.flatten [wMO cI cB am mo]) (seg_split (segs := [wPL cI cB cO A st, wMO cI cB am mo, [(ao, .inl (cL, 1, .inr (.inl f)))]]) (Wc := [wPL cI cB cO A st, [(ao, .inl (cL, 1, .inr (.inl f)))]]) (Wr := [wMO cI cB am mo]) [0, 2] [1] rfl rfl 3 rfl (by decide)) rfl ⟨(Nat.le_of_ble_eq_true rfl), (Nat.le_of_ble_eq_true rfl)⟩ ⟨Nat.le_trans (Nat.add_le_add_left (Nat.le_of_ble_eq_true rfl) _) hkn.1, Nat.le_trans (Nat.add_le_add_left (Nat.le_of_ble_eq_true rfl) _) hkn.2⟩ (Nat.le_of_ble_eq_true rfl) ?_
  rintro v w1 ⟨rfl, rfl⟩
  refine J_perm (ws2 := (List.flatten [wPL cI cB cO A o1.2.1, wMO cI cB am mo, [(ao, .inl (cL, 1, .inr (.inl o1.2.2)))]])) (seg_split (segs := [wPL cI cB cO A o1.2.1, wMO cI cB am mo, [(ao, .inl (cL, 1, .inr (.inl o1.2.2)))]]) (Wc := [wPL cI cB cO A o1.2.1, [(ao, .inl (cL, 1, .inr (.inl o1.2.2)))]]) (Wr := [wMO cI cB am mo]) [0, 2] [1] rfl rfl 3 rfl (by decide)).symm ?_
  refine J_widen (k2 := k + 4) (n2 := n + 24) (Nat.add_le_add_left (Nat.le_of_ble_eq_true rfl) _) (Nat.add_le_add_left (Nat.le_of_ble_eq_true rfl) _) ?_
  refine J_istore (lv2 := [(5, .int o1.1), (4, .int i), (3, .ref ao), (2, .ref (am 0)), (1, .ref (A 0 0)), (0, .ref b)]) (pc := 1737) C dlw_1737 (by decide) rfl ?_
  refine J_aload_n (pc := 1739) C dlw_1739 3 rfl ?_
  refine J_aload_n (pc := 1740) C dlw_1740 5 rfl ?_
  refine J_iload (pc := 1741) C dlw_1741 1 rfl ?_
  refine J_iconst (v := (1 : Int32)) (pc := 1743) C dlw_1743 (by decide) ?_
  refine J_iadd (pc := 1744) C dlw_1744 ?_
  refine J_sld C hX hbl hbA (pc := 1745) dlw_1745 h1 ?_
  refine J_cvF (pc := 1746) (As := [.int (xs (i + (1 : Int32)).toNatClampNeg)]) (st := []) C dlw_1746 ml_L_253 mi_yX11_poolCohortCount (C_M_poolCohortCount l D cI cB cL cO pf N am mo (xs (i + (1 : Int32)).toNatClampNeg) o2 e2) (List.flatten [wPL cI cB cO A o1.2.1, [(ao, .inl (cL, 1, .inr (.inl o1.2.2)))]]) (seg_split (segs := [wPL cI cB cO A o1.2.1, wMO cI cB am mo, [(ao, .inl (cL, 1, .inr (.inl o1.2.2)))]]) (Wc := [wMO cI cB am mo]) (Wr := [wPL cI cB cO A o1.2.1, [(ao, .inl (cL, 1, .inr (.inl o1.2.2)))]]) [1] [0, 2] rfl rfl 3 rfl (by decide)) (q0 := 0) rfl rfl rfl ⟨(Nat.le_of_ble_eq_true rfl), (Nat.le_of_ble_eq_true rfl)⟩ hkn (Nat.le_of_ble_eq_true rfl) ?_
  rintro v w1 ⟨rfl, rfl⟩
  refine J_perm (ws2 := (List.flatten [wPL cI cB cO A o1.2.1, wMO cI cB am o2.2, [(ao, .inl (cL, 1, .inr (.inl o1.2.2)))]])) (seg_split (segs := [wPL cI cB cO A o1.2.1, wMO cI cB am o2.2, [(ao, .inl (cL, 1, .inr (.inl o1.2.2)))]]) (Wc := [wMO cI cB am o2.2]) (Wr := [wPL cI cB cO A o1.2.1, [(ao, .inl (cL, 1, .inr (.inl o1.2.2)))]]) [1] [0, 2] rfl rfl 3 rfl (by decide)).symm ?_
  refine J_istore (lv2 := [(6, .int o2.1), (5, .int o1.1), (4, .int i), (3, .ref ao), (2, .ref (am 0)), (1, .ref (A 0 0)), (0, .ref b)]) (pc := 1749) C dlw_1749 (by decide) rfl ?_
  refine J_aload_n (pc := 1751) C dlw_1751 4 rfl ?_
  refine J_cvF (pc := 1752) (As := []) (st := []) C dlw_1752 ml_L_170 mi_yX11_thrown (C_M_thrown l D cI cB cL cO pf N am o2.2 o2.2.1 rfl) (List.flatten [wPL cI cB cO A o1.2.1, [(ao, .inl (cL, 1, .inr (.inl o1.2.2)))]]) (seg_split (segs := [wPL cI cB cO A o1.2.1, wMO cI cB am o2.2, [(ao, .inl (cL, 1, .inr (.inl o1.2.2)))]]) (Wc := [wMO cI cB am o2.2]) (Wr := [wPL cI cB cO A o1.2.1, [(ao, .inl (cL, 1, .inr (.inl o1.2.2)))]]) [1] [0, 2] rfl rfl 3 rfl (by decide)) (q0 := 0) rfl rfl rfl ⟨(Nat.le_of_ble_eq_true rfl), (Nat.le_of_ble_eq_true rfl)⟩ hkn (Nat.le_of_ble_eq_true rfl) ?_
  rintro v w1 ⟨rfl, rfl⟩
  refine J_perm (ws2 := (List.flatten [wPL cI cB cO A o1.2.1, wMO cI cB am o2.2, [(ao, .inl (cL, 1, .inr (.inl o1.2.2)))]])) (seg_split (segs := [wPL cI cB cO A o1.2.1, wMO cI cB am o2.2, [(ao, .inl (cL, 1, .inr (.inl o1.2.2)))]]) (Wc := [wMO cI cB am o2.2]) (Wr := [wPL cI cB cO A o1.2.1, [(ao, .inl (cL, 1, .inr (.inl o1.2.2)))]]) [1] [0, 2] rfl rfl 3 rfl (by decide)).symm ?_
  refine J_iload (pc := 1755) C dlw_1755 1 rfl ?_
  refine J_ic_eq (α := Unit) (o := ()) (X := some ()) (Y := none) (pc := 1757) (tgt := 1762) C dlw_1757 (by decide) (if_pos hth) (fun _ => ?_) (fun h => by cases h)
  refine J_iload (pc := 1762) C dlw_1762 1 rfl ?_
  by_cases h0 : o1.1 = 0
  · refine J_if_ne (α := Unit) (o := ()) (X := some ()) (Y := none) (pc := 1764) (tgt := 1779) C dlw_1764 (by decide) (if_pos h0) (fun h => by cases h) (fun _ => ?_)
    refine J_aload_n (pc := 1767) C dlw_1767 3 rfl ?_
    refine J_iconst (v := (0 : Int32)) (pc := 1768) C dlw_1768 (by decide) ?_
    refine J_perm (ws2 := [(ao, .inl (cL, 1, .inr (.inl o1.2.2)))] ++ List.flatten [wPL cI cB cO A o1.2.1, wMO cI cB am o2.2]) (by simpa using seg_split (segs := [wPL cI cB cO A o1.2.1, wMO cI cB am o2.2, [(ao, .inl (cL, 1, .inr (.inl o1.2.2)))]]) (Wc := [[(ao, .inl (cL, 1, .inr (.inl o1.2.2)))]]) (Wr := [wPL cI cB cO A o1.2.1, wMO cI cB am o2.2]) [2] [0, 1] rfl rfl 3 rfl (by decide)) ?_
    refine J_lald (pc := 1769) C dlw_1769 0 2 (rfl : ([(ao, .inl (cL, 1, .inr (.inl o1.2.2)))] ++ List.flatten [wPL cI cB cO A o1.2.1, wMO cI cB am o2.2] : va_W)[0]? = some (ao, .inl (cL, 1, .inr (.inl o1.2.2)))) rfl (by unfold vp_in; decide) ?_
    refine J_perm (ws2 := (List.flatten [wPL cI cB cO A o1.2.1, wMO cI cB am o2.2, [(ao, .inl (cL, 1, .inr (.inl o1.2.2)))]])) (by simpa using (seg_split (segs := [wPL cI cB cO A o1.2.1, wMO cI cB am o2.2, [(ao, .inl (cL, 1, .inr (.inl o1.2.2)))]]) (Wc := [[(ao, .inl (cL, 1, .inr (.inl o1.2.2)))]]) (Wr := [wPL cI cB cO A o1.2.1, wMO cI cB am o2.2]) [2] [0, 1] rfl rfl 3 rfl (by decide)).symm) ?_
    refine J_iload (pc := 1770) C dlw_1770 0 rfl ?_
    refine J_i2l (pc := 1772) C dlw_1772 ?_
    refine J_lcmp (pc := 1773) C dlw_1773 ?_
    refine J_if_eq (α := Unit) (o := ()) (X := some ()) (Y := none) (pc := 1774) (tgt := 1779) C dlw_1774 (by decide) (if_pos (by have hv := hval h0; rw [show (0 : Int32).toNatClampNeg = 0 from rfl, hv]; exact lg_cmp_self _)) (fun _ => ?_) (fun h => by cases h)
    refine J_goto (tgt := 3187) (pc := 1779) C dlw_1779 (by decide) ?_
    refine J_sub (lv2 := [(4, .int i), (3, .ref ao), (2, .ref (am 0)), (1, .ref (A 0 0)), (0, .ref b)]) [2, 3, 4, 5, 6] rfl ?_
    exact kx _ _ _ hRn
  · refine J_if_ne (α := Unit) (o := ()) (X := none) (Y := some ()) (pc := 1764) (tgt := 1779) C dlw_1764 (by decide) (if_neg h0) (fun _ => ?_) (fun h => by cases h)
    refine J_goto (tgt := 3187) (pc := 1779) C dlw_1779 (by decide) ?_
    refine J_sub (lv2 := [(4, .int i), (3, .ref ao), (2, .ref (am 0)), (1, .ref (A 0 0)), (0, .ref b)]) [2, 3, 4, 5, 6] rfl ?_
    exact kx _ _ _ hRn
set_option maxHeartbeats 4000000 in
set_option maxRecDepth 100000 in
theorem K_poolCohort {p : Program} {l : Launch} {e : Env} {s : State} {m : MethodId} {below : List Frame} {meth : Method} {c : Code} {D : va_G} {cI cB cL cO : ClassId} {pf : Nat → Nat} {Q : State → Prop} {k n b L : Nat} {xs : Nat → Int32} {N : Nat} {A : Nat → Nat → Nat} {am : Nat → Nat} {ao : Nat} {i : Int32} {Rl : Nat → T_PL → T_MO → Prop} {st : T_PL} {mo : T_MO} {f : Nat → Int64} {kk : Nat} (C : jC p s m #[Value.ref b] meth c code 7 R_lawN D [(cI, .int), (cB, .byte), (cL, .long), (cO, .object RX0)] pf (fun q => s.heap.size ≤ q)) (hl : l.stackTraces = false) (hX : va_X b L xs s s.heap) (hbl : b < s.heap.size) (hbA : ¬ (fun q : Nat => s.heap.size ≤ q) b) (h1 : vp_in (i + (1 : Int32)) L) (h2 : vp_in (i + (2 : Int32)) L) (h3 : vp_in (i + (3 : Int32)) L) (h4 : vp_in (i + (4 : Int32)) L) (h5 : vp_in (i + (5 : Int32)) L) (hSt : (∀ x1 : Int32, ∀ x2 : Int32, ∀ x3 : Int32, StA Rl (fun s f => W_poolCohort N s f x1 x2 x3) (fun m => F_M_poolCohort N m x1 x2 x3))) (hk : kk < 512) (hR : Rl kk st mo) (hkn : k + 4 ≤ room_1.cells ∧ n + 24 ≤ room_1.slots) (kx : ∀ st2 mo2 f2, Rl (kk + 1) st2 mo2 → J p l e room_1 s m #[Value.ref b] below meth c 7 D (fun q => s.heap.size ≤ q) Q (k + 4) (n + 24) 3187 [(4, .int i), (3, .ref ao), (2, .ref (am 0)), (1, .ref (A 0 0)), (0, .ref b)] [] (List.flatten [wPL cI cB cO A st2, wMO cI cB am mo2, [(ao, .inl (cL, 1, .inr (.inl f2)))]])) : J p l e room_1 s m #[Value.ref b] below meth c 7 D (fun q => s.heap.size ≤ q) Q (k) (n) 1782 [(4, .int i), (3, .ref ao), (2, .ref (am 0)), (1, .ref (A 0 0)), (0, .ref b)] [] (List.flatten [wPL cI cB cO A st, wMO cI cB am mo, [(ao, .inl (cL, 1, .inr (.inl f)))]]) := by
  refine J_aload_n (pc := 1782) C dlw_1782 3 rfl ?_
  refine J_aload_n (pc := 1783) C dlw_1783 4 rfl ?_
  refine J_iload (pc := 1784) C dlw_1784 0 rfl ?_
  refine J_iconst (v := (1 : Int32)) (pc := 1786) C dlw_1786 (by decide) ?_
  refine J_iadd (pc := 1787) C dlw_1787 ?_
  refine J_sld C hX hbl hbA (pc := 1788) dlw_1788 h1 ?_
  refine J_aload_n (pc := 1789) C dlw_1789 4 rfl ?_
  refine J_iload (pc := 1790) C dlw_1790 0 rfl ?_
  refine J_iconst (v := (2 : Int32)) (pc := 1792) C dlw_1792 (by decide) ?_
  refine J_iadd (pc := 1793) C dlw_1793 ?_
  refine J_sld C hX hbl hbA (pc := 1794) dlw_1794 h2 ?_
  refine J_aload_n (pc := 1795) C dlw_1795 4 rfl ?_
  refine J_iload (pc := 1796) C dlw_1796 0 rfl ?_
  refine J_iconst (v := (3 : Int32)) (pc := 1798) C dlw_1798 (by decide) ?_
  refine J_iadd (pc := 1799) C dlw_1799 ?_
  refine J_sld C hX hbl hbA (pc := 1800) dlw_1800 h3 ?_
  refine J_aload_n (pc := 1801) C dlw_1801 1 rfl ?_
  obtain ⟨o1, o2, e1, e2, hth, hval, hRn⟩ := hSt (xs (i + (1 : Int32)).toNatClampNeg) (xs (i + (2 : Int32)).toNatClampNeg) (xs (i + (3 : Int32)).toNatClampNeg) kk st mo f hk hR
  refine J_csH (pc := 1802) (As := [.ref (A 0 0), .int (xs (i + (1 : Int32)).toNatClampNeg), .int (xs (i + (2 : Int32)).toNatClampNeg), .int (xs (i + (3 : Int32)).toNatClampNeg), .ref ao]) (st := []) C dlw_1802 ml_L_254 wh_poolCohort (V_poolCohort l hl D cI cB cL cO pf N A ao st f (xs (i + (1 : Int32)).toNatClampNeg) (xs (i + (2 : Int32)).toNatClampNeg) (xs (i + (3 : Int32)).toNatClampNeg) o1 e1) (List.flatten [wMO cI cB am mo]) (seg_split (segs := [wPL cI cB cO A st, wMO cI cB am mo, [(ao, .inl (cL, 1, .inr (.inl f)))]]) (Wc := [wPL cI cB cO A st, [(ao, .inl (cL, 1, .inr (.inl f)))]]) (Wr := [wMO cI cB am mo]) [0, 2] [1] rfl rfl 3 rfl (by decide)) rfl ⟨(Nat.le_of_ble_eq_true rfl), (Nat.le_of_ble_eq_true rfl)⟩ ⟨Nat.le_trans (Nat.add_le_add_left (Nat.le_of_ble_eq_true rfl) _) hkn.1, Nat.le_trans (Nat.add_le_add_left (Nat.le_of_ble_eq_true rfl) _) hkn.2⟩ (Nat.le_of_ble_eq_true rfl) ?_
  rintro v w1 ⟨rfl, rfl⟩
  refine J_perm (ws2 := (List.flatten [wPL cI cB cO A o1.2.1, wMO cI cB am mo, [(ao, .inl (cL, 1, .inr (.inl o1.2.2)))]])) (seg_split (segs := [wPL cI cB cO A o1.2.1, wMO cI cB am mo, [(ao, .inl (cL, 1, .inr (.inl o1.2.2)))]]) (Wc := [wPL cI cB cO A o1.2.1, [(ao, .inl (cL, 1, .inr (.inl o1.2.2)))]]) (Wr := [wMO cI cB am mo]) [0, 2] [1] rfl rfl 3 rfl (by decide)).symm ?_
  refine J_widen (k2 := k + 4) (n2 := n + 24) (Nat.add_le_add_left (Nat.le_of_ble_eq_true rfl) _) (Nat.add_le_add_left (Nat.le_of_ble_eq_true rfl) _) ?_
  refine J_istore (lv2 := [(5, .int o1.1), (4, .int i), (3, .ref ao), (2, .ref (am 0)), (1, .ref (A 0 0)), (0, .ref b)]) (pc := 1805) C dlw_1805 (by decide) rfl ?_
  refine J_aload_n (pc := 1807) C dlw_1807 3 rfl ?_
  refine J_aload_n (pc := 1808) C dlw_1808 5 rfl ?_
  refine J_iload (pc := 1809) C dlw_1809 1 rfl ?_
  refine J_iconst (v := (1 : Int32)) (pc := 1811) C dlw_1811 (by decide) ?_
  refine J_iadd (pc := 1812) C dlw_1812 ?_
  refine J_sld C hX hbl hbA (pc := 1813) dlw_1813 h1 ?_
  refine J_aload_n (pc := 1814) C dlw_1814 5 rfl ?_
  refine J_iload (pc := 1815) C dlw_1815 1 rfl ?_
  refine J_iconst (v := (2 : Int32)) (pc := 1817) C dlw_1817 (by decide) ?_
  refine J_iadd (pc := 1818) C dlw_1818 ?_
  refine J_sld C hX hbl hbA (pc := 1819) dlw_1819 h2 ?_
  refine J_aload_n (pc := 1820) C dlw_1820 5 rfl ?_
  refine J_iload (pc := 1821) C dlw_1821 1 rfl ?_
  refine J_iconst (v := (3 : Int32)) (pc := 1823) C dlw_1823 (by decide) ?_
  refine J_iadd (pc := 1824) C dlw_1824 ?_
  refine J_sld C hX hbl hbA (pc := 1825) dlw_1825 h3 ?_
  refine J_cvF (pc := 1826) (As := [.int (xs (i + (1 : Int32)).toNatClampNeg), .int (xs (i + (2 : Int32)).toNatClampNeg), .int (xs (i + (3 : Int32)).toNatClampNeg)]) (st := []) C dlw_1826 ml_L_256 mi_yX11_poolCohort (C_M_poolCohort l D cI cB cL cO pf N am mo (xs (i + (1 : Int32)).toNatClampNeg) (xs (i + (2 : Int32)).toNatClampNeg) (xs (i + (3 : Int32)).toNatClampNeg) o2 e2) (List.flatten [wPL cI cB cO A o1.2.1, [(ao, .inl (cL, 1, .inr (.inl o1.2.2)))]]) (seg_split (segs := [wPL cI cB cO A o1.2.1, wMO cI cB am mo, [(ao, .inl (cL, 1, .inr (.inl o1.2.2)))]]) (Wc := [wMO cI cB am mo]) (Wr := [wPL cI cB cO A o1.2.1, [(ao, .inl (cL, 1, .inr (.inl o1.2.2)))]]) [1] [0, 2] rfl rfl 3 rfl (by decide)) (q0 := 0) rfl rfl rfl ⟨(Nat.le_of_ble_eq_true rfl), (Nat.le_of_ble_eq_true rfl)⟩ hkn (Nat.le_of_ble_eq_true rfl) ?_
  rintro v w1 ⟨rfl, rfl⟩
  refine J_perm (ws2 := (List.flatten [wPL cI cB cO A o1.2.1, wMO cI cB am o2.2, [(ao, .inl (cL, 1, .inr (.inl o1.2.2)))]])) (seg_split (segs := [wPL cI cB cO A o1.2.1, wMO cI cB am o2.2, [(ao, .inl (cL, 1, .inr (.inl o1.2.2)))]]) (Wc := [wMO cI cB am o2.2]) (Wr := [wPL cI cB cO A o1.2.1, [(ao, .inl (cL, 1, .inr (.inl o1.2.2)))]]) [1] [0, 2] rfl rfl 3 rfl (by decide)).symm ?_
  refine J_istore (lv2 := [(6, .int o2.1), (5, .int o1.1), (4, .int i), (3, .ref ao), (2, .ref (am 0)), (1, .ref (A 0 0)), (0, .ref b)]) (pc := 1829) C dlw_1829 (by decide) rfl ?_
  refine J_aload_n (pc := 1831) C dlw_1831 4 rfl ?_
  refine J_cvF (pc := 1832) (As := []) (st := []) C dlw_1832 ml_L_170 mi_yX11_thrown (C_M_thrown l D cI cB cL cO pf N am o2.2 o2.2.1 rfl) (List.flatten [wPL cI cB cO A o1.2.1, [(ao, .inl (cL, 1, .inr (.inl o1.2.2)))]]) (seg_split (segs := [wPL cI cB cO A o1.2.1, wMO cI cB am o2.2, [(ao, .inl (cL, 1, .inr (.inl o1.2.2)))]]) (Wc := [wMO cI cB am o2.2]) (Wr := [wPL cI cB cO A o1.2.1, [(ao, .inl (cL, 1, .inr (.inl o1.2.2)))]]) [1] [0, 2] rfl rfl 3 rfl (by decide)) (q0 := 0) rfl rfl rfl ⟨(Nat.le_of_ble_eq_true rfl), (Nat.le_of_ble_eq_true rfl)⟩ hkn (Nat.le_of_ble_eq_true rfl) ?_
  rintro v w1 ⟨rfl, rfl⟩
  refine J_perm (ws2 := (List.flatten [wPL cI cB cO A o1.2.1, wMO cI cB am o2.2, [(ao, .inl (cL, 1, .inr (.inl o1.2.2)))]])) (seg_split (segs := [wPL cI cB cO A o1.2.1, wMO cI cB am o2.2, [(ao, .inl (cL, 1, .inr (.inl o1.2.2)))]]) (Wc := [wMO cI cB am o2.2]) (Wr := [wPL cI cB cO A o1.2.1, [(ao, .inl (cL, 1, .inr (.inl o1.2.2)))]]) [1] [0, 2] rfl rfl 3 rfl (by decide)).symm ?_
  refine J_iload (pc := 1835) C dlw_1835 1 rfl ?_
  refine J_ic_eq (α := Unit) (o := ()) (X := some ()) (Y := none) (pc := 1837) (tgt := 1842) C dlw_1837 (by decide) (if_pos hth) (fun _ => ?_) (fun h => by cases h)
  refine J_iload (pc := 1842) C dlw_1842 1 rfl ?_
  by_cases h0 : o1.1 = 0
  · refine J_if_ne (α := Unit) (o := ()) (X := some ()) (Y := none) (pc := 1844) (tgt := 1859) C dlw_1844 (by decide) (if_pos h0) (fun h => by cases h) (fun _ => ?_)
    refine J_aload_n (pc := 1847) C dlw_1847 3 rfl ?_
    refine J_iconst (v := (0 : Int32)) (pc := 1848) C dlw_1848 (by decide) ?_
    refine J_perm (ws2 := [(ao, .inl (cL, 1, .inr (.inl o1.2.2)))] ++ List.flatten [wPL cI cB cO A o1.2.1, wMO cI cB am o2.2]) (by simpa using seg_split (segs := [wPL cI cB cO A o1.2.1, wMO cI cB am o2.2, [(ao, .inl (cL, 1, .inr (.inl o1.2.2)))]]) (Wc := [[(ao, .inl (cL, 1, .inr (.inl o1.2.2)))]]) (Wr := [wPL cI cB cO A o1.2.1, wMO cI cB am o2.2]) [2] [0, 1] rfl rfl 3 rfl (by decide)) ?_
    refine J_lald (pc := 1849) C dlw_1849 0 2 (rfl : ([(ao, .inl (cL, 1, .inr (.inl o1.2.2)))] ++ List.flatten [wPL cI cB cO A o1.2.1, wMO cI cB am o2.2] : va_W)[0]? = some (ao, .inl (cL, 1, .inr (.inl o1.2.2)))) rfl (by unfold vp_in; decide) ?_
    refine J_perm (ws2 := (List.flatten [wPL cI cB cO A o1.2.1, wMO cI cB am o2.2, [(ao, .inl (cL, 1, .inr (.inl o1.2.2)))]])) (by simpa using (seg_split (segs := [wPL cI cB cO A o1.2.1, wMO cI cB am o2.2, [(ao, .inl (cL, 1, .inr (.inl o1.2.2)))]]) (Wc := [[(ao, .inl (cL, 1, .inr (.inl o1.2.2)))]]) (Wr := [wPL cI cB cO A o1.2.1, wMO cI cB am o2.2]) [2] [0, 1] rfl rfl 3 rfl (by decide)).symm) ?_
    refine J_iload (pc := 1850) C dlw_1850 0 rfl ?_
    refine J_i2l (pc := 1852) C dlw_1852 ?_
    refine J_lcmp (pc := 1853) C dlw_1853 ?_
    refine J_if_eq (α := Unit) (o := ()) (X := some ()) (Y := none) (pc := 1854) (tgt := 1859) C dlw_1854 (by decide) (if_pos (by have hv := hval h0; rw [show (0 : Int32).toNatClampNeg = 0 from rfl, hv]; exact lg_cmp_self _)) (fun _ => ?_) (fun h => by cases h)
    refine J_goto (tgt := 3187) (pc := 1859) C dlw_1859 (by decide) ?_
    refine J_sub (lv2 := [(4, .int i), (3, .ref ao), (2, .ref (am 0)), (1, .ref (A 0 0)), (0, .ref b)]) [2, 3, 4, 5, 6] rfl ?_
    exact kx _ _ _ hRn
  · refine J_if_ne (α := Unit) (o := ()) (X := none) (Y := some ()) (pc := 1844) (tgt := 1859) C dlw_1844 (by decide) (if_neg h0) (fun _ => ?_) (fun h => by cases h)
    refine J_goto (tgt := 3187) (pc := 1859) C dlw_1859 (by decide) ?_
    refine J_sub (lv2 := [(4, .int i), (3, .ref ao), (2, .ref (am 0)), (1, .ref (A 0 0)), (0, .ref b)]) [2, 3, 4, 5, 6] rfl ?_
    exact kx _ _ _ hRn
set_option maxHeartbeats 4000000 in
set_option maxRecDepth 100000 in
theorem K_contributed {p : Program} {l : Launch} {e : Env} {s : State} {m : MethodId} {below : List Frame} {meth : Method} {c : Code} {D : va_G} {cI cB cL cO : ClassId} {pf : Nat → Nat} {Q : State → Prop} {k n b L : Nat} {xs : Nat → Int32} {N : Nat} {A : Nat → Nat → Nat} {am : Nat → Nat} {ao : Nat} {i : Int32} {Rl : Nat → T_PL → T_MO → Prop} {st : T_PL} {mo : T_MO} {f : Nat → Int64} {kk : Nat} (C : jC p s m #[Value.ref b] meth c code 7 R_lawN D [(cI, .int), (cB, .byte), (cL, .long), (cO, .object RX0)] pf (fun q => s.heap.size ≤ q)) (hl : l.stackTraces = false) (hX : va_X b L xs s s.heap) (hbl : b < s.heap.size) (hbA : ¬ (fun q : Nat => s.heap.size ≤ q) b) (h1 : vp_in (i + (1 : Int32)) L) (h2 : vp_in (i + (2 : Int32)) L) (h3 : vp_in (i + (3 : Int32)) L) (h4 : vp_in (i + (4 : Int32)) L) (h5 : vp_in (i + (5 : Int32)) L) (hSt : (∀ x1 : Int32, StA Rl (fun s f => W_contributed N s f x1) (fun m => F_M_contributed N m x1))) (hk : kk < 512) (hR : Rl kk st mo) (hkn : k + 4 ≤ room_1.cells ∧ n + 24 ≤ room_1.slots) (kx : ∀ st2 mo2 f2, Rl (kk + 1) st2 mo2 → J p l e room_1 s m #[Value.ref b] below meth c 7 D (fun q => s.heap.size ≤ q) Q (k + 4) (n + 24) 3187 [(4, .int i), (3, .ref ao), (2, .ref (am 0)), (1, .ref (A 0 0)), (0, .ref b)] [] (List.flatten [wPL cI cB cO A st2, wMO cI cB am mo2, [(ao, .inl (cL, 1, .inr (.inl f2)))]])) : J p l e room_1 s m #[Value.ref b] below meth c 7 D (fun q => s.heap.size ≤ q) Q (k) (n) 1862 [(4, .int i), (3, .ref ao), (2, .ref (am 0)), (1, .ref (A 0 0)), (0, .ref b)] [] (List.flatten [wPL cI cB cO A st, wMO cI cB am mo, [(ao, .inl (cL, 1, .inr (.inl f)))]]) := by
  refine J_aload_n (pc := 1862) C dlw_1862 3 rfl ?_
  refine J_aload_n (pc := 1863) C dlw_1863 4 rfl ?_
  refine J_iload (pc := 1864) C dlw_1864 0 rfl ?_
  refine J_iconst (v := (1 : Int32)) (pc := 1866) C dlw_1866 (by decide) ?_
  refine J_iadd (pc := 1867) C dlw_1867 ?_
  refine J_sld C hX hbl hbA (pc := 1868) dlw_1868 h1 ?_
  refine J_aload_n (pc := 1869) C dlw_1869 1 rfl ?_
  obtain ⟨o1, o2, e1, e2, hth, hval, hRn⟩ := hSt (xs (i + (1 : Int32)).toNatClampNeg) kk st mo f hk hR
  refine J_csH (pc := 1870) (As := [.ref (A 0 0), .int (xs (i + (1 : Int32)).toNatClampNeg), .ref ao]) (st := []) C dlw_1870 ml_L_257 wh_contributed (V_contributed l hl D cI cB cL cO pf N A ao st f (xs (i + (1 : Int32)).toNatClampNeg) o1 e1) (List.flatten [wMO cI cB am mo]) (seg_split (segs := [wPL cI cB cO A st, wMO cI cB am mo, [(ao, .inl (cL, 1, .inr (.inl f)))]]) (Wc := [wPL cI cB cO A st, [(ao, .inl (cL, 1, .inr (.inl f)))]]) (Wr := [wMO cI cB am mo]) [0, 2] [1] rfl rfl 3 rfl (by decide)) rfl ⟨(Nat.le_of_ble_eq_true rfl), (Nat.le_of_ble_eq_true rfl)⟩ ⟨Nat.le_trans (Nat.add_le_add_left (Nat.le_of_ble_eq_true rfl) _) hkn.1, Nat.le_trans (Nat.add_le_add_left (Nat.le_of_ble_eq_true rfl) _) hkn.2⟩ (Nat.le_of_ble_eq_true rfl) ?_
  rintro v w1 ⟨rfl, rfl⟩
  refine J_perm (ws2 := (List.flatten [wPL cI cB cO A o1.2.1, wMO cI cB am mo, [(ao, .inl (cL, 1, .inr (.inl o1.2.2)))]])) (seg_split (segs := [wPL cI cB cO A o1.2.1, wMO cI cB am mo, [(ao, .inl (cL, 1, .inr (.inl o1.2.2)))]]) (Wc := [wPL cI cB cO A o1.2.1, [(ao, .inl (cL, 1, .inr (.inl o1.2.2)))]]) (Wr := [wMO cI cB am mo]) [0, 2] [1] rfl rfl 3 rfl (by decide)).symm ?_
  refine J_widen (k2 := k + 4) (n2 := n + 24) (Nat.add_le_add_left (Nat.le_of_ble_eq_true rfl) _) (Nat.add_le_add_left (Nat.le_of_ble_eq_true rfl) _) ?_
  refine J_istore (lv2 := [(5, .int o1.1), (4, .int i), (3, .ref ao), (2, .ref (am 0)), (1, .ref (A 0 0)), (0, .ref b)]) (pc := 1873) C dlw_1873 (by decide) rfl ?_
  refine J_aload_n (pc := 1875) C dlw_1875 3 rfl ?_
  refine J_aload_n (pc := 1876) C dlw_1876 5 rfl ?_
  refine J_iload (pc := 1877) C dlw_1877 1 rfl ?_
  refine J_iconst (v := (1 : Int32)) (pc := 1879) C dlw_1879 (by decide) ?_
  refine J_iadd (pc := 1880) C dlw_1880 ?_
  refine J_sld C hX hbl hbA (pc := 1881) dlw_1881 h1 ?_
  refine J_cvF (pc := 1882) (As := [.int (xs (i + (1 : Int32)).toNatClampNeg)]) (st := []) C dlw_1882 ml_L_259 mi_yX11_contributed (C_M_contributed l D cI cB cL cO pf N am mo (xs (i + (1 : Int32)).toNatClampNeg) o2 e2) (List.flatten [wPL cI cB cO A o1.2.1, [(ao, .inl (cL, 1, .inr (.inl o1.2.2)))]]) (seg_split (segs := [wPL cI cB cO A o1.2.1, wMO cI cB am mo, [(ao, .inl (cL, 1, .inr (.inl o1.2.2)))]]) (Wc := [wMO cI cB am mo]) (Wr := [wPL cI cB cO A o1.2.1, [(ao, .inl (cL, 1, .inr (.inl o1.2.2)))]]) [1] [0, 2] rfl rfl 3 rfl (by decide)) (q0 := 0) rfl rfl rfl ⟨(Nat.le_of_ble_eq_true rfl), (Nat.le_of_ble_eq_true rfl)⟩ hkn (Nat.le_of_ble_eq_true rfl) ?_
  rintro v w1 ⟨rfl, rfl⟩
  refine J_perm (ws2 := (List.flatten [wPL cI cB cO A o1.2.1, wMO cI cB am o2.2, [(ao, .inl (cL, 1, .inr (.inl o1.2.2)))]])) (seg_split (segs := [wPL cI cB cO A o1.2.1, wMO cI cB am o2.2, [(ao, .inl (cL, 1, .inr (.inl o1.2.2)))]]) (Wc := [wMO cI cB am o2.2]) (Wr := [wPL cI cB cO A o1.2.1, [(ao, .inl (cL, 1, .inr (.inl o1.2.2)))]]) [1] [0, 2] rfl rfl 3 rfl (by decide)).symm ?_
  refine J_istore (lv2 := [(6, .int o2.1), (5, .int o1.1), (4, .int i), (3, .ref ao), (2, .ref (am 0)), (1, .ref (A 0 0)), (0, .ref b)]) (pc := 1885) C dlw_1885 (by decide) rfl ?_
  refine J_aload_n (pc := 1887) C dlw_1887 4 rfl ?_
  refine J_cvF (pc := 1888) (As := []) (st := []) C dlw_1888 ml_L_170 mi_yX11_thrown (C_M_thrown l D cI cB cL cO pf N am o2.2 o2.2.1 rfl) (List.flatten [wPL cI cB cO A o1.2.1, [(ao, .inl (cL, 1, .inr (.inl o1.2.2)))]]) (seg_split (segs := [wPL cI cB cO A o1.2.1, wMO cI cB am o2.2, [(ao, .inl (cL, 1, .inr (.inl o1.2.2)))]]) (Wc := [wMO cI cB am o2.2]) (Wr := [wPL cI cB cO A o1.2.1, [(ao, .inl (cL, 1, .inr (.inl o1.2.2)))]]) [1] [0, 2] rfl rfl 3 rfl (by decide)) (q0 := 0) rfl rfl rfl ⟨(Nat.le_of_ble_eq_true rfl), (Nat.le_of_ble_eq_true rfl)⟩ hkn (Nat.le_of_ble_eq_true rfl) ?_
  rintro v w1 ⟨rfl, rfl⟩
  refine J_perm (ws2 := (List.flatten [wPL cI cB cO A o1.2.1, wMO cI cB am o2.2, [(ao, .inl (cL, 1, .inr (.inl o1.2.2)))]])) (seg_split (segs := [wPL cI cB cO A o1.2.1, wMO cI cB am o2.2, [(ao, .inl (cL, 1, .inr (.inl o1.2.2)))]]) (Wc := [wMO cI cB am o2.2]) (Wr := [wPL cI cB cO A o1.2.1, [(ao, .inl (cL, 1, .inr (.inl o1.2.2)))]]) [1] [0, 2] rfl rfl 3 rfl (by decide)).symm ?_
  refine J_iload (pc := 1891) C dlw_1891 1 rfl ?_
  refine J_ic_eq (α := Unit) (o := ()) (X := some ()) (Y := none) (pc := 1893) (tgt := 1898) C dlw_1893 (by decide) (if_pos hth) (fun _ => ?_) (fun h => by cases h)
  refine J_iload (pc := 1898) C dlw_1898 1 rfl ?_
  by_cases h0 : o1.1 = 0
  · refine J_if_ne (α := Unit) (o := ()) (X := some ()) (Y := none) (pc := 1900) (tgt := 1915) C dlw_1900 (by decide) (if_pos h0) (fun h => by cases h) (fun _ => ?_)
    refine J_aload_n (pc := 1903) C dlw_1903 3 rfl ?_
    refine J_iconst (v := (0 : Int32)) (pc := 1904) C dlw_1904 (by decide) ?_
    refine J_perm (ws2 := [(ao, .inl (cL, 1, .inr (.inl o1.2.2)))] ++ List.flatten [wPL cI cB cO A o1.2.1, wMO cI cB am o2.2]) (by simpa using seg_split (segs := [wPL cI cB cO A o1.2.1, wMO cI cB am o2.2, [(ao, .inl (cL, 1, .inr (.inl o1.2.2)))]]) (Wc := [[(ao, .inl (cL, 1, .inr (.inl o1.2.2)))]]) (Wr := [wPL cI cB cO A o1.2.1, wMO cI cB am o2.2]) [2] [0, 1] rfl rfl 3 rfl (by decide)) ?_
    refine J_lald (pc := 1905) C dlw_1905 0 2 (rfl : ([(ao, .inl (cL, 1, .inr (.inl o1.2.2)))] ++ List.flatten [wPL cI cB cO A o1.2.1, wMO cI cB am o2.2] : va_W)[0]? = some (ao, .inl (cL, 1, .inr (.inl o1.2.2)))) rfl (by unfold vp_in; decide) ?_
    refine J_perm (ws2 := (List.flatten [wPL cI cB cO A o1.2.1, wMO cI cB am o2.2, [(ao, .inl (cL, 1, .inr (.inl o1.2.2)))]])) (by simpa using (seg_split (segs := [wPL cI cB cO A o1.2.1, wMO cI cB am o2.2, [(ao, .inl (cL, 1, .inr (.inl o1.2.2)))]]) (Wc := [[(ao, .inl (cL, 1, .inr (.inl o1.2.2)))]]) (Wr := [wPL cI cB cO A o1.2.1, wMO cI cB am o2.2]) [2] [0, 1] rfl rfl 3 rfl (by decide)).symm) ?_
    refine J_iload (pc := 1906) C dlw_1906 0 rfl ?_
    refine J_i2l (pc := 1908) C dlw_1908 ?_
    refine J_lcmp (pc := 1909) C dlw_1909 ?_
    refine J_if_eq (α := Unit) (o := ()) (X := some ()) (Y := none) (pc := 1910) (tgt := 1915) C dlw_1910 (by decide) (if_pos (by have hv := hval h0; rw [show (0 : Int32).toNatClampNeg = 0 from rfl, hv]; exact lg_cmp_self _)) (fun _ => ?_) (fun h => by cases h)
    refine J_goto (tgt := 3187) (pc := 1915) C dlw_1915 (by decide) ?_
    refine J_sub (lv2 := [(4, .int i), (3, .ref ao), (2, .ref (am 0)), (1, .ref (A 0 0)), (0, .ref b)]) [2, 3, 4, 5, 6] rfl ?_
    exact kx _ _ _ hRn
  · refine J_if_ne (α := Unit) (o := ()) (X := none) (Y := some ()) (pc := 1900) (tgt := 1915) C dlw_1900 (by decide) (if_neg h0) (fun _ => ?_) (fun h => by cases h)
    refine J_goto (tgt := 3187) (pc := 1915) C dlw_1915 (by decide) ?_
    refine J_sub (lv2 := [(4, .int i), (3, .ref ao), (2, .ref (am 0)), (1, .ref (A 0 0)), (0, .ref b)]) [2, 3, 4, 5, 6] rfl ?_
    exact kx _ _ _ hRn
