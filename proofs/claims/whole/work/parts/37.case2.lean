set_option maxHeartbeats 4000000 in
set_option maxRecDepth 100000 in
theorem K_total {p : Program} {l : Launch} {e : Env} {s : State} {m : MethodId} {below : List Frame} {meth : Method} {c : Code} {D : va_G} {cI cB cL cO : ClassId} {pf : Nat → Nat} {Q : State → Prop} {k n b L : Nat} {xs : Nat → Int32} {N : Nat} {A : Nat → Nat → Nat} {am : Nat → Nat} {ao : Nat} {i : Int32} {Rl : Nat → T_PL → T_MO → Prop} {st : T_PL} {mo : T_MO} {f : Nat → Int64} {kk : Nat} (C : jC p s m #[Value.ref b] meth c code 7 R_lawN D [(cI, .int), (cB, .byte), (cL, .long), (cO, .object RX0)] pf (fun q => s.heap.size ≤ q)) (hl : l.stackTraces = false) (hX : va_X b L xs s s.heap) (hbl : b < s.heap.size) (hbA : ¬ (fun q : Nat => s.heap.size ≤ q) b) (h1 : vp_in (i + (1 : Int32)) L) (h2 : vp_in (i + (2 : Int32)) L) (h3 : vp_in (i + (3 : Int32)) L) (h4 : vp_in (i + (4 : Int32)) L) (h5 : vp_in (i + (5 : Int32)) L) (hSt : (∀ x1 : Int32, StA Rl (fun s f => W_total N s f x1) (fun m => F_M_total N m x1))) (hk : kk < 512) (hR : Rl kk st mo) (hkn : k + 4 ≤ room_1.cells ∧ n + 24 ≤ room_1.slots) (kx : ∀ st2 mo2 f2, Rl (kk + 1) st2 mo2 → J p l e room_1 s m #[Value.ref b] below meth c 7 D (fun q => s.heap.size ≤ q) Q (k + 4) (n + 24) 3187 [(4, .int i), (3, .ref ao), (2, .ref (am 0)), (1, .ref (A 0 0)), (0, .ref b)] [] (List.flatten [wPL cI cB cO A st2, wMO cI cB am mo2, [(ao, .inl (cL, 1, .inr (.inl f2)))]])) : J p l e room_1 s m #[Value.ref b] below meth c 7 D (fun q => s.heap.size ≤ q) Q (k) (n) 1918 [(4, .int i), (3, .ref ao), (2, .ref (am 0)), (1, .ref (A 0 0)), (0, .ref b)] [] (List.flatten [wPL cI cB cO A st, wMO cI cB am mo, [(ao, .inl (cL, 1, .inr (.inl f)))]]) := by
  refine J_aload_n (pc := 1918) C dlw_1918 3 rfl ?_
  refine J_aload_n (pc := 1919) C dlw_1919 4 rfl ?_
  refine J_iload (pc := 1920) C dlw_1920 0 rfl ?_
  refine J_iconst (v := (1 : Int32)) (pc := 1922) C dlw_1922 (by decide) ?_
  refine J_iadd (pc := 1923) C dlw_1923 ?_
  refine J_sld C hX hbl hbA (pc := 1924) dlw_1924 h1 ?_
  refine J_aload_n (pc := 1925) C dlw_1925 1 rfl ?_
  obtain ⟨o1, o2, e1, e2, hth, hval, hRn⟩ := hSt (xs (i + (1 : Int32)).toNatClampNeg) kk st mo f hk hR
  refine J_csH (pc := 1926) (As := [.ref (A 0 0), .int (xs (i + (1 : Int32)).toNatClampNeg), .ref ao]) (st := []) C dlw_1926 ml_L_260 wh_total (V_total l hl D cI cB cL cO pf N A ao st f (xs (i + (1 : Int32)).toNatClampNeg) o1 e1) (List.flatten [wMO cI cB am mo]) (seg_split (segs := [wPL cI cB cO A st, wMO cI cB am mo, [(ao, .inl (cL, 1, .inr (.inl f)))]]) (Wc := [wPL cI cB cO A st, [(ao, .inl (cL, 1, .inr (.inl f)))]]) (Wr := [wMO cI cB am mo]) [0, 2] [1] rfl rfl 3 rfl (by decide)) rfl ⟨(Nat.le_of_ble_eq_true rfl), (Nat.le_of_ble_eq_true rfl)⟩ ⟨Nat.le_trans (Nat.add_le_add_left (Nat.le_of_ble_eq_true rfl) _) hkn.1, Nat.le_trans (Nat.add_le_add_left (Nat.le_of_ble_eq_true rfl) _) hkn.2⟩ (Nat.le_of_ble_eq_true rfl) ?_
  rintro v w1 ⟨rfl, rfl⟩
  refine J_perm (ws2 := (List.flatten [wPL cI cB cO A o1.2.1, wMO cI cB am mo, [(ao, .inl (cL, 1, .inr (.inl o1.2.2)))]])) (seg_split (segs := [wPL cI cB cO A o1.2.1, wMO cI cB am mo, [(ao, .inl (cL, 1, .inr (.inl o1.2.2)))]]) (Wc := [wPL cI cB cO A o1.2.1, [(ao, .inl (cL, 1, .inr (.inl o1.2.2)))]]) (Wr := [wMO cI cB am mo]) [0, 2] [1] rfl rfl 3 rfl (by decide)).symm ?_
  refine J_widen (k2 := k + 4) (n2 := n + 24) (Nat.add_le_add_left (Nat.le_of_ble_eq_true rfl) _) (Nat.add_le_add_left (Nat.le_of_ble_eq_true rfl) _) ?_
  refine J_istore (lv2 := [(5, .int o1.1), (4, .int i), (3, .ref ao), (2, .ref (am 0)), (1, .ref (A 0 0)), (0, .ref b)]) (pc := 1929) C dlw_1929 (by decide) rfl ?_
  refine J_aload_n (pc := 1931) C dlw_1931 3 rfl ?_
  refine J_aload_n (pc := 1932) C dlw_1932 5 rfl ?_
  refine J_iload (pc := 1933) C dlw_1933 1 rfl ?_
  refine J_iconst (v := (1 : Int32)) (pc := 1935) C dlw_1935 (by decide) ?_
  refine J_iadd (pc := 1936) C dlw_1936 ?_
  refine J_sld C hX hbl hbA (pc := 1937) dlw_1937 h1 ?_
  refine J_cvF (pc := 1938) (As := [.int (xs (i + (1 : Int32)).toNatClampNeg)]) (st := []) C dlw_1938 ml_L_262 mi_yX11_total (C_M_total l D cI cB cL cO pf N am mo (xs (i + (1 : Int32)).toNatClampNeg) o2 e2) (List.flatten [wPL cI cB cO A o1.2.1, [(ao, .inl (cL, 1, .inr (.inl o1.2.2)))]]) (seg_split (segs := [wPL cI cB cO A o1.2.1, wMO cI cB am mo, [(ao, .inl (cL, 1, .inr (.inl o1.2.2)))]]) (Wc := [wMO cI cB am mo]) (Wr := [wPL cI cB cO A o1.2.1, [(ao, .inl (cL, 1, .inr (.inl o1.2.2)))]]) [1] [0, 2] rfl rfl 3 rfl (by decide)) (q0 := 0) rfl rfl rfl ⟨(Nat.le_of_ble_eq_true rfl), (Nat.le_of_ble_eq_true rfl)⟩ hkn (Nat.le_of_ble_eq_true rfl) ?_
  rintro v w1 ⟨rfl, rfl⟩
  refine J_perm (ws2 := (List.flatten [wPL cI cB cO A o1.2.1, wMO cI cB am o2.2, [(ao, .inl (cL, 1, .inr (.inl o1.2.2)))]])) (seg_split (segs := [wPL cI cB cO A o1.2.1, wMO cI cB am o2.2, [(ao, .inl (cL, 1, .inr (.inl o1.2.2)))]]) (Wc := [wMO cI cB am o2.2]) (Wr := [wPL cI cB cO A o1.2.1, [(ao, .inl (cL, 1, .inr (.inl o1.2.2)))]]) [1] [0, 2] rfl rfl 3 rfl (by decide)).symm ?_
  refine J_istore (lv2 := [(6, .int o2.1), (5, .int o1.1), (4, .int i), (3, .ref ao), (2, .ref (am 0)), (1, .ref (A 0 0)), (0, .ref b)]) (pc := 1941) C dlw_1941 (by decide) rfl ?_
  refine J_aload_n (pc := 1943) C dlw_1943 4 rfl ?_
  refine J_cvF (pc := 1944) (As := []) (st := []) C dlw_1944 ml_L_170 mi_yX11_thrown (C_M_thrown l D cI cB cL cO pf N am o2.2 o2.2.1 rfl) (List.flatten [wPL cI cB cO A o1.2.1, [(ao, .inl (cL, 1, .inr (.inl o1.2.2)))]]) (seg_split (segs := [wPL cI cB cO A o1.2.1, wMO cI cB am o2.2, [(ao, .inl (cL, 1, .inr (.inl o1.2.2)))]]) (Wc := [wMO cI cB am o2.2]) (Wr := [wPL cI cB cO A o1.2.1, [(ao, .inl (cL, 1, .inr (.inl o1.2.2)))]]) [1] [0, 2] rfl rfl 3 rfl (by decide)) (q0 := 0) rfl rfl rfl ⟨(Nat.le_of_ble_eq_true rfl), (Nat.le_of_ble_eq_true rfl)⟩ hkn (Nat.le_of_ble_eq_true rfl) ?_
  rintro v w1 ⟨rfl, rfl⟩
  refine J_perm (ws2 := (List.flatten [wPL cI cB cO A o1.2.1, wMO cI cB am o2.2, [(ao, .inl (cL, 1, .inr (.inl o1.2.2)))]])) (seg_split (segs := [wPL cI cB cO A o1.2.1, wMO cI cB am o2.2, [(ao, .inl (cL, 1, .inr (.inl o1.2.2)))]]) (Wc := [wMO cI cB am o2.2]) (Wr := [wPL cI cB cO A o1.2.1, [(ao, .inl (cL, 1, .inr (.inl o1.2.2)))]]) [1] [0, 2] rfl rfl 3 rfl (by decide)).symm ?_
  refine J_iload (pc := 1947) C dlw_1947 1 rfl ?_
  refine J_ic_eq (α := Unit) (o := ()) (X := some ()) (Y := none) (pc := 1949) (tgt := 1954) C dlw_1949 (by decide) (if_pos hth) (fun _ => ?_) (fun h => by cases h)
  refine J_iload (pc := 1954) C dlw_1954 1 rfl ?_
  by_cases h0 : o1.1 = 0
  · refine J_if_ne (α := Unit) (o := ()) (X := some ()) (Y := none) (pc := 1956) (tgt := 1971) C dlw_1956 (by decide) (if_pos h0) (fun h => by cases h) (fun _ => ?_)
    refine J_aload_n (pc := 1959) C dlw_1959 3 rfl ?_
    refine J_iconst (v := (0 : Int32)) (pc := 1960) C dlw_1960 (by decide) ?_
    refine J_perm (ws2 := [(ao, .inl (cL, 1, .inr (.inl o1.2.2)))] ++ List.flatten [wPL cI cB cO A o1.2.1, wMO cI cB am o2.2]) (by simpa using seg_split (segs := [wPL cI cB cO A o1.2.1, wMO cI cB am o2.2, [(ao, .inl (cL, 1, .inr (.inl o1.2.2)))]]) (Wc := [[(ao, .inl (cL, 1, .inr (.inl o1.2.2)))]]) (Wr := [wPL cI cB cO A o1.2.1, wMO cI cB am o2.2]) [2] [0, 1] rfl rfl 3 rfl (by decide)) ?_
    refine J_lald (pc := 1961) C dlw_1961 0 2 (rfl : ([(ao, .inl (cL, 1, .inr (.inl o1.2.2)))] ++ List.flatten [wPL cI cB cO A o1.2.1, wMO cI cB am o2.2] : va_W)[0]? = some (ao, .inl (cL, 1, .inr (.inl o1.2.2)))) rfl (by unfold vp_in; decide) ?_
    refine J_perm (ws2 := (List.flatten [wPL cI cB cO A o1.2.1, wMO cI cB am o2.2, [(ao, .inl (cL, 1, .inr (.inl o1.2.2)))]])) (by simpa using (seg_split (segs := [wPL cI cB cO A o1.2.1, wMO cI cB am o2.2, [(ao, .inl (cL, 1, .inr (.inl o1.2.2)))]]) (Wc := [[(ao, .inl (cL, 1, .inr (.inl o1.2.2)))]]) (Wr := [wPL cI cB cO A o1.2.1, wMO cI cB am o2.2]) [2] [0, 1] rfl rfl 3 rfl (by decide)).symm) ?_
    refine J_iload (pc := 1962) C dlw_1962 0 rfl ?_
    refine J_i2l (pc := 1964) C dlw_1964 ?_
    refine J_lcmp (pc := 1965) C dlw_1965 ?_
    refine J_if_eq (α := Unit) (o := ()) (X := some ()) (Y := none) (pc := 1966) (tgt := 1971) C dlw_1966 (by decide) (if_pos (by have hv := hval h0; rw [show (0 : Int32).toNatClampNeg = 0 from rfl, hv]; exact lg_cmp_self _)) (fun _ => ?_) (fun h => by cases h)
    refine J_goto (tgt := 3187) (pc := 1971) C dlw_1971 (by decide) ?_
    refine J_sub (lv2 := [(4, .int i), (3, .ref ao), (2, .ref (am 0)), (1, .ref (A 0 0)), (0, .ref b)]) [2, 3, 4, 5, 6] rfl ?_
    exact kx _ _ _ hRn
  · refine J_if_ne (α := Unit) (o := ()) (X := none) (Y := some ()) (pc := 1956) (tgt := 1971) C dlw_1956 (by decide) (if_neg h0) (fun _ => ?_) (fun h => by cases h)
    refine J_goto (tgt := 3187) (pc := 1971) C dlw_1971 (by decide) ?_
    refine J_sub (lv2 := [(4, .int i), (3, .ref ao), (2, .ref (am 0)), (1, .ref (A 0 0)), (0, .ref b)]) [2, 3, 4, 5, 6] rfl ?_
    exact kx _ _ _ hRn
set_option maxHeartbeats 4000000 in
set_option maxRecDepth 100000 in
theorem K_tier {p : Program} {l : Launch} {e : Env} {s : State} {m : MethodId} {below : List Frame} {meth : Method} {c : Code} {D : va_G} {cI cB cL cO : ClassId} {pf : Nat → Nat} {Q : State → Prop} {k n b L : Nat} {xs : Nat → Int32} {N : Nat} {A : Nat → Nat → Nat} {am : Nat → Nat} {ao : Nat} {i : Int32} {Rl : Nat → T_PL → T_MO → Prop} {st : T_PL} {mo : T_MO} {f : Nat → Int64} {kk : Nat} (C : jC p s m #[Value.ref b] meth c code 7 R_lawN D [(cI, .int), (cB, .byte), (cL, .long), (cO, .object RX0)] pf (fun q => s.heap.size ≤ q)) (hl : l.stackTraces = false) (hX : va_X b L xs s s.heap) (hbl : b < s.heap.size) (hbA : ¬ (fun q : Nat => s.heap.size ≤ q) b) (h1 : vp_in (i + (1 : Int32)) L) (h2 : vp_in (i + (2 : Int32)) L) (h3 : vp_in (i + (3 : Int32)) L) (h4 : vp_in (i + (4 : Int32)) L) (h5 : vp_in (i + (5 : Int32)) L) (hSt : (∀ x1 : Int32, StA Rl (fun s f => W_tier N s f x1) (fun m => F_M_tier N m x1))) (hk : kk < 512) (hR : Rl kk st mo) (hkn : k + 4 ≤ room_1.cells ∧ n + 24 ≤ room_1.slots) (kx : ∀ st2 mo2 f2, Rl (kk + 1) st2 mo2 → J p l e room_1 s m #[Value.ref b] below meth c 7 D (fun q => s.heap.size ≤ q) Q (k + 4) (n + 24) 3187 [(4, .int i), (3, .ref ao), (2, .ref (am 0)), (1, .ref (A 0 0)), (0, .ref b)] [] (List.flatten [wPL cI cB cO A st2, wMO cI cB am mo2, [(ao, .inl (cL, 1, .inr (.inl f2)))]])) : J p l e room_1 s m #[Value.ref b] below meth c 7 D (fun q => s.heap.size ≤ q) Q (k) (n) 1974 [(4, .int i), (3, .ref ao), (2, .ref (am 0)), (1, .ref (A 0 0)), (0, .ref b)] [] (List.flatten [wPL cI cB cO A st, wMO cI cB am mo, [(ao, .inl (cL, 1, .inr (.inl f)))]]) := by
  refine J_aload_n (pc := 1974) C dlw_1974 3 rfl ?_
  refine J_aload_n (pc := 1975) C dlw_1975 4 rfl ?_
  refine J_iload (pc := 1976) C dlw_1976 0 rfl ?_
  refine J_iconst (v := (1 : Int32)) (pc := 1978) C dlw_1978 (by decide) ?_
  refine J_iadd (pc := 1979) C dlw_1979 ?_
  refine J_sld C hX hbl hbA (pc := 1980) dlw_1980 h1 ?_
  refine J_aload_n (pc := 1981) C dlw_1981 1 rfl ?_
  obtain ⟨o1, o2, e1, e2, hth, hval, hRn⟩ := hSt (xs (i + (1 : Int32)).toNatClampNeg) kk st mo f hk hR
  refine J_csH (pc := 1982) (As := [.ref (A 0 0), .int (xs (i + (1 : Int32)).toNatClampNeg), .ref ao]) (st := []) C dlw_1982 ml_L_263 wh_tier (V_tier l hl D cI cB cL cO pf N A ao st f (xs (i + (1 : Int32)).toNatClampNeg) o1 e1) (List.flatten [wMO cI cB am mo]) (seg_split (segs := [wPL cI cB cO A st, wMO cI cB am mo, [(ao, .inl (cL, 1, .inr (.inl f)))]]) (Wc := [wPL cI cB cO A st, [(ao, .inl (cL, 1, .inr (.inl f)))]]) (Wr := [wMO cI cB am mo]) [0, 2] [1] rfl rfl 3 rfl (by decide)) rfl ⟨(Nat.le_of_ble_eq_true rfl), (Nat.le_of_ble_eq_true rfl)⟩ ⟨Nat.le_trans (Nat.add_le_add_left (Nat.le_of_ble_eq_true rfl) _) hkn.1, Nat.le_trans (Nat.add_le_add_left (Nat.le_of_ble_eq_true rfl) _) hkn.2⟩ (Nat.le_of_ble_eq_true rfl) ?_
  rintro v w1 ⟨rfl, rfl⟩
  refine J_perm (ws2 := (List.flatten [wPL cI cB cO A o1.2.1, wMO cI cB am mo, [(ao, .inl (cL, 1, .inr (.inl o1.2.2)))]])) (seg_split (segs := [wPL cI cB cO A o1.2.1, wMO cI cB am mo, [(ao, .inl (cL, 1, .inr (.inl o1.2.2)))]]) (Wc := [wPL cI cB cO A o1.2.1, [(ao, .inl (cL, 1, .inr (.inl o1.2.2)))]]) (Wr := [wMO cI cB am mo]) [0, 2] [1] rfl rfl 3 rfl (by decide)).symm ?_
  refine J_widen (k2 := k + 4) (n2 := n + 24) (Nat.add_le_add_left (Nat.le_of_ble_eq_true rfl) _) (Nat.add_le_add_left (Nat.le_of_ble_eq_true rfl) _) ?_
  refine J_istore (lv2 := [(5, .int o1.1), (4, .int i), (3, .ref ao), (2, .ref (am 0)), (1, .ref (A 0 0)), (0, .ref b)]) (pc := 1985) C dlw_1985 (by decide) rfl ?_
  refine J_aload_n (pc := 1987) C dlw_1987 3 rfl ?_
  refine J_aload_n (pc := 1988) C dlw_1988 5 rfl ?_
  refine J_iload (pc := 1989) C dlw_1989 1 rfl ?_
  refine J_iconst (v := (1 : Int32)) (pc := 1991) C dlw_1991 (by decide) ?_
  refine J_iadd (pc := 1992) C dlw_1992 ?_
  refine J_sld C hX hbl hbA (pc := 1993) dlw_1993 h1 ?_
  refine J_cvF (pc := 1994) (As := [.int (xs (i + (1 : Int32)).toNatClampNeg)]) (st := []) C dlw_1994 ml_L_265 mi_yX11_tier (C_M_tier l D cI cB cL cO pf N am mo (xs (i + (1 : Int32)).toNatClampNeg) o2 e2) (List.flatten [wPL cI cB cO A o1.2.1, [(ao, .inl (cL, 1, .inr (.inl o1.2.2)))]]) (seg_split (segs := [wPL cI cB cO A o1.2.1, wMO cI cB am mo, [(ao, .inl (cL, 1, .inr (.inl o1.2.2)))]]) (Wc := [wMO cI cB am mo]) (Wr := [wPL cI cB cO A o1.2.1, [(ao, .inl (cL, 1, .inr (.inl o1.2.2)))]]) [1] [0, 2] rfl rfl 3 rfl (by decide)) (q0 := 0) rfl rfl rfl ⟨(Nat.le_of_ble_eq_true rfl), (Nat.le_of_ble_eq_true rfl)⟩ hkn (Nat.le_of_ble_eq_true rfl) ?_
  rintro v w1 ⟨rfl, rfl⟩
  refine J_perm (ws2 := (List.flatten [wPL cI cB cO A o1.2.1, wMO cI cB am o2.2, [(ao, .inl (cL, 1, .inr (.inl o1.2.2)))]])) (seg_split (segs := [wPL cI cB cO A o1.2.1, wMO cI cB am o2.2, [(ao, .inl (cL, 1, .inr (.inl o1.2.2)))]]) (Wc := [wMO cI cB am o2.2]) (Wr := [wPL cI cB cO A o1.2.1, [(ao, .inl (cL, 1, .inr (.inl o1.2.2)))]]) [1] [0, 2] rfl rfl 3 rfl (by decide)).symm ?_
  refine J_istore (lv2 := [(6, .int o2.1), (5, .int o1.1), (4, .int i), (3, .ref ao), (2, .ref (am 0)), (1, .ref (A 0 0)), (0, .ref b)]) (pc := 1997) C dlw_1997 (by decide) rfl ?_
  refine J_aload_n (pc := 1999) C dlw_1999 4 rfl ?_
  refine J_cvF (pc := 2000) (As := []) (st := []) C dlw_2000 ml_L_170 mi_yX11_thrown (C_M_thrown l D cI cB cL cO pf N am o2.2 o2.2.1 rfl) (List.flatten [wPL cI cB cO A o1.2.1, [(ao, .inl (cL, 1, .inr (.inl o1.2.2)))]]) (seg_split (segs := [wPL cI cB cO A o1.2.1, wMO cI cB am o2.2, [(ao, .inl (cL, 1, .inr (.inl o1.2.2)))]]) (Wc := [wMO cI cB am o2.2]) (Wr := [wPL cI cB cO A o1.2.1, [(ao, .inl (cL, 1, .inr (.inl o1.2.2)))]]) [1] [0, 2] rfl rfl 3 rfl (by decide)) (q0 := 0) rfl rfl rfl ⟨(Nat.le_of_ble_eq_true rfl), (Nat.le_of_ble_eq_true rfl)⟩ hkn (Nat.le_of_ble_eq_true rfl) ?_
  rintro v w1 ⟨rfl, rfl⟩
  refine J_perm (ws2 := (List.flatten [wPL cI cB cO A o1.2.1, wMO cI cB am o2.2, [(ao, .inl (cL, 1, .inr (.inl o1.2.2)))]])) (seg_split (segs := [wPL cI cB cO A o1.2.1, wMO cI cB am o2.2, [(ao, .inl (cL, 1, .inr (.inl o1.2.2)))]]) (Wc := [wMO cI cB am o2.2]) (Wr := [wPL cI cB cO A o1.2.1, [(ao, .inl (cL, 1, .inr (.inl o1.2.2)))]]) [1] [0, 2] rfl rfl 3 rfl (by decide)).symm ?_
  refine J_iload (pc := 2003) C dlw_2003 1 rfl ?_
  refine J_ic_eq (α := Unit) (o := ()) (X := some ()) (Y := none) (pc := 2005) (tgt := 2010) C dlw_2005 (by decide) (if_pos hth) (fun _ => ?_) (fun h => by cases h)
  refine J_iload (pc := 2010) C dlw_2010 1 rfl ?_
  by_cases h0 : o1.1 = 0
  · refine J_if_ne (α := Unit) (o := ()) (X := some ()) (Y := none) (pc := 2012) (tgt := 2027) C dlw_2012 (by decide) (if_pos h0) (fun h => by cases h) (fun _ => ?_)
    refine J_aload_n (pc := 2015) C dlw_2015 3 rfl ?_
    refine J_iconst (v := (0 : Int32)) (pc := 2016) C dlw_2016 (by decide) ?_
    refine J_perm (ws2 := [(ao, .inl (cL, 1, .inr (.inl o1.2.2)))] ++ List.flatten [wPL cI cB cO A o1.2.1, wMO cI cB am o2.2]) (by simpa using seg_split (segs := [wPL cI cB cO A o1.2.1, wMO cI cB am o2.2, [(ao, .inl (cL, 1, .inr (.inl o1.2.2)))]]) (Wc := [[(ao, .inl (cL, 1, .inr (.inl o1.2.2)))]]) (Wr := [wPL cI cB cO A o1.2.1, wMO cI cB am o2.2]) [2] [0, 1] rfl rfl 3 rfl (by decide)) ?_
    refine J_lald (pc := 2017) C dlw_2017 0 2 (rfl : ([(ao, .inl (cL, 1, .inr (.inl o1.2.2)))] ++ List.flatten [wPL cI cB cO A o1.2.1, wMO cI cB am o2.2] : va_W)[0]? = some (ao, .inl (cL, 1, .inr (.inl o1.2.2)))) rfl (by unfold vp_in; decide) ?_
    refine J_perm (ws2 := (List.flatten [wPL cI cB cO A o1.2.1, wMO cI cB am o2.2, [(ao, .inl (cL, 1, .inr (.inl o1.2.2)))]])) (by simpa using (seg_split (segs := [wPL cI cB cO A o1.2.1, wMO cI cB am o2.2, [(ao, .inl (cL, 1, .inr (.inl o1.2.2)))]]) (Wc := [[(ao, .inl (cL, 1, .inr (.inl o1.2.2)))]]) (Wr := [wPL cI cB cO A o1.2.1, wMO cI cB am o2.2]) [2] [0, 1] rfl rfl 3 rfl (by decide)).symm) ?_
    refine J_iload (pc := 2018) C dlw_2018 0 rfl ?_
    refine J_i2l (pc := 2020) C dlw_2020 ?_
    refine J_lcmp (pc := 2021) C dlw_2021 ?_
    refine J_if_eq (α := Unit) (o := ()) (X := some ()) (Y := none) (pc := 2022) (tgt := 2027) C dlw_2022 (by decide) (if_pos (by have hv := hval h0; rw [show (0 : Int32).toNatClampNeg = 0 from rfl, hv]; exact lg_cmp_self _)) (fun _ => ?_) (fun h => by cases h)
    refine J_goto (tgt := 3187) (pc := 2027) C dlw_2027 (by decide) ?_
    refine J_sub (lv2 := [(4, .int i), (3, .ref ao), (2, .ref (am 0)), (1, .ref (A 0 0)), (0, .ref b)]) [2, 3, 4, 5, 6] rfl ?_
    exact kx _ _ _ hRn
  · refine J_if_ne (α := Unit) (o := ()) (X := none) (Y := some ()) (pc := 2012) (tgt := 2027) C dlw_2012 (by decide) (if_neg h0) (fun _ => ?_) (fun h => by cases h)
    refine J_goto (tgt := 3187) (pc := 2027) C dlw_2027 (by decide) ?_
    refine J_sub (lv2 := [(4, .int i), (3, .ref ao), (2, .ref (am 0)), (1, .ref (A 0 0)), (0, .ref b)]) [2, 3, 4, 5, 6] rfl ?_
    exact kx _ _ _ hRn
set_option maxHeartbeats 4000000 in
set_option maxRecDepth 100000 in
theorem K_earnedTier {p : Program} {l : Launch} {e : Env} {s : State} {m : MethodId} {below : List Frame} {meth : Method} {c : Code} {D : va_G} {cI cB cL cO : ClassId} {pf : Nat → Nat} {Q : State → Prop} {k n b L : Nat} {xs : Nat → Int32} {N : Nat} {A : Nat → Nat → Nat} {am : Nat → Nat} {ao : Nat} {i : Int32} {Rl : Nat → T_PL → T_MO → Prop} {st : T_PL} {mo : T_MO} {f : Nat → Int64} {kk : Nat} (C : jC p s m #[Value.ref b] meth c code 7 R_lawN D [(cI, .int), (cB, .byte), (cL, .long), (cO, .object RX0)] pf (fun q => s.heap.size ≤ q)) (hl : l.stackTraces = false) (hX : va_X b L xs s s.heap) (hbl : b < s.heap.size) (hbA : ¬ (fun q : Nat => s.heap.size ≤ q) b) (h1 : vp_in (i + (1 : Int32)) L) (h2 : vp_in (i + (2 : Int32)) L) (h3 : vp_in (i + (3 : Int32)) L) (h4 : vp_in (i + (4 : Int32)) L) (h5 : vp_in (i + (5 : Int32)) L) (hSt : (∀ x1 : Int32, StA Rl (fun s f => W_earnedTier N s f x1) (fun m => F_M_earnedTier N m x1))) (hk : kk < 512) (hR : Rl kk st mo) (hkn : k + 4 ≤ room_1.cells ∧ n + 24 ≤ room_1.slots) (kx : ∀ st2 mo2 f2, Rl (kk + 1) st2 mo2 → J p l e room_1 s m #[Value.ref b] below meth c 7 D (fun q => s.heap.size ≤ q) Q (k + 4) (n + 24) 3187 [(4, .int i), (3, .ref ao), (2, .ref (am 0)), (1, .ref (A 0 0)), (0, .ref b)] [] (List.flatten [wPL cI cB cO A st2, wMO cI cB am mo2, [(ao, .inl (cL, 1, .inr (.inl f2)))]])) : J p l e room_1 s m #[Value.ref b] below meth c 7 D (fun q => s.heap.size ≤ q) Q (k) (n) 2030 [(4, .int i), (3, .ref ao), (2, .ref (am 0)), (1, .ref (A 0 0)), (0, .ref b)] [] (List.flatten [wPL cI cB cO A st, wMO cI cB am mo, [(ao, .inl (cL, 1, .inr (.inl f)))]]) := by
  refine J_aload_n (pc := 2030) C dlw_2030 3 rfl ?_
  refine J_aload_n (pc := 2031) C dlw_2031 4 rfl ?_
  refine J_iload (pc := 2032) C dlw_2032 0 rfl ?_
  refine J_iconst (v := (1 : Int32)) (pc := 2034) C dlw_2034 (by decide) ?_
  refine J_iadd (pc := 2035) C dlw_2035 ?_
  refine J_sld C hX hbl hbA (pc := 2036) dlw_2036 h1 ?_
  refine J_aload_n (pc := 2037) C dlw_2037 1 rfl ?_
  obtain ⟨o1, o2, e1, e2, hth, hval, hRn⟩ := hSt (xs (i + (1 : Int32)).toNatClampNeg) kk st mo f hk hR
  refine J_csH (pc := 2038) (As := [.ref (A 0 0), .int (xs (i + (1 : Int32)).toNatClampNeg), .ref ao]) (st := []) C dlw_2038 ml_L_266 wh_earnedTier (V_earnedTier l hl D cI cB cL cO pf N A ao st f (xs (i + (1 : Int32)).toNatClampNeg) o1 e1) (List.flatten [wMO cI cB am mo]) (seg_split (segs := [wPL cI cB cO A st, wMO cI cB am mo, [(ao, .inl (cL, 1, .inr (.inl f)))]]) (Wc := [wPL cI cB cO A st, [(ao, .inl (cL, 1, .inr (.inl f)))]]) (Wr := [wMO cI cB am mo]) [0, 2] [1] rfl rfl 3 rfl (by decide)) rfl ⟨(Nat.le_of_ble_eq_true rfl), (Nat.le_of_ble_eq_true rfl)⟩ ⟨Nat.le_trans (Nat.add_le_add_left (Nat.le_of_ble_eq_true rfl) _) hkn.1, Nat.le_trans (Nat.add_le_add_left (Nat.le_of_ble_eq_true rfl) _) hkn.2⟩ (Nat.le_of_ble_eq_true rfl) ?_
  rintro v w1 ⟨rfl, rfl⟩
  refine J_perm (ws2 := (List.flatten [wPL cI cB cO A o1.2.1, wMO cI cB am mo, [(ao, .inl (cL, 1, .inr (.inl o1.2.2)))]])) (seg_split (segs := [wPL cI cB cO A o1.2.1, wMO cI cB am mo, [(ao, .inl (cL, 1, .inr (.inl o1.2.2)))]]) (Wc := [wPL cI cB cO A o1.2.1, [(ao, .inl (cL, 1, .inr (.inl o1.2.2)))]]) (Wr := [wMO cI cB am mo]) [0, 2] [1] rfl rfl 3 rfl (by decide)).symm ?_
  refine J_widen (k2 := k + 4) (n2 := n + 24) (Nat.add_le_add_left (Nat.le_of_ble_eq_true rfl) _) (Nat.add_le_add_left (Nat.le_of_ble_eq_true rfl) _) ?_
  refine J_istore (lv2 := [(5, .int o1.1), (4, .int i), (3, .ref ao), (2, .ref (am 0)), (1, .ref (A 0 0)), (0, .ref b)]) (pc := 2041) C dlw_2041 (by decide) rfl ?_
  refine J_aload_n (pc := 2043) C dlw_2043 3 rfl ?_
  refine J_aload_n (pc := 2044) C dlw_2044 5 rfl ?_
  refine J_iload (pc := 2045) C dlw_2045 1 rfl ?_
  refine J_iconst (v := (1 : Int32)) (pc := 2047) C dlw_2047 (by decide) ?_
  refine J_iadd (pc := 2048) C dlw_2048 ?_
  refine J_sld C hX hbl hbA (pc := 2049) dlw_2049 h1 ?_
  refine J_cvF (pc := 2050) (As := [.int (xs (i + (1 : Int32)).toNatClampNeg)]) (st := []) C dlw_2050 ml_L_268 mi_yX11_earnedTier (C_M_earnedTier l D cI cB cL cO pf N am mo (xs (i + (1 : Int32)).toNatClampNeg) o2 e2) (List.flatten [wPL cI cB cO A o1.2.1, [(ao, .inl (cL, 1, .inr (.inl o1.2.2)))]]) (seg_split (segs := [wPL cI cB cO A o1.2.1, wMO cI cB am mo, [(ao, .inl (cL, 1, .inr (.inl o1.2.2)))]]) (Wc := [wMO cI cB am mo]) (Wr := [wPL cI cB cO A o1.2.1, [(ao, .inl (cL, 1, .inr (.inl o1.2.2)))]]) [1] [0, 2] rfl rfl 3 rfl (by decide)) (q0 := 0) rfl rfl rfl ⟨(Nat.le_of_ble_eq_true rfl), (Nat.le_of_ble_eq_true rfl)⟩ hkn (Nat.le_of_ble_eq_true rfl) ?_
  rintro v w1 ⟨rfl, rfl⟩
  refine J_perm (ws2 := (List.flatten [wPL cI cB cO A o1.2.1, wMO cI cB am o2.2, [(ao, .inl (cL, 1, .inr (.inl o1.2.2)))]])) (seg_split (segs := [wPL cI cB cO A o1.2.1, wMO cI cB am o2.2, [(ao, .inl (cL, 1, .inr (.inl o1.2.2)))]]) (Wc := [wMO cI cB am o2.2]) (Wr := [wPL cI cB cO A o1.2.1, [(ao, .inl (cL, 1, .inr (.inl o1.2.2)))]]) [1] [0, 2] rfl rfl 3 rfl (by decide)).symm ?_
  refine J_istore (lv2 := [(6, .int o2.1), (5, .int o1.1), (4, .int i), (3, .ref ao), (2, .ref (am 0)), (1, .ref (A 0 0)), (0, .ref b)]) (pc := 2053) C dlw_2053 (by decide) rfl ?_
  refine J_aload_n (pc := 2055) C dlw_2055 4 rfl ?_
  refine J_cvF (pc := 2056) (As := []) (st := []) C dlw_2056 ml_L_170 mi_yX11_thrown (C_M_thrown l D cI cB cL cO pf N am o2.2 o2.2.1 rfl) (List.flatten [wPL cI cB cO A o1.2.1, [(ao, .inl (cL, 1, .inr (.inl o1.2.2)))]]) (seg_split (segs := [wPL cI cB cO A o1.2.1, wMO cI cB am o2.2, [(ao, .inl (cL, 1, .inr (.inl o1.2.2)))]]) (Wc := [wMO cI cB am o2.2]) (Wr := [wPL cI cB cO A o1.2.1, [(ao, .inl (cL, 1, .inr (.inl o1.2.2)))]]) [1] [0, 2] rfl rfl 3 rfl (by decide)) (q0 := 0) rfl rfl rfl ⟨(Nat.le_of_ble_eq_true rfl), (Nat.le_of_ble_eq_true rfl)⟩ hkn (Nat.le_of_ble_eq_true rfl) ?_
  rintro v w1 ⟨rfl, rfl⟩
  refine J_perm (ws2 := (List.flatten [wPL cI cB cO A o1.2.1, wMO cI cB am o2.2, [(ao, .inl (cL, 1, .inr (.inl o1.2.2)))]])) (seg_split (segs := [wPL cI cB cO A o1.2.1, wMO cI cB am o2.2, [(ao, .inl (cL, 1, .inr (.inl o1.2.2)))]]) (Wc := [wMO cI cB am o2.2]) (Wr := [wPL cI cB cO A o1.2.1, [(ao, .inl (cL, 1, .inr (.inl o1.2.2)))]]) [1] [0, 2] rfl rfl 3 rfl (by decide)).symm ?_
  refine J_iload (pc := 2059) C dlw_2059 1 rfl ?_
  refine J_ic_eq (α := Unit) (o := ()) (X := some ()) (Y := none) (pc := 2061) (tgt := 2066) C dlw_2061 (by decide) (if_pos hth) (fun _ => ?_) (fun h => by cases h)
  refine J_iload (pc := 2066) C dlw_2066 1 rfl ?_
  by_cases h0 : o1.1 = 0
  · refine J_if_ne (α := Unit) (o := ()) (X := some ()) (Y := none) (pc := 2068) (tgt := 2083) C dlw_2068 (by decide) (if_pos h0) (fun h => by cases h) (fun _ => ?_)
    refine J_aload_n (pc := 2071) C dlw_2071 3 rfl ?_
    refine J_iconst (v := (0 : Int32)) (pc := 2072) C dlw_2072 (by decide) ?_
    refine J_perm (ws2 := [(ao, .inl (cL, 1, .inr (.inl o1.2.2)))] ++ List.flatten [wPL cI cB cO A o1.2.1, wMO cI cB am o2.2]) (by simpa using seg_split (segs := [wPL cI cB cO A o1.2.1, wMO cI cB am o2.2, [(ao, .inl (cL, 1, .inr (.inl o1.2.2)))]]) (Wc := [[(ao, .inl (cL, 1, .inr (.inl o1.2.2)))]]) (Wr := [wPL cI cB cO A o1.2.1, wMO cI cB am o2.2]) [2] [0, 1] rfl rfl 3 rfl (by decide)) ?_
    refine J_lald (pc := 2073) C dlw_2073 0 2 (rfl : ([(ao, .inl (cL, 1, .inr (.inl o1.2.2)))] ++ List.flatten [wPL cI cB cO A o1.2.1, wMO cI cB am o2.2] : va_W)[0]? = some (ao, .inl (cL, 1, .inr (.inl o1.2.2)))) rfl (by unfold vp_in; decide) ?_
    refine J_perm (ws2 := (List.flatten [wPL cI cB cO A o1.2.1, wMO cI cB am o2.2, [(ao, .inl (cL, 1, .inr (.inl o1.2.2)))]])) (by simpa using (seg_split (segs := [wPL cI cB cO A o1.2.1, wMO cI cB am o2.2, [(ao, .inl (cL, 1, .inr (.inl o1.2.2)))]]) (Wc := [[(ao, .inl (cL, 1, .inr (.inl o1.2.2)))]]) (Wr := [wPL cI cB cO A o1.2.1, wMO cI cB am o2.2]) [2] [0, 1] rfl rfl 3 rfl (by decide)).symm) ?_
    refine J_iload (pc := 2074) C dlw_2074 0 rfl ?_
    refine J_i2l (pc := 2076) C dlw_2076 ?_
    refine J_lcmp (pc := 2077) C dlw_2077 ?_
    refine J_if_eq (α := Unit) (o := ()) (X := some ()) (Y := none) (pc := 2078) (tgt := 2083) C dlw_2078 (by decide) (if_pos (by have hv := hval h0; rw [show (0 : Int32).toNatClampNeg = 0 from rfl, hv]; exact lg_cmp_self _)) (fun _ => ?_) (fun h => by cases h)
    refine J_goto (tgt := 3187) (pc := 2083) C dlw_2083 (by decide) ?_
    refine J_sub (lv2 := [(4, .int i), (3, .ref ao), (2, .ref (am 0)), (1, .ref (A 0 0)), (0, .ref b)]) [2, 3, 4, 5, 6] rfl ?_
    exact kx _ _ _ hRn
  · refine J_if_ne (α := Unit) (o := ()) (X := none) (Y := some ()) (pc := 2068) (tgt := 2083) C dlw_2068 (by decide) (if_neg h0) (fun _ => ?_) (fun h => by cases h)
    refine J_goto (tgt := 3187) (pc := 2083) C dlw_2083 (by decide) ?_
    refine J_sub (lv2 := [(4, .int i), (3, .ref ao), (2, .ref (am 0)), (1, .ref (A 0 0)), (0, .ref b)]) [2, 3, 4, 5, 6] rfl ?_
    exact kx _ _ _ hRn
set_option maxHeartbeats 4000000 in
set_option maxRecDepth 100000 in
theorem K_qualifying {p : Program} {l : Launch} {e : Env} {s : State} {m : MethodId} {below : List Frame} {meth : Method} {c : Code} {D : va_G} {cI cB cL cO : ClassId} {pf : Nat → Nat} {Q : State → Prop} {k n b L : Nat} {xs : Nat → Int32} {N : Nat} {A : Nat → Nat → Nat} {am : Nat → Nat} {ao : Nat} {i : Int32} {Rl : Nat → T_PL → T_MO → Prop} {st : T_PL} {mo : T_MO} {f : Nat → Int64} {kk : Nat} (C : jC p s m #[Value.ref b] meth c code 7 R_lawN D [(cI, .int), (cB, .byte), (cL, .long), (cO, .object RX0)] pf (fun q => s.heap.size ≤ q)) (hl : l.stackTraces = false) (hX : va_X b L xs s s.heap) (hbl : b < s.heap.size) (hbA : ¬ (fun q : Nat => s.heap.size ≤ q) b) (h1 : vp_in (i + (1 : Int32)) L) (h2 : vp_in (i + (2 : Int32)) L) (h3 : vp_in (i + (3 : Int32)) L) (h4 : vp_in (i + (4 : Int32)) L) (h5 : vp_in (i + (5 : Int32)) L) (hSt : (∀ x1 : Int32, StA Rl (fun s f => W_qualifying N s f x1) (fun m => F_M_qualifying N m x1))) (hk : kk < 512) (hR : Rl kk st mo) (hkn : k + 4 ≤ room_1.cells ∧ n + 24 ≤ room_1.slots) (kx : ∀ st2 mo2 f2, Rl (kk + 1) st2 mo2 → J p l e room_1 s m #[Value.ref b] below meth c 7 D (fun q => s.heap.size ≤ q) Q (k + 4) (n + 24) 3187 [(4, .int i), (3, .ref ao), (2, .ref (am 0)), (1, .ref (A 0 0)), (0, .ref b)] [] (List.flatten [wPL cI cB cO A st2, wMO cI cB am mo2, [(ao, .inl (cL, 1, .inr (.inl f2)))]])) : J p l e room_1 s m #[Value.ref b] below meth c 7 D (fun q => s.heap.size ≤ q) Q (k) (n) 2086 [(4, .int i), (3, .ref ao), (2, .ref (am 0)), (1, .ref (A 0 0)), (0, .ref b)] [] (List.flatten [wPL cI cB cO A st, wMO cI cB am mo, [(ao, .inl (cL, 1, .inr (.inl f)))]]) := by
  refine J_aload_n (pc := 2086) C dlw_2086 3 rfl ?_
  refine J_aload_n (pc := 2087) C dlw_2087 4 rfl ?_
  refine J_iload (pc := 2088) C dlw_2088 0 rfl ?_
  refine J_iconst (v := (1 : Int32)) (pc := 2090) C dlw_2090 (by decide) ?_
  refine J_iadd (pc := 2091) C dlw_2091 ?_
  refine J_sld C hX hbl hbA (pc := 2092) dlw_2092 h1 ?_
  refine J_aload_n (pc := 2093) C dlw_2093 1 rfl ?_
  obtain ⟨o1, o2, e1, e2, hth, hval, hRn⟩ := hSt (xs (i + (1 : Int32)).toNatClampNeg) kk st mo f hk hR
  refine J_csH (pc := 2094) (As := [.ref (A 0 0), .int (xs (i + (1 : Int32)).toNatClampNeg), .ref ao]) (st := []) C dlw_2094 ml_L_269 wh_qualifying (V_qualifying l hl D cI cB cL cO pf N A ao st f (xs (i + (1 : Int32)).toNatClampNeg) o1 e1) (List.flatten [wMO cI cB am mo]) (seg_split (segs := [wPL cI cB cO A st, wMO cI cB am mo, [(ao, .inl (cL, 1, .inr (.inl f)))]]) (Wc := [wPL cI cB cO A st, [(ao, .inl (cL, 1, .inr (.inl f)))]]) (Wr := [wMO cI cB am mo]) [0, 2] [1] rfl rfl 3 rfl (by decide)) rfl ⟨(Nat.le_of_ble_eq_true rfl), (Nat.le_of_ble_eq_true rfl)⟩ ⟨Nat.le_trans (Nat.add_le_add_left (Nat.le_of_ble_eq_true rfl) _) hkn.1, Nat.le_trans (Nat.add_le_add_left (Nat.le_of_ble_eq_true rfl) _) hkn.2⟩ (Nat.le_of_ble_eq_true rfl) ?_
  rintro v w1 ⟨rfl, rfl⟩
  refine J_perm (ws2 := (List.flatten [wPL cI cB cO A o1.2.1, wMO cI cB am mo, [(ao, .inl (cL, 1, .inr (.inl o1.2.2)))]])) (seg_split (segs := [wPL cI cB cO A o1.2.1, wMO cI cB am mo, [(ao, .inl (cL, 1, .inr (.inl o1.2.2)))]]) (Wc := [wPL cI cB cO A o1.2.1, [(ao, .inl (cL, 1, .inr (.inl o1.2.2)))]]) (Wr := [wMO cI cB am mo]) [0, 2] [1] rfl rfl 3 rfl (by decide)).symm ?_
  refine J_widen (k2 := k + 4) (n2 := n + 24) (Nat.add_le_add_left (Nat.le_of_ble_eq_true rfl) _) (Nat.add_le_add_left (Nat.le_of_ble_eq_true rfl) _) ?_
  refine J_istore (lv2 := [(5, .int o1.1), (4, .int i), (3, .ref ao), (2, .ref (am 0)), (1, .ref (A 0 0)), (0, .ref b)]) (pc := 2097) C dlw_2097 (by decide) rfl ?_
  refine J_aload_n (pc := 2099) C dlw_2099 3 rfl ?_
  refine J_aload_n (pc := 2100) C dlw_2100 5 rfl ?_
  refine J_iload (pc := 2101) C dlw_2101 1 rfl ?_
  refine J_iconst (v := (1 : Int32)) (pc := 2103) C dlw_2103 (by decide) ?_
  refine J_iadd (pc := 2104) C dlw_2104 ?_
  refine J_sld C hX hbl hbA (pc := 2105) dlw_2105 h1 ?_
  refine J_cvF (pc := 2106) (As := [.int (xs (i + (1 : Int32)).toNatClampNeg)]) (st := []) C dlw_2106 ml_L_271 mi_yX11_qualifying (C_M_qualifying l D cI cB cL cO pf N am mo (xs (i + (1 : Int32)).toNatClampNeg) o2 e2) (List.flatten [wPL cI cB cO A o1.2.1, [(ao, .inl (cL, 1, .inr (.inl o1.2.2)))]]) (seg_split (segs := [wPL cI cB cO A o1.2.1, wMO cI cB am mo, [(ao, .inl (cL, 1, .inr (.inl o1.2.2)))]]) (Wc := [wMO cI cB am mo]) (Wr := [wPL cI cB cO A o1.2.1, [(ao, .inl (cL, 1, .inr (.inl o1.2.2)))]]) [1] [0, 2] rfl rfl 3 rfl (by decide)) (q0 := 0) rfl rfl rfl ⟨(Nat.le_of_ble_eq_true rfl), (Nat.le_of_ble_eq_true rfl)⟩ hkn (Nat.le_of_ble_eq_true rfl) ?_
  rintro v w1 ⟨rfl, rfl⟩
  refine J_perm (ws2 := (List.flatten [wPL cI cB cO A o1.2.1, wMO cI cB am o2.2, [(ao, .inl (cL, 1, .inr (.inl o1.2.2)))]])) (seg_split (segs := [wPL cI cB cO A o1.2.1, wMO cI cB am o2.2, [(ao, .inl (cL, 1, .inr (.inl o1.2.2)))]]) (Wc := [wMO cI cB am o2.2]) (Wr := [wPL cI cB cO A o1.2.1, [(ao, .inl (cL, 1, .inr (.inl o1.2.2)))]]) [1] [0, 2] rfl rfl 3 rfl (by decide)).symm ?_
  refine J_istore (lv2 := [(6, .int o2.1), (5, .int o1.1), (4, .int i), (3, .ref ao), (2, .ref (am 0)), (1, .ref (A 0 0)), (0, .ref b)]) (pc := 2109) C dlw_2109 (by decide) rfl ?_
  refine J_aload_n (pc := 2111) C dlw_2111 4 rfl ?_
  refine J_cvF (pc := 2112) (As := []) (st := []) C dlw_2112 ml_L_170 mi_yX11_thrown (C_M_thrown l D cI cB cL cO pf N am o2.2 o2.2.1 rfl) (List.flatten [wPL cI cB cO A o1.2.1, [(ao, .inl (cL, 1, .inr (.inl o1.2.2)))]]) (seg_split (segs := [wPL cI cB cO A o1.2.1, wMO cI cB am o2.2, [(ao, .inl (cL, 1, .inr (.inl o1.2.2)))]]) (Wc := [wMO cI cB am o2.2]) (Wr := [wPL cI cB cO A o1.2.1, [(ao, .inl (cL, 1, .inr (.inl o1.2.2)))]]) [1] [0, 2] rfl rfl 3 rfl (by decide)) (q0 := 0) rfl rfl rfl ⟨(Nat.le_of_ble_eq_true rfl), (Nat.le_of_ble_eq_true rfl)⟩ hkn (Nat.le_of_ble_eq_true rfl) ?_
  rintro v w1 ⟨rfl, rfl⟩
  refine J_perm (ws2 := (List.flatten [wPL cI cB cO A o1.2.1, wMO cI cB am o2.2, [(ao, .inl (cL, 1, .inr (.inl o1.2.2)))]])) (seg_split (segs := [wPL cI cB cO A o1.2.1, wMO cI cB am o2.2, [(ao, .inl (cL, 1, .inr (.inl o1.2.2)))]]) (Wc := [wMO cI cB am o2.2]) (Wr := [wPL cI cB cO A o1.2.1, [(ao, .inl (cL, 1, .inr (.inl o1.2.2)))]]) [1] [0, 2] rfl rfl 3 rfl (by decide)).symm ?_
  refine J_iload (pc := 2115) C dlw_2115 1 rfl ?_
  refine J_ic_eq (α := Unit) (o := ()) (X := some ()) (Y := none) (pc := 2117) (tgt := 2122) C dlw_2117 (by decide) (if_pos hth) (fun _ => ?_) (fun h => by cases h)
  refine J_iload (pc := 2122) C dlw_2122 1 rfl ?_
  by_cases h0 : o1.1 = 0
  · refine J_if_ne (α := Unit) (o := ()) (X := some ()) (Y := none) (pc := 2124) (tgt := 2139) C dlw_2124 (by decide) (if_pos h0) (fun h => by cases h) (fun _ => ?_)
    refine J_aload_n (pc := 2127) C dlw_2127 3 rfl ?_
    refine J_iconst (v := (0 : Int32)) (pc := 2128) C dlw_2128 (by decide) ?_
    refine J_perm (ws2 := [(ao, .inl (cL, 1, .inr (.inl o1.2.2)))] ++ List.flatten [wPL cI cB cO A o1.2.1, wMO cI cB am o2.2]) (by simpa using seg_split (segs := [wPL cI cB cO A o1.2.1, wMO cI cB am o2.2, [(ao, .inl (cL, 1, .inr (.inl o1.2.2)))]]) (Wc := [[(ao, .inl (cL, 1, .inr (.inl o1.2.2)))]]) (Wr := [wPL cI cB cO A o1.2.1, wMO cI cB am o2.2]) [2] [0, 1] rfl rfl 3 rfl (by decide)) ?_
    refine J_lald (pc := 2129) C dlw_2129 0 2 (rfl : ([(ao, .inl (cL, 1, .inr (.inl o1.2.2)))] ++ List.flatten [wPL cI cB cO A o1.2.1, wMO cI cB am o2.2] : va_W)[0]? = some (ao, .inl (cL, 1, .inr (.inl o1.2.2)))) rfl (by unfold vp_in; decide) ?_
    refine J_perm (ws2 := (List.flatten [wPL cI cB cO A o1.2.1, wMO cI cB am o2.2, [(ao, .inl (cL, 1, .inr (.inl o1.2.2)))]])) (by simpa using (seg_split (segs := [wPL cI cB cO A o1.2.1, wMO cI cB am o2.2, [(ao, .inl (cL, 1, .inr (.inl o1.2.2)))]]) (Wc := [[(ao, .inl (cL, 1, .inr (.inl o1.2.2)))]]) (Wr := [wPL cI cB cO A o1.2.1, wMO cI cB am o2.2]) [2] [0, 1] rfl rfl 3 rfl (by decide)).symm) ?_
    refine J_iload (pc := 2130) C dlw_2130 0 rfl ?_
    refine J_i2l (pc := 2132) C dlw_2132 ?_
    refine J_lcmp (pc := 2133) C dlw_2133 ?_
    refine J_if_eq (α := Unit) (o := ()) (X := some ()) (Y := none) (pc := 2134) (tgt := 2139) C dlw_2134 (by decide) (if_pos (by have hv := hval h0; rw [show (0 : Int32).toNatClampNeg = 0 from rfl, hv]; exact lg_cmp_self _)) (fun _ => ?_) (fun h => by cases h)
    refine J_goto (tgt := 3187) (pc := 2139) C dlw_2139 (by decide) ?_
    refine J_sub (lv2 := [(4, .int i), (3, .ref ao), (2, .ref (am 0)), (1, .ref (A 0 0)), (0, .ref b)]) [2, 3, 4, 5, 6] rfl ?_
    exact kx _ _ _ hRn
  · refine J_if_ne (α := Unit) (o := ()) (X := none) (Y := some ()) (pc := 2124) (tgt := 2139) C dlw_2124 (by decide) (if_neg h0) (fun _ => ?_) (fun h => by cases h)
    refine J_goto (tgt := 3187) (pc := 2139) C dlw_2139 (by decide) ?_
    refine J_sub (lv2 := [(4, .int i), (3, .ref ao), (2, .ref (am 0)), (1, .ref (A 0 0)), (0, .ref b)]) [2, 3, 4, 5, 6] rfl ?_
    exact kx _ _ _ hRn
set_option maxHeartbeats 4000000 in
set_option maxRecDepth 100000 in
theorem K_belowSince {p : Program} {l : Launch} {e : Env} {s : State} {m : MethodId} {below : List Frame} {meth : Method} {c : Code} {D : va_G} {cI cB cL cO : ClassId} {pf : Nat → Nat} {Q : State → Prop} {k n b L : Nat} {xs : Nat → Int32} {N : Nat} {A : Nat → Nat → Nat} {am : Nat → Nat} {ao : Nat} {i : Int32} {Rl : Nat → T_PL → T_MO → Prop} {st : T_PL} {mo : T_MO} {f : Nat → Int64} {kk : Nat} (C : jC p s m #[Value.ref b] meth c code 7 R_lawN D [(cI, .int), (cB, .byte), (cL, .long), (cO, .object RX0)] pf (fun q => s.heap.size ≤ q)) (hl : l.stackTraces = false) (hX : va_X b L xs s s.heap) (hbl : b < s.heap.size) (hbA : ¬ (fun q : Nat => s.heap.size ≤ q) b) (h1 : vp_in (i + (1 : Int32)) L) (h2 : vp_in (i + (2 : Int32)) L) (h3 : vp_in (i + (3 : Int32)) L) (h4 : vp_in (i + (4 : Int32)) L) (h5 : vp_in (i + (5 : Int32)) L) (hSt : (∀ x1 : Int32, StA Rl (fun s f => W_belowSince N s f x1) (fun m => F_M_belowSince N m x1))) (hk : kk < 512) (hR : Rl kk st mo) (hkn : k + 4 ≤ room_1.cells ∧ n + 24 ≤ room_1.slots) (kx : ∀ st2 mo2 f2, Rl (kk + 1) st2 mo2 → J p l e room_1 s m #[Value.ref b] below meth c 7 D (fun q => s.heap.size ≤ q) Q (k + 4) (n + 24) 3187 [(4, .int i), (3, .ref ao), (2, .ref (am 0)), (1, .ref (A 0 0)), (0, .ref b)] [] (List.flatten [wPL cI cB cO A st2, wMO cI cB am mo2, [(ao, .inl (cL, 1, .inr (.inl f2)))]])) : J p l e room_1 s m #[Value.ref b] below meth c 7 D (fun q => s.heap.size ≤ q) Q (k) (n) 2142 [(4, .int i), (3, .ref ao), (2, .ref (am 0)), (1, .ref (A 0 0)), (0, .ref b)] [] (List.flatten [wPL cI cB cO A st, wMO cI cB am mo, [(ao, .inl (cL, 1, .inr (.inl f)))]]) := by
  refine J_aload_n (pc := 2142) C dlw_2142 3 rfl ?_
  refine J_aload_n (pc := 2143) C dlw_2143 4 rfl ?_
  refine J_iload (pc := 2144) C dlw_2144 0 rfl ?_
  refine J_iconst (v := (1 : Int32)) (pc := 2146) C dlw_2146 (by decide) ?_
  refine J_iadd (pc := 2147) C dlw_2147 ?_
  refine J_sld C hX hbl hbA (pc := 2148) dlw_2148 h1 ?_
  refine J_aload_n (pc := 2149) C dlw_2149 1 rfl ?_
  obtain ⟨o1, o2, e1, e2, hth, hval, hRn⟩ := hSt (xs (i + (1 : Int32)).toNatClampNeg) kk st mo f hk hR
  refine J_csH (pc := 2150) (As := [.ref (A 0 0), .int (xs (i + (1 : Int32)).toNatClampNeg), .ref ao]) (st := []) C dlw_2150 ml_L_272 wh_belowSince (V_belowSince l hl D cI cB cL cO pf N A ao st f (xs (i + (1 : Int32)).toNatClampNeg) o1 e1) (List.flatten [wMO cI cB am mo]) (seg_split (segs := [wPL cI cB cO A st, wMO cI cB am mo, [(ao, .inl (cL, 1, .inr (.inl f)))]]) (Wc := [wPL cI cB cO A st, [(ao, .inl (cL, 1, .inr (.inl f)))]]) (Wr := [wMO cI cB am mo]) [0, 2] [1] rfl rfl 3 rfl (by decide)) rfl ⟨(Nat.le_of_ble_eq_true rfl), (Nat.le_of_ble_eq_true rfl)⟩ ⟨Nat.le_trans (Nat.add_le_add_left (Nat.le_of_ble_eq_true rfl) _) hkn.1, Nat.le_trans (Nat.add_le_add_left (Nat.le_of_ble_eq_true rfl) _) hkn.2⟩ (Nat.le_of_ble_eq_true rfl) ?_
  rintro v w1 ⟨rfl, rfl⟩
  refine J_perm (ws2 := (List.flatten [wPL cI cB cO A o1.2.1, wMO cI cB am mo, [(ao, .inl (cL, 1, .inr (.inl o1.2.2)))]])) (seg_split (segs := [wPL cI cB cO A o1.2.1, wMO cI cB am mo, [(ao, .inl (cL, 1, .inr (.inl o1.2.2)))]]) (Wc := [wPL cI cB cO A o1.2.1, [(ao, .inl (cL, 1, .inr (.inl o1.2.2)))]]) (Wr := [wMO cI cB am mo]) [0, 2] [1] rfl rfl 3 rfl (by decide)).symm ?_
  refine J_widen (k2 := k + 4) (n2 := n + 24) (Nat.add_le_add_left (Nat.le_of_ble_eq_true rfl) _) (Nat.add_le_add_left (Nat.le_of_ble_eq_true rfl) _) ?_
  refine J_istore (lv2 := [(5, .int o1.1), (4, .int i), (3, .ref ao), (2, .ref (am 0)), (1, .ref (A 0 0)), (0, .ref b)]) (pc := 2153) C dlw_2153 (by decide) rfl ?_
  refine J_aload_n (pc := 2155) C dlw_2155 3 rfl ?_
  refine J_aload_n (pc := 2156) C dlw_2156 5 rfl ?_
  refine J_iload (pc := 2157) C dlw_2157 1 rfl ?_
  refine J_iconst (v := (1 : Int32)) (pc := 2159) C dlw_2159 (by decide) ?_
  refine J_iadd (pc := 2160) C dlw_2160 ?_
  refine J_sld C hX hbl hbA (pc := 2161) dlw_2161 h1 ?_
  refine J_cvF (pc := 2162) (As := [.int (xs (i + (1 : Int32)).toNatClampNeg)]) (st := []) C dlw_2162 ml_L_274 mi_yX11_belowSince (C_M_belowSince l D cI cB cL cO pf N am mo (xs (i + (1 : Int32)).toNatClampNeg) o2 e2) (List.flatten [wPL cI cB cO A o1.2.1, [(ao, .inl (cL, 1, .inr (.inl o1.2.2)))]]) (seg_split (segs := [wPL cI cB cO A o1.2.1, wMO cI cB am mo, [(ao, .inl (cL, 1, .inr (.inl o1.2.2)))]]) (Wc := [wMO cI cB am mo]) (Wr := [wPL cI cB cO A o1.2.1, [(ao, .inl (cL, 1, .inr (.inl o1.2.2)))]]) [1] [0, 2] rfl rfl 3 rfl (by decide)) (q0 := 0) rfl rfl rfl ⟨(Nat.le_of_ble_eq_true rfl), (Nat.le_of_ble_eq_true rfl)⟩ hkn (Nat.le_of_ble_eq_true rfl) ?_
  rintro v w1 ⟨rfl, rfl⟩
  refine J_perm (ws2 := (List.flatten [wPL cI cB cO A o1.2.1, wMO cI cB am o2.2, [(ao, .inl (cL, 1, .inr (.inl o1.2.2)))]])) (seg_split (segs := [wPL cI cB cO A o1.2.1, wMO cI cB am o2.2, [(ao, .inl (cL, 1, .inr (.inl o1.2.2)))]]) (Wc := [wMO cI cB am o2.2]) (Wr := [wPL cI cB cO A o1.2.1, [(ao, .inl (cL, 1, .inr (.inl o1.2.2)))]]) [1] [0, 2] rfl rfl 3 rfl (by decide)).symm ?_
  refine J_istore (lv2 := [(6, .int o2.1), (5, .int o1.1), (4, .int i), (3, .ref ao), (2, .ref (am 0)), (1, .ref (A 0 0)), (0, .ref b)]) (pc := 2165) C dlw_2165 (by decide) rfl ?_
  refine J_aload_n (pc := 2167) C dlw_2167 4 rfl ?_
  refine J_cvF (pc := 2168) (As := []) (st := []) C dlw_2168 ml_L_170 mi_yX11_thrown (C_M_thrown l D cI cB cL cO pf N am o2.2 o2.2.1 rfl) (List.flatten [wPL cI cB cO A o1.2.1, [(ao, .inl (cL, 1, .inr (.inl o1.2.2)))]]) (seg_split (segs := [wPL cI cB cO A o1.2.1, wMO cI cB am o2.2, [(ao, .inl (cL, 1, .inr (.inl o1.2.2)))]]) (Wc := [wMO cI cB am o2.2]) (Wr := [wPL cI cB cO A o1.2.1, [(ao, .inl (cL, 1, .inr (.inl o1.2.2)))]]) [1] [0, 2] rfl rfl 3 rfl (by decide)) (q0 := 0) rfl rfl rfl ⟨(Nat.le_of_ble_eq_true rfl), (Nat.le_of_ble_eq_true rfl)⟩ hkn (Nat.le_of_ble_eq_true rfl) ?_
  rintro v w1 ⟨rfl, rfl⟩
  refine J_perm (ws2 := (List.flatten [wPL cI cB cO A o1.2.1, wMO cI cB am o2.2, [(ao, .inl (cL, 1, .inr (.inl o1.2.2)))]])) (seg_split (segs := [wPL cI cB cO A o1.2.1, wMO cI cB am o2.2, [(ao, .inl (cL, 1, .inr (.inl o1.2.2)))]]) (Wc := [wMO cI cB am o2.2]) (Wr := [wPL cI cB cO A o1.2.1, [(ao, .inl (cL, 1, .inr (.inl o1.2.2)))]]) [1] [0, 2] rfl rfl 3 rfl (by decide)).symm ?_
  refine J_iload (pc := 2171) C dlw_2171 1 rfl ?_
  refine J_ic_eq (α := Unit) (o := ()) (X := some ()) (Y := none) (pc := 2173) (tgt := 2178) C dlw_2173 (by decide) (if_pos hth) (fun _ => ?_) (fun h => by cases h)
  refine J_iload (pc := 2178) C dlw_2178 1 rfl ?_
  by_cases h0 : o1.1 = 0
  · refine J_if_ne (α := Unit) (o := ()) (X := some ()) (Y := none) (pc := 2180) (tgt := 2195) C dlw_2180 (by decide) (if_pos h0) (fun h => by cases h) (fun _ => ?_)
    refine J_aload_n (pc := 2183) C dlw_2183 3 rfl ?_
    refine J_iconst (v := (0 : Int32)) (pc := 2184) C dlw_2184 (by decide) ?_
    refine J_perm (ws2 := [(ao, .inl (cL, 1, .inr (.inl o1.2.2)))] ++ List.flatten [wPL cI cB cO A o1.2.1, wMO cI cB am o2.2]) (by simpa using seg_split (segs := [wPL cI cB cO A o1.2.1, wMO cI cB am o2.2, [(ao, .inl (cL, 1, .inr (.inl o1.2.2)))]]) (Wc := [[(ao, .inl (cL, 1, .inr (.inl o1.2.2)))]]) (Wr := [wPL cI cB cO A o1.2.1, wMO cI cB am o2.2]) [2] [0, 1] rfl rfl 3 rfl (by decide)) ?_
    refine J_lald (pc := 2185) C dlw_2185 0 2 (rfl : ([(ao, .inl (cL, 1, .inr (.inl o1.2.2)))] ++ List.flatten [wPL cI cB cO A o1.2.1, wMO cI cB am o2.2] : va_W)[0]? = some (ao, .inl (cL, 1, .inr (.inl o1.2.2)))) rfl (by unfold vp_in; decide) ?_
    refine J_perm (ws2 := (List.flatten [wPL cI cB cO A o1.2.1, wMO cI cB am o2.2, [(ao, .inl (cL, 1, .inr (.inl o1.2.2)))]])) (by simpa using (seg_split (segs := [wPL cI cB cO A o1.2.1, wMO cI cB am o2.2, [(ao, .inl (cL, 1, .inr (.inl o1.2.2)))]]) (Wc := [[(ao, .inl (cL, 1, .inr (.inl o1.2.2)))]]) (Wr := [wPL cI cB cO A o1.2.1, wMO cI cB am o2.2]) [2] [0, 1] rfl rfl 3 rfl (by decide)).symm) ?_
    refine J_iload (pc := 2186) C dlw_2186 0 rfl ?_
    refine J_i2l (pc := 2188) C dlw_2188 ?_
    refine J_lcmp (pc := 2189) C dlw_2189 ?_
    refine J_if_eq (α := Unit) (o := ()) (X := some ()) (Y := none) (pc := 2190) (tgt := 2195) C dlw_2190 (by decide) (if_pos (by have hv := hval h0; rw [show (0 : Int32).toNatClampNeg = 0 from rfl, hv]; exact lg_cmp_self _)) (fun _ => ?_) (fun h => by cases h)
    refine J_goto (tgt := 3187) (pc := 2195) C dlw_2195 (by decide) ?_
    refine J_sub (lv2 := [(4, .int i), (3, .ref ao), (2, .ref (am 0)), (1, .ref (A 0 0)), (0, .ref b)]) [2, 3, 4, 5, 6] rfl ?_
    exact kx _ _ _ hRn
  · refine J_if_ne (α := Unit) (o := ()) (X := none) (Y := some ()) (pc := 2180) (tgt := 2195) C dlw_2180 (by decide) (if_neg h0) (fun _ => ?_) (fun h => by cases h)
    refine J_goto (tgt := 3187) (pc := 2195) C dlw_2195 (by decide) ?_
    refine J_sub (lv2 := [(4, .int i), (3, .ref ao), (2, .ref (am 0)), (1, .ref (A 0 0)), (0, .ref b)]) [2, 3, 4, 5, 6] rfl ?_
    exact kx _ _ _ hRn
set_option maxHeartbeats 4000000 in
set_option maxRecDepth 100000 in
theorem K_toNextTier {p : Program} {l : Launch} {e : Env} {s : State} {m : MethodId} {below : List Frame} {meth : Method} {c : Code} {D : va_G} {cI cB cL cO : ClassId} {pf : Nat → Nat} {Q : State → Prop} {k n b L : Nat} {xs : Nat → Int32} {N : Nat} {A : Nat → Nat → Nat} {am : Nat → Nat} {ao : Nat} {i : Int32} {Rl : Nat → T_PL → T_MO → Prop} {st : T_PL} {mo : T_MO} {f : Nat → Int64} {kk : Nat} (C : jC p s m #[Value.ref b] meth c code 7 R_lawN D [(cI, .int), (cB, .byte), (cL, .long), (cO, .object RX0)] pf (fun q => s.heap.size ≤ q)) (hl : l.stackTraces = false) (hX : va_X b L xs s s.heap) (hbl : b < s.heap.size) (hbA : ¬ (fun q : Nat => s.heap.size ≤ q) b) (h1 : vp_in (i + (1 : Int32)) L) (h2 : vp_in (i + (2 : Int32)) L) (h3 : vp_in (i + (3 : Int32)) L) (h4 : vp_in (i + (4 : Int32)) L) (h5 : vp_in (i + (5 : Int32)) L) (hSt : (∀ x1 : Int32, StA Rl (fun s f => W_toNextTier N s f x1) (fun m => F_M_toNextTier N m x1))) (hk : kk < 512) (hR : Rl kk st mo) (hkn : k + 4 ≤ room_1.cells ∧ n + 24 ≤ room_1.slots) (kx : ∀ st2 mo2 f2, Rl (kk + 1) st2 mo2 → J p l e room_1 s m #[Value.ref b] below meth c 7 D (fun q => s.heap.size ≤ q) Q (k + 4) (n + 24) 3187 [(4, .int i), (3, .ref ao), (2, .ref (am 0)), (1, .ref (A 0 0)), (0, .ref b)] [] (List.flatten [wPL cI cB cO A st2, wMO cI cB am mo2, [(ao, .inl (cL, 1, .inr (.inl f2)))]])) : J p l e room_1 s m #[Value.ref b] below meth c 7 D (fun q => s.heap.size ≤ q) Q (k) (n) 2198 [(4, .int i), (3, .ref ao), (2, .ref (am 0)), (1, .ref (A 0 0)), (0, .ref b)] [] (List.flatten [wPL cI cB cO A st, wMO cI cB am mo, [(ao, .inl (cL, 1, .inr (.inl f)))]]) := by
  refine J_aload_n (pc := 2198) C dlw_2198 3 rfl ?_
  refine J_aload_n (pc := 2199) C dlw_2199 4 rfl ?_
  refine J_iload (pc := 2200) C dlw_2200 0 rfl ?_
  refine J_iconst (v := (1 : Int32)) (pc := 2202) C dlw_2202 (by decide) ?_
  refine J_iadd (pc := 2203) C dlw_2203 ?_
  refine J_sld C hX hbl hbA (pc := 2204) dlw_2204 h1 ?_
  refine J_aload_n (pc := 2205) C dlw_2205 1 rfl ?_
  obtain ⟨o1, o2, e1, e2, hth, hval, hRn⟩ := hSt (xs (i + (1 : Int32)).toNatClampNeg) kk st mo f hk hR
  refine J_csH (pc := 2206) (As := [.ref (A 0 0), .int (xs (i + (1 : Int32)).toNatClampNeg), .ref ao]) (st := []) C dlw_2206 ml_L_275 wh_toNextTier (V_toNextTier l hl D cI cB cL cO pf N A ao st f (xs (i + (1 : Int32)).toNatClampNeg) o1 e1) (List.flatten [wMO cI cB am mo]) (seg_split (segs := [wPL cI cB cO A st, wMO cI cB am mo, [(ao, .inl (cL, 1, .inr (.inl f)))]]) (Wc := [wPL cI cB cO A st, [(ao, .inl (cL, 1, .inr (.inl f)))]]) (Wr := [wMO cI cB am mo]) [0, 2] [1] rfl rfl 3 rfl (by decide)) rfl ⟨(Nat.le_of_ble_eq_true rfl), (Nat.le_of_ble_eq_true rfl)⟩ ⟨Nat.le_trans (Nat.add_le_add_left (Nat.le_of_ble_eq_true rfl) _) hkn.1, Nat.le_trans (Nat.add_le_add_left (Nat.le_of_ble_eq_true rfl) _) hkn.2⟩ (Nat.le_of_ble_eq_true rfl) ?_
  rintro v w1 ⟨rfl, rfl⟩
  refine J_perm (ws2 := (List.flatten [wPL cI cB cO A o1.2.1, wMO cI cB am mo, [(ao, .inl (cL, 1, .inr (.inl o1.2.2)))]])) (seg_split (segs := [wPL cI cB cO A o1.2.1, wMO cI cB am mo, [(ao, .inl (cL, 1, .inr (.inl o1.2.2)))]]) (Wc := [wPL cI cB cO A o1.2.1, [(ao, .inl (cL, 1, .inr (.inl o1.2.2)))]]) (Wr := [wMO cI cB am mo]) [0, 2] [1] rfl rfl 3 rfl (by decide)).symm ?_
  refine J_widen (k2 := k + 4) (n2 := n + 24) (Nat.add_le_add_left (Nat.le_of_ble_eq_true rfl) _) (Nat.add_le_add_left (Nat.le_of_ble_eq_true rfl) _) ?_
  refine J_istore (lv2 := [(5, .int o1.1), (4, .int i), (3, .ref ao), (2, .ref (am 0)), (1, .ref (A 0 0)), (0, .ref b)]) (pc := 2209) C dlw_2209 (by decide) rfl ?_
  refine J_aload_n (pc := 2211) C dlw_2211 3 rfl ?_
  refine J_aload_n (pc := 2212) C dlw_2212 5 rfl ?_
  refine J_iload (pc := 2213) C dlw_2213 1 rfl ?_
  refine J_iconst (v := (1 : Int32)) (pc := 2215) C dlw_2215 (by decide) ?_
  refine J_iadd (pc := 2216) C dlw_2216 ?_
  refine J_sld C hX hbl hbA (pc := 2217) dlw_2217 h1 ?_
  refine J_cvF (pc := 2218) (As := [.int (xs (i + (1 : Int32)).toNatClampNeg)]) (st := []) C dlw_2218 ml_L_277 mi_yX11_toNextTier (C_M_toNextTier l D cI cB cL cO pf N am mo (xs (i + (1 : Int32)).toNatClampNeg) o2 e2) (List.flatten [wPL cI cB cO A o1.2.1, [(ao, .inl (cL, 1, .inr (.inl o1.2.2)))]]) (seg_split (segs := [wPL cI cB cO A o1.2.1, wMO cI cB am mo, [(ao, .inl (cL, 1, .inr (.inl o1.2.2)))]]) (Wc := [wMO cI cB am mo]) (Wr := [wPL cI cB cO A o1.2.1, [(ao, .inl (cL, 1, .inr (.inl o1.2.2)))]]) [1] [0, 2] rfl rfl 3 rfl (by decide)) (q0 := 0) rfl rfl rfl ⟨(Nat.le_of_ble_eq_true rfl), (Nat.le_of_ble_eq_true rfl)⟩ hkn (Nat.le_of_ble_eq_true rfl) ?_
  rintro v w1 ⟨rfl, rfl⟩
  refine J_perm (ws2 := (List.flatten [wPL cI cB cO A o1.2.1, wMO cI cB am o2.2, [(ao, .inl (cL, 1, .inr (.inl o1.2.2)))]])) (seg_split (segs := [wPL cI cB cO A o1.2.1, wMO cI cB am o2.2, [(ao, .inl (cL, 1, .inr (.inl o1.2.2)))]]) (Wc := [wMO cI cB am o2.2]) (Wr := [wPL cI cB cO A o1.2.1, [(ao, .inl (cL, 1, .inr (.inl o1.2.2)))]]) [1] [0, 2] rfl rfl 3 rfl (by decide)).symm ?_
  refine J_istore (lv2 := [(6, .int o2.1), (5, .int o1.1), (4, .int i), (3, .ref ao), (2, .ref (am 0)), (1, .ref (A 0 0)), (0, .ref b)]) (pc := 2221) C dlw_2221 (by decide) rfl ?_
  refine J_aload_n (pc := 2223) C dlw_2223 4 rfl ?_
  refine J_cvF (pc := 2224) (As := []) (st := []) C dlw_2224 ml_L_170 mi_yX11_thrown (C_M_thrown l D cI cB cL cO pf N am o2.2 o2.2.1 rfl) (List.flatten [wPL cI cB cO A o1.2.1, [(ao, .inl (cL, 1, .inr (.inl o1.2.2)))]]) (seg_split (segs := [wPL cI cB cO A o1.2.1, wMO cI cB am o2.2, [(ao, .inl (cL, 1, .inr (.inl o1.2.2)))]]) (Wc := [wMO cI cB am o2.2]) (Wr := [wPL cI cB cO A o1.2.1, [(ao, .inl (cL, 1, .inr (.inl o1.2.2)))]]) [1] [0, 2] rfl rfl 3 rfl (by decide)) (q0 := 0) rfl rfl rfl ⟨(Nat.le_of_ble_eq_true rfl), (Nat.le_of_ble_eq_true rfl)⟩ hkn (Nat.le_of_ble_eq_true rfl) ?_
  rintro v w1 ⟨rfl, rfl⟩
  refine J_perm (ws2 := (List.flatten [wPL cI cB cO A o1.2.1, wMO cI cB am o2.2, [(ao, .inl (cL, 1, .inr (.inl o1.2.2)))]])) (seg_split (segs := [wPL cI cB cO A o1.2.1, wMO cI cB am o2.2, [(ao, .inl (cL, 1, .inr (.inl o1.2.2)))]]) (Wc := [wMO cI cB am o2.2]) (Wr := [wPL cI cB cO A o1.2.1, [(ao, .inl (cL, 1, .inr (.inl o1.2.2)))]]) [1] [0, 2] rfl rfl 3 rfl (by decide)).symm ?_
  refine J_iload (pc := 2227) C dlw_2227 1 rfl ?_
  refine J_ic_eq (α := Unit) (o := ()) (X := some ()) (Y := none) (pc := 2229) (tgt := 2234) C dlw_2229 (by decide) (if_pos hth) (fun _ => ?_) (fun h => by cases h)
  refine J_iload (pc := 2234) C dlw_2234 1 rfl ?_
  by_cases h0 : o1.1 = 0
  · refine J_if_ne (α := Unit) (o := ()) (X := some ()) (Y := none) (pc := 2236) (tgt := 2251) C dlw_2236 (by decide) (if_pos h0) (fun h => by cases h) (fun _ => ?_)
    refine J_aload_n (pc := 2239) C dlw_2239 3 rfl ?_
    refine J_iconst (v := (0 : Int32)) (pc := 2240) C dlw_2240 (by decide) ?_
    refine J_perm (ws2 := [(ao, .inl (cL, 1, .inr (.inl o1.2.2)))] ++ List.flatten [wPL cI cB cO A o1.2.1, wMO cI cB am o2.2]) (by simpa using seg_split (segs := [wPL cI cB cO A o1.2.1, wMO cI cB am o2.2, [(ao, .inl (cL, 1, .inr (.inl o1.2.2)))]]) (Wc := [[(ao, .inl (cL, 1, .inr (.inl o1.2.2)))]]) (Wr := [wPL cI cB cO A o1.2.1, wMO cI cB am o2.2]) [2] [0, 1] rfl rfl 3 rfl (by decide)) ?_
    refine J_lald (pc := 2241) C dlw_2241 0 2 (rfl : ([(ao, .inl (cL, 1, .inr (.inl o1.2.2)))] ++ List.flatten [wPL cI cB cO A o1.2.1, wMO cI cB am o2.2] : va_W)[0]? = some (ao, .inl (cL, 1, .inr (.inl o1.2.2)))) rfl (by unfold vp_in; decide) ?_
    refine J_perm (ws2 := (List.flatten [wPL cI cB cO A o1.2.1, wMO cI cB am o2.2, [(ao, .inl (cL, 1, .inr (.inl o1.2.2)))]])) (by simpa using (seg_split (segs := [wPL cI cB cO A o1.2.1, wMO cI cB am o2.2, [(ao, .inl (cL, 1, .inr (.inl o1.2.2)))]]) (Wc := [[(ao, .inl (cL, 1, .inr (.inl o1.2.2)))]]) (Wr := [wPL cI cB cO A o1.2.1, wMO cI cB am o2.2]) [2] [0, 1] rfl rfl 3 rfl (by decide)).symm) ?_
    refine J_iload (pc := 2242) C dlw_2242 0 rfl ?_
    refine J_i2l (pc := 2244) C dlw_2244 ?_
    refine J_lcmp (pc := 2245) C dlw_2245 ?_
    refine J_if_eq (α := Unit) (o := ()) (X := some ()) (Y := none) (pc := 2246) (tgt := 2251) C dlw_2246 (by decide) (if_pos (by have hv := hval h0; rw [show (0 : Int32).toNatClampNeg = 0 from rfl, hv]; exact lg_cmp_self _)) (fun _ => ?_) (fun h => by cases h)
    refine J_goto (tgt := 3187) (pc := 2251) C dlw_2251 (by decide) ?_
    refine J_sub (lv2 := [(4, .int i), (3, .ref ao), (2, .ref (am 0)), (1, .ref (A 0 0)), (0, .ref b)]) [2, 3, 4, 5, 6] rfl ?_
    exact kx _ _ _ hRn
  · refine J_if_ne (α := Unit) (o := ()) (X := none) (Y := some ()) (pc := 2236) (tgt := 2251) C dlw_2236 (by decide) (if_neg h0) (fun _ => ?_) (fun h => by cases h)
    refine J_goto (tgt := 3187) (pc := 2251) C dlw_2251 (by decide) ?_
    refine J_sub (lv2 := [(4, .int i), (3, .ref ao), (2, .ref (am 0)), (1, .ref (A 0 0)), (0, .ref b)]) [2, 3, 4, 5, 6] rfl ?_
    exact kx _ _ _ hRn
set_option maxHeartbeats 4000000 in
set_option maxRecDepth 100000 in
theorem K_tierAfter {p : Program} {l : Launch} {e : Env} {s : State} {m : MethodId} {below : List Frame} {meth : Method} {c : Code} {D : va_G} {cI cB cL cO : ClassId} {pf : Nat → Nat} {Q : State → Prop} {k n b L : Nat} {xs : Nat → Int32} {N : Nat} {A : Nat → Nat → Nat} {am : Nat → Nat} {ao : Nat} {i : Int32} {Rl : Nat → T_PL → T_MO → Prop} {st : T_PL} {mo : T_MO} {f : Nat → Int64} {kk : Nat} (C : jC p s m #[Value.ref b] meth c code 7 R_lawN D [(cI, .int), (cB, .byte), (cL, .long), (cO, .object RX0)] pf (fun q => s.heap.size ≤ q)) (hl : l.stackTraces = false) (hX : va_X b L xs s s.heap) (hbl : b < s.heap.size) (hbA : ¬ (fun q : Nat => s.heap.size ≤ q) b) (h1 : vp_in (i + (1 : Int32)) L) (h2 : vp_in (i + (2 : Int32)) L) (h3 : vp_in (i + (3 : Int32)) L) (h4 : vp_in (i + (4 : Int32)) L) (h5 : vp_in (i + (5 : Int32)) L) (hSt : (∀ x1 : Int32, ∀ x2 : Int32, StA Rl (fun s f => W_tierAfter N s f x1 x2) (fun m => F_M_tierAfter N m x1 x2))) (hk : kk < 512) (hR : Rl kk st mo) (hkn : k + 4 ≤ room_1.cells ∧ n + 24 ≤ room_1.slots) (kx : ∀ st2 mo2 f2, Rl (kk + 1) st2 mo2 → J p l e room_1 s m #[Value.ref b] below meth c 7 D (fun q => s.heap.size ≤ q) Q (k + 4) (n + 24) 3187 [(4, .int i), (3, .ref ao), (2, .ref (am 0)), (1, .ref (A 0 0)), (0, .ref b)] [] (List.flatten [wPL cI cB cO A st2, wMO cI cB am mo2, [(ao, .inl (cL, 1, .inr (.inl f2)))]])) : J p l e room_1 s m #[Value.ref b] below meth c 7 D (fun q => s.heap.size ≤ q) Q (k) (n) 2254 [(4, .int i), (3, .ref ao), (2, .ref (am 0)), (1, .ref (A 0 0)), (0, .ref b)] [] (List.flatten [wPL cI cB cO A st, wMO cI cB am mo, [(ao, .inl (cL, 1, .inr (.inl f)))]]) := by
  refine J_aload_n (pc := 2254) C dlw_2254 3 rfl ?_
  refine J_aload_n (pc := 2255) C dlw_2255 4 rfl ?_
  refine J_iload (pc := 2256) C dlw_2256 0 rfl ?_
  refine J_iconst (v := (1 : Int32)) (pc := 2258) C dlw_2258 (by decide) ?_
  refine J_iadd (pc := 2259) C dlw_2259 ?_
  refine J_sld C hX hbl hbA (pc := 2260) dlw_2260 h1 ?_
  refine J_aload_n (pc := 2261) C dlw_2261 4 rfl ?_
  refine J_iload (pc := 2262) C dlw_2262 0 rfl ?_
  refine J_iconst (v := (2 : Int32)) (pc := 2264) C dlw_2264 (by decide) ?_
  refine J_iadd (pc := 2265) C dlw_2265 ?_
  refine J_sld C hX hbl hbA (pc := 2266) dlw_2266 h2 ?_
  refine J_aload_n (pc := 2267) C dlw_2267 1 rfl ?_
  obtain ⟨o1, o2, e1, e2, hth, hval, hRn⟩ := hSt (xs (i + (1 : Int32)).toNatClampNeg) (xs (i + (2 : Int32)).toNatClampNeg) kk st mo f hk hR
  refine J_csH (pc := 2268) (As := [.ref (A 0 0), .int (xs (i + (1 : Int32)).toNatClampNeg), .int (xs (i + (2 : Int32)).toNatClampNeg), .ref ao]) (st := []) C dlw_2268 ml_L_278 wh_tierAfter (V_tierAfter l hl D cI cB cL cO pf N A ao st f (xs (i + (1 : Int32)).toNatClampNeg) (xs (i + (2 : Int32)).toNatClampNeg) o1 e1) (List.flatten [wMO cI cB am mo]) (seg_split (segs := [wPL cI cB cO A st, wMO cI cB am mo, [(ao, .inl (cL, 1, .inr (.inl f)))]]) (Wc := [wPL cI cB cO A st, [(ao, .inl (cL, 1, .inr (.inl f)))]]) (Wr := [wMO cI cB am mo]) [0, 2] [1] rfl rfl 3 rfl (by decide)) rfl ⟨(Nat.le_of_ble_eq_true rfl), (Nat.le_of_ble_eq_true rfl)⟩ ⟨Nat.le_trans (Nat.add_le_add_left (Nat.le_of_ble_eq_true rfl) _) hkn.1, Nat.le_trans (Nat.add_le_add_left (Nat.le_of_ble_eq_true rfl) _) hkn.2⟩ (Nat.le_of_ble_eq_true rfl) ?_
  rintro v w1 ⟨rfl, rfl⟩
  refine J_perm (ws2 := (List.flatten [wPL cI cB cO A o1.2.1, wMO cI cB am mo, [(ao, .inl (cL, 1, .inr (.inl o1.2.2)))]])) (seg_split (segs := [wPL cI cB cO A o1.2.1, wMO cI cB am mo, [(ao, .inl (cL, 1, .inr (.inl o1.2.2)))]]) (Wc := [wPL cI cB cO A o1.2.1, [(ao, .inl (cL, 1, .inr (.inl o1.2.2)))]]) (Wr := [wMO cI cB am mo]) [0, 2] [1] rfl rfl 3 rfl (by decide)).symm ?_
  refine J_widen (k2 := k + 4) (n2 := n + 24) (Nat.add_le_add_left (Nat.le_of_ble_eq_true rfl) _) (Nat.add_le_add_left (Nat.le_of_ble_eq_true rfl) _) ?_
  refine J_istore (lv2 := [(5, .int o1.1), (4, .int i), (3, .ref ao), (2, .ref (am 0)), (1, .ref (A 0 0)), (0, .ref b)]) (pc := 2271) C dlw_2271 (by decide) rfl ?_
  refine J_aload_n (pc := 2273) C dlw_2273 3 rfl ?_
  refine J_aload_n (pc := 2274) C dlw_2274 5 rfl ?_
  refine J_iload (pc := 2275) C dlw_2275 1 rfl ?_
  refine J_iconst (v := (1 : Int32)) (pc := 2277) C dlw_2277 (by decide) ?_
  refine J_iadd (pc := 2278) C dlw_2278 ?_
  refine J_sld C hX hbl hbA (pc := 2279) dlw_2279 h1 ?_
  refine J_aload_n (pc := 2280) C dlw_2280 5 rfl ?_
  refine J_iload (pc := 2281) C dlw_2281 1 rfl ?_
  refine J_iconst (v := (2 : Int32)) (pc := 2283) C dlw_2283 (by decide) ?_
  refine J_iadd (pc := 2284) C dlw_2284 ?_
  refine J_sld C hX hbl hbA (pc := 2285) dlw_2285 h2 ?_
  refine J_cvF (pc := 2286) (As := [.int (xs (i + (1 : Int32)).toNatClampNeg), .int (xs (i + (2 : Int32)).toNatClampNeg)]) (st := []) C dlw_2286 ml_L_280 mi_yX11_tierAfter (C_M_tierAfter l D cI cB cL cO pf N am mo (xs (i + (1 : Int32)).toNatClampNeg) (xs (i + (2 : Int32)).toNatClampNeg) o2 e2) (List.flatten [wPL cI cB cO A o1.2.1, [(ao, .inl (cL, 1, .inr (.inl o1.2.2)))]]) (seg_split (segs := [wPL cI cB cO A o1.2.1, wMO cI cB am mo, [(ao, .inl (cL, 1, .inr (.inl o1.2.2)))]]) (Wc := [wMO cI cB am mo]) (Wr := [wPL cI cB cO A o1.2.1, [(ao, .inl (cL, 1, .inr (.inl o1.2.2)))]]) [1] [0, 2] rfl rfl 3 rfl (by decide)) (q0 := 0) rfl rfl rfl ⟨(Nat.le_of_ble_eq_true rfl), (Nat.le_of_ble_eq_true rfl)⟩ hkn (Nat.le_of_ble_eq_true rfl) ?_
  rintro v w1 ⟨rfl, rfl⟩
  refine J_perm (ws2 := (List.flatten [wPL cI cB cO A o1.2.1, wMO cI cB am o2.2, [(ao, .inl (cL, 1, .inr (.inl o1.2.2)))]])) (seg_split (segs := [wPL cI cB cO A o1.2.1, wMO cI cB am o2.2, [(ao, .inl (cL, 1, .inr (.inl o1.2.2)))]]) (Wc := [wMO cI cB am o2.2]) (Wr := [wPL cI cB cO A o1.2.1, [(ao, .inl (cL, 1, .inr (.inl o1.2.2)))]]) [1] [0, 2] rfl rfl 3 rfl (by decide)).symm ?_
  refine J_istore (lv2 := [(6, .int o2.1), (5, .int o1.1), (4, .int i), (3, .ref ao), (2, .ref (am 0)), (1, .ref (A 0 0)), (0, .ref b)]) (pc := 2289) C dlw_2289 (by decide) rfl ?_
  refine J_aload_n (pc := 2291) C dlw_2291 4 rfl ?_
  refine J_cvF (pc := 2292) (As := []) (st := []) C dlw_2292 ml_L_170 mi_yX11_thrown (C_M_thrown l D cI cB cL cO pf N am o2.2 o2.2.1 rfl) (List.flatten [wPL cI cB cO A o1.2.1, [(ao, .inl (cL, 1, .inr (.inl o1.2.2)))]]) (seg_split (segs := [wPL cI cB cO A o1.2.1, wMO cI cB am o2.2, [(ao, .inl (cL, 1, .inr (.inl o1.2.2)))]]) (Wc := [wMO cI cB am o2.2]) (Wr := [wPL cI cB cO A o1.2.1, [(ao, .inl (cL, 1, .inr (.inl o1.2.2)))]]) [1] [0, 2] rfl rfl 3 rfl (by decide)) (q0 := 0) rfl rfl rfl ⟨(Nat.le_of_ble_eq_true rfl), (Nat.le_of_ble_eq_true rfl)⟩ hkn (Nat.le_of_ble_eq_true rfl) ?_
  rintro v w1 ⟨rfl, rfl⟩
  refine J_perm (ws2 := (List.flatten [wPL cI cB cO A o1.2.1, wMO cI cB am o2.2, [(ao, .inl (cL, 1, .inr (.inl o1.2.2)))]])) (seg_split (segs := [wPL cI cB cO A o1.2.1, wMO cI cB am o2.2, [(ao, .inl (cL, 1, .inr (.inl o1.2.2)))]]) (Wc := [wMO cI cB am o2.2]) (Wr := [wPL cI cB cO A o1.2.1, [(ao, .inl (cL, 1, .inr (.inl o1.2.2)))]]) [1] [0, 2] rfl rfl 3 rfl (by decide)).symm ?_
  refine J_iload (pc := 2295) C dlw_2295 1 rfl ?_
  refine J_ic_eq (α := Unit) (o := ()) (X := some ()) (Y := none) (pc := 2297) (tgt := 2302) C dlw_2297 (by decide) (if_pos hth) (fun _ => ?_) (fun h => by cases h)
  refine J_iload (pc := 2302) C dlw_2302 1 rfl ?_
  by_cases h0 : o1.1 = 0
  · refine J_if_ne (α := Unit) (o := ()) (X := some ()) (Y := none) (pc := 2304) (tgt := 2319) C dlw_2304 (by decide) (if_pos h0) (fun h => by cases h) (fun _ => ?_)
    refine J_aload_n (pc := 2307) C dlw_2307 3 rfl ?_
    refine J_iconst (v := (0 : Int32)) (pc := 2308) C dlw_2308 (by decide) ?_
    refine J_perm (ws2 := [(ao, .inl (cL, 1, .inr (.inl o1.2.2)))] ++ List.flatten [wPL cI cB cO A o1.2.1, wMO cI cB am o2.2]) (by simpa using seg_split (segs := [wPL cI cB cO A o1.2.1, wMO cI cB am o2.2, [(ao, .inl (cL, 1, .inr (.inl o1.2.2)))]]) (Wc := [[(ao, .inl (cL, 1, .inr (.inl o1.2.2)))]]) (Wr := [wPL cI cB cO A o1.2.1, wMO cI cB am o2.2]) [2] [0, 1] rfl rfl 3 rfl (by decide)) ?_
    refine J_lald (pc := 2309) C dlw_2309 0 2 (rfl : ([(ao, .inl (cL, 1, .inr (.inl o1.2.2)))] ++ List.flatten [wPL cI cB cO A o1.2.1, wMO cI cB am o2.2] : va_W)[0]? = some (ao, .inl (cL, 1, .inr (.inl o1.2.2)))) rfl (by unfold vp_in; decide) ?_
    refine J_perm (ws2 := (List.flatten [wPL cI cB cO A o1.2.1, wMO cI cB am o2.2, [(ao, .inl (cL, 1, .inr (.inl o1.2.2)))]])) (by simpa using (seg_split (segs := [wPL cI cB cO A o1.2.1, wMO cI cB am o2.2, [(ao, .inl (cL, 1, .inr (.inl o1.2.2)))]]) (Wc := [[(ao, .inl (cL, 1, .inr (.inl o1.2.2)))]]) (Wr := [wPL cI cB cO A o1.2.1, wMO cI cB am o2.2]) [2] [0, 1] rfl rfl 3 rfl (by decide)).symm) ?_
    refine J_iload (pc := 2310) C dlw_2310 0 rfl ?_
    refine J_i2l (pc := 2312) C dlw_2312 ?_
    refine J_lcmp (pc := 2313) C dlw_2313 ?_
    refine J_if_eq (α := Unit) (o := ()) (X := some ()) (Y := none) (pc := 2314) (tgt := 2319) C dlw_2314 (by decide) (if_pos (by have hv := hval h0; rw [show (0 : Int32).toNatClampNeg = 0 from rfl, hv]; exact lg_cmp_self _)) (fun _ => ?_) (fun h => by cases h)
    refine J_goto (tgt := 3187) (pc := 2319) C dlw_2319 (by decide) ?_
    refine J_sub (lv2 := [(4, .int i), (3, .ref ao), (2, .ref (am 0)), (1, .ref (A 0 0)), (0, .ref b)]) [2, 3, 4, 5, 6] rfl ?_
    exact kx _ _ _ hRn
  · refine J_if_ne (α := Unit) (o := ()) (X := none) (Y := some ()) (pc := 2304) (tgt := 2319) C dlw_2304 (by decide) (if_neg h0) (fun _ => ?_) (fun h => by cases h)
    refine J_goto (tgt := 3187) (pc := 2319) C dlw_2319 (by decide) ?_
    refine J_sub (lv2 := [(4, .int i), (3, .ref ao), (2, .ref (am 0)), (1, .ref (A 0 0)), (0, .ref b)]) [2, 3, 4, 5, 6] rfl ?_
    exact kx _ _ _ hRn
set_option maxHeartbeats 4000000 in
set_option maxRecDepth 100000 in
theorem K_wouldEarn {p : Program} {l : Launch} {e : Env} {s : State} {m : MethodId} {below : List Frame} {meth : Method} {c : Code} {D : va_G} {cI cB cL cO : ClassId} {pf : Nat → Nat} {Q : State → Prop} {k n b L : Nat} {xs : Nat → Int32} {N : Nat} {A : Nat → Nat → Nat} {am : Nat → Nat} {ao : Nat} {i : Int32} {Rl : Nat → T_PL → T_MO → Prop} {st : T_PL} {mo : T_MO} {f : Nat → Int64} {kk : Nat} (C : jC p s m #[Value.ref b] meth c code 7 R_lawN D [(cI, .int), (cB, .byte), (cL, .long), (cO, .object RX0)] pf (fun q => s.heap.size ≤ q)) (hl : l.stackTraces = false) (hX : va_X b L xs s s.heap) (hbl : b < s.heap.size) (hbA : ¬ (fun q : Nat => s.heap.size ≤ q) b) (h1 : vp_in (i + (1 : Int32)) L) (h2 : vp_in (i + (2 : Int32)) L) (h3 : vp_in (i + (3 : Int32)) L) (h4 : vp_in (i + (4 : Int32)) L) (h5 : vp_in (i + (5 : Int32)) L) (hSt : (∀ x1 : Int32, ∀ x2 : Int32, ∀ x3 : Int32, StA Rl (fun s f => W_wouldEarn N s f x1 x2 x3) (fun m => F_M_wouldEarn N m x1 x2 x3))) (hk : kk < 512) (hR : Rl kk st mo) (hkn : k + 4 ≤ room_1.cells ∧ n + 24 ≤ room_1.slots) (kx : ∀ st2 mo2 f2, Rl (kk + 1) st2 mo2 → J p l e room_1 s m #[Value.ref b] below meth c 7 D (fun q => s.heap.size ≤ q) Q (k + 4) (n + 24) 3187 [(4, .int i), (3, .ref ao), (2, .ref (am 0)), (1, .ref (A 0 0)), (0, .ref b)] [] (List.flatten [wPL cI cB cO A st2, wMO cI cB am mo2, [(ao, .inl (cL, 1, .inr (.inl f2)))]])) : J p l e room_1 s m #[Value.ref b] below meth c 7 D (fun q => s.heap.size ≤ q) Q (k) (n) 2322 [(4, .int i), (3, .ref ao), (2, .ref (am 0)), (1, .ref (A 0 0)), (0, .ref b)] [] (List.flatten [wPL cI cB cO A st, wMO cI cB am mo, [(ao, .inl (cL, 1, .inr (.inl f)))]]) := by
  refine J_aload_n (pc := 2322) C dlw_2322 3 rfl ?_
  refine J_aload_n (pc := 2323) C dlw_2323 4 rfl ?_
  refine J_iload (pc := 2324) C dlw_2324 0 rfl ?_
  refine J_iconst (v := (1 : Int32)) (pc := 2326) C dlw_2326 (by decide) ?_
  refine J_iadd (pc := 2327) C dlw_2327 ?_
  refine J_sld C hX hbl hbA (pc := 2328) dlw_2328 h1 ?_
  refine J_aload_n (pc := 2329) C dlw_2329 4 rfl ?_
  refine J_iload (pc := 2330) C dlw_2330 0 rfl ?_
  refine J_iconst (v := (2 : Int32)) (pc := 2332) C dlw_2332 (by decide) ?_
  refine J_iadd (pc := 2333) C dlw_2333 ?_
  refine J_sld C hX hbl hbA (pc := 2334) dlw_2334 h2 ?_
  refine J_aload_n (pc := 2335) C dlw_2335 4 rfl ?_
  refine J_iload (pc := 2336) C dlw_2336 0 rfl ?_
  refine J_iconst (v := (3 : Int32)) (pc := 2338) C dlw_2338 (by decide) ?_
  refine J_iadd (pc := 2339) C dlw_2339 ?_
  refine J_sld C hX hbl hbA (pc := 2340) dlw_2340 h3 ?_
  refine J_aload_n (pc := 2341) C dlw_2341 1 rfl ?_
  obtain ⟨o1, o2, e1, e2, hth, hval, hRn⟩ := hSt (xs (i + (1 : Int32)).toNatClampNeg) (xs (i + (2 : Int32)).toNatClampNeg) (xs (i + (3 : Int32)).toNatClampNeg) kk st mo f hk hR
  refine J_csH (pc := 2342) (As := [.ref (A 0 0), .int (xs (i + (1 : Int32)).toNatClampNeg), .int (xs (i + (2 : Int32)).toNatClampNeg), .int (xs (i + (3 : Int32)).toNatClampNeg), .ref ao]) (st := []) C dlw_2342 ml_L_281 wh_wouldEarn (V_wouldEarn l hl D cI cB cL cO pf N A ao st f (xs (i + (1 : Int32)).toNatClampNeg) (xs (i + (2 : Int32)).toNatClampNeg) (xs (i + (3 : Int32)).toNatClampNeg) o1 e1) (List.flatten [wMO cI cB am mo]) (seg_split (segs := [wPL cI cB cO A st, wMO cI cB am mo, [(ao, .inl (cL, 1, .inr (.inl f)))]]) (Wc := [wPL cI cB cO A st, [(ao, .inl (cL, 1, .inr (.inl f)))]]) (Wr := [wMO cI cB am mo]) [0, 2] [1] rfl rfl 3 rfl (by decide)) rfl ⟨(Nat.le_of_ble_eq_true rfl), (Nat.le_of_ble_eq_true rfl)⟩ ⟨Nat.le_trans (Nat.add_le_add_left (Nat.le_of_ble_eq_true rfl) _) hkn.1, Nat.le_trans (Nat.add_le_add_left (Nat.le_of_ble_eq_true rfl) _) hkn.2⟩ (Nat.le_of_ble_eq_true rfl) ?_
  rintro v w1 ⟨rfl, rfl⟩
  refine J_perm (ws2 := (List.flatten [wPL cI cB cO A o1.2.1, wMO cI cB am mo, [(ao, .inl (cL, 1, .inr (.inl o1.2.2)))]])) (seg_split (segs := [wPL cI cB cO A o1.2.1, wMO cI cB am mo, [(ao, .inl (cL, 1, .inr (.inl o1.2.2)))]]) (Wc := [wPL cI cB cO A o1.2.1, [(ao, .inl (cL, 1, .inr (.inl o1.2.2)))]]) (Wr := [wMO cI cB am mo]) [0, 2] [1] rfl rfl 3 rfl (by decide)).symm ?_
  refine J_widen (k2 := k + 4) (n2 := n + 24) (Nat.add_le_add_left (Nat.le_of_ble_eq_true rfl) _) (Nat.add_le_add_left (Nat.le_of_ble_eq_true rfl) _) ?_
  refine J_istore (lv2 := [(5, .int o1.1), (4, .int i), (3, .ref ao), (2, .ref (am 0)), (1, .ref (A 0 0)), (0, .ref b)]) (pc := 2345) C dlw_2345 (by decide) rfl ?_
  refine J_aload_n (pc := 2347) C dlw_2347 3 rfl ?_
  refine J_aload_n (pc := 2348) C dlw_2348 5 rfl ?_
  refine J_iload (pc := 2349) C dlw_2349 1 rfl ?_
  refine J_iconst (v := (1 : Int32)) (pc := 2351) C dlw_2351 (by decide) ?_
  refine J_iadd (pc := 2352) C dlw_2352 ?_
  refine J_sld C hX hbl hbA (pc := 2353) dlw_2353 h1 ?_
  refine J_aload_n (pc := 2354) C dlw_2354 5 rfl ?_
  refine J_iload (pc := 2355) C dlw_2355 1 rfl ?_
  refine J_iconst (v := (2 : Int32)) (pc := 2357) C dlw_2357 (by decide) ?_
  refine J_iadd (pc := 2358) C dlw_2358 ?_
  refine J_sld C hX hbl hbA (pc := 2359) dlw_2359 h2 ?_
  refine J_aload_n (pc := 2360) C dlw_2360 5 rfl ?_
  refine J_iload (pc := 2361) C dlw_2361 1 rfl ?_
  refine J_iconst (v := (3 : Int32)) (pc := 2363) C dlw_2363 (by decide) ?_
  refine J_iadd (pc := 2364) C dlw_2364 ?_
  refine J_sld C hX hbl hbA (pc := 2365) dlw_2365 h3 ?_
  refine J_cvF (pc := 2366) (As := [.int (xs (i + (1 : Int32)).toNatClampNeg), .int (xs (i + (2 : Int32)).toNatClampNeg), .int (xs (i + (3 : Int32)).toNatClampNeg)]) (st := []) C dlw_2366 ml_L_283 mi_yX11_wouldEarn (C_M_wouldEarn l D cI cB cL cO pf N am mo (xs (i + (1 : Int32)).toNatClampNeg) (xs (i + (2 : Int32)).toNatClampNeg) (xs (i + (3 : Int32)).toNatClampNeg) o2 e2) (List.flatten [wPL cI cB cO A o1.2.1, [(ao, .inl (cL, 1, .inr (.inl o1.2.2)))]]) (seg_split (segs := [wPL cI cB cO A o1.2.1, wMO cI cB am mo, [(ao, .inl (cL, 1, .inr (.inl o1.2.2)))]]) (Wc := [wMO cI cB am mo]) (Wr := [wPL cI cB cO A o1.2.1, [(ao, .inl (cL, 1, .inr (.inl o1.2.2)))]]) [1] [0, 2] rfl rfl 3 rfl (by decide)) (q0 := 0) rfl rfl rfl ⟨(Nat.le_of_ble_eq_true rfl), (Nat.le_of_ble_eq_true rfl)⟩ hkn (Nat.le_of_ble_eq_true rfl) ?_
  rintro v w1 ⟨rfl, rfl⟩
  refine J_perm (ws2 := (List.flatten [wPL cI cB cO A o1.2.1, wMO cI cB am o2.2, [(ao, .inl (cL, 1, .inr (.inl o1.2.2)))]])) (seg_split (segs := [wPL cI cB cO A o1.2.1, wMO cI cB am o2.2, [(ao, .inl (cL, 1, .inr (.inl o1.2.2)))]]) (Wc := [wMO cI cB am o2.2]) (Wr := [wPL cI cB cO A o1.2.1, [(ao, .inl (cL, 1, .inr (.inl o1.2.2)))]]) [1] [0, 2] rfl rfl 3 rfl (by decide)).symm ?_
  refine J_istore (lv2 := [(6, .int o2.1), (5, .int o1.1), (4, .int i), (3, .ref ao), (2, .ref (am 0)), (1, .ref (A 0 0)), (0, .ref b)]) (pc := 2369) C dlw_2369 (by decide) rfl ?_
  refine J_aload_n (pc := 2371) C dlw_2371 4 rfl ?_
  refine J_cvF (pc := 2372) (As := []) (st := []) C dlw_2372 ml_L_170 mi_yX11_thrown (C_M_thrown l D cI cB cL cO pf N am o2.2 o2.2.1 rfl) (List.flatten [wPL cI cB cO A o1.2.1, [(ao, .inl (cL, 1, .inr (.inl o1.2.2)))]]) (seg_split (segs := [wPL cI cB cO A o1.2.1, wMO cI cB am o2.2, [(ao, .inl (cL, 1, .inr (.inl o1.2.2)))]]) (Wc := [wMO cI cB am o2.2]) (Wr := [wPL cI cB cO A o1.2.1, [(ao, .inl (cL, 1, .inr (.inl o1.2.2)))]]) [1] [0, 2] rfl rfl 3 rfl (by decide)) (q0 := 0) rfl rfl rfl ⟨(Nat.le_of_ble_eq_true rfl), (Nat.le_of_ble_eq_true rfl)⟩ hkn (Nat.le_of_ble_eq_true rfl) ?_
  rintro v w1 ⟨rfl, rfl⟩
  refine J_perm (ws2 := (List.flatten [wPL cI cB cO A o1.2.1, wMO cI cB am o2.2, [(ao, .inl (cL, 1, .inr (.inl o1.2.2)))]])) (seg_split (segs := [wPL cI cB cO A o1.2.1, wMO cI cB am o2.2, [(ao, .inl (cL, 1, .inr (.inl o1.2.2)))]]) (Wc := [wMO cI cB am o2.2]) (Wr := [wPL cI cB cO A o1.2.1, [(ao, .inl (cL, 1, .inr (.inl o1.2.2)))]]) [1] [0, 2] rfl rfl 3 rfl (by decide)).symm ?_
  refine J_iload (pc := 2375) C dlw_2375 1 rfl ?_
  refine J_ic_eq (α := Unit) (o := ()) (X := some ()) (Y := none) (pc := 2377) (tgt := 2382) C dlw_2377 (by decide) (if_pos hth) (fun _ => ?_) (fun h => by cases h)
  refine J_iload (pc := 2382) C dlw_2382 1 rfl ?_
  by_cases h0 : o1.1 = 0
  · refine J_if_ne (α := Unit) (o := ()) (X := some ()) (Y := none) (pc := 2384) (tgt := 2399) C dlw_2384 (by decide) (if_pos h0) (fun h => by cases h) (fun _ => ?_)
    refine J_aload_n (pc := 2387) C dlw_2387 3 rfl ?_
    refine J_iconst (v := (0 : Int32)) (pc := 2388) C dlw_2388 (by decide) ?_
    refine J_perm (ws2 := [(ao, .inl (cL, 1, .inr (.inl o1.2.2)))] ++ List.flatten [wPL cI cB cO A o1.2.1, wMO cI cB am o2.2]) (by simpa using seg_split (segs := [wPL cI cB cO A o1.2.1, wMO cI cB am o2.2, [(ao, .inl (cL, 1, .inr (.inl o1.2.2)))]]) (Wc := [[(ao, .inl (cL, 1, .inr (.inl o1.2.2)))]]) (Wr := [wPL cI cB cO A o1.2.1, wMO cI cB am o2.2]) [2] [0, 1] rfl rfl 3 rfl (by decide)) ?_
    refine J_lald (pc := 2389) C dlw_2389 0 2 (rfl : ([(ao, .inl (cL, 1, .inr (.inl o1.2.2)))] ++ List.flatten [wPL cI cB cO A o1.2.1, wMO cI cB am o2.2] : va_W)[0]? = some (ao, .inl (cL, 1, .inr (.inl o1.2.2)))) rfl (by unfold vp_in; decide) ?_
    refine J_perm (ws2 := (List.flatten [wPL cI cB cO A o1.2.1, wMO cI cB am o2.2, [(ao, .inl (cL, 1, .inr (.inl o1.2.2)))]])) (by simpa using (seg_split (segs := [wPL cI cB cO A o1.2.1, wMO cI cB am o2.2, [(ao, .inl (cL, 1, .inr (.inl o1.2.2)))]]) (Wc := [[(ao, .inl (cL, 1, .inr (.inl o1.2.2)))]]) (Wr := [wPL cI cB cO A o1.2.1, wMO cI cB am o2.2]) [2] [0, 1] rfl rfl 3 rfl (by decide)).symm) ?_
    refine J_iload (pc := 2390) C dlw_2390 0 rfl ?_
    refine J_i2l (pc := 2392) C dlw_2392 ?_
    refine J_lcmp (pc := 2393) C dlw_2393 ?_
    refine J_if_eq (α := Unit) (o := ()) (X := some ()) (Y := none) (pc := 2394) (tgt := 2399) C dlw_2394 (by decide) (if_pos (by have hv := hval h0; rw [show (0 : Int32).toNatClampNeg = 0 from rfl, hv]; exact lg_cmp_self _)) (fun _ => ?_) (fun h => by cases h)
    refine J_goto (tgt := 3187) (pc := 2399) C dlw_2399 (by decide) ?_
    refine J_sub (lv2 := [(4, .int i), (3, .ref ao), (2, .ref (am 0)), (1, .ref (A 0 0)), (0, .ref b)]) [2, 3, 4, 5, 6] rfl ?_
    exact kx _ _ _ hRn
  · refine J_if_ne (α := Unit) (o := ()) (X := none) (Y := some ()) (pc := 2384) (tgt := 2399) C dlw_2384 (by decide) (if_neg h0) (fun _ => ?_) (fun h => by cases h)
    refine J_goto (tgt := 3187) (pc := 2399) C dlw_2399 (by decide) ?_
    refine J_sub (lv2 := [(4, .int i), (3, .ref ao), (2, .ref (am 0)), (1, .ref (A 0 0)), (0, .ref b)]) [2, 3, 4, 5, 6] rfl ?_
    exact kx _ _ _ hRn
set_option maxHeartbeats 4000000 in
set_option maxRecDepth 100000 in
theorem K_bestCategory {p : Program} {l : Launch} {e : Env} {s : State} {m : MethodId} {below : List Frame} {meth : Method} {c : Code} {D : va_G} {cI cB cL cO : ClassId} {pf : Nat → Nat} {Q : State → Prop} {k n b L : Nat} {xs : Nat → Int32} {N : Nat} {A : Nat → Nat → Nat} {am : Nat → Nat} {ao : Nat} {i : Int32} {Rl : Nat → T_PL → T_MO → Prop} {st : T_PL} {mo : T_MO} {f : Nat → Int64} {kk : Nat} (C : jC p s m #[Value.ref b] meth c code 7 R_lawN D [(cI, .int), (cB, .byte), (cL, .long), (cO, .object RX0)] pf (fun q => s.heap.size ≤ q)) (hl : l.stackTraces = false) (hX : va_X b L xs s s.heap) (hbl : b < s.heap.size) (hbA : ¬ (fun q : Nat => s.heap.size ≤ q) b) (h1 : vp_in (i + (1 : Int32)) L) (h2 : vp_in (i + (2 : Int32)) L) (h3 : vp_in (i + (3 : Int32)) L) (h4 : vp_in (i + (4 : Int32)) L) (h5 : vp_in (i + (5 : Int32)) L) (hSt : (∀ x1 : Int32, ∀ x2 : Int32, StA Rl (fun s f => W_bestCategory N s f x1 x2) (fun m => F_M_bestCategory N m x1 x2))) (hk : kk < 512) (hR : Rl kk st mo) (hkn : k + 4 ≤ room_1.cells ∧ n + 24 ≤ room_1.slots) (kx : ∀ st2 mo2 f2, Rl (kk + 1) st2 mo2 → J p l e room_1 s m #[Value.ref b] below meth c 7 D (fun q => s.heap.size ≤ q) Q (k + 4) (n + 24) 3187 [(4, .int i), (3, .ref ao), (2, .ref (am 0)), (1, .ref (A 0 0)), (0, .ref b)] [] (List.flatten [wPL cI cB cO A st2, wMO cI cB am mo2, [(ao, .inl (cL, 1, .inr (.inl f2)))]])) : J p l e room_1 s m #[Value.ref b] below meth c 7 D (fun q => s.heap.size ≤ q) Q (k) (n) 2402 [(4, .int i), (3, .ref ao), (2, .ref (am 0)), (1, .ref (A 0 0)), (0, .ref b)] [] (List.flatten [wPL cI cB cO A st, wMO cI cB am mo, [(ao, .inl (cL, 1, .inr (.inl f)))]]) := by
  refine J_aload_n (pc := 2402) C dlw_2402 3 rfl ?_
  refine J_aload_n (pc := 2403) C dlw_2403 4 rfl ?_
  refine J_iload (pc := 2404) C dlw_2404 0 rfl ?_
  refine J_iconst (v := (1 : Int32)) (pc := 2406) C dlw_2406 (by decide) ?_
  refine J_iadd (pc := 2407) C dlw_2407 ?_
  refine J_sld C hX hbl hbA (pc := 2408) dlw_2408 h1 ?_
  refine J_aload_n (pc := 2409) C dlw_2409 4 rfl ?_
  refine J_iload (pc := 2410) C dlw_2410 0 rfl ?_
  refine J_iconst (v := (2 : Int32)) (pc := 2412) C dlw_2412 (by decide) ?_
  refine J_iadd (pc := 2413) C dlw_2413 ?_
  refine J_sld C hX hbl hbA (pc := 2414) dlw_2414 h2 ?_
  refine J_aload_n (pc := 2415) C dlw_2415 1 rfl ?_
  obtain ⟨o1, o2, e1, e2, hth, hval, hRn⟩ := hSt (xs (i + (1 : Int32)).toNatClampNeg) (xs (i + (2 : Int32)).toNatClampNeg) kk st mo f hk hR
  refine J_csH (pc := 2416) (As := [.ref (A 0 0), .int (xs (i + (1 : Int32)).toNatClampNeg), .int (xs (i + (2 : Int32)).toNatClampNeg), .ref ao]) (st := []) C dlw_2416 ml_L_284 wh_bestCategory (V_bestCategory l hl D cI cB cL cO pf N A ao st f (xs (i + (1 : Int32)).toNatClampNeg) (xs (i + (2 : Int32)).toNatClampNeg) o1 e1) (List.flatten [wMO cI cB am mo]) (seg_split (segs := [wPL cI cB cO A st, wMO cI cB am mo, [(ao, .inl (cL, 1, .inr (.inl f)))]]) (Wc := [wPL cI cB cO A st, [(ao, .inl (cL, 1, .inr (.inl f)))]]) (Wr := [wMO cI cB am mo]) [0, 2] [1] rfl rfl 3 rfl (by decide)) rfl ⟨(Nat.le_of_ble_eq_true rfl), (Nat.le_of_ble_eq_true rfl)⟩ ⟨Nat.le_trans (Nat.add_le_add_left (Nat.le_of_ble_eq_true rfl) _) hkn.1, Nat.le_trans (Nat.add_le_add_left (Nat.le_of_ble_eq_true rfl) _) hkn.2⟩ (Nat.le_of_ble_eq_true rfl) ?_
  rintro v w1 ⟨rfl, rfl⟩
  refine J_perm (ws2 := (List.flatten [wPL cI cB cO A o1.2.1, wMO cI cB am mo, [(ao, .inl (cL, 1, .inr (.inl o1.2.2)))]])) (seg_split (segs := [wPL cI cB cO A o1.2.1, wMO cI cB am mo, [(ao, .inl (cL, 1, .inr (.inl o1.2.2)))]]) (Wc := [wPL cI cB cO A o1.2.1, [(ao, .inl (cL, 1, .inr (.inl o1.2.2)))]]) (Wr := [wMO cI cB am mo]) [0, 2] [1] rfl rfl 3 rfl (by decide)).symm ?_
  refine J_widen (k2 := k + 4) (n2 := n + 24) (Nat.add_le_add_left (Nat.le_of_ble_eq_true rfl) _) (Nat.add_le_add_left (Nat.le_of_ble_eq_true rfl) _) ?_
  refine J_istore (lv2 := [(5, .int o1.1), (4, .int i), (3, .ref ao), (2, .ref (am 0)), (1, .ref (A 0 0)), (0, .ref b)]) (pc := 2419) C dlw_2419 (by decide) rfl ?_
  refine J_aload_n (pc := 2421) C dlw_2421 3 rfl ?_
  refine J_aload_n (pc := 2422) C dlw_2422 5 rfl ?_
  refine J_iload (pc := 2423) C dlw_2423 1 rfl ?_
  refine J_iconst (v := (1 : Int32)) (pc := 2425) C dlw_2425 (by decide) ?_
  refine J_iadd (pc := 2426) C dlw_2426 ?_
  refine J_sld C hX hbl hbA (pc := 2427) dlw_2427 h1 ?_
  refine J_aload_n (pc := 2428) C dlw_2428 5 rfl ?_
  refine J_iload (pc := 2429) C dlw_2429 1 rfl ?_
  refine J_iconst (v := (2 : Int32)) (pc := 2431) C dlw_2431 (by decide) ?_
  refine J_iadd (pc := 2432) C dlw_2432 ?_
  refine J_sld C hX hbl hbA (pc := 2433) dlw_2433 h2 ?_
  refine J_cvF (pc := 2434) (As := [.int (xs (i + (1 : Int32)).toNatClampNeg), .int (xs (i + (2 : Int32)).toNatClampNeg)]) (st := []) C dlw_2434 ml_L_286 mi_yX11_bestCategory (C_M_bestCategory l D cI cB cL cO pf N am mo (xs (i + (1 : Int32)).toNatClampNeg) (xs (i + (2 : Int32)).toNatClampNeg) o2 e2) (List.flatten [wPL cI cB cO A o1.2.1, [(ao, .inl (cL, 1, .inr (.inl o1.2.2)))]]) (seg_split (segs := [wPL cI cB cO A o1.2.1, wMO cI cB am mo, [(ao, .inl (cL, 1, .inr (.inl o1.2.2)))]]) (Wc := [wMO cI cB am mo]) (Wr := [wPL cI cB cO A o1.2.1, [(ao, .inl (cL, 1, .inr (.inl o1.2.2)))]]) [1] [0, 2] rfl rfl 3 rfl (by decide)) (q0 := 0) rfl rfl rfl ⟨(Nat.le_of_ble_eq_true rfl), (Nat.le_of_ble_eq_true rfl)⟩ hkn (Nat.le_of_ble_eq_true rfl) ?_
  rintro v w1 ⟨rfl, rfl⟩
  refine J_perm (ws2 := (List.flatten [wPL cI cB cO A o1.2.1, wMO cI cB am o2.2, [(ao, .inl (cL, 1, .inr (.inl o1.2.2)))]])) (seg_split (segs := [wPL cI cB cO A o1.2.1, wMO cI cB am o2.2, [(ao, .inl (cL, 1, .inr (.inl o1.2.2)))]]) (Wc := [wMO cI cB am o2.2]) (Wr := [wPL cI cB cO A o1.2.1, [(ao, .inl (cL, 1, .inr (.inl o1.2.2)))]]) [1] [0, 2] rfl rfl 3 rfl (by decide)).symm ?_
  refine J_istore (lv2 := [(6, .int o2.1), (5, .int o1.1), (4, .int i), (3, .ref ao), (2, .ref (am 0)), (1, .ref (A 0 0)), (0, .ref b)]) (pc := 2437) C dlw_2437 (by decide) rfl ?_
  refine J_aload_n (pc := 2439) C dlw_2439 4 rfl ?_
  refine J_cvF (pc := 2440) (As := []) (st := []) C dlw_2440 ml_L_170 mi_yX11_thrown (C_M_thrown l D cI cB cL cO pf N am o2.2 o2.2.1 rfl) (List.flatten [wPL cI cB cO A o1.2.1, [(ao, .inl (cL, 1, .inr (.inl o1.2.2)))]]) (seg_split (segs := [wPL cI cB cO A o1.2.1, wMO cI cB am o2.2, [(ao, .inl (cL, 1, .inr (.inl o1.2.2)))]]) (Wc := [wMO cI cB am o2.2]) (Wr := [wPL cI cB cO A o1.2.1, [(ao, .inl (cL, 1, .inr (.inl o1.2.2)))]]) [1] [0, 2] rfl rfl 3 rfl (by decide)) (q0 := 0) rfl rfl rfl ⟨(Nat.le_of_ble_eq_true rfl), (Nat.le_of_ble_eq_true rfl)⟩ hkn (Nat.le_of_ble_eq_true rfl) ?_
  rintro v w1 ⟨rfl, rfl⟩
  refine J_perm (ws2 := (List.flatten [wPL cI cB cO A o1.2.1, wMO cI cB am o2.2, [(ao, .inl (cL, 1, .inr (.inl o1.2.2)))]])) (seg_split (segs := [wPL cI cB cO A o1.2.1, wMO cI cB am o2.2, [(ao, .inl (cL, 1, .inr (.inl o1.2.2)))]]) (Wc := [wMO cI cB am o2.2]) (Wr := [wPL cI cB cO A o1.2.1, [(ao, .inl (cL, 1, .inr (.inl o1.2.2)))]]) [1] [0, 2] rfl rfl 3 rfl (by decide)).symm ?_
  refine J_iload (pc := 2443) C dlw_2443 1 rfl ?_
  refine J_ic_eq (α := Unit) (o := ()) (X := some ()) (Y := none) (pc := 2445) (tgt := 2450) C dlw_2445 (by decide) (if_pos hth) (fun _ => ?_) (fun h => by cases h)
  refine J_iload (pc := 2450) C dlw_2450 1 rfl ?_
  by_cases h0 : o1.1 = 0
  · refine J_if_ne (α := Unit) (o := ()) (X := some ()) (Y := none) (pc := 2452) (tgt := 2467) C dlw_2452 (by decide) (if_pos h0) (fun h => by cases h) (fun _ => ?_)
    refine J_aload_n (pc := 2455) C dlw_2455 3 rfl ?_
    refine J_iconst (v := (0 : Int32)) (pc := 2456) C dlw_2456 (by decide) ?_
    refine J_perm (ws2 := [(ao, .inl (cL, 1, .inr (.inl o1.2.2)))] ++ List.flatten [wPL cI cB cO A o1.2.1, wMO cI cB am o2.2]) (by simpa using seg_split (segs := [wPL cI cB cO A o1.2.1, wMO cI cB am o2.2, [(ao, .inl (cL, 1, .inr (.inl o1.2.2)))]]) (Wc := [[(ao, .inl (cL, 1, .inr (.inl o1.2.2)))]]) (Wr := [wPL cI cB cO A o1.2.1, wMO cI cB am o2.2]) [2] [0, 1] rfl rfl 3 rfl (by decide)) ?_
    refine J_lald (pc := 2457) C dlw_2457 0 2 (rfl : ([(ao, .inl (cL, 1, .inr (.inl o1.2.2)))] ++ List.flatten [wPL cI cB cO A o1.2.1, wMO cI cB am o2.2] : va_W)[0]? = some (ao, .inl (cL, 1, .inr (.inl o1.2.2)))) rfl (by unfold vp_in; decide) ?_
    refine J_perm (ws2 := (List.flatten [wPL cI cB cO A o1.2.1, wMO cI cB am o2.2, [(ao, .inl (cL, 1, .inr (.inl o1.2.2)))]])) (by simpa using (seg_split (segs := [wPL cI cB cO A o1.2.1, wMO cI cB am o2.2, [(ao, .inl (cL, 1, .inr (.inl o1.2.2)))]]) (Wc := [[(ao, .inl (cL, 1, .inr (.inl o1.2.2)))]]) (Wr := [wPL cI cB cO A o1.2.1, wMO cI cB am o2.2]) [2] [0, 1] rfl rfl 3 rfl (by decide)).symm) ?_
    refine J_iload (pc := 2458) C dlw_2458 0 rfl ?_
    refine J_i2l (pc := 2460) C dlw_2460 ?_
    refine J_lcmp (pc := 2461) C dlw_2461 ?_
    refine J_if_eq (α := Unit) (o := ()) (X := some ()) (Y := none) (pc := 2462) (tgt := 2467) C dlw_2462 (by decide) (if_pos (by have hv := hval h0; rw [show (0 : Int32).toNatClampNeg = 0 from rfl, hv]; exact lg_cmp_self _)) (fun _ => ?_) (fun h => by cases h)
    refine J_goto (tgt := 3187) (pc := 2467) C dlw_2467 (by decide) ?_
    refine J_sub (lv2 := [(4, .int i), (3, .ref ao), (2, .ref (am 0)), (1, .ref (A 0 0)), (0, .ref b)]) [2, 3, 4, 5, 6] rfl ?_
    exact kx _ _ _ hRn
  · refine J_if_ne (α := Unit) (o := ()) (X := none) (Y := some ()) (pc := 2452) (tgt := 2467) C dlw_2452 (by decide) (if_neg h0) (fun _ => ?_) (fun h => by cases h)
    refine J_goto (tgt := 3187) (pc := 2467) C dlw_2467 (by decide) ?_
    refine J_sub (lv2 := [(4, .int i), (3, .ref ao), (2, .ref (am 0)), (1, .ref (A 0 0)), (0, .ref b)]) [2, 3, 4, 5, 6] rfl ?_
    exact kx _ _ _ hRn
set_option maxHeartbeats 4000000 in
set_option maxRecDepth 100000 in
theorem K_leastCents {p : Program} {l : Launch} {e : Env} {s : State} {m : MethodId} {below : List Frame} {meth : Method} {c : Code} {D : va_G} {cI cB cL cO : ClassId} {pf : Nat → Nat} {Q : State → Prop} {k n b L : Nat} {xs : Nat → Int32} {N : Nat} {A : Nat → Nat → Nat} {am : Nat → Nat} {ao : Nat} {i : Int32} {Rl : Nat → T_PL → T_MO → Prop} {st : T_PL} {mo : T_MO} {f : Nat → Int64} {kk : Nat} (C : jC p s m #[Value.ref b] meth c code 7 R_lawN D [(cI, .int), (cB, .byte), (cL, .long), (cO, .object RX0)] pf (fun q => s.heap.size ≤ q)) (hl : l.stackTraces = false) (hX : va_X b L xs s s.heap) (hbl : b < s.heap.size) (hbA : ¬ (fun q : Nat => s.heap.size ≤ q) b) (h1 : vp_in (i + (1 : Int32)) L) (h2 : vp_in (i + (2 : Int32)) L) (h3 : vp_in (i + (3 : Int32)) L) (h4 : vp_in (i + (4 : Int32)) L) (h5 : vp_in (i + (5 : Int32)) L) (hSt : (∀ x1 : Int32, ∀ x2 : Int32, ∀ x3 : Int32, StA Rl (fun s f => W_leastCents N s f x1 x2 x3) (fun m => F_M_leastCents N m x1 x2 x3))) (hk : kk < 512) (hR : Rl kk st mo) (hkn : k + 4 ≤ room_1.cells ∧ n + 24 ≤ room_1.slots) (kx : ∀ st2 mo2 f2, Rl (kk + 1) st2 mo2 → J p l e room_1 s m #[Value.ref b] below meth c 7 D (fun q => s.heap.size ≤ q) Q (k + 4) (n + 24) 3187 [(4, .int i), (3, .ref ao), (2, .ref (am 0)), (1, .ref (A 0 0)), (0, .ref b)] [] (List.flatten [wPL cI cB cO A st2, wMO cI cB am mo2, [(ao, .inl (cL, 1, .inr (.inl f2)))]])) : J p l e room_1 s m #[Value.ref b] below meth c 7 D (fun q => s.heap.size ≤ q) Q (k) (n) 2470 [(4, .int i), (3, .ref ao), (2, .ref (am 0)), (1, .ref (A 0 0)), (0, .ref b)] [] (List.flatten [wPL cI cB cO A st, wMO cI cB am mo, [(ao, .inl (cL, 1, .inr (.inl f)))]]) := by
  refine J_aload_n (pc := 2470) C dlw_2470 3 rfl ?_
  refine J_aload_n (pc := 2471) C dlw_2471 4 rfl ?_
  refine J_iload (pc := 2472) C dlw_2472 0 rfl ?_
  refine J_iconst (v := (1 : Int32)) (pc := 2474) C dlw_2474 (by decide) ?_
  refine J_iadd (pc := 2475) C dlw_2475 ?_
  refine J_sld C hX hbl hbA (pc := 2476) dlw_2476 h1 ?_
  refine J_aload_n (pc := 2477) C dlw_2477 4 rfl ?_
  refine J_iload (pc := 2478) C dlw_2478 0 rfl ?_
  refine J_iconst (v := (2 : Int32)) (pc := 2480) C dlw_2480 (by decide) ?_
  refine J_iadd (pc := 2481) C dlw_2481 ?_
  refine J_sld C hX hbl hbA (pc := 2482) dlw_2482 h2 ?_
  refine J_aload_n (pc := 2483) C dlw_2483 4 rfl ?_
  refine J_iload (pc := 2484) C dlw_2484 0 rfl ?_
  refine J_iconst (v := (3 : Int32)) (pc := 2486) C dlw_2486 (by decide) ?_
  refine J_iadd (pc := 2487) C dlw_2487 ?_
  refine J_sld C hX hbl hbA (pc := 2488) dlw_2488 h3 ?_
  refine J_aload_n (pc := 2489) C dlw_2489 1 rfl ?_
  obtain ⟨o1, o2, e1, e2, hth, hval, hRn⟩ := hSt (xs (i + (1 : Int32)).toNatClampNeg) (xs (i + (2 : Int32)).toNatClampNeg) (xs (i + (3 : Int32)).toNatClampNeg) kk st mo f hk hR
  refine J_csH (pc := 2490) (As := [.ref (A 0 0), .int (xs (i + (1 : Int32)).toNatClampNeg), .int (xs (i + (2 : Int32)).toNatClampNeg), .int (xs (i + (3 : Int32)).toNatClampNeg), .ref ao]) (st := []) C dlw_2490 ml_L_287 wh_leastCents (V_leastCents l hl D cI cB cL cO pf N A ao st f (xs (i + (1 : Int32)).toNatClampNeg) (xs (i + (2 : Int32)).toNatClampNeg) (xs (i + (3 : Int32)).toNatClampNeg) o1 e1) (List.flatten [wMO cI cB am mo]) (seg_split (segs := [wPL cI cB cO A st, wMO cI cB am mo, [(ao, .inl (cL, 1, .inr (.inl f)))]]) (Wc := [wPL cI cB cO A st, [(ao, .inl (cL, 1, .inr (.inl f)))]]) (Wr := [wMO cI cB am mo]) [0, 2] [1] rfl rfl 3 rfl (by decide)) rfl ⟨(Nat.le_of_ble_eq_true rfl), (Nat.le_of_ble_eq_true rfl)⟩ ⟨Nat.le_trans (Nat.add_le_add_left (Nat.le_of_ble_eq_true rfl) _) hkn.1, Nat.le_trans (Nat.add_le_add_left (Nat.le_of_ble_eq_true rfl) _) hkn.2⟩ (Nat.le_of_ble_eq_true rfl) ?_
  rintro v w1 ⟨rfl, rfl⟩
  refine J_perm (ws2 := (List.flatten [wPL cI cB cO A o1.2.1, wMO cI cB am mo, [(ao, .inl (cL, 1, .inr (.inl o1.2.2)))]])) (seg_split (segs := [wPL cI cB cO A o1.2.1, wMO cI cB am mo, [(ao, .inl (cL, 1, .inr (.inl o1.2.2)))]]) (Wc := [wPL cI cB cO A o1.2.1, [(ao, .inl (cL, 1, .inr (.inl o1.2.2)))]]) (Wr := [wMO cI cB am mo]) [0, 2] [1] rfl rfl 3 rfl (by decide)).symm ?_
  refine J_widen (k2 := k + 4) (n2 := n + 24) (Nat.add_le_add_left (Nat.le_of_ble_eq_true rfl) _) (Nat.add_le_add_left (Nat.le_of_ble_eq_true rfl) _) ?_
  refine J_istore (lv2 := [(5, .int o1.1), (4, .int i), (3, .ref ao), (2, .ref (am 0)), (1, .ref (A 0 0)), (0, .ref b)]) (pc := 2493) C dlw_2493 (by decide) rfl ?_
  refine J_aload_n (pc := 2495) C dlw_2495 3 rfl ?_
  refine J_aload_n (pc := 2496) C dlw_2496 5 rfl ?_
  refine J_iload (pc := 2497) C dlw_2497 1 rfl ?_
  refine J_iconst (v := (1 : Int32)) (pc := 2499) C dlw_2499 (by decide) ?_
  refine J_iadd (pc := 2500) C dlw_2500 ?_
  refine J_sld C hX hbl hbA (pc := 2501) dlw_2501 h1 ?_
  refine J_aload_n (pc := 2502) C dlw_2502 5 rfl ?_
  refine J_iload (pc := 2503) C dlw_2503 1 rfl ?_
  refine J_iconst (v := (2 : Int32)) (pc := 2505) C dlw_2505 (by decide) ?_
  refine J_iadd (pc := 2506) C dlw_2506 ?_
  refine J_sld C hX hbl hbA (pc := 2507) dlw_2507 h2 ?_
  refine J_aload_n (pc := 2508) C dlw_2508 5 rfl ?_
  refine J_iload (pc := 2509) C dlw_2509 1 rfl ?_
  refine J_iconst (v := (3 : Int32)) (pc := 2511) C dlw_2511 (by decide) ?_
  refine J_iadd (pc := 2512) C dlw_2512 ?_
  refine J_sld C hX hbl hbA (pc := 2513) dlw_2513 h3 ?_
  refine J_cvF (pc := 2514) (As := [.int (xs (i + (1 : Int32)).toNatClampNeg), .int (xs (i + (2 : Int32)).toNatClampNeg), .int (xs (i + (3 : Int32)).toNatClampNeg)]) (st := []) C dlw_2514 ml_L_289 mi_yX11_leastCents (C_M_leastCents l D cI cB cL cO pf N am mo (xs (i + (1 : Int32)).toNatClampNeg) (xs (i + (2 : Int32)).toNatClampNeg) (xs (i + (3 : Int32)).toNatClampNeg) o2 e2) (List.flatten [wPL cI cB cO A o1.2.1, [(ao, .inl (cL, 1, .inr (.inl o1.2.2)))]]) (seg_split (segs := [wPL cI cB cO A o1.2.1, wMO cI cB am mo, [(ao, .inl (cL, 1, .inr (.inl o1.2.2)))]]) (Wc := [wMO cI cB am mo]) (Wr := [wPL cI cB cO A o1.2.1, [(ao, .inl (cL, 1, .inr (.inl o1.2.2)))]]) [1] [0, 2] rfl rfl 3 rfl (by decide)) (q0 := 0) rfl rfl rfl ⟨(Nat.le_of_ble_eq_true rfl), (Nat.le_of_ble_eq_true rfl)⟩ hkn (Nat.le_of_ble_eq_true rfl) ?_
  rintro v w1 ⟨rfl, rfl⟩
  refine J_perm (ws2 := (List.flatten [wPL cI cB cO A o1.2.1, wMO cI cB am o2.2, [(ao, .inl (cL, 1, .inr (.inl o1.2.2)))]])) (seg_split (segs := [wPL cI cB cO A o1.2.1, wMO cI cB am o2.2, [(ao, .inl (cL, 1, .inr (.inl o1.2.2)))]]) (Wc := [wMO cI cB am o2.2]) (Wr := [wPL cI cB cO A o1.2.1, [(ao, .inl (cL, 1, .inr (.inl o1.2.2)))]]) [1] [0, 2] rfl rfl 3 rfl (by decide)).symm ?_
  refine J_istore (lv2 := [(6, .int o2.1), (5, .int o1.1), (4, .int i), (3, .ref ao), (2, .ref (am 0)), (1, .ref (A 0 0)), (0, .ref b)]) (pc := 2517) C dlw_2517 (by decide) rfl ?_
  refine J_aload_n (pc := 2519) C dlw_2519 4 rfl ?_
  refine J_cvF (pc := 2520) (As := []) (st := []) C dlw_2520 ml_L_170 mi_yX11_thrown (C_M_thrown l D cI cB cL cO pf N am o2.2 o2.2.1 rfl) (List.flatten [wPL cI cB cO A o1.2.1, [(ao, .inl (cL, 1, .inr (.inl o1.2.2)))]]) (seg_split (segs := [wPL cI cB cO A o1.2.1, wMO cI cB am o2.2, [(ao, .inl (cL, 1, .inr (.inl o1.2.2)))]]) (Wc := [wMO cI cB am o2.2]) (Wr := [wPL cI cB cO A o1.2.1, [(ao, .inl (cL, 1, .inr (.inl o1.2.2)))]]) [1] [0, 2] rfl rfl 3 rfl (by decide)) (q0 := 0) rfl rfl rfl ⟨(Nat.le_of_ble_eq_true rfl), (Nat.le_of_ble_eq_true rfl)⟩ hkn (Nat.le_of_ble_eq_true rfl) ?_
  rintro v w1 ⟨rfl, rfl⟩
  refine J_perm (ws2 := (List.flatten [wPL cI cB cO A o1.2.1, wMO cI cB am o2.2, [(ao, .inl (cL, 1, .inr (.inl o1.2.2)))]])) (seg_split (segs := [wPL cI cB cO A o1.2.1, wMO cI cB am o2.2, [(ao, .inl (cL, 1, .inr (.inl o1.2.2)))]]) (Wc := [wMO cI cB am o2.2]) (Wr := [wPL cI cB cO A o1.2.1, [(ao, .inl (cL, 1, .inr (.inl o1.2.2)))]]) [1] [0, 2] rfl rfl 3 rfl (by decide)).symm ?_
  refine J_iload (pc := 2523) C dlw_2523 1 rfl ?_
  refine J_ic_eq (α := Unit) (o := ()) (X := some ()) (Y := none) (pc := 2525) (tgt := 2530) C dlw_2525 (by decide) (if_pos hth) (fun _ => ?_) (fun h => by cases h)
  refine J_iload (pc := 2530) C dlw_2530 1 rfl ?_
  by_cases h0 : o1.1 = 0
  · refine J_if_ne (α := Unit) (o := ()) (X := some ()) (Y := none) (pc := 2532) (tgt := 2547) C dlw_2532 (by decide) (if_pos h0) (fun h => by cases h) (fun _ => ?_)
    refine J_aload_n (pc := 2535) C dlw_2535 3 rfl ?_
    refine J_iconst (v := (0 : Int32)) (pc := 2536) C dlw_2536 (by decide) ?_
    refine J_perm (ws2 := [(ao, .inl (cL, 1, .inr (.inl o1.2.2)))] ++ List.flatten [wPL cI cB cO A o1.2.1, wMO cI cB am o2.2]) (by simpa using seg_split (segs := [wPL cI cB cO A o1.2.1, wMO cI cB am o2.2, [(ao, .inl (cL, 1, .inr (.inl o1.2.2)))]]) (Wc := [[(ao, .inl (cL, 1, .inr (.inl o1.2.2)))]]) (Wr := [wPL cI cB cO A o1.2.1, wMO cI cB am o2.2]) [2] [0, 1] rfl rfl 3 rfl (by decide)) ?_
    refine J_lald (pc := 2537) C dlw_2537 0 2 (rfl : ([(ao, .inl (cL, 1, .inr (.inl o1.2.2)))] ++ List.flatten [wPL cI cB cO A o1.2.1, wMO cI cB am o2.2] : va_W)[0]? = some (ao, .inl (cL, 1, .inr (.inl o1.2.2)))) rfl (by unfold vp_in; decide) ?_
    refine J_perm (ws2 := (List.flatten [wPL cI cB cO A o1.2.1, wMO cI cB am o2.2, [(ao, .inl (cL, 1, .inr (.inl o1.2.2)))]])) (by simpa using (seg_split (segs := [wPL cI cB cO A o1.2.1, wMO cI cB am o2.2, [(ao, .inl (cL, 1, .inr (.inl o1.2.2)))]]) (Wc := [[(ao, .inl (cL, 1, .inr (.inl o1.2.2)))]]) (Wr := [wPL cI cB cO A o1.2.1, wMO cI cB am o2.2]) [2] [0, 1] rfl rfl 3 rfl (by decide)).symm) ?_
    refine J_iload (pc := 2538) C dlw_2538 0 rfl ?_
    refine J_i2l (pc := 2540) C dlw_2540 ?_
    refine J_lcmp (pc := 2541) C dlw_2541 ?_
    refine J_if_eq (α := Unit) (o := ()) (X := some ()) (Y := none) (pc := 2542) (tgt := 2547) C dlw_2542 (by decide) (if_pos (by have hv := hval h0; rw [show (0 : Int32).toNatClampNeg = 0 from rfl, hv]; exact lg_cmp_self _)) (fun _ => ?_) (fun h => by cases h)
    refine J_goto (tgt := 3187) (pc := 2547) C dlw_2547 (by decide) ?_
    refine J_sub (lv2 := [(4, .int i), (3, .ref ao), (2, .ref (am 0)), (1, .ref (A 0 0)), (0, .ref b)]) [2, 3, 4, 5, 6] rfl ?_
    exact kx _ _ _ hRn
  · refine J_if_ne (α := Unit) (o := ()) (X := none) (Y := some ()) (pc := 2532) (tgt := 2547) C dlw_2532 (by decide) (if_neg h0) (fun _ => ?_) (fun h => by cases h)
    refine J_goto (tgt := 3187) (pc := 2547) C dlw_2547 (by decide) ?_
    refine J_sub (lv2 := [(4, .int i), (3, .ref ao), (2, .ref (am 0)), (1, .ref (A 0 0)), (0, .ref b)]) [2, 3, 4, 5, 6] rfl ?_
    exact kx _ _ _ hRn
set_option maxHeartbeats 4000000 in
set_option maxRecDepth 100000 in
theorem K_purchaseCount {p : Program} {l : Launch} {e : Env} {s : State} {m : MethodId} {below : List Frame} {meth : Method} {c : Code} {D : va_G} {cI cB cL cO : ClassId} {pf : Nat → Nat} {Q : State → Prop} {k n b L : Nat} {xs : Nat → Int32} {N : Nat} {A : Nat → Nat → Nat} {am : Nat → Nat} {ao : Nat} {i : Int32} {Rl : Nat → T_PL → T_MO → Prop} {st : T_PL} {mo : T_MO} {f : Nat → Int64} {kk : Nat} (C : jC p s m #[Value.ref b] meth c code 7 R_lawN D [(cI, .int), (cB, .byte), (cL, .long), (cO, .object RX0)] pf (fun q => s.heap.size ≤ q)) (hl : l.stackTraces = false) (hX : va_X b L xs s s.heap) (hbl : b < s.heap.size) (hbA : ¬ (fun q : Nat => s.heap.size ≤ q) b) (h1 : vp_in (i + (1 : Int32)) L) (h2 : vp_in (i + (2 : Int32)) L) (h3 : vp_in (i + (3 : Int32)) L) (h4 : vp_in (i + (4 : Int32)) L) (h5 : vp_in (i + (5 : Int32)) L) (hSt : (StB Rl (fun s => P_purchaseCount N s) (fun m => F_M_purchaseCount N m))) (hk : kk < 512) (hR : Rl kk st mo) (hkn : k + 4 ≤ room_1.cells ∧ n + 24 ≤ room_1.slots) (kx : ∀ st2 mo2 f2, Rl (kk + 1) st2 mo2 → J p l e room_1 s m #[Value.ref b] below meth c 7 D (fun q => s.heap.size ≤ q) Q (k + 4) (n + 24) 3187 [(4, .int i), (3, .ref ao), (2, .ref (am 0)), (1, .ref (A 0 0)), (0, .ref b)] [] (List.flatten [wPL cI cB cO A st2, wMO cI cB am mo2, [(ao, .inl (cL, 1, .inr (.inl f2)))]])) : J p l e room_1 s m #[Value.ref b] below meth c 7 D (fun q => s.heap.size ≤ q) Q (k) (n) 2550 [(4, .int i), (3, .ref ao), (2, .ref (am 0)), (1, .ref (A 0 0)), (0, .ref b)] [] (List.flatten [wPL cI cB cO A st, wMO cI cB am mo, [(ao, .inl (cL, 1, .inr (.inl f)))]]) := by
  refine J_aload_n (pc := 2550) C dlw_2550 3 rfl ?_
  obtain ⟨o1, o2, e1, e2, hth, hRn⟩ := hSt kk st mo hk hR
  refine J_cvF (pc := 2551) (As := []) (st := []) C dlw_2551 ml_L_290 mi_yX10_purchaseCount (Q_purchaseCount l D cI cB cL cO pf N A st o1 e1) (List.flatten [wMO cI cB am mo, [(ao, .inl (cL, 1, .inr (.inl f)))]]) (List.Perm.refl _) at_this rfl rfl ⟨(Nat.le_of_ble_eq_true rfl), (Nat.le_of_ble_eq_true rfl)⟩ ⟨Nat.le_trans (Nat.le_add_right _ 4) hkn.1, Nat.le_trans (Nat.le_add_right _ 24) hkn.2⟩ (Nat.le_of_ble_eq_true rfl) ?_
  rintro v w1 ⟨rfl, rfl⟩
  refine J_ws (ws2 := (List.flatten [wPL cI cB cO A o1.2, wMO cI cB am mo, [(ao, .inl (cL, 1, .inr (.inl f)))]])) rfl ?_
  refine J_widen (k2 := k + 4) (n2 := n + 24) (Nat.le_add_right _ 4) (Nat.le_add_right _ 24) ?_
  refine J_aload_n (pc := 2554) C dlw_2554 2 rfl ?_
  refine J_cvF (pc := 2555) (As := []) (st := [.int o1.1]) C dlw_2555 ml_L_293 mi_yX11_purchaseCount (C_M_purchaseCount l D cI cB cL cO pf N am mo o2 e2) (List.flatten [wPL cI cB cO A o1.2, [(ao, .inl (cL, 1, .inr (.inl f)))]]) (seg_split (segs := [wPL cI cB cO A o1.2, wMO cI cB am mo, [(ao, .inl (cL, 1, .inr (.inl f)))]]) (Wc := [wMO cI cB am mo]) (Wr := [wPL cI cB cO A o1.2, [(ao, .inl (cL, 1, .inr (.inl f)))]]) [1] [0, 2] rfl rfl 3 rfl (by decide)) (q0 := 0) rfl rfl rfl ⟨(Nat.le_of_ble_eq_true rfl), (Nat.le_of_ble_eq_true rfl)⟩ hkn (Nat.le_of_ble_eq_true rfl) ?_
  rintro v w1 ⟨rfl, rfl⟩
  refine J_perm (ws2 := (List.flatten [wPL cI cB cO A o1.2, wMO cI cB am o2.2, [(ao, .inl (cL, 1, .inr (.inl f)))]])) (seg_split (segs := [wPL cI cB cO A o1.2, wMO cI cB am o2.2, [(ao, .inl (cL, 1, .inr (.inl f)))]]) (Wc := [wMO cI cB am o2.2]) (Wr := [wPL cI cB cO A o1.2, [(ao, .inl (cL, 1, .inr (.inl f)))]]) [1] [0, 2] rfl rfl 3 rfl (by decide)).symm ?_
  refine J_ic_eq (α := Unit) (o := ()) (X := some ()) (Y := none) (pc := 2558) (tgt := 3187) C dlw_2558 (by decide) (if_pos hth) (fun _ => ?_) (fun h => by cases h)
  exact kx _ _ _ hRn
set_option maxHeartbeats 4000000 in
set_option maxRecDepth 100000 in
theorem K_purchasePart {p : Program} {l : Launch} {e : Env} {s : State} {m : MethodId} {below : List Frame} {meth : Method} {c : Code} {D : va_G} {cI cB cL cO : ClassId} {pf : Nat → Nat} {Q : State → Prop} {k n b L : Nat} {xs : Nat → Int32} {N : Nat} {A : Nat → Nat → Nat} {am : Nat → Nat} {ao : Nat} {i : Int32} {Rl : Nat → T_PL → T_MO → Prop} {st : T_PL} {mo : T_MO} {f : Nat → Int64} {kk : Nat} (C : jC p s m #[Value.ref b] meth c code 7 R_lawN D [(cI, .int), (cB, .byte), (cL, .long), (cO, .object RX0)] pf (fun q => s.heap.size ≤ q)) (hl : l.stackTraces = false) (hX : va_X b L xs s s.heap) (hbl : b < s.heap.size) (hbA : ¬ (fun q : Nat => s.heap.size ≤ q) b) (h1 : vp_in (i + (1 : Int32)) L) (h2 : vp_in (i + (2 : Int32)) L) (h3 : vp_in (i + (3 : Int32)) L) (h4 : vp_in (i + (4 : Int32)) L) (h5 : vp_in (i + (5 : Int32)) L) (hSt : (∀ x1 : Int32, ∀ x2 : Int32, StA Rl (fun s f => W_purchasePart N s f x1 x2) (fun m => F_M_purchasePart N m x1 x2))) (hk : kk < 512) (hR : Rl kk st mo) (hkn : k + 4 ≤ room_1.cells ∧ n + 24 ≤ room_1.slots) (kx : ∀ st2 mo2 f2, Rl (kk + 1) st2 mo2 → J p l e room_1 s m #[Value.ref b] below meth c 7 D (fun q => s.heap.size ≤ q) Q (k + 4) (n + 24) 3187 [(4, .int i), (3, .ref ao), (2, .ref (am 0)), (1, .ref (A 0 0)), (0, .ref b)] [] (List.flatten [wPL cI cB cO A st2, wMO cI cB am mo2, [(ao, .inl (cL, 1, .inr (.inl f2)))]])) : J p l e room_1 s m #[Value.ref b] below meth c 7 D (fun q => s.heap.size ≤ q) Q (k) (n) 2563 [(4, .int i), (3, .ref ao), (2, .ref (am 0)), (1, .ref (A 0 0)), (0, .ref b)] [] (List.flatten [wPL cI cB cO A st, wMO cI cB am mo, [(ao, .inl (cL, 1, .inr (.inl f)))]]) := by
  refine J_aload_n (pc := 2563) C dlw_2563 3 rfl ?_
  refine J_aload_n (pc := 2564) C dlw_2564 4 rfl ?_
  refine J_iload (pc := 2565) C dlw_2565 0 rfl ?_
  refine J_iconst (v := (1 : Int32)) (pc := 2567) C dlw_2567 (by decide) ?_
  refine J_iadd (pc := 2568) C dlw_2568 ?_
  refine J_sld C hX hbl hbA (pc := 2569) dlw_2569 h1 ?_
  refine J_aload_n (pc := 2570) C dlw_2570 4 rfl ?_
  refine J_iload (pc := 2571) C dlw_2571 0 rfl ?_
  refine J_iconst (v := (2 : Int32)) (pc := 2573) C dlw_2573 (by decide) ?_
  refine J_iadd (pc := 2574) C dlw_2574 ?_
  refine J_sld C hX hbl hbA (pc := 2575) dlw_2575 h2 ?_
  refine J_aload_n (pc := 2576) C dlw_2576 1 rfl ?_
  obtain ⟨o1, o2, e1, e2, hth, hval, hRn⟩ := hSt (xs (i + (1 : Int32)).toNatClampNeg) (xs (i + (2 : Int32)).toNatClampNeg) kk st mo f hk hR
  refine J_csH (pc := 2577) (As := [.ref (A 0 0), .int (xs (i + (1 : Int32)).toNatClampNeg), .int (xs (i + (2 : Int32)).toNatClampNeg), .ref ao]) (st := []) C dlw_2577 ml_L_294 wh_purchasePart (V_purchasePart l hl D cI cB cL cO pf N A ao st f (xs (i + (1 : Int32)).toNatClampNeg) (xs (i + (2 : Int32)).toNatClampNeg) o1 e1) (List.flatten [wMO cI cB am mo]) (seg_split (segs := [wPL cI cB cO A st, wMO cI cB am mo, [(ao, .inl (cL, 1, .inr (.inl f)))]]) (Wc := [wPL cI cB cO A st, [(ao, .inl (cL, 1, .inr (.inl f)))]]) (Wr := [wMO cI cB am mo]) [0, 2] [1] rfl rfl 3 rfl (by decide)) rfl ⟨(Nat.le_of_ble_eq_true rfl), (Nat.le_of_ble_eq_true rfl)⟩ ⟨Nat.le_trans (Nat.add_le_add_left (Nat.le_of_ble_eq_true rfl) _) hkn.1, Nat.le_trans (Nat.add_le_add_left (Nat.le_of_ble_eq_true rfl) _) hkn.2⟩ (Nat.le_of_ble_eq_true rfl) ?_
  rintro v w1 ⟨rfl, rfl⟩
  refine J_perm (ws2 := (List.flatten [wPL cI cB cO A o1.2.1, wMO cI cB am mo, [(ao, .inl (cL, 1, .inr (.inl o1.2.2)))]])) (seg_split (segs := [wPL cI cB cO A o1.2.1, wMO cI cB am mo, [(ao, .inl (cL, 1, .inr (.inl o1.2.2)))]]) (Wc := [wPL cI cB cO A o1.2.1, [(ao, .inl (cL, 1, .inr (.inl o1.2.2)))]]) (Wr := [wMO cI cB am mo]) [0, 2] [1] rfl rfl 3 rfl (by decide)).symm ?_
  refine J_widen (k2 := k + 4) (n2 := n + 24) (Nat.add_le_add_left (Nat.le_of_ble_eq_true rfl) _) (Nat.add_le_add_left (Nat.le_of_ble_eq_true rfl) _) ?_
  refine J_istore (lv2 := [(5, .int o1.1), (4, .int i), (3, .ref ao), (2, .ref (am 0)), (1, .ref (A 0 0)), (0, .ref b)]) (pc := 2580) C dlw_2580 (by decide) rfl ?_
  refine J_aload_n (pc := 2582) C dlw_2582 3 rfl ?_
  refine J_aload_n (pc := 2583) C dlw_2583 5 rfl ?_
  refine J_iload (pc := 2584) C dlw_2584 1 rfl ?_
  refine J_iconst (v := (1 : Int32)) (pc := 2586) C dlw_2586 (by decide) ?_
  refine J_iadd (pc := 2587) C dlw_2587 ?_
  refine J_sld C hX hbl hbA (pc := 2588) dlw_2588 h1 ?_
  refine J_aload_n (pc := 2589) C dlw_2589 5 rfl ?_
  refine J_iload (pc := 2590) C dlw_2590 1 rfl ?_
  refine J_iconst (v := (2 : Int32)) (pc := 2592) C dlw_2592 (by decide) ?_
  refine J_iadd (pc := 2593) C dlw_2593 ?_
  refine J_sld C hX hbl hbA (pc := 2594) dlw_2594 h2 ?_
  refine J_cvF (pc := 2595) (As := [.int (xs (i + (1 : Int32)).toNatClampNeg), .int (xs (i + (2 : Int32)).toNatClampNeg)]) (st := []) C dlw_2595 ml_L_296 mi_yX11_purchasePart (C_M_purchasePart l D cI cB cL cO pf N am mo (xs (i + (1 : Int32)).toNatClampNeg) (xs (i + (2 : Int32)).toNatClampNeg) o2 e2) (List.flatten [wPL cI cB cO A o1.2.1, [(ao, .inl (cL, 1, .inr (.inl o1.2.2)))]]) (seg_split (segs := [wPL cI cB cO A o1.2.1, wMO cI cB am mo, [(ao, .inl (cL, 1, .inr (.inl o1.2.2)))]]) (Wc := [wMO cI cB am mo]) (Wr := [wPL cI cB cO A o1.2.1, [(ao, .inl (cL, 1, .inr (.inl o1.2.2)))]]) [1] [0, 2] rfl rfl 3 rfl (by decide)) (q0 := 0) rfl rfl rfl ⟨(Nat.le_of_ble_eq_true rfl), (Nat.le_of_ble_eq_true rfl)⟩ hkn (Nat.le_of_ble_eq_true rfl) ?_
  rintro v w1 ⟨rfl, rfl⟩
  refine J_perm (ws2 := (List.flatten [wPL cI cB cO A o1.2.1, wMO cI cB am o2.2, [(ao, .inl (cL, 1, .inr (.inl o1.2.2)))]])) (seg_split (segs := [wPL cI cB cO A o1.2.1, wMO cI cB am o2.2, [(ao, .inl (cL, 1, .inr (.inl o1.2.2)))]]) (Wc := [wMO cI cB am o2.2]) (Wr := [wPL cI cB cO A o1.2.1, [(ao, .inl (cL, 1, .inr (.inl o1.2.2)))]]) [1] [0, 2] rfl rfl 3 rfl (by decide)).symm ?_
  refine J_istore (lv2 := [(6, .int o2.1), (5, .int o1.1), (4, .int i), (3, .ref ao), (2, .ref (am 0)), (1, .ref (A 0 0)), (0, .ref b)]) (pc := 2598) C dlw_2598 (by decide) rfl ?_
  refine J_aload_n (pc := 2600) C dlw_2600 4 rfl ?_
  refine J_cvF (pc := 2601) (As := []) (st := []) C dlw_2601 ml_L_170 mi_yX11_thrown (C_M_thrown l D cI cB cL cO pf N am o2.2 o2.2.1 rfl) (List.flatten [wPL cI cB cO A o1.2.1, [(ao, .inl (cL, 1, .inr (.inl o1.2.2)))]]) (seg_split (segs := [wPL cI cB cO A o1.2.1, wMO cI cB am o2.2, [(ao, .inl (cL, 1, .inr (.inl o1.2.2)))]]) (Wc := [wMO cI cB am o2.2]) (Wr := [wPL cI cB cO A o1.2.1, [(ao, .inl (cL, 1, .inr (.inl o1.2.2)))]]) [1] [0, 2] rfl rfl 3 rfl (by decide)) (q0 := 0) rfl rfl rfl ⟨(Nat.le_of_ble_eq_true rfl), (Nat.le_of_ble_eq_true rfl)⟩ hkn (Nat.le_of_ble_eq_true rfl) ?_
  rintro v w1 ⟨rfl, rfl⟩
  refine J_perm (ws2 := (List.flatten [wPL cI cB cO A o1.2.1, wMO cI cB am o2.2, [(ao, .inl (cL, 1, .inr (.inl o1.2.2)))]])) (seg_split (segs := [wPL cI cB cO A o1.2.1, wMO cI cB am o2.2, [(ao, .inl (cL, 1, .inr (.inl o1.2.2)))]]) (Wc := [wMO cI cB am o2.2]) (Wr := [wPL cI cB cO A o1.2.1, [(ao, .inl (cL, 1, .inr (.inl o1.2.2)))]]) [1] [0, 2] rfl rfl 3 rfl (by decide)).symm ?_
  refine J_iload (pc := 2604) C dlw_2604 1 rfl ?_
  refine J_ic_eq (α := Unit) (o := ()) (X := some ()) (Y := none) (pc := 2606) (tgt := 2611) C dlw_2606 (by decide) (if_pos hth) (fun _ => ?_) (fun h => by cases h)
  refine J_iload (pc := 2611) C dlw_2611 1 rfl ?_
  by_cases h0 : o1.1 = 0
  · refine J_if_ne (α := Unit) (o := ()) (X := some ()) (Y := none) (pc := 2613) (tgt := 2628) C dlw_2613 (by decide) (if_pos h0) (fun h => by cases h) (fun _ => ?_)
    refine J_aload_n (pc := 2616) C dlw_2616 3 rfl ?_
    refine J_iconst (v := (0 : Int32)) (pc := 2617) C dlw_2617 (by decide) ?_
    refine J_perm (ws2 := [(ao, .inl (cL, 1, .inr (.inl o1.2.2)))] ++ List.flatten [wPL cI cB cO A o1.2.1, wMO cI cB am o2.2]) (by simpa using seg_split (segs := [wPL cI cB cO A o1.2.1, wMO cI cB am o2.2, [(ao, .inl (cL, 1, .inr (.inl o1.2.2)))]]) (Wc := [[(ao, .inl (cL, 1, .inr (.inl o1.2.2)))]]) (Wr := [wPL cI cB cO A o1.2.1, wMO cI cB am o2.2]) [2] [0, 1] rfl rfl 3 rfl (by decide)) ?_
    refine J_lald (pc := 2618) C dlw_2618 0 2 (rfl : ([(ao, .inl (cL, 1, .inr (.inl o1.2.2)))] ++ List.flatten [wPL cI cB cO A o1.2.1, wMO cI cB am o2.2] : va_W)[0]? = some (ao, .inl (cL, 1, .inr (.inl o1.2.2)))) rfl (by unfold vp_in; decide) ?_
    refine J_perm (ws2 := (List.flatten [wPL cI cB cO A o1.2.1, wMO cI cB am o2.2, [(ao, .inl (cL, 1, .inr (.inl o1.2.2)))]])) (by simpa using (seg_split (segs := [wPL cI cB cO A o1.2.1, wMO cI cB am o2.2, [(ao, .inl (cL, 1, .inr (.inl o1.2.2)))]]) (Wc := [[(ao, .inl (cL, 1, .inr (.inl o1.2.2)))]]) (Wr := [wPL cI cB cO A o1.2.1, wMO cI cB am o2.2]) [2] [0, 1] rfl rfl 3 rfl (by decide)).symm) ?_
    refine J_iload (pc := 2619) C dlw_2619 0 rfl ?_
    refine J_i2l (pc := 2621) C dlw_2621 ?_
    refine J_lcmp (pc := 2622) C dlw_2622 ?_
    refine J_if_eq (α := Unit) (o := ()) (X := some ()) (Y := none) (pc := 2623) (tgt := 2628) C dlw_2623 (by decide) (if_pos (by have hv := hval h0; rw [show (0 : Int32).toNatClampNeg = 0 from rfl, hv]; exact lg_cmp_self _)) (fun _ => ?_) (fun h => by cases h)
    refine J_goto (tgt := 3187) (pc := 2628) C dlw_2628 (by decide) ?_
    refine J_sub (lv2 := [(4, .int i), (3, .ref ao), (2, .ref (am 0)), (1, .ref (A 0 0)), (0, .ref b)]) [2, 3, 4, 5, 6] rfl ?_
    exact kx _ _ _ hRn
  · refine J_if_ne (α := Unit) (o := ()) (X := none) (Y := some ()) (pc := 2613) (tgt := 2628) C dlw_2613 (by decide) (if_neg h0) (fun _ => ?_) (fun h => by cases h)
    refine J_goto (tgt := 3187) (pc := 2628) C dlw_2628 (by decide) ?_
    refine J_sub (lv2 := [(4, .int i), (3, .ref ao), (2, .ref (am 0)), (1, .ref (A 0 0)), (0, .ref b)]) [2, 3, 4, 5, 6] rfl ?_
    exact kx _ _ _ hRn
set_option maxHeartbeats 4000000 in
set_option maxRecDepth 100000 in
theorem K_expiringWithin {p : Program} {l : Launch} {e : Env} {s : State} {m : MethodId} {below : List Frame} {meth : Method} {c : Code} {D : va_G} {cI cB cL cO : ClassId} {pf : Nat → Nat} {Q : State → Prop} {k n b L : Nat} {xs : Nat → Int32} {N : Nat} {A : Nat → Nat → Nat} {am : Nat → Nat} {ao : Nat} {i : Int32} {Rl : Nat → T_PL → T_MO → Prop} {st : T_PL} {mo : T_MO} {f : Nat → Int64} {kk : Nat} (C : jC p s m #[Value.ref b] meth c code 7 R_lawN D [(cI, .int), (cB, .byte), (cL, .long), (cO, .object RX0)] pf (fun q => s.heap.size ≤ q)) (hl : l.stackTraces = false) (hX : va_X b L xs s s.heap) (hbl : b < s.heap.size) (hbA : ¬ (fun q : Nat => s.heap.size ≤ q) b) (h1 : vp_in (i + (1 : Int32)) L) (h2 : vp_in (i + (2 : Int32)) L) (h3 : vp_in (i + (3 : Int32)) L) (h4 : vp_in (i + (4 : Int32)) L) (h5 : vp_in (i + (5 : Int32)) L) (hSt : (∀ x1 : Int32, ∀ x2 : Int32, StA Rl (fun s f => W_expiringWithin N s f x1 x2) (fun m => F_M_expiringWithin N m x1 x2))) (hk : kk < 512) (hR : Rl kk st mo) (hkn : k + 4 ≤ room_1.cells ∧ n + 24 ≤ room_1.slots) (kx : ∀ st2 mo2 f2, Rl (kk + 1) st2 mo2 → J p l e room_1 s m #[Value.ref b] below meth c 7 D (fun q => s.heap.size ≤ q) Q (k + 4) (n + 24) 3187 [(4, .int i), (3, .ref ao), (2, .ref (am 0)), (1, .ref (A 0 0)), (0, .ref b)] [] (List.flatten [wPL cI cB cO A st2, wMO cI cB am mo2, [(ao, .inl (cL, 1, .inr (.inl f2)))]])) : J p l e room_1 s m #[Value.ref b] below meth c 7 D (fun q => s.heap.size ≤ q) Q (k) (n) 2631 [(4, .int i), (3, .ref ao), (2, .ref (am 0)), (1, .ref (A 0 0)), (0, .ref b)] [] (List.flatten [wPL cI cB cO A st, wMO cI cB am mo, [(ao, .inl (cL, 1, .inr (.inl f)))]]) := by
  refine J_aload_n (pc := 2631) C dlw_2631 3 rfl ?_
  refine J_aload_n (pc := 2632) C dlw_2632 4 rfl ?_
  refine J_iload (pc := 2633) C dlw_2633 0 rfl ?_
  refine J_iconst (v := (1 : Int32)) (pc := 2635) C dlw_2635 (by decide) ?_
  refine J_iadd (pc := 2636) C dlw_2636 ?_
  refine J_sld C hX hbl hbA (pc := 2637) dlw_2637 h1 ?_
  refine J_aload_n (pc := 2638) C dlw_2638 4 rfl ?_
  refine J_iload (pc := 2639) C dlw_2639 0 rfl ?_
  refine J_iconst (v := (2 : Int32)) (pc := 2641) C dlw_2641 (by decide) ?_
  refine J_iadd (pc := 2642) C dlw_2642 ?_
  refine J_sld C hX hbl hbA (pc := 2643) dlw_2643 h2 ?_
  refine J_aload_n (pc := 2644) C dlw_2644 1 rfl ?_
  obtain ⟨o1, o2, e1, e2, hth, hval, hRn⟩ := hSt (xs (i + (1 : Int32)).toNatClampNeg) (xs (i + (2 : Int32)).toNatClampNeg) kk st mo f hk hR
  refine J_csH (pc := 2645) (As := [.ref (A 0 0), .int (xs (i + (1 : Int32)).toNatClampNeg), .int (xs (i + (2 : Int32)).toNatClampNeg), .ref ao]) (st := []) C dlw_2645 ml_L_297 wh_expiringWithin (V_expiringWithin l hl D cI cB cL cO pf N A ao st f (xs (i + (1 : Int32)).toNatClampNeg) (xs (i + (2 : Int32)).toNatClampNeg) o1 e1) (List.flatten [wMO cI cB am mo]) (seg_split (segs := [wPL cI cB cO A st, wMO cI cB am mo, [(ao, .inl (cL, 1, .inr (.inl f)))]]) (Wc := [wPL cI cB cO A st, [(ao, .inl (cL, 1, .inr (.inl f)))]]) (Wr := [wMO cI cB am mo]) [0, 2] [1] rfl rfl 3 rfl (by decide)) rfl ⟨(Nat.le_of_ble_eq_true rfl), (Nat.le_of_ble_eq_true rfl)⟩ ⟨Nat.le_trans (Nat.add_le_add_left (Nat.le_of_ble_eq_true rfl) _) hkn.1, Nat.le_trans (Nat.add_le_add_left (Nat.le_of_ble_eq_true rfl) _) hkn.2⟩ (Nat.le_of_ble_eq_true rfl) ?_
  rintro v w1 ⟨rfl, rfl⟩
  refine J_perm (ws2 := (List.flatten [wPL cI cB cO A o1.2.1, wMO cI cB am mo, [(ao, .inl (cL, 1, .inr (.inl o1.2.2)))]])) (seg_split (segs := [wPL cI cB cO A o1.2.1, wMO cI cB am mo, [(ao, .inl (cL, 1, .inr (.inl o1.2.2)))]]) (Wc := [wPL cI cB cO A o1.2.1, [(ao, .inl (cL, 1, .inr (.inl o1.2.2)))]]) (Wr := [wMO cI cB am mo]) [0, 2] [1] rfl rfl 3 rfl (by decide)).symm ?_
  refine J_widen (k2 := k + 4) (n2 := n + 24) (Nat.add_le_add_left (Nat.le_of_ble_eq_true rfl) _) (Nat.add_le_add_left (Nat.le_of_ble_eq_true rfl) _) ?_
  refine J_istore (lv2 := [(5, .int o1.1), (4, .int i), (3, .ref ao), (2, .ref (am 0)), (1, .ref (A 0 0)), (0, .ref b)]) (pc := 2648) C dlw_2648 (by decide) rfl ?_
  refine J_aload_n (pc := 2650) C dlw_2650 3 rfl ?_
  refine J_aload_n (pc := 2651) C dlw_2651 5 rfl ?_
  refine J_iload (pc := 2652) C dlw_2652 1 rfl ?_
  refine J_iconst (v := (1 : Int32)) (pc := 2654) C dlw_2654 (by decide) ?_
  refine J_iadd (pc := 2655) C dlw_2655 ?_
  refine J_sld C hX hbl hbA (pc := 2656) dlw_2656 h1 ?_
  refine J_aload_n (pc := 2657) C dlw_2657 5 rfl ?_
  refine J_iload (pc := 2658) C dlw_2658 1 rfl ?_
  refine J_iconst (v := (2 : Int32)) (pc := 2660) C dlw_2660 (by decide) ?_
  refine J_iadd (pc := 2661) C dlw_2661 ?_
  refine J_sld C hX hbl hbA (pc := 2662) dlw_2662 h2 ?_
  refine J_cvF (pc := 2663) (As := [.int (xs (i + (1 : Int32)).toNatClampNeg), .int (xs (i + (2 : Int32)).toNatClampNeg)]) (st := []) C dlw_2663 ml_L_299 mi_yX11_expiringWithin (C_M_expiringWithin l D cI cB cL cO pf N am mo (xs (i + (1 : Int32)).toNatClampNeg) (xs (i + (2 : Int32)).toNatClampNeg) o2 e2) (List.flatten [wPL cI cB cO A o1.2.1, [(ao, .inl (cL, 1, .inr (.inl o1.2.2)))]]) (seg_split (segs := [wPL cI cB cO A o1.2.1, wMO cI cB am mo, [(ao, .inl (cL, 1, .inr (.inl o1.2.2)))]]) (Wc := [wMO cI cB am mo]) (Wr := [wPL cI cB cO A o1.2.1, [(ao, .inl (cL, 1, .inr (.inl o1.2.2)))]]) [1] [0, 2] rfl rfl 3 rfl (by decide)) (q0 := 0) rfl rfl rfl ⟨(Nat.le_of_ble_eq_true rfl), (Nat.le_of_ble_eq_true rfl)⟩ hkn (Nat.le_of_ble_eq_true rfl) ?_
  rintro v w1 ⟨rfl, rfl⟩
  refine J_perm (ws2 := (List.flatten [wPL cI cB cO A o1.2.1, wMO cI cB am o2.2, [(ao, .inl (cL, 1, .inr (.inl o1.2.2)))]])) (seg_split (segs := [wPL cI cB cO A o1.2.1, wMO cI cB am o2.2, [(ao, .inl (cL, 1, .inr (.inl o1.2.2)))]]) (Wc := [wMO cI cB am o2.2]) (Wr := [wPL cI cB cO A o1.2.1, [(ao, .inl (cL, 1, .inr (.inl o1.2.2)))]]) [1] [0, 2] rfl rfl 3 rfl (by decide)).symm ?_
  refine J_istore (lv2 := [(6, .int o2.1), (5, .int o1.1), (4, .int i), (3, .ref ao), (2, .ref (am 0)), (1, .ref (A 0 0)), (0, .ref b)]) (pc := 2666) C dlw_2666 (by decide) rfl ?_
  refine J_aload_n (pc := 2668) C dlw_2668 4 rfl ?_
  refine J_cvF (pc := 2669) (As := []) (st := []) C dlw_2669 ml_L_170 mi_yX11_thrown (C_M_thrown l D cI cB cL cO pf N am o2.2 o2.2.1 rfl) (List.flatten [wPL cI cB cO A o1.2.1, [(ao, .inl (cL, 1, .inr (.inl o1.2.2)))]]) (seg_split (segs := [wPL cI cB cO A o1.2.1, wMO cI cB am o2.2, [(ao, .inl (cL, 1, .inr (.inl o1.2.2)))]]) (Wc := [wMO cI cB am o2.2]) (Wr := [wPL cI cB cO A o1.2.1, [(ao, .inl (cL, 1, .inr (.inl o1.2.2)))]]) [1] [0, 2] rfl rfl 3 rfl (by decide)) (q0 := 0) rfl rfl rfl ⟨(Nat.le_of_ble_eq_true rfl), (Nat.le_of_ble_eq_true rfl)⟩ hkn (Nat.le_of_ble_eq_true rfl) ?_
  rintro v w1 ⟨rfl, rfl⟩
  refine J_perm (ws2 := (List.flatten [wPL cI cB cO A o1.2.1, wMO cI cB am o2.2, [(ao, .inl (cL, 1, .inr (.inl o1.2.2)))]])) (seg_split (segs := [wPL cI cB cO A o1.2.1, wMO cI cB am o2.2, [(ao, .inl (cL, 1, .inr (.inl o1.2.2)))]]) (Wc := [wMO cI cB am o2.2]) (Wr := [wPL cI cB cO A o1.2.1, [(ao, .inl (cL, 1, .inr (.inl o1.2.2)))]]) [1] [0, 2] rfl rfl 3 rfl (by decide)).symm ?_
  refine J_iload (pc := 2672) C dlw_2672 1 rfl ?_
  refine J_ic_eq (α := Unit) (o := ()) (X := some ()) (Y := none) (pc := 2674) (tgt := 2679) C dlw_2674 (by decide) (if_pos hth) (fun _ => ?_) (fun h => by cases h)
  refine J_iload (pc := 2679) C dlw_2679 1 rfl ?_
  by_cases h0 : o1.1 = 0
  · refine J_if_ne (α := Unit) (o := ()) (X := some ()) (Y := none) (pc := 2681) (tgt := 2696) C dlw_2681 (by decide) (if_pos h0) (fun h => by cases h) (fun _ => ?_)
    refine J_aload_n (pc := 2684) C dlw_2684 3 rfl ?_
    refine J_iconst (v := (0 : Int32)) (pc := 2685) C dlw_2685 (by decide) ?_
    refine J_perm (ws2 := [(ao, .inl (cL, 1, .inr (.inl o1.2.2)))] ++ List.flatten [wPL cI cB cO A o1.2.1, wMO cI cB am o2.2]) (by simpa using seg_split (segs := [wPL cI cB cO A o1.2.1, wMO cI cB am o2.2, [(ao, .inl (cL, 1, .inr (.inl o1.2.2)))]]) (Wc := [[(ao, .inl (cL, 1, .inr (.inl o1.2.2)))]]) (Wr := [wPL cI cB cO A o1.2.1, wMO cI cB am o2.2]) [2] [0, 1] rfl rfl 3 rfl (by decide)) ?_
    refine J_lald (pc := 2686) C dlw_2686 0 2 (rfl : ([(ao, .inl (cL, 1, .inr (.inl o1.2.2)))] ++ List.flatten [wPL cI cB cO A o1.2.1, wMO cI cB am o2.2] : va_W)[0]? = some (ao, .inl (cL, 1, .inr (.inl o1.2.2)))) rfl (by unfold vp_in; decide) ?_
    refine J_perm (ws2 := (List.flatten [wPL cI cB cO A o1.2.1, wMO cI cB am o2.2, [(ao, .inl (cL, 1, .inr (.inl o1.2.2)))]])) (by simpa using (seg_split (segs := [wPL cI cB cO A o1.2.1, wMO cI cB am o2.2, [(ao, .inl (cL, 1, .inr (.inl o1.2.2)))]]) (Wc := [[(ao, .inl (cL, 1, .inr (.inl o1.2.2)))]]) (Wr := [wPL cI cB cO A o1.2.1, wMO cI cB am o2.2]) [2] [0, 1] rfl rfl 3 rfl (by decide)).symm) ?_
    refine J_iload (pc := 2687) C dlw_2687 0 rfl ?_
    refine J_i2l (pc := 2689) C dlw_2689 ?_
    refine J_lcmp (pc := 2690) C dlw_2690 ?_
    refine J_if_eq (α := Unit) (o := ()) (X := some ()) (Y := none) (pc := 2691) (tgt := 2696) C dlw_2691 (by decide) (if_pos (by have hv := hval h0; rw [show (0 : Int32).toNatClampNeg = 0 from rfl, hv]; exact lg_cmp_self _)) (fun _ => ?_) (fun h => by cases h)
    refine J_goto (tgt := 3187) (pc := 2696) C dlw_2696 (by decide) ?_
    refine J_sub (lv2 := [(4, .int i), (3, .ref ao), (2, .ref (am 0)), (1, .ref (A 0 0)), (0, .ref b)]) [2, 3, 4, 5, 6] rfl ?_
    exact kx _ _ _ hRn
  · refine J_if_ne (α := Unit) (o := ()) (X := none) (Y := some ()) (pc := 2681) (tgt := 2696) C dlw_2681 (by decide) (if_neg h0) (fun _ => ?_) (fun h => by cases h)
    refine J_goto (tgt := 3187) (pc := 2696) C dlw_2696 (by decide) ?_
    refine J_sub (lv2 := [(4, .int i), (3, .ref ao), (2, .ref (am 0)), (1, .ref (A 0 0)), (0, .ref b)]) [2, 3, 4, 5, 6] rfl ?_
    exact kx _ _ _ hRn
set_option maxHeartbeats 4000000 in
set_option maxRecDepth 100000 in
theorem K_nextExpiry {p : Program} {l : Launch} {e : Env} {s : State} {m : MethodId} {below : List Frame} {meth : Method} {c : Code} {D : va_G} {cI cB cL cO : ClassId} {pf : Nat → Nat} {Q : State → Prop} {k n b L : Nat} {xs : Nat → Int32} {N : Nat} {A : Nat → Nat → Nat} {am : Nat → Nat} {ao : Nat} {i : Int32} {Rl : Nat → T_PL → T_MO → Prop} {st : T_PL} {mo : T_MO} {f : Nat → Int64} {kk : Nat} (C : jC p s m #[Value.ref b] meth c code 7 R_lawN D [(cI, .int), (cB, .byte), (cL, .long), (cO, .object RX0)] pf (fun q => s.heap.size ≤ q)) (hl : l.stackTraces = false) (hX : va_X b L xs s s.heap) (hbl : b < s.heap.size) (hbA : ¬ (fun q : Nat => s.heap.size ≤ q) b) (h1 : vp_in (i + (1 : Int32)) L) (h2 : vp_in (i + (2 : Int32)) L) (h3 : vp_in (i + (3 : Int32)) L) (h4 : vp_in (i + (4 : Int32)) L) (h5 : vp_in (i + (5 : Int32)) L) (hSt : (∀ x1 : Int32, StA Rl (fun s f => W_nextExpiry N s f x1) (fun m => F_M_nextExpiry N m x1))) (hk : kk < 512) (hR : Rl kk st mo) (hkn : k + 4 ≤ room_1.cells ∧ n + 24 ≤ room_1.slots) (kx : ∀ st2 mo2 f2, Rl (kk + 1) st2 mo2 → J p l e room_1 s m #[Value.ref b] below meth c 7 D (fun q => s.heap.size ≤ q) Q (k + 4) (n + 24) 3187 [(4, .int i), (3, .ref ao), (2, .ref (am 0)), (1, .ref (A 0 0)), (0, .ref b)] [] (List.flatten [wPL cI cB cO A st2, wMO cI cB am mo2, [(ao, .inl (cL, 1, .inr (.inl f2)))]])) : J p l e room_1 s m #[Value.ref b] below meth c 7 D (fun q => s.heap.size ≤ q) Q (k) (n) 2699 [(4, .int i), (3, .ref ao), (2, .ref (am 0)), (1, .ref (A 0 0)), (0, .ref b)] [] (List.flatten [wPL cI cB cO A st, wMO cI cB am mo, [(ao, .inl (cL, 1, .inr (.inl f)))]]) := by
  refine J_aload_n (pc := 2699) C dlw_2699 3 rfl ?_
  refine J_aload_n (pc := 2700) C dlw_2700 4 rfl ?_
  refine J_iload (pc := 2701) C dlw_2701 0 rfl ?_
  refine J_iconst (v := (1 : Int32)) (pc := 2703) C dlw_2703 (by decide) ?_
  refine J_iadd (pc := 2704) C dlw_2704 ?_
  refine J_sld C hX hbl hbA (pc := 2705) dlw_2705 h1 ?_
  refine J_aload_n (pc := 2706) C dlw_2706 1 rfl ?_
  obtain ⟨o1, o2, e1, e2, hth, hval, hRn⟩ := hSt (xs (i + (1 : Int32)).toNatClampNeg) kk st mo f hk hR
  refine J_csH (pc := 2707) (As := [.ref (A 0 0), .int (xs (i + (1 : Int32)).toNatClampNeg), .ref ao]) (st := []) C dlw_2707 ml_L_300 wh_nextExpiry (V_nextExpiry l hl D cI cB cL cO pf N A ao st f (xs (i + (1 : Int32)).toNatClampNeg) o1 e1) (List.flatten [wMO cI cB am mo]) (seg_split (segs := [wPL cI cB cO A st, wMO cI cB am mo, [(ao, .inl (cL, 1, .inr (.inl f)))]]) (Wc := [wPL cI cB cO A st, [(ao, .inl (cL, 1, .inr (.inl f)))]]) (Wr := [wMO cI cB am mo]) [0, 2] [1] rfl rfl 3 rfl (by decide)) rfl ⟨(Nat.le_of_ble_eq_true rfl), (Nat.le_of_ble_eq_true rfl)⟩ ⟨Nat.le_trans (Nat.add_le_add_left (Nat.le_of_ble_eq_true rfl) _) hkn.1, Nat.le_trans (Nat.add_le_add_left (Nat.le_of_ble_eq_true rfl) _) hkn.2⟩ (Nat.le_of_ble_eq_true rfl) ?_
  rintro v w1 ⟨rfl, rfl⟩
  refine J_perm (ws2 := (List.flatten [wPL cI cB cO A o1.2.1, wMO cI cB am mo, [(ao, .inl (cL, 1, .inr (.inl o1.2.2)))]])) (seg_split (segs := [wPL cI cB cO A o1.2.1, wMO cI cB am mo, [(ao, .inl (cL, 1, .inr (.inl o1.2.2)))]]) (Wc := [wPL cI cB cO A o1.2.1, [(ao, .inl (cL, 1, .inr (.inl o1.2.2)))]]) (Wr := [wMO cI cB am mo]) [0, 2] [1] rfl rfl 3 rfl (by decide)).symm ?_
  refine J_widen (k2 := k + 4) (n2 := n + 24) (Nat.add_le_add_left (Nat.le_of_ble_eq_true rfl) _) (Nat.add_le_add_left (Nat.le_of_ble_eq_true rfl) _) ?_
  refine J_istore (lv2 := [(5, .int o1.1), (4, .int i), (3, .ref ao), (2, .ref (am 0)), (1, .ref (A 0 0)), (0, .ref b)]) (pc := 2710) C dlw_2710 (by decide) rfl ?_
  refine J_aload_n (pc := 2712) C dlw_2712 3 rfl ?_
  refine J_aload_n (pc := 2713) C dlw_2713 5 rfl ?_
  refine J_iload (pc := 2714) C dlw_2714 1 rfl ?_
  refine J_iconst (v := (1 : Int32)) (pc := 2716) C dlw_2716 (by decide) ?_
  refine J_iadd (pc := 2717) C dlw_2717 ?_
  refine J_sld C hX hbl hbA (pc := 2718) dlw_2718 h1 ?_
  refine J_cvF (pc := 2719) (As := [.int (xs (i + (1 : Int32)).toNatClampNeg)]) (st := []) C dlw_2719 ml_L_302 mi_yX11_nextExpiry (C_M_nextExpiry l D cI cB cL cO pf N am mo (xs (i + (1 : Int32)).toNatClampNeg) o2 e2) (List.flatten [wPL cI cB cO A o1.2.1, [(ao, .inl (cL, 1, .inr (.inl o1.2.2)))]]) (seg_split (segs := [wPL cI cB cO A o1.2.1, wMO cI cB am mo, [(ao, .inl (cL, 1, .inr (.inl o1.2.2)))]]) (Wc := [wMO cI cB am mo]) (Wr := [wPL cI cB cO A o1.2.1, [(ao, .inl (cL, 1, .inr (.inl o1.2.2)))]]) [1] [0, 2] rfl rfl 3 rfl (by decide)) (q0 := 0) rfl rfl rfl ⟨(Nat.le_of_ble_eq_true rfl), (Nat.le_of_ble_eq_true rfl)⟩ hkn (Nat.le_of_ble_eq_true rfl) ?_
  rintro v w1 ⟨rfl, rfl⟩
  refine J_perm (ws2 := (List.flatten [wPL cI cB cO A o1.2.1, wMO cI cB am o2.2, [(ao, .inl (cL, 1, .inr (.inl o1.2.2)))]])) (seg_split (segs := [wPL cI cB cO A o1.2.1, wMO cI cB am o2.2, [(ao, .inl (cL, 1, .inr (.inl o1.2.2)))]]) (Wc := [wMO cI cB am o2.2]) (Wr := [wPL cI cB cO A o1.2.1, [(ao, .inl (cL, 1, .inr (.inl o1.2.2)))]]) [1] [0, 2] rfl rfl 3 rfl (by decide)).symm ?_
  refine J_istore (lv2 := [(6, .int o2.1), (5, .int o1.1), (4, .int i), (3, .ref ao), (2, .ref (am 0)), (1, .ref (A 0 0)), (0, .ref b)]) (pc := 2722) C dlw_2722 (by decide) rfl ?_
  refine J_aload_n (pc := 2724) C dlw_2724 4 rfl ?_
  refine J_cvF (pc := 2725) (As := []) (st := []) C dlw_2725 ml_L_170 mi_yX11_thrown (C_M_thrown l D cI cB cL cO pf N am o2.2 o2.2.1 rfl) (List.flatten [wPL cI cB cO A o1.2.1, [(ao, .inl (cL, 1, .inr (.inl o1.2.2)))]]) (seg_split (segs := [wPL cI cB cO A o1.2.1, wMO cI cB am o2.2, [(ao, .inl (cL, 1, .inr (.inl o1.2.2)))]]) (Wc := [wMO cI cB am o2.2]) (Wr := [wPL cI cB cO A o1.2.1, [(ao, .inl (cL, 1, .inr (.inl o1.2.2)))]]) [1] [0, 2] rfl rfl 3 rfl (by decide)) (q0 := 0) rfl rfl rfl ⟨(Nat.le_of_ble_eq_true rfl), (Nat.le_of_ble_eq_true rfl)⟩ hkn (Nat.le_of_ble_eq_true rfl) ?_
  rintro v w1 ⟨rfl, rfl⟩
  refine J_perm (ws2 := (List.flatten [wPL cI cB cO A o1.2.1, wMO cI cB am o2.2, [(ao, .inl (cL, 1, .inr (.inl o1.2.2)))]])) (seg_split (segs := [wPL cI cB cO A o1.2.1, wMO cI cB am o2.2, [(ao, .inl (cL, 1, .inr (.inl o1.2.2)))]]) (Wc := [wMO cI cB am o2.2]) (Wr := [wPL cI cB cO A o1.2.1, [(ao, .inl (cL, 1, .inr (.inl o1.2.2)))]]) [1] [0, 2] rfl rfl 3 rfl (by decide)).symm ?_
  refine J_iload (pc := 2728) C dlw_2728 1 rfl ?_
  refine J_ic_eq (α := Unit) (o := ()) (X := some ()) (Y := none) (pc := 2730) (tgt := 2735) C dlw_2730 (by decide) (if_pos hth) (fun _ => ?_) (fun h => by cases h)
  refine J_iload (pc := 2735) C dlw_2735 1 rfl ?_
  by_cases h0 : o1.1 = 0
  · refine J_if_ne (α := Unit) (o := ()) (X := some ()) (Y := none) (pc := 2737) (tgt := 2752) C dlw_2737 (by decide) (if_pos h0) (fun h => by cases h) (fun _ => ?_)
    refine J_aload_n (pc := 2740) C dlw_2740 3 rfl ?_
    refine J_iconst (v := (0 : Int32)) (pc := 2741) C dlw_2741 (by decide) ?_
    refine J_perm (ws2 := [(ao, .inl (cL, 1, .inr (.inl o1.2.2)))] ++ List.flatten [wPL cI cB cO A o1.2.1, wMO cI cB am o2.2]) (by simpa using seg_split (segs := [wPL cI cB cO A o1.2.1, wMO cI cB am o2.2, [(ao, .inl (cL, 1, .inr (.inl o1.2.2)))]]) (Wc := [[(ao, .inl (cL, 1, .inr (.inl o1.2.2)))]]) (Wr := [wPL cI cB cO A o1.2.1, wMO cI cB am o2.2]) [2] [0, 1] rfl rfl 3 rfl (by decide)) ?_
    refine J_lald (pc := 2742) C dlw_2742 0 2 (rfl : ([(ao, .inl (cL, 1, .inr (.inl o1.2.2)))] ++ List.flatten [wPL cI cB cO A o1.2.1, wMO cI cB am o2.2] : va_W)[0]? = some (ao, .inl (cL, 1, .inr (.inl o1.2.2)))) rfl (by unfold vp_in; decide) ?_
    refine J_perm (ws2 := (List.flatten [wPL cI cB cO A o1.2.1, wMO cI cB am o2.2, [(ao, .inl (cL, 1, .inr (.inl o1.2.2)))]])) (by simpa using (seg_split (segs := [wPL cI cB cO A o1.2.1, wMO cI cB am o2.2, [(ao, .inl (cL, 1, .inr (.inl o1.2.2)))]]) (Wc := [[(ao, .inl (cL, 1, .inr (.inl o1.2.2)))]]) (Wr := [wPL cI cB cO A o1.2.1, wMO cI cB am o2.2]) [2] [0, 1] rfl rfl 3 rfl (by decide)).symm) ?_
    refine J_iload (pc := 2743) C dlw_2743 0 rfl ?_
    refine J_i2l (pc := 2745) C dlw_2745 ?_
    refine J_lcmp (pc := 2746) C dlw_2746 ?_
    refine J_if_eq (α := Unit) (o := ()) (X := some ()) (Y := none) (pc := 2747) (tgt := 2752) C dlw_2747 (by decide) (if_pos (by have hv := hval h0; rw [show (0 : Int32).toNatClampNeg = 0 from rfl, hv]; exact lg_cmp_self _)) (fun _ => ?_) (fun h => by cases h)
    refine J_goto (tgt := 3187) (pc := 2752) C dlw_2752 (by decide) ?_
    refine J_sub (lv2 := [(4, .int i), (3, .ref ao), (2, .ref (am 0)), (1, .ref (A 0 0)), (0, .ref b)]) [2, 3, 4, 5, 6] rfl ?_
    exact kx _ _ _ hRn
  · refine J_if_ne (α := Unit) (o := ()) (X := none) (Y := some ()) (pc := 2737) (tgt := 2752) C dlw_2737 (by decide) (if_neg h0) (fun _ => ?_) (fun h => by cases h)
    refine J_goto (tgt := 3187) (pc := 2752) C dlw_2752 (by decide) ?_
    refine J_sub (lv2 := [(4, .int i), (3, .ref ao), (2, .ref (am 0)), (1, .ref (A 0 0)), (0, .ref b)]) [2, 3, 4, 5, 6] rfl ?_
    exact kx _ _ _ hRn
