set_option maxHeartbeats 4000000 in
set_option maxRecDepth 100000 in
theorem K_redeemedWith {p : Program} {l : Launch} {e : Env} {s : State} {m : MethodId} {below : List Frame} {meth : Method} {c : Code} {D : va_G} {cI cB cL cO : ClassId} {pf : Nat → Nat} {Q : State → Prop} {k n b L : Nat} {xs : Nat → Int32} {N : Nat} {A : Nat → Nat → Nat} {am : Nat → Nat} {ao : Nat} {i : Int32} {Rl : Nat → T_PL → T_MO → Prop} {st : T_PL} {mo : T_MO} {f : Nat → Int64} {kk : Nat} (C : jC p s m #[Value.ref b] meth c code 7 R_lawN D [(cI, .int), (cB, .byte), (cL, .long), (cO, .object RX0)] pf (fun q => s.heap.size ≤ q)) (hl : l.stackTraces = false) (hX : va_X b L xs s s.heap) (hbl : b < s.heap.size) (hbA : ¬ (fun q : Nat => s.heap.size ≤ q) b) (h1 : vp_in (i + (1 : Int32)) L) (h2 : vp_in (i + (2 : Int32)) L) (h3 : vp_in (i + (3 : Int32)) L) (h4 : vp_in (i + (4 : Int32)) L) (h5 : vp_in (i + (5 : Int32)) L) (hSt : (∀ x1 : Int32, StA Rl (fun s f => W_redeemedWith N s f x1) (fun m => F_M_redeemedWith N m x1))) (hk : kk < 512) (hR : Rl kk st mo) (hkn : k + 4 ≤ room_1.cells ∧ n + 24 ≤ room_1.slots) (kx : ∀ st2 mo2 f2, Rl (kk + 1) st2 mo2 → J p l e room_1 s m #[Value.ref b] below meth c 7 D (fun q => s.heap.size ≤ q) Q (k + 4) (n + 24) 3187 [(4, .int i), (3, .ref ao), (2, .ref (am 0)), (1, .ref (A 0 0)), (0, .ref b)] [] (List.flatten [wPL cI cB cO A st2, wMO cI cB am mo2, [(ao, .inl (cL, 1, .inr (.inl f2)))]])) : J p l e room_1 s m #[Value.ref b] below meth c 7 D (fun q => s.heap.size ≤ q) Q (k) (n) 2755 [(4, .int i), (3, .ref ao), (2, .ref (am 0)), (1, .ref (A 0 0)), (0, .ref b)] [] (List.flatten [wPL cI cB cO A st, wMO cI cB am mo, [(ao, .inl (cL, 1, .inr (.inl f)))]]) := by
  refine J_aload_n (pc := 2755) C dlw_2755 3 rfl ?_
  refine J_aload_n (pc := 2756) C dlw_2756 4 rfl ?_
  refine J_iload (pc := 2757) C dlw_2757 0 rfl ?_
  refine J_iconst (v := (1 : Int32)) (pc := 2759) C dlw_2759 (by decide) ?_
  refine J_iadd (pc := 2760) C dlw_2760 ?_
  refine J_sld C hX hbl hbA (pc := 2761) dlw_2761 h1 ?_
  refine J_aload_n (pc := 2762) C dlw_2762 1 rfl ?_
  obtain ⟨o1, o2, e1, e2, hth, hval, hRn⟩ := hSt (xs (i + (1 : Int32)).toNatClampNeg) kk st mo f hk hR
  refine J_csH (pc := 2763) (As := [.ref (A 0 0), .int (xs (i + (1 : Int32)).toNatClampNeg), .ref ao]) (st := []) C dlw_2763 ml_L_303 wh_redeemedWith (V_redeemedWith l hl D cI cB cL cO pf N A ao st f (xs (i + (1 : Int32)).toNatClampNeg) o1 e1) (List.flatten [wMO cI cB am mo]) (seg_split (segs := [wPL cI cB cO A st, wMO cI cB am mo, [(ao, .inl (cL, 1, .inr (.inl f)))]]) (Wc := [wPL cI cB cO A st, [(ao, .inl (cL, 1, .inr (.inl f)))]]) (Wr := [wMO cI cB am mo]) [0, 2] [1] rfl rfl 3 rfl (by decide)) rfl ⟨(Nat.le_of_ble_eq_true rfl), (Nat.le_of_ble_eq_true rfl)⟩ ⟨Nat.le_trans (Nat.add_le_add_left (Nat.le_of_ble_eq_true rfl) _) hkn.1, Nat.le_trans (Nat.add_le_add_left (Nat.le_of_ble_eq_true rfl) _) hkn.2⟩ (Nat.le_of_ble_eq_true rfl) ?_
  rintro v w1 ⟨rfl, rfl⟩
  refine J_perm (ws2 := (List.flatten [wPL cI cB cO A o1.2.1, wMO cI cB am mo, [(ao, .inl (cL, 1, .inr (.inl o1.2.2)))]])) (seg_split (segs := [wPL cI cB cO A o1.2.1, wMO cI cB am mo, [(ao, .inl (cL, 1, .inr (.inl o1.2.2)))]]) (Wc := [wPL cI cB cO A o1.2.1, [(ao, .inl (cL, 1, .inr (.inl o1.2.2)))]]) (Wr := [wMO cI cB am mo]) [0, 2] [1] rfl rfl 3 rfl (by decide)).symm ?_
  refine J_widen (k2 := k + 4) (n2 := n + 24) (Nat.add_le_add_left (Nat.le_of_ble_eq_true rfl) _) (Nat.add_le_add_left (Nat.le_of_ble_eq_true rfl) _) ?_
  refine J_istore (lv2 := [(5, .int o1.1), (4, .int i), (3, .ref ao), (2, .ref (am 0)), (1, .ref (A 0 0)), (0, .ref b)]) (pc := 2766) C dlw_2766 (by decide) rfl ?_
  refine J_aload_n (pc := 2768) C dlw_2768 3 rfl ?_
  refine J_aload_n (pc := 2769) C dlw_2769 5 rfl ?_
  refine J_iload (pc := 2770) C dlw_2770 1 rfl ?_
  refine J_iconst (v := (1 : Int32)) (pc := 2772) C dlw_2772 (by decide) ?_
  refine J_iadd (pc := 2773) C dlw_2773 ?_
  refine J_sld C hX hbl hbA (pc := 2774) dlw_2774 h1 ?_
  refine J_cvF (pc := 2775) (As := [.int (xs (i + (1 : Int32)).toNatClampNeg)]) (st := []) C dlw_2775 ml_L_305 mi_yX11_redeemedWith (C_M_redeemedWith l D cI cB cL cO pf N am mo (xs (i + (1 : Int32)).toNatClampNeg) o2 e2) (List.flatten [wPL cI cB cO A o1.2.1, [(ao, .inl (cL, 1, .inr (.inl o1.2.2)))]]) (seg_split (segs := [wPL cI cB cO A o1.2.1, wMO cI cB am mo, [(ao, .inl (cL, 1, .inr (.inl o1.2.2)))]]) (Wc := [wMO cI cB am mo]) (Wr := [wPL cI cB cO A o1.2.1, [(ao, .inl (cL, 1, .inr (.inl o1.2.2)))]]) [1] [0, 2] rfl rfl 3 rfl (by decide)) (q0 := 0) rfl rfl rfl ⟨(Nat.le_of_ble_eq_true rfl), (Nat.le_of_ble_eq_true rfl)⟩ hkn (Nat.le_of_ble_eq_true rfl) ?_
  rintro v w1 ⟨rfl, rfl⟩
  refine J_perm (ws2 := (List.flatten [wPL cI cB cO A o1.2.1, wMO cI cB am o2.2, [(ao, .inl (cL, 1, .inr (.inl o1.2.2)))]])) (seg_split (segs := [wPL cI cB cO A o1.2.1, wMO cI cB am o2.2, [(ao, .inl (cL, 1, .inr (.inl o1.2.2)))]]) (Wc := [wMO cI cB am o2.2]) (Wr := [wPL cI cB cO A o1.2.1, [(ao, .inl (cL, 1, .inr (.inl o1.2.2)))]]) [1] [0, 2] rfl rfl 3 rfl (by decide)).symm ?_
  refine J_istore (lv2 := [(6, .int o2.1), (5, .int o1.1), (4, .int i), (3, .ref ao), (2, .ref (am 0)), (1, .ref (A 0 0)), (0, .ref b)]) (pc := 2778) C dlw_2778 (by decide) rfl ?_
  refine J_aload_n (pc := 2780) C dlw_2780 4 rfl ?_
  refine J_cvF (pc := 2781) (As := []) (st := []) C dlw_2781 ml_L_170 mi_yX11_thrown (C_M_thrown l D cI cB cL cO pf N am o2.2 o2.2.1 rfl) (List.flatten [wPL cI cB cO A o1.2.1, [(ao, .inl (cL, 1, .inr (.inl o1.2.2)))]]) (seg_split (segs := [wPL cI cB cO A o1.2.1, wMO cI cB am o2.2, [(ao, .inl (cL, 1, .inr (.inl o1.2.2)))]]) (Wc := [wMO cI cB am o2.2]) (Wr := [wPL cI cB cO A o1.2.1, [(ao, .inl (cL, 1, .inr (.inl o1.2.2)))]]) [1] [0, 2] rfl rfl 3 rfl (by decide)) (q0 := 0) rfl rfl rfl ⟨(Nat.le_of_ble_eq_true rfl), (Nat.le_of_ble_eq_true rfl)⟩ hkn (Nat.le_of_ble_eq_true rfl) ?_
  rintro v w1 ⟨rfl, rfl⟩
  refine J_perm (ws2 := (List.flatten [wPL cI cB cO A o1.2.1, wMO cI cB am o2.2, [(ao, .inl (cL, 1, .inr (.inl o1.2.2)))]])) (seg_split (segs := [wPL cI cB cO A o1.2.1, wMO cI cB am o2.2, [(ao, .inl (cL, 1, .inr (.inl o1.2.2)))]]) (Wc := [wMO cI cB am o2.2]) (Wr := [wPL cI cB cO A o1.2.1, [(ao, .inl (cL, 1, .inr (.inl o1.2.2)))]]) [1] [0, 2] rfl rfl 3 rfl (by decide)).symm ?_
  refine J_iload (pc := 2784) C dlw_2784 1 rfl ?_
  refine J_ic_eq (α := Unit) (o := ()) (X := some ()) (Y := none) (pc := 2786) (tgt := 2791) C dlw_2786 (by decide) (if_pos hth) (fun _ => ?_) (fun h => by cases h)
  refine J_iload (pc := 2791) C dlw_2791 1 rfl ?_
  by_cases h0 : o1.1 = 0
  · refine J_if_ne (α := Unit) (o := ()) (X := some ()) (Y := none) (pc := 2793) (tgt := 2808) C dlw_2793 (by decide) (if_pos h0) (fun h => by cases h) (fun _ => ?_)
    refine J_aload_n (pc := 2796) C dlw_2796 3 rfl ?_
    refine J_iconst (v := (0 : Int32)) (pc := 2797) C dlw_2797 (by decide) ?_
    refine J_perm (ws2 := [(ao, .inl (cL, 1, .inr (.inl o1.2.2)))] ++ List.flatten [wPL cI cB cO A o1.2.1, wMO cI cB am o2.2]) (by simpa using seg_split (segs := [wPL cI cB cO A o1.2.1, wMO cI cB am o2.2, [(ao, .inl (cL, 1, .inr (.inl o1.2.2)))]]) (Wc := [[(ao, .inl (cL, 1, .inr (.inl o1.2.2)))]]) (Wr := [wPL cI cB cO A o1.2.1, wMO cI cB am o2.2]) [2] [0, 1] rfl rfl 3 rfl (by decide)) ?_
    refine J_lald (pc := 2798) C dlw_2798 0 2 (rfl : ([(ao, .inl (cL, 1, .inr (.inl o1.2.2)))] ++ List.flatten [wPL cI cB cO A o1.2.1, wMO cI cB am o2.2] : va_W)[0]? = some (ao, .inl (cL, 1, .inr (.inl o1.2.2)))) rfl (by unfold vp_in; decide) ?_
    refine J_perm (ws2 := (List.flatten [wPL cI cB cO A o1.2.1, wMO cI cB am o2.2, [(ao, .inl (cL, 1, .inr (.inl o1.2.2)))]])) (by simpa using (seg_split (segs := [wPL cI cB cO A o1.2.1, wMO cI cB am o2.2, [(ao, .inl (cL, 1, .inr (.inl o1.2.2)))]]) (Wc := [[(ao, .inl (cL, 1, .inr (.inl o1.2.2)))]]) (Wr := [wPL cI cB cO A o1.2.1, wMO cI cB am o2.2]) [2] [0, 1] rfl rfl 3 rfl (by decide)).symm) ?_
    refine J_iload (pc := 2799) C dlw_2799 0 rfl ?_
    refine J_i2l (pc := 2801) C dlw_2801 ?_
    refine J_lcmp (pc := 2802) C dlw_2802 ?_
    refine J_if_eq (α := Unit) (o := ()) (X := some ()) (Y := none) (pc := 2803) (tgt := 2808) C dlw_2803 (by decide) (if_pos (by have hv := hval h0; rw [show (0 : Int32).toNatClampNeg = 0 from rfl, hv]; exact lg_cmp_self _)) (fun _ => ?_) (fun h => by cases h)
    refine J_goto (tgt := 3187) (pc := 2808) C dlw_2808 (by decide) ?_
    refine J_sub (lv2 := [(4, .int i), (3, .ref ao), (2, .ref (am 0)), (1, .ref (A 0 0)), (0, .ref b)]) [2, 3, 4, 5, 6] rfl ?_
    exact kx _ _ _ hRn
  · refine J_if_ne (α := Unit) (o := ()) (X := none) (Y := some ()) (pc := 2793) (tgt := 2808) C dlw_2793 (by decide) (if_neg h0) (fun _ => ?_) (fun h => by cases h)
    refine J_goto (tgt := 3187) (pc := 2808) C dlw_2808 (by decide) ?_
    refine J_sub (lv2 := [(4, .int i), (3, .ref ao), (2, .ref (am 0)), (1, .ref (A 0 0)), (0, .ref b)]) [2, 3, 4, 5, 6] rfl ?_
    exact kx _ _ _ hRn
set_option maxHeartbeats 4000000 in
set_option maxRecDepth 100000 in
theorem K_breakage {p : Program} {l : Launch} {e : Env} {s : State} {m : MethodId} {below : List Frame} {meth : Method} {c : Code} {D : va_G} {cI cB cL cO : ClassId} {pf : Nat → Nat} {Q : State → Prop} {k n b L : Nat} {xs : Nat → Int32} {N : Nat} {A : Nat → Nat → Nat} {am : Nat → Nat} {ao : Nat} {i : Int32} {Rl : Nat → T_PL → T_MO → Prop} {st : T_PL} {mo : T_MO} {f : Nat → Int64} {kk : Nat} (C : jC p s m #[Value.ref b] meth c code 7 R_lawN D [(cI, .int), (cB, .byte), (cL, .long), (cO, .object RX0)] pf (fun q => s.heap.size ≤ q)) (hl : l.stackTraces = false) (hX : va_X b L xs s s.heap) (hbl : b < s.heap.size) (hbA : ¬ (fun q : Nat => s.heap.size ≤ q) b) (h1 : vp_in (i + (1 : Int32)) L) (h2 : vp_in (i + (2 : Int32)) L) (h3 : vp_in (i + (3 : Int32)) L) (h4 : vp_in (i + (4 : Int32)) L) (h5 : vp_in (i + (5 : Int32)) L) (hSt : (∀ x1 : Int32, StA Rl (fun s f => W_breakage N s f x1) (fun m => F_M_breakage N m x1))) (hk : kk < 512) (hR : Rl kk st mo) (hkn : k + 4 ≤ room_1.cells ∧ n + 24 ≤ room_1.slots) (kx : ∀ st2 mo2 f2, Rl (kk + 1) st2 mo2 → J p l e room_1 s m #[Value.ref b] below meth c 7 D (fun q => s.heap.size ≤ q) Q (k + 4) (n + 24) 3187 [(4, .int i), (3, .ref ao), (2, .ref (am 0)), (1, .ref (A 0 0)), (0, .ref b)] [] (List.flatten [wPL cI cB cO A st2, wMO cI cB am mo2, [(ao, .inl (cL, 1, .inr (.inl f2)))]])) : J p l e room_1 s m #[Value.ref b] below meth c 7 D (fun q => s.heap.size ≤ q) Q (k) (n) 2811 [(4, .int i), (3, .ref ao), (2, .ref (am 0)), (1, .ref (A 0 0)), (0, .ref b)] [] (List.flatten [wPL cI cB cO A st, wMO cI cB am mo, [(ao, .inl (cL, 1, .inr (.inl f)))]]) := by
  refine J_aload_n (pc := 2811) C dlw_2811 3 rfl ?_
  refine J_aload_n (pc := 2812) C dlw_2812 4 rfl ?_
  refine J_iload (pc := 2813) C dlw_2813 0 rfl ?_
  refine J_iconst (v := (1 : Int32)) (pc := 2815) C dlw_2815 (by decide) ?_
  refine J_iadd (pc := 2816) C dlw_2816 ?_
  refine J_sld C hX hbl hbA (pc := 2817) dlw_2817 h1 ?_
  refine J_aload_n (pc := 2818) C dlw_2818 1 rfl ?_
  obtain ⟨o1, o2, e1, e2, hth, hval, hRn⟩ := hSt (xs (i + (1 : Int32)).toNatClampNeg) kk st mo f hk hR
  refine J_csH (pc := 2819) (As := [.ref (A 0 0), .int (xs (i + (1 : Int32)).toNatClampNeg), .ref ao]) (st := []) C dlw_2819 ml_L_306 wh_breakage (V_breakage l hl D cI cB cL cO pf N A ao st f (xs (i + (1 : Int32)).toNatClampNeg) o1 e1) (List.flatten [wMO cI cB am mo]) (seg_split (segs := [wPL cI cB cO A st, wMO cI cB am mo, [(ao, .inl (cL, 1, .inr (.inl f)))]]) (Wc := [wPL cI cB cO A st, [(ao, .inl (cL, 1, .inr (.inl f)))]]) (Wr := [wMO cI cB am mo]) [0, 2] [1] rfl rfl 3 rfl (by decide)) rfl ⟨(Nat.le_of_ble_eq_true rfl), (Nat.le_of_ble_eq_true rfl)⟩ ⟨Nat.le_trans (Nat.add_le_add_left (Nat.le_of_ble_eq_true rfl) _) hkn.1, Nat.le_trans (Nat.add_le_add_left (Nat.le_of_ble_eq_true rfl) _) hkn.2⟩ (Nat.le_of_ble_eq_true rfl) ?_
  rintro v w1 ⟨rfl, rfl⟩
  refine J_perm (ws2 := (List.flatten [wPL cI cB cO A o1.2.1, wMO cI cB am mo, [(ao, .inl (cL, 1, .inr (.inl o1.2.2)))]])) (seg_split (segs := [wPL cI cB cO A o1.2.1, wMO cI cB am mo, [(ao, .inl (cL, 1, .inr (.inl o1.2.2)))]]) (Wc := [wPL cI cB cO A o1.2.1, [(ao, .inl (cL, 1, .inr (.inl o1.2.2)))]]) (Wr := [wMO cI cB am mo]) [0, 2] [1] rfl rfl 3 rfl (by decide)).symm ?_
  refine J_widen (k2 := k + 4) (n2 := n + 24) (Nat.add_le_add_left (Nat.le_of_ble_eq_true rfl) _) (Nat.add_le_add_left (Nat.le_of_ble_eq_true rfl) _) ?_
  refine J_istore (lv2 := [(5, .int o1.1), (4, .int i), (3, .ref ao), (2, .ref (am 0)), (1, .ref (A 0 0)), (0, .ref b)]) (pc := 2822) C dlw_2822 (by decide) rfl ?_
  refine J_aload_n (pc := 2824) C dlw_2824 3 rfl ?_
  refine J_aload_n (pc := 2825) C dlw_2825 5 rfl ?_
  refine J_iload (pc := 2826) C dlw_2826 1 rfl ?_
  refine J_iconst (v := (1 : Int32)) (pc := 2828) C dlw_2828 (by decide) ?_
  refine J_iadd (pc := 2829) C dlw_2829 ?_
  refine J_sld C hX hbl hbA (pc := 2830) dlw_2830 h1 ?_
  refine J_cvF (pc := 2831) (As := [.int (xs (i + (1 : Int32)).toNatClampNeg)]) (st := []) C dlw_2831 ml_L_308 mi_yX11_breakage (C_M_breakage l D cI cB cL cO pf N am mo (xs (i + (1 : Int32)).toNatClampNeg) o2 e2) (List.flatten [wPL cI cB cO A o1.2.1, [(ao, .inl (cL, 1, .inr (.inl o1.2.2)))]]) (seg_split (segs := [wPL cI cB cO A o1.2.1, wMO cI cB am mo, [(ao, .inl (cL, 1, .inr (.inl o1.2.2)))]]) (Wc := [wMO cI cB am mo]) (Wr := [wPL cI cB cO A o1.2.1, [(ao, .inl (cL, 1, .inr (.inl o1.2.2)))]]) [1] [0, 2] rfl rfl 3 rfl (by decide)) (q0 := 0) rfl rfl rfl ⟨(Nat.le_of_ble_eq_true rfl), (Nat.le_of_ble_eq_true rfl)⟩ hkn (Nat.le_of_ble_eq_true rfl) ?_
  rintro v w1 ⟨rfl, rfl⟩
  refine J_perm (ws2 := (List.flatten [wPL cI cB cO A o1.2.1, wMO cI cB am o2.2, [(ao, .inl (cL, 1, .inr (.inl o1.2.2)))]])) (seg_split (segs := [wPL cI cB cO A o1.2.1, wMO cI cB am o2.2, [(ao, .inl (cL, 1, .inr (.inl o1.2.2)))]]) (Wc := [wMO cI cB am o2.2]) (Wr := [wPL cI cB cO A o1.2.1, [(ao, .inl (cL, 1, .inr (.inl o1.2.2)))]]) [1] [0, 2] rfl rfl 3 rfl (by decide)).symm ?_
  refine J_istore (lv2 := [(6, .int o2.1), (5, .int o1.1), (4, .int i), (3, .ref ao), (2, .ref (am 0)), (1, .ref (A 0 0)), (0, .ref b)]) (pc := 2834) C dlw_2834 (by decide) rfl ?_
  refine J_aload_n (pc := 2836) C dlw_2836 4 rfl ?_
  refine J_cvF (pc := 2837) (As := []) (st := []) C dlw_2837 ml_L_170 mi_yX11_thrown (C_M_thrown l D cI cB cL cO pf N am o2.2 o2.2.1 rfl) (List.flatten [wPL cI cB cO A o1.2.1, [(ao, .inl (cL, 1, .inr (.inl o1.2.2)))]]) (seg_split (segs := [wPL cI cB cO A o1.2.1, wMO cI cB am o2.2, [(ao, .inl (cL, 1, .inr (.inl o1.2.2)))]]) (Wc := [wMO cI cB am o2.2]) (Wr := [wPL cI cB cO A o1.2.1, [(ao, .inl (cL, 1, .inr (.inl o1.2.2)))]]) [1] [0, 2] rfl rfl 3 rfl (by decide)) (q0 := 0) rfl rfl rfl ⟨(Nat.le_of_ble_eq_true rfl), (Nat.le_of_ble_eq_true rfl)⟩ hkn (Nat.le_of_ble_eq_true rfl) ?_
  rintro v w1 ⟨rfl, rfl⟩
  refine J_perm (ws2 := (List.flatten [wPL cI cB cO A o1.2.1, wMO cI cB am o2.2, [(ao, .inl (cL, 1, .inr (.inl o1.2.2)))]])) (seg_split (segs := [wPL cI cB cO A o1.2.1, wMO cI cB am o2.2, [(ao, .inl (cL, 1, .inr (.inl o1.2.2)))]]) (Wc := [wMO cI cB am o2.2]) (Wr := [wPL cI cB cO A o1.2.1, [(ao, .inl (cL, 1, .inr (.inl o1.2.2)))]]) [1] [0, 2] rfl rfl 3 rfl (by decide)).symm ?_
  refine J_iload (pc := 2840) C dlw_2840 1 rfl ?_
  refine J_ic_eq (α := Unit) (o := ()) (X := some ()) (Y := none) (pc := 2842) (tgt := 2847) C dlw_2842 (by decide) (if_pos hth) (fun _ => ?_) (fun h => by cases h)
  refine J_iload (pc := 2847) C dlw_2847 1 rfl ?_
  by_cases h0 : o1.1 = 0
  · refine J_if_ne (α := Unit) (o := ()) (X := some ()) (Y := none) (pc := 2849) (tgt := 2864) C dlw_2849 (by decide) (if_pos h0) (fun h => by cases h) (fun _ => ?_)
    refine J_aload_n (pc := 2852) C dlw_2852 3 rfl ?_
    refine J_iconst (v := (0 : Int32)) (pc := 2853) C dlw_2853 (by decide) ?_
    refine J_perm (ws2 := [(ao, .inl (cL, 1, .inr (.inl o1.2.2)))] ++ List.flatten [wPL cI cB cO A o1.2.1, wMO cI cB am o2.2]) (by simpa using seg_split (segs := [wPL cI cB cO A o1.2.1, wMO cI cB am o2.2, [(ao, .inl (cL, 1, .inr (.inl o1.2.2)))]]) (Wc := [[(ao, .inl (cL, 1, .inr (.inl o1.2.2)))]]) (Wr := [wPL cI cB cO A o1.2.1, wMO cI cB am o2.2]) [2] [0, 1] rfl rfl 3 rfl (by decide)) ?_
    refine J_lald (pc := 2854) C dlw_2854 0 2 (rfl : ([(ao, .inl (cL, 1, .inr (.inl o1.2.2)))] ++ List.flatten [wPL cI cB cO A o1.2.1, wMO cI cB am o2.2] : va_W)[0]? = some (ao, .inl (cL, 1, .inr (.inl o1.2.2)))) rfl (by unfold vp_in; decide) ?_
    refine J_perm (ws2 := (List.flatten [wPL cI cB cO A o1.2.1, wMO cI cB am o2.2, [(ao, .inl (cL, 1, .inr (.inl o1.2.2)))]])) (by simpa using (seg_split (segs := [wPL cI cB cO A o1.2.1, wMO cI cB am o2.2, [(ao, .inl (cL, 1, .inr (.inl o1.2.2)))]]) (Wc := [[(ao, .inl (cL, 1, .inr (.inl o1.2.2)))]]) (Wr := [wPL cI cB cO A o1.2.1, wMO cI cB am o2.2]) [2] [0, 1] rfl rfl 3 rfl (by decide)).symm) ?_
    refine J_iload (pc := 2855) C dlw_2855 0 rfl ?_
    refine J_i2l (pc := 2857) C dlw_2857 ?_
    refine J_lcmp (pc := 2858) C dlw_2858 ?_
    refine J_if_eq (α := Unit) (o := ()) (X := some ()) (Y := none) (pc := 2859) (tgt := 2864) C dlw_2859 (by decide) (if_pos (by have hv := hval h0; rw [show (0 : Int32).toNatClampNeg = 0 from rfl, hv]; exact lg_cmp_self _)) (fun _ => ?_) (fun h => by cases h)
    refine J_goto (tgt := 3187) (pc := 2864) C dlw_2864 (by decide) ?_
    refine J_sub (lv2 := [(4, .int i), (3, .ref ao), (2, .ref (am 0)), (1, .ref (A 0 0)), (0, .ref b)]) [2, 3, 4, 5, 6] rfl ?_
    exact kx _ _ _ hRn
  · refine J_if_ne (α := Unit) (o := ()) (X := none) (Y := some ()) (pc := 2849) (tgt := 2864) C dlw_2849 (by decide) (if_neg h0) (fun _ => ?_) (fun h => by cases h)
    refine J_goto (tgt := 3187) (pc := 2864) C dlw_2864 (by decide) ?_
    refine J_sub (lv2 := [(4, .int i), (3, .ref ao), (2, .ref (am 0)), (1, .ref (A 0 0)), (0, .ref b)]) [2, 3, 4, 5, 6] rfl ?_
    exact kx _ _ _ hRn
set_option maxHeartbeats 4000000 in
set_option maxRecDepth 100000 in
theorem K_poolBreakage {p : Program} {l : Launch} {e : Env} {s : State} {m : MethodId} {below : List Frame} {meth : Method} {c : Code} {D : va_G} {cI cB cL cO : ClassId} {pf : Nat → Nat} {Q : State → Prop} {k n b L : Nat} {xs : Nat → Int32} {N : Nat} {A : Nat → Nat → Nat} {am : Nat → Nat} {ao : Nat} {i : Int32} {Rl : Nat → T_PL → T_MO → Prop} {st : T_PL} {mo : T_MO} {f : Nat → Int64} {kk : Nat} (C : jC p s m #[Value.ref b] meth c code 7 R_lawN D [(cI, .int), (cB, .byte), (cL, .long), (cO, .object RX0)] pf (fun q => s.heap.size ≤ q)) (hl : l.stackTraces = false) (hX : va_X b L xs s s.heap) (hbl : b < s.heap.size) (hbA : ¬ (fun q : Nat => s.heap.size ≤ q) b) (h1 : vp_in (i + (1 : Int32)) L) (h2 : vp_in (i + (2 : Int32)) L) (h3 : vp_in (i + (3 : Int32)) L) (h4 : vp_in (i + (4 : Int32)) L) (h5 : vp_in (i + (5 : Int32)) L) (hSt : (∀ x1 : Int32, StA Rl (fun s f => W_poolBreakage N s f x1) (fun m => F_M_poolBreakage N m x1))) (hk : kk < 512) (hR : Rl kk st mo) (hkn : k + 4 ≤ room_1.cells ∧ n + 24 ≤ room_1.slots) (kx : ∀ st2 mo2 f2, Rl (kk + 1) st2 mo2 → J p l e room_1 s m #[Value.ref b] below meth c 7 D (fun q => s.heap.size ≤ q) Q (k + 4) (n + 24) 3187 [(4, .int i), (3, .ref ao), (2, .ref (am 0)), (1, .ref (A 0 0)), (0, .ref b)] [] (List.flatten [wPL cI cB cO A st2, wMO cI cB am mo2, [(ao, .inl (cL, 1, .inr (.inl f2)))]])) : J p l e room_1 s m #[Value.ref b] below meth c 7 D (fun q => s.heap.size ≤ q) Q (k) (n) 2867 [(4, .int i), (3, .ref ao), (2, .ref (am 0)), (1, .ref (A 0 0)), (0, .ref b)] [] (List.flatten [wPL cI cB cO A st, wMO cI cB am mo, [(ao, .inl (cL, 1, .inr (.inl f)))]]) := by
  refine J_aload_n (pc := 2867) C dlw_2867 3 rfl ?_
  refine J_aload_n (pc := 2868) C dlw_2868 4 rfl ?_
  refine J_iload (pc := 2869) C dlw_2869 0 rfl ?_
  refine J_iconst (v := (1 : Int32)) (pc := 2871) C dlw_2871 (by decide) ?_
  refine J_iadd (pc := 2872) C dlw_2872 ?_
  refine J_sld C hX hbl hbA (pc := 2873) dlw_2873 h1 ?_
  refine J_aload_n (pc := 2874) C dlw_2874 1 rfl ?_
  obtain ⟨o1, o2, e1, e2, hth, hval, hRn⟩ := hSt (xs (i + (1 : Int32)).toNatClampNeg) kk st mo f hk hR
  refine J_csH (pc := 2875) (As := [.ref (A 0 0), .int (xs (i + (1 : Int32)).toNatClampNeg), .ref ao]) (st := []) C dlw_2875 ml_L_309 wh_poolBreakage (V_poolBreakage l hl D cI cB cL cO pf N A ao st f (xs (i + (1 : Int32)).toNatClampNeg) o1 e1) (List.flatten [wMO cI cB am mo]) (seg_split (segs := [wPL cI cB cO A st, wMO cI cB am mo, [(ao, .inl (cL, 1, .inr (.inl f)))]]) (Wc := [wPL cI cB cO A st, [(ao, .inl (cL, 1, .inr (.inl f)))]]) (Wr := [wMO cI cB am mo]) [0, 2] [1] rfl rfl 3 rfl (by decide)) rfl ⟨(Nat.le_of_ble_eq_true rfl), (Nat.le_of_ble_eq_true rfl)⟩ ⟨Nat.le_trans (Nat.add_le_add_left (Nat.le_of_ble_eq_true rfl) _) hkn.1, Nat.le_trans (Nat.add_le_add_left (Nat.le_of_ble_eq_true rfl) _) hkn.2⟩ (Nat.le_of_ble_eq_true rfl) ?_
  rintro v w1 ⟨rfl, rfl⟩
  refine J_perm (ws2 := (List.flatten [wPL cI cB cO A o1.2.1, wMO cI cB am mo, [(ao, .inl (cL, 1, .inr (.inl o1.2.2)))]])) (seg_split (segs := [wPL cI cB cO A o1.2.1, wMO cI cB am mo, [(ao, .inl (cL, 1, .inr (.inl o1.2.2)))]]) (Wc := [wPL cI cB cO A o1.2.1, [(ao, .inl (cL, 1, .inr (.inl o1.2.2)))]]) (Wr := [wMO cI cB am mo]) [0, 2] [1] rfl rfl 3 rfl (by decide)).symm ?_
  refine J_widen (k2 := k + 4) (n2 := n + 24) (Nat.add_le_add_left (Nat.le_of_ble_eq_true rfl) _) (Nat.add_le_add_left (Nat.le_of_ble_eq_true rfl) _) ?_
  refine J_istore (lv2 := [(5, .int o1.1), (4, .int i), (3, .ref ao), (2, .ref (am 0)), (1, .ref (A 0 0)), (0, .ref b)]) (pc := 2878) C dlw_2878 (by decide) rfl ?_
  refine J_aload_n (pc := 2880) C dlw_2880 3 rfl ?_
  refine J_aload_n (pc := 2881) C dlw_2881 5 rfl ?_
  refine J_iload (pc := 2882) C dlw_2882 1 rfl ?_
  refine J_iconst (v := (1 : Int32)) (pc := 2884) C dlw_2884 (by decide) ?_
  refine J_iadd (pc := 2885) C dlw_2885 ?_
  refine J_sld C hX hbl hbA (pc := 2886) dlw_2886 h1 ?_
  refine J_cvF (pc := 2887) (As := [.int (xs (i + (1 : Int32)).toNatClampNeg)]) (st := []) C dlw_2887 ml_L_311 mi_yX11_poolBreakage (C_M_poolBreakage l D cI cB cL cO pf N am mo (xs (i + (1 : Int32)).toNatClampNeg) o2 e2) (List.flatten [wPL cI cB cO A o1.2.1, [(ao, .inl (cL, 1, .inr (.inl o1.2.2)))]]) (seg_split (segs := [wPL cI cB cO A o1.2.1, wMO cI cB am mo, [(ao, .inl (cL, 1, .inr (.inl o1.2.2)))]]) (Wc := [wMO cI cB am mo]) (Wr := [wPL cI cB cO A o1.2.1, [(ao, .inl (cL, 1, .inr (.inl o1.2.2)))]]) [1] [0, 2] rfl rfl 3 rfl (by decide)) (q0 := 0) rfl rfl rfl ⟨(Nat.le_of_ble_eq_true rfl), (Nat.le_of_ble_eq_true rfl)⟩ hkn (Nat.le_of_ble_eq_true rfl) ?_
  rintro v w1 ⟨rfl, rfl⟩
  refine J_perm (ws2 := (List.flatten [wPL cI cB cO A o1.2.1, wMO cI cB am o2.2, [(ao, .inl (cL, 1, .inr (.inl o1.2.2)))]])) (seg_split (segs := [wPL cI cB cO A o1.2.1, wMO cI cB am o2.2, [(ao, .inl (cL, 1, .inr (.inl o1.2.2)))]]) (Wc := [wMO cI cB am o2.2]) (Wr := [wPL cI cB cO A o1.2.1, [(ao, .inl (cL, 1, .inr (.inl o1.2.2)))]]) [1] [0, 2] rfl rfl 3 rfl (by decide)).symm ?_
  refine J_istore (lv2 := [(6, .int o2.1), (5, .int o1.1), (4, .int i), (3, .ref ao), (2, .ref (am 0)), (1, .ref (A 0 0)), (0, .ref b)]) (pc := 2890) C dlw_2890 (by decide) rfl ?_
  refine J_aload_n (pc := 2892) C dlw_2892 4 rfl ?_
  refine J_cvF (pc := 2893) (As := []) (st := []) C dlw_2893 ml_L_170 mi_yX11_thrown (C_M_thrown l D cI cB cL cO pf N am o2.2 o2.2.1 rfl) (List.flatten [wPL cI cB cO A o1.2.1, [(ao, .inl (cL, 1, .inr (.inl o1.2.2)))]]) (seg_split (segs := [wPL cI cB cO A o1.2.1, wMO cI cB am o2.2, [(ao, .inl (cL, 1, .inr (.inl o1.2.2)))]]) (Wc := [wMO cI cB am o2.2]) (Wr := [wPL cI cB cO A o1.2.1, [(ao, .inl (cL, 1, .inr (.inl o1.2.2)))]]) [1] [0, 2] rfl rfl 3 rfl (by decide)) (q0 := 0) rfl rfl rfl ⟨(Nat.le_of_ble_eq_true rfl), (Nat.le_of_ble_eq_true rfl)⟩ hkn (Nat.le_of_ble_eq_true rfl) ?_
  rintro v w1 ⟨rfl, rfl⟩
  refine J_perm (ws2 := (List.flatten [wPL cI cB cO A o1.2.1, wMO cI cB am o2.2, [(ao, .inl (cL, 1, .inr (.inl o1.2.2)))]])) (seg_split (segs := [wPL cI cB cO A o1.2.1, wMO cI cB am o2.2, [(ao, .inl (cL, 1, .inr (.inl o1.2.2)))]]) (Wc := [wMO cI cB am o2.2]) (Wr := [wPL cI cB cO A o1.2.1, [(ao, .inl (cL, 1, .inr (.inl o1.2.2)))]]) [1] [0, 2] rfl rfl 3 rfl (by decide)).symm ?_
  refine J_iload (pc := 2896) C dlw_2896 1 rfl ?_
  refine J_ic_eq (α := Unit) (o := ()) (X := some ()) (Y := none) (pc := 2898) (tgt := 2903) C dlw_2898 (by decide) (if_pos hth) (fun _ => ?_) (fun h => by cases h)
  refine J_iload (pc := 2903) C dlw_2903 1 rfl ?_
  by_cases h0 : o1.1 = 0
  · refine J_if_ne (α := Unit) (o := ()) (X := some ()) (Y := none) (pc := 2905) (tgt := 2920) C dlw_2905 (by decide) (if_pos h0) (fun h => by cases h) (fun _ => ?_)
    refine J_aload_n (pc := 2908) C dlw_2908 3 rfl ?_
    refine J_iconst (v := (0 : Int32)) (pc := 2909) C dlw_2909 (by decide) ?_
    refine J_perm (ws2 := [(ao, .inl (cL, 1, .inr (.inl o1.2.2)))] ++ List.flatten [wPL cI cB cO A o1.2.1, wMO cI cB am o2.2]) (by simpa using seg_split (segs := [wPL cI cB cO A o1.2.1, wMO cI cB am o2.2, [(ao, .inl (cL, 1, .inr (.inl o1.2.2)))]]) (Wc := [[(ao, .inl (cL, 1, .inr (.inl o1.2.2)))]]) (Wr := [wPL cI cB cO A o1.2.1, wMO cI cB am o2.2]) [2] [0, 1] rfl rfl 3 rfl (by decide)) ?_
    refine J_lald (pc := 2910) C dlw_2910 0 2 (rfl : ([(ao, .inl (cL, 1, .inr (.inl o1.2.2)))] ++ List.flatten [wPL cI cB cO A o1.2.1, wMO cI cB am o2.2] : va_W)[0]? = some (ao, .inl (cL, 1, .inr (.inl o1.2.2)))) rfl (by unfold vp_in; decide) ?_
    refine J_perm (ws2 := (List.flatten [wPL cI cB cO A o1.2.1, wMO cI cB am o2.2, [(ao, .inl (cL, 1, .inr (.inl o1.2.2)))]])) (by simpa using (seg_split (segs := [wPL cI cB cO A o1.2.1, wMO cI cB am o2.2, [(ao, .inl (cL, 1, .inr (.inl o1.2.2)))]]) (Wc := [[(ao, .inl (cL, 1, .inr (.inl o1.2.2)))]]) (Wr := [wPL cI cB cO A o1.2.1, wMO cI cB am o2.2]) [2] [0, 1] rfl rfl 3 rfl (by decide)).symm) ?_
    refine J_iload (pc := 2911) C dlw_2911 0 rfl ?_
    refine J_i2l (pc := 2913) C dlw_2913 ?_
    refine J_lcmp (pc := 2914) C dlw_2914 ?_
    refine J_if_eq (α := Unit) (o := ()) (X := some ()) (Y := none) (pc := 2915) (tgt := 2920) C dlw_2915 (by decide) (if_pos (by have hv := hval h0; rw [show (0 : Int32).toNatClampNeg = 0 from rfl, hv]; exact lg_cmp_self _)) (fun _ => ?_) (fun h => by cases h)
    refine J_goto (tgt := 3187) (pc := 2920) C dlw_2920 (by decide) ?_
    refine J_sub (lv2 := [(4, .int i), (3, .ref ao), (2, .ref (am 0)), (1, .ref (A 0 0)), (0, .ref b)]) [2, 3, 4, 5, 6] rfl ?_
    exact kx _ _ _ hRn
  · refine J_if_ne (α := Unit) (o := ()) (X := none) (Y := some ()) (pc := 2905) (tgt := 2920) C dlw_2905 (by decide) (if_neg h0) (fun _ => ?_) (fun h => by cases h)
    refine J_goto (tgt := 3187) (pc := 2920) C dlw_2920 (by decide) ?_
    refine J_sub (lv2 := [(4, .int i), (3, .ref ao), (2, .ref (am 0)), (1, .ref (A 0 0)), (0, .ref b)]) [2, 3, 4, 5, 6] rfl ?_
    exact kx _ _ _ hRn
set_option maxHeartbeats 4000000 in
set_option maxRecDepth 100000 in
theorem K_totalBreakage {p : Program} {l : Launch} {e : Env} {s : State} {m : MethodId} {below : List Frame} {meth : Method} {c : Code} {D : va_G} {cI cB cL cO : ClassId} {pf : Nat → Nat} {Q : State → Prop} {k n b L : Nat} {xs : Nat → Int32} {N : Nat} {A : Nat → Nat → Nat} {am : Nat → Nat} {ao : Nat} {i : Int32} {Rl : Nat → T_PL → T_MO → Prop} {st : T_PL} {mo : T_MO} {f : Nat → Int64} {kk : Nat} (C : jC p s m #[Value.ref b] meth c code 7 R_lawN D [(cI, .int), (cB, .byte), (cL, .long), (cO, .object RX0)] pf (fun q => s.heap.size ≤ q)) (hl : l.stackTraces = false) (hX : va_X b L xs s s.heap) (hbl : b < s.heap.size) (hbA : ¬ (fun q : Nat => s.heap.size ≤ q) b) (h1 : vp_in (i + (1 : Int32)) L) (h2 : vp_in (i + (2 : Int32)) L) (h3 : vp_in (i + (3 : Int32)) L) (h4 : vp_in (i + (4 : Int32)) L) (h5 : vp_in (i + (5 : Int32)) L) (hSt : (StB Rl (fun s => P_totalBreakage N s) (fun m => F_M_totalBreakage N m))) (hk : kk < 512) (hR : Rl kk st mo) (hkn : k + 4 ≤ room_1.cells ∧ n + 24 ≤ room_1.slots) (kx : ∀ st2 mo2 f2, Rl (kk + 1) st2 mo2 → J p l e room_1 s m #[Value.ref b] below meth c 7 D (fun q => s.heap.size ≤ q) Q (k + 4) (n + 24) 3187 [(4, .int i), (3, .ref ao), (2, .ref (am 0)), (1, .ref (A 0 0)), (0, .ref b)] [] (List.flatten [wPL cI cB cO A st2, wMO cI cB am mo2, [(ao, .inl (cL, 1, .inr (.inl f2)))]])) : J p l e room_1 s m #[Value.ref b] below meth c 7 D (fun q => s.heap.size ≤ q) Q (k) (n) 2923 [(4, .int i), (3, .ref ao), (2, .ref (am 0)), (1, .ref (A 0 0)), (0, .ref b)] [] (List.flatten [wPL cI cB cO A st, wMO cI cB am mo, [(ao, .inl (cL, 1, .inr (.inl f)))]]) := by
  refine J_aload_n (pc := 2923) C dlw_2923 3 rfl ?_
  obtain ⟨o1, o2, e1, e2, hth, hRn⟩ := hSt kk st mo hk hR
  refine J_cvF (pc := 2924) (As := []) (st := []) C dlw_2924 ml_L_312 mi_yX10_totalBreakage (Q_totalBreakage l D cI cB cL cO pf N A st o1 e1) (List.flatten [wMO cI cB am mo, [(ao, .inl (cL, 1, .inr (.inl f)))]]) (List.Perm.refl _) at_this rfl rfl ⟨(Nat.le_of_ble_eq_true rfl), (Nat.le_of_ble_eq_true rfl)⟩ ⟨Nat.le_trans (Nat.le_add_right _ 4) hkn.1, Nat.le_trans (Nat.le_add_right _ 24) hkn.2⟩ (Nat.le_of_ble_eq_true rfl) ?_
  rintro v w1 ⟨rfl, rfl⟩
  refine J_ws (ws2 := (List.flatten [wPL cI cB cO A o1.2, wMO cI cB am mo, [(ao, .inl (cL, 1, .inr (.inl f)))]])) rfl ?_
  refine J_widen (k2 := k + 4) (n2 := n + 24) (Nat.le_add_right _ 4) (Nat.le_add_right _ 24) ?_
  refine J_aload_n (pc := 2927) C dlw_2927 2 rfl ?_
  refine J_cvF (pc := 2928) (As := []) (st := [.int o1.1]) C dlw_2928 ml_L_315 mi_yX11_totalBreakage (C_M_totalBreakage l D cI cB cL cO pf N am mo o2 e2) (List.flatten [wPL cI cB cO A o1.2, [(ao, .inl (cL, 1, .inr (.inl f)))]]) (seg_split (segs := [wPL cI cB cO A o1.2, wMO cI cB am mo, [(ao, .inl (cL, 1, .inr (.inl f)))]]) (Wc := [wMO cI cB am mo]) (Wr := [wPL cI cB cO A o1.2, [(ao, .inl (cL, 1, .inr (.inl f)))]]) [1] [0, 2] rfl rfl 3 rfl (by decide)) (q0 := 0) rfl rfl rfl ⟨(Nat.le_of_ble_eq_true rfl), (Nat.le_of_ble_eq_true rfl)⟩ hkn (Nat.le_of_ble_eq_true rfl) ?_
  rintro v w1 ⟨rfl, rfl⟩
  refine J_perm (ws2 := (List.flatten [wPL cI cB cO A o1.2, wMO cI cB am o2.2, [(ao, .inl (cL, 1, .inr (.inl f)))]])) (seg_split (segs := [wPL cI cB cO A o1.2, wMO cI cB am o2.2, [(ao, .inl (cL, 1, .inr (.inl f)))]]) (Wc := [wMO cI cB am o2.2]) (Wr := [wPL cI cB cO A o1.2, [(ao, .inl (cL, 1, .inr (.inl f)))]]) [1] [0, 2] rfl rfl 3 rfl (by decide)).symm ?_
  refine J_ic_eq (α := Unit) (o := ()) (X := some ()) (Y := none) (pc := 2931) (tgt := 3187) C dlw_2931 (by decide) (if_pos hth) (fun _ => ?_) (fun h => by cases h)
  exact kx _ _ _ hRn
set_option maxHeartbeats 4000000 in
set_option maxRecDepth 100000 in
theorem K_rankedMember {p : Program} {l : Launch} {e : Env} {s : State} {m : MethodId} {below : List Frame} {meth : Method} {c : Code} {D : va_G} {cI cB cL cO : ClassId} {pf : Nat → Nat} {Q : State → Prop} {k n b L : Nat} {xs : Nat → Int32} {N : Nat} {A : Nat → Nat → Nat} {am : Nat → Nat} {ao : Nat} {i : Int32} {Rl : Nat → T_PL → T_MO → Prop} {st : T_PL} {mo : T_MO} {f : Nat → Int64} {kk : Nat} (C : jC p s m #[Value.ref b] meth c code 7 R_lawN D [(cI, .int), (cB, .byte), (cL, .long), (cO, .object RX0)] pf (fun q => s.heap.size ≤ q)) (hl : l.stackTraces = false) (hX : va_X b L xs s s.heap) (hbl : b < s.heap.size) (hbA : ¬ (fun q : Nat => s.heap.size ≤ q) b) (h1 : vp_in (i + (1 : Int32)) L) (h2 : vp_in (i + (2 : Int32)) L) (h3 : vp_in (i + (3 : Int32)) L) (h4 : vp_in (i + (4 : Int32)) L) (h5 : vp_in (i + (5 : Int32)) L) (hSt : (∀ x1 : Int32, StA Rl (fun s f => W_rankedMember N s f x1) (fun m => F_M_rankedMember N m x1))) (hk : kk < 512) (hR : Rl kk st mo) (hkn : k + 4 ≤ room_1.cells ∧ n + 24 ≤ room_1.slots) (kx : ∀ st2 mo2 f2, Rl (kk + 1) st2 mo2 → J p l e room_1 s m #[Value.ref b] below meth c 7 D (fun q => s.heap.size ≤ q) Q (k + 4) (n + 24) 3187 [(4, .int i), (3, .ref ao), (2, .ref (am 0)), (1, .ref (A 0 0)), (0, .ref b)] [] (List.flatten [wPL cI cB cO A st2, wMO cI cB am mo2, [(ao, .inl (cL, 1, .inr (.inl f2)))]])) : J p l e room_1 s m #[Value.ref b] below meth c 7 D (fun q => s.heap.size ≤ q) Q (k) (n) 2936 [(4, .int i), (3, .ref ao), (2, .ref (am 0)), (1, .ref (A 0 0)), (0, .ref b)] [] (List.flatten [wPL cI cB cO A st, wMO cI cB am mo, [(ao, .inl (cL, 1, .inr (.inl f)))]]) := by
  refine J_aload_n (pc := 2936) C dlw_2936 3 rfl ?_
  refine J_aload_n (pc := 2937) C dlw_2937 4 rfl ?_
  refine J_iload (pc := 2938) C dlw_2938 0 rfl ?_
  refine J_iconst (v := (1 : Int32)) (pc := 2940) C dlw_2940 (by decide) ?_
  refine J_iadd (pc := 2941) C dlw_2941 ?_
  refine J_sld C hX hbl hbA (pc := 2942) dlw_2942 h1 ?_
  refine J_aload_n (pc := 2943) C dlw_2943 1 rfl ?_
  obtain ⟨o1, o2, e1, e2, hth, hval, hRn⟩ := hSt (xs (i + (1 : Int32)).toNatClampNeg) kk st mo f hk hR
  refine J_csH (pc := 2944) (As := [.ref (A 0 0), .int (xs (i + (1 : Int32)).toNatClampNeg), .ref ao]) (st := []) C dlw_2944 ml_L_316 wh_rankedMember (V_rankedMember l hl D cI cB cL cO pf N A ao st f (xs (i + (1 : Int32)).toNatClampNeg) o1 e1) (List.flatten [wMO cI cB am mo]) (seg_split (segs := [wPL cI cB cO A st, wMO cI cB am mo, [(ao, .inl (cL, 1, .inr (.inl f)))]]) (Wc := [wPL cI cB cO A st, [(ao, .inl (cL, 1, .inr (.inl f)))]]) (Wr := [wMO cI cB am mo]) [0, 2] [1] rfl rfl 3 rfl (by decide)) rfl ⟨(Nat.le_of_ble_eq_true rfl), (Nat.le_of_ble_eq_true rfl)⟩ ⟨Nat.le_trans (Nat.add_le_add_left (Nat.le_of_ble_eq_true rfl) _) hkn.1, Nat.le_trans (Nat.add_le_add_left (Nat.le_of_ble_eq_true rfl) _) hkn.2⟩ (Nat.le_of_ble_eq_true rfl) ?_
  rintro v w1 ⟨rfl, rfl⟩
  refine J_perm (ws2 := (List.flatten [wPL cI cB cO A o1.2.1, wMO cI cB am mo, [(ao, .inl (cL, 1, .inr (.inl o1.2.2)))]])) (seg_split (segs := [wPL cI cB cO A o1.2.1, wMO cI cB am mo, [(ao, .inl (cL, 1, .inr (.inl o1.2.2)))]]) (Wc := [wPL cI cB cO A o1.2.1, [(ao, .inl (cL, 1, .inr (.inl o1.2.2)))]]) (Wr := [wMO cI cB am mo]) [0, 2] [1] rfl rfl 3 rfl (by decide)).symm ?_
  refine J_widen (k2 := k + 4) (n2 := n + 24) (Nat.add_le_add_left (Nat.le_of_ble_eq_true rfl) _) (Nat.add_le_add_left (Nat.le_of_ble_eq_true rfl) _) ?_
  refine J_istore (lv2 := [(5, .int o1.1), (4, .int i), (3, .ref ao), (2, .ref (am 0)), (1, .ref (A 0 0)), (0, .ref b)]) (pc := 2947) C dlw_2947 (by decide) rfl ?_
  refine J_aload_n (pc := 2949) C dlw_2949 3 rfl ?_
  refine J_aload_n (pc := 2950) C dlw_2950 5 rfl ?_
  refine J_iload (pc := 2951) C dlw_2951 1 rfl ?_
  refine J_iconst (v := (1 : Int32)) (pc := 2953) C dlw_2953 (by decide) ?_
  refine J_iadd (pc := 2954) C dlw_2954 ?_
  refine J_sld C hX hbl hbA (pc := 2955) dlw_2955 h1 ?_
  refine J_cvF (pc := 2956) (As := [.int (xs (i + (1 : Int32)).toNatClampNeg)]) (st := []) C dlw_2956 ml_L_318 mi_yX11_rankedMember (C_M_rankedMember l D cI cB cL cO pf N am mo (xs (i + (1 : Int32)).toNatClampNeg) o2 e2) (List.flatten [wPL cI cB cO A o1.2.1, [(ao, .inl (cL, 1, .inr (.inl o1.2.2)))]]) (seg_split (segs := [wPL cI cB cO A o1.2.1, wMO cI cB am mo, [(ao, .inl (cL, 1, .inr (.inl o1.2.2)))]]) (Wc := [wMO cI cB am mo]) (Wr := [wPL cI cB cO A o1.2.1, [(ao, .inl (cL, 1, .inr (.inl o1.2.2)))]]) [1] [0, 2] rfl rfl 3 rfl (by decide)) (q0 := 0) rfl rfl rfl ⟨(Nat.le_of_ble_eq_true rfl), (Nat.le_of_ble_eq_true rfl)⟩ hkn (Nat.le_of_ble_eq_true rfl) ?_
  rintro v w1 ⟨rfl, rfl⟩
  refine J_perm (ws2 := (List.flatten [wPL cI cB cO A o1.2.1, wMO cI cB am o2.2, [(ao, .inl (cL, 1, .inr (.inl o1.2.2)))]])) (seg_split (segs := [wPL cI cB cO A o1.2.1, wMO cI cB am o2.2, [(ao, .inl (cL, 1, .inr (.inl o1.2.2)))]]) (Wc := [wMO cI cB am o2.2]) (Wr := [wPL cI cB cO A o1.2.1, [(ao, .inl (cL, 1, .inr (.inl o1.2.2)))]]) [1] [0, 2] rfl rfl 3 rfl (by decide)).symm ?_
  refine J_istore (lv2 := [(6, .int o2.1), (5, .int o1.1), (4, .int i), (3, .ref ao), (2, .ref (am 0)), (1, .ref (A 0 0)), (0, .ref b)]) (pc := 2959) C dlw_2959 (by decide) rfl ?_
  refine J_aload_n (pc := 2961) C dlw_2961 4 rfl ?_
  refine J_cvF (pc := 2962) (As := []) (st := []) C dlw_2962 ml_L_170 mi_yX11_thrown (C_M_thrown l D cI cB cL cO pf N am o2.2 o2.2.1 rfl) (List.flatten [wPL cI cB cO A o1.2.1, [(ao, .inl (cL, 1, .inr (.inl o1.2.2)))]]) (seg_split (segs := [wPL cI cB cO A o1.2.1, wMO cI cB am o2.2, [(ao, .inl (cL, 1, .inr (.inl o1.2.2)))]]) (Wc := [wMO cI cB am o2.2]) (Wr := [wPL cI cB cO A o1.2.1, [(ao, .inl (cL, 1, .inr (.inl o1.2.2)))]]) [1] [0, 2] rfl rfl 3 rfl (by decide)) (q0 := 0) rfl rfl rfl ⟨(Nat.le_of_ble_eq_true rfl), (Nat.le_of_ble_eq_true rfl)⟩ hkn (Nat.le_of_ble_eq_true rfl) ?_
  rintro v w1 ⟨rfl, rfl⟩
  refine J_perm (ws2 := (List.flatten [wPL cI cB cO A o1.2.1, wMO cI cB am o2.2, [(ao, .inl (cL, 1, .inr (.inl o1.2.2)))]])) (seg_split (segs := [wPL cI cB cO A o1.2.1, wMO cI cB am o2.2, [(ao, .inl (cL, 1, .inr (.inl o1.2.2)))]]) (Wc := [wMO cI cB am o2.2]) (Wr := [wPL cI cB cO A o1.2.1, [(ao, .inl (cL, 1, .inr (.inl o1.2.2)))]]) [1] [0, 2] rfl rfl 3 rfl (by decide)).symm ?_
  refine J_iload (pc := 2965) C dlw_2965 1 rfl ?_
  refine J_ic_eq (α := Unit) (o := ()) (X := some ()) (Y := none) (pc := 2967) (tgt := 2972) C dlw_2967 (by decide) (if_pos hth) (fun _ => ?_) (fun h => by cases h)
  refine J_iload (pc := 2972) C dlw_2972 1 rfl ?_
  by_cases h0 : o1.1 = 0
  · refine J_if_ne (α := Unit) (o := ()) (X := some ()) (Y := none) (pc := 2974) (tgt := 2989) C dlw_2974 (by decide) (if_pos h0) (fun h => by cases h) (fun _ => ?_)
    refine J_aload_n (pc := 2977) C dlw_2977 3 rfl ?_
    refine J_iconst (v := (0 : Int32)) (pc := 2978) C dlw_2978 (by decide) ?_
    refine J_perm (ws2 := [(ao, .inl (cL, 1, .inr (.inl o1.2.2)))] ++ List.flatten [wPL cI cB cO A o1.2.1, wMO cI cB am o2.2]) (by simpa using seg_split (segs := [wPL cI cB cO A o1.2.1, wMO cI cB am o2.2, [(ao, .inl (cL, 1, .inr (.inl o1.2.2)))]]) (Wc := [[(ao, .inl (cL, 1, .inr (.inl o1.2.2)))]]) (Wr := [wPL cI cB cO A o1.2.1, wMO cI cB am o2.2]) [2] [0, 1] rfl rfl 3 rfl (by decide)) ?_
    refine J_lald (pc := 2979) C dlw_2979 0 2 (rfl : ([(ao, .inl (cL, 1, .inr (.inl o1.2.2)))] ++ List.flatten [wPL cI cB cO A o1.2.1, wMO cI cB am o2.2] : va_W)[0]? = some (ao, .inl (cL, 1, .inr (.inl o1.2.2)))) rfl (by unfold vp_in; decide) ?_
    refine J_perm (ws2 := (List.flatten [wPL cI cB cO A o1.2.1, wMO cI cB am o2.2, [(ao, .inl (cL, 1, .inr (.inl o1.2.2)))]])) (by simpa using (seg_split (segs := [wPL cI cB cO A o1.2.1, wMO cI cB am o2.2, [(ao, .inl (cL, 1, .inr (.inl o1.2.2)))]]) (Wc := [[(ao, .inl (cL, 1, .inr (.inl o1.2.2)))]]) (Wr := [wPL cI cB cO A o1.2.1, wMO cI cB am o2.2]) [2] [0, 1] rfl rfl 3 rfl (by decide)).symm) ?_
    refine J_iload (pc := 2980) C dlw_2980 0 rfl ?_
    refine J_i2l (pc := 2982) C dlw_2982 ?_
    refine J_lcmp (pc := 2983) C dlw_2983 ?_
    refine J_if_eq (α := Unit) (o := ()) (X := some ()) (Y := none) (pc := 2984) (tgt := 2989) C dlw_2984 (by decide) (if_pos (by have hv := hval h0; rw [show (0 : Int32).toNatClampNeg = 0 from rfl, hv]; exact lg_cmp_self _)) (fun _ => ?_) (fun h => by cases h)
    refine J_goto (tgt := 3187) (pc := 2989) C dlw_2989 (by decide) ?_
    refine J_sub (lv2 := [(4, .int i), (3, .ref ao), (2, .ref (am 0)), (1, .ref (A 0 0)), (0, .ref b)]) [2, 3, 4, 5, 6] rfl ?_
    exact kx _ _ _ hRn
  · refine J_if_ne (α := Unit) (o := ()) (X := none) (Y := some ()) (pc := 2974) (tgt := 2989) C dlw_2974 (by decide) (if_neg h0) (fun _ => ?_) (fun h => by cases h)
    refine J_goto (tgt := 3187) (pc := 2989) C dlw_2989 (by decide) ?_
    refine J_sub (lv2 := [(4, .int i), (3, .ref ao), (2, .ref (am 0)), (1, .ref (A 0 0)), (0, .ref b)]) [2, 3, 4, 5, 6] rfl ?_
    exact kx _ _ _ hRn
set_option maxHeartbeats 4000000 in
set_option maxRecDepth 100000 in
theorem K_logSize {p : Program} {l : Launch} {e : Env} {s : State} {m : MethodId} {below : List Frame} {meth : Method} {c : Code} {D : va_G} {cI cB cL cO : ClassId} {pf : Nat → Nat} {Q : State → Prop} {k n b L : Nat} {xs : Nat → Int32} {N : Nat} {A : Nat → Nat → Nat} {am : Nat → Nat} {ao : Nat} {i : Int32} {Rl : Nat → T_PL → T_MO → Prop} {st : T_PL} {mo : T_MO} {f : Nat → Int64} {kk : Nat} (C : jC p s m #[Value.ref b] meth c code 7 R_lawN D [(cI, .int), (cB, .byte), (cL, .long), (cO, .object RX0)] pf (fun q => s.heap.size ≤ q)) (hl : l.stackTraces = false) (hX : va_X b L xs s s.heap) (hbl : b < s.heap.size) (hbA : ¬ (fun q : Nat => s.heap.size ≤ q) b) (h1 : vp_in (i + (1 : Int32)) L) (h2 : vp_in (i + (2 : Int32)) L) (h3 : vp_in (i + (3 : Int32)) L) (h4 : vp_in (i + (4 : Int32)) L) (h5 : vp_in (i + (5 : Int32)) L) (hSt : (StB Rl (fun s => P_logSize N s) (fun m => F_M_logSize N m))) (hk : kk < 512) (hR : Rl kk st mo) (hkn : k + 4 ≤ room_1.cells ∧ n + 24 ≤ room_1.slots) (kx : ∀ st2 mo2 f2, Rl (kk + 1) st2 mo2 → J p l e room_1 s m #[Value.ref b] below meth c 7 D (fun q => s.heap.size ≤ q) Q (k + 4) (n + 24) 3187 [(4, .int i), (3, .ref ao), (2, .ref (am 0)), (1, .ref (A 0 0)), (0, .ref b)] [] (List.flatten [wPL cI cB cO A st2, wMO cI cB am mo2, [(ao, .inl (cL, 1, .inr (.inl f2)))]])) : J p l e room_1 s m #[Value.ref b] below meth c 7 D (fun q => s.heap.size ≤ q) Q (k) (n) 2992 [(4, .int i), (3, .ref ao), (2, .ref (am 0)), (1, .ref (A 0 0)), (0, .ref b)] [] (List.flatten [wPL cI cB cO A st, wMO cI cB am mo, [(ao, .inl (cL, 1, .inr (.inl f)))]]) := by
  refine J_aload_n (pc := 2992) C dlw_2992 3 rfl ?_
  obtain ⟨o1, o2, e1, e2, hth, hRn⟩ := hSt kk st mo hk hR
  refine J_cvF (pc := 2993) (As := []) (st := []) C dlw_2993 ml_L_319 mi_yX10_logSize (Q_logSize l D cI cB cL cO pf N A st o1 e1) (List.flatten [wMO cI cB am mo, [(ao, .inl (cL, 1, .inr (.inl f)))]]) (List.Perm.refl _) at_this rfl rfl ⟨(Nat.le_of_ble_eq_true rfl), (Nat.le_of_ble_eq_true rfl)⟩ ⟨Nat.le_trans (Nat.le_add_right _ 4) hkn.1, Nat.le_trans (Nat.le_add_right _ 24) hkn.2⟩ (Nat.le_of_ble_eq_true rfl) ?_
  rintro v w1 ⟨rfl, rfl⟩
  refine J_ws (ws2 := (List.flatten [wPL cI cB cO A o1.2, wMO cI cB am mo, [(ao, .inl (cL, 1, .inr (.inl f)))]])) rfl ?_
  refine J_widen (k2 := k + 4) (n2 := n + 24) (Nat.le_add_right _ 4) (Nat.le_add_right _ 24) ?_
  refine J_aload_n (pc := 2996) C dlw_2996 2 rfl ?_
  refine J_cvF (pc := 2997) (As := []) (st := [.int o1.1]) C dlw_2997 ml_L_322 mi_yX11_logSize (C_M_logSize l D cI cB cL cO pf N am mo o2 e2) (List.flatten [wPL cI cB cO A o1.2, [(ao, .inl (cL, 1, .inr (.inl f)))]]) (seg_split (segs := [wPL cI cB cO A o1.2, wMO cI cB am mo, [(ao, .inl (cL, 1, .inr (.inl f)))]]) (Wc := [wMO cI cB am mo]) (Wr := [wPL cI cB cO A o1.2, [(ao, .inl (cL, 1, .inr (.inl f)))]]) [1] [0, 2] rfl rfl 3 rfl (by decide)) (q0 := 0) rfl rfl rfl ⟨(Nat.le_of_ble_eq_true rfl), (Nat.le_of_ble_eq_true rfl)⟩ hkn (Nat.le_of_ble_eq_true rfl) ?_
  rintro v w1 ⟨rfl, rfl⟩
  refine J_perm (ws2 := (List.flatten [wPL cI cB cO A o1.2, wMO cI cB am o2.2, [(ao, .inl (cL, 1, .inr (.inl f)))]])) (seg_split (segs := [wPL cI cB cO A o1.2, wMO cI cB am o2.2, [(ao, .inl (cL, 1, .inr (.inl f)))]]) (Wc := [wMO cI cB am o2.2]) (Wr := [wPL cI cB cO A o1.2, [(ao, .inl (cL, 1, .inr (.inl f)))]]) [1] [0, 2] rfl rfl 3 rfl (by decide)).symm ?_
  refine J_ic_eq (α := Unit) (o := ()) (X := some ()) (Y := none) (pc := 3000) (tgt := 3187) C dlw_3000 (by decide) (if_pos hth) (fun _ => ?_) (fun h => by cases h)
  exact kx _ _ _ hRn
set_option maxHeartbeats 4000000 in
set_option maxRecDepth 100000 in
theorem K_log {p : Program} {l : Launch} {e : Env} {s : State} {m : MethodId} {below : List Frame} {meth : Method} {c : Code} {D : va_G} {cI cB cL cO : ClassId} {pf : Nat → Nat} {Q : State → Prop} {k n b L : Nat} {xs : Nat → Int32} {N : Nat} {A : Nat → Nat → Nat} {am : Nat → Nat} {ao : Nat} {i : Int32} {Rl : Nat → T_PL → T_MO → Prop} {st : T_PL} {mo : T_MO} {f : Nat → Int64} {kk : Nat} (C : jC p s m #[Value.ref b] meth c code 7 R_lawN D [(cI, .int), (cB, .byte), (cL, .long), (cO, .object RX0)] pf (fun q => s.heap.size ≤ q)) (hl : l.stackTraces = false) (hX : va_X b L xs s s.heap) (hbl : b < s.heap.size) (hbA : ¬ (fun q : Nat => s.heap.size ≤ q) b) (h1 : vp_in (i + (1 : Int32)) L) (h2 : vp_in (i + (2 : Int32)) L) (h3 : vp_in (i + (3 : Int32)) L) (h4 : vp_in (i + (4 : Int32)) L) (h5 : vp_in (i + (5 : Int32)) L) (hSt : (∀ x1 : Int32, ∀ x2 : Int32, StA Rl (fun s f => W_log N s f x1 x2) (fun m => F_M_log N m x1 x2))) (hk : kk < 512) (hR : Rl kk st mo) (hkn : k + 4 ≤ room_1.cells ∧ n + 24 ≤ room_1.slots) (kx : ∀ st2 mo2 f2, Rl (kk + 1) st2 mo2 → J p l e room_1 s m #[Value.ref b] below meth c 7 D (fun q => s.heap.size ≤ q) Q (k + 4) (n + 24) 3187 [(4, .int i), (3, .ref ao), (2, .ref (am 0)), (1, .ref (A 0 0)), (0, .ref b)] [] (List.flatten [wPL cI cB cO A st2, wMO cI cB am mo2, [(ao, .inl (cL, 1, .inr (.inl f2)))]])) : J p l e room_1 s m #[Value.ref b] below meth c 7 D (fun q => s.heap.size ≤ q) Q (k) (n) 3005 [(4, .int i), (3, .ref ao), (2, .ref (am 0)), (1, .ref (A 0 0)), (0, .ref b)] [] (List.flatten [wPL cI cB cO A st, wMO cI cB am mo, [(ao, .inl (cL, 1, .inr (.inl f)))]]) := by
  refine J_aload_n (pc := 3005) C dlw_3005 3 rfl ?_
  refine J_aload_n (pc := 3006) C dlw_3006 4 rfl ?_
  refine J_iload (pc := 3007) C dlw_3007 0 rfl ?_
  refine J_iconst (v := (1 : Int32)) (pc := 3009) C dlw_3009 (by decide) ?_
  refine J_iadd (pc := 3010) C dlw_3010 ?_
  refine J_sld C hX hbl hbA (pc := 3011) dlw_3011 h1 ?_
  refine J_aload_n (pc := 3012) C dlw_3012 4 rfl ?_
  refine J_iload (pc := 3013) C dlw_3013 0 rfl ?_
  refine J_iconst (v := (2 : Int32)) (pc := 3015) C dlw_3015 (by decide) ?_
  refine J_iadd (pc := 3016) C dlw_3016 ?_
  refine J_sld C hX hbl hbA (pc := 3017) dlw_3017 h2 ?_
  refine J_aload_n (pc := 3018) C dlw_3018 1 rfl ?_
  obtain ⟨o1, o2, e1, e2, hth, hval, hRn⟩ := hSt (xs (i + (1 : Int32)).toNatClampNeg) (xs (i + (2 : Int32)).toNatClampNeg) kk st mo f hk hR
  refine J_csH (pc := 3019) (As := [.ref (A 0 0), .int (xs (i + (1 : Int32)).toNatClampNeg), .int (xs (i + (2 : Int32)).toNatClampNeg), .ref ao]) (st := []) C dlw_3019 ml_L_323 wh_log (V_log l hl D cI cB cL cO pf N A ao st f (xs (i + (1 : Int32)).toNatClampNeg) (xs (i + (2 : Int32)).toNatClampNeg) o1 e1) (List.flatten [wMO cI cB am mo]) (seg_split (segs := [wPL cI cB cO A st, wMO cI cB am mo, [(ao, .inl (cL, 1, .inr (.inl f)))]]) (Wc := [wPL cI cB cO A st, [(ao, .inl (cL, 1, .inr (.inl f)))]]) (Wr := [wMO cI cB am mo]) [0, 2] [1] rfl rfl 3 rfl (by decide)) rfl ⟨(Nat.le_of_ble_eq_true rfl), (Nat.le_of_ble_eq_true rfl)⟩ ⟨Nat.le_trans (Nat.add_le_add_left (Nat.le_of_ble_eq_true rfl) _) hkn.1, Nat.le_trans (Nat.add_le_add_left (Nat.le_of_ble_eq_true rfl) _) hkn.2⟩ (Nat.le_of_ble_eq_true rfl) ?_
  rintro v w1 ⟨rfl, rfl⟩
  refine J_perm (ws2 := (List.flatten [wPL cI cB cO A o1.2.1, wMO cI cB am mo, [(ao, .inl (cL, 1, .inr (.inl o1.2.2)))]])) (seg_split (segs := [wPL cI cB cO A o1.2.1, wMO cI cB am mo, [(ao, .inl (cL, 1, .inr (.inl o1.2.2)))]]) (Wc := [wPL cI cB cO A o1.2.1, [(ao, .inl (cL, 1, .inr (.inl o1.2.2)))]]) (Wr := [wMO cI cB am mo]) [0, 2] [1] rfl rfl 3 rfl (by decide)).symm ?_
  refine J_widen (k2 := k + 4) (n2 := n + 24) (Nat.add_le_add_left (Nat.le_of_ble_eq_true rfl) _) (Nat.add_le_add_left (Nat.le_of_ble_eq_true rfl) _) ?_
  refine J_istore (lv2 := [(5, .int o1.1), (4, .int i), (3, .ref ao), (2, .ref (am 0)), (1, .ref (A 0 0)), (0, .ref b)]) (pc := 3022) C dlw_3022 (by decide) rfl ?_
  refine J_aload_n (pc := 3024) C dlw_3024 3 rfl ?_
  refine J_aload_n (pc := 3025) C dlw_3025 5 rfl ?_
  refine J_iload (pc := 3026) C dlw_3026 1 rfl ?_
  refine J_iconst (v := (1 : Int32)) (pc := 3028) C dlw_3028 (by decide) ?_
  refine J_iadd (pc := 3029) C dlw_3029 ?_
  refine J_sld C hX hbl hbA (pc := 3030) dlw_3030 h1 ?_
  refine J_aload_n (pc := 3031) C dlw_3031 5 rfl ?_
  refine J_iload (pc := 3032) C dlw_3032 1 rfl ?_
  refine J_iconst (v := (2 : Int32)) (pc := 3034) C dlw_3034 (by decide) ?_
  refine J_iadd (pc := 3035) C dlw_3035 ?_
  refine J_sld C hX hbl hbA (pc := 3036) dlw_3036 h2 ?_
  refine J_cvF (pc := 3037) (As := [.int (xs (i + (1 : Int32)).toNatClampNeg), .int (xs (i + (2 : Int32)).toNatClampNeg)]) (st := []) C dlw_3037 ml_L_325 mi_yX11_log (C_M_log l D cI cB cL cO pf N am mo (xs (i + (1 : Int32)).toNatClampNeg) (xs (i + (2 : Int32)).toNatClampNeg) o2 e2) (List.flatten [wPL cI cB cO A o1.2.1, [(ao, .inl (cL, 1, .inr (.inl o1.2.2)))]]) (seg_split (segs := [wPL cI cB cO A o1.2.1, wMO cI cB am mo, [(ao, .inl (cL, 1, .inr (.inl o1.2.2)))]]) (Wc := [wMO cI cB am mo]) (Wr := [wPL cI cB cO A o1.2.1, [(ao, .inl (cL, 1, .inr (.inl o1.2.2)))]]) [1] [0, 2] rfl rfl 3 rfl (by decide)) (q0 := 0) rfl rfl rfl ⟨(Nat.le_of_ble_eq_true rfl), (Nat.le_of_ble_eq_true rfl)⟩ hkn (Nat.le_of_ble_eq_true rfl) ?_
  rintro v w1 ⟨rfl, rfl⟩
  refine J_perm (ws2 := (List.flatten [wPL cI cB cO A o1.2.1, wMO cI cB am o2.2, [(ao, .inl (cL, 1, .inr (.inl o1.2.2)))]])) (seg_split (segs := [wPL cI cB cO A o1.2.1, wMO cI cB am o2.2, [(ao, .inl (cL, 1, .inr (.inl o1.2.2)))]]) (Wc := [wMO cI cB am o2.2]) (Wr := [wPL cI cB cO A o1.2.1, [(ao, .inl (cL, 1, .inr (.inl o1.2.2)))]]) [1] [0, 2] rfl rfl 3 rfl (by decide)).symm ?_
  refine J_istore (lv2 := [(6, .int o2.1), (5, .int o1.1), (4, .int i), (3, .ref ao), (2, .ref (am 0)), (1, .ref (A 0 0)), (0, .ref b)]) (pc := 3040) C dlw_3040 (by decide) rfl ?_
  refine J_aload_n (pc := 3042) C dlw_3042 4 rfl ?_
  refine J_cvF (pc := 3043) (As := []) (st := []) C dlw_3043 ml_L_170 mi_yX11_thrown (C_M_thrown l D cI cB cL cO pf N am o2.2 o2.2.1 rfl) (List.flatten [wPL cI cB cO A o1.2.1, [(ao, .inl (cL, 1, .inr (.inl o1.2.2)))]]) (seg_split (segs := [wPL cI cB cO A o1.2.1, wMO cI cB am o2.2, [(ao, .inl (cL, 1, .inr (.inl o1.2.2)))]]) (Wc := [wMO cI cB am o2.2]) (Wr := [wPL cI cB cO A o1.2.1, [(ao, .inl (cL, 1, .inr (.inl o1.2.2)))]]) [1] [0, 2] rfl rfl 3 rfl (by decide)) (q0 := 0) rfl rfl rfl ⟨(Nat.le_of_ble_eq_true rfl), (Nat.le_of_ble_eq_true rfl)⟩ hkn (Nat.le_of_ble_eq_true rfl) ?_
  rintro v w1 ⟨rfl, rfl⟩
  refine J_perm (ws2 := (List.flatten [wPL cI cB cO A o1.2.1, wMO cI cB am o2.2, [(ao, .inl (cL, 1, .inr (.inl o1.2.2)))]])) (seg_split (segs := [wPL cI cB cO A o1.2.1, wMO cI cB am o2.2, [(ao, .inl (cL, 1, .inr (.inl o1.2.2)))]]) (Wc := [wMO cI cB am o2.2]) (Wr := [wPL cI cB cO A o1.2.1, [(ao, .inl (cL, 1, .inr (.inl o1.2.2)))]]) [1] [0, 2] rfl rfl 3 rfl (by decide)).symm ?_
  refine J_iload (pc := 3046) C dlw_3046 1 rfl ?_
  refine J_ic_eq (α := Unit) (o := ()) (X := some ()) (Y := none) (pc := 3048) (tgt := 3053) C dlw_3048 (by decide) (if_pos hth) (fun _ => ?_) (fun h => by cases h)
  refine J_iload (pc := 3053) C dlw_3053 1 rfl ?_
  by_cases h0 : o1.1 = 0
  · refine J_if_ne (α := Unit) (o := ()) (X := some ()) (Y := none) (pc := 3055) (tgt := 3070) C dlw_3055 (by decide) (if_pos h0) (fun h => by cases h) (fun _ => ?_)
    refine J_aload_n (pc := 3058) C dlw_3058 3 rfl ?_
    refine J_iconst (v := (0 : Int32)) (pc := 3059) C dlw_3059 (by decide) ?_
    refine J_perm (ws2 := [(ao, .inl (cL, 1, .inr (.inl o1.2.2)))] ++ List.flatten [wPL cI cB cO A o1.2.1, wMO cI cB am o2.2]) (by simpa using seg_split (segs := [wPL cI cB cO A o1.2.1, wMO cI cB am o2.2, [(ao, .inl (cL, 1, .inr (.inl o1.2.2)))]]) (Wc := [[(ao, .inl (cL, 1, .inr (.inl o1.2.2)))]]) (Wr := [wPL cI cB cO A o1.2.1, wMO cI cB am o2.2]) [2] [0, 1] rfl rfl 3 rfl (by decide)) ?_
    refine J_lald (pc := 3060) C dlw_3060 0 2 (rfl : ([(ao, .inl (cL, 1, .inr (.inl o1.2.2)))] ++ List.flatten [wPL cI cB cO A o1.2.1, wMO cI cB am o2.2] : va_W)[0]? = some (ao, .inl (cL, 1, .inr (.inl o1.2.2)))) rfl (by unfold vp_in; decide) ?_
    refine J_perm (ws2 := (List.flatten [wPL cI cB cO A o1.2.1, wMO cI cB am o2.2, [(ao, .inl (cL, 1, .inr (.inl o1.2.2)))]])) (by simpa using (seg_split (segs := [wPL cI cB cO A o1.2.1, wMO cI cB am o2.2, [(ao, .inl (cL, 1, .inr (.inl o1.2.2)))]]) (Wc := [[(ao, .inl (cL, 1, .inr (.inl o1.2.2)))]]) (Wr := [wPL cI cB cO A o1.2.1, wMO cI cB am o2.2]) [2] [0, 1] rfl rfl 3 rfl (by decide)).symm) ?_
    refine J_iload (pc := 3061) C dlw_3061 0 rfl ?_
    refine J_i2l (pc := 3063) C dlw_3063 ?_
    refine J_lcmp (pc := 3064) C dlw_3064 ?_
    refine J_if_eq (α := Unit) (o := ()) (X := some ()) (Y := none) (pc := 3065) (tgt := 3070) C dlw_3065 (by decide) (if_pos (by have hv := hval h0; rw [show (0 : Int32).toNatClampNeg = 0 from rfl, hv]; exact lg_cmp_self _)) (fun _ => ?_) (fun h => by cases h)
    refine J_goto (tgt := 3187) (pc := 3070) C dlw_3070 (by decide) ?_
    refine J_sub (lv2 := [(4, .int i), (3, .ref ao), (2, .ref (am 0)), (1, .ref (A 0 0)), (0, .ref b)]) [2, 3, 4, 5, 6] rfl ?_
    exact kx _ _ _ hRn
  · refine J_if_ne (α := Unit) (o := ()) (X := none) (Y := some ()) (pc := 3055) (tgt := 3070) C dlw_3055 (by decide) (if_neg h0) (fun _ => ?_) (fun h => by cases h)
    refine J_goto (tgt := 3187) (pc := 3070) C dlw_3070 (by decide) ?_
    refine J_sub (lv2 := [(4, .int i), (3, .ref ao), (2, .ref (am 0)), (1, .ref (A 0 0)), (0, .ref b)]) [2, 3, 4, 5, 6] rfl ?_
    exact kx _ _ _ hRn
set_option maxHeartbeats 4000000 in
set_option maxRecDepth 100000 in
theorem K_undo {p : Program} {l : Launch} {e : Env} {s : State} {m : MethodId} {below : List Frame} {meth : Method} {c : Code} {D : va_G} {cI cB cL cO : ClassId} {pf : Nat → Nat} {Q : State → Prop} {k n b L : Nat} {xs : Nat → Int32} {N : Nat} {A : Nat → Nat → Nat} {am : Nat → Nat} {ao : Nat} {i : Int32} {Rl : Nat → T_PL → T_MO → Prop} {st : T_PL} {mo : T_MO} {f : Nat → Int64} {kk : Nat} (C : jC p s m #[Value.ref b] meth c code 7 R_lawN D [(cI, .int), (cB, .byte), (cL, .long), (cO, .object RX0)] pf (fun q => s.heap.size ≤ q)) (hl : l.stackTraces = false) (hX : va_X b L xs s s.heap) (hbl : b < s.heap.size) (hbA : ¬ (fun q : Nat => s.heap.size ≤ q) b) (h1 : vp_in (i + (1 : Int32)) L) (h2 : vp_in (i + (2 : Int32)) L) (h3 : vp_in (i + (3 : Int32)) L) (h4 : vp_in (i + (4 : Int32)) L) (h5 : vp_in (i + (5 : Int32)) L) (hSt : (StA Rl (fun s f => W_undo N s f) (fun m => F_M_undo N m))) (hk : kk < 512) (hR : Rl kk st mo) (hkn : k + 4 ≤ room_1.cells ∧ n + 24 ≤ room_1.slots) (kx : ∀ st2 mo2 f2, Rl (kk + 1) st2 mo2 → J p l e room_1 s m #[Value.ref b] below meth c 7 D (fun q => s.heap.size ≤ q) Q (k + 4) (n + 24) 3187 [(4, .int i), (3, .ref ao), (2, .ref (am 0)), (1, .ref (A 0 0)), (0, .ref b)] [] (List.flatten [wPL cI cB cO A st2, wMO cI cB am mo2, [(ao, .inl (cL, 1, .inr (.inl f2)))]])) : J p l e room_1 s m #[Value.ref b] below meth c 7 D (fun q => s.heap.size ≤ q) Q (k) (n) 3073 [(4, .int i), (3, .ref ao), (2, .ref (am 0)), (1, .ref (A 0 0)), (0, .ref b)] [] (List.flatten [wPL cI cB cO A st, wMO cI cB am mo, [(ao, .inl (cL, 1, .inr (.inl f)))]]) := by
  refine J_aload_n (pc := 3073) C dlw_3073 3 rfl ?_
  refine J_aload_n (pc := 3074) C dlw_3074 1 rfl ?_
  obtain ⟨o1, o2, e1, e2, hth, hval, hRn⟩ := hSt kk st mo f hk hR
  refine J_csH (pc := 3075) (As := [.ref (A 0 0), .ref ao]) (st := []) C dlw_3075 ml_L_326 wh_undo (V_undo l hl D cI cB cL cO pf N A ao st f o1 e1) (List.flatten [wMO cI cB am mo]) (seg_split (segs := [wPL cI cB cO A st, wMO cI cB am mo, [(ao, .inl (cL, 1, .inr (.inl f)))]]) (Wc := [wPL cI cB cO A st, [(ao, .inl (cL, 1, .inr (.inl f)))]]) (Wr := [wMO cI cB am mo]) [0, 2] [1] rfl rfl 3 rfl (by decide)) rfl ⟨(Nat.le_of_ble_eq_true rfl), (Nat.le_of_ble_eq_true rfl)⟩ ⟨Nat.le_trans (Nat.add_le_add_left (Nat.le_of_ble_eq_true rfl) _) hkn.1, Nat.le_trans (Nat.add_le_add_left (Nat.le_of_ble_eq_true rfl) _) hkn.2⟩ (Nat.le_of_ble_eq_true rfl) ?_
  rintro v w1 ⟨rfl, rfl⟩
  refine J_perm (ws2 := (List.flatten [wPL cI cB cO A o1.2.1, wMO cI cB am mo, [(ao, .inl (cL, 1, .inr (.inl o1.2.2)))]])) (seg_split (segs := [wPL cI cB cO A o1.2.1, wMO cI cB am mo, [(ao, .inl (cL, 1, .inr (.inl o1.2.2)))]]) (Wc := [wPL cI cB cO A o1.2.1, [(ao, .inl (cL, 1, .inr (.inl o1.2.2)))]]) (Wr := [wMO cI cB am mo]) [0, 2] [1] rfl rfl 3 rfl (by decide)).symm ?_
  refine J_widen (k2 := k + 4) (n2 := n + 24) (Nat.add_le_add_left (Nat.le_of_ble_eq_true rfl) _) (Nat.add_le_add_left (Nat.le_of_ble_eq_true rfl) _) ?_
  refine J_istore (lv2 := [(5, .int o1.1), (4, .int i), (3, .ref ao), (2, .ref (am 0)), (1, .ref (A 0 0)), (0, .ref b)]) (pc := 3078) C dlw_3078 (by decide) rfl ?_
  refine J_aload_n (pc := 3080) C dlw_3080 3 rfl ?_
  refine J_cvF (pc := 3081) (As := []) (st := []) C dlw_3081 ml_L_328 mi_yX11_undo (C_M_undo l D cI cB cL cO pf N am mo o2 e2) (List.flatten [wPL cI cB cO A o1.2.1, [(ao, .inl (cL, 1, .inr (.inl o1.2.2)))]]) (seg_split (segs := [wPL cI cB cO A o1.2.1, wMO cI cB am mo, [(ao, .inl (cL, 1, .inr (.inl o1.2.2)))]]) (Wc := [wMO cI cB am mo]) (Wr := [wPL cI cB cO A o1.2.1, [(ao, .inl (cL, 1, .inr (.inl o1.2.2)))]]) [1] [0, 2] rfl rfl 3 rfl (by decide)) (q0 := 0) rfl rfl rfl ⟨(Nat.le_of_ble_eq_true rfl), (Nat.le_of_ble_eq_true rfl)⟩ hkn (Nat.le_of_ble_eq_true rfl) ?_
  rintro v w1 ⟨rfl, rfl⟩
  refine J_perm (ws2 := (List.flatten [wPL cI cB cO A o1.2.1, wMO cI cB am o2.2, [(ao, .inl (cL, 1, .inr (.inl o1.2.2)))]])) (seg_split (segs := [wPL cI cB cO A o1.2.1, wMO cI cB am o2.2, [(ao, .inl (cL, 1, .inr (.inl o1.2.2)))]]) (Wc := [wMO cI cB am o2.2]) (Wr := [wPL cI cB cO A o1.2.1, [(ao, .inl (cL, 1, .inr (.inl o1.2.2)))]]) [1] [0, 2] rfl rfl 3 rfl (by decide)).symm ?_
  refine J_istore (lv2 := [(6, .int o2.1), (5, .int o1.1), (4, .int i), (3, .ref ao), (2, .ref (am 0)), (1, .ref (A 0 0)), (0, .ref b)]) (pc := 3084) C dlw_3084 (by decide) rfl ?_
  refine J_aload_n (pc := 3086) C dlw_3086 4 rfl ?_
  refine J_cvF (pc := 3087) (As := []) (st := []) C dlw_3087 ml_L_170 mi_yX11_thrown (C_M_thrown l D cI cB cL cO pf N am o2.2 o2.2.1 rfl) (List.flatten [wPL cI cB cO A o1.2.1, [(ao, .inl (cL, 1, .inr (.inl o1.2.2)))]]) (seg_split (segs := [wPL cI cB cO A o1.2.1, wMO cI cB am o2.2, [(ao, .inl (cL, 1, .inr (.inl o1.2.2)))]]) (Wc := [wMO cI cB am o2.2]) (Wr := [wPL cI cB cO A o1.2.1, [(ao, .inl (cL, 1, .inr (.inl o1.2.2)))]]) [1] [0, 2] rfl rfl 3 rfl (by decide)) (q0 := 0) rfl rfl rfl ⟨(Nat.le_of_ble_eq_true rfl), (Nat.le_of_ble_eq_true rfl)⟩ hkn (Nat.le_of_ble_eq_true rfl) ?_
  rintro v w1 ⟨rfl, rfl⟩
  refine J_perm (ws2 := (List.flatten [wPL cI cB cO A o1.2.1, wMO cI cB am o2.2, [(ao, .inl (cL, 1, .inr (.inl o1.2.2)))]])) (seg_split (segs := [wPL cI cB cO A o1.2.1, wMO cI cB am o2.2, [(ao, .inl (cL, 1, .inr (.inl o1.2.2)))]]) (Wc := [wMO cI cB am o2.2]) (Wr := [wPL cI cB cO A o1.2.1, [(ao, .inl (cL, 1, .inr (.inl o1.2.2)))]]) [1] [0, 2] rfl rfl 3 rfl (by decide)).symm ?_
  refine J_iload (pc := 3090) C dlw_3090 1 rfl ?_
  refine J_ic_eq (α := Unit) (o := ()) (X := some ()) (Y := none) (pc := 3092) (tgt := 3097) C dlw_3092 (by decide) (if_pos hth) (fun _ => ?_) (fun h => by cases h)
  refine J_iload (pc := 3097) C dlw_3097 1 rfl ?_
  by_cases h0 : o1.1 = 0
  · refine J_if_ne (α := Unit) (o := ()) (X := some ()) (Y := none) (pc := 3099) (tgt := 3114) C dlw_3099 (by decide) (if_pos h0) (fun h => by cases h) (fun _ => ?_)
    refine J_aload_n (pc := 3102) C dlw_3102 3 rfl ?_
    refine J_iconst (v := (0 : Int32)) (pc := 3103) C dlw_3103 (by decide) ?_
    refine J_perm (ws2 := [(ao, .inl (cL, 1, .inr (.inl o1.2.2)))] ++ List.flatten [wPL cI cB cO A o1.2.1, wMO cI cB am o2.2]) (by simpa using seg_split (segs := [wPL cI cB cO A o1.2.1, wMO cI cB am o2.2, [(ao, .inl (cL, 1, .inr (.inl o1.2.2)))]]) (Wc := [[(ao, .inl (cL, 1, .inr (.inl o1.2.2)))]]) (Wr := [wPL cI cB cO A o1.2.1, wMO cI cB am o2.2]) [2] [0, 1] rfl rfl 3 rfl (by decide)) ?_
    refine J_lald (pc := 3104) C dlw_3104 0 2 (rfl : ([(ao, .inl (cL, 1, .inr (.inl o1.2.2)))] ++ List.flatten [wPL cI cB cO A o1.2.1, wMO cI cB am o2.2] : va_W)[0]? = some (ao, .inl (cL, 1, .inr (.inl o1.2.2)))) rfl (by unfold vp_in; decide) ?_
    refine J_perm (ws2 := (List.flatten [wPL cI cB cO A o1.2.1, wMO cI cB am o2.2, [(ao, .inl (cL, 1, .inr (.inl o1.2.2)))]])) (by simpa using (seg_split (segs := [wPL cI cB cO A o1.2.1, wMO cI cB am o2.2, [(ao, .inl (cL, 1, .inr (.inl o1.2.2)))]]) (Wc := [[(ao, .inl (cL, 1, .inr (.inl o1.2.2)))]]) (Wr := [wPL cI cB cO A o1.2.1, wMO cI cB am o2.2]) [2] [0, 1] rfl rfl 3 rfl (by decide)).symm) ?_
    refine J_iload (pc := 3105) C dlw_3105 0 rfl ?_
    refine J_i2l (pc := 3107) C dlw_3107 ?_
    refine J_lcmp (pc := 3108) C dlw_3108 ?_
    refine J_if_eq (α := Unit) (o := ()) (X := some ()) (Y := none) (pc := 3109) (tgt := 3114) C dlw_3109 (by decide) (if_pos (by have hv := hval h0; rw [show (0 : Int32).toNatClampNeg = 0 from rfl, hv]; exact lg_cmp_self _)) (fun _ => ?_) (fun h => by cases h)
    refine J_goto (tgt := 3187) (pc := 3114) C dlw_3114 (by decide) ?_
    refine J_sub (lv2 := [(4, .int i), (3, .ref ao), (2, .ref (am 0)), (1, .ref (A 0 0)), (0, .ref b)]) [2, 3, 4, 5, 6] rfl ?_
    exact kx _ _ _ hRn
  · refine J_if_ne (α := Unit) (o := ()) (X := none) (Y := some ()) (pc := 3099) (tgt := 3114) C dlw_3099 (by decide) (if_neg h0) (fun _ => ?_) (fun h => by cases h)
    refine J_goto (tgt := 3187) (pc := 3114) C dlw_3114 (by decide) ?_
    refine J_sub (lv2 := [(4, .int i), (3, .ref ao), (2, .ref (am 0)), (1, .ref (A 0 0)), (0, .ref b)]) [2, 3, 4, 5, 6] rfl ?_
    exact kx _ _ _ hRn
set_option maxHeartbeats 4000000 in
set_option maxRecDepth 100000 in
theorem K_undoCount {p : Program} {l : Launch} {e : Env} {s : State} {m : MethodId} {below : List Frame} {meth : Method} {c : Code} {D : va_G} {cI cB cL cO : ClassId} {pf : Nat → Nat} {Q : State → Prop} {k n b L : Nat} {xs : Nat → Int32} {N : Nat} {A : Nat → Nat → Nat} {am : Nat → Nat} {ao : Nat} {i : Int32} {Rl : Nat → T_PL → T_MO → Prop} {st : T_PL} {mo : T_MO} {f : Nat → Int64} {kk : Nat} (C : jC p s m #[Value.ref b] meth c code 7 R_lawN D [(cI, .int), (cB, .byte), (cL, .long), (cO, .object RX0)] pf (fun q => s.heap.size ≤ q)) (hl : l.stackTraces = false) (hX : va_X b L xs s s.heap) (hbl : b < s.heap.size) (hbA : ¬ (fun q : Nat => s.heap.size ≤ q) b) (h1 : vp_in (i + (1 : Int32)) L) (h2 : vp_in (i + (2 : Int32)) L) (h3 : vp_in (i + (3 : Int32)) L) (h4 : vp_in (i + (4 : Int32)) L) (h5 : vp_in (i + (5 : Int32)) L) (hSt : (StB Rl (fun s => P_undoCount N s) (fun m => F_M_undoCount N m))) (hk : kk < 512) (hR : Rl kk st mo) (hkn : k + 4 ≤ room_1.cells ∧ n + 24 ≤ room_1.slots) (kx : ∀ st2 mo2 f2, Rl (kk + 1) st2 mo2 → J p l e room_1 s m #[Value.ref b] below meth c 7 D (fun q => s.heap.size ≤ q) Q (k + 4) (n + 24) 3187 [(4, .int i), (3, .ref ao), (2, .ref (am 0)), (1, .ref (A 0 0)), (0, .ref b)] [] (List.flatten [wPL cI cB cO A st2, wMO cI cB am mo2, [(ao, .inl (cL, 1, .inr (.inl f2)))]])) : J p l e room_1 s m #[Value.ref b] below meth c 7 D (fun q => s.heap.size ≤ q) Q (k) (n) 3117 [(4, .int i), (3, .ref ao), (2, .ref (am 0)), (1, .ref (A 0 0)), (0, .ref b)] [] (List.flatten [wPL cI cB cO A st, wMO cI cB am mo, [(ao, .inl (cL, 1, .inr (.inl f)))]]) := by
  refine J_aload_n (pc := 3117) C dlw_3117 3 rfl ?_
  obtain ⟨o1, o2, e1, e2, hth, hRn⟩ := hSt kk st mo hk hR
  refine J_cvF (pc := 3118) (As := []) (st := []) C dlw_3118 ml_L_329 mi_yX10_undoCount (Q_undoCount l D cI cB cL cO pf N A st o1 e1) (List.flatten [wMO cI cB am mo, [(ao, .inl (cL, 1, .inr (.inl f)))]]) (List.Perm.refl _) at_this rfl rfl ⟨(Nat.le_of_ble_eq_true rfl), (Nat.le_of_ble_eq_true rfl)⟩ ⟨Nat.le_trans (Nat.le_add_right _ 4) hkn.1, Nat.le_trans (Nat.le_add_right _ 24) hkn.2⟩ (Nat.le_of_ble_eq_true rfl) ?_
  rintro v w1 ⟨rfl, rfl⟩
  refine J_ws (ws2 := (List.flatten [wPL cI cB cO A o1.2, wMO cI cB am mo, [(ao, .inl (cL, 1, .inr (.inl f)))]])) rfl ?_
  refine J_widen (k2 := k + 4) (n2 := n + 24) (Nat.le_add_right _ 4) (Nat.le_add_right _ 24) ?_
  refine J_aload_n (pc := 3121) C dlw_3121 2 rfl ?_
  refine J_cvF (pc := 3122) (As := []) (st := [.int o1.1]) C dlw_3122 ml_L_332 mi_yX11_undoCount (C_M_undoCount l D cI cB cL cO pf N am mo o2 e2) (List.flatten [wPL cI cB cO A o1.2, [(ao, .inl (cL, 1, .inr (.inl f)))]]) (seg_split (segs := [wPL cI cB cO A o1.2, wMO cI cB am mo, [(ao, .inl (cL, 1, .inr (.inl f)))]]) (Wc := [wMO cI cB am mo]) (Wr := [wPL cI cB cO A o1.2, [(ao, .inl (cL, 1, .inr (.inl f)))]]) [1] [0, 2] rfl rfl 3 rfl (by decide)) (q0 := 0) rfl rfl rfl ⟨(Nat.le_of_ble_eq_true rfl), (Nat.le_of_ble_eq_true rfl)⟩ hkn (Nat.le_of_ble_eq_true rfl) ?_
  rintro v w1 ⟨rfl, rfl⟩
  refine J_perm (ws2 := (List.flatten [wPL cI cB cO A o1.2, wMO cI cB am o2.2, [(ao, .inl (cL, 1, .inr (.inl f)))]])) (seg_split (segs := [wPL cI cB cO A o1.2, wMO cI cB am o2.2, [(ao, .inl (cL, 1, .inr (.inl f)))]]) (Wc := [wMO cI cB am o2.2]) (Wr := [wPL cI cB cO A o1.2, [(ao, .inl (cL, 1, .inr (.inl f)))]]) [1] [0, 2] rfl rfl 3 rfl (by decide)).symm ?_
  refine J_ic_eq (α := Unit) (o := ()) (X := some ()) (Y := none) (pc := 3125) (tgt := 3187) C dlw_3125 (by decide) (if_pos hth) (fun _ => ?_) (fun h => by cases h)
  exact kx _ _ _ hRn
set_option maxHeartbeats 4000000 in
set_option maxRecDepth 100000 in
theorem K_save {p : Program} {l : Launch} {e : Env} {s : State} {m : MethodId} {below : List Frame} {meth : Method} {c : Code} {D : va_G} {cI cB cL cO : ClassId} {pf : Nat → Nat} {Q : State → Prop} {k n b L : Nat} {xs : Nat → Int32} {N : Nat} {A : Nat → Nat → Nat} {am : Nat → Nat} {ao : Nat} {i : Int32} {Rl : Nat → T_PL → T_MO → Prop} {st : T_PL} {mo : T_MO} {f : Nat → Int64} {kk : Nat} (C : jC p s m #[Value.ref b] meth c code 7 R_lawN D [(cI, .int), (cB, .byte), (cL, .long), (cO, .object RX0)] pf (fun q => s.heap.size ≤ q)) (hl : l.stackTraces = false) (hX : va_X b L xs s s.heap) (hbl : b < s.heap.size) (hbA : ¬ (fun q : Nat => s.heap.size ≤ q) b) (h1 : vp_in (i + (1 : Int32)) L) (h2 : vp_in (i + (2 : Int32)) L) (h3 : vp_in (i + (3 : Int32)) L) (h4 : vp_in (i + (4 : Int32)) L) (h5 : vp_in (i + (5 : Int32)) L) (hSt : (StB Rl (fun s => P_save N s) (fun m => F_M_save N m))) (hk : kk < 512) (hR : Rl kk st mo) (hkn : k + 4 ≤ room_1.cells ∧ n + 24 ≤ room_1.slots) (kx : ∀ st2 mo2 f2, Rl (kk + 1) st2 mo2 → J p l e room_1 s m #[Value.ref b] below meth c 7 D (fun q => s.heap.size ≤ q) Q (k + 4) (n + 24) 3187 [(4, .int i), (3, .ref ao), (2, .ref (am 0)), (1, .ref (A 0 0)), (0, .ref b)] [] (List.flatten [wPL cI cB cO A st2, wMO cI cB am mo2, [(ao, .inl (cL, 1, .inr (.inl f2)))]])) : J p l e room_1 s m #[Value.ref b] below meth c 7 D (fun q => s.heap.size ≤ q) Q (k) (n) 3130 [(4, .int i), (3, .ref ao), (2, .ref (am 0)), (1, .ref (A 0 0)), (0, .ref b)] [] (List.flatten [wPL cI cB cO A st, wMO cI cB am mo, [(ao, .inl (cL, 1, .inr (.inl f)))]]) := by
  refine J_aload_n (pc := 3130) C dlw_3130 3 rfl ?_
  obtain ⟨o1, o2, e1, e2, hth, hRn⟩ := hSt kk st mo hk hR
  refine J_cvF (pc := 3131) (As := []) (st := []) C dlw_3131 ml_L_333 mi_yX10_save (Q_save l D cI cB cL cO pf N A st o1 e1) (List.flatten [wMO cI cB am mo, [(ao, .inl (cL, 1, .inr (.inl f)))]]) (List.Perm.refl _) at_this rfl rfl ⟨(Nat.le_of_ble_eq_true rfl), (Nat.le_of_ble_eq_true rfl)⟩ ⟨Nat.le_trans (Nat.le_add_right _ 4) hkn.1, Nat.le_trans (Nat.le_add_right _ 24) hkn.2⟩ (Nat.le_of_ble_eq_true rfl) ?_
  rintro v w1 ⟨rfl, rfl⟩
  refine J_ws (ws2 := (List.flatten [wPL cI cB cO A o1.2, wMO cI cB am mo, [(ao, .inl (cL, 1, .inr (.inl f)))]])) rfl ?_
  refine J_widen (k2 := k + 4) (n2 := n + 24) (Nat.le_add_right _ 4) (Nat.le_add_right _ 24) ?_
  refine J_aload_n (pc := 3134) C dlw_3134 2 rfl ?_
  refine J_cvF (pc := 3135) (As := []) (st := [.int o1.1]) C dlw_3135 ml_L_336 mi_yX11_save (C_M_save l D cI cB cL cO pf N am mo o2 e2) (List.flatten [wPL cI cB cO A o1.2, [(ao, .inl (cL, 1, .inr (.inl f)))]]) (seg_split (segs := [wPL cI cB cO A o1.2, wMO cI cB am mo, [(ao, .inl (cL, 1, .inr (.inl f)))]]) (Wc := [wMO cI cB am mo]) (Wr := [wPL cI cB cO A o1.2, [(ao, .inl (cL, 1, .inr (.inl f)))]]) [1] [0, 2] rfl rfl 3 rfl (by decide)) (q0 := 0) rfl rfl rfl ⟨(Nat.le_of_ble_eq_true rfl), (Nat.le_of_ble_eq_true rfl)⟩ hkn (Nat.le_of_ble_eq_true rfl) ?_
  rintro v w1 ⟨rfl, rfl⟩
  refine J_perm (ws2 := (List.flatten [wPL cI cB cO A o1.2, wMO cI cB am o2.2, [(ao, .inl (cL, 1, .inr (.inl f)))]])) (seg_split (segs := [wPL cI cB cO A o1.2, wMO cI cB am o2.2, [(ao, .inl (cL, 1, .inr (.inl f)))]]) (Wc := [wMO cI cB am o2.2]) (Wr := [wPL cI cB cO A o1.2, [(ao, .inl (cL, 1, .inr (.inl f)))]]) [1] [0, 2] rfl rfl 3 rfl (by decide)).symm ?_
  refine J_ic_eq (α := Unit) (o := ()) (X := some ()) (Y := none) (pc := 3138) (tgt := 3187) C dlw_3138 (by decide) (if_pos hth) (fun _ => ?_) (fun h => by cases h)
  exact kx _ _ _ hRn
set_option maxHeartbeats 4000000 in
set_option maxRecDepth 100000 in
theorem K_restore {p : Program} {l : Launch} {e : Env} {s : State} {m : MethodId} {below : List Frame} {meth : Method} {c : Code} {D : va_G} {cI cB cL cO : ClassId} {pf : Nat → Nat} {Q : State → Prop} {k n b L : Nat} {xs : Nat → Int32} {N : Nat} {A : Nat → Nat → Nat} {am : Nat → Nat} {ao : Nat} {i : Int32} {Rl : Nat → T_PL → T_MO → Prop} {st : T_PL} {mo : T_MO} {f : Nat → Int64} {kk : Nat} (C : jC p s m #[Value.ref b] meth c code 7 R_lawN D [(cI, .int), (cB, .byte), (cL, .long), (cO, .object RX0)] pf (fun q => s.heap.size ≤ q)) (hl : l.stackTraces = false) (hX : va_X b L xs s s.heap) (hbl : b < s.heap.size) (hbA : ¬ (fun q : Nat => s.heap.size ≤ q) b) (h1 : vp_in (i + (1 : Int32)) L) (h2 : vp_in (i + (2 : Int32)) L) (h3 : vp_in (i + (3 : Int32)) L) (h4 : vp_in (i + (4 : Int32)) L) (h5 : vp_in (i + (5 : Int32)) L) (hSt : (StA Rl (fun s f => W_restore N s f) (fun m => F_M_restore N m))) (hk : kk < 512) (hR : Rl kk st mo) (hkn : k + 4 ≤ room_1.cells ∧ n + 24 ≤ room_1.slots) (kx : ∀ st2 mo2 f2, Rl (kk + 1) st2 mo2 → J p l e room_1 s m #[Value.ref b] below meth c 7 D (fun q => s.heap.size ≤ q) Q (k + 4) (n + 24) 3187 [(4, .int i), (3, .ref ao), (2, .ref (am 0)), (1, .ref (A 0 0)), (0, .ref b)] [] (List.flatten [wPL cI cB cO A st2, wMO cI cB am mo2, [(ao, .inl (cL, 1, .inr (.inl f2)))]])) : J p l e room_1 s m #[Value.ref b] below meth c 7 D (fun q => s.heap.size ≤ q) Q (k) (n) 3143 [(4, .int i), (3, .ref ao), (2, .ref (am 0)), (1, .ref (A 0 0)), (0, .ref b)] [] (List.flatten [wPL cI cB cO A st, wMO cI cB am mo, [(ao, .inl (cL, 1, .inr (.inl f)))]]) := by
  refine J_aload_n (pc := 3143) C dlw_3143 3 rfl ?_
  refine J_aload_n (pc := 3144) C dlw_3144 1 rfl ?_
  obtain ⟨o1, o2, e1, e2, hth, hval, hRn⟩ := hSt kk st mo f hk hR
  refine J_csH (pc := 3145) (As := [.ref (A 0 0), .ref ao]) (st := []) C dlw_3145 ml_L_337 wh_restore (V_restore l hl D cI cB cL cO pf N A ao st f o1 e1) (List.flatten [wMO cI cB am mo]) (seg_split (segs := [wPL cI cB cO A st, wMO cI cB am mo, [(ao, .inl (cL, 1, .inr (.inl f)))]]) (Wc := [wPL cI cB cO A st, [(ao, .inl (cL, 1, .inr (.inl f)))]]) (Wr := [wMO cI cB am mo]) [0, 2] [1] rfl rfl 3 rfl (by decide)) rfl ⟨(Nat.le_of_ble_eq_true rfl), (Nat.le_of_ble_eq_true rfl)⟩ ⟨Nat.le_trans (Nat.add_le_add_left (Nat.le_of_ble_eq_true rfl) _) hkn.1, Nat.le_trans (Nat.add_le_add_left (Nat.le_of_ble_eq_true rfl) _) hkn.2⟩ (Nat.le_of_ble_eq_true rfl) ?_
  rintro v w1 ⟨rfl, rfl⟩
  refine J_perm (ws2 := (List.flatten [wPL cI cB cO A o1.2.1, wMO cI cB am mo, [(ao, .inl (cL, 1, .inr (.inl o1.2.2)))]])) (seg_split (segs := [wPL cI cB cO A o1.2.1, wMO cI cB am mo, [(ao, .inl (cL, 1, .inr (.inl o1.2.2)))]]) (Wc := [wPL cI cB cO A o1.2.1, [(ao, .inl (cL, 1, .inr (.inl o1.2.2)))]]) (Wr := [wMO cI cB am mo]) [0, 2] [1] rfl rfl 3 rfl (by decide)).symm ?_
  refine J_widen (k2 := k + 4) (n2 := n + 24) (Nat.add_le_add_left (Nat.le_of_ble_eq_true rfl) _) (Nat.add_le_add_left (Nat.le_of_ble_eq_true rfl) _) ?_
  refine J_istore (lv2 := [(5, .int o1.1), (4, .int i), (3, .ref ao), (2, .ref (am 0)), (1, .ref (A 0 0)), (0, .ref b)]) (pc := 3148) C dlw_3148 (by decide) rfl ?_
  refine J_aload_n (pc := 3150) C dlw_3150 3 rfl ?_
  refine J_cvF (pc := 3151) (As := []) (st := []) C dlw_3151 ml_L_339 mi_yX11_restore (C_M_restore l D cI cB cL cO pf N am mo o2 e2) (List.flatten [wPL cI cB cO A o1.2.1, [(ao, .inl (cL, 1, .inr (.inl o1.2.2)))]]) (seg_split (segs := [wPL cI cB cO A o1.2.1, wMO cI cB am mo, [(ao, .inl (cL, 1, .inr (.inl o1.2.2)))]]) (Wc := [wMO cI cB am mo]) (Wr := [wPL cI cB cO A o1.2.1, [(ao, .inl (cL, 1, .inr (.inl o1.2.2)))]]) [1] [0, 2] rfl rfl 3 rfl (by decide)) (q0 := 0) rfl rfl rfl ⟨(Nat.le_of_ble_eq_true rfl), (Nat.le_of_ble_eq_true rfl)⟩ hkn (Nat.le_of_ble_eq_true rfl) ?_
  rintro v w1 ⟨rfl, rfl⟩
  refine J_perm (ws2 := (List.flatten [wPL cI cB cO A o1.2.1, wMO cI cB am o2.2, [(ao, .inl (cL, 1, .inr (.inl o1.2.2)))]])) (seg_split (segs := [wPL cI cB cO A o1.2.1, wMO cI cB am o2.2, [(ao, .inl (cL, 1, .inr (.inl o1.2.2)))]]) (Wc := [wMO cI cB am o2.2]) (Wr := [wPL cI cB cO A o1.2.1, [(ao, .inl (cL, 1, .inr (.inl o1.2.2)))]]) [1] [0, 2] rfl rfl 3 rfl (by decide)).symm ?_
  refine J_istore (lv2 := [(6, .int o2.1), (5, .int o1.1), (4, .int i), (3, .ref ao), (2, .ref (am 0)), (1, .ref (A 0 0)), (0, .ref b)]) (pc := 3154) C dlw_3154 (by decide) rfl ?_
  refine J_aload_n (pc := 3156) C dlw_3156 4 rfl ?_
  refine J_cvF (pc := 3157) (As := []) (st := []) C dlw_3157 ml_L_170 mi_yX11_thrown (C_M_thrown l D cI cB cL cO pf N am o2.2 o2.2.1 rfl) (List.flatten [wPL cI cB cO A o1.2.1, [(ao, .inl (cL, 1, .inr (.inl o1.2.2)))]]) (seg_split (segs := [wPL cI cB cO A o1.2.1, wMO cI cB am o2.2, [(ao, .inl (cL, 1, .inr (.inl o1.2.2)))]]) (Wc := [wMO cI cB am o2.2]) (Wr := [wPL cI cB cO A o1.2.1, [(ao, .inl (cL, 1, .inr (.inl o1.2.2)))]]) [1] [0, 2] rfl rfl 3 rfl (by decide)) (q0 := 0) rfl rfl rfl ⟨(Nat.le_of_ble_eq_true rfl), (Nat.le_of_ble_eq_true rfl)⟩ hkn (Nat.le_of_ble_eq_true rfl) ?_
  rintro v w1 ⟨rfl, rfl⟩
  refine J_perm (ws2 := (List.flatten [wPL cI cB cO A o1.2.1, wMO cI cB am o2.2, [(ao, .inl (cL, 1, .inr (.inl o1.2.2)))]])) (seg_split (segs := [wPL cI cB cO A o1.2.1, wMO cI cB am o2.2, [(ao, .inl (cL, 1, .inr (.inl o1.2.2)))]]) (Wc := [wMO cI cB am o2.2]) (Wr := [wPL cI cB cO A o1.2.1, [(ao, .inl (cL, 1, .inr (.inl o1.2.2)))]]) [1] [0, 2] rfl rfl 3 rfl (by decide)).symm ?_
  refine J_iload (pc := 3160) C dlw_3160 1 rfl ?_
  refine J_ic_eq (α := Unit) (o := ()) (X := some ()) (Y := none) (pc := 3162) (tgt := 3167) C dlw_3162 (by decide) (if_pos hth) (fun _ => ?_) (fun h => by cases h)
  refine J_iload (pc := 3167) C dlw_3167 1 rfl ?_
  by_cases h0 : o1.1 = 0
  · refine J_if_ne (α := Unit) (o := ()) (X := some ()) (Y := none) (pc := 3169) (tgt := 3184) C dlw_3169 (by decide) (if_pos h0) (fun h => by cases h) (fun _ => ?_)
    refine J_aload_n (pc := 3172) C dlw_3172 3 rfl ?_
    refine J_iconst (v := (0 : Int32)) (pc := 3173) C dlw_3173 (by decide) ?_
    refine J_perm (ws2 := [(ao, .inl (cL, 1, .inr (.inl o1.2.2)))] ++ List.flatten [wPL cI cB cO A o1.2.1, wMO cI cB am o2.2]) (by simpa using seg_split (segs := [wPL cI cB cO A o1.2.1, wMO cI cB am o2.2, [(ao, .inl (cL, 1, .inr (.inl o1.2.2)))]]) (Wc := [[(ao, .inl (cL, 1, .inr (.inl o1.2.2)))]]) (Wr := [wPL cI cB cO A o1.2.1, wMO cI cB am o2.2]) [2] [0, 1] rfl rfl 3 rfl (by decide)) ?_
    refine J_lald (pc := 3174) C dlw_3174 0 2 (rfl : ([(ao, .inl (cL, 1, .inr (.inl o1.2.2)))] ++ List.flatten [wPL cI cB cO A o1.2.1, wMO cI cB am o2.2] : va_W)[0]? = some (ao, .inl (cL, 1, .inr (.inl o1.2.2)))) rfl (by unfold vp_in; decide) ?_
    refine J_perm (ws2 := (List.flatten [wPL cI cB cO A o1.2.1, wMO cI cB am o2.2, [(ao, .inl (cL, 1, .inr (.inl o1.2.2)))]])) (by simpa using (seg_split (segs := [wPL cI cB cO A o1.2.1, wMO cI cB am o2.2, [(ao, .inl (cL, 1, .inr (.inl o1.2.2)))]]) (Wc := [[(ao, .inl (cL, 1, .inr (.inl o1.2.2)))]]) (Wr := [wPL cI cB cO A o1.2.1, wMO cI cB am o2.2]) [2] [0, 1] rfl rfl 3 rfl (by decide)).symm) ?_
    refine J_iload (pc := 3175) C dlw_3175 0 rfl ?_
    refine J_i2l (pc := 3177) C dlw_3177 ?_
    refine J_lcmp (pc := 3178) C dlw_3178 ?_
    refine J_if_eq (α := Unit) (o := ()) (X := some ()) (Y := none) (pc := 3179) (tgt := 3184) C dlw_3179 (by decide) (if_pos (by have hv := hval h0; rw [show (0 : Int32).toNatClampNeg = 0 from rfl, hv]; exact lg_cmp_self _)) (fun _ => ?_) (fun h => by cases h)
    refine J_goto (tgt := 3187) (pc := 3184) C dlw_3184 (by decide) ?_
    refine J_sub (lv2 := [(4, .int i), (3, .ref ao), (2, .ref (am 0)), (1, .ref (A 0 0)), (0, .ref b)]) [2, 3, 4, 5, 6] rfl ?_
    exact kx _ _ _ hRn
  · refine J_if_ne (α := Unit) (o := ()) (X := none) (Y := some ()) (pc := 3169) (tgt := 3184) C dlw_3169 (by decide) (if_neg h0) (fun _ => ?_) (fun h => by cases h)
    refine J_goto (tgt := 3187) (pc := 3184) C dlw_3184 (by decide) ?_
    refine J_sub (lv2 := [(4, .int i), (3, .ref ao), (2, .ref (am 0)), (1, .ref (A 0 0)), (0, .ref b)]) [2, 3, 4, 5, 6] rfl ?_
    exact kx _ _ _ hRn
