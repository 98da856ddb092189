theorem T_debt {N : Nat} (hN : 600000 < N) (x1 : Int32) : StA RlW (fun s f => W_debt N s f x1) (fun m => F_M_debt N m x1) := by
  intro k s m f hk HR
  obtain ⟨inp, se, dr, rdr, b, c, hi, ck⟩ := s
  obtain ⟨th, ch, ik, len, pa_, tok, err, hti, see, rk, bl, fx, rdd, le, ler, so, sor, wh, whr, now, kept, past, buf⟩ := m
  obtain ⟨v, R⟩ := HR
  have R : RlC v k inp se b c hi ck ch ik len fx le so wh now kept past buf := R
  have HR0 : RlW k (inp, se, dr, rdr, b, c, hi, ck) (th, ch, ik, len, pa_, tok, err, hti, see, rk, bl, fx, rdd, le, ler, so, sor, wh, whr, now, kept, past, buf) := ⟨v, R⟩
  obtain ⟨hV, hM, hS, hNM, hIN, hB, hK, hH⟩ := R
  have hv3 := hV.1.2.2.2.2.1
  have hv4 := hV.1.2.2.2.2.2
  have hv1 := hV.1.2.2.1
  have hSs : SC v (inp, se, dr, rdr, b, c, hi, ck).2.1 := hS
  have hK' : (ck = 0 ∧ ik = 0) ∨ (ck = 1 ∧ ik = 1 ∧ BRL v (k + 1) c kept) := hK.imp id (fun x => ⟨x.1, x.2.1, BRL_mono x.2.2 (Nat.le_succ k)⟩)
  obtain ⟨d, E, Lg, c0, dy, db, rd, ⟨a1, a2⟩, ⟨a3, a4, a5⟩, ⟨H1, H2, H3⟩, ⟨HL, HLm⟩, H4, H5, H6, H7⟩ := hB.1
  by_cases h1 : outN x1 (v 3)
  · have hP : P_debt N (inp, se, dr, rdr, b, c, hi, ck) x1 = some (4, 0, (inp, se, dr, rdr, b, c, hi, ck)) := by
      unfold P_debt
      rw [mem_out hSs h1 N]; rfl
    have hG : F_M_debt N (th, ch, ik, len, pa_, tok, err, hti, see, rk, bl, fx, rdd, le, ler, so, sor, wh, whr, now, kept, past, buf) x1 = some (0, ((1 : Int32), ch, ik, len, pa_, tok, err, hti, see, rk, bl, fx, rdd, le, ler, so, sor, wh, whr, now, kept, past, buf)) := by
      unfold F_M_debt
      dsimp only
      unfold f_X11_debt
      rw [M_lacksMember x1 (n := v 3) (by omega) (hM 3 (by omega)), if_pos h1]; rfl
    exact fin_no (c := 1) (by dsimp only; unfold W_debt; rw [hP]; rfl) (by decide) hG rfl (RlW_thrown HR0 1)
  have h1' := h1
  obtain ⟨m, hm3, rfl⟩ := outN_not (by omega) h1
  have hm12 : m < 12 := by omega
  have e1 : (18 : Int32) + nI m = nI (18 + m) := nI_add 18 m
  have gm := grd (i := 18 + m) (n := 72470) (by omega) (by decide)
  have hP : P_debt N (inp, se, dr, rdr, b, c, hi, ck) (nI m) = some (0, nI (db m), (inp, se, dr, rdr, b, c, hi, ck)) := by
    unfold P_debt
    rw [mem_in hSs h1' N, Option.bind_some, if_pos rfl]
    dsimp only
    unfold F_B_debtOf f_X0_debtOf
    rw [X6_at_in _ h12 hm12, (H7.1 m hm12).1]; rfl
  have hG : F_M_debt N (th, ch, ik, len, pa_, tok, err, hti, see, rk, bl, fx, rdd, le, ler, so, sor, wh, whr, now, kept, past, buf) (nI m) = some (nI (db m), ((0 : Int32), ch, ik, len, pa_, tok, err, hti, see, rk, bl, fx, rdd, le, ler, so, sor, wh, whr, now, kept, past, buf)) := by
    unfold F_M_debt
    dsimp only
    unfold f_X11_debt
    rw [M_lacksMember (nI m) (n := v 3) (by omega) (hM 3 (by omega)), if_neg h1', Option.bind_some, if_pos rfl]
    rw [e1, if_neg gm, nI_clamp (by omega), (H7.1 m hm12).2.1]; rfl
  have hW : W_debt N (inp, se, dr, rdr, b, c, hi, ck) f (nI m) = some (0, (inp, se, dr, rdr, b, c, hi, ck), vp_updL f 0 (nI (db m)).toInt64) := by
    unfold W_debt
    rw [hP]; rfl
  exact fin_ok (k := k) (s' := (inp, se, dr, rdr, b, c, hi, ck)) (m' := ((0 : Int32), ch, ik, len, pa_, tok, err, hti, see, rk, bl, fx, rdd, le, ler, so, sor, wh, whr, now, kept, past, buf)) (f := f) (p := nI (db m)) hW hG rfl (RlW_thrown HR0 0)

theorem T_household {N : Nat} (hN : 600000 < N) (x1 : Int32) : StA RlW (fun s f => W_household N s f x1) (fun m => F_M_household N m x1) := by
  intro k s m f hk HR
  obtain ⟨inp, se, dr, rdr, b, c, hi, ck⟩ := s
  obtain ⟨th, ch, ik, len, pa_, tok, err, hti, see, rk, bl, fx, rdd, le, ler, so, sor, wh, whr, now, kept, past, buf⟩ := m
  obtain ⟨v, R⟩ := HR
  have R : RlC v k inp se b c hi ck ch ik len fx le so wh now kept past buf := R
  have HR0 : RlW k (inp, se, dr, rdr, b, c, hi, ck) (th, ch, ik, len, pa_, tok, err, hti, see, rk, bl, fx, rdd, le, ler, so, sor, wh, whr, now, kept, past, buf) := ⟨v, R⟩
  obtain ⟨hV, hM, hS, hNM, hIN, hB, hK, hH⟩ := R
  have hv3 := hV.1.2.2.2.2.1
  have hv4 := hV.1.2.2.2.2.2
  have hv1 := hV.1.2.2.1
  have hSs : SC v (inp, se, dr, rdr, b, c, hi, ck).2.1 := hS
  have hK' : (ck = 0 ∧ ik = 0) ∨ (ck = 1 ∧ ik = 1 ∧ BRL v (k + 1) c kept) := hK.imp id (fun x => ⟨x.1, x.2.1, BRL_mono x.2.2 (Nat.le_succ k)⟩)
  obtain ⟨d, E, Lg, c0, dy, db, rd, ⟨a1, a2⟩, ⟨a3, a4, a5⟩, ⟨H1, H2, H3⟩, ⟨HL, HLm⟩, H4, H5, H6, H7⟩ := hB.1
  by_cases h1 : outN x1 (v 3)
  · have hP : P_household N (inp, se, dr, rdr, b, c, hi, ck) x1 = some (4, 0, (inp, se, dr, rdr, b, c, hi, ck)) := by
      unfold P_household
      rw [mem_out hSs h1 N]; rfl
    have hG : F_M_household N (th, ch, ik, len, pa_, tok, err, hti, see, rk, bl, fx, rdd, le, ler, so, sor, wh, whr, now, kept, past, buf) x1 = some (0, ((1 : Int32), ch, ik, len, pa_, tok, err, hti, see, rk, bl, fx, rdd, le, ler, so, sor, wh, whr, now, kept, past, buf)) := by
      unfold F_M_household
      dsimp only
      unfold f_X11_household
      rw [M_lacksMember x1 (n := v 3) (by omega) (hM 3 (by omega)), if_pos h1]; rfl
    exact fin_no (c := 1) (by dsimp only; unfold W_household; rw [hP]; rfl) (by decide) hG rfl (RlW_thrown HR0 1)
  have h1' := h1
  obtain ⟨m, hm3, rfl⟩ := outN_not (by omega) h1
  have hm12 : m < 12 := by omega
  have e1 : (30 : Int32) + nI m = nI (30 + m) := nI_add 30 m
  have gm := grd (i := 30 + m) (n := 72470) (by omega) (by decide)
  have hP : P_household N (inp, se, dr, rdr, b, c, hi, ck) (nI m) = some (0, now (30 + m), (inp, se, dr, rdr, b, c, hi, ck)) := by
    unfold P_household
    rw [mem_in hSs h1' N, Option.bind_some, if_pos rfl]
    dsimp only
    unfold F_B_homeOf f_X0_homeOf
    rw [X6_at_in _ h12 hm12, (H6.1 m hm12).2.2.1]; rfl
  have hG : F_M_household N (th, ch, ik, len, pa_, tok, err, hti, see, rk, bl, fx, rdd, le, ler, so, sor, wh, whr, now, kept, past, buf) (nI m) = some (now (30 + m), ((0 : Int32), ch, ik, len, pa_, tok, err, hti, see, rk, bl, fx, rdd, le, ler, so, sor, wh, whr, now, kept, past, buf)) := by
    unfold F_M_household
    dsimp only
    unfold f_X11_household
    rw [M_lacksMember (nI m) (n := v 3) (by omega) (hM 3 (by omega)), if_neg h1', Option.bind_some, if_pos rfl]
    rw [e1, if_neg gm, nI_clamp (by omega)]; rfl
  have hW : W_household N (inp, se, dr, rdr, b, c, hi, ck) f (nI m) = some (0, (inp, se, dr, rdr, b, c, hi, ck), vp_updL f 0 (now (30 + m)).toInt64) := by
    unfold W_household
    rw [hP]; rfl
  exact fin_ok (k := k) (s' := (inp, se, dr, rdr, b, c, hi, ck)) (m' := ((0 : Int32), ch, ik, len, pa_, tok, err, hti, see, rk, bl, fx, rdd, le, ler, so, sor, wh, whr, now, kept, past, buf)) (f := f) (p := now (30 + m)) hW hG rfl (RlW_thrown HR0 0)

theorem T_tier {N : Nat} (hN : 600000 < N) (x1 : Int32) : StA RlW (fun s f => W_tier N s f x1) (fun m => F_M_tier N m x1) := by
  intro k s m f hk HR
  obtain ⟨inp, se, dr, rdr, b, c, hi, ck⟩ := s
  obtain ⟨th, ch, ik, len, pa_, tok, err, hti, see, rk, bl, fx, rdd, le, ler, so, sor, wh, whr, now, kept, past, buf⟩ := m
  obtain ⟨v, R⟩ := HR
  have R : RlC v k inp se b c hi ck ch ik len fx le so wh now kept past buf := R
  have HR0 : RlW k (inp, se, dr, rdr, b, c, hi, ck) (th, ch, ik, len, pa_, tok, err, hti, see, rk, bl, fx, rdd, le, ler, so, sor, wh, whr, now, kept, past, buf) := ⟨v, R⟩
  obtain ⟨hV, hM, hS, hNM, hIN, hB, hK, hH⟩ := R
  have hv3 := hV.1.2.2.2.2.1
  have hv4 := hV.1.2.2.2.2.2
  have hv1 := hV.1.2.2.1
  have hSs : SC v (inp, se, dr, rdr, b, c, hi, ck).2.1 := hS
  have hK' : (ck = 0 ∧ ik = 0) ∨ (ck = 1 ∧ ik = 1 ∧ BRL v (k + 1) c kept) := hK.imp id (fun x => ⟨x.1, x.2.1, BRL_mono x.2.2 (Nat.le_succ k)⟩)
  obtain ⟨d, E, Lg, c0, dy, db, rd, ⟨a1, a2⟩, ⟨a3, a4, a5⟩, ⟨H1, H2, H3⟩, ⟨HL, HLm⟩, H4, H5, H6, H7⟩ := hB.1
  by_cases h1 : outN x1 (v 3)
  · have hP : P_tier N (inp, se, dr, rdr, b, c, hi, ck) x1 = some (4, 0, (inp, se, dr, rdr, b, c, hi, ck)) := by
      unfold P_tier
      rw [mem_out hSs h1 N]; rfl
    have hG : F_M_tier N (th, ch, ik, len, pa_, tok, err, hti, see, rk, bl, fx, rdd, le, ler, so, sor, wh, whr, now, kept, past, buf) x1 = some (0, ((1 : Int32), ch, ik, len, pa_, tok, err, hti, see, rk, bl, fx, rdd, le, ler, so, sor, wh, whr, now, kept, past, buf)) := by
      unfold F_M_tier
      dsimp only
      unfold f_X11_tier
      rw [M_lacksMember x1 (n := v 3) (by omega) (hM 3 (by omega)), if_pos h1]; rfl
    exact fin_no (c := 1) (by dsimp only; unfold W_tier; rw [hP]; rfl) (by decide) hG rfl (RlW_thrown HR0 1)
  have h1' := h1
  obtain ⟨m, hm3, rfl⟩ := outN_not (by omega) h1
  have hm12 : m < 12 := by omega
  have e1 : (42 : Int32) + nI m = nI (42 + m) := nI_add 42 m
  have gm := grd (i := 42 + m) (n := 72470) (by omega) (by decide)
  have hP : P_tier N (inp, se, dr, rdr, b, c, hi, ck) (nI m) = some (0, now (42 + m), (inp, se, dr, rdr, b, c, hi, ck)) := by
    unfold P_tier
    rw [mem_in hSs h1' N, Option.bind_some, if_pos rfl]
    dsimp only
    unfold F_B_tierOf f_X0_tierOf
    rw [X6_at_in _ h12 hm12, (H6.1 m hm12).1]; rfl
  have hG : F_M_tier N (th, ch, ik, len, pa_, tok, err, hti, see, rk, bl, fx, rdd, le, ler, so, sor, wh, whr, now, kept, past, buf) (nI m) = some (now (42 + m), ((0 : Int32), ch, ik, len, pa_, tok, err, hti, see, rk, bl, fx, rdd, le, ler, so, sor, wh, whr, now, kept, past, buf)) := by
    unfold F_M_tier
    dsimp only
    unfold f_X11_tier
    rw [M_lacksMember (nI m) (n := v 3) (by omega) (hM 3 (by omega)), if_neg h1', Option.bind_some, if_pos rfl]
    rw [e1, if_neg gm, nI_clamp (by omega)]; rfl
  have hW : W_tier N (inp, se, dr, rdr, b, c, hi, ck) f (nI m) = some (0, (inp, se, dr, rdr, b, c, hi, ck), vp_updL f 0 (now (42 + m)).toInt64) := by
    unfold W_tier
    rw [hP]; rfl
  exact fin_ok (k := k) (s' := (inp, se, dr, rdr, b, c, hi, ck)) (m' := ((0 : Int32), ch, ik, len, pa_, tok, err, hti, see, rk, bl, fx, rdd, le, ler, so, sor, wh, whr, now, kept, past, buf)) (f := f) (p := now (42 + m)) hW hG rfl (RlW_thrown HR0 0)

theorem T_belowSince {N : Nat} (hN : 600000 < N) (x1 : Int32) : StA RlW (fun s f => W_belowSince N s f x1) (fun m => F_M_belowSince N m x1) := by
  intro k s m f hk HR
  obtain ⟨inp, se, dr, rdr, b, c, hi, ck⟩ := s
  obtain ⟨th, ch, ik, len, pa_, tok, err, hti, see, rk, bl, fx, rdd, le, ler, so, sor, wh, whr, now, kept, past, buf⟩ := m
  obtain ⟨v, R⟩ := HR
  have R : RlC v k inp se b c hi ck ch ik len fx le so wh now kept past buf := R
  have HR0 : RlW k (inp, se, dr, rdr, b, c, hi, ck) (th, ch, ik, len, pa_, tok, err, hti, see, rk, bl, fx, rdd, le, ler, so, sor, wh, whr, now, kept, past, buf) := ⟨v, R⟩
  obtain ⟨hV, hM, hS, hNM, hIN, hB, hK, hH⟩ := R
  have hv3 := hV.1.2.2.2.2.1
  have hv4 := hV.1.2.2.2.2.2
  have hv1 := hV.1.2.2.1
  have hSs : SC v (inp, se, dr, rdr, b, c, hi, ck).2.1 := hS
  have hK' : (ck = 0 ∧ ik = 0) ∨ (ck = 1 ∧ ik = 1 ∧ BRL v (k + 1) c kept) := hK.imp id (fun x => ⟨x.1, x.2.1, BRL_mono x.2.2 (Nat.le_succ k)⟩)
  obtain ⟨d, E, Lg, c0, dy, db, rd, ⟨a1, a2⟩, ⟨a3, a4, a5⟩, ⟨H1, H2, H3⟩, ⟨HL, HLm⟩, H4, H5, H6, H7⟩ := hB.1
  by_cases h1 : outN x1 (v 3)
  · have hP : P_belowSince N (inp, se, dr, rdr, b, c, hi, ck) x1 = some (4, 0, (inp, se, dr, rdr, b, c, hi, ck)) := by
      unfold P_belowSince
      rw [mem_out hSs h1 N]; rfl
    have hG : F_M_belowSince N (th, ch, ik, len, pa_, tok, err, hti, see, rk, bl, fx, rdd, le, ler, so, sor, wh, whr, now, kept, past, buf) x1 = some (0, ((1 : Int32), ch, ik, len, pa_, tok, err, hti, see, rk, bl, fx, rdd, le, ler, so, sor, wh, whr, now, kept, past, buf)) := by
      unfold F_M_belowSince
      dsimp only
      unfold f_X11_belowSince
      rw [M_lacksMember x1 (n := v 3) (by omega) (hM 3 (by omega)), if_pos h1]; rfl
    exact fin_no (c := 1) (by dsimp only; unfold W_belowSince; rw [hP]; rfl) (by decide) hG rfl (RlW_thrown HR0 1)
  have h1' := h1
  obtain ⟨m, hm3, rfl⟩ := outN_not (by omega) h1
  have hm12 : m < 12 := by omega
  have e1 : (54 : Int32) + nI m = nI (54 + m) := nI_add 54 m
  have gm := grd (i := 54 + m) (n := 72470) (by omega) (by decide)
  have hP : P_belowSince N (inp, se, dr, rdr, b, c, hi, ck) (nI m) = some (0, now (54 + m), (inp, se, dr, rdr, b, c, hi, ck)) := by
    unfold P_belowSince
    rw [mem_in hSs h1' N, Option.bind_some, if_pos rfl]
    dsimp only
    unfold F_B_belowDay f_X0_belowDay
    rw [X6_at_in _ h12 hm12, (H6.1 m hm12).2.1]; rfl
  have hG : F_M_belowSince N (th, ch, ik, len, pa_, tok, err, hti, see, rk, bl, fx, rdd, le, ler, so, sor, wh, whr, now, kept, past, buf) (nI m) = some (now (54 + m), ((0 : Int32), ch, ik, len, pa_, tok, err, hti, see, rk, bl, fx, rdd, le, ler, so, sor, wh, whr, now, kept, past, buf)) := by
    unfold F_M_belowSince
    dsimp only
    unfold f_X11_belowSince
    rw [M_lacksMember (nI m) (n := v 3) (by omega) (hM 3 (by omega)), if_neg h1', Option.bind_some, if_pos rfl]
    rw [e1, if_neg gm, nI_clamp (by omega)]; rfl
  have hW : W_belowSince N (inp, se, dr, rdr, b, c, hi, ck) f (nI m) = some (0, (inp, se, dr, rdr, b, c, hi, ck), vp_updL f 0 (now (54 + m)).toInt64) := by
    unfold W_belowSince
    rw [hP]; rfl
  exact fin_ok (k := k) (s' := (inp, se, dr, rdr, b, c, hi, ck)) (m' := ((0 : Int32), ch, ik, len, pa_, tok, err, hti, see, rk, bl, fx, rdd, le, ler, so, sor, wh, whr, now, kept, past, buf)) (f := f) (p := now (54 + m)) hW hG rfl (RlW_thrown HR0 0)

theorem T_balance {N : Nat} (hN : 600000 < N) (x1 : Int32) : StA RlW (fun s f => W_balance N s f x1) (fun m => F_M_balance N m x1) := by
  intro k s m f hk HR
  obtain ⟨inp, se, dr, rdr, b, c, hi, ck⟩ := s
  obtain ⟨th, ch, ik, len, pa_, tok, err, hti, see, rk, bl, fx, rdd, le, ler, so, sor, wh, whr, now, kept, past, buf⟩ := m
  obtain ⟨v, R⟩ := HR
  have R : RlC v k inp se b c hi ck ch ik len fx le so wh now kept past buf := R
  have HR0 : RlW k (inp, se, dr, rdr, b, c, hi, ck) (th, ch, ik, len, pa_, tok, err, hti, see, rk, bl, fx, rdd, le, ler, so, sor, wh, whr, now, kept, past, buf) := ⟨v, R⟩
  obtain ⟨hV, hM, hS, hNM, hIN, hB, hK, hH⟩ := R
  have hv3 := hV.1.2.2.2.2.1
  have hv4 := hV.1.2.2.2.2.2
  have hv1 := hV.1.2.2.1
  have hSs : SC v (inp, se, dr, rdr, b, c, hi, ck).2.1 := hS
  have hK' : (ck = 0 ∧ ik = 0) ∨ (ck = 1 ∧ ik = 1 ∧ BRL v (k + 1) c kept) := hK.imp id (fun x => ⟨x.1, x.2.1, BRL_mono x.2.2 (Nat.le_succ k)⟩)
  obtain ⟨d, E, Lg, c0, dy, db, rd, ⟨a1, a2⟩, ⟨a3, a4, a5⟩, ⟨H1, H2, H3⟩, ⟨HL, HLm⟩, H4, H5, H6, H7⟩ := hB.1
  by_cases h1 : outN x1 (v 3)
  · have hP : P_balance N (inp, se, dr, rdr, b, c, hi, ck) x1 = some (4, 0, (inp, se, dr, rdr, b, c, hi, ck)) := by
      unfold P_balance
      rw [mem_out hSs h1 N]; rfl
    have hG : F_M_balance N (th, ch, ik, len, pa_, tok, err, hti, see, rk, bl, fx, rdd, le, ler, so, sor, wh, whr, now, kept, past, buf) x1 = some (0, ((1 : Int32), ch, ik, len, pa_, tok, err, hti, see, rk, bl, fx, rdd, le, ler, so, sor, wh, whr, now, kept, past, buf)) := by
      unfold F_M_balance
      dsimp only
      unfold f_X11_balance
      rw [M_lacksMember x1 (n := v 3) (by omega) (hM 3 (by omega)), if_pos h1]; rfl
    exact fin_no (c := 1) (by dsimp only; unfold W_balance; rw [hP]; rfl) (by decide) hG rfl (RlW_thrown HR0 1)
  have h1' := h1
  obtain ⟨m, hm3, rfl⟩ := outN_not (by omega) h1
  have hm12 : m < 12 := by omega
  have hP : P_balance N (inp, se, dr, rdr, b, c, hi, ck) (nI m) = some (0, nI (sumQ (fun k => decide (kL k = m)) E), (inp, se, dr, rdr, b, c, hi, ck)) := by
    unfold P_balance
    rw [mem_in hSs h1' N, Option.bind_some, if_pos rfl]
    dsimp only
    rw [show F_B_cohorts N b = some () from rfl, Option.bind_some]
    unfold F_H_sum
    rw [C_balance H1 (by omega) (by omega)]; rfl
  have hG : F_M_balance N (th, ch, ik, len, pa_, tok, err, hti, see, rk, bl, fx, rdd, le, ler, so, sor, wh, whr, now, kept, past, buf) (nI m) = some (nI (sumQ (fun k => decide (kL k = m)) E), ((0 : Int32), ch, ik, len, pa_, tok, err, hti, see, rk, bl, fx, rdd, le, ler, so, sor, wh, whr, now, kept, past, buf)) := by
    unfold F_M_balance
    dsimp only
    unfold f_X11_balance
    rw [M_lacksMember (nI m) (n := v 3) (by omega) (hM 3 (by omega)), if_neg h1', Option.bind_some, if_pos rfl]
    rw [M_inAccount hV H2 H1.2.1 H1.2.2.1 H3 a5 hm12 (by omega)]; rfl
  have hW : W_balance N (inp, se, dr, rdr, b, c, hi, ck) f (nI m) = some (0, (inp, se, dr, rdr, b, c, hi, ck), vp_updL f 0 (nI (sumQ (fun k => decide (kL k = m)) E)).toInt64) := by
    unfold W_balance
    rw [hP]; rfl
  exact fin_ok (k := k) (s' := (inp, se, dr, rdr, b, c, hi, ck)) (m' := ((0 : Int32), ch, ik, len, pa_, tok, err, hti, see, rk, bl, fx, rdd, le, ler, so, sor, wh, whr, now, kept, past, buf)) (f := f) (p := nI (sumQ (fun k => decide (kL k = m)) E)) hW hG rfl (RlW_thrown HR0 0)

theorem T_available {N : Nat} (hN : 600000 < N) (x1 : Int32) : StA RlW (fun s f => W_available N s f x1) (fun m => F_M_available N m x1) := by
  intro k s m f hk HR
  obtain ⟨inp, se, dr, rdr, b, c, hi, ck⟩ := s
  obtain ⟨th, ch, ik, len, pa_, tok, err, hti, see, rk, bl, fx, rdd, le, ler, so, sor, wh, whr, now, kept, past, buf⟩ := m
  obtain ⟨v, R⟩ := HR
  have R : RlC v k inp se b c hi ck ch ik len fx le so wh now kept past buf := R
  have HR0 : RlW k (inp, se, dr, rdr, b, c, hi, ck) (th, ch, ik, len, pa_, tok, err, hti, see, rk, bl, fx, rdd, le, ler, so, sor, wh, whr, now, kept, past, buf) := ⟨v, R⟩
  obtain ⟨hV, hM, hS, hNM, hIN, hB, hK, hH⟩ := R
  have hv3 := hV.1.2.2.2.2.1
  have hv4 := hV.1.2.2.2.2.2
  have hv1 := hV.1.2.2.1
  have hSs : SC v (inp, se, dr, rdr, b, c, hi, ck).2.1 := hS
  have hK' : (ck = 0 ∧ ik = 0) ∨ (ck = 1 ∧ ik = 1 ∧ BRL v (k + 1) c kept) := hK.imp id (fun x => ⟨x.1, x.2.1, BRL_mono x.2.2 (Nat.le_succ k)⟩)
  obtain ⟨d, E, Lg, c0, dy, db, rd, ⟨a1, a2⟩, ⟨a3, a4, a5⟩, ⟨H1, H2, H3⟩, ⟨HL, HLm⟩, H4, H5, H6, H7⟩ := hB.1
  by_cases h1 : outN x1 (v 3)
  · have hP : P_available N (inp, se, dr, rdr, b, c, hi, ck) x1 = some (4, 0, (inp, se, dr, rdr, b, c, hi, ck)) := by
      unfold P_available
      rw [mem_out hSs h1 N]; rfl
    have hG : F_M_available N (th, ch, ik, len, pa_, tok, err, hti, see, rk, bl, fx, rdd, le, ler, so, sor, wh, whr, now, kept, past, buf) x1 = some (0, ((1 : Int32), ch, ik, len, pa_, tok, err, hti, see, rk, bl, fx, rdd, le, ler, so, sor, wh, whr, now, kept, past, buf)) := by
      unfold F_M_available
      dsimp only
      unfold f_X11_available
      rw [M_lacksMember x1 (n := v 3) (by omega) (hM 3 (by omega)), if_pos h1]; rfl
    exact fin_no (c := 1) (by dsimp only; unfold W_available; rw [hP]; rfl) (by decide) hG rfl (RlW_thrown HR0 1)
  have h1' := h1
  obtain ⟨m, hm3, rfl⟩ := outN_not (by omega) h1
  have hm12 : m < 12 := by omega
  have e1 : (30 : Int32) + nI m = nI (30 + m) := nI_add 30 m
  have gm := grd (i := 30 + m) (n := 72470) (by omega) (by decide)
  obtain ⟨ho, t6, t7⟩ := (H6.1 m hm12).2.2.2.2
  have hho : b.2.2.2.2.2.2.2.2.2.2.2.2.2.2.2.1 m = cI ho := by rw [(H6.1 m hm12).2.2.1, t7]
  have hip : ¬ ho = 0 → f_X11_inPool N (cI ho) (-1) 71 72470 fx now = some (nI (sumQ (fun k => decide (kL k = 11 + ho)) E)) := by
    intro h
    obtain ⟨q, hq⟩ : ∃ q, ho = q + 1 := ⟨ho - 1, by omega⟩
    subst hq
    rw [show cI (q + 1) = nI q from rfl, M_inPool hV hM H2 H1.2.1 H1.2.2.1 H3 a5 a4 (show q < 4 by omega) (f := fun _ => true) (fun m _ => ⟨fun _ => rfl, fun _ => Or.inl rfl⟩) (by omega), redeem_split (m := m) H1.2.2.1 H3 q, show 12 + q = 11 + (q + 1) by omega]
  have hP : P_available N (inp, se, dr, rdr, b, c, hi, ck) (nI m) = some (0, nI (avN m ho E), (inp, se, dr, rdr, b, c, hi, ck)) := by
    unfold P_available
    rw [mem_in hSs h1' N, Option.bind_some, if_pos rfl]
    dsimp only
    unfold F_B_redeemable
    rw [C_redeemable H1 hm12 hho (by omega) (by omega)]; rfl
  have hG : F_M_available N (th, ch, ik, len, pa_, tok, err, hti, see, rk, bl, fx, rdd, le, ler, so, sor, wh, whr, now, kept, past, buf) (nI m) = some (nI (avN m ho E), ((0 : Int32), ch, ik, len, pa_, tok, err, hti, see, rk, bl, fx, rdd, le, ler, so, sor, wh, whr, now, kept, past, buf)) := by
    unfold F_M_available
    dsimp only
    unfold f_X11_available
    rw [M_lacksMember (nI m) (n := v 3) (by omega) (hM 3 (by omega)), if_neg h1', Option.bind_some, if_pos rfl]
    rw [e1, if_neg gm, nI_clamp (by omega), t7, Option.bind_some, M_inAccount hV H2 H1.2.1 H1.2.2.1 H3 a5 hm12 (by omega), Option.bind_some]
    unfold avN
    by_cases h : ho = 0
    · rw [if_pos (by rw [h]; rfl), if_pos h, Int32.add_zero, Nat.add_zero]; rfl
    · rw [if_neg (fun hx => h ((cI_none (by omega)).mp hx)), if_neg h, hip h, Option.bind_some, nI_add]; rfl
  have hW : W_available N (inp, se, dr, rdr, b, c, hi, ck) f (nI m) = some (0, (inp, se, dr, rdr, b, c, hi, ck), vp_updL f 0 (nI (avN m ho E)).toInt64) := by
    unfold W_available
    rw [hP]; rfl
  exact fin_ok (k := k) (s' := (inp, se, dr, rdr, b, c, hi, ck)) (m' := ((0 : Int32), ch, ik, len, pa_, tok, err, hti, see, rk, bl, fx, rdd, le, ler, so, sor, wh, whr, now, kept, past, buf)) (f := f) (p := nI (avN m ho E)) hW hG rfl (RlW_thrown HR0 0)

theorem T_qualifying {N : Nat} (hN : 600000 < N) (x1 : Int32) : StA RlW (fun s f => W_qualifying N s f x1) (fun m => F_M_qualifying N m x1) := by
  intro k s m f hk HR
  obtain ⟨inp, se, dr, rdr, b, c, hi, ck⟩ := s
  obtain ⟨th, ch, ik, len, pa_, tok, err, hti, see, rk, bl, fx, rdd, le, ler, so, sor, wh, whr, now, kept, past, buf⟩ := m
  obtain ⟨v, R⟩ := HR
  have R : RlC v k inp se b c hi ck ch ik len fx le so wh now kept past buf := R
  have HR0 : RlW k (inp, se, dr, rdr, b, c, hi, ck) (th, ch, ik, len, pa_, tok, err, hti, see, rk, bl, fx, rdd, le, ler, so, sor, wh, whr, now, kept, past, buf) := ⟨v, R⟩
  obtain ⟨hV, hM, hS, hNM, hIN, hB, hK, hH⟩ := R
  have hv3 := hV.1.2.2.2.2.1
  have hv4 := hV.1.2.2.2.2.2
  have hv1 := hV.1.2.2.1
  have hSs : SC v (inp, se, dr, rdr, b, c, hi, ck).2.1 := hS
  have hK' : (ck = 0 ∧ ik = 0) ∨ (ck = 1 ∧ ik = 1 ∧ BRL v (k + 1) c kept) := hK.imp id (fun x => ⟨x.1, x.2.1, BRL_mono x.2.2 (Nat.le_succ k)⟩)
  obtain ⟨d, E, Lg, c0, dy, db, rd, ⟨a1, a2⟩, ⟨a3, a4, a5⟩, ⟨H1, H2, H3⟩, ⟨HL, HLm⟩, H4, H5, H6, H7⟩ := hB.1
  by_cases h1 : outN x1 (v 3)
  · have hP : P_qualifying N (inp, se, dr, rdr, b, c, hi, ck) x1 = some (4, 0, (inp, se, dr, rdr, b, c, hi, ck)) := by
      unfold P_qualifying
      rw [mem_out hSs h1 N]; rfl
    have hG : F_M_qualifying N (th, ch, ik, len, pa_, tok, err, hti, see, rk, bl, fx, rdd, le, ler, so, sor, wh, whr, now, kept, past, buf) x1 = some (0, ((1 : Int32), ch, ik, len, pa_, tok, err, hti, see, rk, bl, fx, rdd, le, ler, so, sor, wh, whr, now, kept, past, buf)) := by
      unfold F_M_qualifying
      dsimp only
      unfold f_X11_qualifying
      rw [M_lacksMember x1 (n := v 3) (by omega) (hM 3 (by omega)), if_pos h1]; rfl
    exact fin_no (c := 1) (by dsimp only; unfold W_qualifying; rw [hP]; rfl) (by decide) hG rfl (RlW_thrown HR0 1)
  have h1' := h1
  obtain ⟨m, hm3, rfl⟩ := outN_not (by omega) h1
  have hm12 : m < 12 := by omega
  have hq0 : b.2.2.2.2.2.2.2.2.2.2.2.2.2.2.2.2.1 m = qT b.2.2.2.2.2.2.2.2.1 dy c0 (v 6) m d := H5.2.1 m hm3
  have hsu : f_X11_sumUpTo N (nI m) (nI d) 71 72470 fx now = some (qT b.2.2.2.2.2.2.2.2.1 dy c0 (v 6) m d) := by
    rw [M_sumUpTo H5.2.2 a4 a5 hm3 hv3 hV.2.1.2.2.2.1 (hM 6 (by omega)) (by omega), qT_now (fun i hi => (H4.2.2.2.2.1 i hi).2.1.2) hV.2.1.2.2.2.1]
  have hcq : F_B_qualifyingSum N b (nI m) = some (qT b.2.2.2.2.2.2.2.2.1 dy c0 (v 6) m d) := by
    unfold F_B_qualifyingSum f_X0_qualifyingSum
    rw [X6_at_in _ h12 hm12, hq0]; rfl
  have hct : ∀ x, F_S_tierFor N se x = some (nI (tierT v x (v 0 - 1))) := by
    intro x
    unfold F_S_tierFor
    rw [C_tierFor x (hS.2.1 0 (by omega)) hV.1.1 hV.1.2.1 (fun t h => (hS.2.2.1 t h).1) (by omega)]; rfl
  have hP : P_qualifying N (inp, se, dr, rdr, b, c, hi, ck) (nI m) = some (0, qT b.2.2.2.2.2.2.2.2.1 dy c0 (v 6) m d, (inp, se, dr, rdr, b, c, hi, ck)) := by
    unfold P_qualifying
    rw [mem_in hSs h1' N, Option.bind_some, if_pos rfl]
    dsimp only
    rw [hcq]; rfl
  have hG : F_M_qualifying N (th, ch, ik, len, pa_, tok, err, hti, see, rk, bl, fx, rdd, le, ler, so, sor, wh, whr, now, kept, past, buf) (nI m) = some (qT b.2.2.2.2.2.2.2.2.1 dy c0 (v 6) m d, ((0 : Int32), ch, ik, len, pa_, tok, err, hti, see, rk, bl, fx, rdd, le, ler, so, sor, wh, whr, now, kept, past, buf)) := by
    unfold F_M_qualifying
    dsimp only
    unfold f_X11_qualifying
    rw [M_lacksMember (nI m) (n := v 3) (by omega) (hM 3 (by omega)), if_neg h1', Option.bind_some, if_pos rfl]
    rw [M_today, Option.bind_some, a4, hsu]; rfl
  have hW : W_qualifying N (inp, se, dr, rdr, b, c, hi, ck) f (nI m) = some (0, (inp, se, dr, rdr, b, c, hi, ck), vp_updL f 0 (qT b.2.2.2.2.2.2.2.2.1 dy c0 (v 6) m d).toInt64) := by
    unfold W_qualifying
    rw [hP]; rfl
  exact fin_ok (k := k) (s' := (inp, se, dr, rdr, b, c, hi, ck)) (m' := ((0 : Int32), ch, ik, len, pa_, tok, err, hti, see, rk, bl, fx, rdd, le, ler, so, sor, wh, whr, now, kept, past, buf)) (f := f) (p := qT b.2.2.2.2.2.2.2.2.1 dy c0 (v 6) m d) hW hG rfl (RlW_thrown HR0 0)

theorem T_earnedTier {N : Nat} (hN : 600000 < N) (x1 : Int32) : StA RlW (fun s f => W_earnedTier N s f x1) (fun m => F_M_earnedTier N m x1) := by
  intro k s m f hk HR
  obtain ⟨inp, se, dr, rdr, b, c, hi, ck⟩ := s
  obtain ⟨th, ch, ik, len, pa_, tok, err, hti, see, rk, bl, fx, rdd, le, ler, so, sor, wh, whr, now, kept, past, buf⟩ := m
  obtain ⟨v, R⟩ := HR
  have R : RlC v k inp se b c hi ck ch ik len fx le so wh now kept past buf := R
  have HR0 : RlW k (inp, se, dr, rdr, b, c, hi, ck) (th, ch, ik, len, pa_, tok, err, hti, see, rk, bl, fx, rdd, le, ler, so, sor, wh, whr, now, kept, past, buf) := ⟨v, R⟩
  obtain ⟨hV, hM, hS, hNM, hIN, hB, hK, hH⟩ := R
  have hv3 := hV.1.2.2.2.2.1
  have hv4 := hV.1.2.2.2.2.2
  have hv1 := hV.1.2.2.1
  have hSs : SC v (inp, se, dr, rdr, b, c, hi, ck).2.1 := hS
  have hK' : (ck = 0 ∧ ik = 0) ∨ (ck = 1 ∧ ik = 1 ∧ BRL v (k + 1) c kept) := hK.imp id (fun x => ⟨x.1, x.2.1, BRL_mono x.2.2 (Nat.le_succ k)⟩)
  obtain ⟨d, E, Lg, c0, dy, db, rd, ⟨a1, a2⟩, ⟨a3, a4, a5⟩, ⟨H1, H2, H3⟩, ⟨HL, HLm⟩, H4, H5, H6, H7⟩ := hB.1
  by_cases h1 : outN x1 (v 3)
  · have hP : P_earnedTier N (inp, se, dr, rdr, b, c, hi, ck) x1 = some (4, 0, (inp, se, dr, rdr, b, c, hi, ck)) := by
      unfold P_earnedTier
      rw [mem_out hSs h1 N]; rfl
    have hG : F_M_earnedTier N (th, ch, ik, len, pa_, tok, err, hti, see, rk, bl, fx, rdd, le, ler, so, sor, wh, whr, now, kept, past, buf) x1 = some (0, ((1 : Int32), ch, ik, len, pa_, tok, err, hti, see, rk, bl, fx, rdd, le, ler, so, sor, wh, whr, now, kept, past, buf)) := by
      unfold F_M_earnedTier
      dsimp only
      unfold f_X11_earnedTier
      rw [M_lacksMember x1 (n := v 3) (by omega) (hM 3 (by omega)), if_pos h1]; rfl
    exact fin_no (c := 1) (by dsimp only; unfold W_earnedTier; rw [hP]; rfl) (by decide) hG rfl (RlW_thrown HR0 1)
  have h1' := h1
  obtain ⟨m, hm3, rfl⟩ := outN_not (by omega) h1
  have hm12 : m < 12 := by omega
  have hq0 : b.2.2.2.2.2.2.2.2.2.2.2.2.2.2.2.2.1 m = qT b.2.2.2.2.2.2.2.2.1 dy c0 (v 6) m d := H5.2.1 m hm3
  have hsu : f_X11_sumUpTo N (nI m) (nI d) 71 72470 fx now = some (qT b.2.2.2.2.2.2.2.2.1 dy c0 (v 6) m d) := by
    rw [M_sumUpTo H5.2.2 a4 a5 hm3 hv3 hV.2.1.2.2.2.1 (hM 6 (by omega)) (by omega), qT_now (fun i hi => (H4.2.2.2.2.1 i hi).2.1.2) hV.2.1.2.2.2.1]
  have hcq : F_B_qualifyingSum N b (nI m) = some (qT b.2.2.2.2.2.2.2.2.1 dy c0 (v 6) m d) := by
    unfold F_B_qualifyingSum f_X0_qualifyingSum
    rw [X6_at_in _ h12 hm12, hq0]; rfl
  have hct : ∀ x, F_S_tierFor N se x = some (nI (tierT v x (v 0 - 1))) := by
    intro x
    unfold F_S_tierFor
    rw [C_tierFor x (hS.2.1 0 (by omega)) hV.1.1 hV.1.2.1 (fun t h => (hS.2.2.1 t h).1) (by omega)]; rfl
  have hP : P_earnedTier N (inp, se, dr, rdr, b, c, hi, ck) (nI m) = some (0, nI (tierT v (qT b.2.2.2.2.2.2.2.2.1 dy c0 (v 6) m d) (v 0 - 1)), (inp, se, dr, rdr, b, c, hi, ck)) := by
    unfold P_earnedTier
    rw [mem_in hSs h1' N, Option.bind_some, if_pos rfl]
    dsimp only
    rw [hcq, Option.bind_some, hct]; rfl
  have hG : F_M_earnedTier N (th, ch, ik, len, pa_, tok, err, hti, see, rk, bl, fx, rdd, le, ler, so, sor, wh, whr, now, kept, past, buf) (nI m) = some (nI (tierT v (qT b.2.2.2.2.2.2.2.2.1 dy c0 (v 6) m d) (v 0 - 1)), ((0 : Int32), ch, ik, len, pa_, tok, err, hti, see, rk, bl, fx, rdd, le, ler, so, sor, wh, whr, now, kept, past, buf)) := by
    unfold F_M_earnedTier
    dsimp only
    unfold f_X11_earnedTier
    rw [M_lacksMember (nI m) (n := v 3) (by omega) (hM 3 (by omega)), if_neg h1', Option.bind_some, if_pos rfl]
    rw [M_today, Option.bind_some, a4, hsu, Option.bind_some, M_tierBy _ hV hM (by omega)]; rfl
  have hW : W_earnedTier N (inp, se, dr, rdr, b, c, hi, ck) f (nI m) = some (0, (inp, se, dr, rdr, b, c, hi, ck), vp_updL f 0 (nI (tierT v (qT b.2.2.2.2.2.2.2.2.1 dy c0 (v 6) m d) (v 0 - 1))).toInt64) := by
    unfold W_earnedTier
    rw [hP]; rfl
  exact fin_ok (k := k) (s' := (inp, se, dr, rdr, b, c, hi, ck)) (m' := ((0 : Int32), ch, ik, len, pa_, tok, err, hti, see, rk, bl, fx, rdd, le, ler, so, sor, wh, whr, now, kept, past, buf)) (f := f) (p := nI (tierT v (qT b.2.2.2.2.2.2.2.2.1 dy c0 (v 6) m d) (v 0 - 1))) hW hG rfl (RlW_thrown HR0 0)

theorem T_contributed {N : Nat} (hN : 600000 < N) (x1 : Int32) : StA RlW (fun s f => W_contributed N s f x1) (fun m => F_M_contributed N m x1) := by
  intro k s m f hk HR
  obtain ⟨inp, se, dr, rdr, b, c, hi, ck⟩ := s
  obtain ⟨th, ch, ik, len, pa_, tok, err, hti, see, rk, bl, fx, rdd, le, ler, so, sor, wh, whr, now, kept, past, buf⟩ := m
  obtain ⟨v, R⟩ := HR
  have R : RlC v k inp se b c hi ck ch ik len fx le so wh now kept past buf := R
  have HR0 : RlW k (inp, se, dr, rdr, b, c, hi, ck) (th, ch, ik, len, pa_, tok, err, hti, see, rk, bl, fx, rdd, le, ler, so, sor, wh, whr, now, kept, past, buf) := ⟨v, R⟩
  obtain ⟨hV, hM, hS, hNM, hIN, hB, hK, hH⟩ := R
  have hv3 := hV.1.2.2.2.2.1
  have hv4 := hV.1.2.2.2.2.2
  have hv1 := hV.1.2.2.1
  have hSs : SC v (inp, se, dr, rdr, b, c, hi, ck).2.1 := hS
  have hK' : (ck = 0 ∧ ik = 0) ∨ (ck = 1 ∧ ik = 1 ∧ BRL v (k + 1) c kept) := hK.imp id (fun x => ⟨x.1, x.2.1, BRL_mono x.2.2 (Nat.le_succ k)⟩)
  obtain ⟨d, E, Lg, c0, dy, db, rd, ⟨a1, a2⟩, ⟨a3, a4, a5⟩, ⟨H1, H2, H3⟩, ⟨HL, HLm⟩, H4, H5, H6, H7⟩ := hB.1
  by_cases h1 : outN x1 (v 3)
  · have hP : P_contributed N (inp, se, dr, rdr, b, c, hi, ck) x1 = some (4, 0, (inp, se, dr, rdr, b, c, hi, ck)) := by
      unfold P_contributed
      rw [mem_out hSs h1 N]; rfl
    have hG : F_M_contributed N (th, ch, ik, len, pa_, tok, err, hti, see, rk, bl, fx, rdd, le, ler, so, sor, wh, whr, now, kept, past, buf) x1 = some (0, ((1 : Int32), ch, ik, len, pa_, tok, err, hti, see, rk, bl, fx, rdd, le, ler, so, sor, wh, whr, now, kept, past, buf)) := by
      unfold F_M_contributed
      dsimp only
      unfold f_X11_contributed
      rw [M_lacksMember x1 (n := v 3) (by omega) (hM 3 (by omega)), if_pos h1]; rfl
    exact fin_no (c := 1) (by dsimp only; unfold W_contributed; rw [hP]; rfl) (by decide) hG rfl (RlW_thrown HR0 1)
  have h1' := h1
  obtain ⟨m, hm3, rfl⟩ := outN_not (by omega) h1
  have hm12 : m < 12 := by omega
  have e1 : (30 : Int32) + nI m = nI (30 + m) := nI_add 30 m
  have gm := grd (i := 30 + m) (n := 72470) (by omega) (by decide)
  obtain ⟨ho, t6, t7⟩ := (H6.1 m hm12).2.2.2.2
  have hho : b.2.2.2.2.2.2.2.2.2.2.2.2.2.2.2.1 m = cI ho := by rw [(H6.1 m hm12).2.2.1, t7]
  have hP : P_contributed N (inp, se, dr, rdr, b, c, hi, ck) (nI m) = some (0, nI (if ho = 0 then 0 else sumQ (fun k => decide (kL k = 11 + ho) && decide (kC k = m + 1)) E), (inp, se, dr, rdr, b, c, hi, ck)) := by
    unfold P_contributed
    rw [mem_in hSs h1' N, Option.bind_some, if_pos rfl]
    dsimp only
    rw [show F_B_cohorts N b = some () from rfl, Option.bind_some]
    unfold F_B_poolOf f_X0_poolOf F_H_sum
    rw [X6_at_in _ h12 hm12, Option.bind_some, hho, C_poolList (by omega), Option.bind_some, Option.bind_some, Option.bind_some, E_sum H1 _ _ (by omega)]
    by_cases h : ho = 0
    · rw [if_pos h, if_pos h, sumQ_zero (fun x hx => qK_none (H1.2.2.1 x hx).1.1)]; rfl
    · rw [if_neg h, if_neg h, sumQ_congr (q' := fun k => decide (kL k = 11 + ho) && decide (kC k = m + 1)) (fun x hx => qK_listc (by omega) hm12 (H1.2.2.1 x hx).1.1)]; rfl
  have hG : F_M_contributed N (th, ch, ik, len, pa_, tok, err, hti, see, rk, bl, fx, rdd, le, ler, so, sor, wh, whr, now, kept, past, buf) (nI m) = some (nI (if ho = 0 then 0 else sumQ (fun k => decide (kL k = 11 + ho) && decide (kC k = m + 1)) E), ((0 : Int32), ch, ik, len, pa_, tok, err, hti, see, rk, bl, fx, rdd, le, ler, so, sor, wh, whr, now, kept, past, buf)) := by
    unfold F_M_contributed
    dsimp only
    unfold f_X11_contributed
    rw [M_lacksMember (nI m) (n := v 3) (by omega) (hM 3 (by omega)), if_neg h1', Option.bind_some, if_pos rfl]
    rw [e1, if_neg gm, nI_clamp (by omega), t7]
    by_cases h : ho = 0
    · rw [if_pos (by rw [h]; rfl), if_pos h]; rfl
    · obtain ⟨q, hq⟩ : ∃ q, ho = q + 1 := ⟨ho - 1, by omega⟩
      subst hq
      rw [nI_clamp (by omega)] at gm
      rw [if_neg (fun hx => h ((cI_none (by omega)).mp hx)), if_neg gm, show cI (q + 1) = nI q from rfl, M_inPool hV hM H2 H1.2.1 H1.2.2.1 H3 a5 a4 (show q < 4 by omega) (f := fun j => decide (j = m)) (fun j hj => ⟨fun hx => decide_eq_true (hx.elim (fun e => by
        have h5 := nI_pos (n := m) (by omega)
        rw [e] at h5
        exact absurd (by decide) h5) (fun e => ((nI_eq (by omega) (by omega)).mp e).symm)), fun hx => Or.inr (by rw [of_decide_eq_true hx])⟩) (by omega), Option.bind_some, if_neg h]
      rw [sumQ_congr (q := fun k => decide (kL k = 12 + q) && decide (kC k - 1 = m)) (q' := fun k => decide (kL k = 11 + (q + 1)) && decide (kC k = m + 1)) (fun x hx => by
        by_cases h6 : kL x.1 = 12 + q
        · have h7 := (H1.2.2.1 x hx).1.2.2.2 (by omega)
          rw [decide_eq_true h6, decide_eq_true (show kL x.1 = 11 + (q + 1) by omega)]
          by_cases h8 : kC x.1 - 1 = m
          · rw [decide_eq_true h8, decide_eq_true (show kC x.1 = m + 1 by omega)]
          · rw [decide_eq_false h8, decide_eq_false (show ¬ kC x.1 = m + 1 by omega)]
        · rw [decide_eq_false h6, decide_eq_false (show ¬ kL x.1 = 11 + (q + 1) by omega)]; rfl)]; rfl
  have hW : W_contributed N (inp, se, dr, rdr, b, c, hi, ck) f (nI m) = some (0, (inp, se, dr, rdr, b, c, hi, ck), vp_updL f 0 (nI (if ho = 0 then 0 else sumQ (fun k => decide (kL k = 11 + ho) && decide (kC k = m + 1)) E)).toInt64) := by
    unfold W_contributed
    rw [hP]; rfl
  exact fin_ok (k := k) (s' := (inp, se, dr, rdr, b, c, hi, ck)) (m' := ((0 : Int32), ch, ik, len, pa_, tok, err, hti, see, rk, bl, fx, rdd, le, ler, so, sor, wh, whr, now, kept, past, buf)) (f := f) (p := nI (if ho = 0 then 0 else sumQ (fun k => decide (kL k = 11 + ho) && decide (kC k = m + 1)) E)) hW hG rfl (RlW_thrown HR0 0)

theorem T_members {N : Nat} (hN : 600000 < N) (x1 : Int32) : StA RlW (fun s f => W_members N s f x1) (fun m => F_M_members N m x1) := by
  intro k s m f hk HR
  obtain ⟨inp, se, dr, rdr, b, c, hi, ck⟩ := s
  obtain ⟨th, ch, ik, len, pa_, tok, err, hti, see, rk, bl, fx, rdd, le, ler, so, sor, wh, whr, now, kept, past, buf⟩ := m
  obtain ⟨v, R⟩ := HR
  have R : RlC v k inp se b c hi ck ch ik len fx le so wh now kept past buf := R
  have HR0 : RlW k (inp, se, dr, rdr, b, c, hi, ck) (th, ch, ik, len, pa_, tok, err, hti, see, rk, bl, fx, rdd, le, ler, so, sor, wh, whr, now, kept, past, buf) := ⟨v, R⟩
  obtain ⟨hV, hM, hS, hNM, hIN, hB, hK, hH⟩ := R
  have hv3 := hV.1.2.2.2.2.1
  have hv4 := hV.1.2.2.2.2.2
  have hv1 := hV.1.2.2.1
  have hSs : SC v (inp, se, dr, rdr, b, c, hi, ck).2.1 := hS
  have hK' : (ck = 0 ∧ ik = 0) ∨ (ck = 1 ∧ ik = 1 ∧ BRL v (k + 1) c kept) := hK.imp id (fun x => ⟨x.1, x.2.1, BRL_mono x.2.2 (Nat.le_succ k)⟩)
  obtain ⟨d, E, Lg, c0, dy, db, rd, ⟨a1, a2⟩, ⟨a3, a4, a5⟩, ⟨H1, H2, H3⟩, ⟨HL, HLm⟩, H4, H5, H6, H7⟩ := hB.1
  by_cases h1 : outN x1 (v 4)
  · have hP : P_members N (inp, se, dr, rdr, b, c, hi, ck) x1 = some (4, 0, (inp, se, dr, rdr, b, c, hi, ck)) := by
      unfold P_members
      rw [hou_out hSs h1 N]; rfl
    have hG : F_M_members N (th, ch, ik, len, pa_, tok, err, hti, see, rk, bl, fx, rdd, le, ler, so, sor, wh, whr, now, kept, past, buf) x1 = some (0, ((1 : Int32), ch, ik, len, pa_, tok, err, hti, see, rk, bl, fx, rdd, le, ler, so, sor, wh, whr, now, kept, past, buf)) := by
      unfold F_M_members
      dsimp only
      unfold f_X11_members
      rw [M_lacksHouse x1 (n := v 4) (by omega) (hM 4 (by omega)), if_pos h1]; rfl
    exact fin_no (c := 1) (by dsimp only; unfold W_members; rw [hP]; rfl) (by decide) hG rfl (RlW_thrown HR0 1)
  have h1' := h1
  obtain ⟨h, hh4, rfl⟩ := outN_not (by omega) h1
  have h44 : h < 4 := by omega
  have hg30 : ∀ m, m < 12 → now (30 + m) = b.2.2.2.2.2.2.2.2.2.2.2.2.2.2.2.1 m := fun m hm' => (H6.1 m hm').2.2.1.symm
  have hP : P_members N (inp, se, dr, rdr, b, c, hi, ck) (nI h) = some (0, nI (bitsN b.2.2.2.2.2.2.2.2.2.2.2.2.2.2.2.1 (nI h) (v 3)), (inp, se, dr, rdr, b, c, hi, ck)) := by
    unfold P_members
    rw [hou_in hSs h1' N, Option.bind_some, if_pos rfl]
    dsimp only
    unfold F_B_memberBits
    rw [C_memberBits (v := v) (nI h) (hS.2.1 3 (by omega)) hv3 (by omega)]; rfl
  have hG : F_M_members N (th, ch, ik, len, pa_, tok, err, hti, see, rk, bl, fx, rdd, le, ler, so, sor, wh, whr, now, kept, past, buf) (nI h) = some (nI (bitsN b.2.2.2.2.2.2.2.2.2.2.2.2.2.2.2.1 (nI h) (v 3)), ((0 : Int32), ch, ik, len, pa_, tok, err, hti, see, rk, bl, fx, rdd, le, ler, so, sor, wh, whr, now, kept, past, buf)) := by
    unfold F_M_members
    dsimp only
    unfold f_X11_members
    rw [M_lacksHouse (nI h) (n := v 4) (by omega) (hM 4 (by omega)), if_neg h1', Option.bind_some, if_pos rfl]
    rw [show f_X11_members_b14 (nI h) 71 72470 0 fx now N 0 0 = _ from M_mem_from (nI h) 0 hM hv3 hg30 N 0 (Nat.zero_le _) (by omega)]; rfl
  have hW : W_members N (inp, se, dr, rdr, b, c, hi, ck) f (nI h) = some (0, (inp, se, dr, rdr, b, c, hi, ck), vp_updL f 0 (nI (bitsN b.2.2.2.2.2.2.2.2.2.2.2.2.2.2.2.1 (nI h) (v 3))).toInt64) := by
    unfold W_members
    rw [hP]; rfl
  exact fin_ok (k := k) (s' := (inp, se, dr, rdr, b, c, hi, ck)) (m' := ((0 : Int32), ch, ik, len, pa_, tok, err, hti, see, rk, bl, fx, rdd, le, ler, so, sor, wh, whr, now, kept, past, buf)) (f := f) (p := nI (bitsN b.2.2.2.2.2.2.2.2.2.2.2.2.2.2.2.1 (nI h) (v 3))) hW hG rfl (RlW_thrown HR0 0)

theorem T_poolBalance {N : Nat} (hN : 600000 < N) (x1 : Int32) : StA RlW (fun s f => W_poolBalance N s f x1) (fun m => F_M_poolBalance N m x1) := by
  intro k s m f hk HR
  obtain ⟨inp, se, dr, rdr, b, c, hi, ck⟩ := s
  obtain ⟨th, ch, ik, len, pa_, tok, err, hti, see, rk, bl, fx, rdd, le, ler, so, sor, wh, whr, now, kept, past, buf⟩ := m
  obtain ⟨v, R⟩ := HR
  have R : RlC v k inp se b c hi ck ch ik len fx le so wh now kept past buf := R
  have HR0 : RlW k (inp, se, dr, rdr, b, c, hi, ck) (th, ch, ik, len, pa_, tok, err, hti, see, rk, bl, fx, rdd, le, ler, so, sor, wh, whr, now, kept, past, buf) := ⟨v, R⟩
  obtain ⟨hV, hM, hS, hNM, hIN, hB, hK, hH⟩ := R
  have hv3 := hV.1.2.2.2.2.1
  have hv4 := hV.1.2.2.2.2.2
  have hv1 := hV.1.2.2.1
  have hSs : SC v (inp, se, dr, rdr, b, c, hi, ck).2.1 := hS
  have hK' : (ck = 0 ∧ ik = 0) ∨ (ck = 1 ∧ ik = 1 ∧ BRL v (k + 1) c kept) := hK.imp id (fun x => ⟨x.1, x.2.1, BRL_mono x.2.2 (Nat.le_succ k)⟩)
  obtain ⟨d, E, Lg, c0, dy, db, rd, ⟨a1, a2⟩, ⟨a3, a4, a5⟩, ⟨H1, H2, H3⟩, ⟨HL, HLm⟩, H4, H5, H6, H7⟩ := hB.1
  by_cases h1 : outN x1 (v 4)
  · have hP : P_poolBalance N (inp, se, dr, rdr, b, c, hi, ck) x1 = some (4, 0, (inp, se, dr, rdr, b, c, hi, ck)) := by
      unfold P_poolBalance
      rw [hou_out hSs h1 N]; rfl
    have hG : F_M_poolBalance N (th, ch, ik, len, pa_, tok, err, hti, see, rk, bl, fx, rdd, le, ler, so, sor, wh, whr, now, kept, past, buf) x1 = some (0, ((1 : Int32), ch, ik, len, pa_, tok, err, hti, see, rk, bl, fx, rdd, le, ler, so, sor, wh, whr, now, kept, past, buf)) := by
      unfold F_M_poolBalance
      dsimp only
      unfold f_X11_poolBalance
      rw [M_lacksHouse x1 (n := v 4) (by omega) (hM 4 (by omega)), if_pos h1]; rfl
    exact fin_no (c := 1) (by dsimp only; unfold W_poolBalance; rw [hP]; rfl) (by decide) hG rfl (RlW_thrown HR0 1)
  have h1' := h1
  obtain ⟨h, hh4, rfl⟩ := outN_not (by omega) h1
  have h44 : h < 4 := by omega
  have hpl : f_X10_poolList (nI h) = some (nI (12 + h)) := by
    have h5 := C_poolList (h := h + 1) (by omega)
    rw [if_neg (by omega), show 11 + (h + 1) = 12 + h by omega] at h5
    exact h5
  have hP : P_poolBalance N (inp, se, dr, rdr, b, c, hi, ck) (nI h) = some (0, nI (sumQ (fun k => decide (kL k = 12 + h)) E), (inp, se, dr, rdr, b, c, hi, ck)) := by
    unfold P_poolBalance
    rw [hou_in hSs h1' N, Option.bind_some, if_pos rfl]
    dsimp only
    rw [show F_B_cohorts N b = some () from rfl, Option.bind_some, hpl, Option.bind_some]
    unfold F_H_sum
    rw [C_balance H1 (by omega) (by omega)]; rfl
  have hG : F_M_poolBalance N (th, ch, ik, len, pa_, tok, err, hti, see, rk, bl, fx, rdd, le, ler, so, sor, wh, whr, now, kept, past, buf) (nI h) = some (nI (sumQ (fun k => decide (kL k = 12 + h)) E), ((0 : Int32), ch, ik, len, pa_, tok, err, hti, see, rk, bl, fx, rdd, le, ler, so, sor, wh, whr, now, kept, past, buf)) := by
    unfold F_M_poolBalance
    dsimp only
    unfold f_X11_poolBalance
    rw [M_lacksHouse (nI h) (n := v 4) (by omega) (hM 4 (by omega)), if_neg h1', Option.bind_some, if_pos rfl]
    rw [M_inPool hV hM H2 H1.2.1 H1.2.2.1 H3 a5 a4 h44 (f := fun _ => true) (fun m _ => ⟨fun _ => rfl, fun _ => Or.inl rfl⟩) (by omega), redeem_split (m := 0) H1.2.2.1 H3 h]; rfl
  have hW : W_poolBalance N (inp, se, dr, rdr, b, c, hi, ck) f (nI h) = some (0, (inp, se, dr, rdr, b, c, hi, ck), vp_updL f 0 (nI (sumQ (fun k => decide (kL k = 12 + h)) E)).toInt64) := by
    unfold W_poolBalance
    rw [hP]; rfl
  exact fin_ok (k := k) (s' := (inp, se, dr, rdr, b, c, hi, ck)) (m' := ((0 : Int32), ch, ik, len, pa_, tok, err, hti, see, rk, bl, fx, rdd, le, ler, so, sor, wh, whr, now, kept, past, buf)) (f := f) (p := nI (sumQ (fun k => decide (kL k = 12 + h)) E)) hW hG rfl (RlW_thrown HR0 0)

theorem T_wouldEarn {N : Nat} (hN : 600000 < N) (x1 : Int32) (x2 : Int32) (x3 : Int32) : StA RlW (fun s f => W_wouldEarn N s f x1 x2 x3) (fun m => F_M_wouldEarn N m x1 x2 x3) := by
  intro k s m f hk HR
  obtain ⟨inp, se, dr, rdr, b, c, hi, ck⟩ := s
  obtain ⟨th, ch, ik, len, pa_, tok, err, hti, see, rk, bl, fx, rdd, le, ler, so, sor, wh, whr, now, kept, past, buf⟩ := m
  obtain ⟨v, R⟩ := HR
  have R : RlC v k inp se b c hi ck ch ik len fx le so wh now kept past buf := R
  have HR0 : RlW k (inp, se, dr, rdr, b, c, hi, ck) (th, ch, ik, len, pa_, tok, err, hti, see, rk, bl, fx, rdd, le, ler, so, sor, wh, whr, now, kept, past, buf) := ⟨v, R⟩
  obtain ⟨hV, hM, hS, hNM, hIN, hB, hK, hH⟩ := R
  have hv3 := hV.1.2.2.2.2.1
  have hv4 := hV.1.2.2.2.2.2
  have hv1 := hV.1.2.2.1
  have hSs : SC v (inp, se, dr, rdr, b, c, hi, ck).2.1 := hS
  have hK' : (ck = 0 ∧ ik = 0) ∨ (ck = 1 ∧ ik = 1 ∧ BRL v (k + 1) c kept) := hK.imp id (fun x => ⟨x.1, x.2.1, BRL_mono x.2.2 (Nat.le_succ k)⟩)
  obtain ⟨d, E, Lg, c0, dy, db, rd, ⟨a1, a2⟩, ⟨a3, a4, a5⟩, ⟨H1, H2, H3⟩, ⟨HL, HLm⟩, H4, H5, H6, H7⟩ := hB.1
  by_cases h1 : outN x1 (v 3)
  · have hP : P_wouldEarn N (inp, se, dr, rdr, b, c, hi, ck) x1 x2 x3 = some (4, 0, (inp, se, dr, rdr, b, c, hi, ck)) := by
      unfold P_wouldEarn
      rw [mem_out hSs h1 N]; rfl
    have hG : F_M_wouldEarn N (th, ch, ik, len, pa_, tok, err, hti, see, rk, bl, fx, rdd, le, ler, so, sor, wh, whr, now, kept, past, buf) x1 x2 x3 = some (0, ((1 : Int32), ch, ik, len, pa_, tok, err, hti, see, rk, bl, fx, rdd, le, ler, so, sor, wh, whr, now, kept, past, buf)) := by
      unfold F_M_wouldEarn
      dsimp only
      unfold f_X11_wouldEarn f_X11_whyNotBuy
      rw [M_isMember x1 (n := v 3) (by omega) (hM 3 (by omega)), if_pos h1]; rfl
    exact fin_no (c := 1) (by dsimp only; unfold W_wouldEarn; rw [hP]; rfl) (by decide) hG rfl (RlW_thrown HR0 1)
  by_cases h2 : outN x2 (v 1)
  · have hP : P_wouldEarn N (inp, se, dr, rdr, b, c, hi, ck) x1 x2 x3 = some (4, 0, (inp, se, dr, rdr, b, c, hi, ck)) := by
      unfold P_wouldEarn
      rw [mem_in hSs h1 N, Option.bind_some, if_pos rfl, cat_out hSs h2 N]; rfl
    have hG : F_M_wouldEarn N (th, ch, ik, len, pa_, tok, err, hti, see, rk, bl, fx, rdd, le, ler, so, sor, wh, whr, now, kept, past, buf) x1 x2 x3 = some (0, ((1 : Int32), ch, ik, len, pa_, tok, err, hti, see, rk, bl, fx, rdd, le, ler, so, sor, wh, whr, now, kept, past, buf)) := by
      unfold F_M_wouldEarn
      dsimp only
      unfold f_X11_wouldEarn f_X11_whyNotBuy
      rw [M_isMember x1 (n := v 3) (by omega) (hM 3 (by omega)), if_neg h1, Option.bind_some, if_neg (by decide), M_isCategory x2 (n := v 1) (by omega) (hM 1 (by omega)), if_pos h2]; rfl
    exact fin_no (c := 1) (by dsimp only; unfold W_wouldEarn; rw [hP]; rfl) (by decide) hG rfl (RlW_thrown HR0 1)
  by_cases h3 : outR x3 1 100000
  · have hP : P_wouldEarn N (inp, se, dr, rdr, b, c, hi, ck) x1 x2 x3 = some (2, 0, (inp, se, dr, rdr, b, c, hi, ck)) := by
      unfold P_wouldEarn
      rw [mem_in hSs h1 N, Option.bind_some, if_pos rfl, cat_in hSs h2 N, Option.bind_some, if_pos rfl, btw_out h3]; rfl
    have hG : F_M_wouldEarn N (th, ch, ik, len, pa_, tok, err, hti, see, rk, bl, fx, rdd, le, ler, so, sor, wh, whr, now, kept, past, buf) x1 x2 x3 = some (0, ((2 : Int32), ch, ik, len, pa_, tok, err, hti, see, rk, bl, fx, rdd, le, ler, so, sor, wh, whr, now, kept, past, buf)) := by
      unfold F_M_wouldEarn
      dsimp only
      unfold f_X11_wouldEarn f_X11_whyNotBuy
      rw [M_isMember x1 (n := v 3) (by omega) (hM 3 (by omega)), if_neg h1, Option.bind_some, if_neg (by decide), M_isCategory x2 (n := v 1) (by omega) (hM 1 (by omega)), if_neg h2, Option.bind_some, if_neg (by decide), show (1 : Int64) = (1 : Int32).toInt64 from rfl, show (100000 : Int64) = (100000 : Int32).toInt64 from rfl, isIn_out h3]; rfl
    exact fin_no (c := 2) (by dsimp only; unfold W_wouldEarn; rw [hP]; rfl) (by decide) hG rfl (RlW_thrown HR0 2)
  have h1' := h1
  have h2' := h2
  have h3' := h3
  obtain ⟨m, hm3, rfl⟩ := outN_not (by omega) h1
  have hm12 : m < 12 := by omega
  obtain ⟨ct, hct, rfl⟩ := outN_not (by omega) h2
  obtain ⟨x, hx1, hx2, rfl⟩ := outR_not (a := 1) (b := 100000) (by decide) h3 (by decide)
  obtain ⟨t, t4, t5⟩ := (H6.1 m hm12).2.2.2.1
  have hcw : ∀ ct x, ct < v 1 → x ≤ 100000 → F_B_worth N se b (nI m) (nI ct) (nI x) = some (nI (worthN v t ct x d)) := by
    intro ct x h4 h5
    unfold F_B_worth
    rw [a3, C_worth hV hm12 (t := t) (by rw [(H6.1 m hm12).1, t5]) t4 h4 h5 (by omega) (hS.2.1 2 (by omega)) (fun t h => (hS.2.2.1 t h).2) hS.2.2.2.1 hS.2.2.2.2.1 (by omega)]; rfl
  have hmw : ∀ ct x, ct < v 1 → x ≤ 100000 → f_X11_pointsOf N (nI m) (nI ct) (nI x) 71 72470 fx now = some (nI (worthN v t ct x d)) := fun ct x h4 h5 => M_pointsOf hV hM hm12 t5 a4 t4 h4 h5 (by omega) (by omega)
  have hP : P_wouldEarn N (inp, se, dr, rdr, b, c, hi, ck) (nI m) (nI ct) (nI x) = some (0, nI (worthN v t ct x d), (inp, se, dr, rdr, b, c, hi, ck)) := by
    unfold P_wouldEarn
    rw [mem_in hSs h1' N, Option.bind_some, if_pos rfl, cat_in hSs h2' N, Option.bind_some, if_pos rfl, btw_in h3', Option.bind_some, if_pos rfl]
    dsimp only
    rw [hcw ct x hct hx2]; rfl
  have hG : F_M_wouldEarn N (th, ch, ik, len, pa_, tok, err, hti, see, rk, bl, fx, rdd, le, ler, so, sor, wh, whr, now, kept, past, buf) (nI m) (nI ct) (nI x) = some (nI (worthN v t ct x d), ((0 : Int32), ch, ik, len, pa_, tok, err, hti, see, rk, bl, fx, rdd, le, ler, so, sor, wh, whr, now, kept, past, buf)) := by
    unfold F_M_wouldEarn
    dsimp only
    unfold f_X11_wouldEarn f_X11_whyNotBuy
    rw [M_isMember (nI m) (n := v 3) (by omega) (hM 3 (by omega)), if_neg h1', Option.bind_some, if_neg (by decide), M_isCategory (nI ct) (n := v 1) (by omega) (hM 1 (by omega)), if_neg h2', Option.bind_some, if_neg (by decide), show (1 : Int64) = (1 : Int32).toInt64 from rfl, show (100000 : Int64) = (100000 : Int32).toInt64 from rfl, isIn_in h3', Option.bind_some, if_neg (by decide), Option.bind_some, if_pos (Int32.le_refl 0), hmw ct x hct hx2]; rfl
  have hW : W_wouldEarn N (inp, se, dr, rdr, b, c, hi, ck) f (nI m) (nI ct) (nI x) = some (0, (inp, se, dr, rdr, b, c, hi, ck), vp_updL f 0 (nI (worthN v t ct x d)).toInt64) := by
    unfold W_wouldEarn
    rw [hP]; rfl
  exact fin_ok (k := k) (s' := (inp, se, dr, rdr, b, c, hi, ck)) (m' := ((0 : Int32), ch, ik, len, pa_, tok, err, hti, see, rk, bl, fx, rdd, le, ler, so, sor, wh, whr, now, kept, past, buf)) (f := f) (p := nI (worthN v t ct x d)) hW hG rfl (RlW_thrown HR0 0)

theorem T_setup {N : Nat} (hN : 600000 < N) (x1 : Int32) : StA RlW (fun s f => W_setup N s f x1) (fun m => F_M_setup N m x1) := by
  intro k s m f hk HR
  obtain ⟨inp, se, dr, rdr, b, c, hi, ck⟩ := s
  obtain ⟨th, ch, ik, len, pa_, tok, err, hti, see, rk, bl, fx, rdd, le, ler, so, sor, wh, whr, now, kept, past, buf⟩ := m
  obtain ⟨v, R⟩ := HR
  have R : RlC v k inp se b c hi ck ch ik len fx le so wh now kept past buf := R
  have HR0 : RlW k (inp, se, dr, rdr, b, c, hi, ck) (th, ch, ik, len, pa_, tok, err, hti, see, rk, bl, fx, rdd, le, ler, so, sor, wh, whr, now, kept, past, buf) := ⟨v, R⟩
  obtain ⟨hV, hM, hS, hNM, hIN, hB, hK, hH⟩ := R
  have hv3 := hV.1.2.2.2.2.1
  have hv4 := hV.1.2.2.2.2.2
  have hv1 := hV.1.2.2.1
  have hSs : SC v (inp, se, dr, rdr, b, c, hi, ck).2.1 := hS
  have hK' : (ck = 0 ∧ ik = 0) ∨ (ck = 1 ∧ ik = 1 ∧ BRL v (k + 1) c kept) := hK.imp id (fun x => ⟨x.1, x.2.1, BRL_mono x.2.2 (Nat.le_succ k)⟩)
  by_cases h1 : outR x1 0 7
  · have hP : P_setup N (inp, se, dr, rdr, b, c, hi, ck) x1 = some (2, 0, (inp, se, dr, rdr, b, c, hi, ck)) := by
      unfold P_setup
      rw [btw_out h1]; rfl
    have hG : F_M_setup N (th, ch, ik, len, pa_, tok, err, hti, see, rk, bl, fx, rdd, le, ler, so, sor, wh, whr, now, kept, past, buf) x1 = some (0, ((1 : Int32), ch, ik, len, pa_, tok, err, hti, see, rk, bl, fx, rdd, le, ler, so, sor, wh, whr, now, kept, past, buf)) := by
      unfold F_M_setup
      dsimp only
      unfold f_X11_setup
      rw [show (0 : Int64) = (0 : Int32).toInt64 from rfl, show (7 : Int64) = (7 : Int32).toInt64 from rfl, isIn_out h1]; rfl
    exact fin_no (c := 1) (by dsimp only; unfold W_setup; rw [hP]; rfl) (by decide) hG rfl (RlW_thrown HR0 1)
  have h1' := h1
  obtain ⟨n, _, hn, rfl⟩ := outR_not (a := 0) (b := 7) (by decide) h1 (by decide)
  have gn := grd (i := n) (n := 71) (by omega) (by decide)
  have hP : P_setup N (inp, se, dr, rdr, b, c, hi, ck) (nI n) = some (0, nI (v n), (inp, se, dr, rdr, b, c, hi, ck)) := by
    unfold P_setup
    rw [btw_in h1', Option.bind_some, if_pos rfl]
    dsimp only
    by_cases h5 : n = 5
    · rw [if_pos (show nI n = (5 : Int32) by rw [h5]; rfl), h5]
      unfold F_S_life f_X7_life
      rw [hS.1.1]; rfl
    · rw [if_neg (show ¬ nI n = (5 : Int32) from fun hh => h5 ((nI_eq (by omega) (by decide)).mp (show nI n = nI 5 from hh)))]
      by_cases h6 : n = 6
      · rw [if_pos (show nI n = (6 : Int32) by rw [h6]; rfl), h6]
        unfold F_S_window f_X7_window
        rw [hS.1.2.1]; rfl
      · rw [if_neg (show ¬ nI n = (6 : Int32) from fun hh => h6 ((nI_eq (by omega) (by decide)).mp (show nI n = nI 6 from hh)))]
        by_cases h7 : n = 7
        · rw [if_pos (show nI n = (7 : Int32) by rw [h7]; rfl), h7]
          unfold F_S_grace f_X7_grace
          rw [hS.1.2.2]; rfl
        · rw [if_neg (show ¬ nI n = (7 : Int32) from fun hh => h7 ((nI_eq (by omega) (by decide)).mp (show nI n = nI 7 from hh))), cnt_in hS (by omega)]; rfl
  have hG : F_M_setup N (th, ch, ik, len, pa_, tok, err, hti, see, rk, bl, fx, rdd, le, ler, so, sor, wh, whr, now, kept, past, buf) (nI n) = some (nI (v n), ((0 : Int32), ch, ik, len, pa_, tok, err, hti, see, rk, bl, fx, rdd, le, ler, so, sor, wh, whr, now, kept, past, buf)) := by
    unfold F_M_setup
    dsimp only
    unfold f_X11_setup
    rw [show (0 : Int64) = (0 : Int32).toInt64 from rfl, show (7 : Int64) = (7 : Int32).toInt64 from rfl, isIn_in h1', Option.bind_some, if_neg (by decide), if_neg gn, nI_clamp (by omega), hM n (by omega)]; rfl
  have hW : W_setup N (inp, se, dr, rdr, b, c, hi, ck) f (nI n) = some (0, (inp, se, dr, rdr, b, c, hi, ck), vp_updL f 0 (nI (v n)).toInt64) := by
    unfold W_setup
    rw [hP]; rfl
  exact fin_ok (k := k) (s' := (inp, se, dr, rdr, b, c, hi, ck)) (m' := ((0 : Int32), ch, ik, len, pa_, tok, err, hti, see, rk, bl, fx, rdd, le, ler, so, sor, wh, whr, now, kept, past, buf)) (f := f) (p := nI (v n)) hW hG rfl (RlW_thrown HR0 0)

theorem T_threshold {N : Nat} (hN : 600000 < N) (x1 : Int32) : StA RlW (fun s f => W_threshold N s f x1) (fun m => F_M_threshold N m x1) := by
  intro k s m f hk HR
  obtain ⟨inp, se, dr, rdr, b, c, hi, ck⟩ := s
  obtain ⟨th, ch, ik, len, pa_, tok, err, hti, see, rk, bl, fx, rdd, le, ler, so, sor, wh, whr, now, kept, past, buf⟩ := m
  obtain ⟨v, R⟩ := HR
  have R : RlC v k inp se b c hi ck ch ik len fx le so wh now kept past buf := R
  have HR0 : RlW k (inp, se, dr, rdr, b, c, hi, ck) (th, ch, ik, len, pa_, tok, err, hti, see, rk, bl, fx, rdd, le, ler, so, sor, wh, whr, now, kept, past, buf) := ⟨v, R⟩
  obtain ⟨hV, hM, hS, hNM, hIN, hB, hK, hH⟩ := R
  have hv3 := hV.1.2.2.2.2.1
  have hv4 := hV.1.2.2.2.2.2
  have hv1 := hV.1.2.2.1
  have hSs : SC v (inp, se, dr, rdr, b, c, hi, ck).2.1 := hS
  have hK' : (ck = 0 ∧ ik = 0) ∨ (ck = 1 ∧ ik = 1 ∧ BRL v (k + 1) c kept) := hK.imp id (fun x => ⟨x.1, x.2.1, BRL_mono x.2.2 (Nat.le_succ k)⟩)
  have hv0 := hV.1.1
  have hv05 := hV.1.2.1
  have hc0 : F_S_count N se (0 : Int32) = some (nI (v 0)) := cnt_in hS (i := 0) (by omega) N
  by_cases h1 : outN x1 (v 0)
  · have hP : P_threshold N (inp, se, dr, rdr, b, c, hi, ck) x1 = some (4, 0, (inp, se, dr, rdr, b, c, hi, ck)) := by
      unfold P_threshold
      by_cases h2 : x1 < 0
      · rw [if_pos h2]
      · dsimp only
        rw [if_neg h2, hc0, Option.bind_some, if_neg (fun hh => h1.elim h2 (fun h3 => Int32.not_lt.mpr h3 hh))]
    have hG : F_M_threshold N (th, ch, ik, len, pa_, tok, err, hti, see, rk, bl, fx, rdd, le, ler, so, sor, wh, whr, now, kept, past, buf) x1 = some (0, ((1 : Int32), ch, ik, len, pa_, tok, err, hti, see, rk, bl, fx, rdd, le, ler, so, sor, wh, whr, now, kept, past, buf)) := by
      unfold F_M_threshold
      dsimp only
      unfold f_X11_threshold
      rw [if_neg (by decide), show (0 : Int32).toNatClampNeg = 0 from rfl, hM 0 (by omega), M_isInN x1 (by omega), if_pos h1]; rfl
    exact fin_no (c := 1) (by dsimp only; unfold W_threshold; rw [hP]; rfl) (by decide) hG rfl (RlW_thrown HR0 1)
  have h1' := h1
  obtain ⟨n, hn, rfl⟩ := outN_not (by omega) h1
  have g8 := grd (i := 8 + n) (n := 71) (by omega) (by decide)
  have hth : F_S_thresholdOf N se (nI n) = some (nI (v (8 + n))) := by
    unfold F_S_thresholdOf f_X7_thresholdOf
    rw [X6_at_in _ h5' (by omega), (hS.2.2.1 n hn).1]; rfl
  have hP : P_threshold N (inp, se, dr, rdr, b, c, hi, ck) (nI n) = some (0, nI (v (8 + n)), (inp, se, dr, rdr, b, c, hi, ck)) := by
    unfold P_threshold
    dsimp only
    rw [if_neg (nI_pos (by omega)), hc0, Option.bind_some, if_pos ((nI_ltI (by omega) (by omega)).mpr hn), hth]; rfl
  have hG : F_M_threshold N (th, ch, ik, len, pa_, tok, err, hti, see, rk, bl, fx, rdd, le, ler, so, sor, wh, whr, now, kept, past, buf) (nI n) = some (nI (v (8 + n)), ((0 : Int32), ch, ik, len, pa_, tok, err, hti, see, rk, bl, fx, rdd, le, ler, so, sor, wh, whr, now, kept, past, buf)) := by
    unfold F_M_threshold
    dsimp only
    unfold f_X11_threshold
    rw [if_neg (by decide), show (0 : Int32).toNatClampNeg = 0 from rfl, hM 0 (by omega), M_isInN (nI n) (by omega), if_neg h1', Option.bind_some, if_neg (by decide), show (8 : Int32) = nI 8 from rfl, nI_add, if_neg g8, nI_clamp (by omega), hM _ (by omega)]; rfl
  have hW : W_threshold N (inp, se, dr, rdr, b, c, hi, ck) f (nI n) = some (0, (inp, se, dr, rdr, b, c, hi, ck), vp_updL f 0 (nI (v (8 + n))).toInt64) := by
    unfold W_threshold
    rw [hP]; rfl
  exact fin_ok (k := k) (s' := (inp, se, dr, rdr, b, c, hi, ck)) (m' := ((0 : Int32), ch, ik, len, pa_, tok, err, hti, see, rk, bl, fx, rdd, le, ler, so, sor, wh, whr, now, kept, past, buf)) (f := f) (p := nI (v (8 + n))) hW hG rfl (RlW_thrown HR0 0)

theorem T_redeemedWith {N : Nat} (hN : 600000 < N) (x1 : Int32) : StA RlW (fun s f => W_redeemedWith N s f x1) (fun m => F_M_redeemedWith N m x1) := by
  intro k s m f hk HR
  obtain ⟨inp, se, dr, rdr, b, c, hi, ck⟩ := s
  obtain ⟨th, ch, ik, len, pa_, tok, err, hti, see, rk, bl, fx, rdd, le, ler, so, sor, wh, whr, now, kept, past, buf⟩ := m
  obtain ⟨v, R⟩ := HR
  have R : RlC v k inp se b c hi ck ch ik len fx le so wh now kept past buf := R
  have HR0 : RlW k (inp, se, dr, rdr, b, c, hi, ck) (th, ch, ik, len, pa_, tok, err, hti, see, rk, bl, fx, rdd, le, ler, so, sor, wh, whr, now, kept, past, buf) := ⟨v, R⟩
  obtain ⟨hV, hM, hS, hNM, hIN, hB, hK, hH⟩ := R
  have hv3 := hV.1.2.2.2.2.1
  have hv4 := hV.1.2.2.2.2.2
  have hv1 := hV.1.2.2.1
  have hSs : SC v (inp, se, dr, rdr, b, c, hi, ck).2.1 := hS
  have hK' : (ck = 0 ∧ ik = 0) ∨ (ck = 1 ∧ ik = 1 ∧ BRL v (k + 1) c kept) := hK.imp id (fun x => ⟨x.1, x.2.1, BRL_mono x.2.2 (Nat.le_succ k)⟩)
  obtain ⟨d, E, Lg, c0, dy, db, rd, ⟨a1, a2⟩, ⟨a3, a4, a5⟩, ⟨H1, H2, H3⟩, ⟨HL, HLm⟩, H4, H5, H6, H7⟩ := hB.1
  by_cases h1 : outR x1 0 9
  · have hP : P_redeemedWith N (inp, se, dr, rdr, b, c, hi, ck) x1 = some (2, 0, (inp, se, dr, rdr, b, c, hi, ck)) := by
      unfold P_redeemedWith
      rw [btw_out h1]; rfl
    have hG : F_M_redeemedWith N (th, ch, ik, len, pa_, tok, err, hti, see, rk, bl, fx, rdd, le, ler, so, sor, wh, whr, now, kept, past, buf) x1 = some (0, ((1 : Int32), ch, ik, len, pa_, tok, err, hti, see, rk, bl, fx, rdd, le, ler, so, sor, wh, whr, now, kept, past, buf)) := by
      unfold F_M_redeemedWith
      dsimp only
      unfold f_X11_redeemedWith
      rw [show (0 : Int64) = (0 : Int32).toInt64 from rfl, show (9 : Int64) = (9 : Int32).toInt64 from rfl, isIn_out h1]; rfl
    exact fin_no (c := 1) (by dsimp only; unfold W_redeemedWith; rw [hP]; rfl) (by decide) hG rfl (RlW_thrown HR0 1)
  have h1' := h1
  obtain ⟨n, _, hn, rfl⟩ := outR_not (a := 0) (b := 9) (by decide) h1 (by decide)
  have g8 := grd (i := 8 + n) (n := 72470) (by omega) (by decide)
  obtain ⟨r1, r2⟩ := H7.2.1 n (by omega)
  have hP : P_redeemedWith N (inp, se, dr, rdr, b, c, hi, ck) (nI n) = some (0, nI (rd n), (inp, se, dr, rdr, b, c, hi, ck)) := by
    unfold P_redeemedWith
    rw [btw_in h1', Option.bind_some, if_pos rfl]
    unfold F_B_redeemedIn f_X0_redeemedIn
    dsimp only
    rw [X6_at_in _ h10 (by omega), r1]; rfl
  have hG : F_M_redeemedWith N (th, ch, ik, len, pa_, tok, err, hti, see, rk, bl, fx, rdd, le, ler, so, sor, wh, whr, now, kept, past, buf) (nI n) = some (nI (rd n), ((0 : Int32), ch, ik, len, pa_, tok, err, hti, see, rk, bl, fx, rdd, le, ler, so, sor, wh, whr, now, kept, past, buf)) := by
    unfold F_M_redeemedWith
    dsimp only
    unfold f_X11_redeemedWith
    rw [show (0 : Int64) = (0 : Int32).toInt64 from rfl, show (9 : Int64) = (9 : Int32).toInt64 from rfl, isIn_in h1', Option.bind_some, if_neg (by decide), show (8 : Int32) = nI 8 from rfl, nI_add, if_neg g8, nI_clamp (by omega), r2]; rfl
  have hW : W_redeemedWith N (inp, se, dr, rdr, b, c, hi, ck) f (nI n) = some (0, (inp, se, dr, rdr, b, c, hi, ck), vp_updL f 0 (nI (rd n)).toInt64) := by
    unfold W_redeemedWith
    rw [hP]; rfl
  exact fin_ok (k := k) (s' := (inp, se, dr, rdr, b, c, hi, ck)) (m' := ((0 : Int32), ch, ik, len, pa_, tok, err, hti, see, rk, bl, fx, rdd, le, ler, so, sor, wh, whr, now, kept, past, buf)) (f := f) (p := nI (rd n)) hW hG rfl (RlW_thrown HR0 0)

