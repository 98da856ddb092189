theorem C_isKept {x : Int32} {c : Nat} (hc : c < 2 ^ 20) : f_X5_isKept x (nI c) = some (if x < nI (c - 40) ∨ nI c ≤ x then 0 else 1) := by
  unfold f_X5_isKept
  by_cases h1 : x < 0
  · rw [if_pos h1, if_pos (Or.inl (Int32.lt_of_lt_of_le h1 (by rw [← nI_0, nI_leI (by omega) (by omega)]; omega)))]
  · rw [if_neg h1]
    obtain ⟨j, h2, h3⟩ := nI_of h1
    subst h3
    by_cases h4 : nI c ≤ nI j
    · rw [if_pos h4, if_pos (Or.inr h4)]
    · rw [if_neg h4]
      have h5 : nI j < nI c - (40 : Int32) ↔ nI j < nI (c - 40) := by
        rw [nI_ltI h2 (by omega), Int32.lt_iff_toInt_lt, show (40 : Int32) = nI 40 from rfl, subI_toInt (by omega) (by decide), nI_toInt h2]; omega
      by_cases h6 : nI j < nI (c - 40)
      · rw [if_pos (h5.mpr h6), if_pos (Or.inl h6)]
      · rw [if_neg (fun hh => h6 (h5.mp hh)), if_neg (fun hh => hh.elim h6 h4)]

theorem T_setShare {N : Nat} (hN : 600000 < N) (x1 : Int32) (x2 : Int32) : StA RlW (fun s f => W_setShare N s f x1 x2) (fun m => F_M_setShare N m x1 x2) := by
  intro k s m f hk HR
  obtain ⟨inp, se, dr, rdr, b, c, hi, ck⟩ := s
  obtain ⟨th, ch, ik, len, pa_, tok, err, hti, see, rk, bl, fx, rdd, le, ler, so, sor, wh, whr, now, kept, past, buf⟩ := m
  obtain ⟨v, R⟩ := HR
  have R : RlC v k inp se b c hi ck ch ik len fx le so wh now kept past buf := R
  have HR0 : RlW k (inp, se, dr, rdr, b, c, hi, ck) (th, ch, ik, len, pa_, tok, err, hti, see, rk, bl, fx, rdd, le, ler, so, sor, wh, whr, now, kept, past, buf) := ⟨v, R⟩
  obtain ⟨hV, hM, hS, hNM, hIN, hB, hK, hH⟩ := R
  have hv3 := hV.1.2.2.2.2.1
  have hv4 := hV.1.2.2.2.2.2
  have hv1 := hV.1.2.2.1
  have hSs : SC v (inp, se, dr, rdr, b, c, hi, ck).2.1 := hS
  have hK' : (ck = 0 ∧ ik = 0) ∨ (ck = 1 ∧ ik = 1 ∧ BRL v (k + 1) c kept) := hK.imp id (fun x => ⟨x.1, x.2.1, BRL_mono x.2.2 (Nat.le_succ k)⟩)
  by_cases h1 : outN x1 (v 4)
  · have hP : P_setShare N (inp, se, dr, rdr, b, c, hi, ck) x1 x2 = some (4, 0, (inp, se, dr, rdr, b, c, hi, ck)) := by
      unfold P_setShare
      rw [hou_out hSs h1 N]; rfl
    have hG : F_M_setShare N (th, ch, ik, len, pa_, tok, err, hti, see, rk, bl, fx, rdd, le, ler, so, sor, wh, whr, now, kept, past, buf) x1 x2 = some (0, ((1 : Int32), ch, ik, len, pa_, tok, err, hti, see, rk, bl, fx, rdd, le, ler, so, sor, wh, whr, now, kept, past, buf)) := by
      unfold F_M_setShare
      dsimp only
      unfold f_X11_setShare
      rw [M_isHouse x1 (n := v 4) (by omega) (hM 4 (by omega)), if_pos h1]; rfl
    exact fin_no (c := 1) (by dsimp only; unfold W_setShare; rw [hP]; rfl) (by decide) hG rfl (RlW_thrown HR0 1)
  by_cases h2 : outR x2 0 100
  · have hP : P_setShare N (inp, se, dr, rdr, b, c, hi, ck) x1 x2 = some (2, 0, (inp, se, dr, rdr, b, c, hi, ck)) := by
      unfold P_setShare
      rw [hou_in hSs h1 N, Option.bind_some, if_pos rfl, btw_out h2]; rfl
    have hG : F_M_setShare N (th, ch, ik, len, pa_, tok, err, hti, see, rk, bl, fx, rdd, le, ler, so, sor, wh, whr, now, kept, past, buf) x1 x2 = some (0, ((2 : Int32), ch, ik, len, pa_, tok, err, hti, see, rk, bl, fx, rdd, le, ler, so, sor, wh, whr, now, kept, past, buf)) := by
      unfold F_M_setShare
      dsimp only
      unfold f_X11_setShare
      rw [M_isHouse x1 (n := v 4) (by omega) (hM 4 (by omega)), if_neg h1, Option.bind_some, if_neg (by decide), show (0 : Int64) = (0 : Int32).toInt64 from rfl, show (100 : Int64) = (100 : Int32).toInt64 from rfl, isIn_out h2]; rfl
    exact fin_no (c := 2) (by dsimp only; unfold W_setShare; rw [hP]; rfl) (by decide) hG rfl (RlW_thrown HR0 2)
  have h1' := h1
  have h2' := h2
  obtain ⟨h, hh, rfl⟩ := outN_not (by omega) h1
  obtain ⟨p, _, hp, rfl⟩ := outR_not (a := 0) (b := 100) (by decide) h2 (by decide)
  obtain ⟨h', ch', pa', k1, k2, k3⟩ := S_keep hV hH hB hN
  obtain ⟨b', g', q, c1, c2, c3⟩ := S_setShare (N := N) hV hM hB.1 hh hp k2
  have hLv : Liv v b'.2.2.2.2.2.2.2.2.2.2.2.2.2.2.2.1 := by
    have h3 := c1
    unfold F_B_replaceShare at h3
    obtain ⟨r, _, h4⟩ := Option.bind_eq_some_iff.mp h3
    cases h4
    exact hB.2
  have hP : P_setShare N (inp, se, dr, rdr, b, c, hi, ck) (nI h) (nI p) = some (0, q, (inp, se, dr, rdr, b', c, h', ck)) := by
    unfold P_setShare
    rw [hou_in hSs h1' N, Option.bind_some, if_pos rfl, btw_in h2', Option.bind_some, if_pos rfl]
    dsimp only
    rw [k1, Option.bind_some, c1]; rfl
  have hG : F_M_setShare N (th, ch, ik, len, pa_, tok, err, hti, see, rk, bl, fx, rdd, le, ler, so, sor, wh, whr, now, kept, past, buf) (nI h) (nI p) = some (q, ((0 : Int32), ch', ik, len, pa_, tok, err, hti, see, rk, bl, fx, rdd, le, ler, so, sor, wh, whr, g', kept, pa', buf)) := by
    unfold F_M_setShare
    dsimp only
    rw [c2]; rfl
  have hW : W_setShare N (inp, se, dr, rdr, b, c, hi, ck) f (nI h) (nI p) = some (0, (inp, se, dr, rdr, b', c, h', ck), vp_updL f 0 (q).toInt64) := by
    unfold W_setShare
    rw [hP]; rfl
  have hRel : RlC v (k + 1) inp se b' c h' ck ch' ik len fx le so wh g' kept pa' buf := ⟨hV, hM, hS, hNM, hIN, ⟨c3, hLv⟩, hK', HIS_mono k3 (Nat.le_succ k)⟩
  exact fin_ok (k := k) (s' := (inp, se, dr, rdr, b', c, h', ck)) (m' := ((0 : Int32), ch', ik, len, pa_, tok, err, hti, see, rk, bl, fx, rdd, le, ler, so, sor, wh, whr, g', kept, pa', buf)) (f := f) (p := q) hW hG rfl ⟨v, hRel⟩

theorem T_purchase {N : Nat} (hN : 600000 < N) (x1 : Int32) (x2 : Int32) (x3 : Int32) : StA RlW (fun s f => W_purchase N s f x1 x2 x3) (fun m => F_M_purchase N m x1 x2 x3) := by
  intro k s m f hk HR
  obtain ⟨inp, se, dr, rdr, b, c, hi, ck⟩ := s
  obtain ⟨th, ch, ik, len, pa_, tok, err, hti, see, rk, bl, fx, rdd, le, ler, so, sor, wh, whr, now, kept, past, buf⟩ := m
  obtain ⟨v, R⟩ := HR
  have R : RlC v k inp se b c hi ck ch ik len fx le so wh now kept past buf := R
  have HR0 : RlW k (inp, se, dr, rdr, b, c, hi, ck) (th, ch, ik, len, pa_, tok, err, hti, see, rk, bl, fx, rdd, le, ler, so, sor, wh, whr, now, kept, past, buf) := ⟨v, R⟩
  obtain ⟨hV, hM, hS, hNM, hIN, hB, hK, hH⟩ := R
  have hv3 := hV.1.2.2.2.2.1
  have hv4 := hV.1.2.2.2.2.2
  have hv1 := hV.1.2.2.1
  have hSs : SC v (inp, se, dr, rdr, b, c, hi, ck).2.1 := hS
  have hK' : (ck = 0 ∧ ik = 0) ∨ (ck = 1 ∧ ik = 1 ∧ BRL v (k + 1) c kept) := hK.imp id (fun x => ⟨x.1, x.2.1, BRL_mono x.2.2 (Nat.le_succ k)⟩)
  by_cases h1 : outN x1 (v 3)
  · have hP : P_purchase N (inp, se, dr, rdr, b, c, hi, ck) x1 x2 x3 = some (4, 0, (inp, se, dr, rdr, b, c, hi, ck)) := by
      unfold P_purchase
      rw [mem_out hSs h1 N]; rfl
    have hG : F_M_purchase N (th, ch, ik, len, pa_, tok, err, hti, see, rk, bl, fx, rdd, le, ler, so, sor, wh, whr, now, kept, past, buf) x1 x2 x3 = some (0, ((1 : Int32), ch, ik, len, pa_, tok, err, hti, see, rk, bl, fx, rdd, le, ler, so, sor, wh, whr, now, kept, past, buf)) := by
      unfold F_M_purchase
      dsimp only
      unfold f_X11_purchase f_X11_whyNotBuy
      rw [M_isMember x1 (n := v 3) (by omega) (hM 3 (by omega)), if_pos h1]; rfl
    exact fin_no (c := 1) (by dsimp only; unfold W_purchase; rw [hP]; rfl) (by decide) hG rfl (RlW_thrown HR0 1)
  by_cases h2 : outN x2 (v 1)
  · have hP : P_purchase N (inp, se, dr, rdr, b, c, hi, ck) x1 x2 x3 = some (4, 0, (inp, se, dr, rdr, b, c, hi, ck)) := by
      unfold P_purchase
      rw [mem_in hSs h1 N, Option.bind_some, if_pos rfl, cat_out hSs h2 N]; rfl
    have hG : F_M_purchase N (th, ch, ik, len, pa_, tok, err, hti, see, rk, bl, fx, rdd, le, ler, so, sor, wh, whr, now, kept, past, buf) x1 x2 x3 = some (0, ((1 : Int32), ch, ik, len, pa_, tok, err, hti, see, rk, bl, fx, rdd, le, ler, so, sor, wh, whr, now, kept, past, buf)) := by
      unfold F_M_purchase
      dsimp only
      unfold f_X11_purchase f_X11_whyNotBuy
      rw [M_isMember x1 (n := v 3) (by omega) (hM 3 (by omega)), if_neg h1, Option.bind_some, if_neg (by decide), M_isCategory x2 (n := v 1) (by omega) (hM 1 (by omega)), if_pos h2]; rfl
    exact fin_no (c := 1) (by dsimp only; unfold W_purchase; rw [hP]; rfl) (by decide) hG rfl (RlW_thrown HR0 1)
  by_cases h3 : outR x3 1 100000
  · have hP : P_purchase N (inp, se, dr, rdr, b, c, hi, ck) x1 x2 x3 = some (2, 0, (inp, se, dr, rdr, b, c, hi, ck)) := by
      unfold P_purchase
      rw [mem_in hSs h1 N, Option.bind_some, if_pos rfl, cat_in hSs h2 N, Option.bind_some, if_pos rfl, btw_out h3]; rfl
    have hG : F_M_purchase N (th, ch, ik, len, pa_, tok, err, hti, see, rk, bl, fx, rdd, le, ler, so, sor, wh, whr, now, kept, past, buf) x1 x2 x3 = some (0, ((2 : Int32), ch, ik, len, pa_, tok, err, hti, see, rk, bl, fx, rdd, le, ler, so, sor, wh, whr, now, kept, past, buf)) := by
      unfold F_M_purchase
      dsimp only
      unfold f_X11_purchase f_X11_whyNotBuy
      rw [M_isMember x1 (n := v 3) (by omega) (hM 3 (by omega)), if_neg h1, Option.bind_some, if_neg (by decide), M_isCategory x2 (n := v 1) (by omega) (hM 1 (by omega)), if_neg h2, Option.bind_some, if_neg (by decide), show (1 : Int64) = (1 : Int32).toInt64 from rfl, show (100000 : Int64) = (100000 : Int32).toInt64 from rfl, isIn_out h3]; rfl
    exact fin_no (c := 2) (by dsimp only; unfold W_purchase; rw [hP]; rfl) (by decide) hG rfl (RlW_thrown HR0 2)
  have h1' := h1
  have h2' := h2
  have h3' := h3
  obtain ⟨m, hm3, rfl⟩ := outN_not (by omega) h1
  obtain ⟨ct, hct, rfl⟩ := outN_not (by omega) h2
  obtain ⟨x, hx1, hx2, rfl⟩ := outR_not (a := 1) (b := 100000) (by decide) h3 (by decide)
  obtain ⟨h', ch', pa', k1, k2, k3⟩ := S_keep hV hH hB hN
  obtain ⟨b', g', r1, r2, q, c1, c2, c3⟩ := S_purchase (rk := rk) (bl := bl) (N := N) hV hM hS hB.1 hk hm3 hct hx1 hx2 (by omega) k2
  have hLv : Liv v b'.2.2.2.2.2.2.2.2.2.2.2.2.2.2.2.1 := by
    have h3 := c1
    unfold F_B_recordPurchase at h3
    obtain ⟨r, _, h4⟩ := Option.bind_eq_some_iff.mp h3
    cases h4
    exact hB.2
  have hP : P_purchase N (inp, se, dr, rdr, b, c, hi, ck) (nI m) (nI ct) (nI x) = some (0, q, (inp, se, dr, rdr, b', c, h', ck)) := by
    unfold P_purchase
    rw [mem_in hSs h1' N, Option.bind_some, if_pos rfl, cat_in hSs h2' N, Option.bind_some, if_pos rfl, btw_in h3', Option.bind_some, if_pos rfl]
    dsimp only
    rw [k1, Option.bind_some, c1]; rfl
  have hG : F_M_purchase N (th, ch, ik, len, pa_, tok, err, hti, see, rk, bl, fx, rdd, le, ler, so, sor, wh, whr, now, kept, past, buf) (nI m) (nI ct) (nI x) = some (q, ((0 : Int32), ch', ik, len, pa_, tok, err, hti, see, r1, r2, fx, rdd, le, ler, so, sor, wh, whr, g', kept, pa', buf)) := by
    unfold F_M_purchase
    dsimp only
    rw [c2]; rfl
  have hW : W_purchase N (inp, se, dr, rdr, b, c, hi, ck) f (nI m) (nI ct) (nI x) = some (0, (inp, se, dr, rdr, b', c, h', ck), vp_updL f 0 (q).toInt64) := by
    unfold W_purchase
    rw [hP]; rfl
  have hRel : RlC v (k + 1) inp se b' c h' ck ch' ik len fx le so wh g' kept pa' buf := ⟨hV, hM, hS, hNM, hIN, ⟨c3, hLv⟩, hK', HIS_mono k3 (Nat.le_succ k)⟩
  exact fin_ok (k := k) (s' := (inp, se, dr, rdr, b', c, h', ck)) (m' := ((0 : Int32), ch', ik, len, pa_, tok, err, hti, see, r1, r2, fx, rdd, le, ler, so, sor, wh, whr, g', kept, pa', buf)) (f := f) (p := q) hW hG rfl ⟨v, hRel⟩

theorem T_redeem {N : Nat} (hN : 600000 < N) (x1 : Int32) (x2 : Int32) : StA RlW (fun s f => W_redeem N s f x1 x2) (fun m => F_M_redeem N m x1 x2) := by
  intro k s m f hk HR
  obtain ⟨inp, se, dr, rdr, b, c, hi, ck⟩ := s
  obtain ⟨th, ch, ik, len, pa_, tok, err, hti, see, rk, bl, fx, rdd, le, ler, so, sor, wh, whr, now, kept, past, buf⟩ := m
  obtain ⟨v, R⟩ := HR
  have R : RlC v k inp se b c hi ck ch ik len fx le so wh now kept past buf := R
  have HR0 : RlW k (inp, se, dr, rdr, b, c, hi, ck) (th, ch, ik, len, pa_, tok, err, hti, see, rk, bl, fx, rdd, le, ler, so, sor, wh, whr, now, kept, past, buf) := ⟨v, R⟩
  obtain ⟨hV, hM, hS, hNM, hIN, hB, hK, hH⟩ := R
  have hv3 := hV.1.2.2.2.2.1
  have hv4 := hV.1.2.2.2.2.2
  have hv1 := hV.1.2.2.1
  have hSs : SC v (inp, se, dr, rdr, b, c, hi, ck).2.1 := hS
  have hK' : (ck = 0 ∧ ik = 0) ∨ (ck = 1 ∧ ik = 1 ∧ BRL v (k + 1) c kept) := hK.imp id (fun x => ⟨x.1, x.2.1, BRL_mono x.2.2 (Nat.le_succ k)⟩)
  by_cases h1 : outN x1 (v 3)
  · have hP : P_redeem N (inp, se, dr, rdr, b, c, hi, ck) x1 x2 = some (4, 0, (inp, se, dr, rdr, b, c, hi, ck)) := by
      unfold P_redeem
      rw [mem_out hSs h1 N]; rfl
    have hG : F_M_redeem N (th, ch, ik, len, pa_, tok, err, hti, see, rk, bl, fx, rdd, le, ler, so, sor, wh, whr, now, kept, past, buf) x1 x2 = some (0, ((1 : Int32), ch, ik, len, pa_, tok, err, hti, see, rk, bl, fx, rdd, le, ler, so, sor, wh, whr, now, kept, past, buf)) := by
      unfold F_M_redeem
      dsimp only
      unfold f_X11_redeem
      rw [M_isMember x1 (n := v 3) (by omega) (hM 3 (by omega)), if_pos h1]; rfl
    exact fin_no (c := 1) (by dsimp only; unfold W_redeem; rw [hP]; rfl) (by decide) hG rfl (RlW_thrown HR0 1)
  by_cases h2 : ¬ (1 : Int32) ≤ x2
  · have hP : P_redeem N (inp, se, dr, rdr, b, c, hi, ck) x1 x2 = some (2, 0, (inp, se, dr, rdr, b, c, hi, ck)) := by
      unfold P_redeem
      rw [mem_in hSs h1 N, Option.bind_some, if_pos rfl, one_out h2]; rfl
    have hG : F_M_redeem N (th, ch, ik, len, pa_, tok, err, hti, see, rk, bl, fx, rdd, le, ler, so, sor, wh, whr, now, kept, past, buf) x1 x2 = some (0, ((2 : Int32), ch, ik, len, pa_, tok, err, hti, see, rk, bl, fx, rdd, le, ler, so, sor, wh, whr, now, kept, past, buf)) := by
      unfold F_M_redeem
      dsimp only
      unfold f_X11_redeem
      rw [M_isMember x1 (n := v 3) (by omega) (hM 3 (by omega)), if_neg h1, Option.bind_some, if_neg (by decide), if_neg h2]; rfl
    exact fin_no (c := 2) (by dsimp only; unfold W_redeem; rw [hP]; rfl) (by decide) hG rfl (RlW_thrown HR0 2)
  have h1' := h1
  have h2' := Classical.not_not.mp h2
  obtain ⟨m, hm3, rfl⟩ := outN_not (by omega) h1
  obtain ⟨w, hw1, hw2, rfl⟩ := one_nat h2'
  obtain ⟨T, hT1, hT2, hT3, hT4⟩ := S_redeem (N := N) (pa := past) (ch := ch) hV hM hS hB.1 hk hm3 hw1 hw2 (by omega)
  by_cases h3 : ¬ w ≤ T
  · have hP : P_redeem N (inp, se, dr, rdr, b, c, hi, ck) (nI m) (nI w) = some (1, 0, (inp, se, dr, rdr, b, c, hi, ck)) := by
      unfold P_redeem
      rw [mem_in hSs h1' N, Option.bind_some, if_pos rfl, one_in h2', Option.bind_some, if_pos rfl]
      dsimp only
      rw [hT2, Option.bind_some, if_neg (fun hh => h3 ((nI_leI hw2 hT1).mp hh))]
    have hG : F_M_redeem N (th, ch, ik, len, pa_, tok, err, hti, see, rk, bl, fx, rdd, le, ler, so, sor, wh, whr, now, kept, past, buf) (nI m) (nI w) = some (0, ((3 : Int32), ch, ik, len, pa_, tok, err, hti, see, rk, bl, fx, rdd, le, ler, so, sor, wh, whr, now, kept, past, buf)) := by
      unfold F_M_redeem
      dsimp only
      rw [hT3 h3]; rfl
    exact fin_no (c := 3) (by dsimp only; unfold W_redeem; rw [hP]; rfl) (by decide) hG rfl (RlW_thrown HR0 3)
  have h3' := Classical.not_not.mp h3
  obtain ⟨h', ch', pa', k1, k2, k3⟩ := S_keep hV hH hB hN
  obtain ⟨b', g', q, c1, c2, c3⟩ := hT4 h3' _ _ k2
  have hLv : Liv v b'.2.2.2.2.2.2.2.2.2.2.2.2.2.2.2.1 := by
    have h3 := c1
    unfold F_B_spend at h3
    obtain ⟨r, _, h4⟩ := Option.bind_eq_some_iff.mp h3
    cases h4
    exact hB.2
  have hP : P_redeem N (inp, se, dr, rdr, b, c, hi, ck) (nI m) (nI w) = some (0, q, (inp, se, dr, rdr, b', c, h', ck)) := by
    unfold P_redeem
    rw [mem_in hSs h1' N, Option.bind_some, if_pos rfl, one_in h2', Option.bind_some, if_pos rfl]
    dsimp only
    rw [hT2, Option.bind_some, if_pos ((nI_leI hw2 hT1).mpr h3'), k1, Option.bind_some, c1]; rfl
  have hG : F_M_redeem N (th, ch, ik, len, pa_, tok, err, hti, see, rk, bl, fx, rdd, le, ler, so, sor, wh, whr, now, kept, past, buf) (nI m) (nI w) = some (q, ((0 : Int32), ch', ik, len, pa_, tok, err, hti, see, rk, bl, fx, rdd, le, ler, so, sor, wh, whr, g', kept, pa', buf)) := by
    unfold F_M_redeem
    dsimp only
    rw [c2]; rfl
  have hW : W_redeem N (inp, se, dr, rdr, b, c, hi, ck) f (nI m) (nI w) = some (0, (inp, se, dr, rdr, b', c, h', ck), vp_updL f 0 (q).toInt64) := by
    unfold W_redeem
    rw [hP]; rfl
  have hRel : RlC v (k + 1) inp se b' c h' ck ch' ik len fx le so wh g' kept pa' buf := ⟨hV, hM, hS, hNM, hIN, ⟨c3, hLv⟩, hK', HIS_mono k3 (Nat.le_succ k)⟩
  exact fin_ok (k := k) (s' := (inp, se, dr, rdr, b', c, h', ck)) (m' := ((0 : Int32), ch', ik, len, pa_, tok, err, hti, see, rk, bl, fx, rdd, le, ler, so, sor, wh, whr, g', kept, pa', buf)) (f := f) (p := q) hW hG rfl ⟨v, hRel⟩

theorem T_transfer {N : Nat} (hN : 600000 < N) (x1 : Int32) (x2 : Int32) (x3 : Int32) : StA RlW (fun s f => W_transfer N s f x1 x2 x3) (fun m => F_M_transfer N m x1 x2 x3) := by
  intro k s m f hk HR
  obtain ⟨inp, se, dr, rdr, b, c, hi, ck⟩ := s
  obtain ⟨th, ch, ik, len, pa_, tok, err, hti, see, rk, bl, fx, rdd, le, ler, so, sor, wh, whr, now, kept, past, buf⟩ := m
  obtain ⟨v, R⟩ := HR
  have R : RlC v k inp se b c hi ck ch ik len fx le so wh now kept past buf := R
  have HR0 : RlW k (inp, se, dr, rdr, b, c, hi, ck) (th, ch, ik, len, pa_, tok, err, hti, see, rk, bl, fx, rdd, le, ler, so, sor, wh, whr, now, kept, past, buf) := ⟨v, R⟩
  obtain ⟨hV, hM, hS, hNM, hIN, hB, hK, hH⟩ := R
  have hv3 := hV.1.2.2.2.2.1
  have hv4 := hV.1.2.2.2.2.2
  have hv1 := hV.1.2.2.1
  have hSs : SC v (inp, se, dr, rdr, b, c, hi, ck).2.1 := hS
  have hK' : (ck = 0 ∧ ik = 0) ∨ (ck = 1 ∧ ik = 1 ∧ BRL v (k + 1) c kept) := hK.imp id (fun x => ⟨x.1, x.2.1, BRL_mono x.2.2 (Nat.le_succ k)⟩)
  by_cases h1 : outN x1 (v 3)
  · have hP : P_transfer N (inp, se, dr, rdr, b, c, hi, ck) x1 x2 x3 = some (4, 0, (inp, se, dr, rdr, b, c, hi, ck)) := by
      unfold P_transfer
      rw [mem_out hSs h1 N]; rfl
    have hG : F_M_transfer N (th, ch, ik, len, pa_, tok, err, hti, see, rk, bl, fx, rdd, le, ler, so, sor, wh, whr, now, kept, past, buf) x1 x2 x3 = some (0, ((1 : Int32), ch, ik, len, pa_, tok, err, hti, see, rk, bl, fx, rdd, le, ler, so, sor, wh, whr, now, kept, past, buf)) := by
      unfold F_M_transfer
      dsimp only
      unfold f_X11_transfer
      rw [M_isMember x1 (n := v 3) (by omega) (hM 3 (by omega)), if_pos h1]; rfl
    exact fin_no (c := 1) (by dsimp only; unfold W_transfer; rw [hP]; rfl) (by decide) hG rfl (RlW_thrown HR0 1)
  by_cases h2 : outN x2 (v 3)
  · have hP : P_transfer N (inp, se, dr, rdr, b, c, hi, ck) x1 x2 x3 = some (4, 0, (inp, se, dr, rdr, b, c, hi, ck)) := by
      unfold P_transfer
      rw [mem_in hSs h1 N, Option.bind_some, if_pos rfl, mem_out hSs h2 N]; rfl
    have hG : F_M_transfer N (th, ch, ik, len, pa_, tok, err, hti, see, rk, bl, fx, rdd, le, ler, so, sor, wh, whr, now, kept, past, buf) x1 x2 x3 = some (0, ((1 : Int32), ch, ik, len, pa_, tok, err, hti, see, rk, bl, fx, rdd, le, ler, so, sor, wh, whr, now, kept, past, buf)) := by
      unfold F_M_transfer
      dsimp only
      unfold f_X11_transfer
      rw [M_isMember x1 (n := v 3) (by omega) (hM 3 (by omega)), if_neg h1, Option.bind_some, if_neg (by decide), M_isMember x2 (n := v 3) (by omega) (hM 3 (by omega)), if_pos h2]; rfl
    exact fin_no (c := 1) (by dsimp only; unfold W_transfer; rw [hP]; rfl) (by decide) hG rfl (RlW_thrown HR0 1)
  by_cases h3 : x1 = x2
  · have hP : P_transfer N (inp, se, dr, rdr, b, c, hi, ck) x1 x2 x3 = some (2, 0, (inp, se, dr, rdr, b, c, hi, ck)) := by
      unfold P_transfer
      rw [mem_in hSs h1 N, Option.bind_some, if_pos rfl, mem_in hSs h2 N, Option.bind_some, if_pos rfl, if_pos h3]
    have hG : F_M_transfer N (th, ch, ik, len, pa_, tok, err, hti, see, rk, bl, fx, rdd, le, ler, so, sor, wh, whr, now, kept, past, buf) x1 x2 x3 = some (0, ((2 : Int32), ch, ik, len, pa_, tok, err, hti, see, rk, bl, fx, rdd, le, ler, so, sor, wh, whr, now, kept, past, buf)) := by
      unfold F_M_transfer
      dsimp only
      unfold f_X11_transfer
      rw [M_isMember x1 (n := v 3) (by omega) (hM 3 (by omega)), if_neg h1, Option.bind_some, if_neg (by decide), M_isMember x2 (n := v 3) (by omega) (hM 3 (by omega)), if_neg h2, Option.bind_some, if_neg (by decide), if_pos h3]; rfl
    exact fin_no (c := 2) (by dsimp only; unfold W_transfer; rw [hP]; rfl) (by decide) hG rfl (RlW_thrown HR0 2)
  by_cases h4 : ¬ (1 : Int32) ≤ x3
  · have hP : P_transfer N (inp, se, dr, rdr, b, c, hi, ck) x1 x2 x3 = some (2, 0, (inp, se, dr, rdr, b, c, hi, ck)) := by
      unfold P_transfer
      rw [mem_in hSs h1 N, Option.bind_some, if_pos rfl, mem_in hSs h2 N, Option.bind_some, if_pos rfl, if_neg h3, one_out h4]; rfl
    have hG : F_M_transfer N (th, ch, ik, len, pa_, tok, err, hti, see, rk, bl, fx, rdd, le, ler, so, sor, wh, whr, now, kept, past, buf) x1 x2 x3 = some (0, ((2 : Int32), ch, ik, len, pa_, tok, err, hti, see, rk, bl, fx, rdd, le, ler, so, sor, wh, whr, now, kept, past, buf)) := by
      unfold F_M_transfer
      dsimp only
      unfold f_X11_transfer
      rw [M_isMember x1 (n := v 3) (by omega) (hM 3 (by omega)), if_neg h1, Option.bind_some, if_neg (by decide), M_isMember x2 (n := v 3) (by omega) (hM 3 (by omega)), if_neg h2, Option.bind_some, if_neg (by decide), if_neg h3, if_neg h4]; rfl
    exact fin_no (c := 2) (by dsimp only; unfold W_transfer; rw [hP]; rfl) (by decide) hG rfl (RlW_thrown HR0 2)
  have h1' := h1
  have h2' := h2
  have h4' := Classical.not_not.mp h4
  obtain ⟨m, hm3, rfl⟩ := outN_not (by omega) h1
  obtain ⟨m2, hm23, rfl⟩ := outN_not (by omega) h2
  obtain ⟨w, hw1, hw2, rfl⟩ := one_nat h4'
  have hne : ¬ m = m2 := fun e => h3 (by rw [e])
  obtain ⟨T, hT1, hT2, hT3, hT4⟩ := S_transfer (N := N) (pa := past) (ch := ch) hV hM hB.1 hk hm3 hm23 hne hw1 hw2 (by omega)
  by_cases h5 : ¬ w ≤ T
  · have hP : P_transfer N (inp, se, dr, rdr, b, c, hi, ck) (nI m) (nI m2) (nI w) = some (1, 0, (inp, se, dr, rdr, b, c, hi, ck)) := by
      unfold P_transfer
      rw [mem_in hSs h1' N, Option.bind_some, if_pos rfl, mem_in hSs h2' N, Option.bind_some, if_pos rfl, if_neg h3, one_in h4', Option.bind_some, if_pos rfl]
      dsimp only
      rw [show F_B_cohorts N b = some () from rfl, Option.bind_some, hT2, Option.bind_some, if_neg (fun hh => h5 ((nI_leI hw2 hT1).mp hh))]
    have hG : F_M_transfer N (th, ch, ik, len, pa_, tok, err, hti, see, rk, bl, fx, rdd, le, ler, so, sor, wh, whr, now, kept, past, buf) (nI m) (nI m2) (nI w) = some (0, ((3 : Int32), ch, ik, len, pa_, tok, err, hti, see, rk, bl, fx, rdd, le, ler, so, sor, wh, whr, now, kept, past, buf)) := by
      unfold F_M_transfer
      dsimp only
      rw [hT3 h5]; rfl
    exact fin_no (c := 3) (by dsimp only; unfold W_transfer; rw [hP]; rfl) (by decide) hG rfl (RlW_thrown HR0 3)
  have h5' := Classical.not_not.mp h5
  obtain ⟨h', ch', pa', k1, k2, k3⟩ := S_keep hV hH hB hN
  obtain ⟨b', g', q, c1, c2, c3⟩ := hT4 h5' _ _ k2
  have hLv : Liv v b'.2.2.2.2.2.2.2.2.2.2.2.2.2.2.2.1 := by
    have h3 := c1
    unfold F_B_give at h3
    obtain ⟨r, _, h4⟩ := Option.bind_eq_some_iff.mp h3
    cases h4
    exact hB.2
  have hP : P_transfer N (inp, se, dr, rdr, b, c, hi, ck) (nI m) (nI m2) (nI w) = some (0, q, (inp, se, dr, rdr, b', c, h', ck)) := by
    unfold P_transfer
    rw [mem_in hSs h1' N, Option.bind_some, if_pos rfl, mem_in hSs h2' N, Option.bind_some, if_pos rfl, if_neg h3, one_in h4', Option.bind_some, if_pos rfl]
    dsimp only
    rw [show F_B_cohorts N b = some () from rfl, Option.bind_some, hT2, Option.bind_some, if_pos ((nI_leI hw2 hT1).mpr h5'), k1, Option.bind_some, c1]; rfl
  have hG : F_M_transfer N (th, ch, ik, len, pa_, tok, err, hti, see, rk, bl, fx, rdd, le, ler, so, sor, wh, whr, now, kept, past, buf) (nI m) (nI m2) (nI w) = some (q, ((0 : Int32), ch', ik, len, pa_, tok, err, hti, see, rk, bl, fx, rdd, le, ler, so, sor, wh, whr, g', kept, pa', buf)) := by
    unfold F_M_transfer
    dsimp only
    rw [c2]; rfl
  have hW : W_transfer N (inp, se, dr, rdr, b, c, hi, ck) f (nI m) (nI m2) (nI w) = some (0, (inp, se, dr, rdr, b', c, h', ck), vp_updL f 0 (q).toInt64) := by
    unfold W_transfer
    rw [hP]; rfl
  have hRel : RlC v (k + 1) inp se b' c h' ck ch' ik len fx le so wh g' kept pa' buf := ⟨hV, hM, hS, hNM, hIN, ⟨c3, hLv⟩, hK', HIS_mono k3 (Nat.le_succ k)⟩
  exact fin_ok (k := k) (s' := (inp, se, dr, rdr, b', c, h', ck)) (m' := ((0 : Int32), ch', ik, len, pa_, tok, err, hti, see, rk, bl, fx, rdd, le, ler, so, sor, wh, whr, g', kept, pa', buf)) (f := f) (p := q) hW hG rfl ⟨v, hRel⟩

theorem T_join {N : Nat} (hN : 600000 < N) (x1 : Int32) (x2 : Int32) : StA RlW (fun s f => W_join N s f x1 x2) (fun m => F_M_join N m x1 x2) := by
  intro k s m f hk HR
  obtain ⟨inp, se, dr, rdr, b, c, hi, ck⟩ := s
  obtain ⟨th, ch, ik, len, pa_, tok, err, hti, see, rk, bl, fx, rdd, le, ler, so, sor, wh, whr, now, kept, past, buf⟩ := m
  obtain ⟨v, R⟩ := HR
  have R : RlC v k inp se b c hi ck ch ik len fx le so wh now kept past buf := R
  have HR0 : RlW k (inp, se, dr, rdr, b, c, hi, ck) (th, ch, ik, len, pa_, tok, err, hti, see, rk, bl, fx, rdd, le, ler, so, sor, wh, whr, now, kept, past, buf) := ⟨v, R⟩
  obtain ⟨hV, hM, hS, hNM, hIN, hB, hK, hH⟩ := R
  have hv3 := hV.1.2.2.2.2.1
  have hv4 := hV.1.2.2.2.2.2
  have hv1 := hV.1.2.2.1
  have hSs : SC v (inp, se, dr, rdr, b, c, hi, ck).2.1 := hS
  have hK' : (ck = 0 ∧ ik = 0) ∨ (ck = 1 ∧ ik = 1 ∧ BRL v (k + 1) c kept) := hK.imp id (fun x => ⟨x.1, x.2.1, BRL_mono x.2.2 (Nat.le_succ k)⟩)
  by_cases h1 : outN x1 (v 3)
  · have hP : P_join N (inp, se, dr, rdr, b, c, hi, ck) x1 x2 = some (4, 0, (inp, se, dr, rdr, b, c, hi, ck)) := by
      unfold P_join
      rw [mem_out hSs h1 N]; rfl
    have hG : F_M_join N (th, ch, ik, len, pa_, tok, err, hti, see, rk, bl, fx, rdd, le, ler, so, sor, wh, whr, now, kept, past, buf) x1 x2 = some (0, ((1 : Int32), ch, ik, len, pa_, tok, err, hti, see, rk, bl, fx, rdd, le, ler, so, sor, wh, whr, now, kept, past, buf)) := by
      unfold F_M_join
      dsimp only
      unfold f_X11_join
      rw [M_isMember x1 (n := v 3) (by omega) (hM 3 (by omega)), if_pos h1]; rfl
    exact fin_no (c := 1) (by dsimp only; unfold W_join; rw [hP]; rfl) (by decide) hG rfl (RlW_thrown HR0 1)
  by_cases h2 : outN x2 (v 4)
  · have hP : P_join N (inp, se, dr, rdr, b, c, hi, ck) x1 x2 = some (4, 0, (inp, se, dr, rdr, b, c, hi, ck)) := by
      unfold P_join
      rw [mem_in hSs h1 N, Option.bind_some, if_pos rfl, hou_out hSs h2 N]; rfl
    have hG : F_M_join N (th, ch, ik, len, pa_, tok, err, hti, see, rk, bl, fx, rdd, le, ler, so, sor, wh, whr, now, kept, past, buf) x1 x2 = some (0, ((1 : Int32), ch, ik, len, pa_, tok, err, hti, see, rk, bl, fx, rdd, le, ler, so, sor, wh, whr, now, kept, past, buf)) := by
      unfold F_M_join
      dsimp only
      unfold f_X11_join
      rw [M_isMember x1 (n := v 3) (by omega) (hM 3 (by omega)), if_neg h1, Option.bind_some, if_neg (by decide), M_isHouse x2 (n := v 4) (by omega) (hM 4 (by omega)), if_pos h2]; rfl
    exact fin_no (c := 1) (by dsimp only; unfold W_join; rw [hP]; rfl) (by decide) hG rfl (RlW_thrown HR0 1)
  have h1' := h1
  have h2' := h2
  obtain ⟨m, hm3, rfl⟩ := outN_not (by omega) h1
  obtain ⟨h, hh4, rfl⟩ := outN_not (by omega) h2
  obtain ⟨ho, cc, hT1, hT2, hT3, hT4⟩ := S_join (N := N) (pa := past) (ch := ch) hV hM hS hB.1 hB.2 hm3 hh4 (by omega)
  by_cases h3 : ¬ ho = -1
  · have hP : P_join N (inp, se, dr, rdr, b, c, hi, ck) (nI m) (nI h) = some (1, 0, (inp, se, dr, rdr, b, c, hi, ck)) := by
      unfold P_join
      rw [mem_in hSs h1' N, Option.bind_some, if_pos rfl, hou_in hSs h2' N, Option.bind_some, if_pos rfl]
      dsimp only
      rw [hT1, Option.bind_some, if_neg h3]
    have hG : F_M_join N (th, ch, ik, len, pa_, tok, err, hti, see, rk, bl, fx, rdd, le, ler, so, sor, wh, whr, now, kept, past, buf) (nI m) (nI h) = some (0, ((2 : Int32), ch, ik, len, pa_, tok, err, hti, see, rk, bl, fx, rdd, le, ler, so, sor, wh, whr, now, kept, past, buf)) := by
      unfold F_M_join
      dsimp only
      rw [hT3 (Or.inl h3)]; rfl
    exact fin_no (c := 2) (by dsimp only; unfold W_join; rw [hP]; rfl) (by decide) hG rfl (RlW_thrown HR0 2)
  have h3' := Classical.not_not.mp h3
  by_cases h4 : ¬ cc < 4
  · have hP : P_join N (inp, se, dr, rdr, b, c, hi, ck) (nI m) (nI h) = some (1, 0, (inp, se, dr, rdr, b, c, hi, ck)) := by
      unfold P_join
      rw [mem_in hSs h1' N, Option.bind_some, if_pos rfl, hou_in hSs h2' N, Option.bind_some, if_pos rfl]
      dsimp only
      rw [hT1, Option.bind_some, if_pos h3', hT2, Option.bind_some, if_neg h4]
    have hG : F_M_join N (th, ch, ik, len, pa_, tok, err, hti, see, rk, bl, fx, rdd, le, ler, so, sor, wh, whr, now, kept, past, buf) (nI m) (nI h) = some (0, ((2 : Int32), ch, ik, len, pa_, tok, err, hti, see, rk, bl, fx, rdd, le, ler, so, sor, wh, whr, now, kept, past, buf)) := by
      unfold F_M_join
      dsimp only
      rw [hT3 (Or.inr h4)]; rfl
    exact fin_no (c := 2) (by dsimp only; unfold W_join; rw [hP]; rfl) (by decide) hG rfl (RlW_thrown HR0 2)
  have h4' := Classical.not_not.mp h4
  obtain ⟨h', ch', pa', k1, k2, k3⟩ := S_keep hV hH hB hN
  obtain ⟨b', g', q, c1, c1b, c2, c3, hLv⟩ := hT4 h3' h4' _ _ k2
  have hP : P_join N (inp, se, dr, rdr, b, c, hi, ck) (nI m) (nI h) = some (0, q, (inp, se, dr, rdr, b', c, h', ck)) := by
    unfold P_join
    rw [mem_in hSs h1' N, Option.bind_some, if_pos rfl, hou_in hSs h2' N, Option.bind_some, if_pos rfl]
    dsimp only
    rw [hT1, Option.bind_some, if_pos h3', hT2, Option.bind_some, if_pos h4', k1, Option.bind_some, c1, Option.bind_some, c1b]; rfl
  have hG : F_M_join N (th, ch, ik, len, pa_, tok, err, hti, see, rk, bl, fx, rdd, le, ler, so, sor, wh, whr, now, kept, past, buf) (nI m) (nI h) = some (q, ((0 : Int32), ch', ik, len, pa_, tok, err, hti, see, rk, bl, fx, rdd, le, ler, so, sor, wh, whr, g', kept, pa', buf)) := by
    unfold F_M_join
    dsimp only
    rw [c2]; rfl
  have hW : W_join N (inp, se, dr, rdr, b, c, hi, ck) f (nI m) (nI h) = some (0, (inp, se, dr, rdr, b', c, h', ck), vp_updL f 0 (q).toInt64) := by
    unfold W_join
    rw [hP]; rfl
  have hRel : RlC v (k + 1) inp se b' c h' ck ch' ik len fx le so wh g' kept pa' buf := ⟨hV, hM, hS, hNM, hIN, ⟨c3, hLv⟩, hK', HIS_mono k3 (Nat.le_succ k)⟩
  exact fin_ok (k := k) (s' := (inp, se, dr, rdr, b', c, h', ck)) (m' := ((0 : Int32), ch', ik, len, pa_, tok, err, hti, see, rk, bl, fx, rdd, le, ler, so, sor, wh, whr, g', kept, pa', buf)) (f := f) (p := q) hW hG rfl ⟨v, hRel⟩

theorem T_leave {N : Nat} (hN : 600000 < N) (x1 : Int32) : StA RlW (fun s f => W_leave N s f x1) (fun m => F_M_leave N m x1) := by
  intro k s m f hk HR
  obtain ⟨inp, se, dr, rdr, b, c, hi, ck⟩ := s
  obtain ⟨th, ch, ik, len, pa_, tok, err, hti, see, rk, bl, fx, rdd, le, ler, so, sor, wh, whr, now, kept, past, buf⟩ := m
  obtain ⟨v, R⟩ := HR
  have R : RlC v k inp se b c hi ck ch ik len fx le so wh now kept past buf := R
  have HR0 : RlW k (inp, se, dr, rdr, b, c, hi, ck) (th, ch, ik, len, pa_, tok, err, hti, see, rk, bl, fx, rdd, le, ler, so, sor, wh, whr, now, kept, past, buf) := ⟨v, R⟩
  obtain ⟨hV, hM, hS, hNM, hIN, hB, hK, hH⟩ := R
  have hv3 := hV.1.2.2.2.2.1
  have hv4 := hV.1.2.2.2.2.2
  have hv1 := hV.1.2.2.1
  have hSs : SC v (inp, se, dr, rdr, b, c, hi, ck).2.1 := hS
  have hK' : (ck = 0 ∧ ik = 0) ∨ (ck = 1 ∧ ik = 1 ∧ BRL v (k + 1) c kept) := hK.imp id (fun x => ⟨x.1, x.2.1, BRL_mono x.2.2 (Nat.le_succ k)⟩)
  by_cases h1 : outN x1 (v 3)
  · have hP : P_leave N (inp, se, dr, rdr, b, c, hi, ck) x1 = some (4, 0, (inp, se, dr, rdr, b, c, hi, ck)) := by
      unfold P_leave
      rw [mem_out hSs h1 N]; rfl
    have hG : F_M_leave N (th, ch, ik, len, pa_, tok, err, hti, see, rk, bl, fx, rdd, le, ler, so, sor, wh, whr, now, kept, past, buf) x1 = some (0, ((1 : Int32), ch, ik, len, pa_, tok, err, hti, see, rk, bl, fx, rdd, le, ler, so, sor, wh, whr, now, kept, past, buf)) := by
      unfold F_M_leave
      dsimp only
      unfold f_X11_leave
      rw [M_isMember x1 (n := v 3) (by omega) (hM 3 (by omega)), if_pos h1]; rfl
    exact fin_no (c := 1) (by dsimp only; unfold W_leave; rw [hP]; rfl) (by decide) hG rfl (RlW_thrown HR0 1)
  have h1' := h1
  obtain ⟨m, hm3, rfl⟩ := outN_not (by omega) h1
  have hho : F_B_homeOf N b (nI m) = some (now (30 + m)) := by
    obtain ⟨d, E, Lg, c', dy, db, rd, _, _, _, _, _, _, H6, _⟩ := hB.1
    unfold F_B_homeOf f_X0_homeOf
    rw [X6_at_in _ h12 (by omega), Option.bind_some, Option.bind_some, (H6.1 m (by omega)).2.2.1]
  have e1 : (30 : Int32) + nI m = nI (30 + m) := nI_add 30 m
  have gm := grd (i := 30 + m) (n := 72470) (by omega) (by decide)
  by_cases h2 : now (30 + m) = -1
  · have hP : P_leave N (inp, se, dr, rdr, b, c, hi, ck) (nI m) = some (1, 0, (inp, se, dr, rdr, b, c, hi, ck)) := by
      unfold P_leave
      rw [mem_in hSs h1' N, Option.bind_some, if_pos rfl]
      dsimp only
      rw [hho, Option.bind_some, if_pos h2]
    have hG : F_M_leave N (th, ch, ik, len, pa_, tok, err, hti, see, rk, bl, fx, rdd, le, ler, so, sor, wh, whr, now, kept, past, buf) (nI m) = some (0, ((2 : Int32), ch, ik, len, pa_, tok, err, hti, see, rk, bl, fx, rdd, le, ler, so, sor, wh, whr, now, kept, past, buf)) := by
      unfold F_M_leave
      dsimp only
      unfold f_X11_leave
      rw [M_isMember (nI m) (n := v 3) (by omega) (hM 3 (by omega)), if_neg h1', Option.bind_some, if_neg (by decide), e1, if_neg gm, nI_clamp (by omega), Option.bind_some, if_pos h2]; rfl
    exact fin_no (c := 2) (by dsimp only; unfold W_leave; rw [hP]; rfl) (by decide) hG rfl (RlW_thrown HR0 2)
  obtain ⟨h', ch', pa', k1, k2, k3⟩ := S_keep hV hH hB hN
  obtain ⟨b', g', q, c1, c2, c3, c4⟩ := S_leave (N := N) hV hM hB.1 hk hm3 h2 (by omega) k2
  have hLv : Liv v b'.2.2.2.2.2.2.2.2.2.2.2.2.2.2.2.1 := by
    rw [c4]
    intro q hq
    have h3 := livN_upd (hm := b.2.2.2.2.2.2.2.2.2.2.2.2.2.2.2.1) (x := nI q) (y := -1) (m := m) (n := v 3)
    have h4 := hB.2 q hq
    rw [if_neg (fun hx => by
      have h5 := nI_pos (n := q) (by omega)
      rw [← hx.2] at h5
      exact h5 (by decide))] at h3
    omega
  have hP : P_leave N (inp, se, dr, rdr, b, c, hi, ck) (nI m) = some (0, q, (inp, se, dr, rdr, b', c, h', ck)) := by
    unfold P_leave
    rw [mem_in hSs h1' N, Option.bind_some, if_pos rfl]
    dsimp only
    rw [hho, Option.bind_some, if_neg h2, k1, Option.bind_some, c1]; rfl
  have hG : F_M_leave N (th, ch, ik, len, pa_, tok, err, hti, see, rk, bl, fx, rdd, le, ler, so, sor, wh, whr, now, kept, past, buf) (nI m) = some (q, ((0 : Int32), ch', ik, len, pa_, tok, err, hti, see, rk, bl, fx, rdd, le, ler, so, sor, wh, whr, g', kept, pa', buf)) := by
    unfold F_M_leave
    dsimp only
    rw [c2]; rfl
  have hW : W_leave N (inp, se, dr, rdr, b, c, hi, ck) f (nI m) = some (0, (inp, se, dr, rdr, b', c, h', ck), vp_updL f 0 (q).toInt64) := by
    unfold W_leave
    rw [hP]; rfl
  have hRel : RlC v (k + 1) inp se b' c h' ck ch' ik len fx le so wh g' kept pa' buf := ⟨hV, hM, hS, hNM, hIN, ⟨c3, hLv⟩, hK', HIS_mono k3 (Nat.le_succ k)⟩
  exact fin_ok (k := k) (s' := (inp, se, dr, rdr, b', c, h', ck)) (m' := ((0 : Int32), ch', ik, len, pa_, tok, err, hti, see, rk, bl, fx, rdd, le, ler, so, sor, wh, whr, g', kept, pa', buf)) (f := f) (p := q) hW hG rfl ⟨v, hRel⟩

theorem T_advance {N : Nat} (hN : 600000 < N) (x1 : Int32) : StA RlW (fun s f => W_advance N s f x1) (fun m => F_M_advance N m x1) := by
  intro k s m f hk HR
  obtain ⟨inp, se, dr, rdr, b, c, hi, ck⟩ := s
  obtain ⟨th, ch, ik, len, pa_, tok, err, hti, see, rk, bl, fx, rdd, le, ler, so, sor, wh, whr, now, kept, past, buf⟩ := m
  obtain ⟨v, R⟩ := HR
  have R : RlC v k inp se b c hi ck ch ik len fx le so wh now kept past buf := R
  have HR0 : RlW k (inp, se, dr, rdr, b, c, hi, ck) (th, ch, ik, len, pa_, tok, err, hti, see, rk, bl, fx, rdd, le, ler, so, sor, wh, whr, now, kept, past, buf) := ⟨v, R⟩
  obtain ⟨hV, hM, hS, hNM, hIN, hB, hK, hH⟩ := R
  have hv3 := hV.1.2.2.2.2.1
  have hv4 := hV.1.2.2.2.2.2
  have hv1 := hV.1.2.2.1
  have hSs : SC v (inp, se, dr, rdr, b, c, hi, ck).2.1 := hS
  have hK' : (ck = 0 ∧ ik = 0) ∨ (ck = 1 ∧ ik = 1 ∧ BRL v (k + 1) c kept) := hK.imp id (fun x => ⟨x.1, x.2.1, BRL_mono x.2.2 (Nat.le_succ k)⟩)
  by_cases h1 : outR x1 1 400
  · have hP : P_advance N (inp, se, dr, rdr, b, c, hi, ck) x1 = some (2, 0, (inp, se, dr, rdr, b, c, hi, ck)) := by
      unfold P_advance
      rw [btw_out h1]; rfl
    have hG : F_M_advance N (th, ch, ik, len, pa_, tok, err, hti, see, rk, bl, fx, rdd, le, ler, so, sor, wh, whr, now, kept, past, buf) x1 = some (0, ((1 : Int32), ch, ik, len, pa_, tok, err, hti, see, rk, bl, fx, rdd, le, ler, so, sor, wh, whr, now, kept, past, buf)) := by
      unfold F_M_advance
      dsimp only
      unfold f_X11_advance
      rw [show (1 : Int64) = (1 : Int32).toInt64 from rfl, show (400 : Int64) = (400 : Int32).toInt64 from rfl, isIn_out h1]; rfl
    exact fin_no (c := 1) (by dsimp only; unfold W_advance; rw [hP]; rfl) (by decide) hG rfl (RlW_thrown HR0 1)
  have h1' := h1
  obtain ⟨D, hD1, hD2, rfl⟩ := outR_not (a := 1) (b := 400) (by decide) h1 (by decide)
  obtain ⟨d, hd1, hd2, hd3⟩ : ∃ d, b.1 = nI d ∧ now 0 = nI d ∧ d ≤ 9999 := by
    obtain ⟨d, _, _, _, _, _, _, _, ⟨a1, a2, a3⟩, _⟩ := hB.1
    exact ⟨d, a1, a2, a3⟩
  have hday : F_B_day N b = some (nI d) := by
    unfold F_B_day f_X0_day
    rw [hd1]; rfl
  by_cases h2 : ¬ d + D ≤ 9999
  · have hP : P_advance N (inp, se, dr, rdr, b, c, hi, ck) (nI D) = some (2, 0, (inp, se, dr, rdr, b, c, hi, ck)) := by
      unfold P_advance
      rw [btw_in h1', Option.bind_some, if_pos rfl]
      dsimp only
      rw [hday, Option.bind_some, nI_add, btw_out (Or.inr (show (9999 : Int32) < nI (d + D) from (nI_ltI (a := 9999) (by decide) (by omega)).mpr (by omega)))]; rfl
    have hG : F_M_advance N (th, ch, ik, len, pa_, tok, err, hti, see, rk, bl, fx, rdd, le, ler, so, sor, wh, whr, now, kept, past, buf) (nI D) = some (0, ((1 : Int32), ch, ik, len, pa_, tok, err, hti, see, rk, bl, fx, rdd, le, ler, so, sor, wh, whr, now, kept, past, buf)) := by
      unfold F_M_advance
      dsimp only
      unfold f_X11_advance
      rw [show (1 : Int64) = (1 : Int32).toInt64 from rfl, show (400 : Int64) = (400 : Int32).toInt64 from rfl, isIn_in h1', Option.bind_some, if_neg (by decide), M_today, Option.bind_some, hd2, nI_add, if_neg (show ¬ nI (d + D) ≤ (9999 : Int32) from fun hh => h2 ((nI_leI (b := 9999) (by omega) (by decide)).mp hh))]; rfl
    exact fin_no (c := 1) (by dsimp only; unfold W_advance; rw [hP]; rfl) (by decide) hG rfl (RlW_thrown HR0 1)
  have h2' := Classical.not_not.mp h2
  obtain ⟨h', ch', pa', k1, k2, k3⟩ := S_keep hV hH hB hN
  obtain ⟨b', g', r1, r2, q, c1, c2, c3⟩ := S_advance (rk := rk) (bl := bl) (N := N) hV hM hS hk hB.1 hd1 (by omega) hD1 hD2 h2' (by omega) k2
  have hLv : Liv v b'.2.2.2.2.2.2.2.2.2.2.2.2.2.2.2.1 := by
    have h3 := c1
    unfold F_B_passDays at h3
    obtain ⟨r, _, h4⟩ := Option.bind_eq_some_iff.mp h3
    cases h4
    exact hB.2
  have hP : P_advance N (inp, se, dr, rdr, b, c, hi, ck) (nI D) = some (0, q, (inp, se, dr, rdr, b', c, h', ck)) := by
    unfold P_advance
    rw [btw_in h1', Option.bind_some, if_pos rfl]
    dsimp only
    rw [hday, Option.bind_some, nI_add, btw_in (fun hh => hh.elim (fun h3 => nI_pos (by omega) h3) (fun h3 => by have := (nI_ltI (a := 9999) (by decide) (by omega)).mp (show nI 9999 < nI (d + D) from h3); omega)), Option.bind_some, if_pos rfl, k1, Option.bind_some, c1]; rfl
  have hG : F_M_advance N (th, ch, ik, len, pa_, tok, err, hti, see, rk, bl, fx, rdd, le, ler, so, sor, wh, whr, now, kept, past, buf) (nI D) = some (q, ((0 : Int32), ch', ik, len, pa_, tok, err, hti, see, r1, r2, fx, rdd, le, ler, so, sor, wh, whr, g', kept, pa', buf)) := by
    unfold F_M_advance
    dsimp only
    rw [c2]; rfl
  have hW : W_advance N (inp, se, dr, rdr, b, c, hi, ck) f (nI D) = some (0, (inp, se, dr, rdr, b', c, h', ck), vp_updL f 0 (q).toInt64) := by
    unfold W_advance
    rw [hP]; rfl
  have hRel : RlC v (k + 1) inp se b' c h' ck ch' ik len fx le so wh g' kept pa' buf := ⟨hV, hM, hS, hNM, hIN, ⟨c3, hLv⟩, hK', HIS_mono k3 (Nat.le_succ k)⟩
  exact fin_ok (k := k) (s' := (inp, se, dr, rdr, b', c, h', ck)) (m' := ((0 : Int32), ch', ik, len, pa_, tok, err, hti, see, r1, r2, fx, rdd, le, ler, so, sor, wh, whr, g', kept, pa', buf)) (f := f) (p := q) hW hG rfl ⟨v, hRel⟩

theorem T_refund {N : Nat} (hN : 600000 < N) (x1 : Int32) : StA RlW (fun s f => W_refund N s f x1) (fun m => F_M_refund N m x1) := by
  intro k s m f hk HR
  obtain ⟨inp, se, dr, rdr, b, c, hi, ck⟩ := s
  obtain ⟨th, ch, ik, len, pa_, tok, err, hti, see, rk, bl, fx, rdd, le, ler, so, sor, wh, whr, now, kept, past, buf⟩ := m
  obtain ⟨v, R⟩ := HR
  have R : RlC v k inp se b c hi ck ch ik len fx le so wh now kept past buf := R
  have HR0 : RlW k (inp, se, dr, rdr, b, c, hi, ck) (th, ch, ik, len, pa_, tok, err, hti, see, rk, bl, fx, rdd, le, ler, so, sor, wh, whr, now, kept, past, buf) := ⟨v, R⟩
  obtain ⟨hV, hM, hS, hNM, hIN, hB, hK, hH⟩ := R
  have hv3 := hV.1.2.2.2.2.1
  have hv4 := hV.1.2.2.2.2.2
  have hv1 := hV.1.2.2.1
  have hSs : SC v (inp, se, dr, rdr, b, c, hi, ck).2.1 := hS
  have hK' : (ck = 0 ∧ ik = 0) ∨ (ck = 1 ∧ ik = 1 ∧ BRL v (k + 1) c kept) := hK.imp id (fun x => ⟨x.1, x.2.1, BRL_mono x.2.2 (Nat.le_succ k)⟩)
  obtain ⟨c0, hc1, hc2, hc3, hc4⟩ : ∃ c0, b.2.2.2.2.2.2.2.1 = nI c0 ∧ c0 ≤ 512 ∧ now 1 = nI c0 ∧ ∀ i w, i < c0 → c0 ≤ i + 40 → w < 7 → now (70 + 7 * (i % 40) + w) = b.2.2.2.2.2.2.2.2.1 (7 * i + w) := by
    obtain ⟨_, _, _, c0, _, _, _, _, _, _, _, H4, _⟩ := hB.1
    exact ⟨c0, H4.1, H4.2.1, H4.2.2.1, H4.2.2.2.1⟩
  have h01 : ∀ i, i < c0 → b.2.2.2.2.2.2.2.2.1 (7 * i + 6) = 0 ∨ b.2.2.2.2.2.2.2.2.1 (7 * i + 6) = 1 := by
    obtain ⟨_, _, _, c1, _, _, _, _, _, _, _, H4, _⟩ := hB.1
    intro i hi
    have hcc : c1 = c0 := by
      have h1 := H4.1
      have h2 := H4.2.1
      rw [hc1, nI_eq (by omega) (by omega)] at h1
      exact h1.symm
    exact (H4.2.2.2.2.1 i (by omega)).2.2.2
  have hke : F_U_isKept N b x1 = some (if x1 < nI (c0 - 40) ∨ nI c0 ≤ x1 then 0 else 1) := by
    unfold F_U_isKept
    rw [hc1, C_isKept (by omega)]; rfl
  by_cases h1 : x1 < nI (c0 - 40) ∨ nI c0 ≤ x1
  · have hP : P_refund N (inp, se, dr, rdr, b, c, hi, ck) x1 = some (3, 0, (inp, se, dr, rdr, b, c, hi, ck)) := by
      unfold P_refund
      unfold P_needKeptPurchase
      dsimp only
      rw [show F_B_purchases N b = some () from rfl, Option.bind_some, hke, if_pos h1]; rfl
    have hG : F_M_refund N (th, ch, ik, len, pa_, tok, err, hti, see, rk, bl, fx, rdd, le, ler, so, sor, wh, whr, now, kept, past, buf) x1 = some (0, ((1 : Int32), ch, ik, len, pa_, tok, err, hti, see, rk, bl, fx, rdd, le, ler, so, sor, wh, whr, now, kept, past, buf)) := by
      unfold F_M_refund
      dsimp only
      unfold f_X11_refund f_X11_refund_b29
      rw [M_isBought hc3 (by omega), if_pos h1]; rfl
    exact fin_no (c := 1) (by dsimp only; unfold W_refund; rw [hP]; rfl) (by decide) hG rfl (RlW_thrown HR0 1)
  have h1' := h1
  obtain ⟨i, hi0, hi2, rfl⟩ : ∃ i, i < c0 ∧ c0 ≤ i + 40 ∧ x1 = nI i := by
    have h2 : ¬ x1 < 0 := fun hh => h1 (Or.inl (Int32.lt_of_lt_of_le hh (by rw [← nI_0, nI_leI (by omega) (by omega)]; omega)))
    obtain ⟨j, h3, h4⟩ := nI_of h2
    subst h4
    rw [nI_ltI h3 (by omega), nI_leI (by omega) h3] at h1
    exact ⟨j, by omega, by omega, rfl⟩
  have hpt : F_U_part N b (nI i) 6 = some (b.2.2.2.2.2.2.2.2.1 (7 * i + 6)) := by
    unfold F_U_part
    have h5 : f_X5_part (nI i) 6 3584 b.2.2.2.2.2.2.2.2.1 = some (b.2.2.2.2.2.2.2.2.1 (7 * i + 6)) := C_part (w := 6) (by omega) (by omega)
    rw [h5]; rfl
  have hbt : f_X11_bought (nI i) 6 72470 now = some (b.2.2.2.2.2.2.2.2.1 (7 * i + 6)) := by
    have h5 : f_X11_bought (nI i) 6 72470 now = some (now (70 + 7 * (i % 40) + 6)) := M_bought (w := 6) (by omega) (by omega)
    rw [h5, hc4 i 6 hi0 hi2 (by omega)]
  by_cases h2 : ¬ b.2.2.2.2.2.2.2.2.1 (7 * i + 6) = 0
  · have hP : P_refund N (inp, se, dr, rdr, b, c, hi, ck) (nI i) = some (1, 0, (inp, se, dr, rdr, b, c, hi, ck)) := by
      unfold P_refund
      unfold P_needKeptPurchase
      dsimp only
      rw [show F_B_purchases N b = some () from rfl, Option.bind_some, hke, if_neg h1', Option.bind_some, if_neg (by decide), Option.bind_some, if_pos rfl, Option.bind_some, hpt, Option.bind_some, if_neg h2]
    have hG : F_M_refund N (th, ch, ik, len, pa_, tok, err, hti, see, rk, bl, fx, rdd, le, ler, so, sor, wh, whr, now, kept, past, buf) (nI i) = some (0, ((2 : Int32), ch, ik, len, pa_, tok, err, hti, see, rk, bl, fx, rdd, le, ler, so, sor, wh, whr, now, kept, past, buf)) := by
      unfold F_M_refund
      dsimp only
      unfold f_X11_refund f_X11_refund_b29
      rw [M_isBought hc3 (by omega), if_neg h1', Option.bind_some, if_neg (by decide), hbt, Option.bind_some, if_pos ((h01 i hi0).elim (fun e => absurd e h2) id)]; rfl
    exact fin_no (c := 2) (by dsimp only; unfold W_refund; rw [hP]; rfl) (by decide) hG rfl (RlW_thrown HR0 2)
  have h2' := Classical.not_not.mp h2
  obtain ⟨h', ch', pa', k1, k2, k3⟩ := S_keep hV hH hB hN
  obtain ⟨b', g', r1, r2, q, c1, c2, c3⟩ := S_refund (rk := rk) (bl := bl) (N := N) hV hM hS hB.1 hk hc1 hc2 hi0 hi2 h2' (by omega) k2
  have hLv : Liv v b'.2.2.2.2.2.2.2.2.2.2.2.2.2.2.2.1 := by
    have h3 := c1
    unfold F_B_takeBack at h3
    obtain ⟨r, _, h4⟩ := Option.bind_eq_some_iff.mp h3
    cases h4
    exact hB.2
  have hP : P_refund N (inp, se, dr, rdr, b, c, hi, ck) (nI i) = some (0, q, (inp, se, dr, rdr, b', c, h', ck)) := by
    unfold P_refund
    unfold P_needKeptPurchase
    dsimp only
    rw [show F_B_purchases N b = some () from rfl, Option.bind_some, hke, if_neg h1', Option.bind_some, if_neg (by decide), Option.bind_some, if_pos rfl, Option.bind_some, hpt, Option.bind_some, if_pos h2', k1, Option.bind_some, c1]; rfl
  have hG : F_M_refund N (th, ch, ik, len, pa_, tok, err, hti, see, rk, bl, fx, rdd, le, ler, so, sor, wh, whr, now, kept, past, buf) (nI i) = some (q, ((0 : Int32), ch', ik, len, pa_, tok, err, hti, see, r1, r2, fx, rdd, le, ler, so, sor, wh, whr, g', kept, pa', buf)) := by
    unfold F_M_refund
    dsimp only
    rw [c2]; rfl
  have hW : W_refund N (inp, se, dr, rdr, b, c, hi, ck) f (nI i) = some (0, (inp, se, dr, rdr, b', c, h', ck), vp_updL f 0 (q).toInt64) := by
    unfold W_refund
    rw [hP]; rfl
  have hRel : RlC v (k + 1) inp se b' c h' ck ch' ik len fx le so wh g' kept pa' buf := ⟨hV, hM, hS, hNM, hIN, ⟨c3, hLv⟩, hK', HIS_mono k3 (Nat.le_succ k)⟩
  exact fin_ok (k := k) (s' := (inp, se, dr, rdr, b', c, h', ck)) (m' := ((0 : Int32), ch', ik, len, pa_, tok, err, hti, see, r1, r2, fx, rdd, le, ler, so, sor, wh, whr, g', kept, pa', buf)) (f := f) (p := q) hW hG rfl ⟨v, hRel⟩

