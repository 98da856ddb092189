theorem T_cohortCount {N : Nat} (hN : 600000 < N) (x1 : Int32) : StA RlW (fun s f => W_cohortCount N s f x1) (fun m => F_M_cohortCount N m x1) := by
  intro k s m f hk HR
  obtain ⟨inp, se, dr, rdr, b, c, hi, ck⟩ := s
  obtain ⟨th, ch, ik, len, pa_, tok, err, hti, see, rk, bl, fx, rdd, le, ler, so, sor, wh, whr, now, kept, past, buf⟩ := m
  obtain ⟨v, R⟩ := HR
  have R : RlC v k inp se b c hi ck ch ik len fx le so wh now kept past buf := R
  have HR0 : RlW k (inp, se, dr, rdr, b, c, hi, ck) (th, ch, ik, len, pa_, tok, err, hti, see, rk, bl, fx, rdd, le, ler, so, sor, wh, whr, now, kept, past, buf) := ⟨v, R⟩
  obtain ⟨hV, hM, hS, hNM, hIN, hB, hK, hH⟩ := R
  have hv3 := hV.1.2.2.2.2.1
  have hv4 := hV.1.2.2.2.2.2
  have hv1 := hV.1.2.2.1
  have hSs : SC v (inp, se, dr, rdr, b, c, hi, ck).2.1 := hS
  have hK' : (ck = 0 ∧ ik = 0) ∨ (ck = 1 ∧ ik = 1 ∧ BRL v (k + 1) c kept) := hK.imp id (fun x => ⟨x.1, x.2.1, BRL_mono x.2.2 (Nat.le_succ k)⟩)
  obtain ⟨d, E, Lg, c0, dy, db, rd, ⟨a1, a2⟩, ⟨a3, a4, a5⟩, ⟨H1, H2, H3⟩, ⟨HL, HLm⟩, H4, H5, H6, H7⟩ := hB.1
  by_cases h1 : outN x1 (v 3)
  · have hP : P_cohortCount N (inp, se, dr, rdr, b, c, hi, ck) x1 = some (4, 0, (inp, se, dr, rdr, b, c, hi, ck)) := by
      unfold P_cohortCount
      rw [mem_out hSs h1 N]; rfl
    have hG : F_M_cohortCount N (th, ch, ik, len, pa_, tok, err, hti, see, rk, bl, fx, rdd, le, ler, so, sor, wh, whr, now, kept, past, buf) x1 = some (0, ((1 : Int32), ch, ik, len, pa_, tok, err, hti, see, rk, bl, fx, rdd, le, ler, so, sor, wh, whr, now, kept, past, buf)) := by
      unfold F_M_cohortCount
      dsimp only
      unfold f_X11_cohortCount
      rw [M_lacksMember x1 (n := v 3) (by omega) (hM 3 (by omega)), if_pos h1]; rfl
    exact fin_no (c := 1) (by dsimp only; unfold W_cohortCount; rw [hP]; rfl) (by decide) hG rfl (RlW_thrown HR0 1)
  have h1' := h1
  obtain ⟨m, hm3, rfl⟩ := outN_not (by omega) h1
  have hm12 : m < 12 := by omega
  have h00 := M_cntAcc hV H2 H1.2.1 H1.2.2.1 H1.2.2.2 H3 a5 hm12 0 N 0 (Nat.zero_le _) (by omega)
  rw [cntE_zero (fun x _ => by rw [decide_eq_false (show ¬ kD x.1 % 1000 < 0 by omega), Bool.and_false])] at h00
  have hP : P_cohortCount N (inp, se, dr, rdr, b, c, hi, ck) (nI m) = some (0, nI (cntE (fun k => decide (kL k = m)) E), (inp, se, dr, rdr, b, c, hi, ck)) := by
    unfold P_cohortCount
    rw [mem_in hSs h1' N, Option.bind_some, if_pos rfl]
    dsimp only
    rw [show F_B_cohorts N b = some () from rfl, Option.bind_some]
    unfold F_H_number
    rw [C_cnt H1 (by omega) (by omega)]; rfl
  have hG : F_M_cohortCount N (th, ch, ik, len, pa_, tok, err, hti, see, rk, bl, fx, rdd, le, ler, so, sor, wh, whr, now, kept, past, buf) (nI m) = some (nI (cntE (fun k => decide (kL k = m)) E), ((0 : Int32), ch, ik, len, pa_, tok, err, hti, see, rk, bl, fx, rdd, le, ler, so, sor, wh, whr, now, kept, past, buf)) := by
    unfold F_M_cohortCount
    dsimp only
    unfold f_X11_cohortCount
    rw [M_lacksMember (nI m) (n := v 3) (by omega) (hM 3 (by omega)), if_neg h1', Option.bind_some, if_pos rfl]
    rw [show f_X11_cohortCount_b14 (nI m) 72470 0 now N 0 0 = _ from h00]; rfl
  have hW : W_cohortCount N (inp, se, dr, rdr, b, c, hi, ck) f (nI m) = some (0, (inp, se, dr, rdr, b, c, hi, ck), vp_updL f 0 (nI (cntE (fun k => decide (kL k = m)) E)).toInt64) := by
    unfold W_cohortCount
    rw [hP]; rfl
  exact fin_ok (k := k) (s' := (inp, se, dr, rdr, b, c, hi, ck)) (m' := ((0 : Int32), ch, ik, len, pa_, tok, err, hti, see, rk, bl, fx, rdd, le, ler, so, sor, wh, whr, now, kept, past, buf)) (f := f) (p := nI (cntE (fun k => decide (kL k = m)) E)) hW hG rfl (RlW_thrown HR0 0)

theorem T_poolCohortCount {N : Nat} (hN : 600000 < N) (x1 : Int32) : StA RlW (fun s f => W_poolCohortCount N s f x1) (fun m => F_M_poolCohortCount N m x1) := by
  intro k s m f hk HR
  obtain ⟨inp, se, dr, rdr, b, c, hi, ck⟩ := s
  obtain ⟨th, ch, ik, len, pa_, tok, err, hti, see, rk, bl, fx, rdd, le, ler, so, sor, wh, whr, now, kept, past, buf⟩ := m
  obtain ⟨v, R⟩ := HR
  have R : RlC v k inp se b c hi ck ch ik len fx le so wh now kept past buf := R
  have HR0 : RlW k (inp, se, dr, rdr, b, c, hi, ck) (th, ch, ik, len, pa_, tok, err, hti, see, rk, bl, fx, rdd, le, ler, so, sor, wh, whr, now, kept, past, buf) := ⟨v, R⟩
  obtain ⟨hV, hM, hS, hNM, hIN, hB, hK, hH⟩ := R
  have hv3 := hV.1.2.2.2.2.1
  have hv4 := hV.1.2.2.2.2.2
  have hv1 := hV.1.2.2.1
  have hSs : SC v (inp, se, dr, rdr, b, c, hi, ck).2.1 := hS
  have hK' : (ck = 0 ∧ ik = 0) ∨ (ck = 1 ∧ ik = 1 ∧ BRL v (k + 1) c kept) := hK.imp id (fun x => ⟨x.1, x.2.1, BRL_mono x.2.2 (Nat.le_succ k)⟩)
  obtain ⟨d, E, Lg, c0, dy, db, rd, ⟨a1, a2⟩, ⟨a3, a4, a5⟩, ⟨H1, H2, H3⟩, ⟨HL, HLm⟩, H4, H5, H6, H7⟩ := hB.1
  by_cases h1 : outN x1 (v 4)
  · have hP : P_poolCohortCount N (inp, se, dr, rdr, b, c, hi, ck) x1 = some (4, 0, (inp, se, dr, rdr, b, c, hi, ck)) := by
      unfold P_poolCohortCount
      rw [hou_out hSs h1 N]; rfl
    have hG : F_M_poolCohortCount N (th, ch, ik, len, pa_, tok, err, hti, see, rk, bl, fx, rdd, le, ler, so, sor, wh, whr, now, kept, past, buf) x1 = some (0, ((1 : Int32), ch, ik, len, pa_, tok, err, hti, see, rk, bl, fx, rdd, le, ler, so, sor, wh, whr, now, kept, past, buf)) := by
      unfold F_M_poolCohortCount
      dsimp only
      unfold f_X11_poolCohortCount
      rw [M_lacksHouse x1 (n := v 4) (by omega) (hM 4 (by omega)), if_pos h1]; rfl
    exact fin_no (c := 1) (by dsimp only; unfold W_poolCohortCount; rw [hP]; rfl) (by decide) hG rfl (RlW_thrown HR0 1)
  have h1' := h1
  obtain ⟨h, hh4, rfl⟩ := outN_not (by omega) h1
  have h44 : h < 4 := by omega
  have hpl : f_X10_poolList (nI h) = some (nI (12 + h)) := by
    have h5 := C_poolList (h := h + 1) (by omega)
    rw [if_neg (by omega), show 11 + (h + 1) = 12 + h by omega] at h5
    exact h5
  have hP : P_poolCohortCount N (inp, se, dr, rdr, b, c, hi, ck) (nI h) = some (0, nI (cntE (fun k => decide (kL k = 12 + h)) E), (inp, se, dr, rdr, b, c, hi, ck)) := by
    unfold P_poolCohortCount
    rw [hou_in hSs h1' N, Option.bind_some, if_pos rfl]
    dsimp only
    rw [show F_B_cohorts N b = some () from rfl, Option.bind_some, hpl, Option.bind_some]
    unfold F_H_number
    rw [C_cnt H1 (by omega) (by omega)]; rfl
  have hG : F_M_poolCohortCount N (th, ch, ik, len, pa_, tok, err, hti, see, rk, bl, fx, rdd, le, ler, so, sor, wh, whr, now, kept, past, buf) (nI h) = some (nI (cntE (fun k => decide (kL k = 12 + h)) E), ((0 : Int32), ch, ik, len, pa_, tok, err, hti, see, rk, bl, fx, rdd, le, ler, so, sor, wh, whr, now, kept, past, buf)) := by
    unfold F_M_poolCohortCount
    dsimp only
    unfold f_X11_poolCohortCount
    rw [M_lacksHouse (nI h) (n := v 4) (by omega) (hM 4 (by omega)), if_neg h1', Option.bind_some, if_pos rfl]
    rw [M_cntPool hV H2 H1.2.1 H1.2.2.1 H1.2.2.2 H3 a5 h44 (by omega)]; rfl
  have hW : W_poolCohortCount N (inp, se, dr, rdr, b, c, hi, ck) f (nI h) = some (0, (inp, se, dr, rdr, b, c, hi, ck), vp_updL f 0 (nI (cntE (fun k => decide (kL k = 12 + h)) E)).toInt64) := by
    unfold W_poolCohortCount
    rw [hP]; rfl
  exact fin_ok (k := k) (s' := (inp, se, dr, rdr, b, c, hi, ck)) (m' := ((0 : Int32), ch, ik, len, pa_, tok, err, hti, see, rk, bl, fx, rdd, le, ler, so, sor, wh, whr, now, kept, past, buf)) (f := f) (p := nI (cntE (fun k => decide (kL k = 12 + h)) E)) hW hG rfl (RlW_thrown HR0 0)

