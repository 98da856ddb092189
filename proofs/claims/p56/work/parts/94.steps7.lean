theorem T_cohort {N : Nat} (hN : 600000 < N) (x1 : Int32) (x2 : Int32) (x3 : Int32) : StA RlW (fun s f => W_cohort N s f x1 x2 x3) (fun m => F_M_cohort N m x1 x2 x3) := by
  intro k s m f hk HR
  obtain ⟨inp, se, dr, rdr, b, c, hi, ck⟩ := s
  obtain ⟨th, ch, ik, len, pa_, tok, err, hti, see, rk, bl, fx, rdd, le, ler, so, sor, wh, whr, now, kept, past, buf⟩ := m
  obtain ⟨v, R⟩ := HR
  have R : RlC v k inp se b c hi ck ch ik len fx le so wh now kept past buf := R
  have HR0 : RlW k (inp, se, dr, rdr, b, c, hi, ck) (th, ch, ik, len, pa_, tok, err, hti, see, rk, bl, fx, rdd, le, ler, so, sor, wh, whr, now, kept, past, buf) := ⟨v, R⟩
  obtain ⟨hV, hM, hS, hNM, hIN, hB, hK, hH⟩ := R
  have hv3 := hV.1.2.2.2.2.1
  have hv4 := hV.1.2.2.2.2.2
  have hv1 := hV.1.2.2.1
  have hSs : SC v (inp, se, dr, rdr, b, c, hi, ck).2.1 := hS
  have hK' : (ck = 0 ∧ ik = 0) ∨ (ck = 1 ∧ ik = 1 ∧ BRL v (k + 1) c kept) := hK.imp id (fun x => ⟨x.1, x.2.1, BRL_mono x.2.2 (Nat.le_succ k)⟩)
  obtain ⟨d, E, Lg, c0, dy, db, rd, ⟨a1, a2⟩, ⟨a3, a4, a5⟩, ⟨H1, H2, H3⟩, ⟨HL, HLm⟩, H4, H5, H6, H7⟩ := hB.1
  by_cases h1 : outN x1 (v 3)
  · have hP : P_cohort N (inp, se, dr, rdr, b, c, hi, ck) x1 x2 x3 = some (4, 0, (inp, se, dr, rdr, b, c, hi, ck)) := by
      unfold P_cohort
      rw [mem_out hSs h1 N]; rfl
    have hG : F_M_cohort N (th, ch, ik, len, pa_, tok, err, hti, see, rk, bl, fx, rdd, le, ler, so, sor, wh, whr, now, kept, past, buf) x1 x2 x3 = some (0, ((1 : Int32), ch, ik, len, pa_, tok, err, hti, see, rk, bl, fx, rdd, le, ler, so, sor, wh, whr, now, kept, past, buf)) := by
      unfold F_M_cohort
      dsimp only
      unfold f_X11_cohort
      rw [M_lacksMember x1 (n := v 3) (by omega) (hM 3 (by omega)), if_pos h1]; rfl
    exact fin_no (c := 1) (by dsimp only; unfold W_cohort; rw [hP]; rfl) (by decide) hG rfl (RlW_thrown HR0 1)
  have h1' := h1
  obtain ⟨m, hm3, rfl⟩ := outN_not (by omega) h1
  have hm12 : m < 12 := by omega
  have hcl : cntE (fun k => decide (kL k = m)) E ≤ 1024 := Nat.le_trans cntE_le (by omega)
  have hnum : F_H_number N b (nI m) = some (nI (cntE (fun k => decide (kL k = m)) E)) := by
    unfold F_H_number
    rw [C_cnt H1 (by omega) (by omega)]; rfl
  by_cases h2 : outN x2 (cntE (fun k => decide (kL k = m)) E)
  · have hnc : P_needCohort N (inp, se, dr, rdr, b, c, hi, ck) (nI m) x2 = some 4 := by
      unfold P_needCohort
      dsimp only
      rw [show F_B_cohorts N b = some () from rfl, Option.bind_some]
      exact need_out h2 _ hnum
    have hmc : f_X11_cohort N (nI m) x2 x3 71 72470 fx now = some (0, 1) := by
      unfold f_X11_cohort
      rw [M_lacksMember (nI m) (n := v 3) (by omega) (hM 3 (by omega)), if_neg h1', Option.bind_some, if_pos rfl]
      by_cases h4 : 0 ≤ x2
      · obtain ⟨i, i1, i2⟩ := nI_of (Int32.not_lt.mpr h4)
        subst i2
        have i3 : cntE (fun k => decide (kL k = m)) E ≤ i := h2.elim (fun e => absurd e (Int32.not_lt.mpr h4)) (fun e => (nI_leI (by omega) i1).mp e)
        rw [if_pos h4, (M_cohortDay hV H2 H1.2.1 H1.2.2.1 H1.2.2.2 H3 a5 a4 hm12 i1 (by omega)).2 i3]; rfl
      · rw [if_neg h4]; rfl
    have hP : P_cohort N (inp, se, dr, rdr, b, c, hi, ck) (nI m) x2 x3 = some (4, 0, (inp, se, dr, rdr, b, c, hi, ck)) := by
      unfold P_cohort
      rw [mem_in hSs h1' N, Option.bind_some, if_pos rfl, hnc]; rfl
    have hG : F_M_cohort N (th, ch, ik, len, pa_, tok, err, hti, see, rk, bl, fx, rdd, le, ler, so, sor, wh, whr, now, kept, past, buf) (nI m) x2 x3 = some (0, ((1 : Int32), ch, ik, len, pa_, tok, err, hti, see, rk, bl, fx, rdd, le, ler, so, sor, wh, whr, now, kept, past, buf)) := by
      unfold F_M_cohort
      dsimp only
      rw [hmc]; rfl
    exact fin_no (c := 1) (by dsimp only; unfold W_cohort; rw [hP]; rfl) (by decide) hG rfl (RlW_thrown HR0 1)
  have h2' := h2
  have hnc : P_needCohort N (inp, se, dr, rdr, b, c, hi, ck) (nI m) x2 = some 0 := by
    unfold P_needCohort
    dsimp only
    rw [show F_B_cohorts N b = some () from rfl, Option.bind_some]
    exact need_in h2 _ hnum
  obtain ⟨i, hi0, rfl⟩ := outN_not (by omega) h2
  obtain ⟨x, hx, hpart⟩ := C_nth H1 (show m < 16 by omega) hi0 (N := N) (by omega)
  have hcd := (M_cohortDay hV H2 H1.2.1 H1.2.2.1 H1.2.2.2 H3 a5 a4 hm12 (show i < 2 ^ 31 by omega) (N := N) (by omega)).1 x hx
  have h0i : (0 : Int32) ≤ nI i := by rw [← nI_0, nI_leI (by omega) (by omega)]; omega
  have hkd := kD_lt x.1
  have hne : ¬ nI (kD x.1) = (-1 : Int32) := by
    intro hh
    have h5 := nI_pos (n := kD x.1) (by omega)
    rw [hh] at h5
    exact h5 (by decide)
  have hpt := pt_mem H1.2.1 hx.1
  have hxk := mk_k x.1
  rw [hx.2.1, (H1.2.2.1 x hx.1).1.2.2.1 (by rw [hx.2.1]; exact hm12)] at hxk
  have hdx := (H3 x hx.1).1
  have hv5 := hV.2.1.2.1
  by_cases h3 : outR x3 0 1
  · have hP : P_cohort N (inp, se, dr, rdr, b, c, hi, ck) (nI m) (nI i) x3 = some (2, 0, (inp, se, dr, rdr, b, c, hi, ck)) := by
      unfold P_cohort
      rw [mem_in hSs h1' N, Option.bind_some, if_pos rfl, hnc, Option.bind_some, if_pos rfl, btw_out h3]; rfl
    have hG : F_M_cohort N (th, ch, ik, len, pa_, tok, err, hti, see, rk, bl, fx, rdd, le, ler, so, sor, wh, whr, now, kept, past, buf) (nI m) (nI i) x3 = some (0, ((2 : Int32), ch, ik, len, pa_, tok, err, hti, see, rk, bl, fx, rdd, le, ler, so, sor, wh, whr, now, kept, past, buf)) := by
      unfold F_M_cohort
      dsimp only
      unfold f_X11_cohort
      rw [M_lacksMember (nI m) (n := v 3) (by omega) (hM 3 (by omega)), if_neg h1', Option.bind_some, if_pos rfl, if_pos h0i, hcd, Option.bind_some]
      unfold f_X11_cohort_b24
      rw [if_neg hne, show (0 : Int64) = (0 : Int32).toInt64 from rfl, show (1 : Int64) = (1 : Int32).toInt64 from rfl, isIn_out h3]; rfl
    exact fin_no (c := 2) (by dsimp only; unfold W_cohort; rw [hP]; rfl) (by decide) hG rfl (RlW_thrown HR0 2)
  have h3' := h3
  obtain ⟨w, _, hw, rfl⟩ := outR_not (a := 0) (b := 1) (by decide) h3 (by decide)
  have hP : P_cohort N (inp, se, dr, rdr, b, c, hi, ck) (nI m) (nI i) (nI w) = some (0, if nI w = 0 then nI x.2 else nI (kD x.1), (inp, se, dr, rdr, b, c, hi, ck)) := by
    unfold P_cohort
    rw [mem_in hSs h1' N, Option.bind_some, if_pos rfl, hnc, Option.bind_some, if_pos rfl, btw_in h3', Option.bind_some, if_pos rfl, show F_B_cohorts N (inp, se, dr, rdr, b, c, hi, ck).2.2.2.2.1 = some () from rfl, Option.bind_some]
    unfold F_H_part
    rw [hpart]
    by_cases hw0 : nI w = 0
    · rw [if_pos hw0, if_pos hw0]; rfl
    · rw [if_neg hw0, if_neg hw0, if_pos (show nI w = 1 from by rw [show w = 1 from by have : ¬ w = 0 := fun e => hw0 (by rw [e]; rfl); omega]; rfl)]; rfl
  have hG : F_M_cohort N (th, ch, ik, len, pa_, tok, err, hti, see, rk, bl, fx, rdd, le, ler, so, sor, wh, whr, now, kept, past, buf) (nI m) (nI i) (nI w) = some (if nI w = 0 then nI x.2 else nI (kD x.1), ((0 : Int32), ch, ik, len, pa_, tok, err, hti, see, rk, bl, fx, rdd, le, ler, so, sor, wh, whr, now, kept, past, buf)) := by
    unfold F_M_cohort
    dsimp only
    unfold f_X11_cohort
    rw [M_lacksMember (nI m) (n := v 3) (by omega) (hM 3 (by omega)), if_neg h1', Option.bind_some, if_pos rfl, if_pos h0i, hcd, Option.bind_some]
    unfold f_X11_cohort_b24
    rw [if_neg hne, show (0 : Int64) = (0 : Int32).toInt64 from rfl, show (1 : Int64) = (1 : Int32).toInt64 from rfl, isIn_in h3', Option.bind_some, if_neg (by decide)]
    by_cases hw0 : nI w = 0
    · have g1 := grd (i := acI m (kD x.1)) (n := 72470) (by unfold acI; omega) (by decide)
      rw [if_pos hw0, if_pos hw0, M_accountAt (by omega), Option.bind_some, if_neg g1, nI_clamp (by unfold acI; omega), H2.1 m _ hm12 (by omega) (by omega), hxk, hpt]; rfl
    · rw [if_neg hw0, if_neg hw0]; rfl
  have hW : W_cohort N (inp, se, dr, rdr, b, c, hi, ck) f (nI m) (nI i) (nI w) = some (0, (inp, se, dr, rdr, b, c, hi, ck), vp_updL f 0 (if nI w = 0 then nI x.2 else nI (kD x.1)).toInt64) := by
    unfold W_cohort
    rw [hP]; rfl
  exact fin_ok (k := k) (s' := (inp, se, dr, rdr, b, c, hi, ck)) (m' := ((0 : Int32), ch, ik, len, pa_, tok, err, hti, see, rk, bl, fx, rdd, le, ler, so, sor, wh, whr, now, kept, past, buf)) (f := f) (p := if nI w = 0 then nI x.2 else nI (kD x.1)) hW hG rfl (RlW_thrown HR0 0)

