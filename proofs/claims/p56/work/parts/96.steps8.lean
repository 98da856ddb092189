theorem T_poolCohort {N : Nat} (hN : 600000 < N) (x1 : Int32) (x2 : Int32) (x3 : Int32) : StA RlW (fun s f => W_poolCohort N s f x1 x2 x3) (fun m => F_M_poolCohort N m x1 x2 x3) := by
  intro k s m f hk HR
  obtain ⟨inp, se, dr, rdr, b, c, hi, ck⟩ := s
  obtain ⟨th, ch, ik, len, pa_, tok, err, hti, see, rk, bl, fx, rdd, le, ler, so, sor, wh, whr, now, kept, past, buf⟩ := m
  obtain ⟨v, R⟩ := HR
  have R : RlC v k inp se b c hi ck ch ik len fx le so wh now kept past buf := R
  have HR0 : RlW k (inp, se, dr, rdr, b, c, hi, ck) (th, ch, ik, len, pa_, tok, err, hti, see, rk, bl, fx, rdd, le, ler, so, sor, wh, whr, now, kept, past, buf) := ⟨v, R⟩
  obtain ⟨hV, hM, hS, hNM, hIN, hB, hK, hH⟩ := R
  have hv3 := hV.1.2.2.2.2.1
  have hv4 := hV.1.2.2.2.2.2
  have hv1 := hV.1.2.2.1
  have hSs : SC v (inp, se, dr, rdr, b, c, hi, ck).2.1 := hS
  have hK' : (ck = 0 ∧ ik = 0) ∨ (ck = 1 ∧ ik = 1 ∧ BRL v (k + 1) c kept) := hK.imp id (fun x => ⟨x.1, x.2.1, BRL_mono x.2.2 (Nat.le_succ k)⟩)
  obtain ⟨d, E, Lg, c0, dy, db, rd, ⟨a1, a2⟩, ⟨a3, a4, a5⟩, ⟨H1, H2, H3⟩, ⟨HL, HLm⟩, H4, H5, H6, H7⟩ := hB.1
  by_cases h1 : outN x1 (v 4)
  · have hP : P_poolCohort N (inp, se, dr, rdr, b, c, hi, ck) x1 x2 x3 = some (4, 0, (inp, se, dr, rdr, b, c, hi, ck)) := by
      unfold P_poolCohort
      rw [hou_out hSs h1 N]; rfl
    have hG : F_M_poolCohort N (th, ch, ik, len, pa_, tok, err, hti, see, rk, bl, fx, rdd, le, ler, so, sor, wh, whr, now, kept, past, buf) x1 x2 x3 = some (0, ((1 : Int32), ch, ik, len, pa_, tok, err, hti, see, rk, bl, fx, rdd, le, ler, so, sor, wh, whr, now, kept, past, buf)) := by
      unfold F_M_poolCohort
      dsimp only
      unfold f_X11_poolCohort
      rw [M_lacksHouse x1 (n := v 4) (by omega) (hM 4 (by omega)), if_pos h1]; rfl
    exact fin_no (c := 1) (by dsimp only; unfold W_poolCohort; rw [hP]; rfl) (by decide) hG rfl (RlW_thrown HR0 1)
  have h1' := h1
  obtain ⟨h, hh4, rfl⟩ := outN_not (by omega) h1
  have h44 : h < 4 := by omega
  have hcl : cntE (fun k => decide (kL k = 12 + h)) E ≤ 1024 := Nat.le_trans cntE_le (by omega)
  have hnum : F_H_number N b (nI (12 + h)) = some (nI (cntE (fun k => decide (kL k = 12 + h)) E)) := by
    unfold F_H_number
    rw [C_cnt H1 (by omega) (by omega)]; rfl
  have hpl : f_X10_poolList (nI h) = some (nI (12 + h)) := by
    have h5 := C_poolList (h := h + 1) (by omega)
    rw [if_neg (by omega), show 11 + (h + 1) = 12 + h by omega] at h5
    exact h5
  have hncs : P_needCohort N (inp, se, dr, rdr, b, c, hi, ck) (nI (12 + h)) x2 = some (if outN x2 (cntE (fun k => decide (kL k = 12 + h)) E) then 4 else 0) := by
    unfold P_needCohort
    dsimp only
    rw [show F_B_cohorts N b = some () from rfl, Option.bind_some]
    by_cases h2 : outN x2 (cntE (fun k => decide (kL k = 12 + h)) E)
    · rw [if_pos h2]
      exact need_out h2 _ hnum
    · rw [if_neg h2]
      exact need_in h2 _ hnum
  by_cases h2 : outN x2 (cntE (fun k => decide (kL k = 12 + h)) E)
  · have hP : P_poolCohort N (inp, se, dr, rdr, b, c, hi, ck) (nI h) x2 x3 = some (4, 0, (inp, se, dr, rdr, b, c, hi, ck)) := by
      unfold P_poolCohort
      rw [hou_in hSs h1' N, Option.bind_some, if_pos rfl, hpl, Option.bind_some, hncs, if_pos h2]; rfl
    have hG : F_M_poolCohort N (th, ch, ik, len, pa_, tok, err, hti, see, rk, bl, fx, rdd, le, ler, so, sor, wh, whr, now, kept, past, buf) (nI h) x2 x3 = some (0, ((1 : Int32), ch, ik, len, pa_, tok, err, hti, see, rk, bl, fx, rdd, le, ler, so, sor, wh, whr, now, kept, past, buf)) := by
      unfold F_M_poolCohort
      dsimp only
      unfold f_X11_poolCohort
      rw [M_lacksHouse (nI h) (n := v 4) (by omega) (hM 4 (by omega)), if_neg h1', Option.bind_some, if_pos rfl, M_cntPool hV H2 H1.2.1 H1.2.2.1 H1.2.2.2 H3 a5 h44 (by omega), Option.bind_some, M_isInN _ (by omega), if_pos h2]; rfl
    exact fin_no (c := 1) (by dsimp only; unfold W_poolCohort; rw [hP]; rfl) (by decide) hG rfl (RlW_thrown HR0 1)
  have h2' := h2
  have hnc := hncs
  rw [if_neg h2] at hnc
  obtain ⟨i, hi0, rfl⟩ := outN_not (by omega) h2
  obtain ⟨x, hx, hpart⟩ := C_nth H1 (show 12 + h < 16 by omega) hi0 (N := N) (by omega)
  have h00 : cntE (QB (12 + h) (mkK (12 + h) (d + 1) 1)) E = 0 := cntE_zero (fun x hx => QB_f.mpr (fun hh => by
    have h8 := (H3 x hx).1
    have h80 := (H1.2.2.1 x hx).1.2.2.2 (by omega)
    have h9 := mk_k x.1
    rw [hh.1] at h9
    have h10 := hh.2
    unfold mkK at h9 h10
    omega))
  by_cases h3 : outR x3 0 2
  · have hP : P_poolCohort N (inp, se, dr, rdr, b, c, hi, ck) (nI h) (nI i) x3 = some (2, 0, (inp, se, dr, rdr, b, c, hi, ck)) := by
      unfold P_poolCohort
      rw [hou_in hSs h1' N, Option.bind_some, if_pos rfl, hpl, Option.bind_some, hnc, Option.bind_some, if_pos rfl, btw_out h3]; rfl
    have hG : F_M_poolCohort N (th, ch, ik, len, pa_, tok, err, hti, see, rk, bl, fx, rdd, le, ler, so, sor, wh, whr, now, kept, past, buf) (nI h) (nI i) x3 = some (0, ((2 : Int32), ch, ik, len, pa_, tok, err, hti, see, rk, bl, fx, rdd, le, ler, so, sor, wh, whr, now, kept, past, buf)) := by
      unfold F_M_poolCohort
      dsimp only
      unfold f_X11_poolCohort
      rw [M_lacksHouse (nI h) (n := v 4) (by omega) (hM 4 (by omega)), if_neg h1', Option.bind_some, if_pos rfl, M_cntPool hV H2 H1.2.1 H1.2.2.1 H1.2.2.2 H3 a5 h44 (by omega), Option.bind_some, M_isInN _ (by omega), if_neg h2', Option.bind_some, if_neg (by decide), show (0 : Int64) = (0 : Int32).toInt64 from rfl, show (2 : Int64) = (2 : Int32).toInt64 from rfl, isIn_out h3]; rfl
    exact fin_no (c := 2) (by dsimp only; unfold W_poolCohort; rw [hP]; rfl) (by decide) hG rfl (RlW_thrown HR0 2)
  have h3' := h3
  have hcd := M_poolNth hV H2 H1.2.1 H1.2.2.1 H1.2.2.2 H3 a5 h44 hx (show i < 2 ^ 31 by omega) x3 0 N 0 (by omega) (by omega) (by
    have h01 : cntE (QB (12 + h) (mkK (12 + h) (d + 1 + 0 / 12) (0 % 12 + 1))) E = 0 := h00
    rw [h01]; exact Nat.zero_le _)
  have h01 : cntE (QB (12 + h) (mkK (12 + h) (d + 1 + 0 / 12) (0 % 12 + 1))) E = 0 := h00
  rw [h01, Nat.sub_zero] at hcd
  have hP : P_poolCohort N (inp, se, dr, rdr, b, c, hi, ck) (nI h) (nI i) x3 = some (0, if x3 = 0 then nI x.2 else if x3 = 1 then nI (kD x.1) else cI (kC x.1), (inp, se, dr, rdr, b, c, hi, ck)) := by
    unfold P_poolCohort
    rw [hou_in hSs h1' N, Option.bind_some, if_pos rfl, hpl, Option.bind_some, hnc, Option.bind_some, if_pos rfl, btw_in h3', Option.bind_some, if_pos rfl, show F_B_cohorts N (inp, se, dr, rdr, b, c, hi, ck).2.2.2.2.1 = some () from rfl, Option.bind_some, Option.bind_some]
    unfold F_H_part
    rw [hpart]; rfl
  have hG : F_M_poolCohort N (th, ch, ik, len, pa_, tok, err, hti, see, rk, bl, fx, rdd, le, ler, so, sor, wh, whr, now, kept, past, buf) (nI h) (nI i) x3 = some (if x3 = 0 then nI x.2 else if x3 = 1 then nI (kD x.1) else cI (kC x.1), ((0 : Int32), ch, ik, len, pa_, tok, err, hti, see, rk, bl, fx, rdd, le, ler, so, sor, wh, whr, now, kept, past, buf)) := by
    unfold F_M_poolCohort
    dsimp only
    unfold f_X11_poolCohort
    rw [M_lacksHouse (nI h) (n := v 4) (by omega) (hM 4 (by omega)), if_neg h1', Option.bind_some, if_pos rfl, M_cntPool hV H2 H1.2.1 H1.2.2.1 H1.2.2.2 H3 a5 h44 (by omega), Option.bind_some, M_isInN _ (by omega), if_neg h2', Option.bind_some, if_neg (by decide), show (0 : Int64) = (0 : Int32).toInt64 from rfl, show (2 : Int64) = (2 : Int32).toInt64 from rfl, isIn_in h3', Option.bind_some, if_neg (by decide), M_today, Option.bind_some, a4, nI_1, Option.bind_some, show f_X11_poolCohort_b65 (nI h) x3 72470 0 now N (nI i) (nI (d + 1)) 0 = _ from hcd]; rfl
  have hW : W_poolCohort N (inp, se, dr, rdr, b, c, hi, ck) f (nI h) (nI i) x3 = some (0, (inp, se, dr, rdr, b, c, hi, ck), vp_updL f 0 (if x3 = 0 then nI x.2 else if x3 = 1 then nI (kD x.1) else cI (kC x.1)).toInt64) := by
    unfold W_poolCohort
    rw [hP]; rfl
  exact fin_ok (k := k) (s' := (inp, se, dr, rdr, b, c, hi, ck)) (m' := ((0 : Int32), ch, ik, len, pa_, tok, err, hti, see, rk, bl, fx, rdd, le, ler, so, sor, wh, whr, now, kept, past, buf)) (f := f) (p := if x3 = 0 then nI x.2 else if x3 = 1 then nI (kD x.1) else cI (kC x.1)) hW hG rfl (RlW_thrown HR0 0)

