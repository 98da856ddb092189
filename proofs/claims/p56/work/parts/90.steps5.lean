theorem T_expiringWithin {N : Nat} (hN : 600000 < N) (x1 : Int32) (x2 : Int32) : StA RlW (fun s f => W_expiringWithin N s f x1 x2) (fun m => F_M_expiringWithin N m x1 x2) := by
  intro k s m f hk HR
  obtain ⟨inp, se, dr, rdr, b, c, hi, ck⟩ := s
  obtain ⟨th, ch, ik, len, pa_, tok, err, hti, see, rk, bl, fx, rdd, le, ler, so, sor, wh, whr, now, kept, past, buf⟩ := m
  obtain ⟨v, R⟩ := HR
  have R : RlC v k inp se b c hi ck ch ik len fx le so wh now kept past buf := R
  have HR0 : RlW k (inp, se, dr, rdr, b, c, hi, ck) (th, ch, ik, len, pa_, tok, err, hti, see, rk, bl, fx, rdd, le, ler, so, sor, wh, whr, now, kept, past, buf) := ⟨v, R⟩
  obtain ⟨hV, hM, hS, hNM, hIN, hB, hK, hH⟩ := R
  have hv3 := hV.1.2.2.2.2.1
  have hv4 := hV.1.2.2.2.2.2
  have hv1 := hV.1.2.2.1
  have hSs : SC v (inp, se, dr, rdr, b, c, hi, ck).2.1 := hS
  have hK' : (ck = 0 ∧ ik = 0) ∨ (ck = 1 ∧ ik = 1 ∧ BRL v (k + 1) c kept) := hK.imp id (fun x => ⟨x.1, x.2.1, BRL_mono x.2.2 (Nat.le_succ k)⟩)
  obtain ⟨d, E, Lg, c0, dy, db, rd, ⟨a1, a2⟩, ⟨a3, a4, a5⟩, ⟨H1, H2, H3⟩, ⟨HL, HLm⟩, H4, H5, H6, H7⟩ := hB.1
  by_cases h1 : outN x1 (v 3)
  · have hP : P_expiringWithin N (inp, se, dr, rdr, b, c, hi, ck) x1 x2 = some (4, 0, (inp, se, dr, rdr, b, c, hi, ck)) := by
      unfold P_expiringWithin
      rw [mem_out hSs h1 N]; rfl
    have hG : F_M_expiringWithin N (th, ch, ik, len, pa_, tok, err, hti, see, rk, bl, fx, rdd, le, ler, so, sor, wh, whr, now, kept, past, buf) x1 x2 = some (0, ((1 : Int32), ch, ik, len, pa_, tok, err, hti, see, rk, bl, fx, rdd, le, ler, so, sor, wh, whr, now, kept, past, buf)) := by
      unfold F_M_expiringWithin
      dsimp only
      unfold f_X11_expiringWithin
      rw [M_lacksMember x1 (n := v 3) (by omega) (hM 3 (by omega)), if_pos h1]; rfl
    exact fin_no (c := 1) (by dsimp only; unfold W_expiringWithin; rw [hP]; rfl) (by decide) hG rfl (RlW_thrown HR0 1)
  by_cases h2 : outR x2 0 2000
  · have hP : P_expiringWithin N (inp, se, dr, rdr, b, c, hi, ck) x1 x2 = some (2, 0, (inp, se, dr, rdr, b, c, hi, ck)) := by
      unfold P_expiringWithin
      rw [mem_in hSs h1 N, Option.bind_some, if_pos rfl, btw_out h2]; rfl
    have hG : F_M_expiringWithin N (th, ch, ik, len, pa_, tok, err, hti, see, rk, bl, fx, rdd, le, ler, so, sor, wh, whr, now, kept, past, buf) x1 x2 = some (0, ((2 : Int32), ch, ik, len, pa_, tok, err, hti, see, rk, bl, fx, rdd, le, ler, so, sor, wh, whr, now, kept, past, buf)) := by
      unfold F_M_expiringWithin
      dsimp only
      unfold f_X11_expiringWithin
      rw [M_lacksMember x1 (n := v 3) (by omega) (hM 3 (by omega)), if_neg h1, Option.bind_some, if_pos rfl, show (0 : Int64) = (0 : Int32).toInt64 from rfl, show (2000 : Int64) = (2000 : Int32).toInt64 from rfl, isIn_out h2]; rfl
    exact fin_no (c := 2) (by dsimp only; unfold W_expiringWithin; rw [hP]; rfl) (by decide) hG rfl (RlW_thrown HR0 2)
  have h1' := h1
  have h2' := h2
  obtain ⟨m, hm3, rfl⟩ := outN_not (by omega) h1
  have hm12 : m < 12 := by omega
  obtain ⟨D, _, hD, rfl⟩ := outR_not (a := 0) (b := 2000) (by decide) h2 (by decide)
  have hv5 := hV.2.1.2.1
  have hloop : ∀ (n j : Nat), j ≤ 1000 → j ≤ D → 1000 < n + j → f_X11_expiringWithin_b38 (nI m) (nI D) 72470 0 now n (nI (sumQ (fun k => decide (kL k = m) && decide (kD k < d + 1 + j)) E)) (nI (d + 1 + j)) = some (nI (sumQ (fun k => decide (kL k = m) && decide (kD k ≤ d + D)) E), 0) := by
    intro n
    induction n with
    | zero => intro j q1 q2 q3; omega
    | succ n ih =>
      intro j q1 q2 q3
      have hfin : (j = 1000 ∨ j = D) → nI (sumQ (fun k => decide (kL k = m) && decide (kD k < d + 1 + j)) E) = nI (sumQ (fun k => decide (kL k = m) && decide (kD k ≤ d + D)) E) := by
        intro hj
        congr 1
        refine sumQ_congr (fun x hx => ?_)
        have h6 := (H3 x hx).1
        congr 1
        by_cases h7 : kD x.1 ≤ d + D
        · rw [decide_eq_true h7, decide_eq_true (show kD x.1 < d + 1 + j by omega)]
        · rw [decide_eq_false h7, decide_eq_false (show ¬ kD x.1 < d + 1 + j by omega)]
      rw [f_X11_expiringWithin_b38, M_last a4 a5, Option.bind_some, M_today, Option.bind_some, a4, nI_add]
      by_cases q4 : j = 1000
      · rw [if_pos ((nI_ltI (by omega) (by omega)).mpr (by omega)), hfin (Or.inl q4)]
      · rw [if_neg (fun hh => by have := (nI_ltI (by omega) (by omega)).mp hh; omega)]
        by_cases q5 : j = D
        · rw [if_pos ((nI_ltI (by omega) (by omega)).mpr (by omega)), hfin (Or.inr q5)]
        · have gp := grd (i := acI m (d + 1 + j)) (n := 72470) (by unfold acI; omega) (by decide)
          rw [if_neg (fun hh => by have := (nI_ltI (by omega) (by omega)).mp hh; omega), M_accountAt (by omega), Option.bind_some, if_neg gp, nI_clamp (by unfold acI; omega), H2.1 m _ hm12 (by omega) (by omega), nI_add, Option.bind_some, nI_1, Option.bind_some, ← sumQ_or (q := fun k => decide (kL k = m) && decide (kD k < d + 1 + j)) (q' := fun k => decide (kL k = m) && decide (kD k < d + 1 + (j + 1))) ?_ H1.2.1 ?_]
          · exact ih (j + 1) (by omega) (by omega) (by omega)
          · rw [kD_mk (by omega) (by omega), decide_eq_false (show ¬ d + 1 + j < d + 1 + j by omega), Bool.and_false]
          · intro x hx
            by_cases h5 : kL x.1 = m
            · have h6 := (H1.2.2.1 x hx).1.2.2.1 (by omega)
              rw [decide_eq_true h5, Bool.true_and, Bool.true_and]
              have h7 : (x.1 = mkK m (d + 1 + j) 0) ↔ kD x.1 = d + 1 + j := by
                refine ⟨fun hh => by rw [hh, kD_mk (by omega) (by omega)], fun hh => ?_⟩
                rw [← mk_k x.1, h5, h6, hh]
              by_cases h8 : kD x.1 = d + 1 + j
              · rw [decide_eq_true (h7.mpr h8), decide_eq_true (show kD x.1 < d + 1 + (j + 1) by omega), Bool.or_true]
              · rw [decide_eq_false (fun hh => h8 (h7.mp hh)), Bool.or_false]
                by_cases h9 : kD x.1 < d + 1 + j
                · rw [decide_eq_true h9, decide_eq_true (show kD x.1 < d + 1 + (j + 1) by omega)]
                · rw [decide_eq_false h9, decide_eq_false (show ¬ kD x.1 < d + 1 + (j + 1) by omega)]
            · rw [decide_eq_false h5, Bool.false_and, Bool.false_and, decide_eq_false (fun hh => h5 (by rw [hh, kL_mk (by omega) (by omega)]))]; rfl
  have h00 := hloop N 0 (by omega) (Nat.zero_le _) (by omega)
  rw [sumQ_zero (q := fun k => decide (kL k = m) && decide (kD k < d + 1 + 0)) (fun x hx => by
    have h6 := (H3 x hx).1
    rw [decide_eq_false (show ¬ kD x.1 < d + 1 + 0 by omega), Bool.and_false])] at h00
  have hcs : F_H_sumUntil N b (nI m) (nI (d + D)) = some (nI (sumQ (fun k => decide (kL k = m) && decide (kD k ≤ d + D)) E)) := by
    unfold F_H_sumUntil
    rw [E_sumUntil H1 (nI m) (d + D) (by omega) (by omega), sumQ_congr (q' := fun k => decide (kL k = m) && decide (kD k ≤ d + D)) (fun x hx => by rw [qK_list (by omega) (H1.2.2.1 x hx).1.1])]; rfl
  have hday : F_B_day N b = some (nI d) := by
    unfold F_B_day f_X0_day
    rw [a3]; rfl
  have hP : P_expiringWithin N (inp, se, dr, rdr, b, c, hi, ck) (nI m) (nI D) = some (0, nI (sumQ (fun k => decide (kL k = m) && decide (kD k ≤ d + D)) E), (inp, se, dr, rdr, b, c, hi, ck)) := by
    unfold P_expiringWithin
    rw [mem_in hSs h1' N, Option.bind_some, if_pos rfl, btw_in h2', Option.bind_some, if_pos rfl, show F_B_cohorts N (inp, se, dr, rdr, b, c, hi, ck).2.2.2.2.1 = some () from rfl, Option.bind_some]
    dsimp only
    rw [hday, Option.bind_some, nI_add, hcs]; rfl
  have hG : F_M_expiringWithin N (th, ch, ik, len, pa_, tok, err, hti, see, rk, bl, fx, rdd, le, ler, so, sor, wh, whr, now, kept, past, buf) (nI m) (nI D) = some (nI (sumQ (fun k => decide (kL k = m) && decide (kD k ≤ d + D)) E), ((0 : Int32), ch, ik, len, pa_, tok, err, hti, see, rk, bl, fx, rdd, le, ler, so, sor, wh, whr, now, kept, past, buf)) := by
    unfold F_M_expiringWithin
    dsimp only
    unfold f_X11_expiringWithin
    rw [M_lacksMember (nI m) (n := v 3) (by omega) (hM 3 (by omega)), if_neg h1', Option.bind_some, if_pos rfl, show (0 : Int64) = (0 : Int32).toInt64 from rfl, show (2000 : Int64) = (2000 : Int32).toInt64 from rfl, isIn_in h2', Option.bind_some, if_neg (by decide), M_today, Option.bind_some, a4, nI_1, Option.bind_some]
    dsimp only
    rw [show f_X11_expiringWithin_b38 (nI m) (nI D) 72470 0 now N 0 (nI (d + 1)) = _ from h00]; rfl
  have hW : W_expiringWithin N (inp, se, dr, rdr, b, c, hi, ck) f (nI m) (nI D) = some (0, (inp, se, dr, rdr, b, c, hi, ck), vp_updL f 0 (nI (sumQ (fun k => decide (kL k = m) && decide (kD k ≤ d + D)) E)).toInt64) := by
    unfold W_expiringWithin
    rw [hP]; rfl
  exact fin_ok (k := k) (s' := (inp, se, dr, rdr, b, c, hi, ck)) (m' := ((0 : Int32), ch, ik, len, pa_, tok, err, hti, see, rk, bl, fx, rdd, le, ler, so, sor, wh, whr, now, kept, past, buf)) (f := f) (p := nI (sumQ (fun k => decide (kL k = m) && decide (kD k ≤ d + D)) E)) hW hG rfl (RlW_thrown HR0 0)

theorem sumN_list {E : List En} : ∀ n, sumN (fun a => sumQ (fun k => decide (kL k = a)) E) n = sumQ (fun k => decide (kL k < n)) E
  | 0 => by
    rw [sumN, sumQ_zero]
    intro x _
    exact decide_eq_false (Nat.not_lt_zero _)
  | n + 1 => by
    rw [sumN, sumN_list n, ← sumQ_add]
    · intro x _
      by_cases h : kL x.1 < n
      · rw [decide_eq_true h, decide_eq_true (show kL x.1 < n + 1 by omega), Bool.true_or]
      · rw [decide_eq_false h, Bool.false_or]
        by_cases h2 : kL x.1 = n
        · rw [decide_eq_true h2, decide_eq_true (show kL x.1 < n + 1 by omega)]
        · rw [decide_eq_false h2, decide_eq_false (show ¬ kL x.1 < n + 1 by omega)]
    · intro x _ h
      have := of_decide_eq_true h
      exact decide_eq_false (show ¬ kL x.1 = n by omega)

theorem T_total {N : Nat} (hN : 600000 < N) (x1 : Int32) : StA RlW (fun s f => W_total N s f x1) (fun m => F_M_total N m x1) := by
  intro k s m f hk HR
  obtain ⟨inp, se, dr, rdr, b, c, hi, ck⟩ := s
  obtain ⟨th, ch, ik, len, pa_, tok, err, hti, see, rk, bl, fx, rdd, le, ler, so, sor, wh, whr, now, kept, past, buf⟩ := m
  obtain ⟨v, R⟩ := HR
  have R : RlC v k inp se b c hi ck ch ik len fx le so wh now kept past buf := R
  have HR0 : RlW k (inp, se, dr, rdr, b, c, hi, ck) (th, ch, ik, len, pa_, tok, err, hti, see, rk, bl, fx, rdd, le, ler, so, sor, wh, whr, now, kept, past, buf) := ⟨v, R⟩
  obtain ⟨hV, hM, hS, hNM, hIN, hB, hK, hH⟩ := R
  have hv3 := hV.1.2.2.2.2.1
  have hv4 := hV.1.2.2.2.2.2
  have hv1 := hV.1.2.2.1
  have hSs : SC v (inp, se, dr, rdr, b, c, hi, ck).2.1 := hS
  have hK' : (ck = 0 ∧ ik = 0) ∨ (ck = 1 ∧ ik = 1 ∧ BRL v (k + 1) c kept) := hK.imp id (fun x => ⟨x.1, x.2.1, BRL_mono x.2.2 (Nat.le_succ k)⟩)
  obtain ⟨d, E, Lg, c0, dy, db, rd, ⟨a1, a2⟩, ⟨a3, a4, a5⟩, ⟨H1, H2, H3⟩, ⟨HL, HLm⟩, H4, H5, H6, H7⟩ := hB.1
  by_cases h1 : outR x1 0 6
  · have hP : P_total N (inp, se, dr, rdr, b, c, hi, ck) x1 = some (2, 0, (inp, se, dr, rdr, b, c, hi, ck)) := by
      unfold P_total
      rw [btw_out h1]; rfl
    have hG : F_M_total N (th, ch, ik, len, pa_, tok, err, hti, see, rk, bl, fx, rdd, le, ler, so, sor, wh, whr, now, kept, past, buf) x1 = some (0, ((1 : Int32), ch, ik, len, pa_, tok, err, hti, see, rk, bl, fx, rdd, le, ler, so, sor, wh, whr, now, kept, past, buf)) := by
      unfold F_M_total
      dsimp only
      unfold f_X11_total
      rw [show (0 : Int64) = (0 : Int32).toInt64 from rfl, show (6 : Int64) = (6 : Int32).toInt64 from rfl, isIn_out h1]; rfl
    exact fin_no (c := 1) (by dsimp only; unfold W_total; rw [hP]; rfl) (by decide) hG rfl (RlW_thrown HR0 1)
  have h1' := h1
  obtain ⟨n, _, hn, rfl⟩ := outR_not (a := 0) (b := 6) (by decide) h1 (by decide)
  have gd3 : ¬ ((3 : Int32) < 0 ∨ 71 ≤ (3 : Int32).toNatClampNeg) := by decide
  have gd4 : ¬ ((4 : Int32) < 0 ∨ 71 ≤ (4 : Int32).toNatClampNeg) := by decide
  obtain ⟨L, hL⟩ : ∃ L : Nat → Nat, L = fun a => sumQ (fun k => decide (kL k = a)) E := ⟨_, rfl⟩
  have hLa : ∀ a, L a = sumQ (fun k => decide (kL k = a)) E := fun a => by rw [hL]
  have hL0 : ∀ a, (a < 12 ∧ v 3 ≤ a) ∨ (12 ≤ a ∧ v 4 ≤ a - 12) → L a = 0 := by
    intro a ha
    rw [hLa]
    refine sumQ_zero (fun x hx => ?_)
    have h6 := (H3 x hx).2
    refine decide_eq_false (fun hh => ?_)
    cases ha with
    | inl e => have := h6.1 (by omega); omega
    | inr e => have := (h6.2 (by omega)).1; omega
  have hall : sumN L (12 + v 4) = sumP E := by
    have e1 := sumN_zero (f := L) (4 - v 4) (12 + v 4) (fun b b1 b2 => hL0 b (Or.inr ⟨by omega, by omega⟩))
    rw [show 12 + v 4 + (4 - v 4) = 16 by omega] at e1
    rw [← e1, hL, sumN_list 16]
    exact sumQ_all (fun x hx => decide_eq_true (H1.2.2.1 x hx).1.1)
  have h12z : sumN L 12 = sumN L (v 3) := by
    have e1 := sumN_zero (f := L) (12 - v 3) (v 3) (fun b b1 b2 => hL0 b (Or.inl ⟨by omega, b1⟩))
    rw [show v 3 + (12 - v 3) = 12 by omega] at e1
    exact e1
  have hpools : ∀ (n h : Nat), h ≤ v 4 → v 4 < n + h → f_X11_total_b84 N 5 71 72470 0 fx now n (nI (sumN L (12 + h))) (nI h) = some (nI (sumP E), 0) := by
    intro n
    induction n with
    | zero => intro h q1 q2; omega
    | succ n ih =>
      intro h q1 q2
      rw [f_X11_total_b84, if_neg gd4, show (4 : Int32).toNatClampNeg = 4 from rfl, hM 4 (by omega)]
      by_cases q3 : h = v 4
      · rw [if_pos ((nI_leI (by omega) (by omega)).mpr (by omega)), q3, hall]
      · rw [if_neg (fun hh => by have := (nI_leI (by omega) (by omega)).mp hh; omega), if_pos rfl, M_inPool hV hM H2 H1.2.1 H1.2.2.1 H3 a5 a4 (show h < 4 by omega) (f := fun _ => true) (fun m _ => ⟨fun _ => rfl, fun _ => Or.inl rfl⟩) (by omega), redeem_split (m := 0) H1.2.2.1 H3 h, Option.bind_some, nI_add, nI_1, Option.bind_some, Option.bind_some, ← hLa]
        exact ih (h + 1) (by omega) (by omega)
  have haccs : ∀ (n m : Nat), m ≤ v 3 → v 3 < n + m → f_X11_total_b41 N 5 71 72470 0 fx now n (nI (sumN L m)) (nI m) = some (nI (sumP E), 0) := by
    intro n
    induction n with
    | zero => intro m q1 q2; omega
    | succ n ih =>
      intro m q1 q2
      rw [f_X11_total_b41, if_neg gd3, show (3 : Int32).toNatClampNeg = 3 from rfl, hM 3 (by omega)]
      by_cases q3 : m = v 3
      · have h9 := hpools N 0 (Nat.zero_le _) (by omega)
        rw [Nat.add_zero, h12z] at h9
        rw [if_pos ((nI_leI (by omega) (by omega)).mpr (by omega)), q3]
        exact h9
      · rw [if_neg (fun hh => by have := (nI_leI (by omega) (by omega)).mp hh; omega), if_pos rfl, M_inAccount hV H2 H1.2.1 H1.2.2.1 H3 a5 (show m < 12 by omega) (by omega), Option.bind_some, nI_add, nI_1, Option.bind_some, Option.bind_some, ← hLa]
        exact ih (m + 1) (by omega) (by omega)
  have hdebts : ∀ (n m : Nat), m ≤ v 3 → v 3 < n + m → f_X11_total_b41 N 6 71 72470 0 fx now n (nI (sumN db m)) (nI m) = some (nI (sumN db 12), 0) := by
    intro n
    induction n with
    | zero => intro m q1 q2; omega
    | succ n ih =>
      intro m q1 q2
      rw [f_X11_total_b41, if_neg gd3, show (3 : Int32).toNatClampNeg = 3 from rfl, hM 3 (by omega)]
      by_cases q3 : m = v 3
      · have e1 := sumN_zero (f := db) (12 - v 3) (v 3) (fun b b1 b2 => (H7.1 b (by omega)).2.2.2 b1)
        rw [show v 3 + (12 - v 3) = 12 by omega] at e1
        obtain ⟨n2, hn2⟩ : ∃ n2, N = n2 + 1 := ⟨N - 1, by omega⟩
        have hb84 : ∀ n2, f_X11_total_b84 N 6 71 72470 0 fx now (n2 + 1) (nI (sumN db 12)) 0 = some (nI (sumN db 12), 0) := by
          intro n2
          rw [f_X11_total_b84, if_neg gd4, if_neg (by decide : ¬ (6 : Int32) = 5)]
          exact ite_self _
        have h9 := hb84 n2
        rw [← hn2] at h9
        rw [if_pos ((nI_leI (by omega) (by omega)).mpr (by omega)), q3, ← e1, h9]
      · have gm := grd (i := 18 + m) (n := 72470) (by omega) (by decide)
        rw [if_neg (fun hh => by have := (nI_leI (by omega) (by omega)).mp hh; omega), if_neg (by decide), show (18 : Int32) + nI m = nI (18 + m) from nI_add 18 m, if_neg gm, nI_clamp (by omega), (H7.1 m (by omega)).2.1, nI_add, nI_1, Option.bind_some, Option.bind_some]
        exact ih (m + 1) (by omega) (by omega)
  have hsd : sumI b.2.2.2.2.2.2.2.2.2.2.2.2.2.2.1 0 12 = nI (sumN db 12) := by
    have h9 := sumI_N (ls := b.2.2.2.2.2.2.2.2.2.2.2.2.2.2.1) (f := db) (n := 12) (fun a ha => (H7.1 a ha).1) 12 0 (by omega)
    rw [sumN, nI_0, Int32.zero_add, Nat.zero_add] at h9
    exact h9
  have g3 := grd (i := 3 + n) (n := 72470) (by omega) (by decide)
  obtain ⟨val, hcv, hmv⟩ : ∃ val, F_B_totalOf N b (nI n) = some val ∧ f_X11_total N (nI n) 71 72470 fx now = some (val, 0) := by
    by_cases n5 : n = 5
    · subst n5
      refine ⟨nI (sumP E), ?_, ?_⟩
      · unfold F_B_totalOf f_X0_totalOf
        rw [if_pos (show nI 5 = (5 : Int32) from rfl), E_sum H1 _ _ (by omega), sumQ_all (fun x hx => qK_any)]; rfl
      · unfold f_X11_total
        rw [show (0 : Int64) = (0 : Int32).toInt64 from rfl, show (6 : Int64) = (6 : Int32).toInt64 from rfl, isIn_in h1', Option.bind_some, if_neg (by decide), if_pos (by decide)]
        exact haccs N 0 (Nat.zero_le _) (by omega)
    · by_cases n6 : n = 6
      · subst n6
        refine ⟨nI (sumN db 12), ?_, ?_⟩
        · unfold F_B_totalOf f_X0_totalOf
          rw [if_neg (show ¬ nI 6 = (5 : Int32) by decide), if_pos (show nI 6 = (6 : Int32) from rfl), show (0 : Int32) = nI 0 from rfl, X6_sumFrom_in _ h12 (by omega) (by omega), Nat.sub_zero, hsd]; rfl
        · unfold f_X11_total
          rw [show (0 : Int64) = (0 : Int32).toInt64 from rfl, show (6 : Int64) = (6 : Int32).toInt64 from rfl, isIn_in h1', Option.bind_some, if_neg (by decide), if_pos (by decide)]
          exact hdebts N 0 (Nat.zero_le _) (by omega)
      · refine ⟨now (3 + n), ?_, ?_⟩
        · unfold F_B_totalOf f_X0_totalOf
          rw [if_neg (show ¬ nI n = (5 : Int32) from fun hh => n5 ((nI_eq (by omega) (by decide)).mp (show nI n = nI 5 from hh))), if_neg (show ¬ nI n = (6 : Int32) from fun hh => n6 ((nI_eq (by omega) (by decide)).mp (show nI n = nI 6 from hh))), X6_at_in _ h5' (by omega), H7.2.2.1 n (by omega)]; rfl
        · unfold f_X11_total
          rw [show (0 : Int64) = (0 : Int32).toInt64 from rfl, show (6 : Int64) = (6 : Int32).toInt64 from rfl, isIn_in h1', Option.bind_some, if_neg (by decide), if_neg (show ¬ (5 : Int32) ≤ nI n from fun hh => by have := (nI_leI (a := 5) (by decide) (by omega)).mp (show nI 5 ≤ nI n from hh); omega), show (3 : Int32) + nI n = nI (3 + n) from nI_add 3 n, if_neg g3, nI_clamp (by omega)]
  have hP : P_total N (inp, se, dr, rdr, b, c, hi, ck) (nI n) = some (0, val, (inp, se, dr, rdr, b, c, hi, ck)) := by
    unfold P_total
    rw [btw_in h1', Option.bind_some, if_pos rfl]
    dsimp only
    rw [hcv]; rfl
  have hG : F_M_total N (th, ch, ik, len, pa_, tok, err, hti, see, rk, bl, fx, rdd, le, ler, so, sor, wh, whr, now, kept, past, buf) (nI n) = some (val, ((0 : Int32), ch, ik, len, pa_, tok, err, hti, see, rk, bl, fx, rdd, le, ler, so, sor, wh, whr, now, kept, past, buf)) := by
    unfold F_M_total
    dsimp only
    rw [hmv]; rfl
  have hW : W_total N (inp, se, dr, rdr, b, c, hi, ck) f (nI n) = some (0, (inp, se, dr, rdr, b, c, hi, ck), vp_updL f 0 (val).toInt64) := by
    unfold W_total
    rw [hP]; rfl
  exact fin_ok (k := k) (s' := (inp, se, dr, rdr, b, c, hi, ck)) (m' := ((0 : Int32), ch, ik, len, pa_, tok, err, hti, see, rk, bl, fx, rdd, le, ler, so, sor, wh, whr, now, kept, past, buf)) (f := f) (p := val) hW hG rfl (RlW_thrown HR0 0)

