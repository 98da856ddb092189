theorem V_setup {v : Nat → Nat} {k : Nat} {a : BA} {s : T_PL} {N : Nat} (R : Rep v k a s) {i : Nat} (hi : i < 5) : P_setup N s (nI i) = some (0, nI (v i), s) := by
  obtain ⟨inp, se, dr, rdr, b, c, h, ck⟩ := s
  obtain ⟨hV, hS, hk, g, H⟩ := R
  have hne : ∀ j : Nat, 5 ≤ j → j < 8 → ¬ nI i = nI j := fun j h1 h2 hh => by have := (nI_eq (by omega) (by omega)).mp hh; omega
  unfold P_setup
  rw [btw_in (show ¬ outR (nI i) 0 7 from notout (a := 0) (b := 7) (by omega) (by decide) (Nat.zero_le _) (by omega)), Option.bind_some, if_pos rfl, if_neg (show ¬ nI i = (5 : Int32) from hne 5 (by decide) (by decide)), if_neg (show ¬ nI i = (6 : Int32) from hne 6 (by decide) (by decide)), if_neg (show ¬ nI i = (7 : Int32) from hne 7 (by decide) (by decide)), cnt_in hS hi]; rfl
theorem lst_le {m : Nat} {E : List En} : (lst m E).length ≤ E.length := List.length_filter_le _ _
theorem Rep_mono {v : Nat → Nat} {k k' : Nat} {a : BA} {s : T_PL} (R : Rep v k a s) (h : k ≤ k') (h2 : k' ≤ 512) : Rep v k' a s := by
  obtain ⟨hV, hS, hk, g, ⟨⟨a1, a2⟩, H1, H2, H3, H4, H5, H6, H7, H8⟩⟩ := R
  exact ⟨hV, hS, h2, g, ⟨⟨by omega, by omega⟩, H1, H2, H3, H4, H5, H6, B7_same H7 h (fun i _ _ => rfl), H8⟩⟩
theorem Rep_bd {v : Nat → Nat} {k : Nat} {a : BA} {s : T_PL} (R : Rep v k a s) : SV v ∧ k ≤ 512 ∧ a.E.length ≤ 1024 ∧ a.Lg.length ≤ 30 ∧ a.c ≤ 512 ∧ a.d ≤ 9999 ∧ (∃ ex, a.tt 2 = nI ex ∧ sumP a.E + sumN a.rd 10 + ex ≤ bd k) ∧ (∀ m, m < 12 → a.db m ≤ bd k ∧ (v 3 ≤ m → a.db m = 0)) := by
  obtain ⟨hV, hS, hk, g, ⟨⟨a1, a2⟩, ⟨_, _, a5⟩, H2, ⟨HL, HLm⟩, H4, H5, H6, H7, hLv, ⟨T1, T2, T3, T4⟩⟩⟩ := R
  obtain ⟨ex, e1, e2⟩ := H7.2.2.2
  exact ⟨hV, hk, by omega, HLm.2.1, by omega, a5, ⟨ex, by rw [← T3 2 (by omega)]; exact e1, e2⟩, fun m hm => ⟨(H7.1 m hm).2.2.1, (H7.1 m hm).2.2.2⟩⟩
section ALL
variable {v : Nat → Nat} {a : BA} {N : Nat}
theorem all_228 (hN : 600000 < N) {s0 : T_PL} (R0 : Rep v 512 a s0) : ∀ (j i : Nat), i + j = a.Lg.length → ∀ (n : Nat), j < n → ∀ x1 : Int64, ∃ x, ∀ s, Rep v 512 a s → f_L_all_b228 N n x1 (nI i) s = some (x, s) := by
  obtain ⟨-, -, hE, hL, hc, -⟩ := Rep_bd R0
  intro j
  induction j with
  | zero =>
    intro i hi n hn x1
    obtain ⟨n, rfl⟩ : ∃ n', n = n' + 1 := ⟨n - 1, by omega⟩
    refine ⟨(31 : Int64) * x1 + (nI a.c).toInt64, fun s R => ?_⟩
    rw [f_L_all_b228, V_logSize R hN, Option.bind_some, if_pos ((nI_leI (by omega) (by omega)).mpr (by omega)), V_purchaseCount R hN, Option.bind_some]
  | succ j ih =>
    intro i hi n hn x1
    obtain ⟨n, rfl⟩ : ∃ n', n = n' + 1 := ⟨n - 1, by omega⟩
    obtain ⟨e, he⟩ : ∃ e, a.Lg[i]? = some e := ⟨a.Lg[i], List.getElem?_eq_getElem (by omega)⟩
    obtain ⟨x, hx⟩ := ih (i + 1) (by omega) n (by omega) ((31 : Int64) * ((31 : Int64) * x1 + (coP e 0).toInt64) + (coP e 3).toInt64)
    refine ⟨x, fun s R => ?_⟩
    rw [f_L_all_b228, V_logSize R hN, Option.bind_some, if_neg (fun hh => by have := (nI_leI (by omega) (by omega)).mp hh; omega), show P_log N s (nI i) (0 : Int32) = some (0, coP e 0, s) from V_log R hN he (by decide), Option.bind_some, if_neg (fun h => h rfl), show P_log N s (nI i) (3 : Int32) = some (0, coP e 3, s) from V_log R hN he (by decide), Option.bind_some, if_neg (fun h => h rfl), nI_1, Option.bind_some]
    exact hx s R
theorem all_170 (hN : 600000 < N) (h4 : 0 < v 4) {s0 : T_PL} (R0 : Rep v 512 a s0) : ∀ (j i : Nat), i + j = (lst 12 a.E).length → ∀ (n : Nat), j < n → ∀ x1 : Int64, ∃ x, ∀ s, Rep v 512 a s → f_L_all_b170 N n x1 (nI i) s = some (x, s) := by
  obtain ⟨-, -, hE, hL, hc, -⟩ := Rep_bd R0
  have hl := lst_le (m := 12) (E := a.E)
  intro j
  induction j with
  | zero =>
    intro i hi n hn x1
    obtain ⟨n, rfl⟩ : ∃ n', n = n' + 1 := ⟨n - 1, by omega⟩
    obtain ⟨x, hx⟩ := all_228 hN R0 a.Lg.length 0 (Nat.zero_add _) N (by omega) x1
    refine ⟨x, fun s R => ?_⟩
    rw [f_L_all_b170, show P_poolCohortCount N s (0 : Int32) = some (0, nI (lst 12 a.E).length, s) from V_poolCohortCount R hN h4, Option.bind_some, if_neg (fun h => h rfl), if_pos ((nI_leI (by omega) (by omega)).mpr (by omega))]
    exact hx s R
  | succ j ih =>
    intro i hi n hn x1
    obtain ⟨n, rfl⟩ : ∃ n', n = n' + 1 := ⟨n - 1, by omega⟩
    obtain ⟨e, he⟩ : ∃ e, (lst 12 a.E)[i]? = some e := ⟨(lst 12 a.E)[i], List.getElem?_eq_getElem (by omega)⟩
    obtain ⟨x, hx⟩ := ih (i + 1) (by omega) n (by omega) ((31 : Int64) * ((31 : Int64) * ((31 : Int64) * x1 + (nI e.2).toInt64) + (nI (kD e.1)).toInt64) + (cI (kC e.1)).toInt64)
    refine ⟨x, fun s R => ?_⟩
    have hp := V_poolCohort R hN h4 (h := 0) he
    rw [f_L_all_b170, show P_poolCohortCount N s (0 : Int32) = some (0, nI (lst 12 a.E).length, s) from V_poolCohortCount R hN h4, Option.bind_some, if_neg (fun h => h rfl), if_neg (fun hh => by have := (nI_leI (by omega) (by omega)).mp hh; omega), show P_poolCohort N s (0 : Int32) (nI i) (0 : Int32) = some (0, nI e.2, s) from hp.1, Option.bind_some, if_neg (fun h => h rfl), show P_poolCohort N s (0 : Int32) (nI i) (1 : Int32) = some (0, nI (kD e.1), s) from hp.2.1, Option.bind_some, if_neg (fun h => h rfl), show P_poolCohort N s (0 : Int32) (nI i) (2 : Int32) = some (0, cI (kC e.1), s) from hp.2.2, Option.bind_some, if_neg (fun h => h rfl), nI_1, Option.bind_some]
    exact hx s R
theorem all_103 (hN : 600000 < N) {s0 : T_PL} (R0 : Rep v 512 a s0) {m : Nat} (hm : m < v 3) {K : Int64 → Int32 → T_PL → Option (Int64 × T_PL)} (hK : ∀ x1, ∃ x, ∀ s, Rep v 512 a s → K x1 (nI (m + 1)) s = some (x, s)) : ∀ (j i : Nat), i + j = (lst m a.E).length → ∀ (n : Nat), j < n → ∀ x1 : Int64, ∃ x, ∀ s, Rep v 512 a s → f_L_all_b103 N K (nI m) n x1 (nI i) s = some (x, s) := by
  obtain ⟨-, -, hE, hL, hc, -⟩ := Rep_bd R0
  have hl := lst_le (m := m) (E := a.E)
  intro j
  induction j with
  | zero =>
    intro i hi n hn x1
    obtain ⟨n, rfl⟩ : ∃ n', n = n' + 1 := ⟨n - 1, by omega⟩
    obtain ⟨x, hx⟩ := hK ((31 : Int64) * x1 + (a.qu m).toInt64)
    refine ⟨x, fun s R => ?_⟩
    rw [f_L_all_b103, V_cohortCount R hN hm, Option.bind_some, if_neg (fun h => h rfl), if_pos ((nI_leI (by omega) (by omega)).mpr (by omega)), V_qualifying R hN hm, Option.bind_some, if_neg (fun h => h rfl), nI_1, Option.bind_some]
    exact hx s R
  | succ j ih =>
    intro i hi n hn x1
    obtain ⟨n, rfl⟩ : ∃ n', n = n' + 1 := ⟨n - 1, by omega⟩
    obtain ⟨e, he⟩ : ∃ e, (lst m a.E)[i]? = some e := ⟨(lst m a.E)[i], List.getElem?_eq_getElem (by omega)⟩
    obtain ⟨x, hx⟩ := ih (i + 1) (by omega) n (by omega) ((31 : Int64) * ((31 : Int64) * x1 + (nI e.2).toInt64) + (nI (kD e.1)).toInt64)
    refine ⟨x, fun s R => ?_⟩
    have hp := V_cohort R hN hm he
    rw [f_L_all_b103, V_cohortCount R hN hm, Option.bind_some, if_neg (fun h => h rfl), if_neg (fun hh => by have := (nI_leI (by omega) (by omega)).mp hh; omega), hp.1, Option.bind_some, if_neg (fun h => h rfl), hp.2, Option.bind_some, if_neg (fun h => h rfl), nI_1, Option.bind_some]
    exact hx s R
theorem all_45 (hN : 600000 < N) (h4 : 0 < v 4) {s0 : T_PL} (R0 : Rep v 512 a s0) : ∀ (j i : Nat), i + j = v 3 → ∀ (n : Nat), j < n → ∀ x1 : Int64, ∃ x, ∀ s, Rep v 512 a s → f_L_all_b45 N n x1 (nI i) s = some (x, s) := by
  obtain ⟨hV, -, hE, hL, hc, -⟩ := Rep_bd R0
  have hv3 := hV.1.2.2.2.2.1
  intro j
  induction j with
  | zero =>
    intro i hi n hn x1
    obtain ⟨n, rfl⟩ : ∃ n', n = n' + 1 := ⟨n - 1, by omega⟩
    have hl := lst_le (m := 12) (E := a.E)
    obtain ⟨x, hx⟩ := all_170 hN h4 R0 (lst 12 a.E).length 0 (Nat.zero_add _) N (by omega) x1
    refine ⟨x, fun s R => ?_⟩
    rw [f_L_all_b45, show P_setup N s (3 : Int32) = some (0, nI (v 3), s) from V_setup R (by decide), Option.bind_some, if_neg (fun h => h rfl), if_pos ((nI_leI (by omega) (by omega)).mpr (by omega))]
    exact hx s R
  | succ j ih =>
    intro i hi n hn x1
    obtain ⟨n, rfl⟩ : ∃ n', n = n' + 1 := ⟨n - 1, by omega⟩
    have hl := lst_le (m := i) (E := a.E)
    have hm : i < v 3 := by omega
    obtain ⟨x, hx⟩ := all_103 hN R0 hm (K := f_L_all_b45 N n) (fun x2 => ih (i + 1) (by omega) n (by omega) x2) (lst i a.E).length 0 (Nat.zero_add _) N (by omega) ((31 : Int64) * ((31 : Int64) * ((31 : Int64) * ((31 : Int64) * x1 + (nI (a.db i)).toInt64) + (a.ti i).toInt64) + (a.be i).toInt64) + (a.hm i).toInt64)
    refine ⟨x, fun s R => ?_⟩
    rw [f_L_all_b45, show P_setup N s (3 : Int32) = some (0, nI (v 3), s) from V_setup R (by decide), Option.bind_some, if_neg (fun h => h rfl), if_neg (fun hh => by have := (nI_leI (by omega) (by omega)).mp hh; omega), V_debt R hN hm, Option.bind_some, if_neg (fun h => h rfl), V_tier R hN hm, Option.bind_some, if_neg (fun h => h rfl), V_belowSince R hN hm, Option.bind_some, if_neg (fun h => h rfl), V_household R hN hm, Option.bind_some, if_neg (fun h => h rfl)]
    exact hx s R
theorem all_18 (hN : 600000 < N) (h4 : 0 < v 4) {s0 : T_PL} (R0 : Rep v 512 a s0) : ∀ (j i : Nat), i + j = 7 → ∀ (n : Nat), j < n → ∀ x1 : Int64, ∃ x, ∀ s, Rep v 512 a s → f_L_all_b18 N n x1 (nI i) s = some (x, s) := by
  obtain ⟨hV, -, hE, hL, hc, -⟩ := Rep_bd R0
  have hv3 := hV.1.2.2.2.2.1
  intro j
  induction j with
  | zero =>
    intro i hi n hn x1
    obtain ⟨n, rfl⟩ : ∃ n', n = n' + 1 := ⟨n - 1, by omega⟩
    obtain ⟨x, hx⟩ := all_45 hN h4 R0 (v 3) 0 (Nat.zero_add _) N (by omega) x1
    refine ⟨x, fun s R => ?_⟩
    rw [f_L_all_b18, if_pos (show (7 : Int32) ≤ nI i from (nI_leI (a := 7) (by decide) (by omega)).mpr (by omega))]
    exact hx s R
  | succ j ih =>
    intro i hi n hn x1
    obtain ⟨n, rfl⟩ : ∃ n', n = n' + 1 := ⟨n - 1, by omega⟩
    obtain ⟨x, hx⟩ := ih (i + 1) (by omega) n (by omega) ((31 : Int64) * x1 + (if i = 5 then nI (sumP a.E) else if i = 6 then nI (sumN a.db 12) else a.tt i).toInt64)
    refine ⟨x, fun s R => ?_⟩
    rw [f_L_all_b18, if_neg (fun hh => by have := (nI_leI (a := 7) (by decide) (by omega)).mp (show nI 7 ≤ nI i from hh); omega), V_total R hN (show i < 7 by omega), Option.bind_some, if_neg (fun h => h rfl), nI_1, Option.bind_some]
    exact hx s R
/-- the digest of what stands for a -/
theorem all_val (hN : 600000 < N) (h4 : 0 < v 4) (a : BA) : ∃ x, ∀ k s, k ≤ 512 → Rep v k a s → f_L_all N s = some (x, s) := by
  by_cases h0 : ∃ s0, Rep v 512 a s0
  · obtain ⟨s0, R0⟩ := h0
    obtain ⟨-, -, -, -, -, -, ⟨ex, e1, e2⟩, -⟩ := Rep_bd R0
    obtain ⟨x, hx⟩ := all_18 hN h4 R0 7 0 rfl N (by omega) ((31 : Int64) * (nI a.d).toInt64 + (sumW (wE v a.d ex a.rd) (fun k => anyI (-2) (nI (kL k))) a.E).toInt64)
    refine ⟨x, fun k s hk R => ?_⟩
    have R := Rep_mono R hk (Nat.le_refl 512)
    unfold f_L_all
    rw [V_today R hN, Option.bind_some, V_totalBreakage hN e1 e2 R, Option.bind_some]
    exact hx s R
  · exact ⟨0, fun k s hk R => absurd ⟨s, Rep_mono R hk (Nat.le_refl 512)⟩ h0⟩
end ALL
