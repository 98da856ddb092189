/-- what the books stand for -/
abbrev BA : Type := Nat × List En × List Co × Nat × (Nat → Nat) × (Nat → Nat) × (Nat → Nat) × (Nat → Int32) × (Nat → Int32) × (Nat → Int32) × (Nat → Int32) × (Nat → Int32) × (Nat → Int32) × (Nat → Int32)
abbrev BA.d (a : BA) : Nat := a.1
abbrev BA.E (a : BA) : List En := a.2.1
abbrev BA.Lg (a : BA) : List Co := a.2.2.1
abbrev BA.c (a : BA) : Nat := a.2.2.2.1
abbrev BA.dy (a : BA) : Nat → Nat := a.2.2.2.2.1
abbrev BA.db (a : BA) : Nat → Nat := a.2.2.2.2.2.1
abbrev BA.rd (a : BA) : Nat → Nat := a.2.2.2.2.2.2.1
abbrev BA.ti (a : BA) : Nat → Int32 := a.2.2.2.2.2.2.2.1
abbrev BA.be (a : BA) : Nat → Int32 := a.2.2.2.2.2.2.2.2.1
abbrev BA.hm (a : BA) : Nat → Int32 := a.2.2.2.2.2.2.2.2.2.1
abbrev BA.qu (a : BA) : Nat → Int32 := a.2.2.2.2.2.2.2.2.2.2.1
abbrev BA.sh (a : BA) : Nat → Int32 := a.2.2.2.2.2.2.2.2.2.2.2.1
abbrev BA.tt (a : BA) : Nat → Int32 := a.2.2.2.2.2.2.2.2.2.2.2.2.1
abbrev BA.pr (a : BA) : Nat → Int32 := a.2.2.2.2.2.2.2.2.2.2.2.2.2
def BT (a : BA) (ti be hm qu sh tt pr : Nat → Int32) : Prop := (∀ m, m < 12 → ti m = a.ti m ∧ be m = a.be m ∧ hm m = a.hm m ∧ qu m = a.qu m) ∧ (∀ h, h < 4 → sh h = a.sh h) ∧ (∀ i, i < 5 → tt i = a.tt i) ∧ ∀ j, j < 7 * a.c → pr j = a.pr j
def BQ (v : Nat → Nat) (k : Nat) (a : BA) (b : T_BK) (g : Nat → Int32) : Prop := (a.E.length ≤ 2 * k ∧ a.c ≤ k) ∧ (b.1 = nI a.d ∧ g 0 = nI a.d ∧ a.d ≤ 9999) ∧ B2 v a.d a.E b.2.2.1 b.2.2.2.1 b.2.2.2.2.1 b.2.2.2.2.2.1 b.2.2.2.2.2.2.1 g ∧ (LogC a.Lg b.2.2.2.2.2.2.2.2.2.1 b.2.2.2.2.2.2.2.2.2.2.1 b.2.2.2.2.2.2.2.2.2.2.2.1 ∧ LogM a.Lg g) ∧ B4 v a.d a.c a.dy b.2.2.2.2.2.2.2.1 b.2.2.2.2.2.2.2.2.1 g ∧ B5 v a.d a.c a.dy b.2.1 b.2.2.2.2.2.2.2.2.1 b.2.2.2.2.2.2.2.2.2.2.2.2.2.2.2.2.1 g ∧ B6 v b.2.2.2.2.2.2.2.2.2.2.2.2.1 b.2.2.2.2.2.2.2.2.2.2.2.2.2.1 b.2.2.2.2.2.2.2.2.2.2.2.2.2.2.2.1 b.2.2.2.2.2.2.2.2.2.2.2.2.2.2.2.2.2.1 g ∧ B7 v k a.E a.db a.rd b.2.2.2.2.2.2.2.2.2.2.2.2.2.2.1 b.2.2.2.2.2.2.2.2.2.2.2.2.2.2.2.2.2.2.1 b.2.2.2.2.2.2.2.2.2.2.2.2.2.2.2.2.2.2.2.1 g ∧ Liv v b.2.2.2.2.2.2.2.2.2.2.2.2.2.2.2.1 ∧ BT a b.2.2.2.2.2.2.2.2.2.2.2.2.1 b.2.2.2.2.2.2.2.2.2.2.2.2.2.1 b.2.2.2.2.2.2.2.2.2.2.2.2.2.2.2.1 b.2.2.2.2.2.2.2.2.2.2.2.2.2.2.2.2.1 b.2.2.2.2.2.2.2.2.2.2.2.2.2.2.2.2.2.1 b.2.2.2.2.2.2.2.2.2.2.2.2.2.2.2.2.2.2.2.1 b.2.2.2.2.2.2.2.2.1
theorem BQ_of {v : Nat → Nat} {k : Nat} {b : T_BK} {g : Nat → Int32} (H : BRL v k b g) : ∃ a, BQ v k a b g := by
  obtain ⟨⟨d, E, Lg, c, dy, db, rd, a1, a2, a3, a4, a5, a6, a7, a8⟩, hL⟩ := H
  exact ⟨⟨d, E, Lg, c, dy, db, rd, b.2.2.2.2.2.2.2.2.2.2.2.2.1, b.2.2.2.2.2.2.2.2.2.2.2.2.2.1, b.2.2.2.2.2.2.2.2.2.2.2.2.2.2.2.1, b.2.2.2.2.2.2.2.2.2.2.2.2.2.2.2.2.1, b.2.2.2.2.2.2.2.2.2.2.2.2.2.2.2.2.2.1, b.2.2.2.2.2.2.2.2.2.2.2.2.2.2.2.2.2.2.2.1, b.2.2.2.2.2.2.2.2.1⟩, a1, a2, a3, a4, a5, a6, a7, a8, hL, ⟨fun _ _ => ⟨rfl, rfl, rfl, rfl⟩, fun _ _ => rfl, fun _ _ => rfl, fun _ _ => rfl⟩⟩
theorem BQ_L {v : Nat → Nat} {k : Nat} {a : BA} {b : T_BK} {g : Nat → Int32} (H : BQ v k a b g) : BRL v k b g := by
  obtain ⟨a1, a2, a3, a4, a5, a6, a7, a8, hL, -⟩ := H
  exact ⟨⟨a.d, a.E, a.Lg, a.c, a.dy, a.db, a.rd, a1, a2, a3, a4, a5, a6, a7, a8⟩, hL⟩
/-- the object's books stand for a, under the setup v -/
def Rep (v : Nat → Nat) (k : Nat) (a : BA) (s : T_PL) : Prop := SV v ∧ SC v s.2.1 ∧ k ≤ 512 ∧ ∃ g, BQ v k a s.2.2.2.2.1 g
/-- the entries of a list, in their order -/
def lst (a : Nat) (E : List En) : List En := E.filter (fun x => decide (kL x.1 = a))
theorem lst_len {a : Nat} : ∀ {E : List En}, (lst a E).length = cntE (fun k => decide (kL k = a)) E
  | [] => rfl
  | x :: E => by
    unfold lst
    rw [List.filter_cons, cntE]
    by_cases h : kL x.1 = a
    · rw [decide_eq_true h, if_pos rfl, if_pos rfl, List.length_cons]
      exact congrArg (· + 1) (lst_len (E := E))
    · rw [decide_eq_false h, if_neg Bool.false_ne_true, if_neg Bool.false_ne_true]
      exact lst_len (E := E)
theorem lst_sum {a : Nat} : ∀ {E : List En}, sumP (lst a E) = sumQ (fun k => decide (kL k = a)) E
  | [] => rfl
  | x :: E => by
    unfold lst
    rw [List.filter_cons, sumQ]
    by_cases h : kL x.1 = a
    · rw [decide_eq_true h, if_pos rfl, if_pos rfl, sumP]
      have := lst_sum (a := a) (E := E)
      unfold lst at this
      omega
    · rw [decide_eq_false h, if_neg Bool.false_ne_true, if_neg Bool.false_ne_true]
      exact lst_sum (E := E)
theorem lst_mem {a : Nat} {E : List En} {x : En} : x ∈ lst a E ↔ x ∈ E ∧ kL x.1 = a := by
  unfold lst
  rw [List.mem_filter, decide_eq_true_iff]
theorem lst_get {a : Nat} {x : En} : ∀ {E : List En} {i : Nat}, Sor E → (lst a E)[i]? = some x → nthE E a i x
  | [], i, _, h => by cases h
  | y :: E, i, hs, h => by
    have hx := lst_mem.mp (List.mem_of_getElem? h)
    unfold lst at h
    rw [List.filter_cons] at h
    refine ⟨hx.1, hx.2, ?_⟩
    by_cases hy : kL y.1 = a
    · rw [decide_eq_true hy, if_pos rfl] at h
      cases i with
      | zero =>
        rw [List.getElem?_cons_zero] at h
        have h := Option.some.inj h
        subst h
        exact cntE_zero (fun w hw => QB_f.mpr (fun hh => by
          cases List.mem_cons.mp hw with
          | inl e => rw [e] at hh; exact Nat.lt_irrefl _ hh.2
          | inr e => have := hs.1 w e; omega))
      | succ i =>
        rw [List.getElem?_cons_succ] at h
        have h2 := lst_get (a := a) (E := E) (i := i) hs.2 h
        rw [cntE, QB_t.mpr ⟨hy, hs.1 x h2.1⟩, if_pos rfl, h2.2.2]
    · rw [decide_eq_false hy, if_neg Bool.false_ne_true] at h
      have h2 := lst_get (a := a) (E := E) (i := i) hs.2 h
      rw [cntE, QB_f.mpr (fun hh => hy hh.1), if_neg Bool.false_ne_true, h2.2.2]
theorem nth_same {E : List En} {a i : Nat} {x y : En} (hs : Sor E) (h : nthE E a i x) (h2 : nthE E a i y) : x = y := by
  have h3 := nth_uniq h h2
  have h4 := pt_mem hs h.1
  have h5 := pt_mem hs h2.1
  rw [h3] at h4
  exact Prod.ext h3 (h4.symm.trans h5)
section VQ
variable {v : Nat → Nat} {k : Nat} {a : BA} {s : T_PL} {N : Nat}
theorem V_today (R : Rep v k a s) (hN : 600000 < N) : P_today N s = some (nI a.d, s) := by
  obtain ⟨inp, se, dr, rdr, b, c, hi, ck⟩ := s
  obtain ⟨hV, hS, hk, g, H⟩ := R
  have hSs : SC v (inp, se, dr, rdr, b, c, hi, ck).2.1 := hS
  have H : BQ v k a b g := H
  have hS : SC v se := hS
  obtain ⟨⟨a1, a2⟩, ⟨a3, a4, a5⟩, ⟨H1, H2, H3⟩, ⟨HL, HLm⟩, H4, H5, H6, H7, hLv, ⟨T1, T2, T3, T4⟩⟩ := H
  have hv3 := hV.1.2.2.2.2.1
  have hv4 := hV.1.2.2.2.2.2
  have hv1 := hV.1.2.2.1
  unfold P_today F_B_day f_X0_day
  dsimp only
  rw [a3]; rfl
theorem V_balance (R : Rep v k a s) (hN : 600000 < N) {m : Nat} (hm : m < v 3) : P_balance N s (nI m) = some (0, nI (sumP (lst m a.E)), s) := by
  obtain ⟨inp, se, dr, rdr, b, c, hi, ck⟩ := s
  obtain ⟨hV, hS, hk, g, H⟩ := R
  have hSs : SC v (inp, se, dr, rdr, b, c, hi, ck).2.1 := hS
  have H : BQ v k a b g := H
  have hS : SC v se := hS
  obtain ⟨⟨a1, a2⟩, ⟨a3, a4, a5⟩, ⟨H1, H2, H3⟩, ⟨HL, HLm⟩, H4, H5, H6, H7, hLv, ⟨T1, T2, T3, T4⟩⟩ := H
  have hv3 := hV.1.2.2.2.2.1
  have hv4 := hV.1.2.2.2.2.2
  have hv1 := hV.1.2.2.1
  have hm12 : m < 12 := by omega
  have h1' : ¬ outN (nI m) (v 3) := outN_in (by omega) hm
  unfold P_balance
  rw [mem_in hSs h1' N, Option.bind_some, if_pos rfl]
  dsimp only
  rw [show F_B_cohorts N b = some () from rfl, Option.bind_some]
  unfold F_H_sum
  rw [C_balance H1 (by omega) (by omega), lst_sum]; rfl
theorem V_debt (R : Rep v k a s) (hN : 600000 < N) {m : Nat} (hm : m < v 3) : P_debt N s (nI m) = some (0, nI (a.db m), s) := by
  obtain ⟨inp, se, dr, rdr, b, c, hi, ck⟩ := s
  obtain ⟨hV, hS, hk, g, H⟩ := R
  have hSs : SC v (inp, se, dr, rdr, b, c, hi, ck).2.1 := hS
  have H : BQ v k a b g := H
  have hS : SC v se := hS
  obtain ⟨⟨a1, a2⟩, ⟨a3, a4, a5⟩, ⟨H1, H2, H3⟩, ⟨HL, HLm⟩, H4, H5, H6, H7, hLv, ⟨T1, T2, T3, T4⟩⟩ := H
  have hv3 := hV.1.2.2.2.2.1
  have hv4 := hV.1.2.2.2.2.2
  have hv1 := hV.1.2.2.1
  have hm12 : m < 12 := by omega
  have h1' : ¬ outN (nI m) (v 3) := outN_in (by omega) hm
  unfold P_debt
  rw [mem_in hSs h1' N, Option.bind_some, if_pos rfl]
  dsimp only
  unfold F_B_debtOf f_X0_debtOf
  rw [X6_at_in _ h12 hm12, (H7.1 m hm12).1]; rfl
theorem V_household (R : Rep v k a s) (hN : 600000 < N) {m : Nat} (hm : m < v 3) : P_household N s (nI m) = some (0, a.hm m, s) := by
  obtain ⟨inp, se, dr, rdr, b, c, hi, ck⟩ := s
  obtain ⟨hV, hS, hk, g, H⟩ := R
  have hSs : SC v (inp, se, dr, rdr, b, c, hi, ck).2.1 := hS
  have H : BQ v k a b g := H
  have hS : SC v se := hS
  obtain ⟨⟨a1, a2⟩, ⟨a3, a4, a5⟩, ⟨H1, H2, H3⟩, ⟨HL, HLm⟩, H4, H5, H6, H7, hLv, ⟨T1, T2, T3, T4⟩⟩ := H
  have hv3 := hV.1.2.2.2.2.1
  have hv4 := hV.1.2.2.2.2.2
  have hv1 := hV.1.2.2.1
  have hm12 : m < 12 := by omega
  have h1' : ¬ outN (nI m) (v 3) := outN_in (by omega) hm
  unfold P_household
  rw [mem_in hSs h1' N, Option.bind_some, if_pos rfl]
  dsimp only
  unfold F_B_homeOf f_X0_homeOf
  rw [X6_at_in _ h12 hm12, (T1 m hm12).2.2.1]; rfl
theorem V_tier (R : Rep v k a s) (hN : 600000 < N) {m : Nat} (hm : m < v 3) : P_tier N s (nI m) = some (0, a.ti m, s) := by
  obtain ⟨inp, se, dr, rdr, b, c, hi, ck⟩ := s
  obtain ⟨hV, hS, hk, g, H⟩ := R
  have hSs : SC v (inp, se, dr, rdr, b, c, hi, ck).2.1 := hS
  have H : BQ v k a b g := H
  have hS : SC v se := hS
  obtain ⟨⟨a1, a2⟩, ⟨a3, a4, a5⟩, ⟨H1, H2, H3⟩, ⟨HL, HLm⟩, H4, H5, H6, H7, hLv, ⟨T1, T2, T3, T4⟩⟩ := H
  have hv3 := hV.1.2.2.2.2.1
  have hv4 := hV.1.2.2.2.2.2
  have hv1 := hV.1.2.2.1
  have hm12 : m < 12 := by omega
  have h1' : ¬ outN (nI m) (v 3) := outN_in (by omega) hm
  unfold P_tier
  rw [mem_in hSs h1' N, Option.bind_some, if_pos rfl]
  dsimp only
  unfold F_B_tierOf f_X0_tierOf
  rw [X6_at_in _ h12 hm12, (T1 m hm12).1]; rfl
theorem V_belowSince (R : Rep v k a s) (hN : 600000 < N) {m : Nat} (hm : m < v 3) : P_belowSince N s (nI m) = some (0, a.be m, s) := by
  obtain ⟨inp, se, dr, rdr, b, c, hi, ck⟩ := s
  obtain ⟨hV, hS, hk, g, H⟩ := R
  have hSs : SC v (inp, se, dr, rdr, b, c, hi, ck).2.1 := hS
  have H : BQ v k a b g := H
  have hS : SC v se := hS
  obtain ⟨⟨a1, a2⟩, ⟨a3, a4, a5⟩, ⟨H1, H2, H3⟩, ⟨HL, HLm⟩, H4, H5, H6, H7, hLv, ⟨T1, T2, T3, T4⟩⟩ := H
  have hv3 := hV.1.2.2.2.2.1
  have hv4 := hV.1.2.2.2.2.2
  have hv1 := hV.1.2.2.1
  have hm12 : m < 12 := by omega
  have h1' : ¬ outN (nI m) (v 3) := outN_in (by omega) hm
  unfold P_belowSince
  rw [mem_in hSs h1' N, Option.bind_some, if_pos rfl]
  dsimp only
  unfold F_B_belowDay f_X0_belowDay
  rw [X6_at_in _ h12 hm12, (T1 m hm12).2.1]; rfl
theorem V_qualifying (R : Rep v k a s) (hN : 600000 < N) {m : Nat} (hm : m < v 3) : P_qualifying N s (nI m) = some (0, a.qu m, s) := by
  obtain ⟨inp, se, dr, rdr, b, c, hi, ck⟩ := s
  obtain ⟨hV, hS, hk, g, H⟩ := R
  have hSs : SC v (inp, se, dr, rdr, b, c, hi, ck).2.1 := hS
  have H : BQ v k a b g := H
  have hS : SC v se := hS
  obtain ⟨⟨a1, a2⟩, ⟨a3, a4, a5⟩, ⟨H1, H2, H3⟩, ⟨HL, HLm⟩, H4, H5, H6, H7, hLv, ⟨T1, T2, T3, T4⟩⟩ := H
  have hv3 := hV.1.2.2.2.2.1
  have hv4 := hV.1.2.2.2.2.2
  have hv1 := hV.1.2.2.1
  have hm12 : m < 12 := by omega
  have h1' : ¬ outN (nI m) (v 3) := outN_in (by omega) hm
  unfold P_qualifying
  rw [mem_in hSs h1' N, Option.bind_some, if_pos rfl]
  dsimp only
  unfold F_B_qualifyingSum f_X0_qualifyingSum
  rw [X6_at_in _ h12 hm12, (T1 m hm12).2.2.2]; rfl
theorem V_earnedTier (R : Rep v k a s) (hN : 600000 < N) {m : Nat} (hm : m < v 3) : P_earnedTier N s (nI m) = some (0, nI (tierT v (a.qu m) (v 0 - 1)), s) := by
  obtain ⟨inp, se, dr, rdr, b, c, hi, ck⟩ := s
  obtain ⟨hV, hS, hk, g, H⟩ := R
  have hSs : SC v (inp, se, dr, rdr, b, c, hi, ck).2.1 := hS
  have H : BQ v k a b g := H
  have hS : SC v se := hS
  obtain ⟨⟨a1, a2⟩, ⟨a3, a4, a5⟩, ⟨H1, H2, H3⟩, ⟨HL, HLm⟩, H4, H5, H6, H7, hLv, ⟨T1, T2, T3, T4⟩⟩ := H
  have hv3 := hV.1.2.2.2.2.1
  have hv4 := hV.1.2.2.2.2.2
  have hv1 := hV.1.2.2.1
  have hm12 : m < 12 := by omega
  have h1' : ¬ outN (nI m) (v 3) := outN_in (by omega) hm
  unfold P_earnedTier
  rw [mem_in hSs h1' N, Option.bind_some, if_pos rfl]
  dsimp only
  unfold F_B_qualifyingSum f_X0_qualifyingSum
  rw [X6_at_in _ h12 hm12, (T1 m hm12).2.2.2]
  simp only [Option.bind_some]
  unfold F_S_tierFor
  rw [C_tierFor (a.qu m) (hS.2.1 0 (by omega)) hV.1.1 hV.1.2.1 (fun t h => (hS.2.2.1 t h).1) (by omega)]; rfl
theorem V_cohortCount (R : Rep v k a s) (hN : 600000 < N) {m : Nat} (hm : m < v 3) : P_cohortCount N s (nI m) = some (0, nI (lst m a.E).length, s) := by
  obtain ⟨inp, se, dr, rdr, b, c, hi, ck⟩ := s
  obtain ⟨hV, hS, hk, g, H⟩ := R
  have hSs : SC v (inp, se, dr, rdr, b, c, hi, ck).2.1 := hS
  have H : BQ v k a b g := H
  have hS : SC v se := hS
  obtain ⟨⟨a1, a2⟩, ⟨a3, a4, a5⟩, ⟨H1, H2, H3⟩, ⟨HL, HLm⟩, H4, H5, H6, H7, hLv, ⟨T1, T2, T3, T4⟩⟩ := H
  have hv3 := hV.1.2.2.2.2.1
  have hv4 := hV.1.2.2.2.2.2
  have hv1 := hV.1.2.2.1
  have hm12 : m < 12 := by omega
  have h1' : ¬ outN (nI m) (v 3) := outN_in (by omega) hm
  unfold P_cohortCount
  rw [mem_in hSs h1' N, Option.bind_some, if_pos rfl]
  dsimp only
  rw [show F_B_cohorts N b = some () from rfl, Option.bind_some]
  unfold F_H_number
  rw [C_cnt H1 (by omega) (by omega), lst_len]; rfl
theorem V_available (R : Rep v k a s) (hN : 600000 < N) {m ho : Nat} (hm : m < v 3) (hho : a.hm m = cI ho) (hh4 : ho ≤ 4) : P_available N s (nI m) = some (0, nI (avN m ho a.E), s) := by
  obtain ⟨inp, se, dr, rdr, b, c, hi, ck⟩ := s
  obtain ⟨hV, hS, hk, g, H⟩ := R
  have hSs : SC v (inp, se, dr, rdr, b, c, hi, ck).2.1 := hS
  have H : BQ v k a b g := H
  have hS : SC v se := hS
  obtain ⟨⟨a1, a2⟩, ⟨a3, a4, a5⟩, ⟨H1, H2, H3⟩, ⟨HL, HLm⟩, H4, H5, H6, H7, hLv, ⟨T1, T2, T3, T4⟩⟩ := H
  have hv3 := hV.1.2.2.2.2.1
  have hv4 := hV.1.2.2.2.2.2
  have hv1 := hV.1.2.2.1
  have hm12 : m < 12 := by omega
  have h1' : ¬ outN (nI m) (v 3) := outN_in (by omega) hm
  unfold P_available
  rw [mem_in hSs h1' N, Option.bind_some, if_pos rfl]
  dsimp only
  unfold F_B_redeemable
  rw [C_redeemable H1 hm12 (by rw [(T1 m hm12).2.2.1]; exact hho) hh4 (by omega)]; rfl
theorem V_contributed (R : Rep v k a s) (hN : 600000 < N) {m ho : Nat} (hm : m < v 3) (hho : a.hm m = cI ho) (hh4 : ho ≤ 4) : P_contributed N s (nI m) = some (0, nI (if ho = 0 then 0 else sumQ (fun k => decide (kL k = 11 + ho) && decide (kC k = m + 1)) a.E), s) := by
  obtain ⟨inp, se, dr, rdr, b, c, hi, ck⟩ := s
  obtain ⟨hV, hS, hk, g, H⟩ := R
  have hSs : SC v (inp, se, dr, rdr, b, c, hi, ck).2.1 := hS
  have H : BQ v k a b g := H
  have hS : SC v se := hS
  obtain ⟨⟨a1, a2⟩, ⟨a3, a4, a5⟩, ⟨H1, H2, H3⟩, ⟨HL, HLm⟩, H4, H5, H6, H7, hLv, ⟨T1, T2, T3, T4⟩⟩ := H
  have hv3 := hV.1.2.2.2.2.1
  have hv4 := hV.1.2.2.2.2.2
  have hv1 := hV.1.2.2.1
  have hm12 : m < 12 := by omega
  have h1' : ¬ outN (nI m) (v 3) := outN_in (by omega) hm
  unfold P_contributed
  rw [mem_in hSs h1' N, Option.bind_some, if_pos rfl]
  dsimp only
  rw [show F_B_cohorts N b = some () from rfl, Option.bind_some]
  unfold F_H_sum F_B_poolOf f_X0_poolOf
  rw [X6_at_in _ h12 hm12, Option.bind_some, (T1 m hm12).2.2.1, hho, C_poolList (by omega), Option.bind_some, Option.bind_some, Option.bind_some, E_sum H1 _ _ (by omega)]
  by_cases h : ho = 0
  · rw [if_pos h, if_pos h, sumQ_zero (fun x hx => qK_none (H1.2.2.1 x hx).1.1)]; rfl
  · rw [if_neg h, if_neg h, sumQ_congr (q' := fun k => decide (kL k = 11 + ho) && decide (kC k = m + 1)) (fun x hx => qK_listc (by omega) hm12 (H1.2.2.1 x hx).1.1)]; rfl
theorem V_cohort (R : Rep v k a s) (hN : 600000 < N) {m i : Nat} {x : En} (hm : m < v 3) (hx : (lst m a.E)[i]? = some x) : P_cohort N s (nI m) (nI i) 0 = some (0, nI x.2, s) ∧ P_cohort N s (nI m) (nI i) 1 = some (0, nI (kD x.1), s) := by
  obtain ⟨inp, se, dr, rdr, b, c, hi, ck⟩ := s
  obtain ⟨hV, hS, hk, g, H⟩ := R
  have hSs : SC v (inp, se, dr, rdr, b, c, hi, ck).2.1 := hS
  have H : BQ v k a b g := H
  have hS : SC v se := hS
  obtain ⟨⟨a1, a2⟩, ⟨a3, a4, a5⟩, ⟨H1, H2, H3⟩, ⟨HL, HLm⟩, H4, H5, H6, H7, hLv, ⟨T1, T2, T3, T4⟩⟩ := H
  have hv3 := hV.1.2.2.2.2.1
  have hv4 := hV.1.2.2.2.2.2
  have hv1 := hV.1.2.2.1
  have hm12 : m < 12 := by omega
  have h1' : ¬ outN (nI m) (v 3) := outN_in (by omega) hm
  have hi0 : i < cntE (fun k => decide (kL k = m)) a.E := by
    rw [← lst_len]
    exact (List.getElem?_eq_some_iff.mp hx).1
  have hcl : cntE (fun k => decide (kL k = m)) a.E ≤ 1024 := Nat.le_trans cntE_le (by omega)
  have hnum : F_H_number N b (nI m) = some (nI (cntE (fun k => decide (kL k = m)) a.E)) := by
    unfold F_H_number
    rw [C_cnt H1 (by omega) (by omega)]; rfl
  have hnc : P_needCohort N (inp, se, dr, rdr, b, c, hi, ck) (nI m) (nI i) = some 0 := by
    unfold P_needCohort
    dsimp only
    rw [show F_B_cohorts N b = some () from rfl, Option.bind_some]
    exact need_in (outN_in (by omega) hi0) _ hnum
  obtain ⟨y, hy, hpart⟩ := C_nth H1 (show m < 16 by omega) hi0 (N := N) (by omega)
  have hyx := nth_same H1.2.1 hy (lst_get H1.2.1 hx)
  subst hyx
  refine ⟨?_, ?_⟩
  · unfold P_cohort
    rw [mem_in hSs h1' N, Option.bind_some, if_pos rfl, hnc, Option.bind_some, if_pos rfl, btw_in (by decide), Option.bind_some, if_pos rfl, show F_B_cohorts N (inp, se, dr, rdr, b, c, hi, ck).2.2.2.2.1 = some () from rfl, Option.bind_some]
    unfold F_H_part
    rw [hpart]; rfl
  · unfold P_cohort
    rw [mem_in hSs h1' N, Option.bind_some, if_pos rfl, hnc, Option.bind_some, if_pos rfl, btw_in (by decide), Option.bind_some, if_pos rfl, show F_B_cohorts N (inp, se, dr, rdr, b, c, hi, ck).2.2.2.2.1 = some () from rfl, Option.bind_some]
    unfold F_H_part
    rw [hpart]; rfl
theorem V_poolBalance (R : Rep v k a s) (hN : 600000 < N) {h : Nat} (hh : h < v 4) : P_poolBalance N s (nI h) = some (0, nI (sumP (lst (12 + h) a.E)), s) := by
  obtain ⟨inp, se, dr, rdr, b, c, hi, ck⟩ := s
  obtain ⟨hV, hS, hk, g, H⟩ := R
  have hSs : SC v (inp, se, dr, rdr, b, c, hi, ck).2.1 := hS
  have H : BQ v k a b g := H
  have hS : SC v se := hS
  obtain ⟨⟨a1, a2⟩, ⟨a3, a4, a5⟩, ⟨H1, H2, H3⟩, ⟨HL, HLm⟩, H4, H5, H6, H7, hLv, ⟨T1, T2, T3, T4⟩⟩ := H
  have hv3 := hV.1.2.2.2.2.1
  have hv4 := hV.1.2.2.2.2.2
  have hv1 := hV.1.2.2.1
  have h44 : h < 4 := by omega
  have h1' : ¬ outN (nI h) (v 4) := outN_in (by omega) hh
  have hpl : f_X10_poolList (nI h) = some (nI (12 + h)) := by
    have h5 := C_poolList (h := h + 1) (by omega)
    rw [if_neg (by omega), show 11 + (h + 1) = 12 + h by omega] at h5
    exact h5
  unfold P_poolBalance
  rw [hou_in hSs h1' N, Option.bind_some, if_pos rfl]
  dsimp only
  rw [show F_B_cohorts N b = some () from rfl, Option.bind_some, hpl, Option.bind_some]
  unfold F_H_sum
  rw [C_balance H1 (by omega) (by omega), lst_sum]; rfl
theorem V_poolCohortCount (R : Rep v k a s) (hN : 600000 < N) {h : Nat} (hh : h < v 4) : P_poolCohortCount N s (nI h) = some (0, nI (lst (12 + h) a.E).length, s) := by
  obtain ⟨inp, se, dr, rdr, b, c, hi, ck⟩ := s
  obtain ⟨hV, hS, hk, g, H⟩ := R
  have hSs : SC v (inp, se, dr, rdr, b, c, hi, ck).2.1 := hS
  have H : BQ v k a b g := H
  have hS : SC v se := hS
  obtain ⟨⟨a1, a2⟩, ⟨a3, a4, a5⟩, ⟨H1, H2, H3⟩, ⟨HL, HLm⟩, H4, H5, H6, H7, hLv, ⟨T1, T2, T3, T4⟩⟩ := H
  have hv3 := hV.1.2.2.2.2.1
  have hv4 := hV.1.2.2.2.2.2
  have hv1 := hV.1.2.2.1
  have h44 : h < 4 := by omega
  have h1' : ¬ outN (nI h) (v 4) := outN_in (by omega) hh
  have hpl : f_X10_poolList (nI h) = some (nI (12 + h)) := by
    have h5 := C_poolList (h := h + 1) (by omega)
    rw [if_neg (by omega), show 11 + (h + 1) = 12 + h by omega] at h5
    exact h5
  unfold P_poolCohortCount
  rw [hou_in hSs h1' N, Option.bind_some, if_pos rfl]
  dsimp only
  rw [show F_B_cohorts N b = some () from rfl, Option.bind_some, hpl, Option.bind_some]
  unfold F_H_number
  rw [C_cnt H1 (by omega) (by omega), lst_len]; rfl
theorem V_poolCohort (R : Rep v k a s) (hN : 600000 < N) {h i : Nat} {x : En} (hh : h < v 4) (hx : (lst (12 + h) a.E)[i]? = some x) : P_poolCohort N s (nI h) (nI i) 0 = some (0, nI x.2, s) ∧ P_poolCohort N s (nI h) (nI i) 1 = some (0, nI (kD x.1), s) ∧ P_poolCohort N s (nI h) (nI i) 2 = some (0, cI (kC x.1), s) := by
  obtain ⟨inp, se, dr, rdr, b, c, hi, ck⟩ := s
  obtain ⟨hV, hS, hk, g, H⟩ := R
  have hSs : SC v (inp, se, dr, rdr, b, c, hi, ck).2.1 := hS
  have H : BQ v k a b g := H
  have hS : SC v se := hS
  obtain ⟨⟨a1, a2⟩, ⟨a3, a4, a5⟩, ⟨H1, H2, H3⟩, ⟨HL, HLm⟩, H4, H5, H6, H7, hLv, ⟨T1, T2, T3, T4⟩⟩ := H
  have hv3 := hV.1.2.2.2.2.1
  have hv4 := hV.1.2.2.2.2.2
  have hv1 := hV.1.2.2.1
  have h44 : h < 4 := by omega
  have h1' : ¬ outN (nI h) (v 4) := outN_in (by omega) hh
  have hpl : f_X10_poolList (nI h) = some (nI (12 + h)) := by
    have h5 := C_poolList (h := h + 1) (by omega)
    rw [if_neg (by omega), show 11 + (h + 1) = 12 + h by omega] at h5
    exact h5
  have hi0 : i < cntE (fun k => decide (kL k = 12 + h)) a.E := by
    rw [← lst_len]
    exact (List.getElem?_eq_some_iff.mp hx).1
  have hcl : cntE (fun k => decide (kL k = 12 + h)) a.E ≤ 1024 := Nat.le_trans cntE_le (by omega)
  have hnum : F_H_number N b (nI (12 + h)) = some (nI (cntE (fun k => decide (kL k = 12 + h)) a.E)) := by
    unfold F_H_number
    rw [C_cnt H1 (by omega) (by omega)]; rfl
  have hnc : P_needCohort N (inp, se, dr, rdr, b, c, hi, ck) (nI (12 + h)) (nI i) = some 0 := by
    unfold P_needCohort
    dsimp only
    rw [show F_B_cohorts N b = some () from rfl, Option.bind_some]
    exact need_in (outN_in (by omega) hi0) _ hnum
  obtain ⟨y, hy, hpart⟩ := C_nth H1 (show 12 + h < 16 by omega) hi0 (N := N) (by omega)
  have hyx := nth_same H1.2.1 hy (lst_get H1.2.1 hx)
  subst hyx
  have hgo : ∀ w : Int32, ¬ outR w 0 2 → P_poolCohort N (inp, se, dr, rdr, b, c, hi, ck) (nI h) (nI i) w = some (0, if w = 0 then nI y.2 else if w = 1 then nI (kD y.1) else cI (kC y.1), (inp, se, dr, rdr, b, c, hi, ck)) := by
    intro w h3'
    unfold P_poolCohort
    rw [hou_in hSs h1' N, Option.bind_some, if_pos rfl, hpl, Option.bind_some, hnc, Option.bind_some, if_pos rfl, btw_in h3', Option.bind_some, if_pos rfl, show F_B_cohorts N (inp, se, dr, rdr, b, c, hi, ck).2.2.2.2.1 = some () from rfl, Option.bind_some, Option.bind_some]
    unfold F_H_part
    rw [hpart]; rfl
  exact ⟨hgo 0 (by decide), hgo 1 (by decide), hgo 2 (by decide)⟩
theorem V_redeemedWith (R : Rep v k a s) (hN : 600000 < N) {n : Nat} (hn : n < 10) : P_redeemedWith N s (nI n) = some (0, nI (a.rd n), s) := by
  obtain ⟨inp, se, dr, rdr, b, c, hi, ck⟩ := s
  obtain ⟨hV, hS, hk, g, H⟩ := R
  have hSs : SC v (inp, se, dr, rdr, b, c, hi, ck).2.1 := hS
  have H : BQ v k a b g := H
  have hS : SC v se := hS
  obtain ⟨⟨a1, a2⟩, ⟨a3, a4, a5⟩, ⟨H1, H2, H3⟩, ⟨HL, HLm⟩, H4, H5, H6, H7, hLv, ⟨T1, T2, T3, T4⟩⟩ := H
  have hv3 := hV.1.2.2.2.2.1
  have hv4 := hV.1.2.2.2.2.2
  have hv1 := hV.1.2.2.1
  have h1' : ¬ outR (nI n) 0 9 := notout (a := 0) (b := 9) (by omega) (by decide) (Nat.zero_le _) (by omega)
  unfold P_redeemedWith
  rw [btw_in h1', Option.bind_some, if_pos rfl]
  dsimp only
  unfold F_B_redeemedIn f_X0_redeemedIn
  rw [X6_at_in _ h10 hn, (H7.2.1 n hn).1]; rfl
theorem V_logSize (R : Rep v k a s) (hN : 600000 < N) : P_logSize N s = some (nI a.Lg.length, s) := by
  obtain ⟨inp, se, dr, rdr, b, c, hi, ck⟩ := s
  obtain ⟨hV, hS, hk, g, H⟩ := R
  have hSs : SC v (inp, se, dr, rdr, b, c, hi, ck).2.1 := hS
  have H : BQ v k a b g := H
  have hS : SC v se := hS
  obtain ⟨⟨a1, a2⟩, ⟨a3, a4, a5⟩, ⟨H1, H2, H3⟩, ⟨HL, HLm⟩, H4, H5, H6, H7, hLv, ⟨T1, T2, T3, T4⟩⟩ := H
  have hv3 := hV.1.2.2.2.2.1
  have hv4 := hV.1.2.2.2.2.2
  have hv1 := hV.1.2.2.1
  obtain ⟨n0, l1, l2, l3, l4, l5⟩ := HL
  unfold P_logSize F_L_size f_X4_size
  dsimp only
  rw [l3]; rfl
theorem V_log (R : Rep v k a s) (hN : 600000 < N) {i w : Nat} {e : Co} (he : a.Lg[i]? = some e) (hw : w < 4) : P_log N s (nI i) (nI w) = some (0, coP e w, s) := by
  obtain ⟨inp, se, dr, rdr, b, c, hi, ck⟩ := s
  obtain ⟨hV, hS, hk, g, H⟩ := R
  have hSs : SC v (inp, se, dr, rdr, b, c, hi, ck).2.1 := hS
  have H : BQ v k a b g := H
  have hS : SC v se := hS
  obtain ⟨⟨a1, a2⟩, ⟨a3, a4, a5⟩, ⟨H1, H2, H3⟩, ⟨HL, HLm⟩, H4, H5, H6, H7, hLv, ⟨T1, T2, T3, T4⟩⟩ := H
  have hv3 := hV.1.2.2.2.2.1
  have hv4 := hV.1.2.2.2.2.2
  have hv1 := hV.1.2.2.1
  have hi0 := (List.getElem?_eq_some_iff.mp he).1
  have hll := HLm.2.1
  have hsz : F_L_size N b = some (nI a.Lg.length) := by
    obtain ⟨n0, l1, l2, l3, l4, l5⟩ := HL
    unfold F_L_size f_X4_size
    rw [l3]; rfl
  have hcp := C_log_part HL he hw
  unfold P_log
  dsimp only
  rw [if_neg (nI_pos (by omega)), show F_B_diary N b = some () from rfl, Option.bind_some, hsz, Option.bind_some, if_pos ((nI_ltI (by omega) (by omega)).mpr hi0), btw_in (show ¬ outR (nI w) 0 3 from notout (a := 0) (b := 3) (by omega) (by decide) (Nat.zero_le _) (by omega)), Option.bind_some, if_pos rfl, Option.bind_some]
  unfold F_L_part
  rw [hcp]; rfl
theorem V_purchaseCount (R : Rep v k a s) (hN : 600000 < N) : P_purchaseCount N s = some (nI a.c, s) := by
  obtain ⟨inp, se, dr, rdr, b, c, hi, ck⟩ := s
  obtain ⟨hV, hS, hk, g, H⟩ := R
  have hSs : SC v (inp, se, dr, rdr, b, c, hi, ck).2.1 := hS
  have H : BQ v k a b g := H
  have hS : SC v se := hS
  obtain ⟨⟨a1, a2⟩, ⟨a3, a4, a5⟩, ⟨H1, H2, H3⟩, ⟨HL, HLm⟩, H4, H5, H6, H7, hLv, ⟨T1, T2, T3, T4⟩⟩ := H
  have hv3 := hV.1.2.2.2.2.1
  have hv4 := hV.1.2.2.2.2.2
  have hv1 := hV.1.2.2.1
  unfold P_purchaseCount F_U_count f_X5_count
  dsimp only
  rw [H4.1]; rfl
theorem V_purchasePart (R : Rep v k a s) (hN : 600000 < N) {i w : Nat} (hi : i < a.c) (hi2 : a.c ≤ i + 40) (hw : w < 7) : P_purchasePart N s (nI i) (nI w) = some (0, a.pr (7 * i + w), s) := by
  obtain ⟨inp, se, dr, rdr, b, c, hi, ck⟩ := s
  obtain ⟨hV, hS, hk, g, H⟩ := R
  have hSs : SC v (inp, se, dr, rdr, b, c, hi, ck).2.1 := hS
  have H : BQ v k a b g := H
  have hS : SC v se := hS
  obtain ⟨⟨a1, a2⟩, ⟨a3, a4, a5⟩, ⟨H1, H2, H3⟩, ⟨HL, HLm⟩, H4, H5, H6, H7, hLv, ⟨T1, T2, T3, T4⟩⟩ := H
  have hv3 := hV.1.2.2.2.2.1
  have hv4 := hV.1.2.2.2.2.2
  have hv1 := hV.1.2.2.1
  have hc5 := H4.2.1
  unfold P_purchasePart P_needKeptPurchase F_U_isKept
  dsimp only
  rw [show F_B_purchases N b = some () from rfl, Option.bind_some, H4.1, C_isKept (by omega), if_neg (by rw [nI_ltI (by omega) (by omega), nI_leI (by omega) (by omega)]; omega), Option.bind_some, Option.bind_some, if_neg (by decide), Option.bind_some, if_pos rfl, btw_in (show ¬ outR (nI w) 0 6 from notout (a := 0) (b := 6) (by omega) (by decide) (Nat.zero_le _) (by omega)), Option.bind_some, if_pos rfl, Option.bind_some]
  unfold F_U_part
  rw [C_part (by omega) hw, T4 _ (by omega)]; rfl
theorem V_totalBreakage (hN : 600000 < N) {ex : Nat} (hex : a.tt 2 = nI ex) (hx2 : sumP a.E + sumN a.rd 10 + ex ≤ bd k) (R : Rep v k a s) : P_totalBreakage N s = some (sumW (wE v a.d ex a.rd) (fun k => anyI (-2) (nI (kL k))) a.E, s) := by
  obtain ⟨inp, se, dr, rdr, b, c, hi, ck⟩ := s
  obtain ⟨hV, hS, hk, g, H⟩ := R
  have hSs : SC v (inp, se, dr, rdr, b, c, hi, ck).2.1 := hS
  have H : BQ v k a b g := H
  have hS : SC v se := hS
  obtain ⟨⟨a1, a2⟩, ⟨a3, a4, a5⟩, ⟨H1, H2, H3⟩, ⟨HL, HLm⟩, H4, H5, H6, H7, hLv, ⟨T1, T2, T3, T4⟩⟩ := H
  have hv3 := hV.1.2.2.2.2.1
  have hv4 := hV.1.2.2.2.2.2
  have hv1 := hV.1.2.2.1
  have hbk : bd k < 2 ^ 31 := by have := bd_512 hk; omega
  have hre := fun i hi => (H7.2.1 i hi).1
  have hbb : ex + sumN a.rd 10 < 2 ^ 31 := by omega
  unfold P_totalBreakage F_B_breakageOf
  dsimp only
  rw [a3, hS.1.1, C_brk H1 H3 hV a5 (by rw [T3 2 (by omega)]; exact hex) hre hbb (-2) (by omega)]; rfl
theorem V_members (R : Rep v k a s) (hN : 600000 < N) {h : Nat} (hh : h < v 4) : P_members N s (nI h) = some (0, nI (bitsN a.hm (nI h) (v 3)), s) := by
  obtain ⟨inp, se, dr, rdr, b, c, hi, ck⟩ := s
  obtain ⟨hV, hS, hk, g, H⟩ := R
  have hSs : SC v (inp, se, dr, rdr, b, c, hi, ck).2.1 := hS
  have H : BQ v k a b g := H
  have hS : SC v se := hS
  obtain ⟨⟨a1, a2⟩, ⟨a3, a4, a5⟩, ⟨H1, H2, H3⟩, ⟨HL, HLm⟩, H4, H5, H6, H7, hLv, ⟨T1, T2, T3, T4⟩⟩ := H
  have hv3 := hV.1.2.2.2.2.1
  have hv4 := hV.1.2.2.2.2.2
  have hv1 := hV.1.2.2.1
  have h44 : h < 4 := by omega
  have h1' : ¬ outN (nI h) (v 4) := outN_in (by omega) hh
  have hbn : ∀ n, n ≤ 12 → bitsN b.2.2.2.2.2.2.2.2.2.2.2.2.2.2.2.1 (nI h) n = bitsN a.hm (nI h) n := by
    intro n
    induction n with
    | zero => intro _; rfl
    | succ n ih => intro hn; rw [bitsN, bitsN, ih (by omega), (T1 n (by omega)).2.2.1]
  unfold P_members
  rw [hou_in hSs h1' N, Option.bind_some, if_pos rfl]
  dsimp only
  unfold F_B_memberBits
  rw [C_memberBits (v := v) (nI h) (hS.2.1 3 (by omega)) hv3 (by omega), hbn _ hv3]; rfl
theorem V_total (R : Rep v k a s) (hN : 600000 < N) {n : Nat} (hn : n < 7) : P_total N s (nI n) = some (0, if n = 5 then nI (sumP a.E) else if n = 6 then nI (sumN a.db 12) else a.tt n, s) := by
  obtain ⟨inp, se, dr, rdr, b, c, hi, ck⟩ := s
  obtain ⟨hV, hS, hk, g, H⟩ := R
  have hSs : SC v (inp, se, dr, rdr, b, c, hi, ck).2.1 := hS
  have H : BQ v k a b g := H
  have hS : SC v se := hS
  obtain ⟨⟨a1, a2⟩, ⟨a3, a4, a5⟩, ⟨H1, H2, H3⟩, ⟨HL, HLm⟩, H4, H5, H6, H7, hLv, ⟨T1, T2, T3, T4⟩⟩ := H
  have hv3 := hV.1.2.2.2.2.1
  have hv4 := hV.1.2.2.2.2.2
  have hv1 := hV.1.2.2.1
  have h1' : ¬ outR (nI n) 0 6 := notout (a := 0) (b := 6) (by omega) (by decide) (Nat.zero_le _) (by omega)
  have hsd : sumI b.2.2.2.2.2.2.2.2.2.2.2.2.2.2.1 0 12 = nI (sumN a.db 12) := by
    have h9 := sumI_N (ls := b.2.2.2.2.2.2.2.2.2.2.2.2.2.2.1) (f := a.db) (n := 12) (fun x ha => (H7.1 x ha).1) 12 0 (by omega)
    rw [sumN, nI_0, Int32.zero_add, Nat.zero_add] at h9
    exact h9
  unfold P_total
  rw [btw_in h1', Option.bind_some, if_pos rfl]
  dsimp only
  by_cases n5 : n = 5
  · subst n5
    rw [if_pos rfl]
    unfold F_B_totalOf f_X0_totalOf
    rw [if_pos (show nI 5 = (5 : Int32) from rfl), E_sum H1 _ _ (by omega), sumQ_all (fun x hx => qK_any)]; rfl
  · rw [if_neg n5]
    by_cases n6 : n = 6
    · subst n6
      rw [if_pos rfl]
      unfold F_B_totalOf f_X0_totalOf
      rw [if_neg (show ¬ nI 6 = (5 : Int32) by decide), if_pos (show nI 6 = (6 : Int32) from rfl), show (0 : Int32) = nI 0 from rfl, X6_sumFrom_in _ h12 (by omega) (by omega), Nat.sub_zero, hsd]; rfl
    · rw [if_neg n6]
      unfold F_B_totalOf f_X0_totalOf
      rw [if_neg (show ¬ nI n = (5 : Int32) from fun hh => n5 ((nI_eq (by omega) (by decide)).mp (show nI n = nI 5 from hh))), if_neg (show ¬ nI n = (6 : Int32) from fun hh => n6 ((nI_eq (by omega) (by decide)).mp (show nI n = nI 6 from hh))), X6_at_in _ h5' (by omega), T3 n (by omega)]; rfl
theorem V_expiringWithin (R : Rep v k a s) (hN : 600000 < N) {m D : Nat} (hm : m < v 3) (hD : D ≤ 2000) : P_expiringWithin N s (nI m) (nI D) = some (0, nI (sumQ (fun k => decide (kL k = m) && decide (kD k ≤ a.d + D)) a.E), s) := by
  obtain ⟨inp, se, dr, rdr, b, c, hi, ck⟩ := s
  obtain ⟨hV, hS, hk, g, H⟩ := R
  have hSs : SC v (inp, se, dr, rdr, b, c, hi, ck).2.1 := hS
  have H : BQ v k a b g := H
  have hS : SC v se := hS
  obtain ⟨⟨a1, a2⟩, ⟨a3, a4, a5⟩, ⟨H1, H2, H3⟩, ⟨HL, HLm⟩, H4, H5, H6, H7, hLv, ⟨T1, T2, T3, T4⟩⟩ := H
  have hv3 := hV.1.2.2.2.2.1
  have hv4 := hV.1.2.2.2.2.2
  have hv1 := hV.1.2.2.1
  have hm12 : m < 12 := by omega
  have h1' : ¬ outN (nI m) (v 3) := outN_in (by omega) hm
  have hcs : F_H_sumUntil N b (nI m) (nI (a.d + D)) = some (nI (sumQ (fun k => decide (kL k = m) && decide (kD k ≤ a.d + D)) a.E)) := by
    unfold F_H_sumUntil
    rw [E_sumUntil H1 (nI m) (a.d + D) (by omega) (by omega), sumQ_congr (q' := fun k => decide (kL k = m) && decide (kD k ≤ a.d + D)) (fun x hx => by rw [qK_list (by omega) (H1.2.2.1 x hx).1.1])]; rfl
  have hday : F_B_day N b = some (nI a.d) := by
    unfold F_B_day f_X0_day
    rw [a3]; rfl
  unfold P_expiringWithin
  rw [mem_in hSs h1' N, Option.bind_some, if_pos rfl, btw_in (show ¬ outR (nI D) 0 2000 from notout (a := 0) (b := 2000) (by omega) (by decide) (Nat.zero_le _) hD), Option.bind_some, if_pos rfl, show F_B_cohorts N (inp, se, dr, rdr, b, c, hi, ck).2.2.2.2.1 = some () from rfl, Option.bind_some]
  dsimp only
  rw [hday, Option.bind_some, nI_add, hcs]; rfl
theorem V_wouldEarn (R : Rep v k a s) (hN : 600000 < N) {m ct x t : Nat} (hm : m < v 3) (hct : ct < v 1) (hx1 : 1 ≤ x) (hx2 : x ≤ 100000) (ht : t < v 0) (ht2 : a.ti m = nI t) : P_wouldEarn N s (nI m) (nI ct) (nI x) = some (0, nI (worthN v t ct x a.d), s) := by
  obtain ⟨inp, se, dr, rdr, b, c, hi, ck⟩ := s
  obtain ⟨hV, hS, hk, g, H⟩ := R
  have hSs : SC v (inp, se, dr, rdr, b, c, hi, ck).2.1 := hS
  have H : BQ v k a b g := H
  have hS : SC v se := hS
  obtain ⟨⟨a1, a2⟩, ⟨a3, a4, a5⟩, ⟨H1, H2, H3⟩, ⟨HL, HLm⟩, H4, H5, H6, H7, hLv, ⟨T1, T2, T3, T4⟩⟩ := H
  have hv3 := hV.1.2.2.2.2.1
  have hv4 := hV.1.2.2.2.2.2
  have hv1 := hV.1.2.2.1
  have hm12 : m < 12 := by omega
  have h1' : ¬ outN (nI m) (v 3) := outN_in (by omega) hm
  unfold P_wouldEarn
  rw [mem_in hSs h1' N, Option.bind_some, if_pos rfl, cat_in hSs (outN_in (by omega) hct) N, Option.bind_some, if_pos rfl, btw_in (show ¬ outR (nI x) 1 100000 from notout (a := 1) (b := 100000) (by omega) (by decide) hx1 hx2), Option.bind_some, if_pos rfl]
  dsimp only
  unfold F_B_worth
  rw [a3, C_worth hV hm12 (t := t) (by rw [(T1 m hm12).1, ht2]) ht hct hx2 (by omega) (hS.2.1 2 (by omega)) (fun t h => (hS.2.2.1 t h).2) hS.2.2.2.1 hS.2.2.2.2.1 (by omega)]; rfl
end VQ
