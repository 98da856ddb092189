/-- what stands through every change, beyond the books' own form -/
def TI (v : Nat → Nat) (d : Nat) (q ti be : Int32) : Prop := ∃ t, t < v 0 ∧ ti = nI t ∧ tierT v q (v 0 - 1) ≤ t ∧ ((be = -1 ∧ t = tierT v q (v 0 - 1)) ∨ ∃ n, be = nI n ∧ n ≤ d ∧ tierT v q (v 0 - 1) < t)
def JS (v : Nat → Nat) (a : BA) : Prop := a.tt 1 = nI (sumN a.rd 10) ∧ a.tt 0 = a.tt 1 + a.tt 2 + a.tt 3 + a.tt 4 + nI (sumP a.E) ∧ (∀ m, m < v 3 → TI v a.d (a.qu m) (a.ti m) (a.be m)) ∧ ∀ x ∈ a.E, 12 ≤ kL x.1 → a.hm (kC x.1 - 1) = cI (kL x.1 - 11)
/-- the law's setup -/
def LV (pf v : Nat → Nat) : Prop := v 3 = membN pf ∧ v 4 = 1 ∧ v 5 = lifeN pf ∧ v 0 = tiersN pf ∧ v 1 = catsN pf
theorem Sor_get {x y : En} : ∀ {L : List En} {i j : Nat}, Sor L → i < j → L[i]? = some x → L[j]? = some y → x.1 < y.1
  | [], i, j, _, _, h, _ => by cases h
  | z :: L, 0, j + 1, hs, _, h, h2 => by
    rw [List.getElem?_cons_zero] at h
    rw [List.getElem?_cons_succ] at h2
    have h := Option.some.inj h
    subst h
    exact hs.1 y (List.mem_of_getElem? h2)
  | z :: L, i + 1, j + 1, hs, hij, h, h2 => by
    rw [List.getElem?_cons_succ] at h h2
    exact Sor_get hs.2 (by omega) h h2
  | z :: L, 0, 0, _, hij, _, _ => by omega
  | z :: L, i + 1, 0, _, hij, _, _ => by omega
theorem sumP_take : ∀ {L : List En} {i : Nat} {x : En}, L[i]? = some x → sumP (L.take (i + 1)) = sumP (L.take i) + x.2
  | [], i, x, h => by cases h
  | z :: L, 0, x, h => by
    rw [List.getElem?_cons_zero] at h
    have h := Option.some.inj h
    subst h
    show z.2 + sumP (L.take 0) = 0 + z.2
    rw [List.take_zero]
    show z.2 + 0 = _
    omega
  | z :: L, i + 1, x, h => by
    rw [List.getElem?_cons_succ] at h
    have := sumP_take h
    show z.2 + sumP (L.take (i + 1)) = z.2 + sumP (L.take i) + x.2
    omega
theorem sumP_take_le : ∀ {L : List En} {i : Nat}, sumP (L.take i) ≤ sumP L
  | [], i => by cases i <;> exact Nat.le_refl _
  | z :: L, 0 => Nat.zero_le _
  | z :: L, i + 1 => by
    have := sumP_take_le (L := L) (i := i)
    show z.2 + sumP (L.take i) ≤ z.2 + sumP L
    omega
theorem lst_sumle {m : Nat} {E : List En} : sumP (lst m E) ≤ sumP E := by
  rw [lst_sum]; exact sumQ_le
/-- the numbers of a row of a list -/
theorem Rep_E {v : Nat → Nat} {k : Nat} {a : BA} {s : T_PL} (R : Rep v k a s) : Sor a.E ∧ (∀ x ∈ a.E, VK x.1 ∧ 1 ≤ x.2) ∧ sumP a.E < 2 ^ 31 ∧ EV v a.d a.E ∧ (∀ m, m < 12 → ∃ h, h ≤ v 4 ∧ a.hm m = cI h) := by
  obtain ⟨hV, hS, hk, g, ⟨_, _, ⟨H1, H2, H3⟩, _, H4, H5, H6, H7, hLv, ⟨T1, T2, T3, T4⟩⟩⟩ := R
  refine ⟨H1.2.1, H1.2.2.1, H1.2.2.2, H3, fun m hm => ?_⟩
  obtain ⟨_, _, h3, _, h, h4, h5⟩ := H6.1 m hm
  exact ⟨h, h4, by rw [← (T1 m hm).2.2.1, h3, h5]⟩
section SOUND
variable {v pf : Nat → Nat} {k : Nat} {a : BA} {s : T_PL} {N : Nat}
theorem snd_423 (R : Rep v k a s) (hN : 600000 < N) (J : JS v a) : ∀ (j i : Nat), i + j = 10 → ∀ (n : Nat), j < n → f_L_isSound_b423 N n (nI (sumN a.rd i)) (nI i) s = some (1, s) := by
  intro j
  induction j with
  | zero =>
    intro i hi n hn
    obtain ⟨n, rfl⟩ : ∃ n', n = n' + 1 := ⟨n - 1, by omega⟩
    have hi : i = 10 := by omega
    subst hi
    have ht : ∀ q : Nat, q < 5 → P_total N s (nI q) = some (0, a.tt q, s) := fun q hq => by
      rw [V_total R hN (show q < 7 by omega), if_neg (by omega), if_neg (by omega)]
    have ht5 : P_total N s (nI 5) = some (0, nI (sumP a.E), s) := by rw [V_total R hN (show 5 < 7 by decide), if_pos rfl]
    rw [f_L_isSound_b423, if_pos (show (10 : Int32) ≤ nI 10 from Int32.le_refl _), show P_total N s (1 : Int32) = some (0, a.tt 1, s) from ht 1 (by decide), Option.bind_some, if_neg (fun h => h rfl), if_pos (show nI (sumN a.rd 10) = a.tt 1 from J.1.symm), show P_total N s (0 : Int32) = some (0, a.tt 0, s) from ht 0 (by decide), Option.bind_some, if_neg (fun h => h rfl), show P_total N s (1 : Int32) = some (0, a.tt 1, s) from ht 1 (by decide), Option.bind_some, if_neg (fun h => h rfl), show P_total N s (2 : Int32) = some (0, a.tt 2, s) from ht 2 (by decide), Option.bind_some, if_neg (fun h => h rfl), show P_total N s (3 : Int32) = some (0, a.tt 3, s) from ht 3 (by decide), Option.bind_some, if_neg (fun h => h rfl), show P_total N s (4 : Int32) = some (0, a.tt 4, s) from ht 4 (by decide), Option.bind_some, if_neg (fun h => h rfl), show P_total N s (5 : Int32) = some (0, nI (sumP a.E), s) from ht5, Option.bind_some, if_neg (fun h => h rfl)]
    exact if_pos J.2.1
  | succ j ih =>
    intro i hi n hn
    obtain ⟨n, rfl⟩ : ∃ n', n = n' + 1 := ⟨n - 1, by omega⟩
    rw [f_L_isSound_b423, if_neg (fun hh => by have := (nI_leI (a := 10) (by decide) (by omega)).mp (show nI 10 ≤ nI i from hh); omega), V_redeemedWith R hN (show i < 10 by omega), Option.bind_some, if_neg (fun h => h rfl), nI_add, Option.bind_some, nI_1, Option.bind_some]
    exact ih (i + 1) (by omega) n (by omega)
theorem snd_289 (R : Rep v k a s) (hN : 600000 < N) (J : JS v a) (h4 : v 4 = 1) {S D : Nat} (hS : S + sumP (lst 12 a.E) = sumP a.E) (hD : D = sumN a.db 12) : ∀ (j i : Nat), i + j = (lst 12 a.E).length → ∀ (n last : Nat), j < n → last < 2 ^ 30 → (∀ x, (lst 12 a.E)[i]? = some x → last < 12 * kD x.1 + (kC x.1 - 1)) → f_L_isSound_b289 N (nI S) (nI D) n (nI (sumP ((lst 12 a.E).take i))) (nI last) (nI i) s = some (1, s) := by
  obtain ⟨hV, hk, hEl, hLl, hcl, hd, -, -⟩ := Rep_bd R
  obtain ⟨hs, hv, hsum, hE, hh⟩ := Rep_E R
  have hl := lst_le (m := 12) (E := a.E)
  have hv3 := hV.1.2.2.2.2.1
  have h40 : 0 < v 4 := by omega
  have hls : Sor (lst 12 a.E) := sor_filter hs
  intro j
  induction j with
  | zero =>
    intro i hi n last hn hlt hx
    obtain ⟨n, rfl⟩ : ∃ n', n = n' + 1 := ⟨n - 1, by omega⟩
    have h9 := snd_423 R hN J 10 0 rfl N (by omega)
    rw [f_L_isSound_b289, show P_poolCohortCount N s (0 : Int32) = some (0, nI (lst 12 a.E).length, s) from V_poolCohortCount R hN h40, Option.bind_some, if_neg (fun h => h rfl), if_pos ((nI_leI (by omega) (by omega)).mpr (by omega)), show P_poolBalance N s (0 : Int32) = some (0, nI (sumP (lst 12 a.E)), s) from V_poolBalance R hN h40, Option.bind_some, if_neg (fun h => h rfl), if_pos (show nI (sumP ((lst 12 a.E).take i)) = nI (sumP (lst 12 a.E)) by rw [List.take_of_length_le (by omega)]), show P_total N s (5 : Int32) = some (0, nI (sumP a.E), s) from (V_total R hN (show 5 < 7 by decide)), Option.bind_some, if_neg (fun h => h rfl), if_pos (show nI (sumP a.E) = nI S + nI (sumP ((lst 12 a.E).take i)) by rw [List.take_of_length_le (by omega), nI_add, hS]), show P_total N s (6 : Int32) = some (0, nI (sumN a.db 12), s) from (V_total R hN (show 6 < 7 by decide)), Option.bind_some, if_neg (fun h => h rfl), if_pos (show nI (sumN a.db 12) = nI D by rw [hD])]
    exact h9
  | succ j ih =>
    intro i hi n last hn hlt hx
    obtain ⟨n, rfl⟩ : ∃ n', n = n' + 1 := ⟨n - 1, by omega⟩
    obtain ⟨e, he⟩ : ∃ e, (lst 12 a.E)[i]? = some e := ⟨(lst 12 a.E)[i], List.getElem?_eq_getElem (by omega)⟩
    have hp := V_poolCohort R hN h40 (h := 0) he
    have hm := lst_mem.mp (List.mem_of_getElem? he)
    have hk1 := kD_lt e.1
    have hk2 := (hv e hm.1).1
    have hc1 : 1 ≤ kC e.1 := hk2.2.2.2 (by omega)
    have hc2 : kC e.1 ≤ 12 := hk2.2.1
    have hee := hE e hm.1
    have hc3 : kC e.1 - 1 < v 3 := (hee.2.2 (by omega)).2
    have hlast := hx e he
    have hcI : cI (kC e.1) = nI (kC e.1 - 1) := by
      obtain ⟨c, hc⟩ : ∃ c, kC e.1 = c + 1 := ⟨kC e.1 - 1, by omega⟩
      rw [hc]; rfl
    have hho : a.hm (kC e.1 - 1) = 0 := by
      have := J.2.2.2 e hm.1 (by omega)
      rw [hm.2] at this
      exact this
    rw [hcI] at hp
    rw [f_L_isSound_b289, show P_poolCohortCount N s (0 : Int32) = some (0, nI (lst 12 a.E).length, s) from V_poolCohortCount R hN h40, Option.bind_some, if_neg (fun h => h rfl), if_neg (fun hh => by have := (nI_leI (by omega) (by omega)).mp hh; omega), show P_poolCohort N s (0 : Int32) (nI i) (1 : Int32) = some (0, nI (kD e.1), s) from hp.2.1, Option.bind_some, if_neg (fun h => h rfl), show P_poolCohort N s (0 : Int32) (nI i) (2 : Int32) = some (0, nI (kC e.1 - 1), s) from hp.2.2, Option.bind_some, if_neg (fun h => h rfl), show (12 : Int32) * nI (kD e.1) + nI (kC e.1 - 1) = nI (12 * kD e.1 + (kC e.1 - 1)) from (by rw [show (12 : Int32) = nI 12 from rfl, nI_mul, nI_add]), Option.bind_some, if_neg (fun hh => by have := (nI_leI (by omega) (by omega)).mp hh; omega), show P_poolCohort N s (0 : Int32) (nI i) (1 : Int32) = some (0, nI (kD e.1), s) from hp.2.1, Option.bind_some, if_neg (fun h => h rfl), V_today R hN, Option.bind_some, if_neg (fun hh => by have := (nI_leI (by omega) (by omega)).mp hh; omega), show P_poolCohort N s (0 : Int32) (nI i) (2 : Int32) = some (0, nI (kC e.1 - 1), s) from hp.2.2, Option.bind_some, if_neg (fun h => h rfl), V_household R hN hc3, Option.bind_some, if_neg (fun h => h rfl), if_pos hho, show P_poolCohort N s (0 : Int32) (nI i) (0 : Int32) = some (0, nI e.2, s) from hp.1, Option.bind_some, if_neg (fun h => h rfl), nI_add, Option.bind_some, nI_1, Option.bind_some, ← sumP_take he]
    refine ih (i + 1) (by omega) n _ (by omega) (by omega) (fun y hy => ?_)
    have h5 := Sor_get hls (Nat.lt_succ_self i) he hy
    have hym := lst_mem.mp (List.mem_of_getElem? hy)
    have hyk := (hv y hym.1).1
    have hy1 : 1 ≤ kC y.1 := hyk.2.2.2 (by omega)
    have hy2 : kC y.1 ≤ 12 := hyk.2.1
    have e1 := mk_k e.1
    have e2 := mk_k y.1
    rw [hm.2] at e1
    rw [hym.2] at e2
    unfold mkK at e1 e2
    omega
theorem snd_28 (R : Rep v k a s) (hN : 600000 < N) (J : JS v a) (h4 : v 4 = 1) (h5 : v 5 = lifeN pf) (hL : pf 93 < 2 ^ 31) {m : Nat} (hm : m < v 3) {K : Int32 → Int32 → Int32 → T_PL → Option (Int32 × T_PL)} {x2 x3 : Int32} : ∀ (j i : Nat), i + j = (lst m a.E).length → ∀ (n bf : Nat), j < n → bf < 2 ^ 30 → (∀ x, (lst m a.E)[i]? = some x → bf < kD x.1) → f_L_isSound_b28 N pf K x2 x3 (nI m) n (nI bf) (nI (sumP ((lst m a.E).take i))) (nI i) s = K (x2 + nI (sumP (lst m a.E))) (x3 + nI (a.db m)) (nI (m + 1)) s := by
  obtain ⟨hV, hk, hEl, hLl, hcl, hd, -, hdb⟩ := Rep_bd R
  obtain ⟨hs, hv, hsum, hE, hh⟩ := Rep_E R
  have hl := lst_le (m := m) (E := a.E)
  have hv3 := hV.1.2.2.2.2.1
  have hv5 := hV.2.1.2.1
  have h40 : 0 < v 4 := by omega
  have hls : Sor (lst m a.E) := sor_filter hs
  intro j
  induction j with
  | zero =>
    intro i hi n bf hn hlt hx
    obtain ⟨n, rfl⟩ : ∃ n', n = n' + 1 := ⟨n - 1, by omega⟩
    obtain ⟨t, t1, t2, t3, t4⟩ := J.2.2.1 m hm
    have hbk := bd_512 hk
    have hdm := (hdb m (by omega)).1
    have htl := tierT_le (v := v) (x := a.qu m) (k := v 0 - 1)
    have hv0 := hV.1.2.1
    obtain ⟨ho, ho1, ho2⟩ := hh m (by omega)
    have hown : (lst m a.E).take i = lst m a.E := List.take_of_length_le (by omega)
    have hfin : ∀ x6 : Nat, x6 = sumP (lst m a.E) → f_L_isSound_b260 N K x2 x3 (nI m) (nI x6) s = K (x2 + nI (sumP (lst m a.E))) (x3 + nI (a.db m)) (nI (m + 1)) s := by
      intro x6 h6
      subst h6
      unfold f_L_isSound_b260
      rw [Option.bind_some, V_debt R hN hm, Option.bind_some, if_neg (fun h => h rfl), Option.bind_some, nI_1, Option.bind_some]
    have hav := V_available R hN hm ho2 (by omega)
    have h191 : ∀ x : Int32, (a.be m ≤ nI a.d) → f_L_isSound_b191 N K x2 x3 (nI m) (nI (sumP (lst m a.E))) x x s = K (x2 + nI (sumP (lst m a.E))) (x3 + nI (a.db m)) (nI (m + 1)) s := by
      intro x hbe
      unfold f_L_isSound_b191
      rw [if_pos rfl, V_belowSince R hN hm, Option.bind_some, if_neg (fun h => h rfl), V_today R hN, Option.bind_some, if_pos hbe, V_household R hN hm, Option.bind_some, if_neg (fun h => h rfl)]
      by_cases h0 : ho = 0
      · subst h0
        rw [if_neg (show ¬ (0 : Int32) ≤ a.hm m by rw [ho2]; decide), V_contributed R hN hm ho2 (by omega), Option.bind_some, if_neg (fun h => h rfl), if_pos (show nI (if 0 = 0 then 0 else _) = 0 from rfl), hav, Option.bind_some, if_neg (fun h => h rfl), if_pos (show nI (avN m 0 a.E) = nI (sumP (lst m a.E)) by unfold avN; rw [if_pos rfl, Nat.add_zero, lst_sum])]
        exact hfin _ rfl
      · have h1 : ho = 1 := by omega
        subst h1
        rw [if_pos (show (0 : Int32) ≤ a.hm m by rw [ho2]; decide), hav, Option.bind_some, if_neg (fun h => h rfl), show P_poolBalance N s (0 : Int32) = some (0, nI (sumP (lst 12 a.E)), s) from V_poolBalance R hN h40, Option.bind_some, if_neg (fun h => h rfl), if_pos (show nI (avN m 1 a.E) = nI (sumP (lst m a.E)) + nI (sumP (lst 12 a.E)) by rw [nI_add]; unfold avN; rw [if_neg h0, lst_sum, lst_sum])]
        exact hfin _ rfl
    have hti : P_tier N s (nI m) = some (0, nI t, s) := by rw [V_tier R hN hm, t2]
    rw [f_L_isSound_b28, V_cohortCount R hN hm, Option.bind_some, if_neg (fun h => h rfl), if_pos ((nI_leI (by omega) (by omega)).mpr (by omega)), V_balance R hN hm, Option.bind_some, if_neg (fun h => h rfl), hown, if_pos rfl, V_debt R hN hm, Option.bind_some, if_neg (fun h => h rfl), if_neg (nI_pos (by omega)), hti, Option.bind_some, if_neg (fun h => h rfl), V_earnedTier R hN hm, Option.bind_some, if_neg (fun h => h rfl), if_pos ((nI_leI (by omega) (by omega)).mpr t3), V_belowSince R hN hm, Option.bind_some, if_neg (fun h => h rfl)]
    rcases t4 with ⟨t5, t6⟩ | ⟨q, t5, t6, t7⟩
    · rw [if_pos (show a.be m < 0 by rw [t5]; decide)]
      unfold f_L_isSound_b171
      rw [hti, Option.bind_some, if_neg (fun h => h rfl), V_earnedTier R hN hm, Option.bind_some, if_neg (fun h => h rfl), if_pos ((nI_leI (by omega) (by omega)).mpr (by omega))]
      refine h191 0 ?_
      rw [t5]
      exact Int32.le_trans (show (-1 : Int32) ≤ 0 by decide) (by rw [← nI_0, nI_leI (by omega) (by omega)]; omega)
    · rw [if_neg (show ¬ a.be m < 0 by rw [t5]; exact nI_pos (by omega))]
      unfold f_L_isSound_b171
      rw [hti, Option.bind_some, if_neg (fun h => h rfl), V_earnedTier R hN hm, Option.bind_some, if_neg (fun h => h rfl), if_neg (fun hh => by have := (nI_leI (by omega) (by omega)).mp hh; omega)]
      refine h191 1 ?_
      rw [t5]
      exact (nI_leI (by omega) (by omega)).mpr t6
  | succ j ih =>
    intro i hi n bf hn hlt hx
    obtain ⟨n, rfl⟩ : ∃ n', n = n' + 1 := ⟨n - 1, by omega⟩
    obtain ⟨e, he⟩ : ∃ e, (lst m a.E)[i]? = some e := ⟨(lst m a.E)[i], List.getElem?_eq_getElem (by omega)⟩
    have hp := V_cohort R hN hm he
    have hme := lst_mem.mp (List.mem_of_getElem? he)
    have hk1 := kD_lt e.1
    have hk2 := hv e hme.1
    have hsl := mem_le_sum hme.1
    have hee := hE e hme.1
    have hbf := hx e he
    rw [f_L_isSound_b28, V_cohortCount R hN hm, Option.bind_some, if_neg (fun h => h rfl), if_neg (fun hh => by have := (nI_leI (by omega) (by omega)).mp hh; omega), hp.1, Option.bind_some, if_neg (fun h => h rfl), if_neg (show ¬ nI e.2 < 1 from fun hh => by have := (nI_ltI (b := 1) (by omega) (by decide)).mp (show nI e.2 < nI 1 from hh); omega), hp.2, Option.bind_some, if_neg (fun h => h rfl), if_neg (fun hh => by have := (nI_leI (by omega) (by omega)).mp hh; omega), hp.2, Option.bind_some, if_neg (fun h => h rfl), V_today R hN, Option.bind_some, e_life hL, Option.bind_some, if_pos (show nI (kD e.1) ≤ nI a.d + nI (lifeN pf) by rw [nI_add, nI_leI (by omega) (by omega)]; omega), hp.2, Option.bind_some, if_neg (fun h => h rfl), hp.1, Option.bind_some, if_neg (fun h => h rfl), nI_add, Option.bind_some, nI_1, Option.bind_some, ← sumP_take he]
    refine ih (i + 1) (by omega) n _ (by omega) (by omega) (fun y hy => ?_)
    have h6 := Sor_get hls (Nat.lt_succ_self i) he hy
    have hym := lst_mem.mp (List.mem_of_getElem? hy)
    have hyk := (hv y hym.1).1
    have e1 := mk_k e.1
    have e2 := mk_k y.1
    have e3 := hk2.1.2.2.1 (by omega)
    have e4 := hyk.2.2.1 (by omega)
    rw [hme.2] at e1
    rw [hym.2] at e2
    unfold mkK at e1 e2
    omega
theorem snd_7 (R : Rep v k a s) (hN : 600000 < N) (J : JS v a) (hv : LV pf v) (hL : pf 93 < 2 ^ 31) : ∀ (j m : Nat), m + j = v 3 → ∀ (n : Nat), j < n → f_L_isSound_b7 N pf n (nI (sumN (fun q => sumP (lst q a.E)) m)) (nI (sumN a.db m)) (nI m) s = some (1, s) := by
  obtain ⟨hV, hk, hEl, hLl, hcl, hd, -, hdb⟩ := Rep_bd R
  obtain ⟨hs, hvk, hsum, hE, hh⟩ := Rep_E R
  have hv3 := hV.1.2.2.2.2.1
  obtain ⟨w3, w4, w5, -⟩ := hv
  intro j
  induction j with
  | zero =>
    intro m hm n hn
    obtain ⟨n, rfl⟩ : ∃ n', n = n' + 1 := ⟨n - 1, by omega⟩
    have hm : m = v 3 := by omega
    subst hm
    have hL0 : ∀ q, (q < 12 ∧ v 3 ≤ q) ∨ (13 ≤ q) → sumP (lst q a.E) = 0 := by
      intro q hq
      rw [lst_sum]
      refine sumQ_zero (fun x hx => ?_)
      have h6 := (hE x hx).2
      refine decide_eq_false (fun hh => ?_)
      cases hq with
      | inl e => have := h6.1 (by omega); omega
      | inr e => have := (h6.2 (by omega)).1; omega
    have hf : (fun q => sumP (lst q a.E)) = fun q => sumQ (fun k => decide (kL k = q)) a.E := funext (fun q => lst_sum)
    have hall : sumN (fun q => sumP (lst q a.E)) 16 = sumP a.E := by
      rw [hf, sumN_list 16]
      exact sumQ_all (fun x hx => decide_eq_true (hvk x hx).1.1)
    have e1 : sumN (fun q => sumP (lst q a.E)) 16 = sumN (fun q => sumP (lst q a.E)) 13 := sumN_zero (f := fun q => sumP (lst q a.E)) 3 13 (fun b b1 b2 => hL0 b (Or.inr b1))
    have e2 := sumN_zero (f := fun q => sumP (lst q a.E)) (12 - v 3) (v 3) (fun b b1 b2 => hL0 b (Or.inl ⟨by omega, b1⟩))
    rw [show v 3 + (12 - v 3) = 12 by omega] at e2
    have e3 : sumN (fun q => sumP (lst q a.E)) 13 = sumN (fun q => sumP (lst q a.E)) 12 + sumP (lst 12 a.E) := rfl
    have e4 := sumN_zero (f := a.db) (12 - v 3) (v 3) (fun b b1 b2 => (hdb b (by omega)).2 b1)
    rw [show v 3 + (12 - v 3) = 12 by omega] at e4
    have hlp := lst_le (m := 12) (E := a.E)
    have h9 := snd_289 R hN J w4 (S := sumN (fun q => sumP (lst q a.E)) (v 3)) (D := sumN a.db (v 3)) (by omega) (by omega) (lst 12 a.E).length 0 (Nat.zero_add _) N 0 (by omega) (by decide) (fun x hx => by
      have hm := lst_mem.mp (List.mem_of_getElem? hx)
      have := (hE x hm.1).1
      omega)
    rw [f_L_isSound_b7, e_members hL, Option.bind_some, if_pos (by rw [w3]; exact Int32.le_refl _)]
    exact h9
  | succ j ih =>
    intro m hm n hn
    obtain ⟨n, rfl⟩ : ∃ n', n = n' + 1 := ⟨n - 1, by omega⟩
    have hmb := b_memb (pf := pf)
    have hl := lst_le (m := m) (E := a.E)
    have h9 := snd_28 R hN J w4 w5 hL (show m < v 3 by omega) (K := f_L_isSound_b7 N pf n) (x2 := nI (sumN (fun q => sumP (lst q a.E)) m)) (x3 := nI (sumN a.db m)) (lst m a.E).length 0 (Nat.zero_add _) N a.d (by omega) (by omega) (fun x hx => by
      have hm := lst_mem.mp (List.mem_of_getElem? hx)
      exact (hE x hm.1).1.1)
    rw [f_L_isSound_b7, e_members hL, Option.bind_some, if_neg (fun hh => by have := (nI_leI (by omega) (by omega)).mp hh; omega), V_today R hN, Option.bind_some]
    rw [List.take_zero] at h9
    refine h9.trans ?_
    rw [nI_add, nI_add]
    exact ih (m + 1) (by omega) n (by omega)
theorem snd (R : Rep v k a s) (hN : 600000 < N) (J : JS v a) (hv : LV pf v) (hL : pf 93 < 2 ^ 31) : f_L_isSound N pf s = some (1, s) := by
  have hV := (Rep_bd R).1
  have hv3 := hV.1.2.2.2.2.1
  exact snd_7 R hN J hv hL (v 3) 0 (Nat.zero_add _) N (by omega)
end SOUND
