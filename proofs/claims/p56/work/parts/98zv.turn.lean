theorem inM {pf : Nat → Nat} (x : Int32) : f_L_in x (nI (membN pf)) = some (nI (inN x (membN pf))) := in_val _ (by have := b_memb (pf := pf); omega) (by have := b_memb (pf := pf); omega)
theorem Int32_eq_sub {a b c : Nat} (h : a + b = c) (hc : c < 2 ^ 31) : nI a = nI c - nI b := by
  rw [nI_subI (show b ≤ c by omega)]; congr 1; omega
theorem sumQ_fil {q : Nat → Bool} {t : Nat} : ∀ {E : List En}, sumQ (fun k => q k && decide (t < kD k)) E = sumQ q (E.filter (fun x => decide (t < kD x.1)))
  | [] => rfl
  | x :: E => by
    have ih := sumQ_fil (q := q) (t := t) (E := E)
    rw [List.filter_cons, sumQ]
    by_cases h : t < kD x.1
    · rw [decide_eq_true h, Bool.and_true, if_pos rfl, sumQ, ih]
    · rw [decide_eq_false h, Bool.and_false, if_neg Bool.false_ne_true, if_neg Bool.false_ne_true, ih]
section TURN
variable {N : Nat} {pf v : Nat → Nat} {k : Nat} {a : BA} {l : List BA} {sv : Option BA} {s : T_PL} {x6 : Int64} {x8 : Int32}
theorem turn_buy (R : RP pf v k a l sv s) (hk : k ≤ 300) (hN : 600000 < N) (hL : pf 93 < 2 ^ 31) (hs : HS N v sv x6 x8) {V : Int32} {x11 : Int64} (h11 : ∀ k s, k ≤ 512 → Rep v k a s → f_L_all N s = some (x11, s)) {m : Nat} (hm : m < v 3) : TR N pf v (k + 1) (f_L_turn_b352 N pf x6 x8 V x11 (nI l.length) (nI m) s) := by
  have hLV := R.2.1
  have hbc := b_cats (pf := pf)
  have hct : inN (V >>> ((8 : Int32) &&& 31)) (catsN pf) < v 1 := by rw [hLV.2.2.2.2]; exact inN_lt _ (by omega)
  have hx := inN_lt (V >>> ((11 : Int32) &&& 31)) (m := 9000) (by decide)
  unfold f_L_turn_b352
  rw [e_categories hL, Option.bind_some, in_val _ (by omega) (by omega), Option.bind_some, show (9000 : Int32) = nI 9000 from rfl, in_val _ (by decide) (by decide), Option.bind_some, Option.bind_some, show (1 : Int32) + nI (inN (V >>> ((11 : Int32) &&& 31)) 9000) = nI (1 + inN (V >>> ((11 : Int32) &&& 31)) 9000) from nI_add 1 _]
  obtain ⟨a', s', p, p1, p2, p3, R', p5, p6, p7⟩ := U_purchase R (by omega) hN hm hct (show 1 ≤ 1 + inN (V >>> ((11 : Int32) &&& 31)) 9000 by omega) (by omega)
  have hRep' := RP_rep R' (show k + 1 ≤ 512 by omega)
  have hc5 := (Rep_bd hRep').2.2.2.2.1
  have hsub : nI a'.c - (1 : Int32) = nI a.c := by
    rw [p5]
    have := nI_subI (a := a.c + 1) (b := 1) (by omega)
    rw [Nat.add_sub_cancel] at this
    exact this
  have q4 := V_purchasePart hRep' hN (i := a.c) (w := 4) (by omega) (by omega) (by decide)
  have q0 := V_purchasePart hRep' hN (i := a.c) (w := 0) (by omega) (by omega) (by decide)
  rw [p7] at q4
  rw [Nat.add_zero, p6] at q0
  rw [p2, Option.bind_some, if_neg (fun h => h rfl), p3, Option.bind_some, if_neg (fun h => h rfl), if_pos rfl, V_purchaseCount hRep' hN, Option.bind_some]
  dsimp only
  rw [hsub, show P_purchasePart N s' (nI a.c) (4 : Int32) = _ from q4, Option.bind_some, if_neg (fun h => h rfl), if_pos rfl, V_purchaseCount hRep' hN, Option.bind_some]
  dsimp only
  rw [hsub, show P_purchasePart N s' (nI a.c) (0 : Int32) = _ from q0, Option.bind_some, if_neg (fun h => h rfl), if_pos rfl]
  exact tail_ok R R' (by omega) hN hL hs h11 p1
theorem turn_ok (R : RP pf v k a l sv s) (hk : k ≤ 300) (hN : 600000 < N) (hL : pf 93 < 2 ^ 31) (hs : HS N v sv x6 x8) {kk : Nat} (hkk : kk < 16) : TR N pf v (k + 1) (f_L_turn N pf x6 x8 (nI kk) s) := by
  have hLV := R.2.1
  have h40 := v4_pos R
  have hV := R.1
  have hv3 := hV.1.2.2.2.2.1
  have hv4 := hV.1.2.2.2.2.2
  have hRep := RP_rep R (show k ≤ 512 by omega)
  obtain ⟨hE1, hE2, hE3, hE4, hE5⟩ := Rep_E hRep
  have hbd := Rep_bd hRep
  obtain ⟨x11, h11'⟩ := all_val (v := v) hN h40 a
  have h11 : ∀ k s, k ≤ 512 → Rep v k a s → f_L_all N s = some (x11, s) := h11'
  obtain ⟨V, hVv⟩ : ∃ V, V = scI pf (8 + kk) := ⟨_, rfl⟩
  have hmb := b_memb (pf := pf)
  obtain ⟨m, hmm⟩ : ∃ m, m = inN (V >>> ((4 : Int32) &&& 31)) (membN pf) := ⟨_, rfl⟩
  obtain ⟨ot, hot⟩ : ∃ ot, ot = inN (V >>> ((8 : Int32) &&& 31)) (membN pf) := ⟨_, rfl⟩
  have hm : m < v 3 := by rw [hLV.1, hmm]; exact inN_lt _ (by omega)
  have ho : ot < v 3 := by rw [hLV.1, hot]; exact inN_lt _ (by omega)
  have hm12 : m < 12 := by omega
  obtain ⟨h0, hh1, hh0⟩ := hE5 m hm12
  have hh1' : h0 ≤ 1 := by rw [hLV.2.1] at hh1; exact hh1
  unfold f_L_turn
  rw [show (8 : Int32) + nI kk = nI (8 + kk) from nI_add 8 kk, cell_val hL (by omega), Option.bind_some, ← hVv, h11 k s (by omega) hRep, Option.bind_some, V_undoCount R, Option.bind_some, e_members hL, Option.bind_some, inM, Option.bind_some, Option.bind_some, inM, Option.bind_some, show (11 : Int32) = nI 11 from rfl, in_val _ (by decide) (by decide), Option.bind_some, ← hmm, ← hot]
  have hn := inN_lt V (m := 11) (by decide)
  generalize inN V 11 = n at hn ⊢
  have hd : n = 0 ∨ n = 1 ∨ n = 2 ∨ n = 3 ∨ n = 4 ∨ n = 5 ∨ n = 6 ∨ n = 7 ∨ n = 8 ∨ n = 9 ∨ n = 10 := by omega
  rcases hd with e | e | e | e | e | e | e | e | e | e | e
  · rw [e, if_pos (show nI 0 = (0 : Int32) from rfl)]
    exact turn_buy R hk hN hL hs h11 hm
  · rw [e, if_neg (by decide), if_pos (show nI 1 = (1 : Int32) from rfl)]
    exact turn_buy R hk hN hL hs h11 hm
  · rw [e, if_neg (by decide), if_neg (by decide), if_pos (show nI 2 = (2 : Int32) from rfl)]
    exact turn_buy R hk hN hL hs h11 hm
  · have hp := inN_lt (V >>> ((8 : Int32) &&& 31)) (m := 10) (by decide)
    rw [e, if_neg (by decide), if_neg (by decide), if_neg (by decide), if_pos (show nI 3 = (3 : Int32) from rfl), show (10 : Int32) = nI 10 from rfl, in_val _ (by decide) (by decide), Option.bind_some, show P_total N s (6 : Int32) = some (0, nI (sumN a.db 12), s) from V_total hRep hN (show 6 < 7 by decide), Option.bind_some, if_neg (fun h => h rfl)]
    rcases U_refund R (by omega) hN (i := inN (V >>> ((8 : Int32) &&& 31)) 10) (by omega) with ⟨x, y1, y2⟩ | ⟨a', s', p, p1, p2, R', p3, p4, p5, p6⟩
    · rw [y2, Option.bind_some, if_pos y1]
      exact tail_no R (by omega) hN hL hs h11 y1
    · have hRep' := RP_rep R' (show k + 1 ≤ 512 by omega)
      have q6 := V_purchasePart hRep' hN (i := inN (V >>> ((8 : Int32) &&& 31)) 10) (w := 6) p3 p4 (by decide)
      rw [p5] at q6
      rw [p2, Option.bind_some, if_neg (nI_pos p1), show P_purchasePart N s' (nI (inN (V >>> ((8 : Int32) &&& 31)) 10)) (6 : Int32) = _ from q6, Option.bind_some, if_neg (fun h => h rfl), if_pos rfl, show P_total N s' (6 : Int32) = some (0, nI (sumN a'.db 12), s') from V_total hRep' hN (show 6 < 7 by decide), Option.bind_some, if_neg (fun h => h rfl), if_pos (show nI (sumN a'.db 12) = nI (sumN a.db 12) + nI p by rw [nI_add, p6])]
      exact tail_ok R R' (by omega) hN hL hs h11 p1
  · have hp := inN_lt (V >>> ((8 : Int32) &&& 31)) (m := 600) (by decide)
    rw [e, if_neg (by decide), if_neg (by decide), if_neg (by decide), if_neg (by decide), if_pos (show nI 4 = (4 : Int32) from rfl), show (600 : Int32) = nI 600 from rfl, in_val _ (by decide) (by decide), Option.bind_some, V_available hRep hN hm hh0 (by omega), Option.bind_some, if_neg (fun h => h rfl), show P_poolBalance N s (0 : Int32) = some (0, nI (sumP (lst 12 a.E)), s) from V_poolBalance hRep hN h40, Option.bind_some, if_neg (fun h => h rfl)]
    generalize hw : inN (V >>> ((8 : Int32) &&& 31)) 600 = w at *
    have hav := avN_le (m := m) (ho := h0) (E := a.E) hm12
    rcases U_redeem R (by omega) hN hm (show w < 2 ^ 30 by omega) hh0 hh1' with y | ⟨y1, y2⟩ | ⟨a', s', p, p1, p2, R', p3, p4, p5⟩
    · rw [y, Option.bind_some, if_pos (show (-1 : Int32) < 0 by decide)]
      unfold f_L_turn_b579
      rw [if_neg (show ¬ (-1 : Int32) = -2 by decide)]
      exact tail_no R (by omega) hN hL hs h11 (show (-1 : Int32) < 0 by decide)
    · rw [y2, Option.bind_some, if_pos (show (-2 : Int32) < 0 by decide)]
      unfold f_L_turn_b579
      rw [if_pos rfl, if_pos ((nI_ltI (by omega) (by omega)).mpr y1)]
      exact tail_no R (by omega) hN hL hs h11 (show (-2 : Int32) < 0 by decide)
    · have hRep' := RP_rep R' (show k + 1 ≤ 512 by omega)
      have hl12 := lst_sumle (m := 12) (E := a.E)
      rw [p2, Option.bind_some, if_neg (nI_pos p1), V_available hRep' hN hm p3 (by omega), Option.bind_some, if_neg (fun h => h rfl), if_pos (show nI (avN m h0 a'.E) = nI (avN m h0 a.E) - nI w from Int32_eq_sub p4 (by omega)), show P_poolBalance N s' (0 : Int32) = some (0, nI (sumP (lst 12 a'.E)), s') from V_poolBalance hRep' hN h40, Option.bind_some, if_neg (fun h => h rfl), if_pos (show nI (sumP (lst 12 a'.E)) = nI (sumP (lst 12 a.E)) - nI p from Int32_eq_sub p5 (by omega))]
      unfold f_L_turn_b579
      rw [if_neg (fun hh => nI_pos p1 (by rw [show nI p = (-2 : Int32) from hh]; decide))]
      exact tail_ok R R' (by omega) hN hL hs h11 p1
  · have hp := inN_lt (V >>> ((12 : Int32) &&& 31)) (m := 300) (by decide)
    rw [e, if_neg (by decide), if_neg (by decide), if_neg (by decide), if_neg (by decide), if_neg (by decide), if_pos (show nI 5 = (5 : Int32) from rfl), show (300 : Int32) = nI 300 from rfl, in_val _ (by decide) (by decide), Option.bind_some, V_balance hRep hN hm, Option.bind_some, if_neg (fun h => h rfl), V_debt hRep hN ho, Option.bind_some, if_neg (fun h => h rfl)]
    generalize hw : inN (V >>> ((12 : Int32) &&& 31)) 300 = w at *
    rcases U_transfer R (by omega) hN hm ho (show w < 2 ^ 30 by omega) with ⟨x, y1, y2⟩ | ⟨a', s', p, p1, p2, R', p3, p4⟩
    · rw [y2, Option.bind_some, if_pos y1]
      exact tail_no R (by omega) hN hL hs h11 y1
    · have hRep' := RP_rep R' (show k + 1 ≤ 512 by omega)
      have hls := lst_sumle (m := m) (E := a.E)
      have hdb := (hbd.2.2.2.2.2.2.2 ot (by omega)).1
      have hb2 := bd_512 (k := k) (by omega)
      rw [p2, Option.bind_some, if_neg (nI_pos p1), V_balance hRep' hN hm, Option.bind_some, if_neg (fun h => h rfl), if_pos (show nI (sumP (lst m a'.E)) = nI (sumP (lst m a.E)) - nI w from Int32_eq_sub p3 (by omega)), V_debt hRep' hN ho, Option.bind_some, if_neg (fun h => h rfl), if_pos (show nI (a'.db ot) = nI (a.db ot) - nI p from Int32_eq_sub p4 (by omega))]
      exact tail_ok R R' (by omega) hN hL hs h11 p1
  · rw [e, if_neg (by decide), if_neg (by decide), if_neg (by decide), if_neg (by decide), if_neg (by decide), if_neg (by decide), if_pos (show nI 6 = (6 : Int32) from rfl), show P_members N s (0 : Int32) = some (0, nI (bitsN a.hm 0 (v 3)), s) from V_members hRep hN h40, Option.bind_some, if_neg (fun h => h rfl), pop_val hv3, Option.bind_some]
    rcases U_join R (by omega) hN hm with y | ⟨a', s', p1, p2, R', p3⟩
    · rw [y, Option.bind_some, if_pos (show (-1 : Int32) < 0 by decide)]
      exact tail_no R (by omega) hN hL hs h11 (show (-1 : Int32) < 0 by decide)
    · have hRep' := RP_rep R' (show k + 1 ≤ 512 by omega)
      rw [p2, Option.bind_some, if_neg (nI_pos (by omega)), if_pos (show nI (livN a.hm 0 (v 3) + 1) = nI (livN a.hm 0 (v 3)) + 1 from (nI_add _ 1).symm), V_household hRep' hN hm, Option.bind_some, if_neg (fun h => h rfl), if_pos p3]
      exact tail_ok R R' (by omega) hN hL hs h11 (by omega)
  · rw [e, if_neg (by decide), if_neg (by decide), if_neg (by decide), if_neg (by decide), if_neg (by decide), if_neg (by decide), if_neg (by decide), if_pos (show nI 7 = (7 : Int32) from rfl), V_contributed hRep hN hm hh0 (by omega), Option.bind_some, if_neg (fun h => h rfl)]
    rcases U_leave R (by omega) hN hm hh0 (by omega) with y | ⟨a', s', p, p1, p0, p2, R', p3⟩
    · rw [y, Option.bind_some, if_pos (show (-1 : Int32) < 0 by decide)]
      exact tail_no R (by omega) hN hL hs h11 (show (-1 : Int32) < 0 by decide)
    · have hRep' := RP_rep R' (show k + 1 ≤ 512 by omega)
      rw [p2, Option.bind_some, if_neg (nI_pos p1), ← p0, if_pos rfl, V_household hRep' hN hm, Option.bind_some, if_neg (fun h => h rfl), if_pos p3]
      exact tail_ok R R' (by omega) hN hL hs h11 p1
  · have hp := inN_lt (V >>> ((8 : Int32) &&& 31)) (m := 101) (by decide)
    rw [e, if_neg (by decide), if_neg (by decide), if_neg (by decide), if_neg (by decide), if_neg (by decide), if_neg (by decide), if_neg (by decide), if_neg (by decide), if_pos (show nI 8 = (8 : Int32) from rfl), show (101 : Int32) = nI 101 from rfl, in_val _ (by decide) (by decide), Option.bind_some]
    obtain ⟨a', s', p, p1, p2, R'⟩ := U_share R (by omega) hN (show inN (V >>> ((8 : Int32) &&& 31)) 101 ≤ 100 by omega)
    rw [p2, Option.bind_some, if_neg (fun h => h rfl)]
    exact tail_ok R R' (by omega) hN hL hs h11 p1
  · have hp := inN_lt (V >>> ((8 : Int32) &&& 31)) (m := 25) (by decide)
    rw [e, if_neg (by decide), if_neg (by decide), if_neg (by decide), if_neg (by decide), if_neg (by decide), if_neg (by decide), if_neg (by decide), if_neg (by decide), if_neg (by decide), if_pos (show nI 9 = (9 : Int32) from rfl), show (25 : Int32) = nI 25 from rfl, in_val _ (by decide) (by decide), Option.bind_some, Option.bind_some, show (1 : Int32) + nI (inN (V >>> ((8 : Int32) &&& 31)) 25) = nI (1 + inN (V >>> ((8 : Int32) &&& 31)) 25) from nI_add 1 _]
    generalize hw : inN (V >>> ((8 : Int32) &&& 31)) 25 = w at *
    obtain ⟨s1, t1, R1⟩ := U_tierAfter R (by omega) hN hm (show 1 + w ≤ 2000 by omega)
    have hRep1 := RP_rep R1 (show k ≤ 512 by omega)
    obtain ⟨a', s', p, p1, p2, R', p3, p4, p5, p6⟩ := U_advance R1 (by omega) hN (show 1 ≤ 1 + w by omega) (by omega)
    have hRep' := RP_rep R' (show k + 1 ≤ 512 by omega)
    have hls := lst_sumle (m := m) (E := a.E)
    have hexp : sumP (lst m a'.E) + sumQ (fun k => decide (kL k = m) && decide (kD k ≤ a.d + (1 + w))) a.E = sumP (lst m a.E) := by
      have h1 := sumQ_add (p := fun k => decide (kL k = m)) (q := fun k => decide (kL k = m) && decide (kD k ≤ a.d + (1 + w))) (q' := fun k => decide (kL k = m) && decide (a.d + (1 + w) < kD k)) (E := a.E) (fun x _ => by
        by_cases e1 : kL x.1 = m <;> by_cases e2 : kD x.1 ≤ a.d + (1 + w)
        · rw [decide_eq_true e1, decide_eq_true e2]; rfl
        · rw [decide_eq_true e1, decide_eq_false e2, decide_eq_true (show a.d + (1 + w) < kD x.1 by omega)]; rfl
        · rw [decide_eq_false e1]; rfl
        · rw [decide_eq_false e1]; rfl) (fun x _ hx => by
        rw [Bool.and_eq_true, decide_eq_true_iff, decide_eq_true_iff] at hx
        rw [decide_eq_false (show ¬ a.d + (1 + w) < kD x.1 by omega), Bool.and_false])
      have h2 : sumQ (fun k => decide (kL k = m) && decide (a.d + (1 + w) < kD k)) a.E = sumP (lst m a'.E) := by
        rw [p5, lst_sum]
        exact sumQ_fil
      rw [← lst_sum] at h1
      omega
    have hb25 : sumQ (fun k => decide (kL k = m) && decide (kD k ≤ a.d + (1 + w))) a.E ≤ sumP a.E := sumQ_le
    rw [V_today hRep hN, Option.bind_some, t1, Option.bind_some, if_neg (fun h => h rfl), show P_total N s1 (2 : Int32) = some (0, a.tt 2, s1) from V_total hRep1 hN (show 2 < 7 by decide), Option.bind_some, if_neg (fun h => h rfl), V_expiringWithin hRep1 hN hm (show 1 + w ≤ 2000 by omega), Option.bind_some, if_neg (fun h => h rfl), V_balance hRep1 hN hm, Option.bind_some, if_neg (fun h => h rfl), p2, Option.bind_some, if_neg (fun h => h rfl), V_today hRep' hN, Option.bind_some, if_pos (show nI a'.d = nI a.d + nI (1 + w) by rw [nI_add, p3]), V_tier hRep' hN hm, Option.bind_some, if_neg (fun h => h rfl), if_pos (p6 m hm), show P_total N s' (2 : Int32) = some (0, a'.tt 2, s') from V_total hRep' hN (show 2 < 7 by decide), Option.bind_some, if_neg (fun h => h rfl), if_pos p4, V_balance hRep' hN hm, Option.bind_some, if_neg (fun h => h rfl), if_pos (show nI (sumP (lst m a'.E)) = nI (sumP (lst m a.E)) - nI (sumQ (fun k => decide (kL k = m) && decide (kD k ≤ a.d + (1 + w))) a.E) from Int32_eq_sub hexp (by omega))]
    exact tail_ok R R' (by omega) hN hL hs h11 p1
  · rw [e, if_neg (by decide), if_neg (by decide), if_neg (by decide), if_neg (by decide), if_neg (by decide), if_neg (by decide), if_neg (by decide), if_neg (by decide), if_neg (by decide), if_neg (by decide)]
    obtain ⟨s', t1, R1⟩ := U_save (N := N) R (by omega)
    rw [t1, Option.bind_some, V_today (RP_rep R1 (show k ≤ 512 by omega)) hN, Option.bind_some, if_pos rfl]
    exact tail_no R1 (by omega) hN hL (Or.inr ⟨rfl, a, rfl, h11⟩) h11 (by decide)
/-- all turns -/
theorem loop_ok (hN : 600000 < N) (hL : pf 93 < 2 ^ 31) : ∀ (d kk k : Nat) (a : BA) (l : List BA) (sv : Option BA) (s : T_PL) (x6 : Int64) (x8 : Int32), kk + d = 16 → k + d ≤ 300 → RP pf v k a l sv s → HS N v sv x6 x8 → ∃ o, lawLoop N pf d kk x6 x8 s = some o ∧ ∃ k' a' l' sv', k' ≤ 300 ∧ RP pf v k' a' l' sv' o.2.2 ∧ HS N v sv' o.1 o.2.1 := by
  intro d
  induction d with
  | zero => intro kk k a l sv s x6 x8 h1 h2 R hs; exact ⟨_, rfl, k, a, l, sv, by omega, R, hs⟩
  | succ d ih =>
    intro kk k a l sv s x6 x8 h1 h2 R hs
    obtain ⟨o, e1, a', l', sv', R', hs'⟩ := turn_ok R (by omega) hN hL hs (kk := kk) (by omega)
    obtain ⟨o2, e2, e3⟩ := ih (kk + 1) (k + 1) a' l' sv' o.2.2 o.1 o.2.1 (by omega) (by omega) R' hs'
    refine ⟨o2, ?_, e3⟩
    rw [lawLoop, e1, Option.bind_some]
    exact e2
/-- the end -/
theorem fin_done (hN : 600000 < N) (R : RP pf v k a l sv s) (hk : k ≤ 300) (hs : HS N v sv x6 x8) : ∃ z, f_L_fin N x6 x8 s = some z := by
  unfold f_L_fin
  rcases hs with ⟨h1, h2⟩ | ⟨h1, x, h2, h3⟩
  · rw [if_pos h1]; exact ⟨_, rfl⟩
  · subst h2
    obtain ⟨s', t1, R1⟩ := U_restore (N := N) R (by omega)
    rw [if_neg (by rw [h1]; decide), t1, Option.bind_some, if_neg (fun h => h rfl), V_today R1 hN, Option.bind_some, if_pos rfl, h3 k s' (by omega) R1, Option.bind_some, if_pos (lg_self _)]
    exact ⟨_, rfl⟩
end TURN
