section CALLS
variable {N : Nat} {pf v : Nat → Nat} {k : Nat} {a : BA} {l : List BA} {sv : Option BA} {s : T_PL} {x6 : Int64} {x8 : Int32}
theorem U_purchase (R : RP pf v k a l sv s) (hk : k ≤ 500) (hN : 600000 < N) {m ct x : Nat} (hm : m < v 3) (hct : ct < v 1) (hx1 : 1 ≤ x) (hx : x ≤ 100000) : ∃ a' s' p, p < 2 ^ 31 ∧ P_wouldEarn N s (nI m) (nI ct) (nI x) = some (0, nI p, s) ∧ P_purchase N s (nI m) (nI ct) (nI x) = some (0, nI p, s') ∧ RP pf v (k + 1) a' ((a :: l).take 8) sv s' ∧ a'.c = a.c + 1 ∧ a'.pr (7 * a.c) = nI m ∧ a'.pr (7 * a.c + 4) = nI p := by
  have hV := R.1
  have hS := R.2.2.1
  obtain ⟨g, hB⟩ := R.2.2.2.1
  have hJ := R.2.2.2.2.2.1.1.1
  have hD := R.2.2.2.2.2.1.1.2
  have hRep := RP_rep R (show k ≤ 512 by omega)
  have hv3 := hV.1.2.2.2.2.1
  have hv4 := hV.1.2.2.2.2.2
  obtain ⟨h', k1, k2⟩ := X_keep (N := N) hV R.2.2.2.2.1 hB
  have hv1 := hV.1.2.2.1
  obtain ⟨t, t1, t2, -⟩ := hJ.2.2.1 m hm
  obtain ⟨b', g', a', c1, c2, c3, c4, c5, c6, c7⟩ := X_purchase hV hS hB hJ (by omega) hm hct hx1 hx t2 t1 hN
  have hw := (worthN_le (e := a.d) hV t1 hct hx).2.2
  refine ⟨a', stp s b' h', worthN v t ct x a.d, by omega, V_wouldEarn hRep hN hm hct hx1 hx t1 t2, ?_, RP_next R k2 c2 c3 (by omega), c4, c5, c6⟩
  unfold P_purchase
  rw [mem_in hS (outN_in (by omega) hm) N, Option.bind_some, if_pos rfl, cat_in hS (outN_in (by omega) hct) N, Option.bind_some, if_pos rfl, btw_in (show ¬ outR (nI x) 1 100000 from notout (a := 1) (b := 100000) (by omega) (by decide) hx1 hx), Option.bind_some, if_pos rfl, k1, Option.bind_some, c1, Option.bind_some]
theorem U_refund (R : RP pf v k a l sv s) (hk : k ≤ 500) (hN : 600000 < N) {i : Nat} (hi0 : i < 2 ^ 30) : (∃ x : Int32, x < 0 ∧ H_refunded N s (nI i) = some (x, s)) ∨ ∃ a' s' p, p < 2 ^ 31 ∧ H_refunded N s (nI i) = some (nI p, s') ∧ RP pf v (k + 1) a' ((a :: l).take 8) sv s' ∧ i < a'.c ∧ a'.c ≤ i + 40 ∧ a'.pr (7 * i + 6) = 1 ∧ sumN a'.db 12 = sumN a.db 12 + p := by
  have hV := R.1
  have hS := R.2.2.1
  obtain ⟨g, hB⟩ := R.2.2.2.1
  have hJ := R.2.2.2.2.2.1.1.1
  have hD := R.2.2.2.2.2.1.1.2
  have hRep := RP_rep R (show k ≤ 512 by omega)
  have hv3 := hV.1.2.2.2.2.1
  have hv4 := hV.1.2.2.2.2.2
  obtain ⟨-, -, -, -, hc, -⟩ := Rep_bd hRep
  have H4 := hB.2.2.2.2.1
  have hke : P_needKeptPurchase N s (nI i) = some (if (if nI i < nI (a.c - 40) ∨ nI a.c ≤ nI i then (0 : Int32) else 1) = 0 then 3 else 0) := by
    unfold P_needKeptPurchase F_U_isKept
    rw [show F_B_purchases N s.2.2.2.2.1 = some () from rfl, Option.bind_some, H4.1, C_isKept (by omega), Option.bind_some, Option.bind_some]
    by_cases e : nI i < nI (a.c - 40) ∨ nI a.c ≤ nI i
    · rw [if_pos e, if_pos rfl, if_pos rfl]
    · rw [if_neg e, if_neg (by decide), if_neg (by decide)]
  by_cases e : nI i < nI (a.c - 40) ∨ nI a.c ≤ nI i
  · rw [if_pos e, if_pos rfl] at hke
    refine Or.inl ⟨-1, by decide, ?_⟩
    unfold H_refunded P_refund
    rw [hke, Option.bind_some, if_neg (by decide), Option.bind_some, if_neg (show ¬ (3 : Nat) = 0 by decide), if_pos rfl]
  · rw [if_neg e, if_neg (by decide)] at hke
    rw [nI_ltI (by omega) (by omega), nI_leI (by omega) (by omega)] at e
    have hpart : F_U_part N s.2.2.2.2.1 (nI i) (6 : Int32) = some (a.pr (7 * i + 6)) := by
      unfold F_U_part
      rw [show (6 : Int32) = nI 6 from rfl, C_part (by omega) (by decide), Option.bind_some, hB.2.2.2.2.2.2.2.2.2.2.2.2 (7 * i + 6) (by omega)]
    by_cases e2 : a.pr (7 * i + 6) = 0
    · obtain ⟨b', g', a', F, c1, c2, c3, c4, c5, c6, c7, c8⟩ := X_refund hV hS hB hJ (by omega) (show i < a.c by omega) (by omega) e2 hN
      obtain ⟨h', k1, k2⟩ := X_keep (N := N) hV R.2.2.2.2.1 hB
      refine Or.inr ⟨a', stp s b' h', F, c2, ?_, RP_next R k2 c3 c4 (by omega), by omega, by omega, c6, c7⟩
      unfold H_refunded P_refund
      rw [hke, Option.bind_some, if_pos rfl, show F_B_purchases N s.2.2.2.2.1 = some () from rfl, Option.bind_some, hpart, Option.bind_some, if_pos e2, k1, Option.bind_some, c1, Option.bind_some, Option.bind_some, if_pos rfl]
    · refine Or.inl ⟨-2, by decide, ?_⟩
      unfold H_refunded P_refund
      rw [hke, Option.bind_some, if_pos rfl, show F_B_purchases N s.2.2.2.2.1 = some () from rfl, Option.bind_some, hpart, Option.bind_some, if_neg e2, Option.bind_some, if_neg (show ¬ (1 : Nat) = 0 by decide), if_neg (show ¬ (1 : Nat) = 3 by decide), if_pos rfl]
theorem need1 {w : Nat} (hw : w < 2 ^ 31) (N : Nat) (s : T_PL) : P_needAtLeastOne N s (nI w) = some (if w = 0 then 2 else 0) := by
  by_cases e : w = 0
  · rw [if_pos e, e]; exact one_out (by decide) N s
  · rw [if_neg e]
    exact one_in (show (1 : Int32) ≤ nI w from (nI_leI (a := 1) (by decide) hw).mpr (by omega)) N s
theorem U_redeem (R : RP pf v k a l sv s) (hk : k ≤ 500) (hN : 600000 < N) {m w h0 : Nat} (hm : m < v 3) (hw : w < 2 ^ 30) (hh0 : a.hm m = cI h0) (hh1 : h0 ≤ 1) : H_redeemed N s (nI m) (nI w) = some (-1, s) ∨ (avN m h0 a.E < w ∧ H_redeemed N s (nI m) (nI w) = some (-2, s)) ∨ ∃ a' s' p, p < 2 ^ 31 ∧ H_redeemed N s (nI m) (nI w) = some (nI p, s') ∧ RP pf v (k + 1) a' ((a :: l).take 8) sv s' ∧ a'.hm m = cI h0 ∧ avN m h0 a'.E + w = avN m h0 a.E ∧ sumP (lst 12 a'.E) + p = sumP (lst 12 a.E) := by
  have hV := R.1
  have hS := R.2.2.1
  obtain ⟨g, hB⟩ := R.2.2.2.1
  have hJ := R.2.2.2.2.2.1.1.1
  have hD := R.2.2.2.2.2.1.1.2
  have hRep := RP_rep R (show k ≤ 512 by omega)
  have hv3 := hV.1.2.2.2.2.1
  have hv4 := hV.1.2.2.2.2.2
  unfold H_redeemed P_redeem
  rw [mem_in hS (outN_in (by omega) hm) N, Option.bind_some, if_pos rfl, need1 (by omega), Option.bind_some]
  by_cases e : w = 0
  · rw [if_pos e, if_neg (by decide), Option.bind_some, if_neg (show ¬ (2 : Nat) = 0 by decide), if_pos rfl]
    exact Or.inl rfl
  rw [if_neg e, if_pos rfl]
  obtain ⟨q1, q2, q3⟩ := X_redeem hV hS hB hJ (show k < 512 by omega) hm (by omega) (show w < 2 ^ 31 by omega) hh0 hh1 hN
  rw [q1, Option.bind_some]
  by_cases e2 : w ≤ avN m h0 a.E
  · obtain ⟨b', g', a', c1, c2, c3, c4, c5, c6, c7⟩ := q3 e2
    obtain ⟨h', k1, k2⟩ := X_keep (N := N) hV R.2.2.2.2.1 hB
    rw [if_pos ((nI_leI (by omega) q2).mpr e2), k1, Option.bind_some, c1, Option.bind_some, Option.bind_some, if_pos rfl]
    exact Or.inr (Or.inr ⟨a', stp s b' h', _, by omega, rfl, RP_next R k2 c2 c3 (by omega), c4, c5, c6⟩)
  · rw [if_neg (fun hh => e2 ((nI_leI (by omega) q2).mp hh)), Option.bind_some, if_neg (show ¬ (1 : Nat) = 0 by decide), if_neg (show ¬ (1 : Nat) = 2 by decide), if_pos rfl]
    exact Or.inr (Or.inl ⟨by omega, rfl⟩)
theorem U_transfer (R : RP pf v k a l sv s) (hk : k ≤ 500) (hN : 600000 < N) {m m2 w : Nat} (hm : m < v 3) (hm2 : m2 < v 3) (hw : w < 2 ^ 30) : (∃ x : Int32, x < 0 ∧ H_transferred N s (nI m) (nI m2) (nI w) = some (x, s)) ∨ ∃ a' s' p, p < 2 ^ 31 ∧ H_transferred N s (nI m) (nI m2) (nI w) = some (nI p, s') ∧ RP pf v (k + 1) a' ((a :: l).take 8) sv s' ∧ sumP (lst m a'.E) + w = sumP (lst m a.E) ∧ a'.db m2 + p = a.db m2 := by
  have hV := R.1
  have hS := R.2.2.1
  obtain ⟨g, hB⟩ := R.2.2.2.1
  have hJ := R.2.2.2.2.2.1.1.1
  have hD := R.2.2.2.2.2.1.1.2
  have hRep := RP_rep R (show k ≤ 512 by omega)
  have hv3 := hV.1.2.2.2.2.1
  have hv4 := hV.1.2.2.2.2.2
  unfold H_transferred P_transfer
  rw [mem_in hS (outN_in (by omega) hm) N, Option.bind_some, if_pos rfl, mem_in hS (outN_in (by omega) hm2) N, Option.bind_some, if_pos rfl]
  by_cases e0 : m = m2
  · rw [if_pos (by rw [e0]), Option.bind_some, if_neg (show ¬ (2 : Nat) = 0 by decide), if_pos rfl]
    exact Or.inl ⟨-1, by decide, rfl⟩
  rw [if_neg (fun hh => e0 ((nI_eq (by omega) (by omega)).mp hh)), need1 (by omega), Option.bind_some]
  by_cases e : w = 0
  · rw [if_pos e, if_neg (by decide), Option.bind_some, if_neg (show ¬ (2 : Nat) = 0 by decide), if_pos rfl]
    exact Or.inl ⟨-1, by decide, rfl⟩
  rw [if_neg e, if_pos rfl, show F_B_cohorts N s.2.2.2.2.1 = some () from rfl, Option.bind_some]
  obtain ⟨q1, q2, q3⟩ := X_transfer hV hB hJ (show k < 512 by omega) hm hm2 e0 (by omega) (show w < 2 ^ 31 by omega) hN
  rw [q1, Option.bind_some]
  by_cases e2 : w ≤ sumP (lst m a.E)
  · obtain ⟨b', g', a', q, c1, c2, c3, c4, c5, c6, c7⟩ := q3 e2
    obtain ⟨h', k1, k2⟩ := X_keep (N := N) hV R.2.2.2.2.1 hB
    rw [if_pos ((nI_leI (by omega) q2).mpr e2), k1, Option.bind_some, c1, Option.bind_some, Option.bind_some, if_pos rfl]
    exact Or.inr ⟨a', stp s b' h', q, c2, rfl, RP_next R k2 c3 c4 (by omega), c5, c6⟩
  · rw [if_neg (fun hh => e2 ((nI_leI (by omega) q2).mp hh)), Option.bind_some, if_neg (show ¬ (1 : Nat) = 0 by decide), if_neg (show ¬ (1 : Nat) = 2 by decide), if_pos rfl]
    exact Or.inl ⟨-2, by decide, rfl⟩
theorem U_join (R : RP pf v k a l sv s) (hk : k ≤ 500) (hN : 600000 < N) {m : Nat} (hm : m < v 3) : H_joined N s (nI m) = some (-1, s) ∨ ∃ a' s', livN a.hm 0 (v 3) ≤ 4 ∧ H_joined N s (nI m) = some (nI (livN a.hm 0 (v 3) + 1), s') ∧ RP pf v (k + 1) a' ((a :: l).take 8) sv s' ∧ a'.hm m = 0 := by
  have hV := R.1
  have hS := R.2.2.1
  obtain ⟨g, hB⟩ := R.2.2.2.1
  have hJ := R.2.2.2.2.2.1.1.1
  have hD := R.2.2.2.2.2.1.1.2
  have hRep := RP_rep R (show k ≤ 512 by omega)
  have hv3 := hV.1.2.2.2.2.1
  have hv4 := hV.1.2.2.2.2.2
  have h40 := v4_pos R
  obtain ⟨q1, q2, q3, q4⟩ := X_join hV hS hB hJ (show k < 512 by omega) hm h40 hN
  unfold H_joined P_join
  rw [mem_in hS (outN_in (by omega) hm) N, Option.bind_some, if_pos rfl, show P_needHousehold N s (0 : Int32) = some 0 from hou_in hS (outN_in (m := 0) (by omega) h40) N, Option.bind_some, if_pos rfl, q1, Option.bind_some]
  by_cases e : a.hm m = -1
  · rw [if_pos e, show F_B_peopleIn N s.2.1 s.2.2.2.2.1 (0 : Int32) = _ from q2, Option.bind_some]
    by_cases e2 : livN a.hm (nI 0) (v 3) < 4
    · obtain ⟨b', g', a', c1, c2, c3, c4, c5, c6⟩ := q4 e e2
      obtain ⟨h', k1, k2⟩ := X_keep (N := N) hV R.2.2.2.2.1 hB
      rw [if_pos (show nI (livN a.hm (nI 0) (v 3)) < (4 : Int32) from (nI_ltI (b := 4) (by omega) (by decide)).mpr e2), k1, Option.bind_some, show F_B_enter N s.2.2.2.2.1 (nI m) (0 : Int32) = _ from c1, Option.bind_some, show F_B_peopleIn N s.2.1 b' (0 : Int32) = _ from c2, Option.bind_some, Option.bind_some, if_pos rfl]
      exact Or.inr ⟨a', stp s b' h', q3, rfl, RP_next R k2 c3 c4 (by omega), c5⟩
    · rw [if_neg (show ¬ nI (livN a.hm (nI 0) (v 3)) < (4 : Int32) from fun hh => e2 ((nI_ltI (b := 4) (by omega) (by decide)).mp hh)), Option.bind_some, if_neg (show ¬ (1 : Nat) = 0 by decide), if_pos rfl]
      exact Or.inl rfl
  · rw [if_neg e, Option.bind_some, if_neg (show ¬ (1 : Nat) = 0 by decide), if_pos rfl]
    exact Or.inl rfl
theorem U_leave (R : RP pf v k a l sv s) (hk : k ≤ 500) (hN : 600000 < N) {m h0 : Nat} (hm : m < v 3) (hh0 : a.hm m = cI h0) (hh1 : h0 ≤ 4) : H_left N s (nI m) = some (-1, s) ∨ ∃ a' s' p, p < 2 ^ 31 ∧ p = (if h0 = 0 then 0 else sumQ (fun k => decide (kL k = 11 + h0) && decide (kC k = m + 1)) a.E) ∧ H_left N s (nI m) = some (nI p, s') ∧ RP pf v (k + 1) a' ((a :: l).take 8) sv s' ∧ a'.hm m = -1 := by
  have hV := R.1
  have hS := R.2.2.1
  obtain ⟨g, hB⟩ := R.2.2.2.1
  have hJ := R.2.2.2.2.2.1.1.1
  have hD := R.2.2.2.2.2.1.1.2
  have hRep := RP_rep R (show k ≤ 512 by omega)
  have hv3 := hV.1.2.2.2.2.1
  have hv4 := hV.1.2.2.2.2.2
  have hhome : F_B_homeOf N s.2.2.2.2.1 (nI m) = some (a.hm m) := by
    unfold F_B_homeOf f_X0_homeOf
    rw [X6_at_in _ h12 (by omega), Option.bind_some, Option.bind_some, (hB.2.2.2.2.2.2.2.2.2.1 m (by omega)).2.2.1]
  unfold H_left P_leave
  rw [mem_in hS (outN_in (by omega) hm) N, Option.bind_some, if_pos rfl, hhome, Option.bind_some]
  by_cases e : a.hm m = -1
  · rw [if_pos e, Option.bind_some, if_neg (show ¬ (1 : Nat) = 0 by decide), if_pos rfl]
    exact Or.inl rfl
  · obtain ⟨b', g', a', h1, c0, c1, c2, c3, c4, c5, c6, c7⟩ := X_leave hV hB hJ (show k < 512 by omega) hm e hN
    have h01 : h1 = h0 := by
      rw [hh0] at c0
      exact ((cI_eq (by omega) (by omega)).mp c0).symm
    subst h01
    obtain ⟨h', k1, k2⟩ := X_keep (N := N) hV R.2.2.2.2.1 hB
    rw [if_neg e, k1, Option.bind_some, c3, Option.bind_some, Option.bind_some, if_pos rfl]
    refine Or.inr ⟨a', stp s b' h', _, ?_, (if_neg c1).symm, rfl, RP_next R k2 c4 c5 (by omega), c6⟩
    have h9 := (Rep_E hRep).2.2.1
    exact Nat.lt_of_le_of_lt sumQ_le h9
theorem U_share (R : RP pf v k a l sv s) (hk : k ≤ 500) (hN : 600000 < N) {p : Nat} (hp : p ≤ 100) : ∃ a' s' q, q < 2 ^ 31 ∧ P_setShare N s 0 (nI p) = some (0, nI q, s') ∧ RP pf v (k + 1) a' ((a :: l).take 8) sv s' := by
  have hV := R.1
  have hS := R.2.2.1
  obtain ⟨g, hB⟩ := R.2.2.2.1
  have hJ := R.2.2.2.2.2.1.1.1
  have hD := R.2.2.2.2.2.1.1.2
  have hRep := RP_rep R (show k ≤ 512 by omega)
  have hv3 := hV.1.2.2.2.2.1
  have hv4 := hV.1.2.2.2.2.2
  obtain ⟨h', k1, k2⟩ := X_keep (N := N) hV R.2.2.2.2.1 hB
  have h40 := v4_pos R
  obtain ⟨b', g', a', q, c1, c2, c3, c4, c5⟩ := X_share hV hB hJ (show k < 512 by omega) h40 hp hN
  refine ⟨a', stp s b' h', q, by omega, ?_, RP_next R k2 c3 c4 (by omega)⟩
  unfold P_setShare
  rw [show P_needHousehold N s (0 : Int32) = some 0 from hou_in hS (outN_in (m := 0) (by omega) h40) N, Option.bind_some, if_pos rfl, btw_in (show ¬ outR (nI p) 0 100 from notout (a := 0) (b := 100) (by omega) (by decide) (Nat.zero_le _) hp), Option.bind_some, if_pos rfl, k1, Option.bind_some, show F_B_replaceShare N s.2.2.2.2.1 (0 : Int32) (nI p) = _ from c1, Option.bind_some]
theorem U_tierAfter (R : RP pf v k a l sv s) (hk : k ≤ 500) (hN : 600000 < N) {m D : Nat} (hm : m < v 3) (hD : D ≤ 2000) : ∃ s', P_tierAfter N s (nI m) (nI D) = some (0, (ckT v a.pr a.dy a.c m a.d (nI (v 7)) (a.ti m, a.be m) D).1, s') ∧ RP pf v k a l sv s' := by
  have hV := R.1
  have hS := R.2.2.1
  obtain ⟨g, hB⟩ := R.2.2.2.1
  have hJ := R.2.2.2.2.2.1.1.1
  have hDd := R.2.2.2.2.2.1.1.2
  have hRep := RP_rep R (show k ≤ 512 by omega)
  have hv3 := hV.1.2.2.2.2.1
  have hv4 := hV.1.2.2.2.2.2
  obtain ⟨bt, c1, c2⟩ := X_tierAfter hV hS hB hm hD hN
  refine ⟨stp s bt s.2.2.2.2.2.2.1, ?_, ⟨R.1, R.2.1, R.2.2.1, ⟨g, c2⟩, R.2.2.2.2.1, R.2.2.2.2.2.1, R.2.2.2.2.2.2⟩⟩
  unfold P_tierAfter
  rw [mem_in hS (outN_in (by omega) hm) N, Option.bind_some, if_pos rfl, btw_in (show ¬ outR (nI D) 0 2000 from notout (a := 0) (b := 2000) (by omega) (by decide) (Nat.zero_le _) hD), Option.bind_some, if_pos rfl, c1, Option.bind_some]
theorem U_advance (R : RP pf v k a l sv s) (hk : k ≤ 300) (hN : 600000 < N) {D : Nat} (hD1 : 1 ≤ D) (hD2 : D ≤ 25) : ∃ a' s' p, p < 2 ^ 31 ∧ P_advance N s (nI D) = some (0, nI p, s') ∧ RP pf v (k + 1) a' ((a :: l).take 8) sv s' ∧ a'.d = a.d + D ∧ a'.tt 2 = a.tt 2 + nI p ∧ a'.E = a.E.filter (fun x => decide (a.d + D < kD x.1)) ∧ ∀ m, m < v 3 → a'.ti m = (ckT v a.pr a.dy a.c m a.d (nI (v 7)) (a.ti m, a.be m) D).1 := by
  have hV := R.1
  have hS := R.2.2.1
  obtain ⟨g, hB⟩ := R.2.2.2.1
  have hJ := R.2.2.2.2.2.1.1.1
  have hDd := R.2.2.2.2.2.1.1.2
  have hRep := RP_rep R (show k ≤ 512 by omega)
  have hv3 := hV.1.2.2.2.2.1
  have hv4 := hV.1.2.2.2.2.2
  obtain ⟨h', k1, k2⟩ := X_keep (N := N) hV R.2.2.2.2.1 hB
  obtain ⟨b', g', a', p, c1, c2, c3, c4, c5, c6, c7, c8⟩ := X_advance hV hS hB hJ (show k < 512 by omega) hD1 (by omega) (by omega) hN
  refine ⟨a', stp s b' h', p, c2, ?_, RP_next R k2 c3 c4 (by omega), c5, c6, c7, c8⟩
  have hday : F_B_day N s.2.2.2.2.1 = some (nI a.d) := by
    unfold F_B_day f_X0_day
    rw [Option.bind_some, hB.2.1.1]
  unfold P_advance
  rw [btw_in (show ¬ outR (nI D) 1 400 from notout (a := 1) (b := 400) (by omega) (by decide) hD1 (by omega)), Option.bind_some, if_pos rfl, hday, Option.bind_some, nI_add, btw_in (show ¬ outR (nI (a.d + D)) 0 9999 from notout (a := 0) (b := 9999) (by omega) (by decide) (Nat.zero_le _) (by omega)), Option.bind_some, if_pos rfl, k1, Option.bind_some, c1, Option.bind_some]
theorem U_save (R : RP pf v k a l sv s) (hk : k ≤ 500) : ∃ s', P_save N s = some (nI a.d, s') ∧ RP pf v k a l (some a) s' := by
  have hV := R.1
  have hS := R.2.2.1
  obtain ⟨g, hB⟩ := R.2.2.2.1
  have hJ := R.2.2.2.2.2.1.1.1
  have hD := R.2.2.2.2.2.1.1.2
  have hRep := RP_rep R (show k ≤ 512 by omega)
  have hv3 := hV.1.2.2.2.2.1
  have hv4 := hV.1.2.2.2.2.2
  obtain ⟨x, c1, c2, -⟩ := Q_copy (s0 := s.2.2.2.2.2.1) hV hB N
  have hday : F_B_day N s.2.2.2.2.1 = some (nI a.d) := by
    unfold F_B_day f_X0_day
    rw [Option.bind_some, hB.2.1.1]
  refine ⟨(s.1, s.2.1, s.2.2.1, s.2.2.2.1, s.2.2.2.2.1, x, s.2.2.2.2.2.2.1, (1 : Int32)), ?_, ⟨R.1, R.2.1, R.2.2.1, R.2.2.2.1, R.2.2.2.2.1, R.2.2.2.2.2.1, fun y hy => ?_⟩⟩
  · unfold P_save
    rw [c1, Option.bind_some, hday, Option.bind_some]
  · cases hy
    exact ⟨rfl, ⟨g, c2⟩, R.2.2.2.2.2.1.1⟩
theorem U_restore {x : BA} (R : RP pf v k a l (some x) s) (hk : k ≤ 500) : ∃ s', P_restore N s = some (0, nI x.d, s') ∧ Rep v k x s' := by
  have hV := R.1
  have hS := R.2.2.1
  obtain ⟨g, hB⟩ := R.2.2.2.1
  have hJ := R.2.2.2.2.2.1.1.1
  have hD := R.2.2.2.2.2.1.1.2
  have hRep := RP_rep R (show k ≤ 512 by omega)
  have hv3 := hV.1.2.2.2.2.1
  have hv4 := hV.1.2.2.2.2.2
  obtain ⟨e1, ⟨g2, e2⟩, e3⟩ := R.2.2.2.2.2.2 x rfl
  obtain ⟨y, c1, c2, c3⟩ := Q_copy (s0 := s.2.2.2.2.1) hV e2 N
  have hday : F_B_day N y = some (nI x.d) := by
    unfold F_B_day f_X0_day
    rw [Option.bind_some, c2.2.1.1]
  refine ⟨stp s y (s.2.2.2.2.2.2.1.1, 0, s.2.2.2.2.2.2.1.2.2), ?_, hV, hS, by omega, g2, c2⟩
  · unfold P_restore F_forget
    rw [if_neg (by rw [e1]; decide), c1, Option.bind_some, Option.bind_some, hday, Option.bind_some]
end CALLS
