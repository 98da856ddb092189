theorem BQ_ex {v : Nat → Nat} {k : Nat} {b : T_BK} {g : Nat → Int32} (H : BRL v k b g) : ∃ a, BQ v k a b g ∧ a.ti = b.2.2.2.2.2.2.2.2.2.2.2.2.1 ∧ a.be = b.2.2.2.2.2.2.2.2.2.2.2.2.2.1 ∧ a.hm = b.2.2.2.2.2.2.2.2.2.2.2.2.2.2.2.1 ∧ a.qu = b.2.2.2.2.2.2.2.2.2.2.2.2.2.2.2.2.1 ∧ a.sh = b.2.2.2.2.2.2.2.2.2.2.2.2.2.2.2.2.2.1 ∧ a.tt = b.2.2.2.2.2.2.2.2.2.2.2.2.2.2.2.2.2.2.2.1 ∧ a.pr = b.2.2.2.2.2.2.2.2.1 := by
  obtain ⟨⟨d, E, Lg, c, dy, db, rd, a1, a2, a3, a4, a5, a6, a7, a8⟩, hL⟩ := H
  exact ⟨⟨d, E, Lg, c, dy, db, rd, b.2.2.2.2.2.2.2.2.2.2.2.2.1, b.2.2.2.2.2.2.2.2.2.2.2.2.2.1, b.2.2.2.2.2.2.2.2.2.2.2.2.2.2.2.1, b.2.2.2.2.2.2.2.2.2.2.2.2.2.2.2.2.1, b.2.2.2.2.2.2.2.2.2.2.2.2.2.2.2.2.2.1, b.2.2.2.2.2.2.2.2.2.2.2.2.2.2.2.2.2.2.2.1, b.2.2.2.2.2.2.2.2.1⟩, ⟨a1, a2, a3, a4, a5, a6, a7, a8, hL, ⟨fun _ _ => ⟨rfl, rfl, rfl, rfl⟩, fun _ _ => rfl, fun _ _ => rfl, fun _ _ => rfl⟩⟩, rfl, rfl, rfl, rfl, rfl, rfl, rfl⟩
theorem sumN_congr {f h : Nat → Nat} : ∀ {n : Nat}, (∀ i, i < n → f i = h i) → sumN f n = sumN h n
  | 0, _ => rfl
  | n + 1, H => by rw [sumN, sumN, sumN_congr (fun i hi => H i (by omega)), H n (by omega)]
theorem le_sumN {f : Nat → Nat} : ∀ {n i : Nat}, i < n → f i ≤ sumN f n
  | n + 1, i, h => by
    rw [sumN]
    by_cases e : i = n
    · rw [e]; omega
    · have := le_sumN (f := f) (n := n) (i := i) (by omega)
      omega
/-- the same ten parts -/
theorem rd_same {v : Nat → Nat} {k k' : Nat} {E E' : List En} {db db' rd rd' : Nat → Nat} {de de' re re' tt tt' g g' : Nat → Int32} (hk : k ≤ 512) (hk' : k' ≤ 512) (H : B7 v k E db rd de re tt g) (H' : B7 v k' E' db' rd' de' re' tt' g') (h : ∀ i, i < 10 → re' i = re i) : ∀ i, i < 10 → rd' i = rd i := fun i hi => by
  obtain ⟨ex, e1, e2⟩ := H.2.2.2
  obtain ⟨ex', e1', e2'⟩ := H'.2.2.2
  have b1 := bd_512 hk
  have b2 := bd_512 hk'
  have l1 := le_sumN (f := rd) hi
  have l2 := le_sumN (f := rd') hi
  refine (nI_eq (by omega) (by omega)).mp ?_
  rw [← (H'.2.1 i hi).1, ← (H.2.1 i hi).1, h i hi]
theorem TI_ck {v : Nat → Nat} {d d' t : Nat} {q gr ti be : Int32} (hV : SV v) (hd : d' ≤ d) (hd2 : d < 2 ^ 30) (ht : t < v 0) (h1 : ti = nI t) (h2 : be = -1 ∨ ∃ n, be = nI n ∧ n ≤ d') : TI v d q (ckI (nI (tierT v q (v 0 - 1))) (nI d) gr ti be).1 (ckI (nI (tierT v q (v 0 - 1))) (nI d) gr ti be).2 := by
  have hv0 := hV.1.2.1
  have h0 := hV.1.1
  have htl := tierT_le (v := v) (x := q) (k := v 0 - 1)
  have hdn : TI v d q (nI (tierT v q (v 0 - 1))) (-1) := ⟨tierT v q (v 0 - 1), by omega, rfl, Nat.le_refl _, Or.inl ⟨rfl, rfl⟩⟩
  subst h1
  unfold ckI
  by_cases e1 : nI (tierT v q (v 0 - 1)) < nI t
  · rw [if_pos e1]
    have e1' := (nI_ltI (by omega) (by omega)).mp e1
    by_cases e2 : nI d - (if be = -1 then nI d else be) < gr
    · rw [if_pos e2]
      refine ⟨t, ht, rfl, by omega, Or.inr ?_⟩
      rcases h2 with h2 | ⟨n, h2, h3⟩
      · refine ⟨d, ?_, Nat.le_refl _, e1'⟩
        show (if be = -1 then nI d else be) = nI d
        rw [if_pos h2]
      · refine ⟨n, ?_, by omega, e1'⟩
        show (if be = -1 then nI d else be) = nI n
        rw [if_neg (by rw [h2]; exact fun hh => nI_pos (n := n) (by omega) (by rw [hh]; decide)), h2]
    · rw [if_neg e2]; exact hdn
  · rw [if_neg e1]; exact hdn
theorem TI_old {v : Nat → Nat} {d : Nat} {q ti be : Int32} (h : TI v d q ti be) : ∃ t, t < v 0 ∧ ti = nI t ∧ (be = -1 ∨ ∃ n, be = nI n ∧ n ≤ d) := by
  obtain ⟨t, h1, h2, -, h3⟩ := h
  exact ⟨t, h1, h2, h3.imp (fun x => x.1) (fun ⟨n, a, b, _⟩ => ⟨n, a, b⟩)⟩
theorem TI_later {v : Nat → Nat} {d d' : Nat} {q ti be : Int32} (h : TI v d q ti be) (hd : d ≤ d') : TI v d' q ti be := by
  obtain ⟨t, h1, h2, h3, h4⟩ := h
  exact ⟨t, h1, h2, h3, h4.imp id (fun ⟨n, a, b, c⟩ => ⟨n, a, by omega, c⟩)⟩
theorem remN (g : Nat → Int32) {N : Nat} (hN : 600000 < N) : ∃ ch' pa', f_X11_remembers N 72470 579760 0 g (fun _ => 0) = some (ch', pa') := by
  obtain ⟨c', pa', _, h, _⟩ := M_remembers (c := 0) (g := g) (pa := fun _ => 0) (by decide) hN
  exact ⟨_, _, h⟩
theorem SMv (v : Nat → Nat) : SM v (fun i => nI (v i)) := fun _ _ => rfl
theorem X_purchase {v : Nat → Nat} {k : Nat} {a : BA} {s : T_SE} {b : T_BK} {g : Nat → Int32} (hV : SV v) (hS : SC v s) (H : BQ v k a b g) (J : JS v a) (hk : k < 512) {m ct x t0 : Nat} (hm3 : m < v 3) (hct : ct < v 1) (hx1 : 1 ≤ x) (hx : x ≤ 100000) (ht0 : a.ti m = nI t0) (ht1 : t0 < v 0) {N : Nat} (hNN : 600000 < N) : ∃ b' g' a', F_B_recordPurchase N s b (nI m) (nI ct) (nI x) = some (nI (worthN v t0 ct x a.d), b') ∧ BQ v (k + 1) a' b' g' ∧ JS v a' ∧ a'.c = a.c + 1 ∧ a'.pr (7 * a.c) = nI m ∧ a'.pr (7 * a.c + 4) = nI (worthN v t0 ct x a.d) ∧ a'.d = a.d := by
  have hN : 2000 < N := by omega
  obtain ⟨ch', pa', hrem⟩ := remN g hNN
  obtain ⟨b', g', r1, r2, q, c1, c2, c3⟩ := S_purchase (rk := 0) (bl := 0) (N := N) hV (SMv v) hS (BQ_L H).1 hk hm3 hct hx1 hx hN hrem
  clear c2
  obtain ⟨day, ws, z, gl, gd, gc, gp, cnt, pr, nx, sz, dp, ti, be, de, hm, qu, sh, re, tt, ls, ba, st, si⟩ := b
  have HB : BQ v k a (day, ws, z, gl, gd, gc, gp, cnt, pr, nx, sz, dp, ti, be, de, hm, qu, sh, re, tt, ls, ba, st, si) g := H
  obtain ⟨d, E, Lg, c, dy, db, rd, ati, abe, ahm, aqu, ash, att, apr⟩ := a
  obtain ⟨⟨a1, a2⟩, ⟨a3, a4, a5⟩, ⟨H1, H2, H3⟩, ⟨HL, HLm⟩, H4, H5, H6, H7, hL, ⟨T1, T2, T3, T4⟩⟩ := HB
  dsimp only [BA.d, BA.E, BA.Lg, BA.c, BA.dy, BA.db, BA.rd, BA.ti, BA.be, BA.hm, BA.qu, BA.sh, BA.tt, BA.pr] at a1 a2 a3 a4 a5 H1 H2 H3 HL HLm H4 H5 H6 H7 hL T1 T2 T3 T4
  have hv0 := hV.1.2.1
  have hv3 := hV.1.2.2.2.2.1
  have hv4 := hV.1.2.2.2.2.2
  have hv1 := hV.1.2.2.1
  have hv5 := hV.2.1.2.1
  have hv51 := hV.2.1.1
  have hm12 : m < 12 := by omega
  obtain ⟨t1, t2, t3, ⟨t, t4, t5⟩, ⟨ho, t6, t7⟩⟩ := H6.1 m hm12
  obtain ⟨u1, u2, u3, u4⟩ := H7.1 m hm12
  obtain ⟨ex, x1, x2⟩ := H7.2.2.2
  have hbd := bd_512 (k := k) (by omega)
  have hbs := bd_succ k
  obtain ⟨shr, hsh, hsh2⟩ : ∃ shr, (¬ ho = 0 → sh (ho - 1) = nI shr ∧ shr ≤ 100) ∧ (¬ ho = 0 → g (66 + (ho - 1)) = nI shr) := by
    by_cases h : ho = 0
    · exact ⟨0, fun hh => absurd h hh, fun hh => absurd h hh⟩
    · obtain ⟨y1, p, y2, y3⟩ := H6.2 (ho - 1) (by omega)
      exact ⟨p, fun _ => ⟨by rw [y1, y3], y2⟩, fun _ => y3⟩
  obtain ⟨p, hp⟩ : ∃ p, p = worthN v t ct x d := ⟨_, rfl⟩
  obtain ⟨pooled, hpo⟩ : ∃ pooled, pooled = if ho = 0 then 0 else p * shr / 100 := ⟨_, rfl⟩
  obtain ⟨q1, q2, q3⟩ := worthN_le (e := d) hV t4 hct hx
  rw [← hp] at q3
  have hpl : pooled ≤ p := by
    rw [hpo]
    by_cases h : ho = 0
    · rw [if_pos h]; omega
    · rw [if_neg h]
      have h3 : p * shr ≤ p * 100 := Nat.mul_le_mul_left p (hsh h).2
      omega
  obtain ⟨b1, b2, b3, b4, b5, b6⟩ := H4
  subst b1
  obtain ⟨o, lo, C1, C2, C3⟩ := C_purchase (ti := ti) (hm := hm) (de := de) (qu := qu) (sh := sh) (tt := tt) (be := be) (pr := pr) hV hS H1 HL hm3 hct hx a5 (show c < 512 by omega) (by rw [t1, t5]) t4 (by rw [t3, t7]) t6 hsh u1 (by omega) (by omega) (by omega) hN hp hpo
  have htt : t = t0 := by
    have e1 := (T1 m hm12).1
    rw [t1, t5] at e1
    exact (nI_eq (by omega) (by omega)).mp (e1.trans ht0)
  subst htt
  have hb : F_B_recordPurchase N s (day, ws, z, gl, gd, gc, gp, nI c, pr, nx, sz, dp, ti, be, de, hm, qu, sh, re, tt, ls, ba, st, si) (nI m) (nI ct) (nI x) = some (nI p, (day, ws, o.1, o.2.1, o.2.2.1, o.2.2.2.1, o.2.2.2.2, nI (c + 1), upd7 pr (7 * c) (nI m) (nI ct) (nI x) (nI (baseN v ct x)) (nI p) (nI d) 0, lo.1, lo.2.1, lo.2.2, upd ti m (ckI (nI (tierT v (qu m + nI (baseN v ct x)) (v 0 - 1))) (nI d) s.2.2.1 (ti m) (be m)).1, upd be m (ckI (nI (tierT v (qu m + nI (baseN v ct x)) (v 0 - 1))) (nI d) s.2.2.1 (ti m) (be m)).2, upd de m (nI (db m - min (p - pooled) (db m))), hm, upd qu m (qu m + nI (baseN v ct x)), sh, re, upd (upd tt 0 (tt 0 + nI p)) 4 (tt 4 + nI (min (p - pooled) (db m))), ls, ba, (ckI (nI (tierT v (qu m + nI (baseN v ct x)) (v 0 - 1))) (nI d) s.2.2.1 (ti m) (be m)).1, (ckI (nI (tierT v (qu m + nI (baseN v ct x)) (v 0 - 1))) (nI d) s.2.2.1 (ti m) (be m)).2)) := by
    unfold F_B_recordPurchase
    dsimp only
    rw [a3, C1, Option.bind_some]
  rw [hb] at c1
  obtain ⟨rfl, rfl⟩ := Prod.mk.inj (Option.some.inj c1)
  obtain ⟨a', A, y1, y2, y3, y4, y5, y6, y7⟩ := BQ_ex (b := (day, ws, o.1, o.2.1, o.2.2.1, o.2.2.2.1, o.2.2.2.2, nI (c + 1), upd7 pr (7 * c) (nI m) (nI ct) (nI x) (nI (baseN v ct x)) (nI p) (nI d) 0, lo.1, lo.2.1, lo.2.2, upd ti m (ckI (nI (tierT v (qu m + nI (baseN v ct x)) (v 0 - 1))) (nI d) s.2.2.1 (ti m) (be m)).1, upd be m (ckI (nI (tierT v (qu m + nI (baseN v ct x)) (v 0 - 1))) (nI d) s.2.2.1 (ti m) (be m)).2, upd de m (nI (db m - min (p - pooled) (db m))), hm, upd qu m (qu m + nI (baseN v ct x)), sh, re, upd (upd tt 0 (tt 0 + nI p)) 4 (tt 4 + nI (min (p - pooled) (db m))), ls, ba, (ckI (nI (tierT v (qu m + nI (baseN v ct x)) (v 0 - 1))) (nI d) s.2.2.1 (ti m) (be m)).1, (ckI (nI (tierT v (qu m + nI (baseN v ct x)) (v 0 - 1))) (nI d) s.2.2.1 (ti m) (be m)).2)) ⟨c3, hL⟩
  have A0 := A
  obtain ⟨⟨_, _⟩, ⟨p1, _, p3⟩, ⟨P1, P2, P3⟩, _, Q4, Q5, Q6, Q7, _, _⟩ := A0
  dsimp only at p1 P1 Q4 Q7 y1 y2 y3 y4 y5 y6 y7
  have hd' : a'.d = d := (nI_eq (by omega) (by omega)).mp (p1.symm.trans a3)
  have hE' := CoE_uniq P1 C2
  have hc' : a'.c = c + 1 := (nI_eq (by have := Q4.2.1; omega) (by omega)).mp Q4.1.symm
  have hrd := rd_same (by omega) (by omega) H7 Q7 (fun _ _ => rfl)
  have hsp := addE_sum (k := mkK m (d + v 5) 0) (p := p - pooled - min (p - pooled) (db m)) (E := addE (mkK (11 + ho) (d + v 5) (m + 1)) pooled E)
  have hsp2 := addE_sum (k := mkK (11 + ho) (d + v 5) (m + 1)) (p := pooled) (E := E)
  have hold : ∀ m', m' < v 3 → TI v d (qu m') (ti m') (be m') := fun m' h => by
    have := J.2.2.1 m' h
    dsimp only [BA.d, BA.E, BA.Lg, BA.c, BA.dy, BA.db, BA.rd, BA.ti, BA.be, BA.hm, BA.qu, BA.sh, BA.tt, BA.pr] at this
    rw [← (T1 m' (by omega)).1, ← (T1 m' (by omega)).2.1, ← (T1 m' (by omega)).2.2.2] at this
    exact this
  rw [← hp]
  refine ⟨_, g', a', hb, A, ⟨?_, ?_, fun m' hm' => ?_, fun y hy hky => ?_⟩, hc', ?_, ?_, hd'⟩
  · rw [y6, upd_ne _ _ (by decide), upd_ne _ _ (by decide), T3 1 (by decide)]
    refine J.1.trans ?_
    rw [sumN_congr hrd]
  · have e2 := J.2.1
    dsimp only [BA.d, BA.E, BA.Lg, BA.c, BA.dy, BA.db, BA.rd, BA.ti, BA.be, BA.hm, BA.qu, BA.sh, BA.tt, BA.pr] at e2
    rw [← T3 0 (by decide), ← T3 1 (by decide), ← T3 2 (by decide), ← T3 3 (by decide), ← T3 4 (by decide)] at e2
    rw [y6, upd_ne (j := 0) _ _ (by decide), upd_at, upd_ne (j := 1) _ _ (by decide), upd_ne (j := 1) _ _ (by decide), upd_ne (j := 2) _ _ (by decide), upd_ne (j := 2) _ _ (by decide), upd_ne (j := 3) _ _ (by decide), upd_ne (j := 3) _ _ (by decide), upd_at, hE', hsp, hsp2, e2]
    have e3 : p = min (p - pooled) (db m) + (pooled + (p - pooled - min (p - pooled) (db m))) := by omega
    rw [show sumP E + pooled + (p - pooled - min (p - pooled) (db m)) = sumP E + (pooled + (p - pooled - min (p - pooled) (db m))) by omega]
    generalize min (p - pooled) (db m) = u at *
    generalize pooled + (p - pooled - u) = w at *
    rw [e3, ← nI_add, ← nI_add]
    ac_rfl
  · rw [hd', y1, y2, y4]
    by_cases e : m' = m
    · subst e
      obtain ⟨t', z1, z2, z3⟩ := TI_old (hold m' hm')
      rw [upd_at, upd_at, upd_at]
      exact TI_ck hV (Nat.le_refl d) (by omega) z1 z2 z3
    · rw [upd_ne _ _ e, upd_ne _ _ e, upd_ne _ _ e]
      exact hold m' hm'
  · rw [y3]
    have hjo : ∀ y ∈ E, 12 ≤ kL y.1 → hm (kC y.1 - 1) = cI (kL y.1 - 11) := fun y h1 h2 => by
      have h3 := (H3 y h1).2.2 h2
      rw [(T1 _ (by omega)).2.2.1]
      exact J.2.2.2 y h1 h2
    rw [hE'] at hy
    rcases addE_mem hy with ⟨h1, h2⟩ | hy
    · rw [h1, kL_mk (by omega) (by omega)] at hky
      omega
    · by_cases h0 : ho = 0
      · rw [hpo, if_pos h0] at hy
        exact hjo y hy hky
      · rcases addE_mem hy with ⟨h1, h2⟩ | hy
        · rw [h1, kL_mk (by omega) (by omega), kC_mk (by omega), Nat.add_sub_cancel, t3, t7, Nat.add_sub_cancel_left]
        · exact hjo y hy hky
  · rw [y7]
    exact upd7_0 _ _ _ _ _ _ _ _ _
  · rw [y7]
    exact upd7_4 _ _ _ _ _ _ _ _ _
