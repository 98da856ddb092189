theorem X_refund {v : Nat → Nat} {k : Nat} {a : BA} {s : T_SE} {b : T_BK} {g : Nat → Int32} (hV : SV v) (hS : SC v s) (H : BQ v k a b g) (J : JS v a) (hk : k < 512) {i : Nat} (hi : i < a.c) (hi2 : a.c ≤ i + 40) (hn : a.pr (7 * i + 6) = 0) {N : Nat} (hNN : 600000 < N) : ∃ b' g' a' F, F_B_takeBack N s b (nI i) = some (nI F, b') ∧ F < 2 ^ 31 ∧ BQ v (k + 1) a' b' g' ∧ JS v a' ∧ a'.c = a.c ∧ a'.pr (7 * i + 6) = 1 ∧ sumN a'.db 12 = sumN a.db 12 + F ∧ a'.d = a.d := by
  have hN : 2000 < N := by omega
  obtain ⟨ch', pa', hrem⟩ := remN g hNN
  obtain ⟨b', g', r1, r2, q, c1, -, c3⟩ := S_refund (rk := 0) (bl := 0) (N := N) (c0 := a.c) hV (SMv v) hS (BQ_L H).1 hk H.2.2.2.2.1.1 H.2.2.2.2.1.2.1 hi hi2 (by rw [H.2.2.2.2.2.2.2.2.2.2.2.2 (7 * i + 6) (by omega)]; exact hn) hN hrem
  obtain ⟨day, ws, z, gl, gd, gc, gp, cnt, pr, nx, sz, dp, ti, be, de, hm, qu, sh, re, tt, ls, ba, st, si⟩ := b
  have HB : BQ v k a (day, ws, z, gl, gd, gc, gp, cnt, pr, nx, sz, dp, ti, be, de, hm, qu, sh, re, tt, ls, ba, st, si) g := H
  obtain ⟨d, E, Lg, c, dy, db, rd, ati, abe, ahm, aqu, ash, att, apr⟩ := a
  obtain ⟨⟨a1, a2⟩, ⟨a3, a4, a5⟩, ⟨H1, H2, H3⟩, ⟨HL, HLm⟩, H4, H5, H6, H7, hL, ⟨T1, T2, T3, T4⟩⟩ := HB
  dsimp only [BA.d, BA.E, BA.Lg, BA.c, BA.dy, BA.db, BA.rd, BA.ti, BA.be, BA.hm, BA.qu, BA.sh, BA.tt, BA.pr] at a1 a2 a3 a4 a5 H1 H2 H3 HL HLm H4 H5 H6 H7 hL T1 T2 T3 T4
  dsimp only [BA.d, BA.E, BA.Lg, BA.c, BA.dy, BA.db, BA.rd, BA.ti, BA.be, BA.hm, BA.qu, BA.sh, BA.tt, BA.pr] at hi hi2 hn ⊢
  have hv3 := hV.1.2.2.2.2.1
  have hv4 := hV.1.2.2.2.2.2
  obtain ⟨⟨m, hm3, hb⟩, ⟨h5, hdi⟩, ⟨p, hp, h4⟩, _⟩ := H4.2.2.2.2.1 i hi
  have hm12 : m < 12 := by omega
  obtain ⟨t1, t2, t3, ⟨t, t4, t5⟩, ⟨ho, t6, t7⟩⟩ := H6.1 m hm12
  obtain ⟨u1, u2, u3, u4⟩ := H7.1 m hm12
  obtain ⟨ex, x1, x2⟩ := H7.2.2.2
  have hbd := bd_512 (k := k) (by omega)
  have hbs := bd_succ k
  obtain ⟨a, w1, w2, w3, w4⟩ := H5.1
  obtain ⟨F, hF⟩ : ∃ F, F = four (qK (nI m) (nI (dy i + v 5)) (-2)) (qK (if ho = 0 then -1 else nI (11 + ho)) (nI (dy i + v 5)) (nI m)) (qK (nI m) (-2) (-2)) (qK (if ho = 0 then -1 else nI (11 + ho)) (-2) (nI m)) p E := ⟨_, rfl⟩
  obtain ⟨qu', hq'⟩ : ∃ qu', qu' = if d < dy i + v 6 then upd qu m (qu m + -pr (7 * i + 3)) else qu := ⟨_, rfl⟩
  obtain ⟨o, lo, C1, C2, C3, C4, C5, C6, C7⟩ := C_takeBack (c := c) (a := a) (ti := ti) (be := be) (de := de) (hm := hm) (qu := qu) (tt := tt) hV hS H1 H3 HL hm3 a5 H4.2.1 hi hb h4 hp h5 hdi w3 w4 w2 (by rw [t3, t7]) t6 u1 hN hF hq'
  have hb9 : F_B_takeBack N s (day, ws, z, gl, gd, gc, gp, cnt, pr, nx, sz, dp, ti, be, de, hm, qu, sh, re, tt, ls, ba, st, si) (nI i) = some (nI F.1, (day, ws, o.1, o.2.1, o.2.2.1, o.2.2.2.1, o.2.2.2.2, cnt, upd pr (7 * i + 6) 1, lo.1, lo.2.1, lo.2.2, upd ti m (ckI (nI (tierT v (qu' m) (v 0 - 1))) (nI d) s.2.2.1 (ti m) (be m)).1, upd be m (ckI (nI (tierT v (qu' m) (v 0 - 1))) (nI d) s.2.2.1 (ti m) (be m)).2, upd de m (nI (db m + F.1)), hm, qu', sh, re, upd tt 3 (tt 3 + nI (p - F.1)), ls, ba, (ckI (nI (tierT v (qu' m) (v 0 - 1))) (nI d) s.2.2.1 (ti m) (be m)).1, (ckI (nI (tierT v (qu' m) (v 0 - 1))) (nI d) s.2.2.1 (ti m) (be m)).2)) := by
    unfold F_B_takeBack
    dsimp only
    rw [a3, w1, C1, Option.bind_some]
  rw [hb9] at c1
  obtain ⟨rfl, rfl⟩ := Prod.mk.inj (Option.some.inj c1)
  obtain ⟨a', A, y1, y2, y3, y4, y5, y6, y7⟩ := BQ_ex (b := (day, ws, o.1, o.2.1, o.2.2.1, o.2.2.2.1, o.2.2.2.2, cnt, upd pr (7 * i + 6) 1, lo.1, lo.2.1, lo.2.2, upd ti m (ckI (nI (tierT v (qu' m) (v 0 - 1))) (nI d) s.2.2.1 (ti m) (be m)).1, upd be m (ckI (nI (tierT v (qu' m) (v 0 - 1))) (nI d) s.2.2.1 (ti m) (be m)).2, upd de m (nI (db m + F.1)), hm, qu', sh, re, upd tt 3 (tt 3 + nI (p - F.1)), ls, ba, (ckI (nI (tierT v (qu' m) (v 0 - 1))) (nI d) s.2.2.1 (ti m) (be m)).1, (ckI (nI (tierT v (qu' m) (v 0 - 1))) (nI d) s.2.2.1 (ti m) (be m)).2)) ⟨c3, hL⟩
  have A0 := A
  obtain ⟨⟨_, _⟩, ⟨p1, _, p3⟩, ⟨P1, P2, P3⟩, _, Q4, Q5, Q6, Q7, _, _⟩ := A0
  dsimp only at p1 P1 Q4 Q7 y1 y2 y3 y4 y5 y6 y7
  have hold : ∀ m', m' < v 3 → TI v d (qu m') (ti m') (be m') := fun m' h => by
    have := J.2.2.1 m' h
    dsimp only [BA.d, BA.E, BA.Lg, BA.c, BA.dy, BA.db, BA.rd, BA.ti, BA.be, BA.hm, BA.qu, BA.sh, BA.tt, BA.pr] at this
    rw [← (T1 m' (by omega)).1, ← (T1 m' (by omega)).2.1, ← (T1 m' (by omega)).2.2.2] at this
    exact this
  have hjo : ∀ y ∈ E, 12 ≤ kL y.1 → hm (kC y.1 - 1) = cI (kL y.1 - 11) := fun y h1 h2 => by
    have h3 := (H3 y h1).2.2 h2
    rw [(T1 _ (by omega)).2.2.1]
    exact J.2.2.2 y h1 h2
  have hd' : a'.d = d := (nI_eq (by omega) (by omega)).mp (p1.symm.trans a3)
  have hE' := CoE_uniq P1 C2
  have hc5 := H4.2.1
  have hc6 := Q4.2.1
  have hc' : a'.c = c := (nI_eq (by omega) (by omega)).mp (Q4.1.symm.trans H4.1)
  have hrd := rd_same (by omega) (by omega) H7 Q7 (fun _ _ => rfl)
  have hb2 := bd_512 (k := k + 1) (by omega)
  have hdb : ∀ j, j < 12 → a'.db j = updN db m (db m + F.1) j := fun j hj => by
    have e1 := (Q7.1 j hj).1
    have e3 := (Q7.1 j hj).2.2.1
    have e4 := (H7.1 j hj)
    by_cases e : j = m
    · subst e
      rw [upd_at] at e1
      rw [updN_at]
      exact (nI_eq (by omega) (by omega)).mp e1.symm
    · rw [upd_ne _ _ e] at e1
      rw [updN_ne _ _ e]
      exact (nI_eq (by omega) (by omega)).mp (e1.symm.trans e4.1)
  have hkeys : ∀ y ∈ F.2.1, ∃ x ∈ E, x.1 = y.1 := by
    have hs : ∀ (q : Nat → Bool) (x : Nat × (List En × Unit)), ∀ y ∈ (stg q x).2.1, ∃ w ∈ x.2.1, w.1 = y.1 := fun q x => itG_keys (act := actN) (fun _ _ _ => rfl) _ _ _
    intro y hy
    rw [hF] at hy
    unfold four at hy
    obtain ⟨y3, q3, e3⟩ := hs _ _ y hy
    obtain ⟨y2, q2, e2⟩ := hs _ _ y3 q3
    obtain ⟨y1, q1, e1⟩ := hs _ _ y2 q2
    obtain ⟨y0, q0, e0⟩ := hs _ _ y1 q1
    exact ⟨y0, q0, by rw [e0, e1, e2, e3]⟩
  refine ⟨_, g', a', F.1, hb9, by omega, A, ⟨?_, ?_, fun m' hm' => ?_, fun y hy hky => ?_⟩, hc', ?_, ?_, hd'⟩
  · rw [y6, upd_ne _ _ (by decide), T3 1 (by decide)]
    refine J.1.trans ?_
    rw [sumN_congr hrd]
  · have e2 := J.2.1
    dsimp only [BA.d, BA.E, BA.Lg, BA.c, BA.dy, BA.db, BA.rd, BA.ti, BA.be, BA.hm, BA.qu, BA.sh, BA.tt, BA.pr] at e2
    rw [← T3 0 (by decide), ← T3 1 (by decide), ← T3 2 (by decide), ← T3 3 (by decide), ← T3 4 (by decide)] at e2
    rw [y6, upd_ne (j := 0) _ _ (by decide), upd_ne (j := 1) _ _ (by decide), upd_ne (j := 2) _ _ (by decide), upd_at, upd_ne (j := 4) _ _ (by decide), hE', e2, show sumP E = (p - F.1) + sumP F.2.1 by omega, ← nI_add]
    ac_rfl
  · rw [hd', y1, y2, y4]
    by_cases e : m' = m
    · subst e
      obtain ⟨t', z1, z2, z3⟩ := TI_old (hold m' hm')
      rw [upd_at, upd_at]
      exact TI_ck hV (Nat.le_refl d) (by omega) z1 z2 z3
    · have hqm : qu' m' = qu m' := by
        rw [hq']
        by_cases e5 : d < dy i + v 6
        · rw [if_pos e5, upd_ne _ _ e]
        · rw [if_neg e5]
      rw [upd_ne _ _ e, upd_ne _ _ e, hqm]
      exact hold m' hm'
  · rw [y3]
    rw [hE'] at hy
    obtain ⟨x, h1, h2⟩ := hkeys y hy
    rw [← h2] at hky ⊢
    exact hjo x h1 hky
  · show a'.pr (7 * i + 6) = 1
    rw [y7, upd_at]
  · show sumN a'.db 12 = sumN db 12 + F.1
    rw [sumN_congr hdb]
    have := sumN_upd (f := db) (i := m) (x := db m + F.1) (n := 12) hm12
    omega
