theorem qT_pr {pr pr' : Nat → Int32} {dy : Nat → Nat} {c win m t : Nat} (h : ∀ j, j < 7 * c → pr' j = pr j) : qT pr' dy c win m t = qT pr dy c win m t := by
  unfold qT
  exact sumF_congr (fun i hi => by rw [bW_congr h hi])
theorem ckT_pr {v : Nat → Nat} {pr pr' : Nat → Int32} {dy : Nat → Nat} {c m d : Nat} {gr : Int32} {x : Int32 × Int32} (h : ∀ j, j < 7 * c → pr' j = pr j) : ∀ j, ckT v pr' dy c m d gr x j = ckT v pr dy c m d gr x j
  | 0 => rfl
  | j + 1 => by rw [ckT, ckT, qT_pr h, ckT_pr h j]
theorem ckT_ok {v : Nat → Nat} {pr : Nat → Int32} {dy : Nat → Nat} {c m d : Nat} {gr : Int32} {x : Int32 × Int32} {q : Int32} (hV : SV v) (h0 : TI v d q x.1 x.2) : ∀ j, d + j < 2 ^ 30 → ∃ q', TI v (d + j) q' (ckT v pr dy c m d gr x j).1 (ckT v pr dy c m d gr x j).2 ∧ (1 ≤ j → q' = qT pr dy c (v 6) m (d + j))
  | 0, _ => ⟨q, h0, fun h => by omega⟩
  | j + 1, hj => by
    obtain ⟨q', h1, -⟩ := ckT_ok (pr := pr) (dy := dy) (c := c) (m := m) (gr := gr) hV h0 j (by omega)
    obtain ⟨t, t1, t2, t3⟩ := TI_old h1
    exact ⟨_, TI_ck hV (show d + j ≤ d + (j + 1) by omega) hj t1 t2 t3, fun _ => rfl⟩
theorem X_advance {v : Nat → Nat} {k : Nat} {a : BA} {s : T_SE} {b : T_BK} {g : Nat → Int32} (hV : SV v) (hS : SC v s) (H : BQ v k a b g) (J : JS v a) (hk : k < 512) {D : Nat} (hD1 : 1 ≤ D) (hD : D ≤ 400) (hdD : a.d + D ≤ 9999) {N : Nat} (hNN : 600000 < N) : ∃ b' g' a' p, F_B_passDays N s b (nI D) = some (nI p, b') ∧ p < 2 ^ 31 ∧ BQ v (k + 1) a' b' g' ∧ JS v a' ∧ a'.d = a.d + D ∧ a'.tt 2 = a.tt 2 + nI p ∧ a'.E = a.E.filter (fun x => decide (a.d + D < kD x.1)) ∧ ∀ m, m < v 3 → a'.ti m = (ckT v a.pr a.dy a.c m a.d (nI (v 7)) (a.ti m, a.be m) D).1 := by
  have hN : 2000 < N := by omega
  obtain ⟨day, ws, z, gl, gd, gc, gp, cnt, pr, nx, sz, dp, ti, be, de, hm, qu, sh, re, tt, ls, ba, st, si⟩ := b
  have HB : BQ v k a (day, ws, z, gl, gd, gc, gp, cnt, pr, nx, sz, dp, ti, be, de, hm, qu, sh, re, tt, ls, ba, st, si) g := H
  obtain ⟨d, E, Lg, c, dy, db, rd, ati, abe, ahm, aqu, ash, att, apr⟩ := a
  obtain ⟨⟨a1, a2⟩, ⟨a3, a4, a5⟩, ⟨H1, H2, H3⟩, ⟨HL, HLm⟩, H4, H5, H6, H7, hL, ⟨T1, T2, T3, T4⟩⟩ := HB
  dsimp only [BA.d, BA.E, BA.Lg, BA.c, BA.dy, BA.db, BA.rd, BA.ti, BA.be, BA.hm, BA.qu, BA.sh, BA.tt, BA.pr] at a1 a2 a3 a4 a5 H1 H2 H3 HL HLm H4 H5 H6 H7 hL T1 T2 T3 T4
  dsimp only [BA.d, BA.E, BA.Lg, BA.c, BA.dy, BA.db, BA.rd, BA.ti, BA.be, BA.hm, BA.qu, BA.sh, BA.tt, BA.pr] at hdD ⊢
  subst a3
  have hv3 := hV.1.2.2.2.2.1
  have hv4 := hV.1.2.2.2.2.2
  have hself : E.filter (fun x => decide (d + 0 < kD x.1)) = E := List.filter_eq_self.mpr (fun x hx => decide_eq_true (H3 x hx).1.1)
  have HB0 : BRx v k (d + 0) (E.filter (fun x => decide (d + 0 < kD x.1))) Lg c dy db rd (nI (d + 0)) ws z gl gd gc gp cnt pr nx sz dp ti be de hm qu sh re tt g := by
    rw [hself]
    exact ⟨⟨a1, a2⟩, ⟨rfl, a4, a5⟩, ⟨H1, H2, H3⟩, ⟨HL, HLm⟩, H4, H5, H6, H7⟩
  obtain ⟨A, ws', o, lo, ti', be', qu', tt', ls', g', st', si', Lg', c1, c3, c4, c5, c6⟩ := X_days (ti0 := ti) (be0 := be) (tt0 := tt) hV hS (show k ≤ 512 by omega) H1.2.2.1 hD hdD hN N 0 0 ws z nx sz gl gd gc gp dp ti be qu tt ls g st si Lg (Nat.zero_le _) (by omega) HB0 (by rw [hself, Nat.zero_add]) (fun m hm => rfl) (fun i => by
    by_cases e : i = 2
    · rw [if_pos e, e, nI_0, Int32.add_zero]
    · rw [if_neg e])
  have hb9 : F_B_passDays N s (nI d, ws, z, gl, gd, gc, gp, cnt, pr, nx, sz, dp, ti, be, de, hm, qu, sh, re, tt, ls, ba, st, si) (nI D) = some (nI A, (nI (d + D), ws', o.1, o.2.1, o.2.2.1, o.2.2.2.1, o.2.2.2.2, cnt, pr, lo.1, lo.2.1, lo.2.2, ti', be', de, hm, qu', sh, re, tt', ls', ba, st', si')) := by
    unfold F_B_passDays f_X0_passDays
    dsimp only
    have c1' : f_X0_passDays_b4 N (nI D) 8 5 1024 1024 1024 1024 3584 120 12 12 12 5 16 s.2.1 s.2.2.1 s.2.2.2.1 s.2.2.2.2.2.1 cnt pr N (0 : Int32) (0 : Int32) (nI d) ws z gl gd gc gp nx sz dp ti be qu tt ls st si = _ := c1
    rw [c1', Option.bind_some]
  have hBR : BR v (k + 1) (nI (d + D), ws', o.1, o.2.1, o.2.2.1, o.2.2.2.1, o.2.2.2.2, cnt, pr, lo.1, lo.2.1, lo.2.2, ti', be', de, hm, qu', sh, re, tt', ls', ba, st', si') g' := BRc_mono (BRx_c c3) (Nat.le_succ k)
  obtain ⟨a', A0, y1, y2, y3, y4, y5, y6, y7⟩ := BQ_ex (b := (nI (d + D), ws', o.1, o.2.1, o.2.2.1, o.2.2.2.1, o.2.2.2.2, cnt, pr, lo.1, lo.2.1, lo.2.2, ti', be', de, hm, qu', sh, re, tt', ls', ba, st', si')) ⟨hBR, hL⟩
  have A1 := A0
  obtain ⟨⟨_, _⟩, ⟨p1, _, p3⟩, ⟨P1, P2, P3⟩, _, Q4, Q5, Q6, Q7, _, _⟩ := A1
  dsimp only at p1 P1 Q4 Q7 y1 y2 y3 y4 y5 y6 y7
  have hd' : a'.d = d + D := (nI_eq (by omega) (by omega)).mp p1.symm
  obtain ⟨_, _, ⟨R1, R2, R3⟩, _, R4, R5, R6, R7⟩ := c3
  have hE' := CoE_uniq P1 R1
  have hrd := rd_same (by omega) (by omega) H7 Q7 (fun _ _ => rfl)
  have hs31 := H1.2.2.2
  have hold : ∀ m', m' < v 3 → TI v d (qu m') (ti m') (be m') := fun m' h => by
    have := J.2.2.1 m' h
    dsimp only [BA.d, BA.E, BA.Lg, BA.c, BA.dy, BA.db, BA.rd, BA.ti, BA.be, BA.hm, BA.qu, BA.sh, BA.tt, BA.pr] at this
    rw [← (T1 m' (by omega)).1, ← (T1 m' (by omega)).2.1, ← (T1 m' (by omega)).2.2.2] at this
    exact this
  have hjo : ∀ y ∈ E, 12 ≤ kL y.1 → hm (kC y.1 - 1) = cI (kL y.1 - 11) := fun y h1 h2 => by
    have h3 := (H3 y h1).2.2 h2
    rw [(T1 _ (by omega)).2.2.1]
    exact J.2.2.2 y h1 h2
  refine ⟨_, g', a', A, hb9, by omega, A0, ⟨?_, ?_, fun m' hm' => ?_, fun y hy hky => ?_⟩, hd', ?_, hE', fun m' hm' => ?_⟩
  · rw [y6, c6 1, if_neg (by decide), T3 1 (by decide)]
    refine J.1.trans ?_
    rw [sumN_congr hrd]
  · have e2 := J.2.1
    dsimp only [BA.d, BA.E, BA.Lg, BA.c, BA.dy, BA.db, BA.rd, BA.ti, BA.be, BA.hm, BA.qu, BA.sh, BA.tt, BA.pr] at e2
    rw [← T3 0 (by decide), ← T3 1 (by decide), ← T3 2 (by decide), ← T3 3 (by decide), ← T3 4 (by decide)] at e2
    rw [y6, c6 0, if_neg (by decide), c6 1, if_neg (by decide), c6 2, if_pos rfl, c6 3, if_neg (by decide), c6 4, if_neg (by decide), hE', e2, show sumP E = A + sumP (E.filter (fun x => decide (d + D < kD x.1))) by omega, ← nI_add]
    ac_rfl
  · rw [hd', y1, y2, y4]
    obtain ⟨q', u1, u2⟩ := ckT_ok (pr := pr) (dy := dy) (c := c) (m := m') (gr := s.2.2.1) (x := (ti m', be m')) hV (hold m' hm') D (by omega)
    rw [u2 hD1] at u1
    have hc5 := c5 m' hm'
    rw [show qu' m' = qT pr dy c (v 6) m' (d + D) from R5.2.1 m' hm', show ti' m' = _ from congrArg Prod.fst hc5, show be' m' = _ from congrArg Prod.snd hc5]
    exact u1
  · rw [y3]
    rw [hE'] at hy
    exact hjo y (List.mem_filter.mp hy).1 hky
  · show a'.tt 2 = att 2 + nI A
    rw [y6, c6 2, if_pos rfl, T3 2 (by decide)]
  · show a'.ti m' = (ckT v apr dy c m' d (nI (v 7)) (ati m', abe m') D).1
    have hc5 := c5 m' hm'
    rw [y1, show ti' m' = _ from congrArg Prod.fst hc5, hS.1.2.2, ckT_pr (pr := apr) T4, (T1 m' (by omega)).1, (T1 m' (by omega)).2.1]
theorem X_tierAfter {v : Nat → Nat} {k : Nat} {a : BA} {s : T_SE} {b : T_BK} {g : Nat → Int32} (hV : SV v) (hS : SC v s) (H : BQ v k a b g) {m D : Nat} (hm3 : m < v 3) (hD : D ≤ 2000) {N : Nat} (hNN : 600000 < N) : ∃ bt, F_B_futureTier N s b (nI m) (nI D) = some ((ckT v a.pr a.dy a.c m a.d (nI (v 7)) (a.ti m, a.be m) D).1, bt) ∧ BQ v k a bt g := by
  have HB := H
  obtain ⟨⟨a1, a2⟩, ⟨a3, a4, a5⟩, ⟨H1, H2, H3⟩, ⟨HL, HLm⟩, H4, H5, H6, H7, hL, ⟨T1, T2, T3, T4⟩⟩ := HB
  have hv3 := hV.1.2.2.2.2.1
  have hm12 : m < 12 := by omega
  obtain ⟨x, w1, w2, w3, w4⟩ := H5.1
  have hq0 := H5.2.1 m hm3
  have y1 := C_future (x0 := (a.ti m, a.be m)) (cs := s.2.2.2.1) (th := s.2.2.2.2.2.1) hV (hS.2.1 0 (by omega)) (fun t h => (hS.2.2.1 t h).1) H4.2.1 (fun i hi => (H4.2.2.2.2.1 i hi).2.1) H4.2.2.2.2.2 a5 hm3 hD (N := N) (by omega) N 0 x (Nat.zero_le _) (by omega) w2 w3 w4
  rw [ckT_pr (pr := a.pr) T4 D] at y1
  refine ⟨(b.1, b.2.1, b.2.2.1, b.2.2.2.1, b.2.2.2.2.1, b.2.2.2.2.2.1, b.2.2.2.2.2.2.1, b.2.2.2.2.2.2.2.1, b.2.2.2.2.2.2.2.2.1, b.2.2.2.2.2.2.2.2.2.1, b.2.2.2.2.2.2.2.2.2.2.1, b.2.2.2.2.2.2.2.2.2.2.2.1, b.2.2.2.2.2.2.2.2.2.2.2.2.1, b.2.2.2.2.2.2.2.2.2.2.2.2.2.1, b.2.2.2.2.2.2.2.2.2.2.2.2.2.2.1, b.2.2.2.2.2.2.2.2.2.2.2.2.2.2.2.1, b.2.2.2.2.2.2.2.2.2.2.2.2.2.2.2.2.1, b.2.2.2.2.2.2.2.2.2.2.2.2.2.2.2.2.2.1, b.2.2.2.2.2.2.2.2.2.2.2.2.2.2.2.2.2.2.1, b.2.2.2.2.2.2.2.2.2.2.2.2.2.2.2.2.2.2.2.1, b.2.2.2.2.2.2.2.2.2.2.2.2.2.2.2.2.2.2.2.2.1, b.2.2.2.2.2.2.2.2.2.2.2.2.2.2.2.2.2.2.2.2.2.1, (ckT v a.pr a.dy a.c m a.d (nI (v 7)) (a.ti m, a.be m) D).1, (ckT v a.pr a.dy a.c m a.d (nI (v 7)) (a.ti m, a.be m) D).2), ?_, H⟩
  unfold F_B_futureTier f_X0_futureTier f_X9_start
  rw [X6_at_in _ h12 hm12, Option.bind_some, X6_at_in _ h12 hm12, Option.bind_some, Option.bind_some, X6_at_in _ h12 hm12, Option.bind_some, (T1 m hm12).1, (T1 m hm12).2.1, hq0, a3, w1, H4.1, hS.1.2.1, hS.1.2.2, nI_1, Option.bind_some]
  dsimp only
  rw [show f_X0_futureTier_b46 N (nI m) (nI D) 8 5 3584 (nI a.d) (nI (v 6)) (nI (v 7)) s.2.2.2.1 s.2.2.2.2.2.1 (nI a.c) b.2.2.2.2.2.2.2.2.1 N (qT b.2.2.2.2.2.2.2.2.1 a.dy a.c (v 6) m a.d) (nI x) (nI (a.d + 1)) (a.ti m) (a.be m) = _ from y1]
  rfl
