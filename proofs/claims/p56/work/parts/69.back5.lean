/-- a refund, on both sides: the purchase is kept, and not yet refunded -/
theorem S_refund {v : Nat → Nat} {k : Nat} {s : T_SE} {b : T_BK} {fx g pa pa' : Nat → Int32} {ch ch' rk bl : Int32} (hV : SV v) (hM : SM v fx) (hS : SC v s) (H : BR v k b g) (hk : k < 512) {i c0 : Nat} (hc0 : b.2.2.2.2.2.2.2.1 = nI c0) (hc1 : c0 ≤ 512) (hi : i < c0) (hi2 : c0 ≤ i + 40) (hn : b.2.2.2.2.2.2.2.2.1 (7 * i + 6) = 0) {N : Nat} (hN : 2000 < N) (hr : f_X11_remembers N 72470 579760 ch g pa = some (ch', pa')) : ∃ b' g' r1 r2 p, F_B_takeBack N s b (nI i) = some (p, b') ∧ f_X11_refund N (nI i) 71 72470 579760 ch rk bl fx g pa = some (p, 0, ch', r1, r2, g', pa') ∧ BR v (k + 1) b' g' := by
  obtain ⟨day, ws, z, gl, gd, gc, gp, cnt, pr, nx, sz, dp, ti, be, de, hm, qu, sh, re, tt, ls, ba, st, si⟩ := b
  have H : BRc v k day ws z gl gd gc gp cnt pr nx sz dp ti be de hm qu sh re tt g := H
  have hc0 : cnt = nI c0 := hc0
  have hn : pr (7 * i + 6) = 0 := hn
  obtain ⟨d, E, Lg, c, dy, db, rd, ⟨a1, a2⟩, ⟨a3, a4, a5⟩, ⟨H1, H2, H3⟩, ⟨HL, HLm⟩, H4, H5, H6, H7⟩ := H
  have hcc : c = c0 := by
    have h1 := H4.1
    have h2 := H4.2.1
    rw [hc0, nI_eq (by omega) (by omega)] at h1
    exact h1.symm
  subst hcc
  have hv3 := hV.1.2.2.2.2.1
  have hv4 := hV.1.2.2.2.2.2
  obtain ⟨⟨m, hm3, hb⟩, ⟨h5, hdi⟩, ⟨p, hp, h4⟩, _⟩ := H4.2.2.2.2.1 i hi
  have hm12 : m < 12 := by omega
  obtain ⟨t1, t2, t3, ⟨t, t4, t5⟩, ⟨ho, t6, t7⟩⟩ := H6.1 m hm12
  obtain ⟨u1, u2, u3, u4⟩ := H7.1 m hm12
  obtain ⟨ex, x1, x2⟩ := H7.2.2.2
  have hbd := bd_512 (k := k) (by omega)
  have hbs := bd_succ k
  obtain ⟨a, w1, w2, w3, w4⟩ := H5.1
  obtain ⟨F, hF⟩ : ∃ F, F = four (qK (nI m) (nI (dy i + v 5)) (-2)) (qK (if ho = 0 then -1 else nI (11 + ho)) (nI (dy i + v 5)) (nI m)) (qK (nI m) (-2) (-2)) (qK (if ho = 0 then -1 else nI (11 + ho)) (-2) (nI m)) p E := ⟨_, rfl⟩
  obtain ⟨qu', hq'⟩ : ∃ qu', qu' = if d < dy i + v 6 then upd qu m (qu m + -pr (7 * i + 3)) else qu := ⟨_, rfl⟩
  obtain ⟨o, lo, C1, C2, C3, C4, C5, C6, C7⟩ := C_takeBack (c := c) (a := a) (ti := ti) (be := be) (de := de) (hm := hm) (qu := qu) (tt := tt) hV hS H1 H3 HL hm3 a5 H4.2.1 hi hb h4 hp h5 hdi w3 w4 w2 (by rw [t3, t7]) t6 u1 hN hF hq'
  obtain ⟨g', K1, K2, K3, K4, K5, K6, K7, K8, K9, K10⟩ := M_refund (rk := rk) (bl := bl) hV hM H2 H1.2.1 H1.2.2.1 H3 H1.2.2.2 HLm H4 H5 a4 hm3 a5 hi hi2 hb h4 hp hn t7 t6 u2 hN hr hF C6 hq'
  have hfx7 : fx 7 = s.2.2.1 := by rw [hM 7 (by omega), hS.1.2.2]
  rw [hfx7, ← t1, ← t2] at K1 K3 K6 K7
  subst a3 w1 hc0
  refine ⟨(nI d, nI a, o.1, o.2.1, o.2.2.1, o.2.2.2.1, o.2.2.2.2, nI c, upd pr (7 * i + 6) 1, lo.1, lo.2.1, lo.2.2, upd ti m (ckI (nI (tierT v (qu' m) (v 0 - 1))) (nI d) s.2.2.1 (ti m) (be m)).1, upd be m (ckI (nI (tierT v (qu' m) (v 0 - 1))) (nI d) s.2.2.1 (ti m) (be m)).2, upd de m (nI (db m + F.1)), hm, qu', sh, re, upd tt 3 (tt 3 + nI (p - F.1)), ls, ba, (ckI (nI (tierT v (qu' m) (v 0 - 1))) (nI d) s.2.2.1 (ti m) (be m)).1, (ckI (nI (tierT v (qu' m) (v 0 - 1))) (nI d) s.2.2.1 (ti m) (be m)).2), g', _, _, nI F.1, ?_, K1, ?_⟩
  · unfold F_B_takeBack
    dsimp only
    rw [C1, Option.bind_some]
  · unfold BR
    dsimp only
    refine ⟨d, F.2.1, ckLog m d (ckI (nI (tierT v (qu' m) (v 0 - 1))) (nI d) s.2.2.1 (ti m) (be m)) (ti m) (logAdd (1, nI d, nI m, nI (p - F.1)) Lg), c, dy, updN db m (db m + F.1), rd, ⟨by omega, by omega⟩, ⟨rfl, ?_, a5⟩, ⟨C2, K2, C4⟩, ⟨C3, K3⟩, K4, K5, ?_, ?_⟩
    · rw [K10 0 (by omega) (by omega) (by omega) (by omega) (by omega) (by omega), a4]
    · refine B6_ck (g := g) (q := qu' m) (gr := s.2.2.1) (day := nI d) hV H6 hm12 ?_ K6 K7 (fun i h1 h2 h3 h4 => K10 i h2 h3 h4 (by omega) (by omega) (by omega))
      rw [← t1, ← t2]
    · refine ⟨fun m' hm' => ?_, fun i hi => ?_, fun i hi => ?_, ex, ?_, ?_⟩
      · obtain ⟨y1, y2, y3, y4⟩ := H7.1 m' hm'
        by_cases e : m' = m
        · subst e
          rw [upd_at, updN_at, K8]
          exact ⟨rfl, rfl, by omega, fun hh => by omega⟩
        · rw [upd_ne _ _ e, updN_ne _ _ e, K10 _ (by omega) (by omega) (by omega) (by omega) (by omega) (by omega)]
          exact ⟨y1, y2, by omega, y4⟩
      · rw [K10 _ (by omega) (by omega) (by omega) (by omega) (by omega) (by omega)]
        exact H7.2.1 i hi
      · by_cases e : i = 3
        · subst e
          rw [upd_at]
          show _ = g' 6
          rw [K9, H7.2.2.1 3 (by omega)]
        · rw [upd_ne _ _ e, K10 _ (by omega) (by omega) (by omega) (by omega) (by omega) (by omega)]
          exact H7.2.2.1 i hi
      · rw [upd_ne _ _ (by decide), x1]
      · omega

