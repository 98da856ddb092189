theorem notout {x a b : Nat} (hx : x < 2 ^ 31) (hb : b < 2 ^ 31) (h1 : a ≤ x) (h2 : x ≤ b) : ¬ (nI x < nI a ∨ nI b < nI x) := by
  rw [nI_ltI hx (by omega), nI_ltI hb hx]; omega
/-- tiers after a check of one -/
theorem B6_ck {v : Nat → Nat} {ti be hm sh g g' : Nat → Int32} (hV : SV v) (H : B6 v ti be hm sh g) {m : Nat} (hm12 : m < 12) {ck : Int32 × Int32} {q gr day : Int32} (hck : ck = ckI (nI (tierT v q (v 0 - 1))) day gr (g (42 + m)) (g (54 + m))) (h1 : g' (42 + m) = ck.1) (h2 : g' (54 + m) = ck.2) (h : ∀ i, 30 ≤ i → i < 70 → ¬ i = 42 + m → ¬ i = 54 + m → g' i = g i) : B6 v (upd ti m ck.1) (upd be m ck.2) hm sh g' := by
  have hv := hV.1.2.2.2.2.2
  have hv0 := hV.1.1
  refine ⟨fun m' hm' => ?_, fun q hq => ?_⟩
  · obtain ⟨a1, a2, a3, a4, a5⟩ := H.1 m' hm'
    rw [h (30 + m') (by omega) (by omega) (by omega) (by omega)]
    by_cases e : m' = m
    · subst e
      rw [upd_at, upd_at, h1, h2]
      refine ⟨rfl, rfl, a3, ?_, a5⟩
      rw [hck]
      cases ckI_rank (nI (tierT v q (v 0 - 1))) day gr (g (42 + m')) (g (54 + m')) with
      | inl r => rw [r]; exact a4
      | inr r => rw [r]; exact ⟨_, by have := tierT_le (v := v) (x := q) (k := v 0 - 1); omega, rfl⟩
    · rw [upd_ne _ _ e, upd_ne _ _ e, h (42 + m') (by omega) (by omega) (by omega) (by omega), h (54 + m') (by omega) (by omega) (by omega) (by omega)]
      exact ⟨a1, a2, a3, a4, a5⟩
  · rw [h (66 + q) (by omega) (by omega) (by omega) (by omega)]
    exact H.2 q hq
/-- a purchase, on both sides -/
theorem S_purchase {v : Nat → Nat} {k : Nat} {s : T_SE} {b : T_BK} {fx g pa pa' : Nat → Int32} {ch ch' rk bl : Int32} (hV : SV v) (hM : SM v fx) (hS : SC v s) (H : BR v k b g) (hk : k < 512) {m ct x : Nat} (hm3 : m < v 3) (hct : ct < v 1) (hx1 : 1 ≤ x) (hx : x ≤ 100000) {N : Nat} (hN : 2000 < N) (hr : f_X11_remembers N 72470 579760 ch g pa = some (ch', pa')) : ∃ b' g' r1 r2 p, F_B_recordPurchase N s b (nI m) (nI ct) (nI x) = some (p, b') ∧ f_X11_purchase N (nI m) (nI ct) (nI x) 71 72470 579760 ch rk bl fx g pa = some (p, 0, ch', r1, r2, g', pa') ∧ BR v (k + 1) b' g' := by
  obtain ⟨day, ws, z, gl, gd, gc, gp, cnt, pr, nx, sz, dp, ti, be, de, hm, qu, sh, re, tt, ls, ba, st, si⟩ := b
  have H : BRc v k day ws z gl gd gc gp cnt pr nx sz dp ti be de hm qu sh re tt g := H
  obtain ⟨d, E, Lg, c, dy, db, rd, ⟨a1, a2⟩, ⟨a3, a4, a5⟩, ⟨H1, H2, H3⟩, ⟨HL, HLm⟩, H4, H5, H6, H7⟩ := H
  have hv0 := hV.1.2.1
  have hv3 := hV.1.2.2.2.2.1
  have hv4 := hV.1.2.2.2.2.2
  have hv1 := hV.1.2.2.1
  have hv5 := hV.2.1.2.1
  have hv51 := hV.2.1.1
  have hm12 : m < 12 := by omega
  obtain ⟨t1, t2, t3, ⟨t, t4, t5⟩, ⟨ho, t6, t7⟩⟩ := H6.1 m hm12
  obtain ⟨u1, u2, u3, u4⟩ := H7.1 m hm12
  obtain ⟨ex, x1, x2⟩ := H7.2.2.2
  have hbd := bd_512 (k := k) (by omega)
  have hbs := bd_succ k
  obtain ⟨shr, hsh, hsh2⟩ : ∃ shr, (¬ ho = 0 → sh (ho - 1) = nI shr ∧ shr ≤ 100) ∧ (¬ ho = 0 → g (66 + (ho - 1)) = nI shr) := by
    by_cases h : ho = 0
    · exact ⟨0, fun hh => absurd h hh, fun hh => absurd h hh⟩
    · obtain ⟨y1, p, y2, y3⟩ := H6.2 (ho - 1) (by omega)
      exact ⟨p, fun _ => ⟨by rw [y1, y3], y2⟩, fun _ => y3⟩
  obtain ⟨p, hp⟩ : ∃ p, p = worthN v t ct x d := ⟨_, rfl⟩
  obtain ⟨pooled, hpo⟩ : ∃ pooled, pooled = if ho = 0 then 0 else p * shr / 100 := ⟨_, rfl⟩
  obtain ⟨q1, q2, q3⟩ := worthN_le (e := d) hV t4 hct hx
  rw [← hp] at q3
  have hpl : pooled ≤ p := by
    rw [hpo]
    by_cases h : ho = 0
    · rw [if_pos h]; omega
    · rw [if_neg h]
      have h3 : p * shr ≤ p * 100 := Nat.mul_le_mul_left p (hsh h).2
      omega
  obtain ⟨b1, b2, b3, b4, b5, b6⟩ := H4
  subst b1
  obtain ⟨o, lo, C1, C2, C3⟩ := C_purchase (ti := ti) (hm := hm) (de := de) (qu := qu) (sh := sh) (tt := tt) (be := be) (pr := pr) hV hS H1 HL hm3 hct hx a5 (show c < 512 by omega) (by rw [t1, t5]) t4 (by rw [t3, t7]) t6 hsh u1 (by omega) (by omega) (by omega) hN hp hpo
  obtain ⟨g1, G1, G2, G3⟩ := M_poolPut H2 H1.2.1 a5 (h := ho) (e := d + v 5) (m := m) (p := pooled) (by omega) (fun h => by rw [hpo, if_pos h]) hm12 (by omega) (by omega) (by omega) N (nI ct) (nI x) (nI p) 0 ch' fx pa'
  obtain ⟨g', K1, K2, K3, K4, K5, K6, K7, K8, K9, K10, K11⟩ := M_buy (g := g1) (pooled := pooled) (p := p) (pa := pa') hV hM G2 (addE_sor H1.2.1) (LogM_same HLm (G3 2 (by omega)) (fun i h1 h2 => G3 i (by omega))) (B4_same ⟨rfl, b2, b3, b4, b5, b6⟩ (G3 1 (by omega)) (fun i h1 h2 => G3 i (by omega))) (B5_same hV H5 (fun i h1 h2 => G3 i (by omega))) (by rw [G3 0 (by omega)]; exact a4) hm3 hct hx a5 (by omega) (by rw [G3 _ (by omega)]; exact u2) (by omega) q3 hpl (e := d + v 5) (by omega) (by omega) 0 ch' hN
  have hfx7 : fx 7 = s.2.2.1 := by rw [hM 7 (by omega), hS.1.2.2]
  rw [G3 (42 + m) (by omega), G3 (54 + m) (by omega), hfx7, ← t1, ← t2] at K1 K3 K6 K7
  subst a3
  refine ⟨(nI d, ws, o.1, o.2.1, o.2.2.1, o.2.2.2.1, o.2.2.2.2, nI (c + 1), upd7 pr (7 * c) (nI m) (nI ct) (nI x) (nI (baseN v ct x)) (nI p) (nI d) 0, lo.1, lo.2.1, lo.2.2, upd ti m (ckI (nI (tierT v (qu m + nI (baseN v ct x)) (v 0 - 1))) (nI d) s.2.2.1 (ti m) (be m)).1, upd be m (ckI (nI (tierT v (qu m + nI (baseN v ct x)) (v 0 - 1))) (nI d) s.2.2.1 (ti m) (be m)).2, upd de m (nI (db m - min (p - pooled) (db m))), hm, upd qu m (qu m + nI (baseN v ct x)), sh, re, upd (upd tt 0 (tt 0 + nI p)) 4 (tt 4 + nI (min (p - pooled) (db m))), ls, ba, (ckI (nI (tierT v (qu m + nI (baseN v ct x)) (v 0 - 1))) (nI d) s.2.2.1 (ti m) (be m)).1, (ckI (nI (tierT v (qu m + nI (baseN v ct x)) (v 0 - 1))) (nI d) s.2.2.1 (ti m) (be m)).2), g', (ckI (nI (tierT v (qu m + nI (baseN v ct x)) (v 0 - 1))) (nI d) s.2.2.1 (ti m) (be m)).1, (ckI (nI (tierT v (qu m + nI (baseN v ct x)) (v 0 - 1))) (nI d) s.2.2.1 (ti m) (be m)).2, nI p, ?_, ?_, ?_⟩
  · unfold F_B_recordPurchase
    dsimp only
    rw [C1, Option.bind_some]
  · have e1 : (30 : Int32) + nI m = nI (30 + m) := nI_add 30 m
    have gg := grd (i := 30 + m) (n := 72470) (by omega) (by decide)
    have hw : f_X11_whyNotBuy (nI m) (nI ct) (nI x) 71 fx = some 0 := by
      unfold f_X11_whyNotBuy
      rw [M_isMember (nI m) (n := v 3) (by omega) (hM 3 (by omega)), Option.bind_some, if_neg (outN_in (by omega) hm3), if_neg (by decide), M_isCategory (nI ct) (n := v 1) (by omega) (hM 1 (by omega)), Option.bind_some, if_neg (outN_in (by omega) hct), if_neg (by decide), show (1 : Int64) = (1 : Int32).toInt64 from rfl, show (100000 : Int64) = (100000 : Int32).toInt64 from rfl, M_isIn, Option.bind_some, if_neg (show ¬ (nI x < (1 : Int32) ∨ (100000 : Int32) < nI x) from notout (a := 1) (b := 100000) (by omega) (by decide) hx1 hx), if_neg (by decide)]
    unfold f_X11_purchase
    rw [hw, Option.bind_some, if_pos (Int32.le_refl 0), hr, Option.bind_some, M_pointsOf hV hM hm12 t5 a4 t4 hct hx (by omega) (by omega), Option.bind_some, M_today, Option.bind_some, if_neg (by decide), show (5 : Int32).toNatClampNeg = 5 from rfl, hM 5 (by omega), a4, nI_add, Option.bind_some, e1, if_neg gg, nI_clamp (by omega), t7, Option.bind_some, ← hp]
    by_cases h : ho = 0
    · rw [if_pos (by rw [h]; rfl)]
      rw [hpo, if_pos h, nI_0] at G1
      rw [G1, hpo, if_pos h, nI_0] at *
      rw [K1]
    · have h3 : cI ho = nI (ho - 1) := by
        obtain ⟨q, hq⟩ : ∃ q, ho = q + 1 := ⟨ho - 1, by omega⟩
        rw [hq]; rfl
      have h4 : p * shr ≤ p * 100 := Nat.mul_le_mul_left p (hsh h).2
      have e2 : (66 : Int32) + nI (ho - 1) = nI (66 + (ho - 1)) := nI_add 66 (ho - 1)
      have gs := grd (i := 66 + (ho - 1)) (n := 72470) (by omega) (by decide)
      rw [if_neg (fun hh => h ((cI_none (by omega)).mp hh)), h3, e2, if_neg gs, if_neg (by decide), nI_clamp (by omega), hsh2 h, nI_toInt64_mul (by omega) (by have := (hsh h).2; omega) (by omega)]
      rw [h3] at G1
      rw [hpo, if_neg h] at G1 K1
      rw [G1, K1]
  · unfold BR
    dsimp only
    refine ⟨d, addE (mkK m (d + v 5) 0) (p - pooled - min (p - pooled) (db m)) (addE (mkK (11 + ho) (d + v 5) (m + 1)) pooled E), ckLog m d (ckI (nI (tierT v (qu m + nI (baseN v ct x)) (v 0 - 1))) (nI d) s.2.2.1 (ti m) (be m)) (ti m) (logAdd (0, nI d, nI m, nI p) Lg), c + 1, updN dy c d, updN db m (db m - min (p - pooled) (db m)), rd, ⟨?_, by omega⟩, ⟨rfl, ?_, a5⟩, ⟨C2, K2, ?_⟩, ⟨C3, K3⟩, K4, K5, ?_, ?_⟩
    · have h1 := addE_length (k := mkK m (d + v 5) 0) (p := p - pooled - min (p - pooled) (db m)) (E := addE (mkK (11 + ho) (d + v 5) (m + 1)) pooled E)
      have h2 := addE_length (k := mkK (11 + ho) (d + v 5) (m + 1)) (p := pooled) (E := E)
      omega
    · rw [K11 0 (by omega) (by omega) (by omega) (by omega) (by omega) (by omega) (by omega) (by omega), G3 0 (by omega), a4]
    · refine EV_add ?_ ?_
      · by_cases h : ho = 0
        · rw [hpo, if_pos h]; exact H3
        · refine EV_add H3 ?_
          rw [kD_mk (by omega) (by omega), kL_mk (by omega) (by omega), kC_mk (by omega)]
          omega
      · rw [kD_mk (by omega) (by omega), kL_mk (by omega) (by omega), kC_mk (by omega)]
        omega
    · refine B6_ck (g := g1) (q := qu m + nI (baseN v ct x)) (gr := s.2.2.1) (day := nI d) hV (B6_same hV H6 (fun i h1 h2 => G3 i (by omega))) hm12 ?_ K6 K7 (fun i h1 h2 h3 h4 => K11 i h2 h3 h4 (by omega) (by omega) (by omega) (by omega) (by omega))
      rw [G3 (42 + m) (by omega), G3 (54 + m) (by omega), ← t1, ← t2]
    · have hsp := addE_sum (k := mkK m (d + v 5) 0) (p := p - pooled - min (p - pooled) (db m)) (E := addE (mkK (11 + ho) (d + v 5) (m + 1)) pooled E)
      have hsp2 := addE_sum (k := mkK (11 + ho) (d + v 5) (m + 1)) (p := pooled) (E := E)
      refine ⟨fun m' hm' => ?_, fun i hi => ?_, fun i hi => ?_, ex, ?_, ?_⟩
      · obtain ⟨w1, w2, w3, w4⟩ := H7.1 m' hm'
        by_cases e : m' = m
        · subst e
          rw [upd_at, updN_at, K8]
          exact ⟨rfl, rfl, by omega, fun hh => by omega⟩
        · rw [upd_ne _ _ e, updN_ne _ _ e, K11 _ (by omega) (by omega) (by omega) (by omega) (by omega) (by omega) (by omega) (by omega), G3 _ (by omega)]
          exact ⟨w1, w2, by omega, w4⟩
      · rw [K11 _ (by omega) (by omega) (by omega) (by omega) (by omega) (by omega) (by omega) (by omega), G3 _ (by omega)]
        exact H7.2.1 i hi
      · by_cases e4 : i = 4
        · subst e4
          rw [upd_at]
          show _ = g' 7
          rw [K9, G3 7 (by omega), H7.2.2.1 4 (by omega)]
        · rw [upd_ne _ _ e4]
          by_cases e0 : i = 0
          · subst e0
            rw [upd_at]
            show _ = g' 3
            rw [K10, G3 3 (by omega), H7.2.2.1 0 (by omega)]
          · rw [upd_ne _ _ e0, K11 _ (by omega) (by omega) (by omega) (by omega) (by omega) (by omega) (by omega) (by omega), G3 _ (by omega)]
            exact H7.2.2.1 i hi
      · rw [upd_ne _ _ (by decide), upd_ne _ _ (by decide), x1]
      · omega

