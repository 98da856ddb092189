theorem subI_self (a b : Int32) : a - (a - b) = b := by
  rw [Int32.sub_eq_iff_eq_add, Int32.add_comm, Int32.sub_add_cancel]
theorem RN_self {d : Nat} {g0 g : Nat → Int32} {S : List En × Unit} (H : RN d g0 S g) : RN d g S g := ⟨H.1, H.2.1, H.2.2.1, H.2.2.2.1, fun _ _ => rfl⟩
theorem M_bought {i w : Nat} {g : Nat → Int32} (hi : i < 2 ^ 20) (hw : w < 7) : f_X11_bought (nI i) (nI w) 72470 g = some (g (70 + 7 * (i % 40) + w)) := by
  unfold f_X11_bought
  have g1 := grd (i := 70 + 7 * (i % 40) + w) (n := 72470) (by omega) (by decide)
  rw [if_neg (by decide), nI_mod40 (by omega), show (70 : Int32) = nI 70 from rfl, show (7 : Int32) = nI 7 from rfl, nI_mul, nI_add, nI_add, if_neg g1, nI_clamp (by omega)]
theorem M_isBought {x : Int32} {c : Nat} {g : Nat → Int32} (h1 : g 1 = nI c) (hc : c < 2 ^ 20) : f_X11_isBought x 72470 g = some (if x < nI (c - 40) ∨ nI c ≤ x then 0 else 1) := by
  unfold f_X11_isBought
  have hx : (if (0 : Int32) < nI c - 40 then nI c - 40 else 0) = nI (c - 40) := by
    rw [show (40 : Int32) = nI 40 from rfl]
    have h2 : (0 : Int32) < nI c - nI 40 ↔ 40 < c := by
      rw [Int32.lt_iff_toInt_lt, subI_toInt (by omega) (by decide), Int32.toInt_zero]; omega
    by_cases h : 40 < c
    · rw [if_pos (h2.mpr h), nI_subI (by omega)]
    · rw [if_neg (fun hh => h (h2.mp hh)), show c - 40 = 0 by omega]; rfl
  rw [if_neg (by decide), if_neg (by decide), show (1 : Int32).toNatClampNeg = 1 from rfl, h1, hx, M_isIn, Option.bind_some, bool01]
  by_cases h : x < nI (c - 40) ∨ nI c ≤ x
  · rw [if_pos h, if_pos (h.imp id (fun hh => (lt_sub1 (by omega)).mpr hh))]
  · rw [if_neg h, if_neg (fun hh => h (hh.imp id (fun h2 => (lt_sub1 (by omega)).mp h2)))]
/-- the reference takes back, from the log's entry on -/
theorem M_back_end {v : Nat → Nat} {m d c p w : Nat} {Lg : List Co} {dy : Nat → Nat} {ws : Int32} {pr qu fx g pa : Nat → Int32} (hV : SV v) (hM : SM v fx) (HL : LogM Lg g) (H5 : B5 v d c dy ws pr qu g) (hdy : ∀ i, i < c → dy i ≤ d) (h0 : g 0 = nI d) (hm3 : m < v 3) (hd : d ≤ 9999) (hw : w ≤ p) (t ch : Int32) {N : Nat} (hN : 2000 < N) :
    ∃ g', f_X11_refund_b272 N (nI m) (nI p) (nI w) 71 72470 t ch fx g pa = some (nI w, t, ch, (ckI (nI (tierT v (qu m) (v 0 - 1))) (nI d) (fx 7) (g (42 + m)) (g (54 + m))).1, (ckI (nI (tierT v (qu m) (v 0 - 1))) (nI d) (fx 7) (g (42 + m)) (g (54 + m))).2, g', pa)
      ∧ LogM (ckLog m d (ckI (nI (tierT v (qu m) (v 0 - 1))) (nI d) (fx 7) (g (42 + m)) (g (54 + m))) (g (42 + m)) (logAdd (1, nI d, nI m, nI (p - w)) Lg)) g'
      ∧ g' (42 + m) = (ckI (nI (tierT v (qu m) (v 0 - 1))) (nI d) (fx 7) (g (42 + m)) (g (54 + m))).1 ∧ g' (54 + m) = (ckI (nI (tierT v (qu m) (v 0 - 1))) (nI d) (fx 7) (g (42 + m)) (g (54 + m))).2
      ∧ ∀ i, ¬ i = 42 + m → ¬ i = 54 + m → ¬ i = 2 → i < 350 ∨ 470 ≤ i → g' i = g i := by
  have hv3 := hV.1.2.2.2.2.1
  have hm12 : m < 12 := by omega
  have hv6 := hV.2.1.2.2.2.1
  obtain ⟨g6, d1, d2, d3⟩ := M_logs HL 1 (nI m) (nI (p - w)) (N := N) (by omega)
  rw [h0] at d2
  have f0 : g6 0 = nI d := by rw [d3 0 (by omega) (by omega), h0]
  have K5 := B5_same (g' := g6) hV H5 (fun i h1 h2 => d3 i (by omega) (by omega))
  have hq := M_sumUpTo (N := N) K5.2.2 f0 hd hm3 hv3 hv6 (hM 6 (by omega)) (by omega)
  rw [qT_now hdy hv6, ← K5.2.1 m hm3] at hq
  obtain ⟨g7, k1, k2, k3, k4, k5⟩ := M_checksTier d2 hV hM hm12 f0 hN hq
  rw [d3 (42 + m) (by omega) (by omega), d3 (54 + m) (by omega) (by omega)] at k1 k2 k3 k4
  refine ⟨g7, ?_, k2, k3, k4, fun i h1 h2 h3 h4 => by rw [k5 i h1 h2 h3 h4, d3 i h3 h4]⟩
  unfold f_X11_refund_b272
  rw [nI_subI hw, d1, Option.bind_some, k1, Option.bind_some]
/-- the reference takes back, after the takings -/
theorem M_back_mid {v : Nat → Nat} {m d c p w i D : Nat} {Lg : List Co} {dy : Nat → Nat} {cnt ws : Int32} {pr qu fx g pa : Nat → Int32} (hV : SV v) (hM : SM v fx) (HL : LogM Lg g) (H4 : B4 v d c dy cnt pr g) (H5 : B5 v d c dy ws pr qu g) (h0 : g 0 = nI d) (hm3 : m < v 3) (hd : d ≤ 9999) (hi : i < c) (hi2 : c ≤ i + 40) (hb : pr (7 * i) = nI m) (hn : pr (7 * i + 6) = 0) (hw : w ≤ p) (hD : g (18 + m) = nI D) (t ch : Int32) {N : Nat} (hN : 2000 < N) {s0 s1 : Int32} (hs : s0 - s1 = nI w) {qu' g1 : Nat → Int32} (hq' : qu' = if d < dy i + v 6 then upd qu m (qu m + -pr (7 * i + 3)) else qu) (hg1 : ∀ j, j < 12470 → g1 j = upd g (70 + 7 * (i % 40) + 6) 1 j) :
    ∃ g', f_X11_refund_b199 N (nI i) (nI m) (nI (dy i)) (nI p) s0 s1 71 72470 t ch fx g1 pa = some (nI w, t, ch, (ckI (nI (tierT v (qu' m) (v 0 - 1))) (nI d) (fx 7) (g (42 + m)) (g (54 + m))).1, (ckI (nI (tierT v (qu' m) (v 0 - 1))) (nI d) (fx 7) (g (42 + m)) (g (54 + m))).2, g', pa)
      ∧ LogM (ckLog m d (ckI (nI (tierT v (qu' m) (v 0 - 1))) (nI d) (fx 7) (g (42 + m)) (g (54 + m))) (g (42 + m)) (logAdd (1, nI d, nI m, nI (p - w)) Lg)) g'
      ∧ B4 v d c dy cnt (upd pr (7 * i + 6) 1) g' ∧ B5 v d c dy ws (upd pr (7 * i + 6) 1) qu' g'
      ∧ g' (42 + m) = (ckI (nI (tierT v (qu' m) (v 0 - 1))) (nI d) (fx 7) (g (42 + m)) (g (54 + m))).1 ∧ g' (54 + m) = (ckI (nI (tierT v (qu' m) (v 0 - 1))) (nI d) (fx 7) (g (42 + m)) (g (54 + m))).2
      ∧ g' (18 + m) = nI (D + w) ∧ g' 6 = g 6 + nI (p - w) ∧ (∀ j, j < 70 → ¬ j = 42 + m → ¬ j = 54 + m → ¬ j = 18 + m → ¬ j = 6 → ¬ j = 2 → g' j = g j) ∧ ∀ j, 12470 ≤ j → g' j = g1 j := by
  have hv3 := hV.1.2.2.2.2.1
  have hm12 : m < 12 := by omega
  have hdy : ∀ i, i < c → dy i ≤ d := fun i hi => (H4.2.2.2.2.1 i hi).2.1.2
  have hdi := hdy i hi
  have hc := H4.2.1
  have gd6 : ¬ ((6 : Int32) < 0 ∨ 72470 ≤ (6 : Int32).toNatClampNeg) := by decide
  have e1 : (18 : Int32) + nI m = nI (18 + m) := nI_add 18 m
  have gm := grd (i := 18 + m) (n := 72470) (by omega) (by decide)
  have gm2 := grd2 (i := 18 + m) (n := 72470) (by omega) (by decide)
  obtain ⟨g2, hg2⟩ : ∃ g2, g2 = upd g1 6 (g1 6 + nI (p - w)) := ⟨_, rfl⟩
  obtain ⟨g3, hg3⟩ : ∃ g3, g3 = upd g2 (18 + m) (g2 (18 + m) + nI w) := ⟨_, rfl⟩
  have h30 : g3 0 = nI d := by rw [hg3, upd_ne _ _ (by omega), hg2, upd_ne _ _ (by omega), hg1 0 (by omega), upd_ne _ _ (by omega), h0]
  have hg3p : ∀ j, 70 ≤ j → j < 12470 → g3 j = upd g (70 + 7 * (i % 40) + 6) 1 j := fun j a b => by rw [hg3, upd_ne _ _ (by omega), hg2, upd_ne _ _ (by omega), hg1 j b]
  obtain ⟨g4, hg4, hstep⟩ : ∃ g4, (∀ j, g4 j = if d < dy i + 1000 ∧ j = 470 + 1000 * m + dy i % 1000 then g3 j - pr (7 * i + 3) else g3 j) ∧ f_X11_refund_b199 N (nI i) (nI m) (nI (dy i)) (nI p) s0 s1 71 72470 t ch fx g1 pa = f_X11_refund_b272 N (nI m) (nI p) (nI w) 71 72470 t ch fx g4 pa := by
    have e3 : nI (dy i) ≤ nI d - (1000 : Int32) ↔ dy i + 1000 ≤ d := by
      rw [Int32.le_iff_toInt_le, show (1000 : Int32) = nI 1000 from rfl, subI_toInt (by omega) (by decide), nI_toInt (by omega)]; omega
    unfold f_X11_refund_b199
    rw [hs, Option.bind_some, if_neg gd6, if_neg gd6, show (6 : Int32).toNatClampNeg = 6 from rfl, Option.bind_some, nI_subI hw, ← hg2, e1, if_neg gm, if_neg gm, nI_clamp (show 18 + m < 2 ^ 31 by omega), Option.bind_some, ← hg3, M_today, Option.bind_some, h30]
    by_cases h : dy i + 1000 ≤ d
    · refine ⟨g3, fun j => by rw [if_neg (by omega)], ?_⟩
      rw [if_pos (e3.mpr h)]
    · have gb := grd (i := 470 + 1000 * m + dy i % 1000) (n := 72470) (by omega) (by decide)
      have gb2 := grd2 (i := 470 + 1000 * m + dy i % 1000) (n := 72470) (by omega) (by decide)
      have h3b : g3 (70 + 7 * (i % 40) + 3) = pr (7 * i + 3) := by
        rw [hg3p _ (by omega) (by omega), upd_ne _ _ (by omega)]
        exact H4.2.2.2.1 i 3 hi hi2 (by omega)
      refine ⟨upd g3 (470 + 1000 * m + dy i % 1000) (g3 (470 + 1000 * m + dy i % 1000) - pr (7 * i + 3)), fun j => ?_, ?_⟩
      · by_cases hj : j = 470 + 1000 * m + dy i % 1000
        · rw [hj, upd_at, if_pos ⟨by omega, rfl⟩]
        · rw [upd_ne _ _ hj, if_neg (fun hh => hj hh.2)]
      · rw [if_neg (fun hh => h (e3.mp hh)), if_neg (by decide), nI_mod (by omega), show (470 : Int32) = nI 470 from rfl, show (1000 : Int32) = nI 1000 from rfl, nI_mul, nI_add, nI_add, if_neg gb, show (3 : Int32) = nI 3 from rfl, M_bought (by omega) (by omega), Option.bind_some, h3b, nI_clamp (by omega), if_neg gb2, Option.bind_some]
  have hfr : ∀ j, j < 70 → ¬ j = 18 + m → ¬ j = 6 → g4 j = g j := by
    intro j a b c'
    rw [hg4, if_neg (by omega), hg3, upd_ne _ _ b, hg2, upd_ne _ _ c', hg1 j (by omega), upd_ne _ _ (by omega)]
  have HL4 : LogM Lg g4 := LogM_same HL (hfr 2 (by omega) (by omega) (by omega)) (fun j a b => by rw [hg4, if_neg (by omega), hg3p j (by omega) (by omega), upd_ne _ _ (by omega)])
  have K4 := B4_back (g' := g4) H4 hi hi2 (hfr 1 (by omega) (by omega) (by omega)) (fun j a b => by rw [hg4, if_neg (by omega), hg3p j a (by omega)])
  have K5 := B5_back (g' := g4) H5 hV hi hm3 hb hn hdi (fun j a b => by
    have hh : g3 j = g j := by rw [hg3p j (by omega) b, upd_ne _ _ (by omega)]
    rw [hg4, hh])
  rw [← hq'] at K5
  have h40 : g4 0 = nI d := by rw [hfr 0 (by omega) (by omega) (by omega), h0]
  obtain ⟨g', k1, k2, k3, k4, k5⟩ := M_back_end (p := p) (w := w) (pa := pa) hV hM HL4 K5 hdy h40 hm3 hd hw t ch hN
  rw [hfr (42 + m) (by omega) (by omega) (by omega), hfr (54 + m) (by omega) (by omega) (by omega)] at k1 k2 k3 k4
  refine ⟨g', by rw [hstep, k1], k2, B4_same K4 (k5 1 (by omega) (by omega) (by omega) (by omega)) (fun j a b => k5 j (by omega) (by omega) (by omega) (by omega)), B5_same hV K5 (fun j a b => k5 j (by omega) (by omega) (by omega) (by omega)), k3, k4, ?_, ?_, ?_, ?_⟩
  · rw [k5 _ (by omega) (by omega) (by omega) (by omega), hg4, if_neg (by omega), hg3, upd_at, hg2, upd_ne _ _ (by omega), hg1 _ (by omega), upd_ne _ _ (by omega), hD, nI_add]
  · rw [k5 _ (by omega) (by omega) (by omega) (by omega), hg4, if_neg (by omega), hg3, upd_ne _ _ (by omega), hg2, upd_at, hg1 6 (by omega), upd_ne _ _ (by omega)]
  · intro j a b c' d' e f
    rw [k5 j b c' f (by omega), hfr j a d' e]
  · intro j a
    rw [k5 j (by omega) (by omega) (by omega) (by omega), hg4, if_neg (by omega), hg3, upd_ne _ _ (by omega), hg2, upd_ne _ _ (by omega)]

