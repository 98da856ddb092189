/-- the reference buys, from the crediting on -/
theorem M_buy {v : Nat → Nat} {m ct x d c p pooled D e : Nat} {E : List En} {Lg : List Co} {cnt ws : Int32} {dy : Nat → Nat} {pr qu fx g pa : Nat → Int32} (hV : SV v) (hM : SM v fx) (H : MC d E g) (hs : Sor E) (HL : LogM Lg g) (H4 : B4 v d c dy cnt pr g) (H5 : B5 v d c dy ws pr qu g) (h0 : g 0 = nI d) (hm3 : m < v 3) (hct : ct < v 1) (hx : x ≤ 100000) (hd : d ≤ 9999) (hc : c < 512) (hD : g (18 + m) = nI D) (hD2 : D < 2 ^ 31) (hp : p ≤ 2200000) (hpl : pooled ≤ p) (he1 : d < e) (he2 : e ≤ d + 1000) (t ch : Int32) {N : Nat} (hN : 2000 < N) :
    ∃ g', f_X11_purchase_b112 N (nI m) (nI ct) (nI x) (nI p) (nI e) (nI pooled) 71 72470 t ch fx g pa = some (nI p, t, ch, (ckI (nI (tierT v (qu m + nI (baseN v ct x)) (v 0 - 1))) (nI d) (fx 7) (g (42 + m)) (g (54 + m))).1, (ckI (nI (tierT v (qu m + nI (baseN v ct x)) (v 0 - 1))) (nI d) (fx 7) (g (42 + m)) (g (54 + m))).2, g', pa)
      ∧ MC d (addE (mkK m e 0) (p - pooled - min (p - pooled) D) E) g'
      ∧ LogM (ckLog m d (ckI (nI (tierT v (qu m + nI (baseN v ct x)) (v 0 - 1))) (nI d) (fx 7) (g (42 + m)) (g (54 + m))) (g (42 + m)) (logAdd (0, nI d, nI m, nI p) Lg)) g'
      ∧ B4 v d (c + 1) (updN dy c d) (nI (c + 1)) (upd7 pr (7 * c) (nI m) (nI ct) (nI x) (nI (baseN v ct x)) (nI p) (nI d) 0) g'
      ∧ B5 v d (c + 1) (updN dy c d) ws (upd7 pr (7 * c) (nI m) (nI ct) (nI x) (nI (baseN v ct x)) (nI p) (nI d) 0) (upd qu m (qu m + nI (baseN v ct x))) g'
      ∧ g' (42 + m) = (ckI (nI (tierT v (qu m + nI (baseN v ct x)) (v 0 - 1))) (nI d) (fx 7) (g (42 + m)) (g (54 + m))).1 ∧ g' (54 + m) = (ckI (nI (tierT v (qu m + nI (baseN v ct x)) (v 0 - 1))) (nI d) (fx 7) (g (42 + m)) (g (54 + m))).2
      ∧ g' (18 + m) = nI (D - min (p - pooled) D) ∧ g' 7 = g 7 + nI (min (p - pooled) D) ∧ g' 3 = g 3 + nI p ∧ ∀ i, i < 70 → ¬ i = 42 + m → ¬ i = 54 + m → ¬ i = 18 + m → ¬ i = 7 → ¬ i = 3 → ¬ i = 1 → ¬ i = 2 → g' i = g i := by
  have hv3 := hV.1.2.2.2.2.1
  have hm12 : m < 12 := by omega
  have hv6 := hV.2.1.2.2.2.1
  have hdy : ∀ i, i < c + 1 → updN dy c d i ≤ d := by
    intro i hi
    by_cases h : i = c
    · rw [h, updN_at]; exact Nat.le_refl _
    · rw [updN_ne _ _ h]; exact (H4.2.2.2.2.1 i (by omega)).2.1.2
  obtain ⟨g2, a1, a2, a3, a4, a5⟩ := M_credits H hs hd hm12 he1 he2 hD hD2 (n := p - pooled) (by omega)
  have gd3 : ¬ ((3 : Int32) < 0 ∨ 72470 ≤ (3 : Int32).toNatClampNeg) := by decide
  obtain ⟨g3, hg3⟩ : ∃ g3, g3 = upd g2 3 (g2 3 + nI p) := ⟨_, rfl⟩
  have b1 : g3 1 = nI c := by rw [hg3, upd_ne _ _ (by decide), a5 1 (by omega) (by omega) (by omega)]; exact H4.2.2.1
  have b0 : g3 0 = nI d := by rw [hg3, upd_ne _ _ (by decide), a5 0 (by omega) (by omega) (by omega)]; exact h0
  have hw := M_writes (x := x) hV hM hct hx b1 hc (nI m) (nI p)
  rw [b0] at hw
  obtain ⟨g4, hg4⟩ : ∃ g4, g4 = upd (upd7 g3 (70 + 7 * (c % 40)) (nI m) (nI ct) (nI x) (nI (baseN v ct x)) (nI p) (nI d) 0) 1 (nI (c + 1)) := ⟨_, rfl⟩
  rw [← hg4] at hw
  have c0 : g4 0 = nI d := by rw [hg4, upd_ne _ _ (by decide), upd7_ne _ _ _ _ _ _ _ _ (by omega)]; exact b0
  obtain ⟨g5, hg5⟩ : ∃ g5, g5 = upd g4 (470 + 1000 * m + d % 1000) (g4 (470 + 1000 * m + d % 1000) + nI (baseN v ct x)) := ⟨_, rfl⟩
  have hfr5 : ∀ i, i < 70 → ¬ i = 3 → ¬ i = 1 → g5 i = g2 i := by
    intro i h1 h2 h3
    rw [hg5, upd_ne _ _ (by omega), hg4, upd_ne _ _ h3, upd7_ne _ _ _ _ _ _ _ _ (by omega), hg3, upd_ne _ _ h2]
  have hL5 : LogM Lg g5 := by
    refine LogM_same HL ?_ (fun i h1 h2 => ?_)
    · rw [hfr5 2 (by omega) (by decide) (by decide), a5 2 (by omega) (by omega) (by omega)]
    · rw [hg5, upd_ne _ _ (by omega), hg4, upd_ne _ _ (by omega), upd7_ne _ _ _ _ _ _ _ _ (by omega), hg3, upd_ne _ _ (by omega), a5 i (by omega) (by omega) (by omega)]
  obtain ⟨g6, d1, d2, d3⟩ := M_logs hL5 0 (nI m) (nI p) (N := N) (by omega)
  have e0 : g5 0 = nI d := by rw [hg5, upd_ne _ _ (by omega), c0]
  rw [e0] at d2
  have f0 : g6 0 = nI d := by rw [d3 0 (by omega) (by omega), e0]
  have h45 : ∀ i, 70 ≤ i → i < 350 → g6 i = upd7 g (70 + 7 * (c % 40)) (nI m) (nI ct) (nI x) (nI (baseN v ct x)) (nI p) (nI d) 0 i := by
    intro i h1 h2
    rw [d3 i (by omega) (by omega), hg5, upd_ne _ _ (by omega), hg4, upd_ne _ _ (by omega)]
    have hgg : g3 i = g i := by rw [hg3, upd_ne _ _ (by omega), a5 i (by omega) (by omega) (by omega)]
    by_cases hh : i < 70 + 7 * (c % 40) ∨ 70 + 7 * (c % 40) + 7 ≤ i
    · rw [upd7_ne _ _ _ _ _ _ _ _ hh, upd7_ne _ _ _ _ _ _ _ _ hh, hgg]
    · obtain ⟨w, hw1, hw2⟩ : ∃ w, w < 7 ∧ i = 70 + 7 * (c % 40) + w := ⟨i - (70 + 7 * (c % 40)), by omega, by omega⟩
      rw [hw2]
      exact upd7_eq g3 g _ _ _ _ _ _ _ hw1
  have g61 : g6 1 = nI (c + 1) := by rw [d3 1 (by omega) (by omega), hg5, upd_ne _ _ (by omega), hg4, upd_at]
  have K4 := B4_add (g' := g6) H4 hc hm3 hp (nI ct) (nI x) (nI (baseN v ct x)) g61 h45
  have K5 := B5_add (g' := g6) H5 hV (fun i hi => (H4.2.2.2.2.1 i hi).2.1.2) hm3 (b := baseN v ct x) (nI ct) (nI x) (nI p) (nI d) (fun i h1 h2 => by
    have hgg : g4 i = g i := by rw [hg4, upd_ne _ _ (by omega), upd7_ne _ _ _ _ _ _ _ _ (by omega), hg3, upd_ne _ _ (by omega), a5 i (by omega) (by omega) (by omega)]
    rw [d3 i (by omega) (by omega), hg5]
    by_cases hh : i = 470 + 1000 * m + d % 1000
    · rw [if_pos hh, hh, upd_at, ← hh, hgg]
    · rw [if_neg hh, upd_ne _ _ hh, hgg])
  have hq := M_sumUpTo (N := N) K5.2.2 f0 hd hm3 hv3 hv6 (hM 6 (by omega)) (by omega)
  rw [qT_now hdy hv6, ← K5.2.1 m hm3, upd_at] at hq
  obtain ⟨g7, k1, k2, k3, k4, k5⟩ := M_checksTier d2 hV hM hm12 f0 hN hq
  have r1 : g6 (42 + m) = g (42 + m) := by rw [d3 _ (by omega) (by omega), hfr5 _ (by omega) (by omega) (by omega), a5 _ (by omega) (by omega) (by omega)]
  have r2 : g6 (54 + m) = g (54 + m) := by rw [d3 _ (by omega) (by omega), hfr5 _ (by omega) (by omega) (by omega), a5 _ (by omega) (by omega) (by omega)]
  rw [r1, r2] at k1 k2 k3 k4
  refine ⟨g7, ?_, ?_, k2, ?_, ?_, k3, k4, ?_, ?_, ?_, ?_⟩
  · unfold f_X11_purchase_b112
    have gb := grd (i := 470 + 1000 * m + d % 1000) (n := 72470) (by omega) (by decide)
    have gb2 := grd2 (i := 470 + 1000 * m + d % 1000) (n := 72470) (by omega) (by decide)
    rw [nI_subI hpl, a1, Option.bind_some, if_neg gd3, if_neg gd3, Option.bind_some, show (3 : Int32).toNatClampNeg = 3 from rfl]
    dsimp only
    rw [← hg3, hw, Option.bind_some, M_today, Option.bind_some, if_neg (by decide), c0, nI_mod (by omega), show (470 : Int32) = nI 470 from rfl, show (1000 : Int32) = nI 1000 from rfl, nI_mul, nI_add, nI_add, if_neg gb, M_baseOf hV hM hct hx, Option.bind_some, nI_clamp (by omega), if_neg gb2, Option.bind_some, ← hg5, d1, Option.bind_some, k1, Option.bind_some]
  · refine MC_same a2 (fun i h1 h2 => ?_)
    rw [k5 i (by omega) (by omega) (by omega) (by omega), d3 i (by omega) (by omega), hg5, upd_ne _ _ (by omega), hg4, upd_ne _ _ (by omega), upd7_ne _ _ _ _ _ _ _ _ (by omega), hg3, upd_ne _ _ (by omega)]
  · exact B4_same K4 (k5 1 (by omega) (by omega) (by omega) (by omega)) (fun i h1 h2 => k5 i (by omega) (by omega) (by omega) (by omega))
  · exact B5_same hV K5 (fun i h1 h2 => k5 i (by omega) (by omega) (by omega) (by omega))
  · rw [k5 _ (by omega) (by omega) (by omega) (by omega), d3 _ (by omega) (by omega), hfr5 _ (by omega) (by omega) (by omega), a3]
  · rw [k5 _ (by omega) (by omega) (by omega) (by omega), d3 _ (by omega) (by omega), hfr5 _ (by omega) (by omega) (by omega), a4]
  · rw [k5 _ (by omega) (by omega) (by omega) (by omega), d3 _ (by omega) (by omega), hg5, upd_ne _ _ (by omega), hg4, upd_ne _ _ (by omega), upd7_ne _ _ _ _ _ _ _ _ (by omega), hg3, upd_at, a5 3 (by omega) (by omega) (by omega)]
  · intro i h1 h2 h3 h4 h5 h6 h7 h8
    rw [k5 i h2 h3 h8 (by omega), d3 i h8 (by omega), hfr5 i h1 h6 h7, a5 i (by omega) h4 h5]

