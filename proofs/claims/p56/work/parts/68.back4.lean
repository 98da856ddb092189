theorem stg_out {q : Nat → Bool} {x : Nat × (List En × Unit)} (h : ∀ y ∈ x.2.1, q y.1 = false) : stg q x = x := by
  unfold stg
  rw [itN_out h]
/-- the third and the fourth taking -/
theorem M_take34 {d m ho w : Nat} {g0 g : Nat → Int32} {S : List En × Unit} (H : RN d g0 S g) (hs : Sor S.1) (hd : d ≤ 9999) (h0 : g0 0 = nI d) (hm : m < 12) (hho : ho ≤ 4) (hw : w < 2 ^ 31) {N : Nat} (hN : 2000 < N) (x1 x3 x4 t ch : Int32) (fx pa : Nat → Int32) : ∃ s0 s1 g', f_X11_refund_b166 N x1 (nI m) x3 x4 (cI ho) (nI w) 71 72470 t ch fx g pa = f_X11_refund_b199 N x1 (nI m) x3 x4 s0 s1 71 72470 t ch fx g' pa ∧ s0 - s1 = nI (stg (qK (if ho = 0 then -1 else nI (11 + ho)) (-2) (nI m)) (stg (qK (nI m) (-2) (-2)) (w, S))).1 ∧ RN d g0 (stg (qK (if ho = 0 then -1 else nI (11 + ho)) (-2) (nI m)) (stg (qK (nI m) (-2) (-2)) (w, S))).2 g' := by
  have hv := H.2.1
  have hD := H.2.2.1
  have hg0 : g 0 = nI d := by rw [H.2.2.2.2 0 (by omega), h0]
  obtain ⟨g1, a1, b1⟩ := M_takesFromAccount (RN_self H) hs hd hg0 hm hw hN (q := qK (nI m) (-2) (-2)) (fun e h1 h2 => by rw [qK_list (by omega) (by rw [kL_mk (by omega) (by omega)]; omega), kL_mk (by omega) (by omega), decide_eq_true rfl]) (fun y hy hq => qA_key hv hD hm y hy (by rw [qK_list (by omega) (hv y hy).1.1] at hq; exact hq)) (r := S.1.length) cntE_le
  have b1' : RN d g0 (stg (qK (nI m) (-2) (-2)) (w, S)).2 g1 := ⟨b1.1, b1.2.1, b1.2.2.1, b1.2.2.2.1, fun i hi => by rw [b1.2.2.2.2 i hi, H.2.2.2.2 i hi]⟩
  obtain ⟨c1, c2, c3, c4, c5⟩ := itN_ok (qK (nI m) (-2) (-2)) S.1.length w S hs hv
  obtain ⟨x, hx⟩ : ∃ x, x = stg (qK (nI m) (-2) (-2)) (w, S) := ⟨_, rfl⟩
  have hx1 : itG (qK (nI m) (-2) (-2)) actN S.1.length w S = x := by rw [hx]; rfl
  have a1' : f_X11_takesFromAccount N (nI m) (nI w) 72470 g = some (nI w - nI x.1, g1) := by rw [a1]; rw [← hx1]
  rw [← hx] at b1' ⊢
  rw [hx1] at c1 c2 c4
  unfold f_X11_refund_b166
  rw [a1', Option.bind_some, subI_self, Option.bind_some]
  by_cases h : ho = 0
  · rw [if_pos (by rw [h]; rfl), if_pos h]
    have hout : stg (qK (-1) (-2) (nI m)) x = x := stg_out (fun y hy => qK_none (c2 y hy).1.1)
    refine ⟨nI x.1, 0, g1, rfl, by rw [hout, Int32.sub_zero], by rw [hout]; exact b1'⟩
  · obtain ⟨q, hq⟩ : ∃ q, ho = q + 1 := ⟨ho - 1, by omega⟩
    have h3 : cI ho = nI q := by rw [hq]; rfl
    have h11 : 11 + ho = 12 + q := by omega
    rw [if_neg (fun hh => h ((cI_none (by omega)).mp hh)), if_neg h, h3, h11]
    have hg1 : g1 0 = nI d := by rw [b1'.2.2.2.2 0 (by omega), h0]
    obtain ⟨g2, a2, b2⟩ := M_takesOwn (RN_self b1') c1 hd hg1 (show q < 4 by omega) hm (w := x.1) (by omega) hN (q := qK (nI (12 + q)) (-2) (nI m)) (fun e h1 h2 => by rw [qK_listc (by omega) hm (by rw [kL_mk (by omega) (by omega)]; omega), kL_mk (by omega) (by omega), kC_mk (by omega), decide_eq_true rfl, decide_eq_true rfl]; rfl) (fun y hy hq => qP_key b1'.2.2.1 y hy (by rw [qK_listc (by omega) hm (c2 y hy).1.1] at hq; exact hq)) (r := x.2.1.length) cntE_le
    rw [a2, Option.bind_some]
    exact ⟨nI x.1, nI x.1 - nI (itG (qK (nI (12 + q)) (-2) (nI m)) actN x.2.1.length x.1 x.2).1, g2, rfl, subI_self _ _, b2.1, b2.2.1, b2.2.2.1, b2.2.2.2.1, fun i hi => by rw [b2.2.2.2.2 i hi, b1'.2.2.2.2 i hi]⟩
/-- the reference takes back, after its checks -/
theorem M_refund {v : Nat → Nat} {m d c p i D ho : Nat} {E : List En} {Lg : List Co} {dy : Nat → Nat} {cnt ws : Int32} {pr qu fx g pa pa' : Nat → Int32} {ch ch' rk bl : Int32} (hV : SV v) (hM : SM v fx) (HC : MC d E g) (hs : Sor E) (hv : ∀ x ∈ E, VK x.1 ∧ 1 ≤ x.2) (HE : EV v d E) (hsum : sumP E < 2 ^ 31) (HL : LogM Lg g) (H4 : B4 v d c dy cnt pr g) (H5 : B5 v d c dy ws pr qu g) (h0 : g 0 = nI d) (hm3 : m < v 3) (hd : d ≤ 9999) (hi : i < c) (hi2 : c ≤ i + 40) (hb : pr (7 * i) = nI m) (h4 : pr (7 * i + 4) = nI p) (hp : p ≤ 2200000) (hn : pr (7 * i + 6) = 0) (hho : g (30 + m) = cI ho) (hho2 : ho ≤ v 4) (hD : g (18 + m) = nI D) {N : Nat} (hN : 2000 < N) (hr : f_X11_remembers N 72470 579760 ch g pa = some (ch', pa')) {F : Nat × (List En × Unit)} (hF : F = four (qK (nI m) (nI (dy i + v 5)) (-2)) (qK (if ho = 0 then -1 else nI (11 + ho)) (nI (dy i + v 5)) (nI m)) (qK (nI m) (-2) (-2)) (qK (if ho = 0 then -1 else nI (11 + ho)) (-2) (nI m)) p E) (hF1 : F.1 ≤ p) {qu' : Nat → Int32} (hq' : qu' = if d < dy i + v 6 then upd qu m (qu m + -pr (7 * i + 3)) else qu) :
    ∃ g', f_X11_refund N (nI i) 71 72470 579760 ch rk bl fx g pa = some (nI F.1, 0, ch', (ckI (nI (tierT v (qu' m) (v 0 - 1))) (nI d) (fx 7) (g (42 + m)) (g (54 + m))).1, (ckI (nI (tierT v (qu' m) (v 0 - 1))) (nI d) (fx 7) (g (42 + m)) (g (54 + m))).2, g', pa')
      ∧ MC d F.2.1 g' ∧ LogM (ckLog m d (ckI (nI (tierT v (qu' m) (v 0 - 1))) (nI d) (fx 7) (g (42 + m)) (g (54 + m))) (g (42 + m)) (logAdd (1, nI d, nI m, nI (p - F.1)) Lg)) g'
      ∧ B4 v d c dy cnt (upd pr (7 * i + 6) 1) g' ∧ B5 v d c dy ws (upd pr (7 * i + 6) 1) qu' g'
      ∧ g' (42 + m) = (ckI (nI (tierT v (qu' m) (v 0 - 1))) (nI d) (fx 7) (g (42 + m)) (g (54 + m))).1 ∧ g' (54 + m) = (ckI (nI (tierT v (qu' m) (v 0 - 1))) (nI d) (fx 7) (g (42 + m)) (g (54 + m))).2
      ∧ g' (18 + m) = nI (D + F.1) ∧ g' 6 = g 6 + nI (p - F.1) ∧ ∀ j, j < 70 → ¬ j = 42 + m → ¬ j = 54 + m → ¬ j = 18 + m → ¬ j = 6 → ¬ j = 2 → g' j = g j := by
  have hv3 := hV.1.2.2.2.2.1
  have hv4 := hV.1.2.2.2.2.2
  have hv5 := hV.2.1.2.1
  have hm12 : m < 12 := by omega
  have hc := H4.2.1
  have hdi := (H4.2.2.2.2.1 i hi).2.1
  have gi := grd (i := 70 + 7 * (i % 40) + 6) (n := 72470) (by omega) (by decide)
  obtain ⟨g1, hg1⟩ : ∃ g1, g1 = upd g (70 + 7 * (i % 40) + 6) 1 := ⟨_, rfl⟩
  have hgf : ∀ j, j < 70 → g1 j = g j := fun j hj => by rw [hg1, upd_ne _ _ (by omega)]
  have HD : DE d E := fun x hx => by have := (HE x hx).1; omega
  have HR : RN d g1 (E, ()) g1 := ⟨MC_same HC (fun j a b => by rw [hg1, upd_ne _ _ (by omega)]), hv, HD, hsum, fun _ _ => rfl⟩
  have r0 : g1 (70 + 7 * (i % 40) + 0) = nI m := by
    rw [hg1, upd_ne _ _ (by omega), H4.2.2.2.1 i 0 hi hi2 (by omega), Nat.add_zero, hb]
  have r5 : g1 (70 + 7 * (i % 40) + 5) = nI (dy i) := by
    rw [hg1, upd_ne _ _ (by omega), H4.2.2.2.1 i 5 hi hi2 (by omega), hdi.1]
  have r4 : g1 (70 + 7 * (i % 40) + 4) = nI p := by
    rw [hg1, upd_ne _ _ (by omega), H4.2.2.2.1 i 4 hi hi2 (by omega), h4]
  have r6 : g (70 + 7 * (i % 40) + 6) = 0 := by rw [H4.2.2.2.1 i 6 hi hi2 (by omega), hn]
  have e1 : (30 : Int32) + nI m = nI (30 + m) := nI_add 30 m
  have gm := grd (i := 30 + m) (n := 72470) (by omega) (by decide)
  obtain ⟨x2, g2, hx2, hstep, HR2, hs2, hw2⟩ : ∃ x2 g2, x2 = stg (qK (if ho = 0 then -1 else nI (11 + ho)) (nI (dy i + v 5)) (nI m)) (stg (qK (nI m) (nI (dy i + v 5)) (-2)) (p, (E, ()))) ∧ f_X11_refund N (nI i) 71 72470 579760 ch rk bl fx g pa = f_X11_refund_b166 N (nI i) (nI m) (nI (dy i)) (nI p) (cI ho) (nI x2.1) 71 72470 0 ch' fx g2 pa' ∧ RN d g1 x2.2 g2 ∧ Sor x2.2.1 ∧ x2.1 ≤ p := by
    have hpre : f_X11_refund N (nI i) 71 72470 579760 ch rk bl fx g pa = (if nI (dy i + v 5) ≤ nI d then f_X11_refund_b166 N (nI i) (nI m) (nI (dy i)) (nI p) (cI ho) (nI p) 71 72470 0 ch' fx g1 pa' else ((f_X11_accountAt (nI m) (nI (dy i + v 5))).bind fun r126 => ((f_X11_takesAt r126 (nI p) 72470 g1).bind fun r131 => ((some (nI p - r131.1)).bind fun y135 => (if cI ho = (-1 : Int32) then (f_X11_refund_b163 N (nI i) (nI m) (nI (dy i)) (nI p) (cI ho) y135 (0 : Int32) 71 72470 0 ch' fx r131.2 pa') else ((f_X11_poolAt (cI ho) (nI (dy i + v 5)) (nI m)).bind fun r155 => ((f_X11_takesAt r155 y135 72470 r131.2).bind fun r160 => (f_X11_refund_b163 N (nI i) (nI m) (nI (dy i)) (nI p) (cI ho) y135 r160.1 71 72470 0 ch' fx r160.2 pa')))))))) := by
      have z6 : f_X11_bought (nI i) 6 72470 g = some (g (70 + 7 * (i % 40) + 6)) := M_bought (w := 6) (by omega) (by omega)
      have z0 : f_X11_bought (nI i) 0 72470 g1 = some (g1 (70 + 7 * (i % 40) + 0)) := M_bought (w := 0) (by omega) (by omega)
      have z5 : f_X11_bought (nI i) 5 72470 g1 = some (g1 (70 + 7 * (i % 40) + 5)) := M_bought (w := 5) (by omega) (by omega)
      have z4 : f_X11_bought (nI i) 4 72470 g1 = some (g1 (70 + 7 * (i % 40) + 4)) := M_bought (w := 4) (by omega) (by omega)
      unfold f_X11_refund f_X11_refund_b29
      rw [M_isBought H4.2.2.1 (by omega), Option.bind_some, if_neg (show ¬ (nI i < nI (c - 40) ∨ nI c ≤ nI i) by rw [nI_ltI (by omega) (by omega), nI_leI (by omega) (by omega)]; omega), if_neg (by decide), z6, Option.bind_some, r6, if_neg (by decide), if_pos (Int32.le_refl 0), hr, Option.bind_some, if_neg (by decide), nI_mod40 (by omega), show (70 : Int32) = nI 70 from rfl, show (7 : Int32) = nI 7 from rfl, nI_mul, nI_add, show nI (70 + 7 * (i % 40)) + (6 : Int32) = nI (70 + 7 * (i % 40) + 6) from nI_add _ 6, if_neg gi, nI_clamp (by omega), Option.bind_some, ← hg1, z0, Option.bind_some, z5, Option.bind_some, z4, Option.bind_some, r0, r5, r4, if_neg (by decide), show (5 : Int32).toNatClampNeg = 5 from rfl, hM 5 (by omega), nI_add, Option.bind_some, e1, if_neg gm, nI_clamp (by omega), Option.bind_some, hgf _ (by omega), hho, M_today, Option.bind_some, hgf 0 (by omega), h0]
    by_cases he : dy i + v 5 ≤ d
    · refine ⟨(p, (E, ())), g1, ?_, ?_, HR, hs, Nat.le_refl _⟩
      · have o1 : stg (qK (nI m) (nI (dy i + v 5)) (-2)) (p, (E, ())) = (p, (E, ())) := stg_out (fun y hy => by
          have := (HE y hy).1
          rw [qK_listday (by omega) (by omega) (hv y hy).1.1, decide_eq_false (show ¬ kD y.1 = dy i + v 5 by omega), Bool.and_false])
        rw [o1]
        by_cases h : ho = 0
        · rw [if_pos h, stg_out (fun y hy => qK_none (hv y hy).1.1)]
        · rw [if_neg h, stg_out (fun y hy => by
            have := (HE y hy).1
            rw [qK_all (by omega) (by omega) hm12 (hv y hy).1.1, decide_eq_false (show ¬ kD y.1 = dy i + v 5 by omega), Bool.false_and, Bool.and_false])]
      · rw [hpre, if_pos ((nI_leI (by omega) (by omega)).mpr he)]
    · obtain ⟨ga, a1, b1⟩ := M_oneA HR hs hd hm12 (e := dy i + v 5) (w := p) (by omega) (by omega) (by omega) (q := qK (nI m) (nI (dy i + v 5)) (-2)) (by rw [qK_listday (by omega) (by omega) (by rw [kL_mk (by omega) (by omega)]; omega), kL_mk (by omega) (by omega), kD_mk (by omega) (by omega), decide_eq_true rfl, decide_eq_true rfl]; rfl) (fun y hy hq => by
        rw [qK_listday (by omega) (by omega) (hv y hy).1.1, Bool.and_eq_true] at hq
        have q1 := of_decide_eq_true hq.1
        have q2 := of_decide_eq_true hq.2
        have q3 := (hv y hy).1.2.2.1 (by omega)
        rw [← mk_k y.1, q1, q2, q3]) (r := E.length) cntE_le
      obtain ⟨c1, c2, c3, c4, c5⟩ := itN_ok (qK (nI m) (nI (dy i + v 5)) (-2)) E.length p (E, ()) hs hv
      obtain ⟨x1, hx1⟩ : ∃ x1, x1 = stg (qK (nI m) (nI (dy i + v 5)) (-2)) (p, (E, ())) := ⟨_, rfl⟩
      have hx1' : itG (qK (nI m) (nI (dy i + v 5)) (-2)) actN E.length p (E, ()) = x1 := by rw [hx1]; rfl
      rw [hx1'] at a1 b1 c1 c2 c4
      rw [← hx1]
      have hsub : nI p - nI (p - x1.1) = nI x1.1 := by rw [nI_subI (by omega)]; congr 1; omega
      rw [if_neg (fun hh => he ((nI_leI (by omega) (by omega)).mp hh)), M_accountAt (by omega), Option.bind_some, a1, Option.bind_some, hsub, Option.bind_some] at hpre
      by_cases h : ho = 0
      · rw [if_pos (by rw [h]; rfl)] at hpre
        refine ⟨x1, ga, ?_, ?_, b1, c1, c4⟩
        · rw [if_pos h, stg_out (fun y hy => qK_none (c2 y hy).1.1)]
        · rw [hpre]
          unfold f_X11_refund_b163
          rw [Int32.sub_zero, Option.bind_some]
      · obtain ⟨q, hq⟩ : ∃ q, ho = q + 1 := ⟨ho - 1, by omega⟩
        have h3 : cI ho = nI q := by rw [hq]; rfl
        have h11 : 11 + ho = 12 + q := by omega
        obtain ⟨gb, a2, b2⟩ := M_oneP b1 c1 hd (show q < 4 by omega) hm12 (e := dy i + v 5) (w := x1.1) (by omega) (by omega) (by omega) (q := qK (nI (12 + q)) (nI (dy i + v 5)) (nI m)) (by rw [qK_all (by omega) (by omega) hm12 (by rw [kL_mk (by omega) (by omega)]; omega), kL_mk (by omega) (by omega), kD_mk (by omega) (by omega), kC_mk (by omega), decide_eq_true rfl, decide_eq_true rfl, decide_eq_true rfl]; rfl) (fun y hy hq => by
          rw [qK_all (by omega) (by omega) hm12 (c2 y hy).1.1, Bool.and_eq_true, Bool.and_eq_true] at hq
          have q1 := of_decide_eq_true hq.1
          have q2 := of_decide_eq_true hq.2.1
          have q3 := of_decide_eq_true hq.2.2
          rw [← mk_k y.1, q1, q2, q3]) (r := x1.2.1.length) cntE_le
        obtain ⟨f1, f2, f3, f4, f5⟩ := itN_ok (qK (nI (12 + q)) (nI (dy i + v 5)) (nI m)) x1.2.1.length x1.1 x1.2 c1 c2
        refine ⟨stg (qK (nI (12 + q)) (nI (dy i + v 5)) (nI m)) x1, gb, by rw [if_neg h, h11], ?_, b2, f1, Nat.le_trans f4 c4⟩
        rw [if_neg (fun hh => h ((cI_none (by omega)).mp hh)), h3, M_poolAt (by omega), Option.bind_some, a2, Option.bind_some] at hpre
        rw [hpre, h3]
        unfold f_X11_refund_b163
        have hle : (stg (qK (nI (12 + q)) (nI (dy i + v 5)) (nI m)) x1).1 ≤ x1.1 := f4
        have hsub2 : nI x1.1 - nI (x1.1 - (itG (qK (nI (12 + q)) (nI (dy i + v 5)) (nI m)) actN x1.2.1.length x1.1 x1.2).1) = nI (stg (qK (nI (12 + q)) (nI (dy i + v 5)) (nI m)) x1).1 := by
          show nI x1.1 - nI (x1.1 - (stg (qK (nI (12 + q)) (nI (dy i + v 5)) (nI m)) x1).1) = _
          rw [nI_subI (by omega)]; congr 1; omega
        rw [hsub2, Option.bind_some]
  obtain ⟨s0, s1, g3, a3, b3, c3⟩ := M_take34 HR2 hs2 hd (by rw [hgf 0 (by omega), h0]) hm12 (show ho ≤ 4 by omega) (w := x2.1) (by omega) hN (nI i) (nI (dy i)) (nI p) 0 ch' fx pa'
  have hx4 : stg (qK (if ho = 0 then -1 else nI (11 + ho)) (-2) (nI m)) (stg (qK (nI m) (-2) (-2)) (x2.1, x2.2)) = F := by
    rw [hF]
    unfold four
    rw [← hx2]
  rw [hx4] at b3 c3
  obtain ⟨g', k1, k2, k3, k4, k5, k6, k7, k8, k9, k10⟩ := M_back_mid (pa := pa') (g1 := g3) hV hM HL H4 H5 h0 hm3 hd hi hi2 hb hn hF1 hD 0 ch' hN b3 hq' (fun j hj => by rw [c3.2.2.2.2 j hj, hg1])
  exact ⟨g', by rw [hstep, a3, k1], MC_same c3.1 (fun j a b => k10 j a), k2, k3, k4, k5, k6, k7, k8, k9⟩

