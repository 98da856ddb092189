theorem sumN_zero {f : Nat → Nat} : ∀ (j a : Nat), (∀ b, a ≤ b → b < a + j → f b = 0) → sumN f (a + j) = sumN f a
  | 0, _, _ => rfl
  | j + 1, a, h => by
    rw [show a + (j + 1) = a + j + 1 by omega, sumN, sumN_zero j a (fun b h1 h2 => h b h1 (by omega)), h (a + j) (by omega) (by omega)]; rfl
theorem PZ_to {v : Nat → Nat} {d A : Nat} {E : List En} {Lg : List Co} {g0 g : Nat → Int32} (hd : d ≤ 9999) : ∀ (j a : Nat), PZ v d E Lg g0 a 0 A g → (∀ b, a ≤ b → b < a + j → lossN E (d + 1) b = 0 ∧ (∀ k, kL k = b → pt E k = 0) ∧ (b < 12 → ¬ b < v 3)) → PZ v d E Lg g0 (a + j) 0 A g
  | 0, _, H, _ => H
  | j + 1, a, H, h => by
    have h1 := PZ_to hd j a H (fun b b1 b2 => h b b1 (by omega))
    obtain ⟨c1, c2, c3⟩ := h (a + j) (by omega) (by omega)
    exact PZ_skip h1 c1 c2 c3 hd
/-- ranks stay ranks -/
theorem tsA_rank {v : Nat → Nat} {qu : Nat → Int32} {d : Nat} {gr : Int32} {S : T_TS} (hV : SV v) (h : ∀ i, i < 12 → ∃ t, t < v 0 ∧ S.1 i = nI t) : ∀ m, ∀ i, i < 12 → ∃ t, t < v 0 ∧ (tsA v qu d gr S m).1 i = nI t
  | 0, i, hi => h i hi
  | m + 1, i, hi => by
    have ih := tsA_rank (qu := qu) (d := d) (gr := gr) hV h m
    have hv0 := hV.1.1
    show ∃ t, t < v 0 ∧ upd (tsA v qu d gr S m).1 m (tsK v qu d gr m (tsA v qu d gr S m)).1 i = nI t
    by_cases e : i = m
    · rw [e, upd_at]
      unfold tsK
      cases ckI_rank (nI (tierT v (qu m) (v 0 - 1))) (nI d) gr ((tsA v qu d gr S m).1 m) ((tsA v qu d gr S m).2.1 m) with
      | inl r => rw [r]; exact ih m (by omega)
      | inr r => rw [r]; exact ⟨_, by have := tierT_le (v := v) (x := qu m) (k := v 0 - 1); omega, rfl⟩
    · rw [upd_ne _ _ e]
      exact ih i hi
/-- the reference's day -/
theorem M_day {v : Nat → Nat} {d c : Nat} {E : List En} {Lg : List Co} {dy : Nat → Nat} {fx g pr qu ti be : Nat → Int32} (hV : SV v) (hM : SM v fx) (HC : MC d E g) (hs : Sor E) (hv : ∀ x ∈ E, VK x.1 ∧ 1 ≤ x.2) (hE : EV v d E) (hsum : sumP E < 2 ^ 31) (HL : LogM Lg g) (h0 : g 0 = nI d) (hd : d + 1 ≤ 9999) (hB : BaM (v 3) d (bD pr dy c) g) (hdy : ∀ i, i < c → dy i ≤ d) (hq : ∀ m, m < v 3 → qu m = qT pr dy c (v 6) m (d + 1)) (hti : ∀ m, m < 12 → g (42 + m) = ti m ∧ g (54 + m) = be m) {N : Nat} (hN : 2000 < N) (rk bl : Int32) : ∃ g' rk' bl', f_X11_passes N 71 72470 rk bl fx g = some (nI (sumN (lossN E (d + 1)) 16), rk', bl', g') ∧ MC (d + 1) (E.filter (fun x => decide (d + 1 < kD x.1))) g' ∧ LogM (tsA v qu (d + 1) (fx 7) (ti, be, expL E (d + 1) Lg 16) (v 3)).2.2 g' ∧ (∀ i, i < 12 → g' (42 + i) = (tsA v qu (d + 1) (fx 7) (ti, be, expL E (d + 1) Lg 16) (v 3)).1 i ∧ g' (54 + i) = (tsA v qu (d + 1) (fx 7) (ti, be, expL E (d + 1) Lg 16) (v 3)).2.1 i) ∧ BaM (v 3) (d + 1) (bD pr dy c) g' ∧ g' 0 = nI (d + 1) ∧ g' 5 = g 5 + nI (sumN (lossN E (d + 1)) 16) ∧ ∀ i, i < 350 → ¬ i = 0 → ¬ i = 5 → ¬ i = 2 → i < 42 ∨ 66 ≤ i → g' i = g i := by
  have hv3 := hV.1.2.2.2.2.1
  have hv4 := hV.1.2.2.2.2.2
  have hv5 := hV.2.1.2.1
  have hv6 := hV.2.1.2.2.2.1
  have hd' : d ≤ 9999 := by omega
  have gd0 : ¬ ((0 : Int32) < 0 ∨ 72470 ≤ (0 : Int32).toNatClampNeg) := by decide
  obtain ⟨g1, hg1⟩ : ∃ g1, g1 = upd g 0 (nI (d + 1)) := ⟨_, rfl⟩
  have HP : PZ v d E Lg g 0 0 (sumN (lossN E (d + 1)) 0) g1 := by
    refine ⟨fun m e a b c => ?_, fun h e m a b c d' => ?_, fun m r a b => ?_, by rw [hg1, upd_at], ?_, LogM_same HL (by rw [hg1, upd_ne _ _ (by omega)]) (fun i a b => by rw [hg1, upd_ne _ _ (by omega)]), fun i a b c d' => by rw [hg1, upd_ne _ _ b]⟩
    · rw [hg1, upd_ne _ _ (by unfold acI; omega), if_neg (by omega)]; exact HC.1 m e a b c
    · rw [hg1, upd_ne _ _ (by unfold poI; omega), if_neg (by omega)]; exact HC.2 h e m a b c d'
    · rw [hg1, upd_ne _ _ (by omega), if_neg (by omega)]
    · rw [hg1, upd_ne _ _ (by omega), sumN, nI_0, Int32.add_zero]
  obtain ⟨g2, a1, a2⟩ := M_pass_acc hV hM hs hv hE hsum hd' rk bl hN N 0 g1 (Nat.zero_le _) (by omega) HP
  have a3 : PZ v d E Lg g (12 + 0) 0 (sumN (lossN E (d + 1)) (12 + 0)) g2 := by
    have h1 := PZ_to hd' (12 - v 3) (v 3) a2 (fun b b1 b2 => by
      obtain ⟨c1, c2⟩ := loss_none hv hE (a := b) (Or.inl ⟨by omega, b1⟩)
      exact ⟨c1 _, c2, fun _ => by omega⟩)
    rw [show v 3 + (12 - v 3) = 12 by omega] at h1
    have h2 := sumN_zero (f := lossN E (d + 1)) (12 - v 3) (v 3) (fun b b1 b2 => (loss_none hv hE (a := b) (Or.inl ⟨by omega, b1⟩)).1 _)
    rw [show v 3 + (12 - v 3) = 12 by omega] at h2
    rw [Nat.add_zero, h2]
    exact h1
  have h12s : sumN (lossN E (d + 1)) (v 3) = sumN (lossN E (d + 1)) (12 + 0) := by
    have h2 := sumN_zero (f := lossN E (d + 1)) (12 - v 3) (v 3) (fun b b1 b2 => (loss_none hv hE (a := b) (Or.inl ⟨by omega, b1⟩)).1 _)
    rw [show v 3 + (12 - v 3) = 12 by omega] at h2
    rw [Nat.add_zero, h2]
  obtain ⟨g3, c1, c2⟩ := M_pass_pools hV hM hs hv hE hsum hd' rk bl hN N 0 g2 (Nat.zero_le _) (by omega) a3
  have h16s : sumN (lossN E (d + 1)) (12 + v 4) = sumN (lossN E (d + 1)) 16 := by
    have h2 := sumN_zero (f := lossN E (d + 1)) (4 - v 4) (12 + v 4) (fun b b1 b2 => (loss_none hv hE (a := b) (Or.inr ⟨by omega, by omega⟩)).1 _)
    rw [show 12 + v 4 + (4 - v 4) = 16 by omega] at h2
    exact h2.symm
  have c3 : PZ v d E Lg g 16 0 (sumN (lossN E (d + 1)) 16) g3 := by
    have h1 := PZ_to hd' (4 - v 4) (12 + v 4) c2 (fun b b1 b2 => by
      obtain ⟨e1, e2⟩ := loss_none hv hE (a := b) (Or.inr ⟨by omega, by omega⟩)
      exact ⟨e1 _, e2, fun _ => by omega⟩)
    rw [show 12 + v 4 + (4 - v 4) = 16 by omega, h16s] at h1
    exact h1
  obtain ⟨p1, p2, p3, p4, p5, p6, p7⟩ := c3
  have hbd0 : ∀ m, bD pr dy c m (d + 1) = 0 := fun m => by
    unfold bD
    exact sumF_zero (fun i hi => if_neg (by have := hdy i hi; omega))
  have hB3 : BaM (v 3) (d + 1) (bD pr dy c) g3 := by
    intro m e b1 b2 b3
    rw [p3 m (e % 1000) (by omega) (by omega)]
    by_cases he : e = d + 1
    · rw [if_pos ⟨by rw [he], by omega, b1⟩, he, hbd0]
    · rw [if_neg (by omega)]
      exact hB m e b1 (by omega) (by omega)
  obtain ⟨g4, rk', bl', k1, k2, k3, k4⟩ := M_allchecks (fx := fx) (qu := qu) (B := bD pr dy c) hV hM hd (fun m hm => by
    rw [hq m hm]
    exact qT_now (fun i hi => by have := hdy i hi; omega) hv6) hN (ti, be, expL E (d + 1) Lg 16) (nI (sumN (lossN E (d + 1)) 16)) g3 N 0 rk bl g3 (Nat.zero_le _) (by omega) hB3 p4 p6 (fun i hi => by
    rw [p7 (42 + i) (by omega) (by omega) (by omega) (by omega), p7 (54 + i) (by omega) (by omega) (by omega) (by omega)]
    exact hti i hi) (fun _ _ _ _ => rfl)
  refine ⟨g4, rk', bl', ?_, ⟨fun m e b1 b2 b3 => ?_, fun h e m b1 b2 b3 b4 => ?_⟩, k2, k3, fun m e b1 b2 b3 => ?_, ?_, ?_, fun i b1 b2 b3 b4 b5 => ?_⟩
  · unfold f_X11_passes
    rw [if_neg gd0, if_neg gd0, show (0 : Int32).toNatClampNeg = 0 from rfl, h0, nI_1, Option.bind_some, ← hg1, M_today, Option.bind_some, show g1 0 = nI (d + 1) from HP.2.2.2.1]
    have a1' : f_X11_passes_b19 N (nI (d + 1)) 71 72470 rk bl fx N (0 : Int32) (0 : Int32) g1 = f_X11_passes_b87 N (nI (d + 1)) 71 72470 rk bl fx N (nI (sumN (lossN E (d + 1)) (v 3))) (0 : Int32) g2 := a1
    have c1' : f_X11_passes_b87 N (nI (d + 1)) 71 72470 rk bl fx N (nI (sumN (lossN E (d + 1)) (12 + 0))) (0 : Int32) g2 = f_X11_passes_b162 N (nI (sumN (lossN E (d + 1)) (12 + v 4))) 71 72470 fx N (0 : Int32) rk bl g3 := c1
    have k1' : f_X11_passes_b162 N (nI (sumN (lossN E (d + 1)) 16)) 71 72470 fx N (0 : Int32) rk bl g3 = some (nI (sumN (lossN E (d + 1)) 16), rk', bl', g4) := k1
    rw [a1', h12s, c1', h16s, k1']
  · rw [k4 _ (by unfold acI; omega) (by unfold acI; omega) (by unfold acI; omega), pt_filter (f := fun k => decide (d + 1 < kD k)), kD_mk (by omega) (by omega), if_pos (decide_eq_true b2)]
    by_cases he : e ≤ d + 1000
    · rw [p1 m e b1 (by omega) he, if_neg (by omega)]
    · have e1 : acI m e = acI m (d + 1) := by unfold acI; omega
      rw [e1, p1 m (d + 1) b1 (by omega) (by omega), if_pos ⟨rfl, by omega⟩, pt_none (fun y hy hx => by
        have h5 := (hE y hy).1.2
        rw [hx, kD_mk (by omega) (by omega)] at h5
        omega)]; rfl
  · rw [k4 _ (by unfold poI; omega) (by unfold poI; omega) (by unfold poI; omega), pt_filter (f := fun k => decide (d + 1 < kD k)), kD_mk (by omega) (by omega), if_pos (decide_eq_true b2)]
    by_cases he : e ≤ d + 1000
    · rw [p2 h e m b1 (by omega) he b4, if_neg (by omega)]
    · have e1 : poI h e m = poI h (d + 1) m := by unfold poI; omega
      rw [e1, p2 h (d + 1) m b1 (by omega) (by omega) b4, if_pos ⟨rfl, by omega⟩, pt_none (fun y hy hx => by
        have h5 := (hE y hy).1.2
        rw [hx, kD_mk (by omega) (by omega)] at h5
        omega)]; rfl
  · rw [k4 _ (by omega) (by omega) (by omega)]
    exact hB3 m e b1 b2 b3
  · rw [k4 0 (by omega) (by omega) (by omega), p4]
  · rw [k4 5 (by omega) (by omega) (by omega), p5]
  · rw [k4 i b5 b4 (by omega), p7 i b1 b2 b3 b4]
/-- a day, on both sides -/
theorem S_day {v : Nat → Nat} {k d : Nat} {s : T_SE} {ws z cnt nx sz : Int32} {gl gd gc gp pr dp ti be de hm qu sh re tt fx g : Nat → Int32} (hV : SV v) (hM : SM v fx) (hS : SC v s) (hk : k ≤ 512) (H : BRc v k (nI d) ws z gl gd gc gp cnt pr nx sz dp ti be de hm qu sh re tt g) (hd : d + 1 ≤ 9999) (x1 : Int32) {N : Nat} (hN : 2000 < N) (rk bl : Int32) (n : Nat) (x2 x3 st si : Int32) (ls : Nat → Int32) (hx3 : ¬ x1 ≤ x3) :
    ∃ (T : Nat) (ws' : Int32) (o : T_CO) (lo : Int32 × Int32 × (Nat → Int32)) (ti' be' qu' tt' g' : Nat → Int32) (rk' bl' : Int32) (ls' : Nat → Int32) (st' si' : Int32), f_X0_passDays_b4 N x1 8 5 1024 1024 1024 1024 3584 120 12 12 12 5 16 s.2.1 s.2.2.1 s.2.2.2.1 s.2.2.2.2.2.1 cnt pr (n + 1) x2 x3 (nI d) ws z gl gd gc gp nx sz dp ti be qu tt ls st si = f_X0_passDays_b4 N x1 8 5 1024 1024 1024 1024 3584 120 12 12 12 5 16 s.2.1 s.2.2.1 s.2.2.2.1 s.2.2.2.2.2.1 cnt pr n (x2 + nI T) (x3 + 1) (nI (d + 1)) ws' o.1 o.2.1 o.2.2.1 o.2.2.2.1 o.2.2.2.2 lo.1 lo.2.1 lo.2.2 ti' be' qu' tt' ls' st' si' ∧ f_X11_passes N 71 72470 rk bl fx g = some (nI T, rk', bl', g') ∧ BRc v k (nI (d + 1)) ws' o.1 o.2.1 o.2.2.1 o.2.2.2.1 o.2.2.2.2 cnt pr lo.1 lo.2.1 lo.2.2 ti' be' de hm qu' sh re tt' g' := by
  obtain ⟨d0, E, Lg, c, dy, db, rd, ⟨a1, a2⟩, ⟨a3, a4, a5⟩, ⟨H1, H2, H3⟩, ⟨HL, HLm⟩, H4, H5, H6, H7⟩ := H
  have hdd : d0 = d := ((nI_eq (by omega) (by omega)).mp a3).symm
  subst hdd
  have hv3 := hV.1.2.2.2.2.1
  have hv4 := hV.1.2.2.2.2.2
  obtain ⟨⟨s1, s2, s3⟩, s4, s5, s6, s7, s8⟩ := hS
  obtain ⟨ex, x1', x2'⟩ := H7.2.2.2
  obtain ⟨b1, b2, b3, b4, b5, b6⟩ := H4
  obtain ⟨⟨a, w1, w2, w3, w4⟩, w5, w6⟩ := H5
  subst b1 w1
  have hdy : ∀ i, i < c → dy i ≤ d0 := fun i hi => (b5 i hi).2.1.2
  obtain ⟨r, qu', q1, q2, q3, q4, q5⟩ := C_shrink (cs := s.2.2.2.1) hV (s4 3 (by omega)) b2 (fun i hi => (b5 i hi).2.1) a5 b6 w2 w3 w4 w5 hN
  have hgr : fx 7 = s.2.2.1 := by rw [hM 7 (by omega), s3]
  have hsm := H1.2.2.2
  obtain ⟨g', rk', bl', e1, e2, e3, e4, e5, e6, e7, e8⟩ := M_day (ti := ti) (be := be) hV hM H2 H1.2.1 H1.2.2.1 H3 hsm HLm a4 hd w6 hdy q5 (fun m hm => ⟨(H6.1 m hm).1.symm, (H6.1 m hm).2.1.symm⟩) hN rk bl
  rw [hgr] at e3 e4
  obtain ⟨o, lo, ls1, f1, f2, f3⟩ := C_expire (tt := tt) (ls := ls) H1 HL (t := d0 + 1) (by omega) hN
  have hloss := loss_all (t := d0 + 1) H1.2.2.1
  have hrank := tsA_rank (qu := qu') (d := d0 + 1) (gr := s.2.2.1) (S := (ti, be, expL E (d0 + 1) Lg 16)) hV (fun i hi => by
    obtain ⟨t1, t2, t3, ⟨t, t4, t5⟩, _⟩ := H6.1 i hi
    exact ⟨t, t4, by show ti i = nI t; rw [t1, t5]⟩) (v 3)
  obtain ⟨lo2, st', si', k1, k2⟩ := C_checks (d := d0 + 1) (gr := s.2.2.1) (cs := s.2.2.2.1) (th := s.2.2.2.2.2.1) (qu := qu') hV (s4 0 (by omega)) (s4 3 (by omega)) (fun t h => (s5 t h).1) (N := N) (by omega) (ti, be, expL E (d0 + 1) Lg 16) (f_X0_passDays_b4 N x1 8 5 1024 1024 1024 1024 3584 120 12 12 12 5 16 s.2.1 s.2.2.1 s.2.2.2.1 s.2.2.2.2.2.1 (nI c) pr n) (x2 + nI (sumN (lossN E (d0 + 1)) 16)) x3 (nI r) o.1 o.2.1 o.2.2.1 o.2.2.2.1 o.2.2.2.2 (upd tt 2 (tt 2 + nI (sumN (lossN E (d0 + 1)) 16))) ls1 N 0 lo.1 lo.2.1 st si lo.2.2 (Nat.zero_le _) (by omega) f3
  have k1' : f_X0_passDays_b33 N (f_X0_passDays_b4 N x1 8 5 1024 1024 1024 1024 3584 120 12 12 12 5 16 s.2.1 s.2.2.1 s.2.2.2.1 s.2.2.2.2.2.1 (nI c) pr n) (x2 + nI (sumN (lossN E (d0 + 1)) 16)) x3 8 5 120 12 12 12 (nI (d0 + 1)) (nI r) s.2.2.1 s.2.2.2.1 s.2.2.2.2.2.1 o.1 o.2.1 o.2.2.1 o.2.2.2.1 o.2.2.2.2 qu' (upd tt 2 (tt 2 + nI (sumN (lossN E (d0 + 1)) 16))) ls1 N (0 : Int32) lo.1 lo.2.1 lo.2.2 ti be st si = _ := k1
  refine ⟨sumN (lossN E (d0 + 1)) 16, nI r, o, lo2, (tsA v qu' (d0 + 1) s.2.2.1 (ti, be, expL E (d0 + 1) Lg 16) (v 3)).1, (tsA v qu' (d0 + 1) s.2.2.1 (ti, be, expL E (d0 + 1) Lg 16) (v 3)).2.1, qu', upd tt 2 (tt 2 + nI (sumN (lossN E (d0 + 1)) 16)), g', rk', bl', ls1, st', si', ?_, e1, ?_⟩
  rotate_left
  · refine ⟨d0 + 1, E.filter (fun x => decide (d0 + 1 < kD x.1)), (tsA v qu' (d0 + 1) s.2.2.1 (ti, be, expL E (d0 + 1) Lg 16) (v 3)).2.2, c, dy, db, rd, ⟨by have := List.length_filter_le (fun x : En => decide (d0 + 1 < kD x.1)) E; omega, a2⟩, ⟨rfl, e6, hd⟩, ⟨f2, e2, fun x hx => ?_⟩, ⟨k2, e3⟩, ⟨rfl, b2, by rw [e8 1 (by omega) (by omega) (by omega) (by omega) (by omega)]; exact b3, fun i w h1 h2 h3 => by rw [e8 _ (by omega) (by omega) (by omega) (by omega) (by omega)]; exact b4 i w h1 h2 h3, fun i hi => ?_, b6⟩, ⟨⟨r, rfl, q2, q3, q4⟩, q5, e5⟩, ⟨fun m hm => ?_, fun q hq => ?_⟩, fun m hm => ?_, fun i hi => ?_, fun i hi => ?_, ex + sumN (lossN E (d0 + 1)) 16, ?_, ?_⟩
    · obtain ⟨x1, x2⟩ := List.mem_filter.mp hx
      have h1 := H3 x x1
      have h2 := of_decide_eq_true x2
      exact ⟨⟨h2, by omega⟩, h1.2⟩
    · obtain ⟨z1, z2, z3, z4⟩ := b5 i hi
      exact ⟨z1, ⟨z2.1, by omega⟩, z3, z4⟩
    · obtain ⟨t1, t2, t3, t4, t5⟩ := H6.1 m hm
      obtain ⟨y1, y2⟩ := e4 m hm
      rw [e8 (30 + m) (by omega) (by omega) (by omega) (by omega) (by omega)]
      refine ⟨y1.symm, y2.symm, t3, ?_, t5⟩
      rw [y1]
      exact hrank m hm
    · rw [e8 (66 + q) (by omega) (by omega) (by omega) (by omega) (by omega)]
      exact H6.2 q hq
    · obtain ⟨z1, z2, z3, z4⟩ := H7.1 m hm
      rw [e8 (18 + m) (by omega) (by omega) (by omega) (by omega) (by omega)]
      exact ⟨z1, z2, z3, z4⟩
    · rw [e8 (8 + i) (by omega) (by omega) (by omega) (by omega) (by omega)]
      exact H7.2.1 i hi
    · by_cases e : i = 2
      · rw [e, upd_at]
        show _ = g' 5
        rw [e7, H7.2.2.1 2 (by omega)]
      · rw [upd_ne _ _ e, e8 (3 + i) (by omega) (by omega) (by omega) (by omega) (by omega)]
        exact H7.2.2.1 i hi
    · rw [upd_at, x1', nI_add]
    · omega
  · rw [f_X0_passDays_b4, if_neg hx3, nI_1, f1, Option.bind_some, Option.bind_some, s2, q1, Option.bind_some]
    dsimp only
    rw [s2] at k1'
    exact k1'
theorem BRc_mono {v : Nat → Nat} {k k' : Nat} {day ws z cnt nx sz : Int32} {gl gd gc gp pr dp ti be de hm qu sh re tt g : Nat → Int32} (H : BRc v k day ws z gl gd gc gp cnt pr nx sz dp ti be de hm qu sh re tt g) (hk : k ≤ k') : BRc v k' day ws z gl gd gc gp cnt pr nx sz dp ti be de hm qu sh re tt g := by
  obtain ⟨d, E, Lg, c, dy, db, rd, ⟨a1, a2⟩, a3, a4, a5, a6, a7, a8, a9⟩ := H
  exact ⟨d, E, Lg, c, dy, db, rd, ⟨by omega, by omega⟩, a3, a4, a5, a6, a7, a8, B7_same a9 hk (fun i _ _ => rfl)⟩
/-- days pass, on both sides -/
theorem S_days {v : Nat → Nat} {k : Nat} {s : T_SE} {cnt : Int32} {pr de hm sh re fx pa : Nat → Int32} {t ch : Int32} (hV : SV v) (hM : SM v fx) (hS : SC v s) (hk : k ≤ 512) {D : Nat} (hD : D ≤ 400) {N : Nat} (hN : 2000 < N) : ∀ (n j A d : Nat) (ws z nx sz : Int32) (gl gd gc gp dp ti be qu tt ls g : Nat → Int32) (st si rk bl : Int32), j ≤ D → D < n + j → d + (D - j) ≤ 9999 → BRc v k (nI d) ws z gl gd gc gp cnt pr nx sz dp ti be de hm qu sh re tt g → ∃ (A' : Nat) (d' : Nat) (ws' : Int32) (o : T_CO) (lo : Int32 × Int32 × (Nat → Int32)) (ti' be' qu' tt' ls' g' : Nat → Int32) (st' si' rk' bl' : Int32), f_X0_passDays_b4 N (nI D) 8 5 1024 1024 1024 1024 3584 120 12 12 12 5 16 s.2.1 s.2.2.1 s.2.2.2.1 s.2.2.2.2.2.1 cnt pr n (nI A) (nI j) (nI d) ws z gl gd gc gp nx sz dp ti be qu tt ls st si = some (nI A', nI d', ws', o.1, o.2.1, o.2.2.1, o.2.2.2.1, o.2.2.2.2, lo.1, lo.2.1, lo.2.2, ti', be', qu', tt', ls', st', si') ∧ f_X11_advance_b43 N (nI D) 71 72470 t ch fx pa n (nI A) (nI j) rk bl g = some (nI A', t, ch, rk', bl', g', pa) ∧ BRc v k (nI d') ws' o.1 o.2.1 o.2.2.1 o.2.2.2.1 o.2.2.2.2 cnt pr lo.1 lo.2.1 lo.2.2 ti' be' de hm qu' sh re tt' g' := by
  intro n
  induction n with
  | zero => intro j A d ws z nx sz gl gd gc gp dp ti be qu tt ls g st si rk bl h1 h2; omega
  | succ n ih =>
    intro j A d ws z nx sz gl gd gc gp dp ti be qu tt ls g st si rk bl h1 h2 h3 H
    by_cases h : j = D
    · subst h
      rw [f_X0_passDays_b4, f_X11_advance_b43, if_pos (Int32.le_refl _), if_pos (Int32.le_refl _)]
      exact ⟨A, d, ws, (z, gl, gd, gc, gp), (nx, sz, dp), ti, be, qu, tt, ls, g, st, si, rk, bl, rfl, rfl, H⟩
    · have hx : ¬ nI D ≤ nI j := fun hh => by have := (nI_leI (by omega) (by omega)).mp hh; omega
      obtain ⟨T, ws', o, lo, ti', be', qu', tt', g', rk', bl', ls', st', si', c1, c2, c3⟩ := S_day hV hM hS hk H (show d + 1 ≤ 9999 by omega) (nI D) hN rk bl n (nI A) (nI j) st si ls hx
      rw [f_X11_advance_b43, if_neg hx, c2, Option.bind_some, c1, nI_add, nI_1, Option.bind_some, Option.bind_some]
      exact ih (j + 1) (A + T) (d + 1) ws' o.1 lo.1 lo.2.1 o.2.1 o.2.2.1 o.2.2.2.1 o.2.2.2.2 lo.2.2 ti' be' qu' tt' ls' g' st' si' rk' bl' (by omega) (by omega) (by omega) c3
/-- an advance, on both sides -/
theorem S_advance {v : Nat → Nat} {k : Nat} {s : T_SE} {b : T_BK} {fx g pa pa' : Nat → Int32} {ch ch' rk bl : Int32} (hV : SV v) (hM : SM v fx) (hS : SC v s) (hk : k < 512) (H : BR v k b g) {D d : Nat} (hd : b.1 = nI d) (hd2 : d < 2 ^ 31) (hD1 : 1 ≤ D) (hD : D ≤ 400) (hdD : d + D ≤ 9999) {N : Nat} (hN : 2000 < N) (hr : f_X11_remembers N 72470 579760 ch g pa = some (ch', pa')) : ∃ b' g' r1 r2 p, F_B_passDays N s b (nI D) = some (p, b') ∧ f_X11_advance N (nI D) 71 72470 579760 ch rk bl fx g pa = some (p, 0, ch', r1, r2, g', pa') ∧ BR v (k + 1) b' g' := by
  obtain ⟨day, ws, z, gl, gd, gc, gp, cnt, pr, nx, sz, dp, ti, be, de, hm, qu, sh, re, tt, ls, ba, st, si⟩ := b
  have hd : day = nI d := hd
  subst hd
  have H : BRc v k (nI d) ws z gl gd gc gp cnt pr nx sz dp ti be de hm qu sh re tt g := H
  have h0 : g 0 = nI d := by
    obtain ⟨d0, E, Lg, c, dy, db, rd, _, ⟨a3, a4, a5⟩, _⟩ := H
    rw [a4, a3]
  obtain ⟨A', d', ws', o, lo, ti', be', qu', tt', ls', g', st', si', rk', bl', c1, c2, c3⟩ := S_days (t := 0) (ch := ch') (pa := pa') (D := D) hV hM hS (show k ≤ 512 by omega) hD hN N 0 0 d ws z nx sz gl gd gc gp dp ti be qu tt ls g st si rk bl (by omega) (by omega) (by omega) H
  refine ⟨(nI d', ws', o.1, o.2.1, o.2.2.1, o.2.2.2.1, o.2.2.2.2, cnt, pr, lo.1, lo.2.1, lo.2.2, ti', be', de, hm, qu', sh, re, tt', ls', ba, st', si'), g', rk', bl', nI A', ?_, ?_, BRc_mono c3 (Nat.le_succ k)⟩
  · unfold F_B_passDays f_X0_passDays
    dsimp only
    have c1' : f_X0_passDays_b4 N (nI D) 8 5 1024 1024 1024 1024 3584 120 12 12 12 5 16 s.2.1 s.2.2.1 s.2.2.2.1 s.2.2.2.2.2.1 cnt pr N (0 : Int32) (0 : Int32) (nI d) ws z gl gd gc gp nx sz dp ti be qu tt ls st si = _ := c1
    rw [c1', Option.bind_some]
  · unfold f_X11_advance
    have c2' : f_X11_advance_b43 N (nI D) 71 72470 0 ch' fx pa' N (0 : Int32) (0 : Int32) rk bl g = _ := c2
    rw [show (1 : Int64) = (1 : Int32).toInt64 from rfl, show (400 : Int64) = (400 : Int32).toInt64 from rfl, M_isIn, Option.bind_some, if_neg (show ¬ (nI D < (1 : Int32) ∨ (400 : Int32) < nI D) from notout (a := 1) (b := 400) (by omega) (by decide) hD1 hD), if_neg (by decide), M_today, Option.bind_some, h0, nI_add, if_pos (show nI (d + D) ≤ (9999 : Int32) from (nI_leI (a := d + D) (b := 9999) (by omega) (by decide)).mpr hdD), hr, Option.bind_some, c2']

