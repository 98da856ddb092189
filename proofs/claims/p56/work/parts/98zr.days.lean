/-- the relation with its data in sight -/
def BRx (v : Nat → Nat) (k : Nat) (d : Nat) (E : List En) (Lg : List Co) (c : Nat) (dy db rd : Nat → Nat) (day ws z : Int32) (gl gd gc gp : Nat → Int32) (cnt : Int32) (pr : Nat → Int32) (nx sz : Int32) (dp ti be de hm qu sh re tt g : Nat → Int32) : Prop := (E.length ≤ 2 * k ∧ c ≤ k) ∧ (day = nI d ∧ g 0 = nI d ∧ d ≤ 9999) ∧ B2 v d E z gl gd gc gp g ∧ (LogC Lg nx sz dp ∧ LogM Lg g) ∧ B4 v d c dy cnt pr g ∧ B5 v d c dy ws pr qu g ∧ B6 v ti be hm sh g ∧ B7 v k E db rd de re tt g
theorem BRx_c {v : Nat → Nat} {k d c : Nat} {E : List En} {Lg : List Co} {dy db rd : Nat → Nat} {day ws z cnt nx sz : Int32} {gl gd gc gp pr dp ti be de hm qu sh re tt g : Nat → Int32} (H : BRx v k d E Lg c dy db rd day ws z gl gd gc gp cnt pr nx sz dp ti be de hm qu sh re tt g) : BRc v k day ws z gl gd gc gp cnt pr nx sz dp ti be de hm qu sh re tt g := ⟨d, E, Lg, c, dy, db, rd, H⟩
/-- one member's tier, day by day -/
def ckT (v : Nat → Nat) (pr : Nat → Int32) (dy : Nat → Nat) (c m d : Nat) (gr : Int32) (x : Int32 × Int32) : Nat → Int32 × Int32
  | 0 => x
  | j + 1 => ckI (nI (tierT v (qT pr dy c (v 6) m (d + (j + 1))) (v 0 - 1))) (nI (d + (j + 1))) gr (ckT v pr dy c m d gr x j).1 (ckT v pr dy c m d gr x j).2
theorem tsA_out {v : Nat → Nat} {qu : Nat → Int32} {d : Nat} {gr : Int32} {S : T_TS} {m : Nat} : ∀ {n : Nat}, n ≤ m → (tsA v qu d gr S n).1 m = S.1 m ∧ (tsA v qu d gr S n).2.1 m = S.2.1 m
  | 0, _ => ⟨rfl, rfl⟩
  | n + 1, h => by
    obtain ⟨h1, h2⟩ := tsA_out (v := v) (qu := qu) (d := d) (gr := gr) (S := S) (m := m) (n := n) (by omega)
    have e : ¬ m = n := by omega
    refine ⟨?_, ?_⟩
    · show upd (tsA v qu d gr S n).1 n _ m = _
      rw [upd_ne _ _ e, h1]
    · show upd (tsA v qu d gr S n).2.1 n _ m = _
      rw [upd_ne _ _ e, h2]
theorem tsA_at {v : Nat → Nat} {qu : Nat → Int32} {d : Nat} {gr : Int32} {S : T_TS} {m : Nat} : ∀ {n : Nat}, m < n → (tsA v qu d gr S n).1 m = (ckI (nI (tierT v (qu m) (v 0 - 1))) (nI d) gr (S.1 m) (S.2.1 m)).1 ∧ (tsA v qu d gr S n).2.1 m = (ckI (nI (tierT v (qu m) (v 0 - 1))) (nI d) gr (S.1 m) (S.2.1 m)).2
  | n + 1, h => by
    by_cases e : m = n
    · subst e
      obtain ⟨h1, h2⟩ := tsA_out (v := v) (qu := qu) (d := d) (gr := gr) (S := S) (m := m) (n := m) (Nat.le_refl _)
      refine ⟨?_, ?_⟩
      · show upd (tsA v qu d gr S m).1 m (tsK v qu d gr m (tsA v qu d gr S m)).1 m = _
        rw [upd_at]; unfold tsK; rw [h1, h2]
      · show upd (tsA v qu d gr S m).2.1 m (tsK v qu d gr m (tsA v qu d gr S m)).2 m = _
        rw [upd_at]; unfold tsK; rw [h1, h2]
    · obtain ⟨h1, h2⟩ := tsA_at (v := v) (qu := qu) (d := d) (gr := gr) (S := S) (m := m) (n := n) (by omega)
      refine ⟨?_, ?_⟩
      · show upd (tsA v qu d gr S n).1 n _ m = _
        rw [upd_ne _ _ e, h1]
      · show upd (tsA v qu d gr S n).2.1 n _ m = _
        rw [upd_ne _ _ e, h2]
theorem X_day {v : Nat → Nat} {k d c : Nat} {E : List En} {Lg : List Co} {dy db rd : Nat → Nat} {s : T_SE} {ws z cnt nx sz : Int32} {gl gd gc gp pr dp ti be de hm qu sh re tt g : Nat → Int32} (hV : SV v) (hS : SC v s) (hk : k ≤ 512) (H : BRx v k d E Lg c dy db rd (nI d) ws z gl gd gc gp cnt pr nx sz dp ti be de hm qu sh re tt g) (hd : d + 1 ≤ 9999) (x1 : Int32) {N : Nat} (hN : 2000 < N) (n : Nat) (x2 x3 st si : Int32) (ls : Nat → Int32) (hx3 : ¬ x1 ≤ x3) :
    ∃ (ws' : Int32) (o : T_CO) (lo : Int32 × Int32 × (Nat → Int32)) (g' ls' : Nat → Int32) (st' si' : Int32) (qu' : Nat → Int32), f_X0_passDays_b4 N x1 8 5 1024 1024 1024 1024 3584 120 12 12 12 5 16 s.2.1 s.2.2.1 s.2.2.2.1 s.2.2.2.2.2.1 cnt pr (n + 1) x2 x3 (nI d) ws z gl gd gc gp nx sz dp ti be qu tt ls st si = f_X0_passDays_b4 N x1 8 5 1024 1024 1024 1024 3584 120 12 12 12 5 16 s.2.1 s.2.2.1 s.2.2.2.1 s.2.2.2.2.2.1 cnt pr n (x2 + nI (sumN (lossN E (d + 1)) 16)) (x3 + 1) (nI (d + 1)) ws' o.1 o.2.1 o.2.2.1 o.2.2.2.1 o.2.2.2.2 lo.1 lo.2.1 lo.2.2 (tsA v qu' (d + 1) s.2.2.1 (ti, be, expL E (d + 1) Lg 16) (v 3)).1 (tsA v qu' (d + 1) s.2.2.1 (ti, be, expL E (d + 1) Lg 16) (v 3)).2.1 qu' (upd tt 2 (tt 2 + nI (sumN (lossN E (d + 1)) 16))) ls' st' si' ∧ BRx v k (d + 1) (E.filter (fun x => decide (d + 1 < kD x.1))) (tsA v qu' (d + 1) s.2.2.1 (ti, be, expL E (d + 1) Lg 16) (v 3)).2.2 c dy db rd (nI (d + 1)) ws' o.1 o.2.1 o.2.2.1 o.2.2.2.1 o.2.2.2.2 cnt pr lo.1 lo.2.1 lo.2.2 (tsA v qu' (d + 1) s.2.2.1 (ti, be, expL E (d + 1) Lg 16) (v 3)).1 (tsA v qu' (d + 1) s.2.2.1 (ti, be, expL E (d + 1) Lg 16) (v 3)).2.1 de hm qu' sh re (upd tt 2 (tt 2 + nI (sumN (lossN E (d + 1)) 16))) g' := by
  obtain ⟨⟨a1, a2⟩, ⟨a3, a4, a5⟩, ⟨H1, H2, H3⟩, ⟨HL, HLm⟩, H4, H5, H6, H7⟩ := H
  have hv3 := hV.1.2.2.2.2.1
  have hv4 := hV.1.2.2.2.2.2
  obtain ⟨⟨s1, s2, s3⟩, s4, s5, s6, s7, s8⟩ := hS
  obtain ⟨ex, x1', x2'⟩ := H7.2.2.2
  obtain ⟨b1, b2, b3, b4, b5, b6⟩ := H4
  obtain ⟨⟨a, w1, w2, w3, w4⟩, w5, w6⟩ := H5
  subst b1 w1
  have hdy : ∀ i, i < c → dy i ≤ d := fun i hi => (b5 i hi).2.1.2
  obtain ⟨r, qu', q1, q2, q3, q4, q5⟩ := C_shrink (cs := s.2.2.2.1) hV (s4 3 (by omega)) b2 (fun i hi => (b5 i hi).2.1) a5 b6 w2 w3 w4 w5 hN
  have hgr : nI (v 7) = s.2.2.1 := s3.symm
  have hsm := H1.2.2.2
  obtain ⟨g', rk', bl', e1, e2, e3, e4, e5, e6, e7, e8⟩ := M_day (ti := ti) (be := be) hV (SMv v) H2 H1.2.1 H1.2.2.1 H3 hsm HLm a4 hd w6 hdy q5 (fun m hm => ⟨(H6.1 m hm).1.symm, (H6.1 m hm).2.1.symm⟩) hN 0 0
  rw [hgr] at e3 e4
  obtain ⟨o, lo, ls1, f1, f2, f3⟩ := C_expire (tt := tt) (ls := ls) H1 HL (t := d + 1) (by omega) hN
  have hloss := loss_all (t := d + 1) H1.2.2.1
  have hrank := tsA_rank (qu := qu') (d := d + 1) (gr := s.2.2.1) (S := (ti, be, expL E (d + 1) Lg 16)) hV (fun i hi => by
    obtain ⟨t1, t2, t3, ⟨t, t4, t5⟩, _⟩ := H6.1 i hi
    exact ⟨t, t4, by show ti i = nI t; rw [t1, t5]⟩) (v 3)
  obtain ⟨lo2, st', si', k1, k2⟩ := C_checks (d := d + 1) (gr := s.2.2.1) (cs := s.2.2.2.1) (th := s.2.2.2.2.2.1) (qu := qu') hV (s4 0 (by omega)) (s4 3 (by omega)) (fun t h => (s5 t h).1) (N := N) (by omega) (ti, be, expL E (d + 1) Lg 16) (f_X0_passDays_b4 N x1 8 5 1024 1024 1024 1024 3584 120 12 12 12 5 16 s.2.1 s.2.2.1 s.2.2.2.1 s.2.2.2.2.2.1 (nI c) pr n) (x2 + nI (sumN (lossN E (d + 1)) 16)) x3 (nI r) o.1 o.2.1 o.2.2.1 o.2.2.2.1 o.2.2.2.2 (upd tt 2 (tt 2 + nI (sumN (lossN E (d + 1)) 16))) ls1 N 0 lo.1 lo.2.1 st si lo.2.2 (Nat.zero_le _) (by omega) f3
  have k1' : f_X0_passDays_b33 N (f_X0_passDays_b4 N x1 8 5 1024 1024 1024 1024 3584 120 12 12 12 5 16 s.2.1 s.2.2.1 s.2.2.2.1 s.2.2.2.2.2.1 (nI c) pr n) (x2 + nI (sumN (lossN E (d + 1)) 16)) x3 8 5 120 12 12 12 (nI (d + 1)) (nI r) s.2.2.1 s.2.2.2.1 s.2.2.2.2.2.1 o.1 o.2.1 o.2.2.1 o.2.2.2.1 o.2.2.2.2 qu' (upd tt 2 (tt 2 + nI (sumN (lossN E (d + 1)) 16))) ls1 N (0 : Int32) lo.1 lo.2.1 lo.2.2 ti be st si = _ := k1
  refine ⟨nI r, o, lo2, g', ls1, st', si', qu', ?_, ?_⟩
  rotate_left
  · refine ⟨⟨by have := List.length_filter_le (fun x : En => decide (d + 1 < kD x.1)) E; omega, a2⟩, ⟨rfl, e6, hd⟩, ⟨f2, e2, fun x hx => ?_⟩, ⟨k2, e3⟩, ⟨rfl, b2, by rw [e8 1 (by omega) (by omega) (by omega) (by omega) (by omega)]; exact b3, fun i w h1 h2 h3 => by rw [e8 _ (by omega) (by omega) (by omega) (by omega) (by omega)]; exact b4 i w h1 h2 h3, fun i hi => ?_, b6⟩, ⟨⟨r, rfl, q2, q3, q4⟩, q5, e5⟩, ⟨fun m hm => ?_, fun q hq => ?_⟩, fun m hm => ?_, fun i hi => ?_, fun i hi => ?_, ex + sumN (lossN E (d + 1)) 16, ?_, ?_⟩
    · obtain ⟨x1, x2⟩ := List.mem_filter.mp hx
      have h1 := H3 x x1
      have h2 := of_decide_eq_true x2
      exact ⟨⟨h2, by omega⟩, h1.2⟩
    · obtain ⟨z1, z2, z3, z4⟩ := b5 i hi
      exact ⟨z1, ⟨z2.1, by omega⟩, z3, z4⟩
    · obtain ⟨t1, t2, t3, t4, t5⟩ := H6.1 m hm
      obtain ⟨y1, y2⟩ := e4 m hm
      rw [e8 (30 + m) (by omega) (by omega) (by omega) (by omega) (by omega)]
      refine ⟨y1.symm, y2.symm, t3, ?_, t5⟩
      rw [y1]
      exact hrank m hm
    · rw [e8 (66 + q) (by omega) (by omega) (by omega) (by omega) (by omega)]
      exact H6.2 q hq
    · obtain ⟨z1, z2, z3, z4⟩ := H7.1 m hm
      rw [e8 (18 + m) (by omega) (by omega) (by omega) (by omega) (by omega)]
      exact ⟨z1, z2, z3, z4⟩
    · rw [e8 (8 + i) (by omega) (by omega) (by omega) (by omega) (by omega)]
      exact H7.2.1 i hi
    · by_cases e : i = 2
      · rw [e, upd_at]
        show _ = g' 5
        rw [e7, H7.2.2.1 2 (by omega)]
      · rw [upd_ne _ _ e, e8 (3 + i) (by omega) (by omega) (by omega) (by omega) (by omega)]
        exact H7.2.2.1 i hi
    · rw [upd_at, x1', nI_add]
    · omega
  · rw [f_X0_passDays_b4, if_neg hx3, nI_1, f1, Option.bind_some, Option.bind_some, s2, q1, Option.bind_some]
    dsimp only
    rw [s2] at k1'
    exact k1'
theorem filter_filter' {E : List En} {d d' : Nat} (h : d ≤ d') : (E.filter (fun x => decide (d < kD x.1))).filter (fun x => decide (d' < kD x.1)) = E.filter (fun x => decide (d' < kD x.1)) := by
  rw [List.filter_filter]
  refine List.filter_congr (fun x _ => ?_)
  by_cases e : d' < kD x.1
  · rw [decide_eq_true e, decide_eq_true (show d < kD x.1 by omega)]; rfl
  · rw [decide_eq_false e]; rfl
theorem X_days {v : Nat → Nat} {k c : Nat} {E0 : List En} {dy db rd : Nat → Nat} {s : T_SE} {cnt : Int32} {pr de hm sh re ti0 be0 tt0 : Nat → Int32} (hV : SV v) (hS : SC v s) (hk : k ≤ 512) (hE0 : ∀ x ∈ E0, VK x.1 ∧ 1 ≤ x.2) {D d0 : Nat} (hD : D ≤ 400) (hd0 : d0 + D ≤ 9999) {N : Nat} (hN : 2000 < N) : ∀ (n j A : Nat) (ws z nx sz : Int32) (gl gd gc gp dp ti be qu tt ls g : Nat → Int32) (st si : Int32) (Lg : List Co), j ≤ D → D < n + j → BRx v k (d0 + j) (E0.filter (fun x => decide (d0 + j < kD x.1))) Lg c dy db rd (nI (d0 + j)) ws z gl gd gc gp cnt pr nx sz dp ti be de hm qu sh re tt g → A + sumP (E0.filter (fun x => decide (d0 + j < kD x.1))) = sumP E0 → (∀ m, m < v 3 → (ti m, be m) = ckT v pr dy c m d0 s.2.2.1 (ti0 m, be0 m) j) → (∀ i, tt i = if i = 2 then tt0 2 + nI A else tt0 i) → ∃ (A' : Nat) (ws' : Int32) (o : T_CO) (lo : Int32 × Int32 × (Nat → Int32)) (ti' be' qu' tt' ls' g' : Nat → Int32) (st' si' : Int32) (Lg' : List Co), f_X0_passDays_b4 N (nI D) 8 5 1024 1024 1024 1024 3584 120 12 12 12 5 16 s.2.1 s.2.2.1 s.2.2.2.1 s.2.2.2.2.2.1 cnt pr n (nI A) (nI j) (nI (d0 + j)) ws z gl gd gc gp nx sz dp ti be qu tt ls st si = some (nI A', nI (d0 + D), ws', o.1, o.2.1, o.2.2.1, o.2.2.2.1, o.2.2.2.2, lo.1, lo.2.1, lo.2.2, ti', be', qu', tt', ls', st', si') ∧ BRx v k (d0 + D) (E0.filter (fun x => decide (d0 + D < kD x.1))) Lg' c dy db rd (nI (d0 + D)) ws' o.1 o.2.1 o.2.2.1 o.2.2.2.1 o.2.2.2.2 cnt pr lo.1 lo.2.1 lo.2.2 ti' be' de hm qu' sh re tt' g' ∧ A' + sumP (E0.filter (fun x => decide (d0 + D < kD x.1))) = sumP E0 ∧ (∀ m, m < v 3 → (ti' m, be' m) = ckT v pr dy c m d0 s.2.2.1 (ti0 m, be0 m) D) ∧ (∀ i, tt' i = if i = 2 then tt0 2 + nI A' else tt0 i) := by
  intro n
  induction n with
  | zero => intro j A ws z nx sz gl gd gc gp dp ti be qu tt ls g st si Lg h1 h2; omega
  | succ n ih =>
    intro j A ws z nx sz gl gd gc gp dp ti be qu tt ls g st si Lg h1 h2 H hA hT hO
    by_cases h : j = D
    · subst h
      rw [f_X0_passDays_b4, if_pos (Int32.le_refl _)]
      exact ⟨A, ws, (z, gl, gd, gc, gp), (nx, sz, dp), ti, be, qu, tt, ls, g, st, si, Lg, rfl, H, hA, hT, hO⟩
    · have hx : ¬ nI D ≤ nI j := fun hh => by have := (nI_leI (by omega) (by omega)).mp hh; omega
      have hvf : ∀ x ∈ E0.filter (fun x => decide (d0 + j < kD x.1)), VK x.1 ∧ 1 ≤ x.2 := fun x hx => hE0 x (List.mem_filter.mp hx).1
      obtain ⟨ws', o, lo, g', ls', st', si', qu', c1, c3⟩ := X_day hV hS hk H (show d0 + j + 1 ≤ 9999 by omega) (nI D) hN n (nI A) (nI j) st si ls hx
      have hloss := loss_all (t := d0 + j + 1) hvf
      rw [filter_filter' (show d0 + j ≤ d0 + j + 1 by omega)] at c3 hloss
      have hq : ∀ m, m < v 3 → qu' m = qT pr dy c (v 6) m (d0 + j + 1) := c3.2.2.2.2.2.1.2.1
      rw [c1, nI_add, nI_1]
      refine ih (j + 1) (A + sumN (lossN (E0.filter (fun x => decide (d0 + j < kD x.1))) (d0 + j + 1)) 16) ws' o.1 lo.1 lo.2.1 o.2.1 o.2.2.1 o.2.2.2.1 o.2.2.2.2 lo.2.2 _ _ qu' _ ls' g' st' si' _ (by omega) (by omega) c3 ?_ (fun m hm => ?_) (fun i => ?_)
      · show A + _ + sumP (E0.filter (fun x => decide (d0 + j + 1 < kD x.1))) = _
        omega
      · obtain ⟨e1, e2⟩ := tsA_at (v := v) (qu := qu') (d := d0 + j + 1) (gr := s.2.2.1) (S := (ti, be, expL (E0.filter (fun x => decide (d0 + j < kD x.1))) (d0 + j + 1) Lg 16)) hm
        have hTm := hT m hm
        have f1 : ti m = (ckT v pr dy c m d0 s.2.2.1 (ti0 m, be0 m) j).1 := congrArg Prod.fst hTm
        have f2 : be m = (ckT v pr dy c m d0 s.2.2.1 (ti0 m, be0 m) j).2 := congrArg Prod.snd hTm
        rw [e1, e2, hq m hm]
        dsimp only
        rw [f1, f2]
        rfl
      · by_cases e : i = 2
        · subst e
          rw [upd_at, if_pos rfl, hO 2, if_pos rfl, ← nI_add, Int32.add_assoc]
        · rw [upd_ne _ _ e, if_neg e, hO i, if_neg e]
theorem C_future {v : Nat → Nat} {d c0 m D : Nat} {dy : Nat → Nat} {cs th pr : Nat → Int32} {x0 : Int32 × Int32} (hV : SV v) (h0 : cs 0 = nI (v 0)) (ht : ∀ t, t < v 0 → th t = nI (v (8 + t))) (hc : c0 ≤ 512) (hdy : ∀ i, i < c0 → pr (7 * i + 5) = nI (dy i) ∧ dy i ≤ d) (hmono : ∀ i j, i ≤ j → j < c0 → dy i ≤ dy j) (hd : d ≤ 9999) (hm3 : m < v 3) (hD : D ≤ 2000) {N : Nat} (hN : 3000 < N) : ∀ (n j a : Nat), j ≤ D → D < n + j → a ≤ c0 → (∀ i, i < a → dy i + v 6 ≤ d + j) → (∀ i, a ≤ i → i < c0 → d + j < dy i + v 6) → f_X0_futureTier_b46 N (nI m) (nI D) 8 5 3584 (nI d) (nI (v 6)) (nI (v 7)) cs th (nI c0) pr n (qT pr dy c0 (v 6) m (d + j)) (nI a) (nI (d + 1 + j)) (ckT v pr dy c0 m d (nI (v 7)) x0 j).1 (ckT v pr dy c0 m d (nI (v 7)) x0 j).2 = some ((ckT v pr dy c0 m d (nI (v 7)) x0 D).1, (ckT v pr dy c0 m d (nI (v 7)) x0 D).1, (ckT v pr dy c0 m d (nI (v 7)) x0 D).2) := by
  have hv3 := hV.1.2.2.2.2.1
  have hv6 := hV.2.1.2.2.2.1
  intro n
  induction n with
  | zero => intro j a h1 h2; omega
  | succ n ih =>
    intro j a h1 h2 ha hb1 hb2
    rw [f_X0_futureTier_b46, nI_add]
    by_cases h : j = D
    · subst h
      rw [if_pos ((nI_ltI (by omega) (by omega)).mpr (by omega))]
      unfold f_X9_presentTier
      rw [Option.bind_some]
    · obtain ⟨r, f1, f2, f3, f4, f5⟩ := C_firstAfter (dy := dy) hc (fun i hi => ⟨(hdy i hi).1, by have := (hdy i hi).2; omega⟩) (t := d + 1 + j) (win := v 6) (by omega) (by omega) ha (N := N) (by omega)
      have hr1 : ∀ i, i < r → dy i + v 6 ≤ d + (j + 1) := fun i hi => by
        by_cases h : i < a
        · have := hb1 i h; omega
        · have := f4 i (by omega) hi; omega
      have hr2 : ∀ i, r ≤ i → i < c0 → d + (j + 1) < dy i + v 6 := fun i h1 h2 => by
        have h3 := f5 (by omega)
        have h4 := hmono r i h1 h2
        omega
      have hsub : qT pr dy c0 (v 6) m (d + j) - sumR (bW pr m) a (r - a) = qT pr dy c0 (v 6) m (d + (j + 1)) := by
        rw [qT_place ha hb1 hb2, qT_place f3 hr1 hr2]
        have hsp := sumR_split (f := bW pr m) (n := r - a) (k := c0 - r) (a := a)
        rw [show r - a + (c0 - r) = c0 - a by omega, show a + (r - a) = r by omega] at hsp
        rw [hsp, Int32.add_comm (sumR (bW pr m) a (r - a)), add_subI]
      rw [if_neg (fun hh => by have := (nI_ltI (by omega) (by omega)).mp hh; omega)]
      unfold f_X7_window f_X7_grace
      rw [Option.bind_some, f1, Option.bind_some, C_bases (by omega) f2 (by omega), Option.bind_some, Option.bind_some, hsub, C_tierFor _ h0 hV.1.1 hV.1.2.1 ht (by omega), Option.bind_some, Option.bind_some, C_check, Option.bind_some, nI_1, Option.bind_some]
      have h9 := ih (j + 1) r (by omega) (by omega) f3 hr1 hr2
      rw [show d + 1 + (j + 1) = d + 1 + j + 1 by omega] at h9
      have e : ckT v pr dy c0 m d (nI (v 7)) x0 (j + 1) = ckI (nI (tierT v (qT pr dy c0 (v 6) m (d + (j + 1))) (v 0 - 1))) (nI (d + 1 + j)) (nI (v 7)) (ckT v pr dy c0 m d (nI (v 7)) x0 j).1 (ckT v pr dy c0 m d (nI (v 7)) x0 j).2 := by
        rw [show d + 1 + j = d + (j + 1) by omega]; rfl
      rw [e] at h9
      exact h9
