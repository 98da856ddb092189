theorem takeE_full {q : Nat → Bool} {w : Nat} {x : En} : ∀ {E : List En}, fstE q E = some x → x.2 ≤ w → takeE q w E = takeE q x.2 E
  | [], h, _ => nomatch h
  | z :: E, h, hw => by
    rw [fstE] at h
    rw [takeE, takeE]
    cases hq : q z.1 with
    | true =>
      rw [hq, if_pos rfl] at h
      cases h
      rw [if_pos rfl, if_pos rfl, if_pos hw, if_pos (Nat.le_refl _)]
    | false =>
      rw [hq, if_neg Bool.false_ne_true] at h
      rw [if_neg Bool.false_ne_true, if_neg Bool.false_ne_true, takeE_full h hw]
theorem fst_le_sumQ {q : Nat → Bool} {x : En} {E : List En} (h : fstE q E = some x) : x.2 ≤ sumQ q E := by
  have := sumQ_take (w := x.2) h
  rw [Nat.min_self] at this
  omega
/-- the class moves a member's points out of a pool -/
theorem C_out_from {v : Nat → Nat} {d m : Nat} (hm3 : m < v 3) (hm : m < 12) (x2 : Int32) {N : Nat} (hN : 1024 < N) (hq : QOut (qK x2 (-2) (nI m)) m) (hmf tt0 : Nat → Int32) : ∀ (n r w : Nat) (x3 : Int32) (S : List En × ((Nat → Nat) × Nat)) (z : Int32) (gl gd gc gp de tt : Nat → Int32), CoE S.1 z gl gd gc gp → EV v d S.1 → (∀ j, j < 12 → de j = nI (S.2.1 j)) → S.2.1 m < 2 ^ 31 → (∀ j, tt j = if j = 4 then tt0 4 + nI S.2.2 else tt0 j) → sumQ (qK x2 (-2) (nI m)) S.1 < w → w < 2 ^ 31 → r < n → r ≤ 1024 → S.1.length ≤ 1024 → ∃ (o : T_CO) (de' tt' : Nat → Int32), f_X0_moveOut_b17 N (nI m) x2 1024 1024 1024 1024 12 12 5 hmf n x3 (nI r) z gl gd gc gp de tt = f_X0_moveOut_b96 (nI m) (x3 + nI (w - (itG (qK x2 (-2) (nI m)) (actC m) r w S).1)) 12 o.1 o.2.1 o.2.2.1 o.2.2.2.1 o.2.2.2.2 de' hmf tt' ∧ CoE (itG (qK x2 (-2) (nI m)) (actC m) r w S).2.1 o.1 o.2.1 o.2.2.1 o.2.2.2.1 o.2.2.2.2 ∧ (∀ j, j < 12 → de' j = nI ((itG (qK x2 (-2) (nI m)) (actC m) r w S).2.2.1 j)) ∧ (∀ j, tt' j = if j = 4 then tt0 4 + nI (itG (qK x2 (-2) (nI m)) (actC m) r w S).2.2.2 else tt0 j) ∧ (itG (qK x2 (-2) (nI m)) (actC m) r w S).1 ≤ w := by
  intro n
  induction n with
  | zero => intro r w x3 S z gl gd gc gp de tt H hE hde hD htt hsq hw h1 h2 h3; omega
  | succ n ih =>
    intro r w x3 S z gl gd gc gp de tt H hE hde hD htt hsq hw h1 h2 h3
    rw [f_X0_moveOut_b17]
    cases r with
    | zero =>
      rw [nI_0, if_pos (Int32.le_refl 0)]
      refine ⟨(z, gl, gd, gc, gp), de, tt, ?_, H, hde, htt, Nat.le_refl _⟩
      show _ = f_X0_moveOut_b96 (nI m) (x3 + nI (w - w)) 12 z gl gd gc gp de hmf tt
      rw [Nat.sub_self, nI_0, Int32.add_zero]
    | succ r =>
      rw [if_neg (nI_nle (Nat.succ_pos r) (by omega))]
      cases E_first H x2 (-2) (nI m) hN with
      | inl h =>
        rw [h.2, Option.bind_some, if_pos rfl, itG_none _ _ _ _ _ h.1]
        refine ⟨(z, gl, gd, gc, gp), de, tt, ?_, H, hde, htt, Nat.le_refl _⟩
        show _ = f_X0_moveOut_b96 (nI m) (x3 + nI (w - w)) 12 z gl gd gc gp de hmf tt
        rw [Nat.sub_self, nI_0, Int32.add_zero]
      | inr h =>
        obtain ⟨j, x, k1, k2, k3, k4, k5, k6, k7, k8, k9, k10, k11⟩ := h
        have hxq := fst_le_sumQ k5
        have hmin : min x.2 w = x.2 := Nat.min_eq_left (by omega)
        obtain ⟨o, l1, l2⟩ := k11 x.2 (by omega)
        rw [Nat.min_self] at l1
        rw [← takeE_full k5 (show x.2 ≤ w by omega)] at l2
        have hts := takeE_sum (w := w) k5
        have hsm := H.2.2.2
        have htl := takeE_len1 k5 (show x.2 ≤ w by omega)
        have hst := sumQ_take (w := w) k5
        obtain ⟨o2, c1, c2⟩ := C_credit l2 (m := m) (e := kD x.1) (n := x.2) (D := S.2.1 m) (db := de) (tt := tt) hm (kD_lt _) (hde m hm) hD (by omega) (by omega) (by omega) hN
        obtain ⟨a1, a2, a3, a4, a5, a6, a7, a8⟩ := actC_step (w := w) hm3 hm H.2.1 H.2.2.1 hE k5
        have hsq2 := actC_sumQ hq x (min x.2 w) (takeE (qK x2 (-2) (nI m)) w S.1, S.2)
        rw [itG_some _ _ _ _ _ (by omega) k5, k6, Option.bind_some, if_neg k2]
        unfold f_X1_dayOf f_X1_pointsOf
        rw [X6_at_in gd (by decide) k1, X6_at_in gp (by decide) k1, Option.bind_some, Option.bind_some, Option.bind_some, Option.bind_some, k8, k10, l1, Option.bind_some]
        dsimp only
        rw [c1, Option.bind_some, Option.bind_some, show nI (r + 1) + (-1 : Int32) = nI r by rw [← Int32.sub_eq_add_neg]; exact nI_pred r, Option.bind_some]
        dsimp only
        rw [hmin] at hsq2 a3 a8 ⊢
        obtain ⟨oo, de', tt', r1, r2, r3, r4, r5⟩ := ih r (w - x.2) (x3 + nI x.2) (actC m x x.2 (takeE (qK x2 (-2) (nI m)) w S.1, S.2)) o2.1 o2.2.1 o2.2.2.1 o2.2.2.2.1 o2.2.2.2.2 (upd de m (nI (S.2.1 m - min x.2 (S.2.1 m)))) (upd tt 4 (tt 4 + nI (min x.2 (S.2.1 m)))) c2 a3 (fun i hi => by
          show upd de m (nI (S.2.1 m - min x.2 (S.2.1 m))) i = nI (updN S.2.1 m (S.2.1 m - min x.2 (S.2.1 m)) i)
          by_cases e : i = m
          · rw [e, upd_at, updN_at]
          · rw [upd_ne _ _ e, updN_ne _ _ e]; exact hde i hi) (by
          show updN S.2.1 m (S.2.1 m - min x.2 (S.2.1 m)) m < 2 ^ 31
          rw [updN_at]; omega) (fun i => by
          show upd tt 4 (tt 4 + nI (min x.2 (S.2.1 m))) i = if i = 4 then tt0 4 + nI (S.2.2 + min x.2 (S.2.1 m)) else tt0 i
          by_cases e : i = 4
          · rw [e, upd_at, if_pos rfl, htt 4, if_pos rfl, Int32.add_assoc, nI_add]
          · rw [upd_ne _ _ e, if_neg e, htt i, if_neg e]) (by rw [hsq2]; dsimp only; omega) (by omega) (by omega) (by omega) (by have := a8 (by omega); omega)
        refine ⟨oo, de', tt', ?_, r2, r3, r4, by omega⟩
        rw [r1, Int32.add_assoc, nI_add]
        congr 3
        omega
/-- the reference moves them -/
theorem M_leave_loop {v : Nat → Nat} {d h m W : Nat} {g0 pa : Nat → Int32} {S : List En × ((Nat → Nat) × Nat)} (hV : SV v) (H : RC v d m g0 S g0) (hs : Sor S.1) (hd : d ≤ 9999) (hg : g0 0 = nI d) (hh : h < 4) (hm : m < 12) (hm3 : m < v 3) (hW : sumQ (qK (nI (12 + h)) (-2) (nI m)) S.1 < W) (hW2 : W < 2 ^ 31) (t ch : Int32) {N : Nat} (hN : 2000 < N) : ∃ g', f_X11_leave_b54 (nI m) (nI h) 72470 t ch pa N 0 (nI (d + 1)) g0 = some (nI W - nI (itG (qK (nI (12 + h)) (-2) (nI m)) (actC m) S.1.length W S).1, t, ch, upd g' (30 + m) (-1), pa) ∧ RC v d m g0 (itG (qK (nI (12 + h)) (-2) (nI m)) (actC m) S.1.length W S).2 g' := by
  have hv5 := hV.2.1.2.1
  have hq : QOut (qK (nI (12 + h)) (-2) (nI m)) m := fun e he => by
    rw [qK_listc (by omega) hm (by rw [kL_mk he (by omega)]; omega), kL_mk he (by omega), decide_eq_false (show ¬ m = 12 + h by omega), Bool.false_and]
  have key : ∃ g', f_X11_leave_b54 (nI m) (nI h) 72470 t ch pa (N - 0) (nI W - nI W) (nI (d + 1 + 0)) g0 = some (nI W - nI (itG (qK (nI (12 + h)) (-2) (nI m)) (actC m) S.1.length W S).1, t, ch, upd g' (30 + m) (-1), pa) ∧ (RC v d m g0 (itG (qK (nI (12 + h)) (-2) (nI m)) (actC m) S.1.length W S).2 g' ∧ sumQ (qK (nI (12 + h)) (-2) (nI m)) (itG (qK (nI (12 + h)) (-2) (nI m)) (actC m) S.1.length W S).2.1 < (itG (qK (nI (12 + h)) (-2) (nI m)) (actC m) S.1.length W S).1) := by
    refine scanW (actC_ok hq) (fun i => mkK (12 + h) (d + 1 + i) (m + 1)) 1000 W (fun w S g => RC v d m g0 S g ∧ sumQ (qK (nI (12 + h)) (-2) (nI m)) S.1 < w) (fun i w' g => f_X11_leave_b54 (nI m) (nI h) 72470 t ch pa (N - i) (nI W - nI w') (nI (d + 1 + i)) g) (fun w' g => some (nI W - nI w', t, ch, upd g (30 + m) (-1), pa)) ?hend ?hzero ?hmiss ?hhit (fun w S g h x hx => (h.1.2.1 x hx).2) ?hq ?hmono 1000 0 S.1.length W S g0 (by omega) (Nat.le_refl _) cntE_le hs ⟨H, hW⟩ ?hkey
    case hend =>
      intro w' g S _ hR
      obtain ⟨n, hn⟩ : ∃ n, N - 1000 = n + 1 := ⟨N - 1001, by omega⟩
      have gm := grd (i := 30 + m) (n := 72470) (by omega) (by decide)
      rw [hn, f_X11_leave_b54, M_last (RC_day hR.1 hg) hd, Option.bind_some, if_pos ((nI_ltI (by omega) (by omega)).mpr (by omega)), show (30 : Int32) + nI m = nI (30 + m) from nI_add 30 m, if_neg gm, nI_clamp (by omega), Option.bind_some]
    case hzero =>
      intro i g S hi hR
      exact absurd hR.2 (Nat.not_lt_zero _)
    case hmiss =>
      intro i w' g S hi h0 hw' hs' hR hp
      obtain ⟨n, hn⟩ : ∃ n, N - i = n + 1 := ⟨N - i - 1, by omega⟩
      have hn2 : N - (i + 1) = n := by omega
      have hcell : g (poI h (d + 1 + i) m) = nI 0 := by rw [hR.1.1.2 h _ m hh (by omega) (by omega) hm, hp]
      have hsame : upd g (poI h (d + 1 + i) m) 0 = g := by
        funext j
        by_cases hj : j = poI h (d + 1 + i) m
        · rw [hj, upd_at, hcell]; rfl
        · rw [upd_ne _ _ hj]
      obtain ⟨g', c1, c2, c3⟩ := RC_miss hR.1 hd hm hs' (e := d + 1 + i) (by omega) (by omega)
      have gp := grd (i := poI h (d + 1 + i) m) (n := 72470) (by unfold poI; omega) (by decide)
      have gp2 := grd2 (i := poI h (d + 1 + i) m) (n := 72470) (by unfold poI; omega) (by decide)
      refine ⟨g', ?_, c2, hR.2⟩
      rw [hn, hn2, f_X11_leave_b54, M_last (RC_day hR.1 hg) hd, Option.bind_some, if_neg (fun hh => by have := (nI_ltI (by omega) (by omega)).mp hh; omega), M_poolAt (by omega), Option.bind_some, if_neg gp, nI_clamp (by unfold poI; omega), Option.bind_some, if_neg gp2, hsame, Option.bind_some, hcell, Option.bind_some, c1, Option.bind_some, nI_1, Option.bind_some, nI_0, Int32.add_zero]
      rfl
    case hhit =>
      intro i w' g S hi h0 hw' hs' hR x hx hxm _ hf
      obtain ⟨n, hn⟩ : ∃ n, N - i = n + 1 := ⟨N - i - 1, by omega⟩
      have hn2 : N - (i + 1) = n := by omega
      have hxq := fst_le_sumQ hf
      have hlt := hR.2
      have hmin : min x.2 w' = x.2 := Nat.min_eq_left (by omega)
      have hcell : g (poI h (d + 1 + i) m) = nI x.2 := by rw [hR.1.1.2 h _ m hh (by omega) (by omega) hm, ← hx, pt_mem hs' hxm]
      obtain ⟨g', c1, c2, c3⟩ := RC_hit hR.1 hd hm3 hm hs' (show w' < 2 ^ 31 by omega) (e := d + 1 + i) (by rw [hx, kD_mk (by omega) (by omega)]) hf (i := poI h (d + 1 + i) m) (g1 := upd g (poI h (d + 1 + i) m) (nI (x.2 - min x.2 w'))) (by unfold poI; omega) rfl (MC_po hd hR.1.1 hh hm (by omega) (by omega) (fun j => by
        rw [takeE_pt hs' hf, hx]
        by_cases hj : j = mkK (12 + h) (d + 1 + i) (m + 1)
        · rw [if_pos hj, if_pos hj]; omega
        · rw [if_neg hj, if_neg hj])) hv5
      have gp := grd (i := poI h (d + 1 + i) m) (n := 72470) (by unfold poI; omega) (by decide)
      have gp2 := grd2 (i := poI h (d + 1 + i) m) (n := 72470) (by unfold poI; omega) (by decide)
      have hst := sumQ_take (w := w') hf
      refine ⟨g', ?_, c2, ?_⟩
      · rw [hmin, Nat.sub_self, nI_0] at c1
        rw [hn, hn2, f_X11_leave_b54, M_last (RC_day hR.1 hg) hd, Option.bind_some, if_neg (fun hh => by have := (nI_ltI (by omega) (by omega)).mp hh; omega), M_poolAt (by omega), Option.bind_some, if_neg gp, nI_clamp (by unfold poI; omega), Option.bind_some, if_neg gp2, Option.bind_some, hcell, Option.bind_some, c1, Option.bind_some, nI_1, Option.bind_some, hmin]
        have hww : nI W - nI w' + nI x.2 = nI W - nI (w' - x.2) := by
          rw [← nI_subI (show x.2 ≤ w' by omega), Int32.sub_eq_add_neg (nI W) (nI w' - nI x.2), Int32.neg_sub, Int32.sub_eq_add_neg, Int32.sub_eq_add_neg, Int32.add_assoc, Int32.add_comm (-nI w')]
        rw [hww]
        rfl
      · rw [actC_sumQ hq]
        dsimp only
        omega
    case hq =>
      intro i hi
      rw [qK_listc (by omega) hm (by rw [kL_mk (by omega) (by omega)]; omega), kL_mk (by omega) (by omega), kC_mk (by omega), decide_eq_true rfl, decide_eq_true rfl]; rfl
    case hmono =>
      intro i j hij hj
      unfold mkK
      omega
    case hkey =>
      have hD : DE d S.1 := fun x hx => by
        have := (H.2.2.1 x hx).1
        omega
      exact fun y hy hq => qP_key hD y hy (by rw [qK_listc (by omega) hm (H.2.1 y hy).1.1] at hq; exact hq)
  rw [Int32.sub_self] at key
  obtain ⟨g', k1, k2, _⟩ := key
  exact ⟨g', k1, k2⟩
/-- a leaving, on both sides -/
theorem S_leave {v : Nat → Nat} {k : Nat} {b : T_BK} {fx g pa pa' : Nat → Int32} {ch ch' : Int32} (hV : SV v) (hM : SM v fx) (H : BR v k b g) (hk : k < 512) {m : Nat} (hm3 : m < v 3) (hho : ¬ g (30 + m) = -1) {N : Nat} (hN : 2000 < N) (hr : f_X11_remembers N 72470 579760 ch g pa = some (ch', pa')) : ∃ b' g' p, F_B_moveOut N b (nI m) = some (p, b') ∧ f_X11_leave N (nI m) 71 72470 579760 ch fx g pa = some (p, 0, ch', g', pa') ∧ BR v (k + 1) b' g' ∧ b'.2.2.2.2.2.2.2.2.2.2.2.2.2.2.2.1 = upd b.2.2.2.2.2.2.2.2.2.2.2.2.2.2.2.1 m (-1) := by
  obtain ⟨day, ws, z, gl, gd, gc, gp, cnt, pr, nx, sz, dp, ti, be, de, hm, qu, sh, re, tt, ls, ba, st, si⟩ := b
  have H : BRc v k day ws z gl gd gc gp cnt pr nx sz dp ti be de hm qu sh re tt g := H
  obtain ⟨d, E, Lg, c, dy, db, rd, ⟨a1, a2⟩, ⟨a3, a4, a5⟩, ⟨H1, H2, H3⟩, ⟨HL, HLm⟩, H4, H5, H6, H7⟩ := H
  have hv3 := hV.1.2.2.2.2.1
  have hv4 := hV.1.2.2.2.2.2
  have hm12 : m < 12 := by omega
  obtain ⟨t1, t2, t3, ⟨t, t4, t5⟩, ⟨ho, t6, t7⟩⟩ := H6.1 m hm12
  obtain ⟨h, hh⟩ : ∃ h, ho = h + 1 := ⟨ho - 1, by
    have : ¬ ho = 0 := fun e => hho (by rw [t7, e]; rfl)
    omega⟩
  subst hh
  have h3 : cI (h + 1) = nI h := rfl
  obtain ⟨ex, x1, x2⟩ := H7.2.2.2
  have hbd := bd_512 (k := k) (by omega)
  have hbs := bd_succ k
  have hsm := H1.2.2.2
  obtain ⟨u1, u2, u3, u4⟩ := H7.1 m hm12
  have hsq := sumQ_le (q := qK (nI (12 + h)) (-2) (nI m)) (E := E)
  have hqo : QOut (qK (nI (12 + h)) (-2) (nI m)) m := fun e he => by
    rw [qK_listc (by omega) hm12 (by rw [kL_mk he (by omega)]; omega), kL_mk he (by omega), decide_eq_false (show ¬ m = 12 + h by omega), Bool.false_and]
  obtain ⟨W, hW⟩ : ∃ W, W = sumP E + 1 := ⟨_, rfl⟩
  obtain ⟨T, hT⟩ : ∃ T, T = itG (qK (nI (12 + h)) (-2) (nI m)) (actC m) E.length W (E, (db, 0)) := ⟨_, rfl⟩
  have hlen : E.length ≤ 1024 := by omega
  obtain ⟨o, de', tt', C1, C2, C3, C4, C5⟩ := C_out_from (d := d) hm3 hm12 (nI (12 + h)) (N := N) (by omega) hqo hm tt N E.length W 0 (E, (db, 0)) z gl gd gc gp de tt H1 H3 (fun j hj => (H7.1 j hj).1) (by show db m < _; omega) (fun j => by
    by_cases e : j = 4
    · rw [if_pos e, e, nI_0, Int32.add_zero]
    · rw [if_neg e]) (by dsimp only; omega) (by omega) (by omega) hlen hlen
  obtain ⟨b1, b2, b3, b4, b5, b6, b7, b8⟩ := itC_ok (q := qK (nI (12 + h)) (-2) (nI m)) (d := d) hm3 hm12 E.length W (E, (db, 0)) H1.2.1 H1.2.2.1 H3
  have HR : RC v d m g (E, (db, 0)) g := ⟨H2, H1.2.2.1, H3, by show sumP E + 0 < _; omega, ⟨u2, by show db m < _; omega⟩, by rw [nI_0, Int32.add_zero], fun _ _ _ _ => rfl⟩
  obtain ⟨g1, K1, K2⟩ := M_leave_loop (pa := pa') (W := W) hV HR H1.2.1 a5 a4 (show h < 4 by omega) hm12 hm3 (by dsimp only; omega) (by omega) 0 ch' hN
  have K1' : f_X11_leave_b54 (nI m) (nI h) 72470 0 ch' pa' N 0 (nI (d + 1)) g = some (nI W - nI T.1, 0, ch', upd g1 (30 + m) (-1), pa') := by rw [hT]; exact K1
  have K2 : RC v d m g T.2 g1 := by rw [hT]; exact K2
  rw [← hT] at C1 C2 C3 C4 C5 b4 b5 b6 b7
  dsimp only at b4 b5 b6 b7
  obtain ⟨k1, k2, k3, k4, ⟨k5, k6⟩, k7, k8⟩ := K2
  have hz := H1.1.2.1
  rw [List.length_map] at hz
  have hl4 : T.2.1.length ≤ 2 * (k + 1) := by omega
  subst a3
  refine ⟨(nI d, ws, o.1, o.2.1, o.2.2.1, o.2.2.2.1, o.2.2.2.2, cnt, pr, nx, sz, dp, ti, be, de', upd hm m (-1), qu, sh, re, tt', ls, ba, st, si), upd g1 (30 + m) (-1), nI (W - T.1), ?_, ?_, ?_, rfl⟩
  · unfold F_B_moveOut f_X0_moveOut f_X0_poolOf f_X1_size
    dsimp only
    have C1' : f_X0_moveOut_b17 N (nI m) (nI (12 + h)) 1024 1024 1024 1024 12 12 5 hm N 0 z z gl gd gc gp de tt = f_X0_moveOut_b96 (nI m) (0 + nI (W - T.1)) 12 o.1 o.2.1 o.2.2.1 o.2.2.2.1 o.2.2.2.2 de' hm tt' := by
      have hC := C1
      rw [← hz] at hC
      exact hC
    rw [X6_at_in hm h12 hm12, Option.bind_some, t3, t7, C_poolList (by omega), Option.bind_some, if_neg (by omega), Option.bind_some, Option.bind_some, show 11 + (h + 1) = 12 + h by omega, C1', Int32.zero_add]
    unfold f_X0_moveOut_b96
    rw [X6_put_in hm _ h12 hm12, Option.bind_some, Option.bind_some]
  · have e1 : (30 : Int32) + nI m = nI (30 + m) := nI_add 30 m
    have gm := grd (i := 30 + m) (n := 72470) (by omega) (by decide)
    unfold f_X11_leave
    rw [M_isMember (nI m) (n := v 3) (by omega) (hM 3 (by omega)), Option.bind_some, if_neg (outN_in (by omega) hm3), if_neg (by decide), e1, if_neg gm, nI_clamp (by omega), Option.bind_some, if_neg hho, hr, Option.bind_some, M_today, Option.bind_some, a4, nI_1, Option.bind_some, t7, h3, K1', nI_subI C5]
  · unfold BR
    dsimp only
    refine ⟨d, T.2.1, Lg, c, dy, T.2.2.1, rd, ⟨hl4, by omega⟩, ⟨rfl, ?_, a5⟩, ⟨C2, MC_same k1 (fun i p q => by rw [upd_ne _ _ (by omega)]), k3⟩, ⟨HL, LogM_same HLm (by rw [upd_ne _ _ (by omega), k8 2 (by omega) (by omega) (by omega)]) (fun i p q => by rw [upd_ne _ _ (by omega), k8 i (by omega) (by omega) (by omega)])⟩, B4_same H4 (by rw [upd_ne _ _ (by omega), k8 1 (by omega) (by omega) (by omega)]) (fun i p q => by rw [upd_ne _ _ (by omega), k8 i (by omega) (by omega) (by omega)]), B5_same hV H5 (fun i p q => by rw [upd_ne _ _ (by omega), k8 i (by omega) (by omega) (by omega)]), ⟨fun m' hm' => ?_, fun q hq => ?_⟩, fun m' hm' => ?_, fun i hi => ?_, fun i hi => ?_, ex, ?_, by omega⟩
    · rw [upd_ne _ _ (by omega), k8 0 (by omega) (by omega) (by omega), a4]
    · obtain ⟨z1, z2, z3, z4, z5⟩ := H6.1 m' hm'
      rw [upd_ne _ _ (show ¬ 42 + m' = 30 + m by omega), upd_ne _ _ (show ¬ 54 + m' = 30 + m by omega), k8 (42 + m') (by omega) (by omega) (by omega), k8 (54 + m') (by omega) (by omega) (by omega)]
      refine ⟨z1, z2, ?_, z4, ?_⟩
      · by_cases e : m' = m
        · rw [e, upd_at, upd_at]
        · rw [upd_ne _ _ e, upd_ne _ _ (show ¬ 30 + m' = 30 + m by omega), k8 _ (by omega) (by omega) (by omega), z3]
      · by_cases e : m' = m
        · rw [e, upd_at]
          exact ⟨0, Nat.zero_le _, rfl⟩
        · rw [upd_ne _ _ (show ¬ 30 + m' = 30 + m by omega), k8 _ (by omega) (by omega) (by omega)]
          exact z5
    · rw [upd_ne _ _ (by omega), k8 _ (by omega) (by omega) (by omega)]
      exact H6.2 q hq
    · obtain ⟨z1, z2, z3, z4⟩ := H7.1 m' hm'
      rw [C3 m' hm', upd_ne _ _ (show ¬ 18 + m' = 30 + m by omega)]
      by_cases e : m' = m
      · subst e
        exact ⟨rfl, k5, by omega, fun hh => by omega⟩
      · rw [k8 _ (by omega) (by omega) (by omega), b6 m' e]
        exact ⟨rfl, z2, by omega, z4⟩
    · rw [upd_ne _ _ (by omega), k8 _ (by omega) (by omega) (by omega)]
      exact H7.2.1 i hi
    · rw [C4 i, upd_ne _ _ (by omega)]
      by_cases e : i = 4
      · rw [if_pos e, e]
        show _ = g1 7
        rw [k7, H7.2.2.1 4 (by omega)]
      · rw [if_neg e, k8 _ (by omega) (by omega) (by omega)]
        exact H7.2.2.1 i hi
    · rw [C4 2, if_neg (by decide), x1]

