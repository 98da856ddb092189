theorem itG_keys {σ : Type} {q : Nat → Bool} {act : En → Nat → List En × σ → List En × σ} (hact : ∀ x n S, (act x n S).1 = S.1) : ∀ (r w : Nat) (S : List En × σ), ∀ y ∈ (itG q act r w S).2.1, ∃ x ∈ S.1, x.1 = y.1 := by
  intro r
  induction r with
  | zero => intro w S y hy; exact ⟨y, hy, rfl⟩
  | succ r ih =>
    intro w S y hy
    by_cases hw : w = 0
    · rw [hw, itG_zero] at hy; exact ⟨y, hy, rfl⟩
    cases hf : fstE q S.1 with
    | none => rw [itG_none _ _ _ _ _ hf] at hy; exact ⟨y, hy, rfl⟩
    | some x =>
      rw [itG_some _ _ _ _ _ hw hf] at hy
      obtain ⟨x1, h1, h2⟩ := ih _ _ y hy
      rw [hact] at h1
      obtain ⟨x2, h3, h4, _⟩ := takeE_mem h1
      exact ⟨x2, h3, h4.trans h2⟩
theorem sumQ_split {q : Nat → Bool} : ∀ {E : List En}, sumQ q E + sumQ (fun k => !q k) E = sumP E
  | [] => rfl
  | x :: E => by
    have := sumQ_split (q := q) (E := E)
    rw [sumQ, sumQ, sumP]
    cases h : q x.1
    · rw [if_neg Bool.false_ne_true, if_pos (by rw [Bool.not_false])]; omega
    · rw [if_pos rfl, if_neg (by rw [Bool.not_true]; exact Bool.false_ne_true)]; omega
theorem qK_lst {a : Nat} {E : List En} (ha : a < 16) (hv : ∀ x ∈ E, VK x.1 ∧ 1 ≤ x.2) : sumQ (qK (nI a) (-2) (-2)) E = sumP (lst a E) := by
  rw [lst_sum]
  exact sumQ_congr (fun x hx => qK_list ha (hv x hx).1.1)
theorem anyI_lt {a k : Nat} (ha : a < 16) (hk : kL k = a) : qK (nI a) (-2) (-2) k = true := by
  rw [qK_list ha (by omega)]; exact decide_eq_true hk
theorem avN_l {m ho : Nat} {E : List En} : avN m ho E = sumP (lst m E) + (if ho = 0 then 0 else sumP (lst (11 + ho) E)) := by
  unfold avN
  rw [lst_sum, lst_sum]
/-- what is spent, list by list -/
theorem spend_sums {v : Nat → Nat} {d m ho w : Nat} {E : List En} {rd : Nat → Nat} (hV : SV v) (hs : Sor E) (hv : ∀ x ∈ E, VK x.1 ∧ 1 ≤ x.2) (hE : EV v d E) (hm : m < 12) (hho : ho ≤ 4) (hw : w ≤ avN m ho E) : sumP (lst m (spendE v d m ho w E rd).2.1) + min w (sumP (lst m E)) = sumP (lst m E) ∧ (∀ h, h < 4 → sumP (lst (12 + h) (spendE v d m ho w E rd).2.1) + (if 12 + h = 11 + ho then w - sumP (lst m E) else 0) = sumP (lst (12 + h) E)) ∧ sumP (spendE v d m ho w E rd).2.1 + w = sumP E ∧ (∀ y ∈ (spendE v d m ho w E rd).2.1, ∃ x ∈ E, x.1 = y.1) ∧ Sor (spendE v d m ho w E rd).2.1 ∧ (∀ x ∈ (spendE v d m ho w E rd).2.1, VK x.1 ∧ 1 ≤ x.2) ∧ sumN (spendE v d m ho w E rd).2.2 10 = sumN rd 10 + w := by
  obtain ⟨a1, a2, a3, a4, a5, a6, a7, a8⟩ := itR_ok v d hV (qK (nI m) (-2) (-2)) E.length w (E, rd) hs hv hE
  have hl1 := itG_left (q := qK (nI m) (-2) (-2)) (act := actR v d) (fun x n S h => ⟨h, rfl, rfl⟩) E.length w (E, rd) hs cntE_le
  have k1 := itG_keys (q := qK (nI m) (-2) (-2)) (act := actR v d) (fun x n S => rfl) E.length w (E, rd)
  generalize hS : itG (qK (nI m) (-2) (-2)) (actR v d) E.length w (E, rd) = S at *
  obtain ⟨b1, b2, b3, b4, b5, b6, b7, b8⟩ := itR_ok v d hV (qK (if ho = 0 then -1 else nI (11 + ho)) (-2) (-2)) S.2.1.length S.1 S.2 a1 a2 a3
  have hl2 := itG_left (q := qK (if ho = 0 then -1 else nI (11 + ho)) (-2) (-2)) (act := actR v d) (fun x n S h => ⟨h, rfl, rfl⟩) S.2.1.length S.1 S.2 a1 cntE_le
  have k2 := itG_keys (q := qK (if ho = 0 then -1 else nI (11 + ho)) (-2) (-2)) (act := actR v d) (fun x n S => rfl) S.2.1.length S.1 S.2
  have hz := spendE_zero (rd := rd) hV hs hv hE hm hho hw
  have hT : spendE v d m ho w E rd = itG (qK (if ho = 0 then -1 else nI (11 + ho)) (-2) (-2)) (actR v d) S.2.1.length S.1 S.2 := by
    unfold spendE
    rw [hS]
  rw [← hT] at b1 b2 b3 b4 b5 b6 b7 b8 hl2 k2
  rw [qK_lst (by omega) hv] at hl1
  dsimp only at a4 a7 a8
  rw [hz] at b4 b7
  have c1 := sumQ_split (q := qK (nI m) (-2) (-2)) (E := E)
  have c2 := sumQ_split (q := qK (nI m) (-2) (-2)) (E := S.2.1)
  have c3 := a8 (fun k => !qK (nI m) (-2) (-2) k) (fun k hk => by rw [hk]; rfl)
  rw [qK_lst (by omega) hv] at c1
  rw [qK_lst (by omega) a2] at c2
  have hself : sumP (lst m S.2.1) + min w (sumP (lst m E)) = sumP (lst m E) := by omega
  have hne : ∀ (p : Nat), p < 16 → ¬ p = m → sumP (lst p S.2.1) = sumP (lst p E) := fun p hp hpm => by
    rw [lst_sum, lst_sum]
    refine a8 _ (fun k hk => decide_eq_false (fun hh => hpm ?_))
    have h1 : kL k < 16 := by omega
    rw [qK_list (by omega) h1] at hk
    rw [← hh]
    exact of_decide_eq_true hk
  have hpool : ∀ p, p < 16 → (∀ k, kL k = p → qK (if ho = 0 then -1 else nI (11 + ho)) (-2) (-2) k = false) → sumP (lst p (spendE v d m ho w E rd).2.1) = sumP (lst p S.2.1) := fun p hp h => by
    rw [lst_sum, lst_sum]
    refine b8 _ (fun k hk => decide_eq_false (fun hh => ?_))
    rw [h k hh] at hk
    cases hk
  have hq0 : ∀ k, kL k < 16 → ho = 0 → qK (if ho = 0 then -1 else nI (11 + ho)) (-2) (-2) k = false := fun k hk h => by rw [if_pos h]; exact qK_none hk
  have hq1 : ∀ k, kL k < 16 → ¬ ho = 0 → qK (if ho = 0 then -1 else nI (11 + ho)) (-2) (-2) k = decide (kL k = 11 + ho) := fun k hk h => by rw [if_neg h]; exact qK_list (by omega) hk
  refine ⟨?_, fun h hh => ?_, by omega, fun y hy => ?_, b1, b2, by omega⟩
  · rw [hpool m (by omega) (fun k hk => by
      by_cases h0 : ho = 0
      · exact hq0 k (by omega) h0
      · rw [hq1 k (by omega) h0]; exact decide_eq_false (by omega))]
    exact hself
  · by_cases e : 12 + h = 11 + ho
    · have h0 : ¬ ho = 0 := by omega
      rw [if_pos e]
      have d1 := sumQ_split (q := qK (nI (11 + ho)) (-2) (-2)) (E := S.2.1)
      have d2 := sumQ_split (q := qK (nI (11 + ho)) (-2) (-2)) (E := (spendE v d m ho w E rd).2.1)
      have d3 := b8 (fun k => !qK (nI (11 + ho)) (-2) (-2) k) (fun k hk => by rw [if_neg h0] at hk; rw [hk]; rfl)
      rw [qK_lst (by omega) a2] at d1
      rw [qK_lst (by omega) b2] at d2
      have d4 := hne (11 + ho) (by omega) (by omega)
      rw [e]
      omega
    · rw [if_neg e, hpool (12 + h) (by omega) (fun k hk => by
        by_cases h0 : ho = 0
        · exact hq0 k (by omega) h0
        · rw [hq1 k (by omega) h0]; exact decide_eq_false (by omega)), hne (12 + h) (by omega) (by omega)]
      rfl
  · obtain ⟨x, h1, h2⟩ := k2 y hy
    obtain ⟨x', h3, h4⟩ := k1 x h1
    exact ⟨x', h3, h4.trans h2⟩
theorem X_redeem {v : Nat → Nat} {k : Nat} {a : BA} {s : T_SE} {b : T_BK} {g : Nat → Int32} (hV : SV v) (hS : SC v s) (H : BQ v k a b g) (J : JS v a) (hk : k < 512) {m w h0 : Nat} (hm3 : m < v 3) (hw1 : 1 ≤ w) (hw : w < 2 ^ 31) (hh0 : a.hm m = cI h0) (hh1 : h0 ≤ 1) {N : Nat} (hNN : 600000 < N) : F_B_redeemable N b (nI m) = some (nI (avN m h0 a.E)) ∧ avN m h0 a.E < 2 ^ 31 ∧ (w ≤ avN m h0 a.E → ∃ b' g' a', F_B_spend N s b (nI m) (nI w) = some (nI (w - sumP (lst m a.E)), b') ∧ BQ v (k + 1) a' b' g' ∧ JS v a' ∧ a'.hm m = cI h0 ∧ avN m h0 a'.E + w = avN m h0 a.E ∧ sumP (lst 12 a'.E) + (w - sumP (lst m a.E)) = sumP (lst 12 a.E) ∧ a'.d = a.d) := by
  have hN : 2000 < N := by omega
  obtain ⟨ch', pa', hrem⟩ := remN g hNN
  obtain ⟨T, hTl, hTr, -, hsp⟩ := S_redeem (fx := fun i => nI (v i)) (g := g) (pa := fun _ => 0) (ch := 0) hV (SMv v) hS (BQ_L H).1 hk hm3 hw1 hw hN
  obtain ⟨day, ws, z, gl, gd, gc, gp, cnt, pr, nx, sz, dp, ti, be, de, hm, qu, sh, re, tt, ls, ba, st, si⟩ := b
  have HB : BQ v k a (day, ws, z, gl, gd, gc, gp, cnt, pr, nx, sz, dp, ti, be, de, hm, qu, sh, re, tt, ls, ba, st, si) g := H
  obtain ⟨d, E, Lg, c, dy, db, rd, ati, abe, ahm, aqu, ash, att, apr⟩ := a
  obtain ⟨⟨a1, a2⟩, ⟨a3, a4, a5⟩, ⟨H1, H2, H3⟩, ⟨HL, HLm⟩, H4, H5, H6, H7, hL, ⟨T1, T2, T3, T4⟩⟩ := HB
  dsimp only [BA.d, BA.E, BA.Lg, BA.c, BA.dy, BA.db, BA.rd, BA.ti, BA.be, BA.hm, BA.qu, BA.sh, BA.tt, BA.pr] at a1 a2 a3 a4 a5 H1 H2 H3 HL HLm H4 H5 H6 H7 hL T1 T2 T3 T4 hh0 ⊢
  have hv3 := hV.1.2.2.2.2.1
  have hv4 := hV.1.2.2.2.2.2
  have hm12 : m < 12 := by omega
  have hhm : hm m = cI h0 := by rw [(T1 m hm12).2.2.1]; exact hh0
  have hle := avN_le (m := m) (ho := h0) (E := E) hm12
  have hsm := H1.2.2.2
  have hred : F_B_redeemable N (day, ws, z, gl, gd, gc, gp, cnt, pr, nx, sz, dp, ti, be, de, hm, qu, sh, re, tt, ls, ba, st, si) (nI m) = some (nI (avN m h0 E)) := by
    unfold F_B_redeemable
    dsimp only
    rw [C_redeemable H1 hm12 hhm (by omega) (by omega), Option.bind_some]
  refine ⟨hred, by omega, fun hwa => ?_⟩
  have hTT : T = avN m h0 E := by
    have := hTr.symm.trans hred
    exact (nI_eq (by omega) (by omega)).mp (Option.some.inj this)
  obtain ⟨b', g', q, c1, -, c3⟩ := hsp (by omega) ch' pa' hrem
  obtain ⟨o, re', lo, C1, C2, C3, C4⟩ := C_redeem (rd := rd) (re := re) (tt := tt) (hm := hm) hV a5 H1 HL H3 (fun i hi => (H7.2.1 i hi).1) hm12 hhm (by omega) hw hwa hN
  have hb : F_B_spend N s (day, ws, z, gl, gd, gc, gp, cnt, pr, nx, sz, dp, ti, be, de, hm, qu, sh, re, tt, ls, ba, st, si) (nI m) (nI w) = some (nI (w - sumQ (fun k => decide (kL k = m)) E), (day, ws, o.1, o.2.1, o.2.2.1, o.2.2.2.1, o.2.2.2.2, cnt, pr, lo.1, lo.2.1, lo.2.2, ti, be, de, hm, qu, sh, re', upd tt 1 (tt 1 + nI w), ls, ba, st, si)) := by
    unfold F_B_spend
    dsimp only
    rw [a3, hS.1.1, C1, Option.bind_some]
  rw [hb] at c1
  obtain ⟨rfl, rfl⟩ := Prod.mk.inj (Option.some.inj c1)
  obtain ⟨a', A, y1, y2, y3, y4, y5, y6, y7⟩ := BQ_ex (b := (day, ws, o.1, o.2.1, o.2.2.1, o.2.2.2.1, o.2.2.2.2, cnt, pr, lo.1, lo.2.1, lo.2.2, ti, be, de, hm, qu, sh, re', upd tt 1 (tt 1 + nI w), ls, ba, st, si)) ⟨c3, hL⟩
  have A0 := A
  obtain ⟨⟨_, _⟩, ⟨p1, _, p3⟩, ⟨P1, P2, P3⟩, _, Q4, Q5, Q6, Q7, _, _⟩ := A0
  dsimp only at p1 P1 Q4 Q7 y1 y2 y3 y4 y5 y6 y7
  have hd' : a'.d = d := (nI_eq (by omega) (by omega)).mp (p1.symm.trans a3)
  have hE' := CoE_uniq P1 C2
  obtain ⟨u1, u2, u3, u4, -, -, u5⟩ := spend_sums (rd := rd) hV H1.2.1 H1.2.2.1 H3 hm12 (by omega) hwa
  have hrd : sumN a'.rd 10 = sumN rd 10 + w := by
    rw [← u5]
    refine sumN_congr (fun i hi => ?_)
    have e1 := (Q7.2.1 i hi).1
    have e2 := C3 i hi
    obtain ⟨ex', f1, f2⟩ := Q7.2.2.2
    obtain ⟨ex, f3, f4⟩ := H7.2.2.2
    have b1 := bd_512 (k := k) (by omega)
    have b2 := bd_512 (k := k + 1) (by omega)
    have l1 := le_sumN (f := a'.rd) hi
    have l2 := le_sumN (f := (spendE v d m h0 w E rd).2.2) hi
    exact (nI_eq (by omega) (by omega)).mp (e1.symm.trans e2)
  rw [← lst_sum] at hb
  refine ⟨_, g', a', hb, A, ⟨?_, ?_, fun m' hm' => ?_, fun y hy hky => ?_⟩, by show a'.hm m = cI h0; rw [y3]; exact hhm, ?_, ?_, hd'⟩
  · rw [y6, upd_at, T3 1 (by decide), hrd]
    rw [show att 1 = nI (sumN rd 10) from J.1, nI_add]
  · have e2 := J.2.1
    dsimp only [BA.d, BA.E, BA.Lg, BA.c, BA.dy, BA.db, BA.rd, BA.ti, BA.be, BA.hm, BA.qu, BA.sh, BA.tt, BA.pr] at e2
    rw [← T3 0 (by decide), ← T3 1 (by decide), ← T3 2 (by decide), ← T3 3 (by decide), ← T3 4 (by decide)] at e2
    rw [y6, upd_ne (j := 0) _ _ (by decide), upd_at, upd_ne (j := 2) _ _ (by decide), upd_ne (j := 3) _ _ (by decide), upd_ne (j := 4) _ _ (by decide), hE', e2, ← u3, ← nI_add]
    ac_rfl
  · rw [hd', y1, y2, y4]
    have := J.2.2.1 m' hm'
    dsimp only [BA.d, BA.E, BA.Lg, BA.c, BA.dy, BA.db, BA.rd, BA.ti, BA.be, BA.hm, BA.qu, BA.sh, BA.tt, BA.pr] at this
    rw [← (T1 m' (by omega)).1, ← (T1 m' (by omega)).2.1, ← (T1 m' (by omega)).2.2.2] at this
    exact this
  · rw [y3]
    rw [hE'] at hy
    obtain ⟨x, h1, h2⟩ := u4 y hy
    rw [← h2] at hky ⊢
    have h3 := (H3 x h1).2.2 hky
    rw [(T1 _ (by omega)).2.2.1]
    exact J.2.2.2 x h1 hky
  · show avN m h0 a'.E + w = avN m h0 E
    rw [hE']
    have g1 := u2 (h0 - 1)
    rw [avN_l] at hwa ⊢
    rw [avN_l]
    by_cases e : h0 = 0
    · rw [if_pos e] at hwa
      rw [if_pos e, if_pos e]
      omega
    · rw [if_neg e] at hwa
      rw [if_neg e, if_neg e]
      have g2 := g1 (by omega)
      rw [if_pos (by omega), show 12 + (h0 - 1) = 11 + h0 by omega] at g2
      omega
  · show sumP (lst 12 a'.E) + (w - sumP (lst m E)) = sumP (lst 12 E)
    rw [hE']
    have g1 := u2 0 (by decide)
    rw [avN_l] at hwa
    by_cases e : 12 + 0 = 11 + h0
    · rw [if_pos e] at g1
      exact g1
    · rw [if_neg e] at g1
      rw [if_pos (show h0 = 0 by omega)] at hwa
      rw [show w - sumP (lst m E) = 0 by omega]
      exact g1
