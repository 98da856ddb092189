theorem X_transfer {v : Nat → Nat} {k : Nat} {a : BA} {b : T_BK} {g : Nat → Int32} (hV : SV v) (H : BQ v k a b g) (J : JS v a) (hk : k < 512) {m m2 w : Nat} (hm3 : m < v 3) (hm23 : m2 < v 3) (hne : ¬ m = m2) (hw1 : 1 ≤ w) (hw : w < 2 ^ 31) {N : Nat} (hNN : 600000 < N) : F_H_sum N b (nI m) (-2) = some (nI (sumP (lst m a.E))) ∧ sumP (lst m a.E) < 2 ^ 31 ∧ (w ≤ sumP (lst m a.E) → ∃ b' g' a' q, F_B_give N b (nI m) (nI m2) (nI w) = some (nI q, b') ∧ q < 2 ^ 31 ∧ BQ v (k + 1) a' b' g' ∧ JS v a' ∧ sumP (lst m a'.E) + w = sumP (lst m a.E) ∧ a'.db m2 + q = a.db m2 ∧ a'.d = a.d) := by
  have hN : 2000 < N := by omega
  obtain ⟨ch', pa', hrem⟩ := remN g hNN
  obtain ⟨TT, hTl, hTr, -, hsp⟩ := S_transfer (fx := fun i => nI (v i)) (g := g) (pa := fun _ => 0) (ch := 0) hV (SMv v) (BQ_L H).1 hk hm3 hm23 hne hw1 hw hN
  obtain ⟨day, ws, z, gl, gd, gc, gp, cnt, pr, nx, sz, dp, ti, be, de, hm, qu, sh, re, tt, ls, ba, st, si⟩ := b
  have HB : BQ v k a (day, ws, z, gl, gd, gc, gp, cnt, pr, nx, sz, dp, ti, be, de, hm, qu, sh, re, tt, ls, ba, st, si) g := H
  obtain ⟨d, E, Lg, c, dy, db, rd, ati, abe, ahm, aqu, ash, att, apr⟩ := a
  obtain ⟨⟨a1, a2⟩, ⟨a3, a4, a5⟩, ⟨H1, H2, H3⟩, ⟨HL, HLm⟩, H4, H5, H6, H7, hL, ⟨T1, T2, T3, T4⟩⟩ := HB
  dsimp only [BA.d, BA.E, BA.Lg, BA.c, BA.dy, BA.db, BA.rd, BA.ti, BA.be, BA.hm, BA.qu, BA.sh, BA.tt, BA.pr] at a1 a2 a3 a4 a5 H1 H2 H3 HL HLm H4 H5 H6 H7 hL T1 T2 T3 T4
  dsimp only [BA.d, BA.E, BA.Lg, BA.c, BA.dy, BA.db, BA.rd, BA.ti, BA.be, BA.hm, BA.qu, BA.sh, BA.tt, BA.pr] at ⊢
  have hv3 := hV.1.2.2.2.2.1
  have hm12 : m < 12 := by omega
  have hm212 : m2 < 12 := by omega
  obtain ⟨ex, x1, x2⟩ := H7.2.2.2
  have hbd := bd_512 (k := k) (by omega)
  have hbs := bd_succ k
  have hle := sumQ_le (q := fun k => decide (kL k = m)) (E := E)
  have hsm := H1.2.2.2
  obtain ⟨u1, u2, u3, u4⟩ := H7.1 m2 hm212
  have hsumv : F_H_sum N (day, ws, z, gl, gd, gc, gp, cnt, pr, nx, sz, dp, ti, be, de, hm, qu, sh, re, tt, ls, ba, st, si) (nI m) (-2) = some (nI (sumP (lst m E))) := by
    unfold F_H_sum
    dsimp only
    rw [C_balance H1 (by omega) (by omega), Option.bind_some, lst_sum]
  have hlsl := lst_sumle (m := m) (E := E)
  have hs31 := H1.2.2.2
  refine ⟨hsumv, by omega, fun hwa => ?_⟩
  have hTT : TT = sumP (lst m E) := by
    have := hTr.symm.trans hsumv
    exact (nI_eq (by omega) (by omega)).mp (Option.some.inj this)
  obtain ⟨b', g', q, c1, -, c3⟩ := hsp (by omega) ch' pa' hrem
  have hqo : QOut (qK (nI m) (-2) (-2)) m2 := fun e he => by
    rw [qK_list (by omega) (by rw [kL_mk he (by omega)]; omega), kL_mk he (by omega), decide_eq_false (fun hh => hne hh.symm)]
  have hlen : E.length ≤ 1024 := by omega
  obtain ⟨T, hT⟩ : ∃ T, T = itG (qK (nI m) (-2) (-2)) (actC m2) E.length w (E, (db, 0)) := ⟨_, rfl⟩
  obtain ⟨o, de', tt', C1, C2, C3, C4⟩ := C_give_from (d := d) hm23 hm212 (nI m) (nI w) (N := N) (by omega) hqo nx sz dp tt N E.length w (E, (db, 0)) z gl gd gc gp de tt H1 H3 (fun j hj => (H7.1 j hj).1) (by show db m2 < _; omega) (fun j => by
    by_cases e : j = 4
    · rw [if_pos e, e, nI_0, Int32.add_zero]
    · rw [if_neg e]) hw (by omega) hlen (Or.inr (by show E.length < 1024; omega))
  obtain ⟨b1, b2, b3, b4, b5, b6, b7, b8⟩ := itC_ok (q := qK (nI m) (-2) (-2)) (d := d) hm23 hm212 E.length w (E, (db, 0)) H1.2.1 H1.2.2.1 H3
  rw [← hT] at C1 C2 C3 C4 b4 b5 b6 b7
  dsimp only at b4 b5 b6 b7
  obtain ⟨lo, C5, C6⟩ := C_log_add HL 3 (nI d) (nI m) (nI w)
  have hz := H1.1.2.1
  rw [List.length_map] at hz
  have hb9 : F_B_give N (day, ws, z, gl, gd, gc, gp, cnt, pr, nx, sz, dp, ti, be, de, hm, qu, sh, re, tt, ls, ba, st, si) (nI m) (nI m2) (nI w) = some (nI T.2.2.2, (day, ws, o.1, o.2.1, o.2.2.1, o.2.2.2.1, o.2.2.2.2, cnt, pr, lo.1, lo.2.1, lo.2.2, ti, be, de', hm, qu, sh, re, tt', ls, ba, st, si)) := by
    subst a3
    unfold F_B_give f_X0_give f_X1_size
    dsimp only
    rw [Option.bind_some]
    have C1' : f_X0_give_b15 N (nI m) (nI m2) (nI w) 1024 1024 1024 1024 120 12 5 (nI d) nx sz dp N 0 (nI w) z z gl gd gc gp de tt = f_X0_give_b99 (nI m) (nI w) (nI T.2.2.2) 120 (nI d) o.1 o.2.1 o.2.2.1 o.2.2.2.1 o.2.2.2.2 nx sz dp de' tt' := by
      have h := C1
      rw [← hz] at h
      exact h
    rw [C1']
    unfold f_X0_give_b99
    rw [C5, Option.bind_some, Option.bind_some]
  rw [hb9] at c1
  obtain ⟨rfl, rfl⟩ := Prod.mk.inj (Option.some.inj c1)
  obtain ⟨a', A, y1, y2, y3, y4, y5, y6, y7⟩ := BQ_ex (b := (day, ws, o.1, o.2.1, o.2.2.1, o.2.2.2.1, o.2.2.2.2, cnt, pr, lo.1, lo.2.1, lo.2.2, ti, be, de', hm, qu, sh, re, tt', ls, ba, st, si)) ⟨c3, hL⟩
  have A0 := A
  obtain ⟨⟨_, _⟩, ⟨p1, _, p3⟩, ⟨P1, P2, P3⟩, _, Q4, Q5, Q6, Q7, _, _⟩ := A0
  dsimp only at p1 P1 Q4 Q7 y1 y2 y3 y4 y5 y6 y7
  have hold : ∀ m', m' < v 3 → TI v d (qu m') (ti m') (be m') := fun m' h => by
    have := J.2.2.1 m' h
    dsimp only [BA.d, BA.E, BA.Lg, BA.c, BA.dy, BA.db, BA.rd, BA.ti, BA.be, BA.hm, BA.qu, BA.sh, BA.tt, BA.pr] at this
    rw [← (T1 m' (by omega)).1, ← (T1 m' (by omega)).2.1, ← (T1 m' (by omega)).2.2.2] at this
    exact this
  have hjo : ∀ y ∈ E, 12 ≤ kL y.1 → hm (kC y.1 - 1) = cI (kL y.1 - 11) := fun y h1 h2 => by
    have h3 := (H3 y h1).2.2 h2
    rw [(T1 _ (by omega)).2.2.1]
    exact J.2.2.2 y h1 h2
  have hd' : a'.d = d := (nI_eq (by omega) (by omega)).mp (p1.symm.trans a3)
  have hE' := CoE_uniq P1 C2
  have hrd := rd_same (by omega) (by omega) H7 Q7 (fun _ _ => rfl)
  have hleft := itC_left hqo E.length w (E, (db, 0)) H1.2.1 cntE_le
  have hq2 := itG_q (actC_q hqo) E.length w (E, (db, 0))
  have hkeys := itC_keys (q := qK (nI m) (-2) (-2)) (m2 := m2) E.length w (E, (db, 0))
  rw [← hT] at hleft hq2 hkeys b1 b2 b3
  dsimp only at hleft hq2 hkeys
  rw [qK_lst (by omega) H1.2.2.1] at hleft hq2
  rw [qK_lst (by omega) b2] at hq2
  have hb2 := bd_512 (k := k + 1) (by omega)
  have hb1 := bd_512 (k := k) (by omega)
  refine ⟨_, g', a', T.2.2.2, hb9, ?_, A, ⟨?_, ?_, fun m' hm' => ?_, fun y hy hky => ?_⟩, ?_, ?_, hd'⟩
  · have := (H7.1 m2 (by omega)).2.2.1
    omega
  · rw [y6, C4 1, if_neg (by decide), T3 1 (by decide)]
    refine J.1.trans ?_
    rw [sumN_congr hrd]
  · have e2 := J.2.1
    dsimp only [BA.d, BA.E, BA.Lg, BA.c, BA.dy, BA.db, BA.rd, BA.ti, BA.be, BA.hm, BA.qu, BA.sh, BA.tt, BA.pr] at e2
    rw [← T3 0 (by decide), ← T3 1 (by decide), ← T3 2 (by decide), ← T3 3 (by decide), ← T3 4 (by decide)] at e2
    rw [y6, C4 0, if_neg (by decide), C4 1, if_neg (by decide), C4 2, if_neg (by decide), C4 3, if_neg (by decide), C4 4, if_pos rfl, hE', e2, show sumP E = T.2.2.2 + sumP T.2.1 by omega, ← nI_add]
    ac_rfl
  · rw [hd', y1, y2, y4]
    exact hold m' hm'
  · rw [y3]
    rw [hE'] at hy
    rcases hkeys y hy with ⟨x, h5, h6⟩ | h5
    · rw [← h6] at hky ⊢
      exact hjo x h5 hky
    · omega
  · show sumP (lst m a'.E) + w = sumP (lst m E)
    rw [hE']
    omega
  · show a'.db m2 + T.2.2.2 = db m2
    have e1 := (Q7.1 m2 (by omega))
    have e2 := C3 m2 (by omega)
    have e4 := (H7.1 m2 (by omega))
    have e5 : a'.db m2 = T.2.2.1 m2 := (nI_eq (by omega) (by omega)).mp (e1.1.symm.trans e2)
    omega
