theorem sumQ_addE {q : Nat → Bool} {k p : Nat} (hk : q k = false) {E : List En} : sumQ q (addE k p E) = sumQ q E := by
  unfold addE
  by_cases h : p = 0
  · rw [if_pos h]
  · rw [if_neg h]; exact sumQ_put hk
/-- what one list gives, in sum -/
theorem itG_q {σ : Type} {q : Nat → Bool} {act : En → Nat → List En × σ → List En × σ} (hact : ∀ x n S, sumQ q (act x n S).1 = sumQ q S.1) : ∀ (r w : Nat) (S : List En × σ), sumQ q (itG q act r w S).2.1 + w = sumQ q S.1 + (itG q act r w S).1 := by
  intro r
  induction r with
  | zero => intro w S; rfl
  | succ r ih =>
    intro w S
    by_cases hw : w = 0
    · rw [hw, itG_zero]
    cases hf : fstE q S.1 with
    | none => rw [itG_none _ _ _ _ _ hf]
    | some x =>
      rw [itG_some _ _ _ _ _ hw hf]
      have h1 := ih (w - min x.2 w) (act x (min x.2 w) (takeE q w S.1, S.2))
      rw [hact] at h1
      have h2 := sumQ_take (q := q) (w := w) hf
      dsimp only at h1
      omega
theorem actC_q {q : Nat → Bool} {m2 : Nat} (hq : QOut q m2) : ∀ (x : En) (n : Nat) (S : List En × ((Nat → Nat) × Nat)), sumQ q (actC m2 x n S).1 = sumQ q S.1 := fun x n S => sumQ_addE (hq _ (kD_lt _))
theorem itC_left {q : Nat → Bool} {m2 : Nat} (hq : QOut q m2) (r w : Nat) (S : List En × ((Nat → Nat) × Nat)) (hs : Sor S.1) (hr : cntE q S.1 ≤ r) : (itG q (actC m2) r w S).1 = w - sumQ q S.1 := itG_left (act := actC m2) (fun x n S h => ⟨addE_sor h, ((actC_ok hq) x n S).2.1, actC_q hq x n S⟩) r w S hs hr
theorem itC_keys {q : Nat → Bool} {m2 : Nat} : ∀ (r w : Nat) (S : List En × ((Nat → Nat) × Nat)), ∀ y ∈ (itG q (actC m2) r w S).2.1, (∃ x ∈ S.1, x.1 = y.1) ∨ kL y.1 = m2 := by
  intro r
  induction r with
  | zero => intro w S y hy; exact Or.inl ⟨y, hy, rfl⟩
  | succ r ih =>
    intro w S y hy
    by_cases hw : w = 0
    · rw [hw, itG_zero] at hy; exact Or.inl ⟨y, hy, rfl⟩
    cases hf : fstE q S.1 with
    | none => rw [itG_none _ _ _ _ _ hf] at hy; exact Or.inl ⟨y, hy, rfl⟩
    | some x =>
      rw [itG_some _ _ _ _ _ hw hf] at hy
      rcases ih _ _ y hy with ⟨x1, h1, h2⟩ | h
      · rcases addE_mem (show x1 ∈ addE _ _ _ from h1) with ⟨h3, h4⟩ | h3
        · refine Or.inr ?_
          rw [← h2, h3, kL_mk (kD_lt _) (by omega)]
        · obtain ⟨x2, h5, h6, _⟩ := takeE_mem h3
          exact Or.inl ⟨x2, h5, h6.trans h2⟩
      · exact Or.inr h
theorem pop_val {hm : Nat → Int32} {x : Int32} {n : Nat} (hn : n ≤ 12) : f_J6_bitCount_0f7a4 (nI (bitsN hm x n)) = some (nI (livN hm x n)) := by
  have h1 := bitsN_lt hm x n
  have h2 := pow12 (m := n) hn
  have hp := bit_pop (bitsN hm x n / 64) (by omega) (bitsN hm x n % 64) (by omega)
  rw [show bitsN hm x n / 64 * 64 + bitsN hm x n % 64 = bitsN hm x n by omega, pop_liv hm x _ hn] at hp
  exact hp
theorem livN_in {hm : Nat → Int32} {x y : Int32} {m : Nat} (hxy : ¬ y = x) (hm0 : hm m = y) : ∀ {n : Nat}, m < n → livN (upd hm m x) x n = livN hm x n + 1
  | n + 1, h => by
    rw [livN, livN]
    by_cases e : m = n
    · subst e
      have h0 : livN (upd hm m x) x m = livN hm x m := livN_congr (fun i hi => upd_ne _ _ (by omega))
      rw [h0, upd_at, if_pos rfl, if_neg (by rw [hm0]; exact hxy)]
    · rw [upd_ne _ _ (fun hh => e hh.symm), livN_in hxy hm0 (show m < n by omega)]
      omega
theorem sumQ_mem {q : Nat → Bool} {y : En} (hq : q y.1 = true) : ∀ {E : List En}, y ∈ E → y.2 ≤ sumQ q E
  | x :: E, h => by
    rw [sumQ]
    cases List.mem_cons.mp h with
    | inl e => rw [← e, hq, if_pos rfl]; omega
    | inr e =>
      have := sumQ_mem hq e
      split <;> omega
theorem X_share {v : Nat → Nat} {k : Nat} {a : BA} {b : T_BK} {g : Nat → Int32} (hV : SV v) (H : BQ v k a b g) (J : JS v a) (hk : k < 512) {h p : Nat} (hh4 : h < v 4) (hp : p ≤ 100) {N : Nat} (hNN : 600000 < N) : ∃ b' g' a' q, F_B_replaceShare N b (nI h) (nI p) = some (nI q, b') ∧ q ≤ 100 ∧ BQ v (k + 1) a' b' g' ∧ JS v a' ∧ a'.d = a.d := by
  obtain ⟨ch', pa', hrem⟩ := remN g hNN
  obtain ⟨b', g', q, c1, -, c3⟩ := S_setShare (N := N) hV (SMv v) (BQ_L H).1 hh4 hp hrem
  obtain ⟨day, ws, z, gl, gd, gc, gp, cnt, pr, nx, sz, dp, ti, be, de, hm, qu, sh, re, tt, ls, ba, st, si⟩ := b
  have HB : BQ v k a (day, ws, z, gl, gd, gc, gp, cnt, pr, nx, sz, dp, ti, be, de, hm, qu, sh, re, tt, ls, ba, st, si) g := H
  obtain ⟨d, E, Lg, c, dy, db, rd, ati, abe, ahm, aqu, ash, att, apr⟩ := a
  obtain ⟨⟨a1, a2⟩, ⟨a3, a4, a5⟩, ⟨H1, H2, H3⟩, ⟨HL, HLm⟩, H4, H5, H6, H7, hL, ⟨T1, T2, T3, T4⟩⟩ := HB
  dsimp only [BA.d, BA.E, BA.Lg, BA.c, BA.dy, BA.db, BA.rd, BA.ti, BA.be, BA.hm, BA.qu, BA.sh, BA.tt, BA.pr] at a1 a2 a3 a4 a5 H1 H2 H3 HL HLm H4 H5 H6 H7 hL T1 T2 T3 T4
  have hv3 := hV.1.2.2.2.2.1
  have hv4 := hV.1.2.2.2.2.2
  have h4 : (4 : Nat) < 2 ^ 31 := by decide
  obtain ⟨q1, q0, q2, q3⟩ := H6.2 h hh4
  have hb9 : F_B_replaceShare N (day, ws, z, gl, gd, gc, gp, cnt, pr, nx, sz, dp, ti, be, de, hm, qu, sh, re, tt, ls, ba, st, si) (nI h) (nI p) = some (sh h, (day, ws, z, gl, gd, gc, gp, cnt, pr, nx, sz, dp, ti, be, de, hm, qu, upd sh h (nI p), re, tt, ls, ba, st, si)) := by
    unfold F_B_replaceShare f_X0_replaceShare
    dsimp only
    rw [X6_at_in sh h4 (by omega), Option.bind_some, X6_put_in sh _ h4 (by omega)]; rfl
  rw [hb9] at c1
  obtain ⟨rfl, rfl⟩ := Prod.mk.inj (Option.some.inj c1)
  obtain ⟨a', A, y1, y2, y3, y4, y5, y6, y7⟩ := BQ_ex (b := (day, ws, z, gl, gd, gc, gp, cnt, pr, nx, sz, dp, ti, be, de, hm, qu, upd sh h (nI p), re, tt, ls, ba, st, si)) ⟨c3, hL⟩
  have A0 := A
  obtain ⟨⟨_, _⟩, ⟨p1, _, p3⟩, ⟨P1, P2, P3⟩, _, Q4, Q5, Q6, Q7, _, _⟩ := A0
  dsimp only at p1 P1 Q4 Q7 y1 y2 y3 y4 y5 y6 y7
  have hold : ∀ m', m' < v 3 → TI v d (qu m') (ti m') (be m') := fun m' h => by
    have := J.2.2.1 m' h
    dsimp only [BA.d, BA.E, BA.Lg, BA.c, BA.dy, BA.db, BA.rd, BA.ti, BA.be, BA.hm, BA.qu, BA.sh, BA.tt, BA.pr] at this
    rw [← (T1 m' (by omega)).1, ← (T1 m' (by omega)).2.1, ← (T1 m' (by omega)).2.2.2] at this
    exact this
  have hjo : ∀ y ∈ E, 12 ≤ kL y.1 → hm (kC y.1 - 1) = cI (kL y.1 - 11) := fun y h1 h2 => by
    have h3 := (H3 y h1).2.2 h2
    rw [(T1 _ (by omega)).2.2.1]
    exact J.2.2.2 y h1 h2
  have hd' : a'.d = d := (nI_eq (by omega) (by omega)).mp (p1.symm.trans a3)
  have hE' := CoE_uniq P1 H1
  have hrd := rd_same (by omega) (by omega) H7 Q7 (fun _ _ => rfl)
  refine ⟨_, g', a', q0, by rw [hb9, q1, q3], q2, A, ⟨?_, ?_, fun m' hm' => ?_, fun y hy hky => ?_⟩, hd'⟩
  · rw [y6, T3 1 (by decide)]
    refine J.1.trans ?_
    rw [sumN_congr hrd]
  · have e2 := J.2.1
    dsimp only [BA.d, BA.E, BA.Lg, BA.c, BA.dy, BA.db, BA.rd, BA.ti, BA.be, BA.hm, BA.qu, BA.sh, BA.tt, BA.pr] at e2
    rw [← T3 0 (by decide), ← T3 1 (by decide), ← T3 2 (by decide), ← T3 3 (by decide), ← T3 4 (by decide)] at e2
    rw [y6, hE', e2]
  · rw [hd', y1, y2, y4]
    exact hold m' hm'
  · rw [y3]
    rw [hE'] at hy
    exact hjo y hy hky
theorem X_join {v : Nat → Nat} {k : Nat} {a : BA} {s : T_SE} {b : T_BK} {g : Nat → Int32} (hV : SV v) (hS : SC v s) (H : BQ v k a b g) (J : JS v a) (hk : k < 512) {m h : Nat} (hm3 : m < v 3) (hh4 : h < v 4) {N : Nat} (hNN : 600000 < N) : F_B_homeOf N b (nI m) = some (a.hm m) ∧ F_B_peopleIn N s b (nI h) = some (nI (livN a.hm (nI h) (v 3))) ∧ livN a.hm (nI h) (v 3) ≤ 4 ∧ (a.hm m = -1 → livN a.hm (nI h) (v 3) < 4 → ∃ b' g' a', F_B_enter N b (nI m) (nI h) = some b' ∧ F_B_peopleIn N s b' (nI h) = some (nI (livN a.hm (nI h) (v 3) + 1)) ∧ BQ v (k + 1) a' b' g' ∧ JS v a' ∧ a'.hm m = nI h ∧ a'.d = a.d) := by
  have hN : 2000 < N := by omega
  obtain ⟨ch', pa', hrem⟩ := remN g hNN
  obtain ⟨ho0, c0, s1, s2, -, s4⟩ := S_join (fx := fun i => nI (v i)) (g := g) (pa := fun _ => 0) (ch := 0) hV (SMv v) hS (BQ_L H).1 (BQ_L H).2 hm3 hh4 hN
  obtain ⟨day, ws, z, gl, gd, gc, gp, cnt, pr, nx, sz, dp, ti, be, de, hm, qu, sh, re, tt, ls, ba, st, si⟩ := b
  have HB : BQ v k a (day, ws, z, gl, gd, gc, gp, cnt, pr, nx, sz, dp, ti, be, de, hm, qu, sh, re, tt, ls, ba, st, si) g := H
  obtain ⟨d, E, Lg, c, dy, db, rd, ati, abe, ahm, aqu, ash, att, apr⟩ := a
  obtain ⟨⟨a1, a2⟩, ⟨a3, a4, a5⟩, ⟨H1, H2, H3⟩, ⟨HL, HLm⟩, H4, H5, H6, H7, hL, ⟨T1, T2, T3, T4⟩⟩ := HB
  dsimp only [BA.d, BA.E, BA.Lg, BA.c, BA.dy, BA.db, BA.rd, BA.ti, BA.be, BA.hm, BA.qu, BA.sh, BA.tt, BA.pr] at a1 a2 a3 a4 a5 H1 H2 H3 HL HLm H4 H5 H6 H7 hL T1 T2 T3 T4
  dsimp only [BA.d, BA.E, BA.Lg, BA.c, BA.dy, BA.db, BA.rd, BA.ti, BA.be, BA.hm, BA.qu, BA.sh, BA.tt, BA.pr] at ⊢
  have hv3 := hV.1.2.2.2.2.1
  have hv4 := hV.1.2.2.2.2.2
  have hm12 : m < 12 := by omega
  have hs3 := hS.2.1 3 (by omega)
  have hlc : livN ahm (nI h) (v 3) = livN hm (nI h) (v 3) := livN_congr (fun i hi => (T1 i (by omega)).2.2.1.symm)
  have hhome : F_B_homeOf N (day, ws, z, gl, gd, gc, gp, cnt, pr, nx, sz, dp, ti, be, de, hm, qu, sh, re, tt, ls, ba, st, si) (nI m) = some (hm m) := by
    unfold F_B_homeOf f_X0_homeOf
    dsimp only
    rw [X6_at_in hm h12 hm12]; rfl
  have hppl : F_B_peopleIn N s (day, ws, z, gl, gd, gc, gp, cnt, pr, nx, sz, dp, ti, be, de, hm, qu, sh, re, tt, ls, ba, st, si) (nI h) = some (nI (livN hm (nI h) (v 3))) := by
    unfold F_B_peopleIn
    dsimp only
    rw [C_peopleIn (v := v) (nI h) hs3 hv3 (by omega), Option.bind_some]
  have hl4 := hL h hh4
  rw [hlc, ← (T1 m hm12).2.2.1]
  refine ⟨hhome, hppl, hl4, fun hho hlt => ?_⟩
  have e1 := Option.some.inj (s1.symm.trans hhome)
  have e2 := Option.some.inj (s2.symm.trans hppl)
  obtain ⟨b', g', q, c1, c2, -, c3, c4⟩ := s4 (e1.trans hho) (by rw [e2, show (4 : Int32) = nI 4 from rfl, nI_ltI (by omega) (by omega)]; exact hlt) ch' pa' hrem
  have hb9 : F_B_enter N (day, ws, z, gl, gd, gc, gp, cnt, pr, nx, sz, dp, ti, be, de, hm, qu, sh, re, tt, ls, ba, st, si) (nI m) (nI h) = some (day, ws, z, gl, gd, gc, gp, cnt, pr, nx, sz, dp, ti, be, de, upd hm m (nI h), qu, sh, re, tt, ls, ba, st, si) := by
    unfold F_B_enter f_X0_enter
    dsimp only
    rw [X6_put_in hm _ h12 hm12]; rfl
  rw [hb9] at c1
  obtain rfl := Option.some.inj c1
  obtain ⟨a', A, y1, y2, y3, y4, y5, y6, y7⟩ := BQ_ex (b := (day, ws, z, gl, gd, gc, gp, cnt, pr, nx, sz, dp, ti, be, de, upd hm m (nI h), qu, sh, re, tt, ls, ba, st, si)) ⟨c3, c4⟩
  have A0 := A
  obtain ⟨⟨_, _⟩, ⟨p1, _, p3⟩, ⟨P1, P2, P3⟩, _, Q4, Q5, Q6, Q7, _, _⟩ := A0
  dsimp only at p1 P1 Q4 Q7 y1 y2 y3 y4 y5 y6 y7
  have hold : ∀ m', m' < v 3 → TI v d (qu m') (ti m') (be m') := fun m' h => by
    have := J.2.2.1 m' h
    dsimp only [BA.d, BA.E, BA.Lg, BA.c, BA.dy, BA.db, BA.rd, BA.ti, BA.be, BA.hm, BA.qu, BA.sh, BA.tt, BA.pr] at this
    rw [← (T1 m' (by omega)).1, ← (T1 m' (by omega)).2.1, ← (T1 m' (by omega)).2.2.2] at this
    exact this
  have hjo : ∀ y ∈ E, 12 ≤ kL y.1 → hm (kC y.1 - 1) = cI (kL y.1 - 11) := fun y h1 h2 => by
    have h3 := (H3 y h1).2.2 h2
    rw [(T1 _ (by omega)).2.2.1]
    exact J.2.2.2 y h1 h2
  have hd' : a'.d = d := (nI_eq (by omega) (by omega)).mp (p1.symm.trans a3)
  have hE' := CoE_uniq P1 H1
  have hrd := rd_same (by omega) (by omega) H7 Q7 (fun _ _ => rfl)
  have hne : ¬ (-1 : Int32) = nI h := fun hh => nI_pos (n := h) (by omega) (by rw [← hh]; decide)
  refine ⟨_, g', a', hb9, ?_, A, ⟨?_, ?_, fun m' hm' => ?_, fun y hy hky => ?_⟩, ?_, hd'⟩
  · unfold F_B_peopleIn
    dsimp only
    rw [C_peopleIn (v := v) (nI h) hs3 hv3 (by omega), Option.bind_some, livN_in hne hho hm3]
  · rw [y6, T3 1 (by decide)]
    refine J.1.trans ?_
    rw [sumN_congr hrd]
  · have e5 := J.2.1
    dsimp only [BA.d, BA.E, BA.Lg, BA.c, BA.dy, BA.db, BA.rd, BA.ti, BA.be, BA.hm, BA.qu, BA.sh, BA.tt, BA.pr] at e5
    rw [← T3 0 (by decide), ← T3 1 (by decide), ← T3 2 (by decide), ← T3 3 (by decide), ← T3 4 (by decide)] at e5
    rw [y6, hE', e5]
  · rw [hd', y1, y2, y4]
    exact hold m' hm'
  · rw [y3]
    rw [hE'] at hy
    have h5 := hjo y hy hky
    by_cases e : kC y.1 - 1 = m
    · rw [e, hho] at h5
      have h6 := (H3 y hy).2.2 hky
      have h7 := (H1.2.2.1 y hy).1.1
      exact absurd ((cI_none (c := kL y.1 - 11) (by omega)).mp h5.symm) (by omega)
    · rw [upd_ne _ _ e]; exact h5
  · show a'.hm m = nI h
    rw [y3, upd_at]
theorem X_leave {v : Nat → Nat} {k : Nat} {a : BA} {b : T_BK} {g : Nat → Int32} (hV : SV v) (H : BQ v k a b g) (J : JS v a) (hk : k < 512) {m : Nat} (hm3 : m < v 3) (hho : ¬ a.hm m = -1) {N : Nat} (hNN : 600000 < N) : ∃ b' g' a' h0, a.hm m = cI h0 ∧ ¬ h0 = 0 ∧ h0 ≤ v 4 ∧ F_B_moveOut N b (nI m) = some (nI (sumQ (fun k => decide (kL k = 11 + h0) && decide (kC k = m + 1)) a.E), b') ∧ BQ v (k + 1) a' b' g' ∧ JS v a' ∧ a'.hm m = -1 ∧ a'.d = a.d := by
  have hN : 2000 < N := by omega
  obtain ⟨ch', pa', hrem⟩ := remN g hNN
  have hgm : ¬ g (30 + m) = -1 := by
    have hv3 := hV.1.2.2.2.2.1
    rw [← (H.2.2.2.2.2.2.1.1 m (by omega)).2.2.1, (H.2.2.2.2.2.2.2.2.2.1 m (by omega)).2.2.1]
    exact hho
  obtain ⟨b', g', q, c1, -, c3, c4⟩ := S_leave (N := N) hV (SMv v) (BQ_L H).1 hk hm3 hgm hN hrem
  obtain ⟨day, ws, z, gl, gd, gc, gp, cnt, pr, nx, sz, dp, ti, be, de, hm, qu, sh, re, tt, ls, ba, st, si⟩ := b
  have HB : BQ v k a (day, ws, z, gl, gd, gc, gp, cnt, pr, nx, sz, dp, ti, be, de, hm, qu, sh, re, tt, ls, ba, st, si) g := H
  obtain ⟨d, E, Lg, c, dy, db, rd, ati, abe, ahm, aqu, ash, att, apr⟩ := a
  obtain ⟨⟨a1, a2⟩, ⟨a3, a4, a5⟩, ⟨H1, H2, H3⟩, ⟨HL, HLm⟩, H4, H5, H6, H7, hL, ⟨T1, T2, T3, T4⟩⟩ := HB
  dsimp only [BA.d, BA.E, BA.Lg, BA.c, BA.dy, BA.db, BA.rd, BA.ti, BA.be, BA.hm, BA.qu, BA.sh, BA.tt, BA.pr] at a1 a2 a3 a4 a5 H1 H2 H3 HL HLm H4 H5 H6 H7 hL T1 T2 T3 T4
  dsimp only [BA.d, BA.E, BA.Lg, BA.c, BA.dy, BA.db, BA.rd, BA.ti, BA.be, BA.hm, BA.qu, BA.sh, BA.tt, BA.pr] at hho ⊢
  have hv3 := hV.1.2.2.2.2.1
  have hv4 := hV.1.2.2.2.2.2
  have hm12 : m < 12 := by omega
  obtain ⟨t1, t2, t3, ⟨t, t4, t5⟩, ⟨ho, t6, t7⟩⟩ := H6.1 m hm12
  obtain ⟨h, hh⟩ : ∃ h, ho = h + 1 := ⟨ho - 1, by
    have : ¬ ho = 0 := fun e => hho (by rw [← (T1 m hm12).2.2.1, t3, t7, e]; rfl)
    omega⟩
  subst hh
  have h3 : cI (h + 1) = nI h := rfl
  obtain ⟨ex, x1, x2⟩ := H7.2.2.2
  have hbd := bd_512 (k := k) (by omega)
  have hbs := bd_succ k
  have hsm := H1.2.2.2
  obtain ⟨u1, u2, u3, u4⟩ := H7.1 m hm12
  have hsq := sumQ_le (q := qK (nI (12 + h)) (-2) (nI m)) (E := E)
  have hqo : QOut (qK (nI (12 + h)) (-2) (nI m)) m := fun e he => by
    rw [qK_listc (by omega) hm12 (by rw [kL_mk he (by omega)]; omega), kL_mk he (by omega), decide_eq_false (show ¬ m = 12 + h by omega), Bool.false_and]
  obtain ⟨W, hW⟩ : ∃ W, W = sumP E + 1 := ⟨_, rfl⟩
  obtain ⟨T, hT⟩ : ∃ T, T = itG (qK (nI (12 + h)) (-2) (nI m)) (actC m) E.length W (E, (db, 0)) := ⟨_, rfl⟩
  have hlen : E.length ≤ 1024 := by omega
  obtain ⟨o, de', tt', C1, C2, C3, C4, C5⟩ := C_out_from (d := d) hm3 hm12 (nI (12 + h)) (N := N) (by omega) hqo hm tt N E.length W 0 (E, (db, 0)) z gl gd gc gp de tt H1 H3 (fun j hj => (H7.1 j hj).1) (by show db m < _; omega) (fun j => by
    by_cases e : j = 4
    · rw [if_pos e, e, nI_0, Int32.add_zero]
    · rw [if_neg e]) (by dsimp only; omega) (by omega) (by omega) hlen hlen
  obtain ⟨b1, b2, b3, b4, b5, b6, b7, b8⟩ := itC_ok (q := qK (nI (12 + h)) (-2) (nI m)) (d := d) hm3 hm12 E.length W (E, (db, 0)) H1.2.1 H1.2.2.1 H3
  rw [← hT] at C1 C2 C3 C4 C5 b4 b5 b6 b7
  dsimp only at b4 b5 b6 b7
  have hz := H1.1.2.1
  rw [List.length_map] at hz
  have hb9 : F_B_moveOut N (day, ws, z, gl, gd, gc, gp, cnt, pr, nx, sz, dp, ti, be, de, hm, qu, sh, re, tt, ls, ba, st, si) (nI m) = some (nI (W - T.1), (day, ws, o.1, o.2.1, o.2.2.1, o.2.2.2.1, o.2.2.2.2, cnt, pr, nx, sz, dp, ti, be, de', upd hm m (-1), qu, sh, re, tt', ls, ba, st, si)) := by
    unfold F_B_moveOut f_X0_moveOut f_X0_poolOf f_X1_size
    dsimp only
    have C1' : f_X0_moveOut_b17 N (nI m) (nI (12 + h)) 1024 1024 1024 1024 12 12 5 hm N 0 z z gl gd gc gp de tt = f_X0_moveOut_b96 (nI m) (0 + nI (W - T.1)) 12 o.1 o.2.1 o.2.2.1 o.2.2.2.1 o.2.2.2.2 de' hm tt' := by
      have hC := C1
      rw [← hz] at hC
      exact hC
    rw [X6_at_in hm h12 hm12, Option.bind_some, t3, t7, C_poolList (by omega), Option.bind_some, if_neg (by omega), Option.bind_some, Option.bind_some, show 11 + (h + 1) = 12 + h by omega, C1', Int32.zero_add]
    unfold f_X0_moveOut_b96
    rw [X6_put_in hm _ h12 hm12, Option.bind_some, Option.bind_some]
  rw [hb9] at c1
  obtain ⟨rfl, rfl⟩ := Prod.mk.inj (Option.some.inj c1)
  have hLv : Liv v (upd hm m (-1)) := fun q hq => by
    have h1 := livN_upd (hm := hm) (x := nI q) (y := -1) (m := m) (n := v 3)
    rw [if_neg (fun hx => nI_pos (n := q) (by omega) (by rw [← hx.2]; decide))] at h1
    have h2 := hL q hq
    omega
  obtain ⟨a', A, y1, y2, y3, y4, y5, y6, y7⟩ := BQ_ex (b := (day, ws, o.1, o.2.1, o.2.2.1, o.2.2.2.1, o.2.2.2.2, cnt, pr, nx, sz, dp, ti, be, de', upd hm m (-1), qu, sh, re, tt', ls, ba, st, si)) ⟨c3, hLv⟩
  have A0 := A
  obtain ⟨⟨_, _⟩, ⟨p1, _, p3⟩, ⟨P1, P2, P3⟩, _, Q4, Q5, Q6, Q7, _, _⟩ := A0
  dsimp only at p1 P1 Q4 Q7 y1 y2 y3 y4 y5 y6 y7
  have hold : ∀ m', m' < v 3 → TI v d (qu m') (ti m') (be m') := fun m' h => by
    have := J.2.2.1 m' h
    dsimp only [BA.d, BA.E, BA.Lg, BA.c, BA.dy, BA.db, BA.rd, BA.ti, BA.be, BA.hm, BA.qu, BA.sh, BA.tt, BA.pr] at this
    rw [← (T1 m' (by omega)).1, ← (T1 m' (by omega)).2.1, ← (T1 m' (by omega)).2.2.2] at this
    exact this
  have hjo : ∀ y ∈ E, 12 ≤ kL y.1 → hm (kC y.1 - 1) = cI (kL y.1 - 11) := fun y h1 h2 => by
    have h3 := (H3 y h1).2.2 h2
    rw [(T1 _ (by omega)).2.2.1]
    exact J.2.2.2 y h1 h2
  have hd' : a'.d = d := (nI_eq (by omega) (by omega)).mp (p1.symm.trans a3)
  have hE' := CoE_uniq P1 C2
  have hrd := rd_same (by omega) (by omega) H7 Q7 (fun _ _ => rfl)
  have hqe : sumQ (qK (nI (12 + h)) (-2) (nI m)) E = sumQ (fun k => decide (kL k = 11 + (h + 1)) && decide (kC k = m + 1)) E := sumQ_congr (fun x hx => by
    rw [qK_listc (by omega) hm12 (H1.2.2.1 x hx).1.1, show 11 + (h + 1) = 12 + h by omega])
  have hleft := itC_left hqo E.length W (E, (db, 0)) H1.2.1 cntE_le
  have hq2 := itG_q (actC_q hqo) E.length W (E, (db, 0))
  have hkeys := itC_keys (q := qK (nI (12 + h)) (-2) (nI m)) (m2 := m) E.length W (E, (db, 0))
  rw [← hT] at hleft hq2 hkeys b1 b2 b3
  dsimp only at hleft hq2 hkeys
  have hq0 : sumQ (qK (nI (12 + h)) (-2) (nI m)) T.2.1 = 0 := by omega
  refine ⟨_, g', a', h + 1, by rw [← (T1 m hm12).2.2.1, t3, t7], by omega, by omega, by rw [hb9, show W - T.1 = sumQ (qK (nI (12 + h)) (-2) (nI m)) E by omega, hqe], A, ⟨?_, ?_, fun m' hm' => ?_, fun y hy hky => ?_⟩, ?_, hd'⟩
  · rw [y6, C4 1, if_neg (by decide), T3 1 (by decide)]
    refine J.1.trans ?_
    rw [sumN_congr hrd]
  · have e2 := J.2.1
    dsimp only [BA.d, BA.E, BA.Lg, BA.c, BA.dy, BA.db, BA.rd, BA.ti, BA.be, BA.hm, BA.qu, BA.sh, BA.tt, BA.pr] at e2
    rw [← T3 0 (by decide), ← T3 1 (by decide), ← T3 2 (by decide), ← T3 3 (by decide), ← T3 4 (by decide)] at e2
    rw [y6, C4 0, if_neg (by decide), C4 1, if_neg (by decide), C4 2, if_neg (by decide), C4 3, if_neg (by decide), C4 4, if_pos rfl, hE', e2, show sumP E = T.2.2.2 + sumP T.2.1 by omega, ← nI_add]
    ac_rfl
  · rw [hd', y1, y2, y4]
    exact hold m' hm'
  · rw [y3]
    rw [hE'] at hy
    have hyk := b2 y hy
    have hye := b3 y hy
    have hcm : ¬ kC y.1 - 1 = m := fun e => by
      rcases hkeys y hy with ⟨x, h5, h6⟩ | h5
      · have h7 := hjo x h5 (by rw [h6]; exact hky)
        rw [h6, e, t3, t7] at h7
        have h8 := (cI_eq (b := kL y.1 - 11) (c := h + 1) (by have := hyk.1.1; omega) (by omega)).mp h7
        have h9 : qK (nI (12 + h)) (-2) (nI m) y.1 = true := by
          rw [qK_listc (by omega) hm12 hyk.1.1, decide_eq_true (show kL y.1 = 12 + h by omega), decide_eq_true (show kC y.1 = m + 1 by have := hyk.1.2.2.2 hky; omega)]; rfl
        have h10 := sumQ_mem h9 hy
        omega
      · omega
    rw [upd_ne _ _ hcm]
    rcases hkeys y hy with ⟨x, h5, h6⟩ | h5
    · rw [← h6] at hky ⊢
      exact hjo x h5 hky
    · omega
  · show a'.hm m = -1
    rw [y3, upd_at]
