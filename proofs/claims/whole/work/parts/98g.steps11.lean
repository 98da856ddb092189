theorem T_rankedMember {N : Nat} (hN : 600000 < N) (x1 : Int32) : StA RlW (fun s f => W_rankedMember N s f x1) (fun m => F_M_rankedMember N m x1) := by
  intro k s m f hk HR
  obtain ⟨inp, se, dr, rdr, b, c, hi, ck⟩ := s
  obtain ⟨th, ch, ik, len, pa_, tok, err, hti, see, rk, bl, fx, rdd, le, ler, so, sor, wh, whr, now, kept, past, buf⟩ := m
  obtain ⟨v, R⟩ := HR
  have R : RlC v k inp se b c hi ck ch ik len fx le so wh now kept past buf := R
  have HR0 : RlW k (inp, se, dr, rdr, b, c, hi, ck) (th, ch, ik, len, pa_, tok, err, hti, see, rk, bl, fx, rdd, le, ler, so, sor, wh, whr, now, kept, past, buf) := ⟨v, R⟩
  obtain ⟨hV, hM, hS, hNM, hIN, hB, hK, hH⟩ := R
  have hv3 := hV.1.2.2.2.2.1
  have hv4 := hV.1.2.2.2.2.2
  have hv1 := hV.1.2.2.1
  have hSs : SC v (inp, se, dr, rdr, b, c, hi, ck).2.1 := hS
  have hK' : (ck = 0 ∧ ik = 0) ∨ (ck = 1 ∧ ik = 1 ∧ BRL v (k + 1) c kept) := hK.imp id (fun x => ⟨x.1, x.2.1, BRL_mono x.2.2 (Nat.le_succ k)⟩)
  obtain ⟨d, E, Lg, c0, dy, db, rd, ⟨a1, a2⟩, ⟨a3, a4, a5⟩, ⟨H1, H2, H3⟩, ⟨HL, HLm⟩, H4, H5, H6, H7⟩ := hB.1
  by_cases h1 : outN x1 (v 3)
  · have hP : P_rankedMember N (inp, se, dr, rdr, b, c, hi, ck) x1 = some (4, 0, (inp, se, dr, rdr, b, c, hi, ck)) := by
      unfold P_rankedMember
      dsimp only
      by_cases h2 : x1 < 0
      · rw [if_pos h2]
      · rw [if_neg h2, show F_S_count N se 3 = some (nI (v 3)) from cnt_in hS (i := 3) (by omega) N, Option.bind_some, if_neg (fun hh => h1.elim h2 (fun h3 => Int32.not_lt.mpr h3 hh))]
    have hG : F_M_rankedMember N (th, ch, ik, len, pa_, tok, err, hti, see, rk, bl, fx, rdd, le, ler, so, sor, wh, whr, now, kept, past, buf) x1 = some (0, ((1 : Int32), ch, ik, len, pa_, tok, err, hti, see, rk, bl, fx, rdd, le, ler, so, sor, wh, whr, now, kept, past, buf)) := by
      unfold F_M_rankedMember
      dsimp only
      unfold f_X11_rankedMember
      rw [M_isMember x1 (n := v 3) (by omega) (hM 3 (by omega)), if_pos h1]; rfl
    exact fin_no (c := 1) (by dsimp only; unfold W_rankedMember; rw [hP]; rfl) (by decide) hG rfl (RlW_thrown HR0 1)
  have h1' := h1
  obtain ⟨p, hp3, rfl⟩ := outN_not (by omega) h1
  obtain ⟨R, S, W, n1, n2, n3, n4⟩ := hNM
  have hSW : ∀ r, r < v 70 → so r = nI (S r) ∧ wh r = nI (W r) ∧ S r < 2 ^ 20 ∧ W r < 2 ^ 20 := by
    intro r hr
    obtain ⟨_, _, m3, m4, m5, m6, _⟩ := n2 r hr
    have hv0 := hV.1.2.1
    refine ⟨m3, m4, by omega, ?_⟩
    rcases m5 with e | e | e | e
    · rw [e] at m6; omega
    · rw [e] at m6; omega
    · rw [e] at m6; omega
    · rw [e] at m6; omega
  have hex : ∀ m, ∃ r, m < v 3 → (r < v 70 ∧ S r = 3 ∧ W r = m ∧ f_X11_rowOfMember N (nI m) 32 32 so wh = some (nI r)) := by
    intro m
    by_cases hm : m < v 3
    · obtain ⟨r, q⟩ := M_row n1 hSW (show m < 2 ^ 20 by omega) (show 100 < N by omega) (n4 m hm)
      exact ⟨r, fun _ => q⟩
    · exact ⟨0, fun h => absurd h hm⟩
  obtain ⟨ρ, hρ⟩ := Classical.axiomOfChoice hex
  have hT : ∀ m, m < v 3 → now (42 + m) = nI (now (42 + m)).toNatClampNeg ∧ (now (42 + m)).toNatClampNeg < 2 ^ 31 := by
    intro m hm
    obtain ⟨t, t4, t5⟩ := (H6.1 m (by omega)).2.2.2.1
    have hv0 := hV.1.2.1
    rw [t5, nI_clamp (by omega)]
    exact ⟨rfl, by omega⟩
  have hCn : ∀ m, m < v 3 → se.2.2.2.2.1 (36 + m) = nI (lcode (R (ρ m))) ∧ lcode (R (ρ m)) < 2 ^ 31 := by
    intro m hm
    obtain ⟨p1, p2, p3, _⟩ := hρ m hm
    obtain ⟨m1, _, _, _, _, _, m7⟩ := n2 (ρ m) p1
    have h5 := lcode_bd m1
    rw [p2, p3] at m7
    exact ⟨m7, by omega⟩
  have hinj : ∀ a b, a < v 3 → b < v 3 → lcode (R (ρ a)) = lcode (R (ρ b)) → a = b := by
    intro a b ha hb hh
    obtain ⟨p1, p2, p3, _⟩ := hρ a ha
    obtain ⟨q1, q2, q3, _⟩ := hρ b hb
    have h5 : ρ a = ρ b := by
      by_cases e1 : ρ a < ρ b
      · exact absurd hh (n3 _ _ e1 q1)
      · by_cases e2 : ρ b < ρ a
        · exact absurd hh.symm (n3 _ _ e2 p1)
        · omega
    rw [← p3, ← q3, h5]
  obtain ⟨r, ba, hc1, hc2⟩ := C_rank (T := fun m => (now (42 + m)).toNatClampNeg) (B := fun m => sumQ (fun k => decide (kL k = m)) E) (C := fun m => lcode (R (ρ m))) (n := v 3) (p := p) (nm := se.2.2.2.2.1) (ti := b.2.2.2.2.2.2.2.2.2.2.2.2.1) (ba0 := b.2.2.2.2.2.2.2.2.2.2.2.2.2.2.2.2.2.2.2.2.2.1) (cs := se.2.2.2.1) H1 hv3 (hS.2.1 3 (by omega)) (fun m hm => ⟨by rw [(H6.1 m (by omega)).1]; exact (hT m hm).1, (hT m hm).2⟩) (fun _ => rfl) hCn (by omega) (N := N) (by omega)
  have hA : ∀ x y, x < v 3 → y < v 3 → f_X11_isAhead N (nI x) (nI y) 192 32 32 72470 le so wh now = some (if bfr (fun m => (now (42 + m)).toNatClampNeg) (fun m => sumQ (fun k => decide (kL k = m)) E) (fun m => lcode (R (ρ m))) y x = true then 1 else 0) := fun x y hx hy => M_ahead hV H2 H1.2.1 H1.2.2.1 H1.2.2.2 H3 a5 hT (by omega) (fun m hm => ⟨(hρ m hm).1, (hρ m hm).2.2.2⟩) n1 (fun r hr => ⟨(n2 r hr).1, (n2 r hr).2.1⟩) hx hy
  have hmr := M_rank hv3 (hM 3 (by omega)) (show 100 < N by omega) hA (show p < 2 ^ 31 by omega) hinj 0
  have hmv : f_X11_rankedMember_b23 N (nI p) 71 192 32 32 72470 0 fx le so wh now N (-1) 0 = some (r, 0) := by
    cases hc2 with
    | inl h => rw [hmr.1 h.2, h.1]
    | inr h =>
      obtain ⟨j, j1, j2, j3⟩ := h
      rw [hmr.2 j j1 j3, j2]
  have hP : P_rankedMember N (inp, se, dr, rdr, b, c, hi, ck) (nI p) = some (0, r, (inp, se, dr, rdr, (b.1, b.2.1, b.2.2.1, b.2.2.2.1, b.2.2.2.2.1, b.2.2.2.2.2.1, b.2.2.2.2.2.2.1, b.2.2.2.2.2.2.2.1, b.2.2.2.2.2.2.2.2.1, b.2.2.2.2.2.2.2.2.2.1, b.2.2.2.2.2.2.2.2.2.2.1, b.2.2.2.2.2.2.2.2.2.2.2.1, b.2.2.2.2.2.2.2.2.2.2.2.2.1, b.2.2.2.2.2.2.2.2.2.2.2.2.2.1, b.2.2.2.2.2.2.2.2.2.2.2.2.2.2.1, b.2.2.2.2.2.2.2.2.2.2.2.2.2.2.2.1, b.2.2.2.2.2.2.2.2.2.2.2.2.2.2.2.2.1, b.2.2.2.2.2.2.2.2.2.2.2.2.2.2.2.2.2.1, b.2.2.2.2.2.2.2.2.2.2.2.2.2.2.2.2.2.2.1, b.2.2.2.2.2.2.2.2.2.2.2.2.2.2.2.2.2.2.2.1, b.2.2.2.2.2.2.2.2.2.2.2.2.2.2.2.2.2.2.2.2.1, ba, b.2.2.2.2.2.2.2.2.2.2.2.2.2.2.2.2.2.2.2.2.2.2.1, b.2.2.2.2.2.2.2.2.2.2.2.2.2.2.2.2.2.2.2.2.2.2.2), c, hi, ck)) := by
    unfold P_rankedMember F_B_memberAtRank
    dsimp only
    rw [if_neg (fun h => h1' (Or.inl h)), show F_S_count N se 3 = some (nI (v 3)) from cnt_in hS (i := 3) (by omega) N, Option.bind_some, if_pos ((nI_ltI (by omega) (by omega)).mpr hp3), hc1]; rfl
  have hG : F_M_rankedMember N (th, ch, ik, len, pa_, tok, err, hti, see, rk, bl, fx, rdd, le, ler, so, sor, wh, whr, now, kept, past, buf) (nI p) = some (r, ((0 : Int32), ch, ik, len, pa_, tok, err, hti, see, rk, bl, fx, rdd, le, ler, so, sor, wh, whr, now, kept, past, buf)) := by
    unfold F_M_rankedMember
    dsimp only
    unfold f_X11_rankedMember
    rw [M_isMember (nI p) (n := v 3) (by omega) (hM 3 (by omega)), if_neg h1', Option.bind_some, if_neg (by decide), hmv]; rfl
  have hW : W_rankedMember N (inp, se, dr, rdr, b, c, hi, ck) f (nI p) = some (0, (inp, se, dr, rdr, (b.1, b.2.1, b.2.2.1, b.2.2.2.1, b.2.2.2.2.1, b.2.2.2.2.2.1, b.2.2.2.2.2.2.1, b.2.2.2.2.2.2.2.1, b.2.2.2.2.2.2.2.2.1, b.2.2.2.2.2.2.2.2.2.1, b.2.2.2.2.2.2.2.2.2.2.1, b.2.2.2.2.2.2.2.2.2.2.2.1, b.2.2.2.2.2.2.2.2.2.2.2.2.1, b.2.2.2.2.2.2.2.2.2.2.2.2.2.1, b.2.2.2.2.2.2.2.2.2.2.2.2.2.2.1, b.2.2.2.2.2.2.2.2.2.2.2.2.2.2.2.1, b.2.2.2.2.2.2.2.2.2.2.2.2.2.2.2.2.1, b.2.2.2.2.2.2.2.2.2.2.2.2.2.2.2.2.2.1, b.2.2.2.2.2.2.2.2.2.2.2.2.2.2.2.2.2.2.1, b.2.2.2.2.2.2.2.2.2.2.2.2.2.2.2.2.2.2.2.1, b.2.2.2.2.2.2.2.2.2.2.2.2.2.2.2.2.2.2.2.2.1, ba, b.2.2.2.2.2.2.2.2.2.2.2.2.2.2.2.2.2.2.2.2.2.2.1, b.2.2.2.2.2.2.2.2.2.2.2.2.2.2.2.2.2.2.2.2.2.2.2), c, hi, ck), vp_updL f 0 (r).toInt64) := by
    unfold W_rankedMember
    rw [hP]; rfl
  have hB' : BRL v k (b.1, b.2.1, b.2.2.1, b.2.2.2.1, b.2.2.2.2.1, b.2.2.2.2.2.1, b.2.2.2.2.2.2.1, b.2.2.2.2.2.2.2.1, b.2.2.2.2.2.2.2.2.1, b.2.2.2.2.2.2.2.2.2.1, b.2.2.2.2.2.2.2.2.2.2.1, b.2.2.2.2.2.2.2.2.2.2.2.1, b.2.2.2.2.2.2.2.2.2.2.2.2.1, b.2.2.2.2.2.2.2.2.2.2.2.2.2.1, b.2.2.2.2.2.2.2.2.2.2.2.2.2.2.1, b.2.2.2.2.2.2.2.2.2.2.2.2.2.2.2.1, b.2.2.2.2.2.2.2.2.2.2.2.2.2.2.2.2.1, b.2.2.2.2.2.2.2.2.2.2.2.2.2.2.2.2.2.1, b.2.2.2.2.2.2.2.2.2.2.2.2.2.2.2.2.2.2.1, b.2.2.2.2.2.2.2.2.2.2.2.2.2.2.2.2.2.2.2.1, b.2.2.2.2.2.2.2.2.2.2.2.2.2.2.2.2.2.2.2.2.1, ba, b.2.2.2.2.2.2.2.2.2.2.2.2.2.2.2.2.2.2.2.2.2.2.1, b.2.2.2.2.2.2.2.2.2.2.2.2.2.2.2.2.2.2.2.2.2.2.2) now := hB
  have hRel : RlC v (k + 1) inp se (b.1, b.2.1, b.2.2.1, b.2.2.2.1, b.2.2.2.2.1, b.2.2.2.2.2.1, b.2.2.2.2.2.2.1, b.2.2.2.2.2.2.2.1, b.2.2.2.2.2.2.2.2.1, b.2.2.2.2.2.2.2.2.2.1, b.2.2.2.2.2.2.2.2.2.2.1, b.2.2.2.2.2.2.2.2.2.2.2.1, b.2.2.2.2.2.2.2.2.2.2.2.2.1, b.2.2.2.2.2.2.2.2.2.2.2.2.2.1, b.2.2.2.2.2.2.2.2.2.2.2.2.2.2.1, b.2.2.2.2.2.2.2.2.2.2.2.2.2.2.2.1, b.2.2.2.2.2.2.2.2.2.2.2.2.2.2.2.2.1, b.2.2.2.2.2.2.2.2.2.2.2.2.2.2.2.2.2.1, b.2.2.2.2.2.2.2.2.2.2.2.2.2.2.2.2.2.2.1, b.2.2.2.2.2.2.2.2.2.2.2.2.2.2.2.2.2.2.2.1, b.2.2.2.2.2.2.2.2.2.2.2.2.2.2.2.2.2.2.2.2.1, ba, b.2.2.2.2.2.2.2.2.2.2.2.2.2.2.2.2.2.2.2.2.2.2.1, b.2.2.2.2.2.2.2.2.2.2.2.2.2.2.2.2.2.2.2.2.2.2.2) c hi ck ch ik len fx le so wh now kept past buf := ⟨hV, hM, hS, ⟨R, S, W, n1, n2, n3, n4⟩, hIN, BRL_mono hB' (Nat.le_succ k), hK', HIS_mono hH (Nat.le_succ k)⟩
  exact fin_ok (k := k) (s' := (inp, se, dr, rdr, (b.1, b.2.1, b.2.2.1, b.2.2.2.1, b.2.2.2.2.1, b.2.2.2.2.2.1, b.2.2.2.2.2.2.1, b.2.2.2.2.2.2.2.1, b.2.2.2.2.2.2.2.2.1, b.2.2.2.2.2.2.2.2.2.1, b.2.2.2.2.2.2.2.2.2.2.1, b.2.2.2.2.2.2.2.2.2.2.2.1, b.2.2.2.2.2.2.2.2.2.2.2.2.1, b.2.2.2.2.2.2.2.2.2.2.2.2.2.1, b.2.2.2.2.2.2.2.2.2.2.2.2.2.2.1, b.2.2.2.2.2.2.2.2.2.2.2.2.2.2.2.1, b.2.2.2.2.2.2.2.2.2.2.2.2.2.2.2.2.1, b.2.2.2.2.2.2.2.2.2.2.2.2.2.2.2.2.2.1, b.2.2.2.2.2.2.2.2.2.2.2.2.2.2.2.2.2.2.1, b.2.2.2.2.2.2.2.2.2.2.2.2.2.2.2.2.2.2.2.1, b.2.2.2.2.2.2.2.2.2.2.2.2.2.2.2.2.2.2.2.2.1, ba, b.2.2.2.2.2.2.2.2.2.2.2.2.2.2.2.2.2.2.2.2.2.2.1, b.2.2.2.2.2.2.2.2.2.2.2.2.2.2.2.2.2.2.2.2.2.2.2), c, hi, ck)) (m' := ((0 : Int32), ch, ik, len, pa_, tok, err, hti, see, rk, bl, fx, rdd, le, ler, so, sor, wh, whr, now, kept, past, buf)) (f := f) (p := r) hW hG rfl ⟨v, hRel⟩
