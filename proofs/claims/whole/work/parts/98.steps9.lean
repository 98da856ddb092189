theorem T_nextExpiry {N : Nat} (hN : 600000 < N) (x1 : Int32) : StA RlW (fun s f => W_nextExpiry N s f x1) (fun m => F_M_nextExpiry N m x1) := by
  intro k s m f hk HR
  obtain ⟨inp, se, dr, rdr, b, c, hi, ck⟩ := s
  obtain ⟨th, ch, ik, len, pa_, tok, err, hti, see, rk, bl, fx, rdd, le, ler, so, sor, wh, whr, now, kept, past, buf⟩ := m
  obtain ⟨v, R⟩ := HR
  have R : RlC v k inp se b c hi ck ch ik len fx le so wh now kept past buf := R
  have HR0 : RlW k (inp, se, dr, rdr, b, c, hi, ck) (th, ch, ik, len, pa_, tok, err, hti, see, rk, bl, fx, rdd, le, ler, so, sor, wh, whr, now, kept, past, buf) := ⟨v, R⟩
  obtain ⟨hV, hM, hS, hNM, hIN, hB, hK, hH⟩ := R
  have hv3 := hV.1.2.2.2.2.1
  have hv4 := hV.1.2.2.2.2.2
  have hv1 := hV.1.2.2.1
  have hSs : SC v (inp, se, dr, rdr, b, c, hi, ck).2.1 := hS
  have hK' : (ck = 0 ∧ ik = 0) ∨ (ck = 1 ∧ ik = 1 ∧ BRL v (k + 1) c kept) := hK.imp id (fun x => ⟨x.1, x.2.1, BRL_mono x.2.2 (Nat.le_succ k)⟩)
  obtain ⟨d, E, Lg, c0, dy, db, rd, ⟨a1, a2⟩, ⟨a3, a4, a5⟩, ⟨H1, H2, H3⟩, ⟨HL, HLm⟩, H4, H5, H6, H7⟩ := hB.1
  by_cases h1 : outN x1 (v 3)
  · have hP : P_nextExpiry N (inp, se, dr, rdr, b, c, hi, ck) x1 = some (4, 0, (inp, se, dr, rdr, b, c, hi, ck)) := by
      unfold P_nextExpiry
      rw [mem_out hSs h1 N]; rfl
    have hG : F_M_nextExpiry N (th, ch, ik, len, pa_, tok, err, hti, see, rk, bl, fx, rdd, le, ler, so, sor, wh, whr, now, kept, past, buf) x1 = some (0, ((1 : Int32), ch, ik, len, pa_, tok, err, hti, see, rk, bl, fx, rdd, le, ler, so, sor, wh, whr, now, kept, past, buf)) := by
      unfold F_M_nextExpiry
      dsimp only
      unfold f_X11_nextExpiry
      rw [M_lacksMember x1 (n := v 3) (by omega) (hM 3 (by omega)), if_pos h1]; rfl
    exact fin_no (c := 1) (by dsimp only; unfold W_nextExpiry; rw [hP]; rfl) (by decide) hG rfl (RlW_thrown HR0 1)
  have h1' := h1
  obtain ⟨m, hm3, rfl⟩ := outN_not (by omega) h1
  have hm12 : m < 12 := by omega
  obtain ⟨ho, t6, t7⟩ := (H6.1 m hm12).2.2.2.2
  have hho : b.2.2.2.2.2.2.2.2.2.2.2.2.2.2.2.1 m = cI ho := by rw [(H6.1 m hm12).2.2.1, t7]
  have hmn := M_nextExpiry hV H2 H1.2.1 H1.2.2.1 H1.2.2.2 H3 a5 a4 hm12 t7 (by omega) 0 (N := N) (by omega)
  have hcs := C_soonest (N := N) H1 hm12 hho (by omega) (by omega)
  cases hcs with
  | inl hc =>
    have hP : P_nextExpiry N (inp, se, dr, rdr, b, c, hi, ck) (nI m) = some (3, 0, (inp, se, dr, rdr, b, c, hi, ck)) := by
      unfold P_nextExpiry
      rw [mem_in hSs h1' N, Option.bind_some, if_pos rfl]
      unfold F_B_soonestExpiry
      dsimp only
      rw [hc.1]; rfl
    have hG : F_M_nextExpiry N (th, ch, ik, len, pa_, tok, err, hti, see, rk, bl, fx, rdd, le, ler, so, sor, wh, whr, now, kept, past, buf) (nI m) = some (0, ((2 : Int32), ch, ik, len, pa_, tok, err, hti, see, rk, bl, fx, rdd, le, ler, so, sor, wh, whr, now, kept, past, buf)) := by
      unfold F_M_nextExpiry
      dsimp only
      unfold f_X11_nextExpiry
      rw [M_lacksMember (nI m) (n := v 3) (by omega) (hM 3 (by omega)), if_neg h1', Option.bind_some, if_pos rfl, M_today, Option.bind_some, a4, nI_1, Option.bind_some]
      dsimp only
      rw [hmn.1 hc.2]; rfl
    exact fin_no (c := 2) (by dsimp only; unfold W_nextExpiry; rw [hP]; rfl) (by decide) hG rfl (RlW_thrown HR0 2)
  | inr hc =>
    obtain ⟨e, hc1, hc2⟩ := hc
    have hne : ¬ nI e = (-1 : Int32) := by
      obtain ⟨⟨x, x1, x2, x3⟩, _⟩ := hc2
      have h4 := kD_lt x.1
      intro hh
      have h5 := nI_pos (n := e) (by omega)
      rw [hh] at h5
      exact h5 (by decide)
    have hP : P_nextExpiry N (inp, se, dr, rdr, b, c, hi, ck) (nI m) = some (0, nI e, (inp, se, dr, rdr, b, c, hi, ck)) := by
      unfold P_nextExpiry
      rw [mem_in hSs h1' N, Option.bind_some, if_pos rfl]
      unfold F_B_soonestExpiry
      dsimp only
      rw [hc1, Option.bind_some, Option.bind_some, Option.bind_some, if_neg hne]
    have hG : F_M_nextExpiry N (th, ch, ik, len, pa_, tok, err, hti, see, rk, bl, fx, rdd, le, ler, so, sor, wh, whr, now, kept, past, buf) (nI m) = some (nI e, ((0 : Int32), ch, ik, len, pa_, tok, err, hti, see, rk, bl, fx, rdd, le, ler, so, sor, wh, whr, now, kept, past, buf)) := by
      unfold F_M_nextExpiry
      dsimp only
      unfold f_X11_nextExpiry
      rw [M_lacksMember (nI m) (n := v 3) (by omega) (hM 3 (by omega)), if_neg h1', Option.bind_some, if_pos rfl, M_today, Option.bind_some, a4, nI_1, Option.bind_some]
      dsimp only
      rw [hmn.2 e hc2]; rfl
    have hW : W_nextExpiry N (inp, se, dr, rdr, b, c, hi, ck) f (nI m) = some (0, (inp, se, dr, rdr, b, c, hi, ck), vp_updL f 0 (nI e).toInt64) := by
      unfold W_nextExpiry
      rw [hP]; rfl
    exact fin_ok (k := k) (s' := (inp, se, dr, rdr, b, c, hi, ck)) (m' := ((0 : Int32), ch, ik, len, pa_, tok, err, hti, see, rk, bl, fx, rdd, le, ler, so, sor, wh, whr, now, kept, past, buf)) (f := f) (p := nI e) hW hG rfl (RlW_thrown HR0 0)
