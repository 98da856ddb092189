theorem T_append {N : Nat} (hN : 600000 < N) (x1 : Int32) (x2 : Int32) (x3 : Int32) (x4 : Int32) (x5 : Int32) : StA RlW (fun s f => W_append N s f x1 x2 x3 x4 x5) (fun m => F_M_append N m x1 x2 x3 x4 x5) := by
  intro k s m f hk HR
  obtain ⟨inp, se, dr, rdr, b, c, hi, ck⟩ := s
  obtain ⟨th, ch, ik, len, pa_, tok, err, hti, see, rk, bl, fx, rdd, le, ler, so, sor, wh, whr, now, kept, past, buf⟩ := m
  obtain ⟨v, R⟩ := HR
  have R : RlC v k inp se b c hi ck ch ik len fx le so wh now kept past buf := R
  have HR0 : RlW k (inp, se, dr, rdr, b, c, hi, ck) (th, ch, ik, len, pa_, tok, err, hti, see, rk, bl, fx, rdd, le, ler, so, sor, wh, whr, now, kept, past, buf) := ⟨v, R⟩
  obtain ⟨hV, hM, hS, hNM, hIN, hB, hK, hH⟩ := R
  have hv3 := hV.1.2.2.2.2.1
  have hv4 := hV.1.2.2.2.2.2
  have hv1 := hV.1.2.2.1
  have hSs : SC v (inp, se, dr, rdr, b, c, hi, ck).2.1 := hS
  have hK' : (ck = 0 ∧ ik = 0) ∨ (ck = 1 ∧ ik = 1 ∧ BRL v (k + 1) c kept) := hK.imp id (fun x => ⟨x.1, x.2.1, BRL_mono x.2.2 (Nat.le_succ k)⟩)
  obtain ⟨il, ib⟩ := inp
  obtain ⟨l, l1, l2, l3, l4⟩ := hIN
  have l2 : il = nI l := l2
  subst l2 l3
  have hadd : ∀ (l : Nat) (g : Nat → Int32) (x : Int32), l + (bytL x).length ≤ 600 → F_I_addBytes N (nI l, g) x = some (nI (l + (bytL x).length), putB (fun b => nI b) l (bytL x) g) := by
    intro l g x h
    unfold F_I_addBytes
    rw [C_addBytes x h (by omega)]; rfl
  have hlen : ∀ (l : Nat) (g : Nat → Int32), F_I_length N (nI l, g) = some (nI l) := fun l g => rfl
  have hbi : ∀ x, f_X3_bytesIn N x = some (nI (bytL x).length) := fun x => C_bytesIn x (by omega)
  have hbo : ∀ x, f_X11_bytesOf N x = some (nI (bytL x).length) := fun x => M_bytesOf x (by omega)
  have hbr : ∀ (l : Nat) (g : Nat → Int32) (x : Int32), l + (bytL x).length ≤ 600 → f_X11_brings N x 600 (nI l) g = some (nI (l + (bytL x).length), putB (fun b => vp_nar .byte (nI b)) l (bytL x) g) := fun l g x h => M_brings x h (by omega)
  have q1 := bytL_len x1
  have q2 := bytL_len x2
  have q3 := bytL_len x3
  have q4 := bytL_len x4
  have q5 := bytL_len x5
  by_cases h1 : ¬ l + (bytL x1).length + (bytL x2).length + (bytL x3).length + (bytL x4).length + (bytL x5).length ≤ 600
  · have hP : P_append N ((nI l, ib), se, dr, rdr, b, c, hi, ck) x1 x2 x3 x4 x5 = some (1, 0, ((nI l, ib), se, dr, rdr, b, c, hi, ck)) := by
      unfold P_append
      dsimp only
      rw [hbi, hbi, hbi, hbi, hbi, hlen]
      simp only [Option.bind_some, nI_add]
      rw [if_neg (show ¬ nI (l + ((bytL x1).length + (bytL x2).length + (bytL x3).length + (bytL x4).length + (bytL x5).length)) ≤ (600 : Int32) from fun hh => by have := (nI_leI (b := 600) (by omega) (by decide)).mp hh; omega)]
    have hG : F_M_append N (th, ch, ik, nI l, pa_, tok, err, hti, see, rk, bl, fx, rdd, le, ler, so, sor, wh, whr, now, kept, past, buf) x1 x2 x3 x4 x5 = some (0, ((1 : Int32), ch, ik, nI l, pa_, tok, err, hti, see, rk, bl, fx, rdd, le, ler, so, sor, wh, whr, now, kept, past, buf)) := by
      unfold F_M_append
      dsimp only
      unfold f_X11_append
      rw [hbo, hbo, hbo, hbo, hbo]
      simp only [Option.bind_some, nI_add]
      rw [if_neg (show ¬ nI (l + (bytL x1).length + (bytL x2).length + (bytL x3).length + (bytL x4).length + (bytL x5).length) ≤ (600 : Int32) from fun hh => h1 ((nI_leI (b := 600) (by omega) (by decide)).mp hh))]; rfl
    exact fin_no (c := 1) (by dsimp only; unfold W_append; rw [hP]; rfl) (by decide) hG rfl (RlW_thrown HR0 1)
  have h1 := Classical.not_not.mp h1
  have hP : P_append N ((nI l, ib), se, dr, rdr, b, c, hi, ck) x1 x2 x3 x4 x5 = some (0, nI (l + (bytL x1).length + (bytL x2).length + (bytL x3).length + (bytL x4).length + (bytL x5).length), ((nI (l + (bytL x1).length + (bytL x2).length + (bytL x3).length + (bytL x4).length + (bytL x5).length), (putB (fun b => nI b) (l + (bytL x1).length + (bytL x2).length + (bytL x3).length + (bytL x4).length) (bytL x5) (putB (fun b => nI b) (l + (bytL x1).length + (bytL x2).length + (bytL x3).length) (bytL x4) (putB (fun b => nI b) (l + (bytL x1).length + (bytL x2).length) (bytL x3) (putB (fun b => nI b) (l + (bytL x1).length) (bytL x2) (putB (fun b => nI b) (l) (bytL x1) ib)))))), se, dr, rdr, b, c, hi, ck)) := by
    unfold P_append
    dsimp only
    rw [hbi, hbi, hbi, hbi, hbi, hlen]
    simp only [Option.bind_some, nI_add]
    rw [if_pos (show nI (l + ((bytL x1).length + (bytL x2).length + (bytL x3).length + (bytL x4).length + (bytL x5).length)) ≤ (600 : Int32) from (nI_leI (b := 600) (by omega) (by decide)).mpr (by omega)), hadd l ib x1 (by omega), Option.bind_some, hadd _ _ x2 (by omega), Option.bind_some, hadd _ _ x3 (by omega), Option.bind_some, hadd _ _ x4 (by omega), Option.bind_some, hadd _ _ x5 (by omega), Option.bind_some, hlen, Option.bind_some]
  have hG : F_M_append N (th, ch, ik, nI l, pa_, tok, err, hti, see, rk, bl, fx, rdd, le, ler, so, sor, wh, whr, now, kept, past, buf) x1 x2 x3 x4 x5 = some (nI (l + (bytL x1).length + (bytL x2).length + (bytL x3).length + (bytL x4).length + (bytL x5).length), ((0 : Int32), ch, ik, nI (l + (bytL x1).length + (bytL x2).length + (bytL x3).length + (bytL x4).length + (bytL x5).length), pa_, tok, err, hti, see, rk, bl, fx, rdd, le, ler, so, sor, wh, whr, now, kept, past, (putB (fun b => vp_nar .byte (nI b)) (l + (bytL x1).length + (bytL x2).length + (bytL x3).length + (bytL x4).length) (bytL x5) (putB (fun b => vp_nar .byte (nI b)) (l + (bytL x1).length + (bytL x2).length + (bytL x3).length) (bytL x4) (putB (fun b => vp_nar .byte (nI b)) (l + (bytL x1).length + (bytL x2).length) (bytL x3) (putB (fun b => vp_nar .byte (nI b)) (l + (bytL x1).length) (bytL x2) (putB (fun b => vp_nar .byte (nI b)) (l) (bytL x1) buf))))))) := by
    unfold F_M_append
    dsimp only
    unfold f_X11_append
    rw [hbo, hbo, hbo, hbo, hbo]
    simp only [Option.bind_some, nI_add]
    rw [if_pos (show nI (l + (bytL x1).length + (bytL x2).length + (bytL x3).length + (bytL x4).length + (bytL x5).length) ≤ (600 : Int32) from (nI_leI (b := 600) (by omega) (by decide)).mpr h1), hbr l buf x1 (by omega), Option.bind_some, hbr _ _ x2 (by omega), Option.bind_some, hbr _ _ x3 (by omega), Option.bind_some, hbr _ _ x4 (by omega), Option.bind_some, hbr _ _ x5 (by omega), Option.bind_some, Option.bind_some]
  have hW : W_append N ((nI l, ib), se, dr, rdr, b, c, hi, ck) f x1 x2 x3 x4 x5 = some (0, ((nI (l + (bytL x1).length + (bytL x2).length + (bytL x3).length + (bytL x4).length + (bytL x5).length), (putB (fun b => nI b) (l + (bytL x1).length + (bytL x2).length + (bytL x3).length + (bytL x4).length) (bytL x5) (putB (fun b => nI b) (l + (bytL x1).length + (bytL x2).length + (bytL x3).length) (bytL x4) (putB (fun b => nI b) (l + (bytL x1).length + (bytL x2).length) (bytL x3) (putB (fun b => nI b) (l + (bytL x1).length) (bytL x2) (putB (fun b => nI b) (l) (bytL x1) ib)))))), se, dr, rdr, b, c, hi, ck), vp_updL f 0 (nI (l + (bytL x1).length + (bytL x2).length + (bytL x3).length + (bytL x4).length + (bytL x5).length)).toInt64) := by
    unfold W_append
    rw [hP]; rfl
  have hI : IN (nI (l + (bytL x1).length + (bytL x2).length + (bytL x3).length + (bytL x4).length + (bytL x5).length), (putB (fun b => nI b) (l + (bytL x1).length + (bytL x2).length + (bytL x3).length + (bytL x4).length) (bytL x5) (putB (fun b => nI b) (l + (bytL x1).length + (bytL x2).length + (bytL x3).length) (bytL x4) (putB (fun b => nI b) (l + (bytL x1).length + (bytL x2).length) (bytL x3) (putB (fun b => nI b) (l + (bytL x1).length) (bytL x2) (putB (fun b => nI b) (l) (bytL x1) ib)))))) (nI (l + (bytL x1).length + (bytL x2).length + (bytL x3).length + (bytL x4).length + (bytL x5).length)) (putB (fun b => vp_nar .byte (nI b)) (l + (bytL x1).length + (bytL x2).length + (bytL x3).length + (bytL x4).length) (bytL x5) (putB (fun b => vp_nar .byte (nI b)) (l + (bytL x1).length + (bytL x2).length + (bytL x3).length) (bytL x4) (putB (fun b => vp_nar .byte (nI b)) (l + (bytL x1).length + (bytL x2).length) (bytL x3) (putB (fun b => vp_nar .byte (nI b)) (l + (bytL x1).length) (bytL x2) (putB (fun b => vp_nar .byte (nI b)) (l) (bytL x1) buf))))) := by
    refine ⟨_, h1, rfl, rfl, ?_⟩
    exact IN_put _ _ _ _ (bytL_ok x5) (IN_put _ _ _ _ (bytL_ok x4) (IN_put _ _ _ _ (bytL_ok x3) (IN_put _ _ _ _ (bytL_ok x2) (IN_put _ _ _ _ (bytL_ok x1) l4))))
  have hRel : RlC v (k + 1) (nI (l + (bytL x1).length + (bytL x2).length + (bytL x3).length + (bytL x4).length + (bytL x5).length), (putB (fun b => nI b) (l + (bytL x1).length + (bytL x2).length + (bytL x3).length + (bytL x4).length) (bytL x5) (putB (fun b => nI b) (l + (bytL x1).length + (bytL x2).length + (bytL x3).length) (bytL x4) (putB (fun b => nI b) (l + (bytL x1).length + (bytL x2).length) (bytL x3) (putB (fun b => nI b) (l + (bytL x1).length) (bytL x2) (putB (fun b => nI b) (l) (bytL x1) ib)))))) se b c hi ck ch ik (nI (l + (bytL x1).length + (bytL x2).length + (bytL x3).length + (bytL x4).length + (bytL x5).length)) fx le so wh now kept past (putB (fun b => vp_nar .byte (nI b)) (l + (bytL x1).length + (bytL x2).length + (bytL x3).length + (bytL x4).length) (bytL x5) (putB (fun b => vp_nar .byte (nI b)) (l + (bytL x1).length + (bytL x2).length + (bytL x3).length) (bytL x4) (putB (fun b => vp_nar .byte (nI b)) (l + (bytL x1).length + (bytL x2).length) (bytL x3) (putB (fun b => vp_nar .byte (nI b)) (l + (bytL x1).length) (bytL x2) (putB (fun b => vp_nar .byte (nI b)) (l) (bytL x1) buf))))) := ⟨hV, hM, hS, hNM, hI, BRL_mono hB (Nat.le_succ k), hK', HIS_mono hH (Nat.le_succ k)⟩
  exact fin_ok (k := k) (s' := ((nI (l + (bytL x1).length + (bytL x2).length + (bytL x3).length + (bytL x4).length + (bytL x5).length), (putB (fun b => nI b) (l + (bytL x1).length + (bytL x2).length + (bytL x3).length + (bytL x4).length) (bytL x5) (putB (fun b => nI b) (l + (bytL x1).length + (bytL x2).length + (bytL x3).length) (bytL x4) (putB (fun b => nI b) (l + (bytL x1).length + (bytL x2).length) (bytL x3) (putB (fun b => nI b) (l + (bytL x1).length) (bytL x2) (putB (fun b => nI b) (l) (bytL x1) ib)))))), se, dr, rdr, b, c, hi, ck)) (m' := ((0 : Int32), ch, ik, nI (l + (bytL x1).length + (bytL x2).length + (bytL x3).length + (bytL x4).length + (bytL x5).length), pa_, tok, err, hti, see, rk, bl, fx, rdd, le, ler, so, sor, wh, whr, now, kept, past, (putB (fun b => vp_nar .byte (nI b)) (l + (bytL x1).length + (bytL x2).length + (bytL x3).length + (bytL x4).length) (bytL x5) (putB (fun b => vp_nar .byte (nI b)) (l + (bytL x1).length + (bytL x2).length + (bytL x3).length) (bytL x4) (putB (fun b => vp_nar .byte (nI b)) (l + (bytL x1).length + (bytL x2).length) (bytL x3) (putB (fun b => vp_nar .byte (nI b)) (l + (bytL x1).length) (bytL x2) (putB (fun b => vp_nar .byte (nI b)) (l) (bytL x1) buf))))))) (f := f) (p := nI (l + (bytL x1).length + (bytL x2).length + (bytL x3).length + (bytL x4).length + (bytL x5).length)) hW hG rfl ⟨v, hRel⟩

theorem T_truncate {N : Nat} (hN : 600000 < N) (x1 : Int32) : StA RlW (fun s f => W_truncate N s f x1) (fun m => F_M_truncate N m x1) := by
  intro k s m f hk HR
  obtain ⟨inp, se, dr, rdr, b, c, hi, ck⟩ := s
  obtain ⟨th, ch, ik, len, pa_, tok, err, hti, see, rk, bl, fx, rdd, le, ler, so, sor, wh, whr, now, kept, past, buf⟩ := m
  obtain ⟨v, R⟩ := HR
  have R : RlC v k inp se b c hi ck ch ik len fx le so wh now kept past buf := R
  have HR0 : RlW k (inp, se, dr, rdr, b, c, hi, ck) (th, ch, ik, len, pa_, tok, err, hti, see, rk, bl, fx, rdd, le, ler, so, sor, wh, whr, now, kept, past, buf) := ⟨v, R⟩
  obtain ⟨hV, hM, hS, hNM, hIN, hB, hK, hH⟩ := R
  have hv3 := hV.1.2.2.2.2.1
  have hv4 := hV.1.2.2.2.2.2
  have hv1 := hV.1.2.2.1
  have hSs : SC v (inp, se, dr, rdr, b, c, hi, ck).2.1 := hS
  have hK' : (ck = 0 ∧ ik = 0) ∨ (ck = 1 ∧ ik = 1 ∧ BRL v (k + 1) c kept) := hK.imp id (fun x => ⟨x.1, x.2.1, BRL_mono x.2.2 (Nat.le_succ k)⟩)
  obtain ⟨il, ib⟩ := inp
  obtain ⟨l, l1, l2, l3, l4⟩ := hIN
  have l2 : il = nI l := l2
  subst l2 l3
  by_cases h1 : outR x1 0 (nI l)
  · have hP : P_truncate N ((nI l, ib), se, dr, rdr, b, c, hi, ck) x1 = some (2, 0, ((nI l, ib), se, dr, rdr, b, c, hi, ck)) := by
      unfold P_truncate
      dsimp only
      rw [show F_I_length N (nI l, ib) = some (nI l) from rfl, Option.bind_some, btw_out h1]; rfl
    have hG : F_M_truncate N (th, ch, ik, nI l, pa_, tok, err, hti, see, rk, bl, fx, rdd, le, ler, so, sor, wh, whr, now, kept, past, buf) x1 = some (0, ((1 : Int32), ch, ik, nI l, pa_, tok, err, hti, see, rk, bl, fx, rdd, le, ler, so, sor, wh, whr, now, kept, past, buf)) := by
      unfold F_M_truncate
      dsimp only
      unfold f_X11_truncate
      rw [show (0 : Int64) = (0 : Int32).toInt64 from rfl, isIn_out h1]; rfl
    exact fin_no (c := 1) (by dsimp only; unfold W_truncate; rw [hP]; rfl) (by decide) hG rfl (RlW_thrown HR0 1)
  have h1' := h1
  obtain ⟨n, _, hn, rfl⟩ := outR_not (a := 0) (b := l) (by omega) h1 (by decide)
  have hP : P_truncate N ((nI l, ib), se, dr, rdr, b, c, hi, ck) (nI n) = some (0, nI n, ((nI n, ib), se, dr, rdr, b, c, hi, ck)) := by
    unfold P_truncate
    dsimp only
    rw [show F_I_length N (nI l, ib) = some (nI l) from rfl, Option.bind_some, btw_in h1']; rfl
  have hG : F_M_truncate N (th, ch, ik, nI l, pa_, tok, err, hti, see, rk, bl, fx, rdd, le, ler, so, sor, wh, whr, now, kept, past, buf) (nI n) = some (nI n, ((0 : Int32), ch, ik, nI n, pa_, tok, err, hti, see, rk, bl, fx, rdd, le, ler, so, sor, wh, whr, now, kept, past, buf)) := by
    unfold F_M_truncate
    dsimp only
    unfold f_X11_truncate
    rw [show (0 : Int64) = (0 : Int32).toInt64 from rfl, isIn_in h1']; rfl
  have hW : W_truncate N ((nI l, ib), se, dr, rdr, b, c, hi, ck) f (nI n) = some (0, ((nI n, ib), se, dr, rdr, b, c, hi, ck), vp_updL f 0 (nI n).toInt64) := by
    unfold W_truncate
    rw [hP]; rfl
  have hRel : RlC v (k + 1) (nI n, ib) se b c hi ck ch ik (nI n) fx le so wh now kept past buf := ⟨hV, hM, hS, hNM, ⟨n, by omega, rfl, rfl, fun i hi => l4 i (by omega)⟩, BRL_mono hB (Nat.le_succ k), hK', HIS_mono hH (Nat.le_succ k)⟩
  exact fin_ok (k := k) (s' := ((nI n, ib), se, dr, rdr, b, c, hi, ck)) (m' := ((0 : Int32), ch, ik, nI n, pa_, tok, err, hti, see, rk, bl, fx, rdd, le, ler, so, sor, wh, whr, now, kept, past, buf)) (f := f) (p := nI n) hW hG rfl ⟨v, hRel⟩

