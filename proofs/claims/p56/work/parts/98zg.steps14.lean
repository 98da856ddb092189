theorem IN_TB {inp : T_IN} {len : Int32} {buf : Nat → Int32} (h : IN inp len buf) : ∃ l bt, inp.1 = nI l ∧ len = nI l ∧ TB bt l inp.2 buf := by
  obtain ⟨l, l1, l2, l3, l4⟩ := h
  refine ⟨l, fun i => (inp.2 i).toNatClampNeg, l2, l3, l1, fun i hi => ?_⟩
  obtain ⟨b, b1, b2, b3, b4⟩ := l4 i hi
  dsimp only
  rw [b3, nI_clamp (by omega)]
  exact ⟨rfl, b1, b2, b4⟩
theorem T_errorPosition {N : Nat} (hN : 600000 < N) : StB RlW (fun s => P_errorPosition N s) (fun m => F_M_errorPosition N m) := by
  intro k s m hk HR
  obtain ⟨inp, se, dr, rdr, b, c, hi, ck⟩ := s
  obtain ⟨th, ch, ik, len, pa_, tok, err, hti, see, rk, bl, fx, rdd, le, ler, so, sor, wh, whr, now, kept, past, buf⟩ := m
  obtain ⟨v, R⟩ := HR
  have R : RlC v k inp se b c hi ck ch ik len fx le so wh now kept past buf := R
  obtain ⟨l, bt, h1, h2, HT⟩ := IN_TB R.2.2.2.2.1
  obtain ⟨il, ib⟩ := inp
  have h1 : il = nI l := h1
  subst h1 h2
  obtain ⟨ans, dr', rdr', pm, tm, em, ht', sn', rdd', le', so', wh', z1, z2, z3⟩ := R_read HT (N := N) (by omega) dr rdr rdd ler sor whr
  refine ⟨(ans, ((nI l, ib), se, dr', rdr', b, c, hi, ck)), (ans, (0, ch, ik, nI l, pm, tm, em, ht', sn', rk, bl, fx, rdd', le, le', so, so', wh, wh', now, kept, past, buf)), ?_, ?_, rfl, ⟨v, RlC_mono R (Nat.le_succ k)⟩⟩
  · show P_errorPosition N ((nI l, ib), se, dr, rdr, b, c, hi, ck) = _
    unfold P_errorPosition
    dsimp only
    rw [z1]; rfl
  · show F_M_errorPosition N (th, ch, ik, nI l, pa_, tok, err, hti, see, rk, bl, fx, rdd, le, ler, so, sor, wh, whr, now, kept, past, buf) = _
    unfold F_M_errorPosition f_X11_errorPosition
    dsimp only
    rw [z2]; rfl
theorem M_ld90 {N : Nat} (hN : 73000 < N) {th len at' tok err ht sn : Int32} {fx rdd ler so sor wh whr now : Nat → Int32} : ∀ (n i : Nat) (g : Nat → Int32), i ≤ 192 → 192 < n + i → f_X11_load_b90 N 71 192 192 72470 th len at' tok err ht sn fx rdd ler so sor wh whr now n (nI i) g = some (fx 3, th, 0, 0, len, at', tok, err, ht, sn, fx, rdd, (fun j => if i ≤ j ∧ j < 192 then vp_nar .byte (ler j) else g j), ler, so, sor, wh, whr, ini fx (fun j => if j < 72470 then 0 else now j)) := by
  intro n
  induction n with
  | zero => intro i g h1 h2; omega
  | succ n ih =>
    intro i g h1 h2
    rw [f_X11_load_b90]
    by_cases h : i = 192
    · subst h
      have g3 : ¬ ((3 : Int32) < 0 ∨ 71 ≤ (3 : Int32).toNatClampNeg) := by decide
      have hf : (fun j => if 192 ≤ j ∧ j < 192 then vp_nar .byte (ler j) else g j) = g := by
        funext j
        rw [if_neg (by omega)]
      rw [if_pos (show (192 : Int32) ≤ nI 192 by decide), M_starts hN, Option.bind_some, if_neg g3, hf]
      rfl
    · have g1 := grd (i := i) (n := 192) (by omega) (by decide)
      have hf : (fun j => if i + 1 ≤ j ∧ j < 192 then vp_nar .byte (ler j) else upd g i (vp_nar .byte (ler i)) j) = (fun j => if i ≤ j ∧ j < 192 then vp_nar .byte (ler j) else g j) := by
        funext j
        by_cases e : j = i
        · rw [e, if_neg (by omega), upd_at, if_pos (by omega)]
        · by_cases e2 : i + 1 ≤ j ∧ j < 192
          · rw [if_pos e2, if_pos (by omega)]
          · rw [if_neg e2, upd_ne _ _ e, if_neg (by omega)]
      rw [if_neg (show ¬ (192 : Int32) ≤ nI i from fun hh => by
        have := (nI_leI (a := 192) (b := i) (by decide) (by omega)).mp hh
        omega), if_neg g1, if_neg g1, Option.bind_some, Option.bind_some, nI_1, nI_clamp (by omega), ih (i + 1) _ (by omega) (by omega), hf]
theorem M_ld52 {N : Nat} (hN : 73000 < N) {th len at' tok err ht sn : Int32} {fx rdd le ler sor whr now : Nat → Int32} : ∀ (n i : Nat) (g w : Nat → Int32), i ≤ 32 → 32 < n + i → f_X11_load_b52 N 71 192 192 32 32 32 32 72470 th len at' tok err ht sn fx rdd le ler sor whr now n (nI i) g w = some (fx 3, th, 0, 0, len, at', tok, err, ht, sn, fx, rdd, (fun j => if 0 ≤ j ∧ j < 192 then vp_nar .byte (ler j) else le j), ler, (fun j => if i ≤ j ∧ j < 32 then sor j else g j), sor, (fun j => if i ≤ j ∧ j < 32 then whr j else w j), whr, ini fx (fun j => if j < 72470 then 0 else now j)) := by
  intro n
  induction n with
  | zero => intro i g w h1 h2; omega
  | succ n ih =>
    intro i g w h1 h2
    rw [f_X11_load_b52]
    have hfin : ∀ (a b : Nat → Int32), (fun j => if 32 ≤ j ∧ j < 32 then a j else b j) = b := by
      intro a b
      funext j
      rw [if_neg (by omega)]
    have hstep : ∀ (a b : Nat → Int32), i < 32 → (fun j => if i + 1 ≤ j ∧ j < 32 then a j else upd b i (a i) j) = (fun j => if i ≤ j ∧ j < 32 then a j else b j) := by
      intro a b hi
      funext j
      by_cases e : j = i
      · rw [e, if_neg (by omega), upd_at, if_pos (by omega)]
      · by_cases e2 : i + 1 ≤ j ∧ j < 32
        · rw [if_pos e2, if_pos (by omega)]
        · rw [if_neg e2, upd_ne _ _ e, if_neg (by omega)]
    by_cases h : i = 32
    · subst h
      rw [if_pos (show (32 : Int32) ≤ nI 32 by decide), hfin, hfin, show (0 : Int32) = nI 0 from rfl, M_ld90 hN N 0 le (by omega) (by omega)]
      rfl
    · have g1 := grd (i := i) (n := 32) (by omega) (by decide)
      rw [if_neg (show ¬ (32 : Int32) ≤ nI i from fun hh => by
        have := (nI_leI (a := 32) (b := i) (by decide) (by omega)).mp hh
        omega), if_neg g1, if_neg g1, Option.bind_some, if_neg g1, if_neg g1, Option.bind_some, Option.bind_some, nI_1, nI_clamp (by omega), ih (i + 1) _ _ (by omega) (by omega), hstep _ _ (by omega), hstep _ _ (by omega)]
theorem M_ld26 {N : Nat} (hN : 73000 < N) {th len at' tok err ht sn : Int32} {rdd le ler so sor wh whr now : Nat → Int32} : ∀ (n i : Nat) (g : Nat → Int32), i ≤ 71 → 71 < n + i → ∃ fx', (∀ j, fx' j = if i ≤ j ∧ j < 71 then rdd j else g j) ∧ f_X11_load_b26 N 71 71 192 192 32 32 32 32 72470 th len at' tok err ht sn rdd le ler so sor wh whr now n (nI i) g = some (fx' 3, th, 0, 0, len, at', tok, err, ht, sn, fx', rdd, (fun j => if 0 ≤ j ∧ j < 192 then vp_nar .byte (ler j) else le j), ler, (fun j => if 0 ≤ j ∧ j < 32 then sor j else so j), sor, (fun j => if 0 ≤ j ∧ j < 32 then whr j else wh j), whr, ini fx' (fun j => if j < 72470 then 0 else now j)) := by
  intro n
  induction n with
  | zero => intro i g h1 h2; omega
  | succ n ih =>
    intro i g h1 h2
    rw [f_X11_load_b26]
    by_cases h : i = 71
    · subst h
      refine ⟨g, fun j => (if_neg (by omega)).symm, ?_⟩
      rw [if_pos (show (71 : Int32) ≤ nI 71 by decide), show (0 : Int32) = nI 0 from rfl, M_ld52 hN N 0 so wh (by omega) (by omega)]
      rfl
    · have g1 := grd (i := i) (n := 71) (by omega) (by decide)
      obtain ⟨fx', f1, f2⟩ := ih (i + 1) (upd g i (rdd i)) (by omega) (by omega)
      refine ⟨fx', fun j => ?_, ?_⟩
      · rw [f1]
        by_cases e : j = i
        · rw [e, if_neg (by omega), upd_at, if_pos (by omega)]
        · by_cases e2 : i + 1 ≤ j ∧ j < 71
          · rw [if_pos e2, if_pos (by omega)]
          · rw [if_neg e2, upd_ne _ _ e, if_neg (by omega)]
      · rw [if_neg (show ¬ (71 : Int32) ≤ nI i from fun hh => by
          have := (nI_leI (a := 71) (b := i) (by decide) (by omega)).mp hh
          omega), if_neg g1, if_neg g1, Option.bind_some, Option.bind_some, nI_1, nI_clamp (by omega), f2]
theorem nar_small : ∀ b, b < 128 → vp_nar .byte (nI b) = nI b := by decide +kernel
/-- names that were read, copied -/
theorem NM_copy {v : Nat → Nat} {nm ler sor whr le so wh : Nat → Int32} (H : NM v nm ler sor whr) (h1 : ∀ j, j < 192 → le j = vp_nar .byte (ler j)) (h2 : ∀ j, j < 32 → so j = sor j) (h3 : ∀ j, j < 32 → wh j = whr j) : NM v nm le so wh := by
  obtain ⟨R, S, W, n1, n2, n3, n4⟩ := H
  refine ⟨R, S, W, n1, fun r hr => ?_, n3, n4⟩
  obtain ⟨m1, m2, m3, m4, m5, m6, m7⟩ := n2 r hr
  refine ⟨m1, fun i hi => ?_, ?_, ?_, m5, m6, m7⟩
  · rw [h1 _ (by omega), m2 i hi]
    have hb := m1.2.1 i hi
    exact nar_small _ (by omega)
  · rw [h2 _ (by omega), m3]
  · rw [h3 _ (by omega), m4]
theorem T_load {N : Nat} (hN : 600000 < N) : StA RlW (fun s f => W_load N s f) (fun m => F_M_load N m) := by
  intro k s m f hk HR
  obtain ⟨inp, se, dr, rdr, b, c, hi, ck⟩ := s
  obtain ⟨th, ch, ik, len, pa_, tok, err, hti, see, rk, bl, fx, rdd, le, ler, so, sor, wh, whr, now, kept, past, buf⟩ := m
  obtain ⟨v, R⟩ := HR
  have R : RlC v k inp se b c hi ck ch ik len fx le so wh now kept past buf := R
  obtain ⟨l, bt, h1, h2, HT⟩ := IN_TB R.2.2.2.2.1
  have hHIS := R.2.2.2.2.2.2.2
  obtain ⟨il, ib⟩ := inp
  have h1 : il = nI l := h1
  subst h1 h2
  obtain ⟨ans, dr', rdr', pm, tm, em, ht', sn', rdd', le', so', wh', z1, z2, z3⟩ := R_read HT (N := N) (by omega) dr rdr rdd ler sor whr
  have hl := HT.1
  rcases z3 with z3 | z3
  · obtain ⟨q, q1, q2⟩ := z3
    subst q2
    have hP : P_load N ((nI l, ib), se, dr, rdr, b, c, hi, ck) = some (2, 0, ((nI l, ib), se, dr', rdr', b, c, hi, ck)) := by
      unfold P_load
      dsimp only
      rw [z1, Option.bind_some]
      dsimp only
      rw [if_neg (nI_neg1 (by omega))]
    have hG : F_M_load N (th, ch, ik, nI l, pa_, tok, err, hti, see, rk, bl, fx, rdd, le, ler, so, sor, wh, whr, now, kept, past, buf) = some (0, (1, ch, ik, nI l, pm, tm, em, ht', sn', rk, bl, fx, rdd', le, le', so, so', wh, wh', now, kept, past, buf)) := by
      unfold F_M_load f_X11_load
      dsimp only
      rw [z2, Option.bind_some]
      dsimp only
      rw [if_neg (nI_neg1 (by omega))]; rfl
    have hW : W_load N ((nI l, ib), se, dr, rdr, b, c, hi, ck) f = some (1, ((nI l, ib), se, dr', rdr', b, c, hi, ck), f) := by
      unfold W_load
      rw [hP]; rfl
    exact fin_no (c := 1) (s' := ((nI l, ib), se, dr', rdr', b, c, hi, ck)) (m' := (1, ch, ik, nI l, pm, tm, em, ht', sn', rk, bl, fx, rdd', le, le', so, so', wh, wh', now, kept, past, buf)) (f := f) hW (by decide) hG rfl ⟨v, RlC_mono R (Nat.le_succ k)⟩
  · obtain ⟨q1, v', y1, y2, y3, y4⟩ := z3
    subst q1
    obtain ⟨x, x1, x2, x3⟩ := S_copy (s0 := se) y2 y3 y1 N
    obtain ⟨fx', f1, f2⟩ := M_ld26 (N := N) (by omega) (th := 0) (len := 0) (at' := pm) (tok := tm) (err := em) (ht := ht') (sn := sn') (rdd := rdd') (le := le) (ler := le') (so := so) (sor := so') (wh := wh) (whr := wh') (now := now) N 0 fx (by omega) (by omega)
    have hfx : SM v' fx' := fun i hi => by rw [f1, if_pos ⟨Nat.zero_le _, hi⟩]; exact y4 i hi
    obtain ⟨y, u1, u2⟩ := B_start y2 x2 hfx b now (k + 1) (N := N) (by omega)
    have hcnt : F_S_count N x 3 = some (nI (v' 3)) := cnt_in x2 (i := 3) (by decide) N
    have h3 : fx' 3 = nI (v' 3) := hfx 3 (by decide)
    have hP : P_load N ((nI l, ib), se, dr, rdr, b, c, hi, ck) = some (0, nI (v' 3), ((0, ib), x, dr', rdr', y, c, (hi.1, 0, hi.2.2), 0)) := by
      unfold P_load F_forget F_I_shorten f_X3_shorten
      dsimp only
      rw [z1, Option.bind_some]
      dsimp only
      rw [if_pos rfl, x1, Option.bind_some, u1, Option.bind_some, Option.bind_some, Option.bind_some, Option.bind_some, hcnt, Option.bind_some]
    have hG : F_M_load N (th, ch, ik, nI l, pa_, tok, err, hti, see, rk, bl, fx, rdd, le, ler, so, sor, wh, whr, now, kept, past, buf) = some (nI (v' 3), (0, 0, 0, 0, pm, tm, em, ht', sn', rk, bl, fx', rdd', (fun j => if 0 ≤ j ∧ j < 192 then vp_nar .byte (le' j) else le j), le', (fun j => if 0 ≤ j ∧ j < 32 then so' j else so j), so', (fun j => if 0 ≤ j ∧ j < 32 then wh' j else wh j), wh', ini fx' (fun j => if j < 72470 then 0 else now j), kept, past, buf)) := by
      unfold F_M_load f_X11_load
      dsimp only
      rw [z2, Option.bind_some]
      dsimp only
      rw [nI_0] at f2
      rw [if_pos rfl, f2, h3]; rfl
    have hW : W_load N ((nI l, ib), se, dr, rdr, b, c, hi, ck) f = some (0, ((0, ib), x, dr', rdr', y, c, (hi.1, 0, hi.2.2), 0), vp_updL f 0 (nI (v' 3)).toInt64) := by
      unfold W_load
      rw [hP]; rfl
    have hH : HIS v' (k + 1) (hi.1, 0, hi.2.2) 0 past := by
      obtain ⟨n0, c0, a1, a2, a3, a4, a5, a6⟩ := hHIS
      exact ⟨n0, 0, a1, by decide, a3, rfl, rfl, fun j hj => by omega⟩
    exact fin_ok (k := k) (s' := ((0, ib), x, dr', rdr', y, c, (hi.1, 0, hi.2.2), 0)) (m' := (0, 0, 0, 0, pm, tm, em, ht', sn', rk, bl, fx', rdd', (fun j => if 0 ≤ j ∧ j < 192 then vp_nar .byte (le' j) else le j), le', (fun j => if 0 ≤ j ∧ j < 32 then so' j else so j), so', (fun j => if 0 ≤ j ∧ j < 32 then wh' j else wh j), wh', ini fx' (fun j => if j < 72470 then 0 else now j), kept, past, buf)) (f := f) (p := nI (v' 3)) hW hG rfl ⟨v', ⟨y2, hfx, x2, NM_copy x3 (fun j hj => if_pos ⟨Nat.zero_le _, hj⟩) (fun j hj => if_pos ⟨Nat.zero_le _, hj⟩) (fun j hj => if_pos ⟨Nat.zero_le _, hj⟩), ⟨0, by decide, rfl, rfl, fun i hi => by omega⟩, u2, Or.inl ⟨rfl, rfl⟩, hH⟩⟩

