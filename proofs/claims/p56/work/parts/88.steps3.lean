theorem T_today {N : Nat} (hN : 600000 < N) : StB RlW (fun s => P_today N s) (fun m => F_M_today N m) := by
  intro k s m hk HR
  obtain ⟨inp, se, dr, rdr, b, c, hi, ck⟩ := s
  obtain ⟨th, ch, ik, len, pa_, tok, err, hti, see, rk, bl, fx, rdd, le, ler, so, sor, wh, whr, now, kept, past, buf⟩ := m
  obtain ⟨v, R⟩ := HR
  have R : RlC v k inp se b c hi ck ch ik len fx le so wh now kept past buf := R
  have HR0 : RlW k (inp, se, dr, rdr, b, c, hi, ck) (th, ch, ik, len, pa_, tok, err, hti, see, rk, bl, fx, rdd, le, ler, so, sor, wh, whr, now, kept, past, buf) := ⟨v, R⟩
  obtain ⟨hV, hM, hS, hNM, hIN, hB, hK, hH⟩ := R
  have hv3 := hV.1.2.2.2.2.1
  have hv4 := hV.1.2.2.2.2.2
  have hv1 := hV.1.2.2.1
  have hSs : SC v (inp, se, dr, rdr, b, c, hi, ck).2.1 := hS
  have hK' : (ck = 0 ∧ ik = 0) ∨ (ck = 1 ∧ ik = 1 ∧ BRL v (k + 1) c kept) := hK.imp id (fun x => ⟨x.1, x.2.1, BRL_mono x.2.2 (Nat.le_succ k)⟩)
  obtain ⟨d, E, Lg, c0, dy, db, rd, ⟨a1, a2⟩, ⟨a3, a4, a5⟩, ⟨H1, H2, H3⟩, ⟨HL, HLm⟩, H4, H5, H6, H7⟩ := hB.1
  have hP : P_today N (inp, se, dr, rdr, b, c, hi, ck) = some (nI d, (inp, se, dr, rdr, b, c, hi, ck)) := by
    unfold P_today
    unfold F_B_day f_X0_day
    dsimp only
    rw [a3]; rfl
  have hG : F_M_today N (th, ch, ik, len, pa_, tok, err, hti, see, rk, bl, fx, rdd, le, ler, so, sor, wh, whr, now, kept, past, buf) = some (nI d, ((0 : Int32), ch, ik, len, pa_, tok, err, hti, see, rk, bl, fx, rdd, le, ler, so, sor, wh, whr, now, kept, past, buf)) := by
    unfold F_M_today
    dsimp only
    unfold f_X11_today
    rw [M_today, a4]; rfl
  exact ⟨(nI d, (inp, se, dr, rdr, b, c, hi, ck)), (nI d, ((0 : Int32), ch, ik, len, pa_, tok, err, hti, see, rk, bl, fx, rdd, le, ler, so, sor, wh, whr, now, kept, past, buf)), hP, hG, rfl, RlW_thrown HR0 0⟩

theorem T_purchaseCount {N : Nat} (hN : 600000 < N) : StB RlW (fun s => P_purchaseCount N s) (fun m => F_M_purchaseCount N m) := by
  intro k s m hk HR
  obtain ⟨inp, se, dr, rdr, b, c, hi, ck⟩ := s
  obtain ⟨th, ch, ik, len, pa_, tok, err, hti, see, rk, bl, fx, rdd, le, ler, so, sor, wh, whr, now, kept, past, buf⟩ := m
  obtain ⟨v, R⟩ := HR
  have R : RlC v k inp se b c hi ck ch ik len fx le so wh now kept past buf := R
  have HR0 : RlW k (inp, se, dr, rdr, b, c, hi, ck) (th, ch, ik, len, pa_, tok, err, hti, see, rk, bl, fx, rdd, le, ler, so, sor, wh, whr, now, kept, past, buf) := ⟨v, R⟩
  obtain ⟨hV, hM, hS, hNM, hIN, hB, hK, hH⟩ := R
  have hv3 := hV.1.2.2.2.2.1
  have hv4 := hV.1.2.2.2.2.2
  have hv1 := hV.1.2.2.1
  have hSs : SC v (inp, se, dr, rdr, b, c, hi, ck).2.1 := hS
  have hK' : (ck = 0 ∧ ik = 0) ∨ (ck = 1 ∧ ik = 1 ∧ BRL v (k + 1) c kept) := hK.imp id (fun x => ⟨x.1, x.2.1, BRL_mono x.2.2 (Nat.le_succ k)⟩)
  obtain ⟨d, E, Lg, c0, dy, db, rd, ⟨a1, a2⟩, ⟨a3, a4, a5⟩, ⟨H1, H2, H3⟩, ⟨HL, HLm⟩, H4, H5, H6, H7⟩ := hB.1
  have hP : P_purchaseCount N (inp, se, dr, rdr, b, c, hi, ck) = some (nI c0, (inp, se, dr, rdr, b, c, hi, ck)) := by
    unfold P_purchaseCount
    unfold F_U_count f_X5_count
    dsimp only
    rw [H4.1]; rfl
  have hG : F_M_purchaseCount N (th, ch, ik, len, pa_, tok, err, hti, see, rk, bl, fx, rdd, le, ler, so, sor, wh, whr, now, kept, past, buf) = some (nI c0, ((0 : Int32), ch, ik, len, pa_, tok, err, hti, see, rk, bl, fx, rdd, le, ler, so, sor, wh, whr, now, kept, past, buf)) := by
    unfold F_M_purchaseCount
    dsimp only
    unfold f_X11_purchaseCount
    rw [if_neg (by decide), show (1 : Int32).toNatClampNeg = 1 from rfl, H4.2.2.1]; rfl
  exact ⟨(nI c0, (inp, se, dr, rdr, b, c, hi, ck)), (nI c0, ((0 : Int32), ch, ik, len, pa_, tok, err, hti, see, rk, bl, fx, rdd, le, ler, so, sor, wh, whr, now, kept, past, buf)), hP, hG, rfl, RlW_thrown HR0 0⟩

theorem T_logSize {N : Nat} (hN : 600000 < N) : StB RlW (fun s => P_logSize N s) (fun m => F_M_logSize N m) := by
  intro k s m hk HR
  obtain ⟨inp, se, dr, rdr, b, c, hi, ck⟩ := s
  obtain ⟨th, ch, ik, len, pa_, tok, err, hti, see, rk, bl, fx, rdd, le, ler, so, sor, wh, whr, now, kept, past, buf⟩ := m
  obtain ⟨v, R⟩ := HR
  have R : RlC v k inp se b c hi ck ch ik len fx le so wh now kept past buf := R
  have HR0 : RlW k (inp, se, dr, rdr, b, c, hi, ck) (th, ch, ik, len, pa_, tok, err, hti, see, rk, bl, fx, rdd, le, ler, so, sor, wh, whr, now, kept, past, buf) := ⟨v, R⟩
  obtain ⟨hV, hM, hS, hNM, hIN, hB, hK, hH⟩ := R
  have hv3 := hV.1.2.2.2.2.1
  have hv4 := hV.1.2.2.2.2.2
  have hv1 := hV.1.2.2.1
  have hSs : SC v (inp, se, dr, rdr, b, c, hi, ck).2.1 := hS
  have hK' : (ck = 0 ∧ ik = 0) ∨ (ck = 1 ∧ ik = 1 ∧ BRL v (k + 1) c kept) := hK.imp id (fun x => ⟨x.1, x.2.1, BRL_mono x.2.2 (Nat.le_succ k)⟩)
  obtain ⟨d, E, Lg, c0, dy, db, rd, ⟨a1, a2⟩, ⟨a3, a4, a5⟩, ⟨H1, H2, H3⟩, ⟨HL, HLm⟩, H4, H5, H6, H7⟩ := hB.1
  obtain ⟨n0, l1, l2, l3, l4, l5⟩ := HL
  have hP : P_logSize N (inp, se, dr, rdr, b, c, hi, ck) = some (nI Lg.length, (inp, se, dr, rdr, b, c, hi, ck)) := by
    unfold P_logSize
    unfold F_L_size f_X4_size
    dsimp only
    rw [l3]; rfl
  have hG : F_M_logSize N (th, ch, ik, len, pa_, tok, err, hti, see, rk, bl, fx, rdd, le, ler, so, sor, wh, whr, now, kept, past, buf) = some (nI Lg.length, ((0 : Int32), ch, ik, len, pa_, tok, err, hti, see, rk, bl, fx, rdd, le, ler, so, sor, wh, whr, now, kept, past, buf)) := by
    unfold F_M_logSize
    dsimp only
    unfold f_X11_logSize
    rw [if_neg (by decide), show (2 : Int32).toNatClampNeg = 2 from rfl, HLm.1]; rfl
  exact ⟨(nI Lg.length, (inp, se, dr, rdr, b, c, hi, ck)), (nI Lg.length, ((0 : Int32), ch, ik, len, pa_, tok, err, hti, see, rk, bl, fx, rdd, le, ler, so, sor, wh, whr, now, kept, past, buf)), hP, hG, rfl, RlW_thrown HR0 0⟩

theorem T_undoCount {N : Nat} (hN : 600000 < N) : StB RlW (fun s => P_undoCount N s) (fun m => F_M_undoCount N m) := by
  intro k s m hk HR
  obtain ⟨inp, se, dr, rdr, b, c, hi, ck⟩ := s
  obtain ⟨th, ch, ik, len, pa_, tok, err, hti, see, rk, bl, fx, rdd, le, ler, so, sor, wh, whr, now, kept, past, buf⟩ := m
  obtain ⟨v, R⟩ := HR
  have R : RlC v k inp se b c hi ck ch ik len fx le so wh now kept past buf := R
  have HR0 : RlW k (inp, se, dr, rdr, b, c, hi, ck) (th, ch, ik, len, pa_, tok, err, hti, see, rk, bl, fx, rdd, le, ler, so, sor, wh, whr, now, kept, past, buf) := ⟨v, R⟩
  obtain ⟨hV, hM, hS, hNM, hIN, hB, hK, hH⟩ := R
  have hv3 := hV.1.2.2.2.2.1
  have hv4 := hV.1.2.2.2.2.2
  have hv1 := hV.1.2.2.1
  have hSs : SC v (inp, se, dr, rdr, b, c, hi, ck).2.1 := hS
  have hK' : (ck = 0 ∧ ik = 0) ∨ (ck = 1 ∧ ik = 1 ∧ BRL v (k + 1) c kept) := hK.imp id (fun x => ⟨x.1, x.2.1, BRL_mono x.2.2 (Nat.le_succ k)⟩)
  obtain ⟨n0, c0, h1, h2, h3, h4, h5, h6⟩ := hH
  have hP : P_undoCount N (inp, se, dr, rdr, b, c, hi, ck) = some (nI c0, (inp, se, dr, rdr, b, c, hi, ck)) := by
    unfold P_undoCount
    unfold F_hcount
    dsimp only
    rw [h4]; rfl
  have hG : F_M_undoCount N (th, ch, ik, len, pa_, tok, err, hti, see, rk, bl, fx, rdd, le, ler, so, sor, wh, whr, now, kept, past, buf) = some (nI c0, ((0 : Int32), ch, ik, len, pa_, tok, err, hti, see, rk, bl, fx, rdd, le, ler, so, sor, wh, whr, now, kept, past, buf)) := by
    unfold F_M_undoCount
    dsimp only
    unfold f_X11_undoCount
    rw [h5]; rfl
  exact ⟨(nI c0, (inp, se, dr, rdr, b, c, hi, ck)), (nI c0, ((0 : Int32), ch, ik, len, pa_, tok, err, hti, see, rk, bl, fx, rdd, le, ler, so, sor, wh, whr, now, kept, past, buf)), hP, hG, rfl, (by have := RlW_thrown HR0 0; exact this)⟩

theorem T_purchasePart {N : Nat} (hN : 600000 < N) (x1 : Int32) (x2 : Int32) : StA RlW (fun s f => W_purchasePart N s f x1 x2) (fun m => F_M_purchasePart N m x1 x2) := by
  intro k s m f hk HR
  obtain ⟨inp, se, dr, rdr, b, c, hi, ck⟩ := s
  obtain ⟨th, ch, ik, len, pa_, tok, err, hti, see, rk, bl, fx, rdd, le, ler, so, sor, wh, whr, now, kept, past, buf⟩ := m
  obtain ⟨v, R⟩ := HR
  have R : RlC v k inp se b c hi ck ch ik len fx le so wh now kept past buf := R
  have HR0 : RlW k (inp, se, dr, rdr, b, c, hi, ck) (th, ch, ik, len, pa_, tok, err, hti, see, rk, bl, fx, rdd, le, ler, so, sor, wh, whr, now, kept, past, buf) := ⟨v, R⟩
  obtain ⟨hV, hM, hS, hNM, hIN, hB, hK, hH⟩ := R
  have hv3 := hV.1.2.2.2.2.1
  have hv4 := hV.1.2.2.2.2.2
  have hv1 := hV.1.2.2.1
  have hSs : SC v (inp, se, dr, rdr, b, c, hi, ck).2.1 := hS
  have hK' : (ck = 0 ∧ ik = 0) ∨ (ck = 1 ∧ ik = 1 ∧ BRL v (k + 1) c kept) := hK.imp id (fun x => ⟨x.1, x.2.1, BRL_mono x.2.2 (Nat.le_succ k)⟩)
  obtain ⟨d, E, Lg, c0, dy, db, rd, ⟨a1, a2⟩, ⟨a3, a4, a5⟩, ⟨H1, H2, H3⟩, ⟨HL, HLm⟩, H4, H5, H6, H7⟩ := hB.1
  have hc5 := H4.2.1
  have hke : F_U_isKept N b x1 = some (if x1 < nI (c0 - 40) ∨ nI c0 ≤ x1 then 0 else 1) := by
    unfold F_U_isKept
    rw [H4.1, C_isKept (by omega)]; rfl
  by_cases h1 : x1 < nI (c0 - 40) ∨ nI c0 ≤ x1
  · have hP : P_purchasePart N (inp, se, dr, rdr, b, c, hi, ck) x1 x2 = some (3, 0, (inp, se, dr, rdr, b, c, hi, ck)) := by
      unfold P_purchasePart
      unfold P_needKeptPurchase
      dsimp only
      rw [show F_B_purchases N b = some () from rfl, Option.bind_some, hke, if_pos h1]; rfl
    have hG : F_M_purchasePart N (th, ch, ik, len, pa_, tok, err, hti, see, rk, bl, fx, rdd, le, ler, so, sor, wh, whr, now, kept, past, buf) x1 x2 = some (0, ((1 : Int32), ch, ik, len, pa_, tok, err, hti, see, rk, bl, fx, rdd, le, ler, so, sor, wh, whr, now, kept, past, buf)) := by
      unfold F_M_purchasePart
      dsimp only
      unfold f_X11_purchasePart
      rw [M_isBought H4.2.2.1 (by omega), if_pos h1]; rfl
    exact fin_no (c := 1) (by dsimp only; unfold W_purchasePart; rw [hP]; rfl) (by decide) hG rfl (RlW_thrown HR0 1)
  have h1' := h1
  by_cases h2 : outR x2 0 6
  · have hP : P_purchasePart N (inp, se, dr, rdr, b, c, hi, ck) x1 x2 = some (2, 0, (inp, se, dr, rdr, b, c, hi, ck)) := by
      unfold P_purchasePart
      unfold P_needKeptPurchase
      dsimp only
      rw [show F_B_purchases N b = some () from rfl, Option.bind_some, hke, if_neg h1', Option.bind_some, if_neg (by decide), Option.bind_some, if_pos rfl, btw_out h2]; rfl
    have hG : F_M_purchasePart N (th, ch, ik, len, pa_, tok, err, hti, see, rk, bl, fx, rdd, le, ler, so, sor, wh, whr, now, kept, past, buf) x1 x2 = some (0, ((2 : Int32), ch, ik, len, pa_, tok, err, hti, see, rk, bl, fx, rdd, le, ler, so, sor, wh, whr, now, kept, past, buf)) := by
      unfold F_M_purchasePart
      dsimp only
      unfold f_X11_purchasePart
      rw [M_isBought H4.2.2.1 (by omega), if_neg h1, Option.bind_some, if_neg (by decide), show (0 : Int64) = (0 : Int32).toInt64 from rfl, show (6 : Int64) = (6 : Int32).toInt64 from rfl, isIn_out h2]; rfl
    exact fin_no (c := 2) (by dsimp only; unfold W_purchasePart; rw [hP]; rfl) (by decide) hG rfl (RlW_thrown HR0 2)
  have h2' := h2
  obtain ⟨i, hi0, hi2, rfl⟩ : ∃ i, i < c0 ∧ c0 ≤ i + 40 ∧ x1 = nI i := by
    have h2 : ¬ x1 < 0 := fun hh => h1 (Or.inl (Int32.lt_of_lt_of_le hh (by rw [← nI_0, nI_leI (by omega) (by omega)]; omega)))
    obtain ⟨j, h3, h4⟩ := nI_of h2
    subst h4
    rw [nI_ltI h3 (by omega), nI_leI (by omega) h3] at h1
    exact ⟨j, by omega, by omega, rfl⟩
  obtain ⟨w, _, hw, rfl⟩ := outR_not (a := 0) (b := 6) (by decide) h2 (by decide)
  have hP : P_purchasePart N (inp, se, dr, rdr, b, c, hi, ck) (nI i) (nI w) = some (0, b.2.2.2.2.2.2.2.2.1 (7 * i + w), (inp, se, dr, rdr, b, c, hi, ck)) := by
    unfold P_purchasePart
    unfold P_needKeptPurchase
    dsimp only
    rw [show F_B_purchases N b = some () from rfl, Option.bind_some, hke, if_neg h1', Option.bind_some, if_neg (by decide), Option.bind_some, if_pos rfl, btw_in h2', Option.bind_some, if_pos rfl, Option.bind_some]
    unfold F_U_part
    rw [C_part (by omega) (by omega)]; rfl
  have hG : F_M_purchasePart N (th, ch, ik, len, pa_, tok, err, hti, see, rk, bl, fx, rdd, le, ler, so, sor, wh, whr, now, kept, past, buf) (nI i) (nI w) = some (b.2.2.2.2.2.2.2.2.1 (7 * i + w), ((0 : Int32), ch, ik, len, pa_, tok, err, hti, see, rk, bl, fx, rdd, le, ler, so, sor, wh, whr, now, kept, past, buf)) := by
    unfold F_M_purchasePart
    dsimp only
    unfold f_X11_purchasePart
    rw [M_isBought H4.2.2.1 (by omega), if_neg h1', Option.bind_some, if_neg (by decide), show (0 : Int64) = (0 : Int32).toInt64 from rfl, show (6 : Int64) = (6 : Int32).toInt64 from rfl, isIn_in h2', Option.bind_some, if_neg (by decide), M_bought (by omega) (by omega), H4.2.2.2.1 i w hi0 hi2 (by omega)]; rfl
  have hW : W_purchasePart N (inp, se, dr, rdr, b, c, hi, ck) f (nI i) (nI w) = some (0, (inp, se, dr, rdr, b, c, hi, ck), vp_updL f 0 (b.2.2.2.2.2.2.2.2.1 (7 * i + w)).toInt64) := by
    unfold W_purchasePart
    rw [hP]; rfl
  exact fin_ok (k := k) (s' := (inp, se, dr, rdr, b, c, hi, ck)) (m' := ((0 : Int32), ch, ik, len, pa_, tok, err, hti, see, rk, bl, fx, rdd, le, ler, so, sor, wh, whr, now, kept, past, buf)) (f := f) (p := b.2.2.2.2.2.2.2.2.1 (7 * i + w)) hW hG rfl (RlW_thrown HR0 0)

/-- a part of an entry -/
def coP (e : Co) (w : Nat) : Int32 := if w = 0 then e.1 else if w = 1 then e.2.1 else if w = 2 then e.2.2.1 else e.2.2.2
theorem C_log_part {Lg : List Co} {nx sz : Int32} {dp : Nat → Int32} (H : LogC Lg nx sz dp) {i w : Nat} {e : Co} (he : Lg[i]? = some e) (hw : w < 4) : f_X4_part (nI i) (nI w) 120 nx dp = some (coP e w) := by
  obtain ⟨n0, l1, l2, l3, l4, l5⟩ := H
  have hi : i < Lg.length := (List.getElem?_eq_some_iff.mp he).1
  obtain ⟨c1, c2, c3, c4⟩ := l5 i e he
  have h120 : (120 : Nat) < 2 ^ 31 := by decide
  have hv : dp (4 * ((n0 + 29 - i) % 30) + w) = coP e w := by
    unfold coP
    by_cases w0 : w = 0
    · rw [if_pos w0, w0, Nat.add_zero, c1]
    · rw [if_neg w0]
      by_cases w1 : w = 1
      · rw [if_pos w1, w1, c2]
      · rw [if_neg w1]
        by_cases w2 : w = 2
        · rw [if_pos w2, w2, c3]
        · rw [if_neg w2, show w = 3 by omega, c4]
  unfold f_X4_part f_X4_part_b25
  rw [l2, Option.bind_some]
  by_cases h : i < n0
  · have h1 : nI n0 - 1 - nI i = nI (n0 - 1 - i) := by
      rw [show (1 : Int32) = nI 1 from rfl, nI_subI (by omega), nI_subI (by omega)]
    rw [h1, if_pos (by rw [← nI_0, nI_leI (by omega) (by omega)]; omega), show (4 : Int32) = nI 4 from rfl, nI_mul, nI_add, X6_at_in dp h120 (by omega), Option.bind_some, ← hv, show (n0 + 29 - i) % 30 = n0 - 1 - i by omega, Nat.mul_comm]
  · have h2 : nI n0 - 1 - nI i + 30 = nI (n0 + 29 - i) := by
      apply Int32.toInt_inj.mp
      rw [Int32.toInt_add, Int32.toInt_sub, Int32.toInt_sub, nI_toInt (by omega), nI_toInt (by omega), nI_toInt (by omega), show (1 : Int32).toInt = 1 from rfl, show (30 : Int32).toInt = 30 from rfl]
      rw [Int.bmod_eq_of_le (n := (n0 : Int) - 1) (by omega) (by omega), Int.bmod_eq_of_le (n := (n0 : Int) - 1 - i) (by omega) (by omega), Int.bmod_eq_of_le (by omega) (by omega)]
      omega
    have h3 : ¬ 0 ≤ nI n0 - 1 - nI i := by
      rw [Int32.le_iff_toInt_le, Int32.toInt_sub, Int32.toInt_sub, nI_toInt (by omega), nI_toInt (by omega), show (1 : Int32).toInt = 1 from rfl, Int32.toInt_zero]
      rw [Int.bmod_eq_of_le (n := (n0 : Int) - 1) (by omega) (by omega), Int.bmod_eq_of_le (by omega) (by omega)]
      omega
    rw [if_neg h3, h2, show (4 : Int32) = nI 4 from rfl, nI_mul, nI_add, X6_at_in dp h120 (by omega), Option.bind_some, ← hv, show (n0 + 29 - i) % 30 = n0 + 29 - i by omega, Nat.mul_comm]
theorem M_log_part {Lg : List Co} {g : Nat → Int32} (H : LogM Lg g) {i w : Nat} {e : Co} (he : Lg[i]? = some e) (hw : w < 4) : g (350 + 4 * (Lg.length - 1 - i) + w) = coP e w := by
  obtain ⟨c1, c2, c3, c4⟩ := H.2.2 i e he
  unfold coP
  by_cases w0 : w = 0
  · rw [if_pos w0, w0, Nat.add_zero, c1]
  · rw [if_neg w0]
    by_cases w1 : w = 1
    · rw [if_pos w1, w1, c2]
    · rw [if_neg w1]
      by_cases w2 : w = 2
      · rw [if_pos w2, w2, c3]
      · rw [if_neg w2, show w = 3 by omega, c4]

theorem T_log {N : Nat} (hN : 600000 < N) (x1 : Int32) (x2 : Int32) : StA RlW (fun s f => W_log N s f x1 x2) (fun m => F_M_log N m x1 x2) := by
  intro k s m f hk HR
  obtain ⟨inp, se, dr, rdr, b, c, hi, ck⟩ := s
  obtain ⟨th, ch, ik, len, pa_, tok, err, hti, see, rk, bl, fx, rdd, le, ler, so, sor, wh, whr, now, kept, past, buf⟩ := m
  obtain ⟨v, R⟩ := HR
  have R : RlC v k inp se b c hi ck ch ik len fx le so wh now kept past buf := R
  have HR0 : RlW k (inp, se, dr, rdr, b, c, hi, ck) (th, ch, ik, len, pa_, tok, err, hti, see, rk, bl, fx, rdd, le, ler, so, sor, wh, whr, now, kept, past, buf) := ⟨v, R⟩
  obtain ⟨hV, hM, hS, hNM, hIN, hB, hK, hH⟩ := R
  have hv3 := hV.1.2.2.2.2.1
  have hv4 := hV.1.2.2.2.2.2
  have hv1 := hV.1.2.2.1
  have hSs : SC v (inp, se, dr, rdr, b, c, hi, ck).2.1 := hS
  have hK' : (ck = 0 ∧ ik = 0) ∨ (ck = 1 ∧ ik = 1 ∧ BRL v (k + 1) c kept) := hK.imp id (fun x => ⟨x.1, x.2.1, BRL_mono x.2.2 (Nat.le_succ k)⟩)
  obtain ⟨d, E, Lg, c0, dy, db, rd, ⟨a1, a2⟩, ⟨a3, a4, a5⟩, ⟨H1, H2, H3⟩, ⟨HL, HLm⟩, H4, H5, H6, H7⟩ := hB.1
  have hll := HLm.2.1
  have hsz : F_L_size N b = some (nI Lg.length) := by
    obtain ⟨n0, l1, l2, l3, l4, l5⟩ := HL
    unfold F_L_size f_X4_size
    rw [l3]; rfl
  have hdi : F_B_diary N b = some () := rfl
  by_cases h1 : outN x1 Lg.length
  · have hP : P_log N (inp, se, dr, rdr, b, c, hi, ck) x1 x2 = some (4, 0, (inp, se, dr, rdr, b, c, hi, ck)) := by
      unfold P_log
      dsimp only
      by_cases h2 : x1 < 0
      · rw [if_pos h2]
      · rw [if_neg h2, hdi, Option.bind_some, hsz, Option.bind_some, if_neg (fun hh => h1.elim h2 (fun h3 => Int32.not_lt.mpr h3 hh))]
    have hG : F_M_log N (th, ch, ik, len, pa_, tok, err, hti, see, rk, bl, fx, rdd, le, ler, so, sor, wh, whr, now, kept, past, buf) x1 x2 = some (0, ((1 : Int32), ch, ik, len, pa_, tok, err, hti, see, rk, bl, fx, rdd, le, ler, so, sor, wh, whr, now, kept, past, buf)) := by
      unfold F_M_log
      dsimp only
      unfold f_X11_log
      rw [if_neg (by decide), show (2 : Int32).toNatClampNeg = 2 from rfl, HLm.1, M_isInN x1 (by omega), if_pos h1]; rfl
    exact fin_no (c := 1) (by dsimp only; unfold W_log; rw [hP]; rfl) (by decide) hG rfl (RlW_thrown HR0 1)
  have h1' := h1
  obtain ⟨i, hi0, rfl⟩ := outN_not (by omega) h1
  by_cases h2 : outR x2 0 3
  · have hP : P_log N (inp, se, dr, rdr, b, c, hi, ck) (nI i) x2 = some (2, 0, (inp, se, dr, rdr, b, c, hi, ck)) := by
      unfold P_log
      dsimp only
      rw [if_neg (nI_pos (by omega)), hdi, Option.bind_some, hsz, Option.bind_some, if_pos ((nI_ltI (by omega) (by omega)).mpr hi0), btw_out h2]; rfl
    have hG : F_M_log N (th, ch, ik, len, pa_, tok, err, hti, see, rk, bl, fx, rdd, le, ler, so, sor, wh, whr, now, kept, past, buf) (nI i) x2 = some (0, ((2 : Int32), ch, ik, len, pa_, tok, err, hti, see, rk, bl, fx, rdd, le, ler, so, sor, wh, whr, now, kept, past, buf)) := by
      unfold F_M_log
      dsimp only
      unfold f_X11_log
      rw [if_neg (by decide), show (2 : Int32).toNatClampNeg = 2 from rfl, HLm.1, M_isInN (nI i) (by omega), if_neg h1', Option.bind_some, if_neg (by decide), show (0 : Int64) = (0 : Int32).toInt64 from rfl, show (3 : Int64) = (3 : Int32).toInt64 from rfl, isIn_out h2]; rfl
    exact fin_no (c := 2) (by dsimp only; unfold W_log; rw [hP]; rfl) (by decide) hG rfl (RlW_thrown HR0 2)
  have h2' := h2
  obtain ⟨w, _, hw, rfl⟩ := outR_not (a := 0) (b := 3) (by decide) h2 (by decide)
  obtain ⟨e, he⟩ : ∃ e, Lg[i]? = some e := ⟨Lg[i], List.getElem?_eq_getElem hi0⟩
  have hcp := C_log_part HL he (show w < 4 by omega)
  have hmp := M_log_part HLm he (show w < 4 by omega)
  have gl := grd (i := 350 + 4 * (Lg.length - 1 - i) + w) (n := 72470) (by omega) (by decide)
  have hP : P_log N (inp, se, dr, rdr, b, c, hi, ck) (nI i) (nI w) = some (0, coP e w, (inp, se, dr, rdr, b, c, hi, ck)) := by
    unfold P_log
    dsimp only
    rw [if_neg (nI_pos (by omega)), hdi, Option.bind_some, hsz, Option.bind_some, if_pos ((nI_ltI (by omega) (by omega)).mpr hi0), btw_in h2', Option.bind_some, if_pos rfl, Option.bind_some]
    unfold F_L_part
    rw [hcp]; rfl
  have hG : F_M_log N (th, ch, ik, len, pa_, tok, err, hti, see, rk, bl, fx, rdd, le, ler, so, sor, wh, whr, now, kept, past, buf) (nI i) (nI w) = some (coP e w, ((0 : Int32), ch, ik, len, pa_, tok, err, hti, see, rk, bl, fx, rdd, le, ler, so, sor, wh, whr, now, kept, past, buf)) := by
    unfold F_M_log
    dsimp only
    unfold f_X11_log
    rw [if_neg (by decide), show (2 : Int32).toNatClampNeg = 2 from rfl, HLm.1, M_isInN (nI i) (by omega), if_neg h1', Option.bind_some, if_neg (by decide), show (0 : Int64) = (0 : Int32).toInt64 from rfl, show (3 : Int64) = (3 : Int32).toInt64 from rfl, isIn_in h2', Option.bind_some, if_neg (by decide), show (1 : Int32) = nI 1 from rfl, nI_subI (show 1 ≤ Lg.length by omega), nI_subI (show i ≤ Lg.length - 1 by omega), show (350 : Int32) = nI 350 from rfl, show (4 : Int32) = nI 4 from rfl, nI_mul, nI_add, nI_add, if_neg (by decide), if_neg gl, nI_clamp (by omega), hmp]; rfl
  have hW : W_log N (inp, se, dr, rdr, b, c, hi, ck) f (nI i) (nI w) = some (0, (inp, se, dr, rdr, b, c, hi, ck), vp_updL f 0 (coP e w).toInt64) := by
    unfold W_log
    rw [hP]; rfl
  exact fin_ok (k := k) (s' := (inp, se, dr, rdr, b, c, hi, ck)) (m' := ((0 : Int32), ch, ik, len, pa_, tok, err, hti, see, rk, bl, fx, rdd, le, ler, so, sor, wh, whr, now, kept, past, buf)) (f := f) (p := coP e w) hW hG rfl (RlW_thrown HR0 0)

theorem M_undo_copy {c : Nat} {pa : Nat → Int32} (hc : c < 8) (t : Int32) : ∀ (n i : Nat) (g : Nat → Int32), i ≤ 72470 → 72470 < n + i → (∀ j, j < i → g j = pa (72470 * c + j)) → ∃ g', f_X11_undo_b30 72470 579760 t (nI c) pa n (nI i) g = some (nI c, t, nI c, g') ∧ ∀ j, j < 72470 → g' j = pa (72470 * c + j) := by
  intro n
  induction n with
  | zero => intro i g h1 h2; omega
  | succ n ih =>
    intro i g h1 h2 h3
    rw [f_X11_undo_b30]
    by_cases h : i = 72470
    · rw [if_pos (by rw [h]; exact Int32.le_refl _)]
      rw [h] at h3
      exact ⟨g, rfl, h3⟩
    · have g1 := grd (i := i) (n := 72470) (by omega) (by decide)
      have g2 := grd (i := 72470 * c + i) (n := 579760) (by omega) (by decide)
      rw [if_neg (fun hh => by rw [show (72470 : Int32) = nI 72470 from rfl, nI_leI (by decide) (by omega)] at hh; omega), show (72470 : Int32) = nI 72470 from rfl, nI_mul, nI_add, if_neg g2, if_neg g1, nI_clamp (by omega), nI_clamp (by omega), Option.bind_some, nI_1, Option.bind_some]
      refine ih (i + 1) _ (by omega) (by omega) (fun j hj => ?_)
      by_cases e : j = i
      · rw [e, upd_at]
      · rw [upd_ne _ _ e, h3 j (by omega)]
theorem M_save_copy {g0 : Nat → Int32} (t : Int32) : ∀ (n i : Nat) (g : Nat → Int32), i ≤ 72470 → 72470 < n + i → (∀ j, j < i → g j = g0 j) → ∃ g', f_X11_save_b7 72470 72470 t g0 n (nI i) g = some (g0 0, t, 1, g') ∧ ∀ j, j < 72470 → g' j = g0 j := by
  intro n
  induction n with
  | zero => intro i g h1 h2; omega
  | succ n ih =>
    intro i g h1 h2 h3
    rw [f_X11_save_b7]
    by_cases h : i = 72470
    · rw [if_pos (by rw [h]; exact Int32.le_refl _), M_today, Option.bind_some]
      rw [h] at h3
      exact ⟨g, rfl, h3⟩
    · have g1 := grd (i := i) (n := 72470) (by omega) (by decide)
      rw [if_neg (fun hh => by rw [show (72470 : Int32) = nI 72470 from rfl, nI_leI (by decide) (by omega)] at hh; omega), if_neg g1, if_neg g1, nI_clamp (by omega), Option.bind_some, nI_1, Option.bind_some]
      refine ih (i + 1) _ (by omega) (by omega) (fun j hj => ?_)
      by_cases e : j = i
      · rw [e, upd_at]
      · rw [upd_ne _ _ e, h3 j (by omega)]
theorem M_rest_copy {g0 : Nat → Int32} (t : Int32) : ∀ (n i : Nat) (g : Nat → Int32), i ≤ 72470 → 72470 < n + i → (∀ j, j < i → g j = g0 j) → ∃ g', f_X11_restore_b20 72470 72470 t g0 n (nI i) g = some (g0 0, t, 0, g') ∧ ∀ j, j < 72470 → g' j = g0 j := by
  intro n
  induction n with
  | zero => intro i g h1 h2; omega
  | succ n ih =>
    intro i g h1 h2 h3
    rw [f_X11_restore_b20]
    by_cases h : i = 72470
    · rw [h] at h3
      rw [if_pos (by rw [h]; exact Int32.le_refl _), M_today, Option.bind_some, h3 0 (by omega)]
      exact ⟨g, rfl, h3⟩
    · have g1 := grd (i := i) (n := 72470) (by omega) (by decide)
      rw [if_neg (fun hh => by rw [show (72470 : Int32) = nI 72470 from rfl, nI_leI (by decide) (by omega)] at hh; omega), if_neg g1, if_neg g1, nI_clamp (by omega), Option.bind_some, nI_1, Option.bind_some]
      refine ih (i + 1) _ (by omega) (by omega) (fun j hj => ?_)
      by_cases e : j = i
      · rw [e, upd_at]
      · rw [upd_ne _ _ e, h3 j (by omega)]
theorem BRL_day {v : Nat → Nat} {k : Nat} {b : T_BK} {g : Nat → Int32} (H : BRL v k b g) : ∃ d, b.1 = nI d ∧ g 0 = nI d := by
  obtain ⟨d, _, _, _, _, _, _, _, ⟨a1, a2, _⟩, _⟩ := H.1
  exact ⟨d, a1, a2⟩

theorem T_undo {N : Nat} (hN : 600000 < N) : StA RlW (fun s f => W_undo N s f) (fun m => F_M_undo N m) := by
  intro k s m f hk HR
  obtain ⟨inp, se, dr, rdr, b, c, hi, ck⟩ := s
  obtain ⟨th, ch, ik, len, pa_, tok, err, hti, see, rk, bl, fx, rdd, le, ler, so, sor, wh, whr, now, kept, past, buf⟩ := m
  obtain ⟨v, R⟩ := HR
  have R : RlC v k inp se b c hi ck ch ik len fx le so wh now kept past buf := R
  have HR0 : RlW k (inp, se, dr, rdr, b, c, hi, ck) (th, ch, ik, len, pa_, tok, err, hti, see, rk, bl, fx, rdd, le, ler, so, sor, wh, whr, now, kept, past, buf) := ⟨v, R⟩
  obtain ⟨hV, hM, hS, hNM, hIN, hB, hK, hH⟩ := R
  have hv3 := hV.1.2.2.2.2.1
  have hv4 := hV.1.2.2.2.2.2
  have hv1 := hV.1.2.2.1
  have hSs : SC v (inp, se, dr, rdr, b, c, hi, ck).2.1 := hS
  have hK' : (ck = 0 ∧ ik = 0) ∨ (ck = 1 ∧ ik = 1 ∧ BRL v (k + 1) c kept) := hK.imp id (fun x => ⟨x.1, x.2.1, BRL_mono x.2.2 (Nat.le_succ k)⟩)
  obtain ⟨n0, c0, h1, h2, h3, h4, h5, h6⟩ := hH
  by_cases h0 : c0 = 0
  · have hP : P_undo N (inp, se, dr, rdr, b, c, hi, ck) = some (1, 0, (inp, se, dr, rdr, b, c, hi, ck)) := by
      unfold P_undo
      unfold F_hcount
      dsimp only
      rw [h4, Option.bind_some, if_pos (by rw [h0]; rfl)]
    have hG : F_M_undo N (th, ch, ik, len, pa_, tok, err, hti, see, rk, bl, fx, rdd, le, ler, so, sor, wh, whr, now, kept, past, buf) = some (0, ((1 : Int32), ch, ik, len, pa_, tok, err, hti, see, rk, bl, fx, rdd, le, ler, so, sor, wh, whr, now, kept, past, buf)) := by
      unfold F_M_undo
      dsimp only
      unfold f_X11_undo
      rw [h5, if_pos (by rw [h0]; rfl)]; rfl
    exact fin_no (c := 1) (by dsimp only; unfold W_undo; rw [hP]; rfl) (by decide) hG rfl (RlW_thrown HR0 1)
  obtain ⟨x, x1, x2, x3⟩ := B_copy (s0 := b) hV (h6 0 (by omega)) N
  rw [show (n0 + 8 - 0) % 8 = n0 by omega] at x1
  obtain ⟨g', y1, y2⟩ := M_undo_copy (c := c0 - 1) (pa := past) (by omega) 0 N 0 now (by omega) (by omega) (fun j hj => by omega)
  have hBx : BRL v k x g' := BRL_congr hV x2 (fun i hi => by rw [y2 i hi]; rfl)
  obtain ⟨h', z1, z2⟩ : ∃ h', F_giveBack N hi b = some (h', x) ∧ HIS v k h' (nI (c0 - 1)) past := by
    unfold F_giveBack
    rw [h3, if_neg (fun hh => by
      rw [nI_clamp (by omega), nI_leI (by omega) (by omega)] at hh
      rcases hh with a | a | a
      · exact nI_pos (by omega) a
      · omega
      · omega), h4, if_neg (fun hh => h0 ((nI_le0 (by omega)).mp hh)), nI_clamp (by omega), x1, Option.bind_some]
    have h7 : nI c0 - 1 = nI (c0 - 1) := nI_subI (a := c0) (b := 1) (by omega)
    by_cases e : n0 = 0
    · rw [if_pos (by rw [e]; exact Int32.le_refl 0), h7]
      refine ⟨_, rfl, 7, c0 - 1, by omega, by omega, rfl, rfl, rfl, fun j hj => ?_⟩
      have h8 := h6 (j + 1) (by omega)
      rw [show (n0 + 8 - (j + 1)) % 8 = (7 + 8 - j) % 8 by omega, show c0 - 1 - (j + 1) = c0 - 1 - 1 - j by omega] at h8
      exact h8
    · rw [if_neg (fun hh => e ((nI_le0 (by omega)).mp hh)), h7, show nI n0 - (1 : Int32) = nI (n0 - 1) from nI_subI (a := n0) (b := 1) (by omega)]
      refine ⟨_, rfl, n0 - 1, c0 - 1, by omega, by omega, rfl, rfl, rfl, fun j hj => ?_⟩
      have h8 := h6 (j + 1) (by omega)
      rw [show (n0 + 8 - (j + 1)) % 8 = (n0 - 1 + 8 - j) % 8 by omega, show c0 - 1 - (j + 1) = c0 - 1 - 1 - j by omega] at h8
      exact h8
  have hcnt : F_hcount N h' = some (nI (c0 - 1)) := by
    obtain ⟨m0, d0, e1, e2, e3, e4, e5, e6⟩ := z2
    unfold F_hcount
    rw [e4, ← e5]
  have hP : P_undo N (inp, se, dr, rdr, b, c, hi, ck) = some (0, nI (c0 - 1), (inp, se, dr, rdr, x, c, h', ck)) := by
    unfold P_undo
    unfold F_hcount at hcnt ⊢
    dsimp only
    rw [h4, Option.bind_some, if_neg (fun hh => h0 ((nI_eq (by omega) (by omega)).mp (hh.trans nI_0.symm))), z1, Option.bind_some]
    dsimp only
    rw [hcnt]; rfl
  have hG : F_M_undo N (th, ch, ik, len, pa_, tok, err, hti, see, rk, bl, fx, rdd, le, ler, so, sor, wh, whr, now, kept, past, buf) = some (nI (c0 - 1), ((0 : Int32), nI (c0 - 1), ik, len, pa_, tok, err, hti, see, rk, bl, fx, rdd, le, ler, so, sor, wh, whr, g', kept, past, buf)) := by
    unfold F_M_undo
    dsimp only
    unfold f_X11_undo
    rw [h5, if_neg (fun hh => h0 ((nI_eq (by omega) (by omega)).mp (hh.trans nI_0.symm))), show nI c0 - (1 : Int32) = nI (c0 - 1) from nI_subI (a := c0) (b := 1) (by omega), show f_X11_undo_b30 72470 579760 0 (nI (c0 - 1)) past N 0 now = _ from y1]; rfl
  have hW : W_undo N (inp, se, dr, rdr, b, c, hi, ck) f = some (0, (inp, se, dr, rdr, x, c, h', ck), vp_updL f 0 (nI (c0 - 1)).toInt64) := by
    unfold W_undo
    rw [hP]; rfl
  have hRel : RlC v (k + 1) inp se x c h' ck (nI (c0 - 1)) ik len fx le so wh g' kept past buf := ⟨hV, hM, hS, hNM, hIN, BRL_mono hBx (Nat.le_succ k), hK', HIS_mono z2 (Nat.le_succ k)⟩
  exact fin_ok (k := k) (s' := (inp, se, dr, rdr, x, c, h', ck)) (m' := ((0 : Int32), nI (c0 - 1), ik, len, pa_, tok, err, hti, see, rk, bl, fx, rdd, le, ler, so, sor, wh, whr, g', kept, past, buf)) (f := f) (p := nI (c0 - 1)) hW hG rfl ⟨v, hRel⟩

theorem T_save {N : Nat} (hN : 600000 < N) : StB RlW (fun s => P_save N s) (fun m => F_M_save N m) := by
  intro k s m hk HR
  obtain ⟨inp, se, dr, rdr, b, c, hi, ck⟩ := s
  obtain ⟨th, ch, ik, len, pa_, tok, err, hti, see, rk, bl, fx, rdd, le, ler, so, sor, wh, whr, now, kept, past, buf⟩ := m
  obtain ⟨v, R⟩ := HR
  have R : RlC v k inp se b c hi ck ch ik len fx le so wh now kept past buf := R
  have HR0 : RlW k (inp, se, dr, rdr, b, c, hi, ck) (th, ch, ik, len, pa_, tok, err, hti, see, rk, bl, fx, rdd, le, ler, so, sor, wh, whr, now, kept, past, buf) := ⟨v, R⟩
  obtain ⟨hV, hM, hS, hNM, hIN, hB, hK, hH⟩ := R
  have hv3 := hV.1.2.2.2.2.1
  have hv4 := hV.1.2.2.2.2.2
  have hv1 := hV.1.2.2.1
  have hSs : SC v (inp, se, dr, rdr, b, c, hi, ck).2.1 := hS
  have hK' : (ck = 0 ∧ ik = 0) ∨ (ck = 1 ∧ ik = 1 ∧ BRL v (k + 1) c kept) := hK.imp id (fun x => ⟨x.1, x.2.1, BRL_mono x.2.2 (Nat.le_succ k)⟩)
  obtain ⟨x, x1, x2, x3⟩ := B_copy (s0 := c) hV hB N
  obtain ⟨d, d1, d2⟩ := BRL_day hB
  obtain ⟨g', y1, y2⟩ := M_save_copy (g0 := now) 0 N 0 kept (by omega) (by omega) (fun j hj => by omega)
  have hBx : BRL v (k + 1) x g' := BRL_mono (BRL_congr hV x2 y2) (Nat.le_succ k)
  have hRel : RlC v (k + 1) inp se b x hi 1 ch 1 len fx le so wh now g' past buf := ⟨hV, hM, hS, hNM, hIN, BRL_mono hB (Nat.le_succ k), Or.inr ⟨rfl, rfl, hBx⟩, HIS_mono hH (Nat.le_succ k)⟩
  have hP : P_save N (inp, se, dr, rdr, b, c, hi, ck) = some (nI d, (inp, se, dr, rdr, b, x, hi, (1 : Int32))) := by
    unfold P_save
    dsimp only
    rw [x1, Option.bind_some]
    unfold F_B_day f_X0_day
    rw [d1]; rfl
  have hG : F_M_save N (th, ch, ik, len, pa_, tok, err, hti, see, rk, bl, fx, rdd, le, ler, so, sor, wh, whr, now, kept, past, buf) = some (nI d, ((0 : Int32), ch, (1 : Int32), len, pa_, tok, err, hti, see, rk, bl, fx, rdd, le, ler, so, sor, wh, whr, now, g', past, buf)) := by
    unfold F_M_save
    dsimp only
    unfold f_X11_save
    rw [show f_X11_save_b7 72470 72470 0 now N 0 kept = _ from y1, d2]; rfl
  exact ⟨(nI d, (inp, se, dr, rdr, b, x, hi, (1 : Int32))), (nI d, ((0 : Int32), ch, (1 : Int32), len, pa_, tok, err, hti, see, rk, bl, fx, rdd, le, ler, so, sor, wh, whr, now, g', past, buf)), hP, hG, rfl, ⟨v, hRel⟩⟩

theorem T_restore {N : Nat} (hN : 600000 < N) : StA RlW (fun s f => W_restore N s f) (fun m => F_M_restore N m) := by
  intro k s m f hk HR
  obtain ⟨inp, se, dr, rdr, b, c, hi, ck⟩ := s
  obtain ⟨th, ch, ik, len, pa_, tok, err, hti, see, rk, bl, fx, rdd, le, ler, so, sor, wh, whr, now, kept, past, buf⟩ := m
  obtain ⟨v, R⟩ := HR
  have R : RlC v k inp se b c hi ck ch ik len fx le so wh now kept past buf := R
  have HR0 : RlW k (inp, se, dr, rdr, b, c, hi, ck) (th, ch, ik, len, pa_, tok, err, hti, see, rk, bl, fx, rdd, le, ler, so, sor, wh, whr, now, kept, past, buf) := ⟨v, R⟩
  obtain ⟨hV, hM, hS, hNM, hIN, hB, hK, hH⟩ := R
  have hv3 := hV.1.2.2.2.2.1
  have hv4 := hV.1.2.2.2.2.2
  have hv1 := hV.1.2.2.1
  have hSs : SC v (inp, se, dr, rdr, b, c, hi, ck).2.1 := hS
  have hK' : (ck = 0 ∧ ik = 0) ∨ (ck = 1 ∧ ik = 1 ∧ BRL v (k + 1) c kept) := hK.imp id (fun x => ⟨x.1, x.2.1, BRL_mono x.2.2 (Nat.le_succ k)⟩)
  by_cases h0 : ck = 0
  · have hP : P_restore N (inp, se, dr, rdr, b, c, hi, ck) = some (1, 0, (inp, se, dr, rdr, b, c, hi, ck)) := by
      unfold P_restore
      rw [if_pos h0]
    have hG : F_M_restore N (th, ch, ik, len, pa_, tok, err, hti, see, rk, bl, fx, rdd, le, ler, so, sor, wh, whr, now, kept, past, buf) = some (0, ((1 : Int32), ch, ik, len, pa_, tok, err, hti, see, rk, bl, fx, rdd, le, ler, so, sor, wh, whr, now, kept, past, buf)) := by
      unfold F_M_restore
      dsimp only
      unfold f_X11_restore
      have hik : ik = 0 := hK.elim (fun e => e.2) (fun e => absurd (e.1.symm.trans h0) (by decide))
      rw [if_pos hik]; rfl
    exact fin_no (c := 1) (by dsimp only; unfold W_restore; rw [hP]; rfl) (by decide) hG rfl (RlW_thrown HR0 1)
  obtain ⟨k1, k2, k3⟩ : ck = 1 ∧ ik = 1 ∧ BRL v k c kept := hK.elim (fun e => absurd e.1 h0) id
  obtain ⟨x, x1, x2, x3⟩ := B_copy (s0 := b) hV k3 N
  obtain ⟨d, d1, d2⟩ := BRL_day k3
  obtain ⟨g', y1, y2⟩ := M_rest_copy (g0 := kept) 0 N 0 now (by omega) (by omega) (fun j hj => by omega)
  have hBx : BRL v (k + 1) x g' := BRL_mono (BRL_congr hV x2 y2) (Nat.le_succ k)
  have hHf : HIS v (k + 1) (hi.1, 0, hi.2.2) 0 past := by
    obtain ⟨n0, c0, e1, e2, e3, e4, e5, e6⟩ := hH
    exact ⟨n0, 0, e1, by omega, e3, rfl, rfl, fun j hj => by omega⟩
  have hP : P_restore N (inp, se, dr, rdr, b, c, hi, ck) = some (0, nI d, (inp, se, dr, rdr, x, c, (hi.1, (0 : Int32), hi.2.2), ck)) := by
    unfold P_restore
    rw [if_neg h0]
    dsimp only
    rw [x1, Option.bind_some]
    unfold F_forget F_B_day f_X0_day
    rw [Option.bind_some, x3, d1]; rfl
  have hG : F_M_restore N (th, ch, ik, len, pa_, tok, err, hti, see, rk, bl, fx, rdd, le, ler, so, sor, wh, whr, now, kept, past, buf) = some (nI d, ((0 : Int32), (0 : Int32), ik, len, pa_, tok, err, hti, see, rk, bl, fx, rdd, le, ler, so, sor, wh, whr, g', kept, past, buf)) := by
    unfold F_M_restore
    dsimp only
    unfold f_X11_restore
    rw [if_neg (by rw [k2]; decide), show f_X11_restore_b20 72470 72470 0 kept N 0 now = _ from y1, d2]; rfl
  have hW : W_restore N (inp, se, dr, rdr, b, c, hi, ck) f = some (0, (inp, se, dr, rdr, x, c, (hi.1, (0 : Int32), hi.2.2), ck), vp_updL f 0 (nI d).toInt64) := by
    unfold W_restore
    rw [hP]; rfl
  have hRel : RlC v (k + 1) inp se x c (hi.1, (0 : Int32), hi.2.2) ck 0 ik len fx le so wh g' kept past buf := ⟨hV, hM, hS, hNM, hIN, hBx, hK', hHf⟩
  exact fin_ok (k := k) (s' := (inp, se, dr, rdr, x, c, (hi.1, (0 : Int32), hi.2.2), ck)) (m' := ((0 : Int32), (0 : Int32), ik, len, pa_, tok, err, hti, see, rk, bl, fx, rdd, le, ler, so, sor, wh, whr, g', kept, past, buf)) (f := f) (p := nI d) hW hG rfl ⟨v, hRel⟩

