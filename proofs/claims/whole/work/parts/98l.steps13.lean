theorem T_find {N : Nat} (hN : 600000 < N) : StA RlW (fun s f => W_find N s f) (fun m => F_M_find N m) := by
  intro k s m f hk HR
  obtain ⟨inp, se, dr, rdr, b, c, hi, ck⟩ := s
  obtain ⟨th, ch, ik, len, pa_, tok, err, hti, see, rk, bl, fx, rdd, le, ler, so, sor, wh, whr, now, kept, past, buf⟩ := m
  obtain ⟨v, R⟩ := HR
  have R : RlC v k inp se b c hi ck ch ik len fx le so wh now kept past buf := R
  have HR0 : RlW k (inp, se, dr, rdr, b, c, hi, ck) (th, ch, ik, len, pa_, tok, err, hti, see, rk, bl, fx, rdd, le, ler, so, sor, wh, whr, now, kept, past, buf) := ⟨v, R⟩
  obtain ⟨hV, hM, hS, hNM, hIN, hB, hK, hH⟩ := R
  have hv3 := hV.1.2.2.2.2.1
  have hv4 := hV.1.2.2.2.2.2
  have hv1 := hV.1.2.2.1
  have hSs : SC v (inp, se, dr, rdr, b, c, hi, ck).2.1 := hS
  have hK' : (ck = 0 ∧ ik = 0) ∨ (ck = 1 ∧ ik = 1 ∧ BRL v (k + 1) c kept) := hK.imp id (fun x => ⟨x.1, x.2.1, BRL_mono x.2.2 (Nat.le_succ k)⟩)
  obtain ⟨il, ib⟩ := inp
  obtain ⟨l, l1, l2, l3, l4⟩ := hIN
  have l2 : il = nI l := l2
  subst l2 l3
  have hNM0 := hNM
  obtain ⟨R, S, W, n1, n2, n3, n4⟩ := hNM0
  have hbt : ∀ i, i < l → ib i = nI (ib i).toNatClampNeg ∧ 1 ≤ (ib i).toNatClampNeg ∧ (ib i).toNatClampNeg ≤ 255 ∧ buf i = vp_nar .byte (nI (ib i).toNatClampNeg) := by
    intro i hi
    obtain ⟨b, b1, b2, b3, b4⟩ := l4 i hi
    have b3 : ib i = nI b := b3
    rw [b3, nI_clamp (by omega)]
    exact ⟨rfl, b1, b2, b4⟩
  have hnc := C_nameCode (bt := fun i => (ib i).toNatClampNeg) (s := 0) (len := l) (l := l) (g := ib) l1 (by omega) (fun i hi => ⟨(hbt i hi).1, (hbt i hi).2.1, (hbt i hi).2.2.1⟩) (N := N) (by omega)
  rw [Nat.zero_add, nI_0] at hnc
  obtain ⟨ρ, hρ1, hρ2⟩ := M_rowOf (n := v 70) (s := 0) (len := l) (le := le) (buf := buf) (by omega) (by omega) (N := N) (by omega)
  rw [nI_0] at hρ1
  have hrow : ∀ r, r < v 70 → (isRow le buf 0 l r ↔ isW (fun i => (ib i).toNatClampNeg) 0 l ∧ ∀ i, i < 6 → R r i = wdN (fun i => (ib i).toNatClampNeg) 0 l i) := fun r hr => isRow_wd (n2 r hr).1 (n2 r hr).2.1 (fun i hi => by
    have := hbt i hi
    rw [Nat.zero_add]
    exact ⟨this.2.1, this.2.2.1, this.2.2.2⟩)
  -- the code's place in the class
  obtain ⟨co, hco, hcod⟩ : ∃ co : Int32, f_X3_nameCode N 0 (nI l) 600 (nI l) ib = some co ∧ ((isW (fun i => (ib i).toNatClampNeg) 0 l ∧ co = nI (lcode (wdN (fun i => (ib i).toNatClampNeg) 0 l))) ∨ (¬ isW (fun i => (ib i).toNatClampNeg) 0 l ∧ co = 0)) := by
    by_cases h : isW (fun i => (ib i).toNatClampNeg) 0 l
    · exact ⟨_, hnc.1 h, Or.inl ⟨h, rfl⟩⟩
    · exact ⟨_, hnc.2 h, Or.inr ⟨h, rfl⟩⟩
  obtain ⟨σ, hσ1, hσ2⟩ := C_numberOf (t := 3) (n := v 3) (c := co) (cs := se.2.2.2.1) (nm := se.2.2.2.2.1) (by omega) hv3 (hS.2.1 3 (by omega)) (N := N) (by omega)
  have g70 : ¬ ((70 : Int32) < 0 ∨ 71 ≤ (70 : Int32).toNatClampNeg) := by decide
  -- a member found in the class has its row
  have hfound : ∀ i, i < v 3 → ¬ co = 0 → se.2.2.2.2.1 (12 * 3 + i) = co → ∃ r, r < v 70 ∧ S r = 3 ∧ W r = i ∧ isRow le buf 0 l r := by
    intro i hi h1 h2
    cases hcod with
    | inr h => exact absurd h.2 h1
    | inl h =>
      obtain ⟨r, r1, r2, r3⟩ := n4 i hi
      obtain ⟨m1, m2, _, _, _, _, m7⟩ := n2 r r1
      rw [r2, r3, h2, h.2] at m7
      have hw := isW_wd h.1
      have b1 := lcode_bd m1
      have b2 := lcode_bd hw
      have h5 := (nI_eq (by omega) (by omega)).mp m7
      exact ⟨r, r1, r2, r3, (hrow r r1).mpr ⟨h.1, lcode_inj m1 hw h5.symm⟩⟩
  -- rows that are the word are one
  have hone : ∀ r r', r < v 70 → r' < v 70 → isRow le buf 0 l r → isRow le buf 0 l r' → r = r' := by
    intro r r' h1 h2 h3 h4
    have h5 := ((hrow r h1).mp h3).2
    have h6 := ((hrow r' h2).mp h4).2
    have h7 : lcode (R r) = lcode (R r') := lcode_eq (fun j hj => by rw [h5 j hj, h6 j hj])
    by_cases e1 : r < r'
    · exact absurd h7 (n3 _ _ e1 h2)
    · by_cases e2 : r' < r
      · exact absurd h7.symm (n3 _ _ e2 h1)
      · omega
  have hPc : ∀ σ', f_X7_numberOf N 3 co 8 96 se.2.2.2.1 se.2.2.2.2.1 = some σ' → P_find N ((nI l, ib), se, dr, rdr, b, c, hi, ck) = if σ' = (-1 : Int32) then some (3, 0, ((nI l, ib), se, dr, rdr, b, c, hi, ck)) else some (0, σ', ((nI l, ib), se, dr, rdr, b, c, hi, ck)) := by
    intro σ' h
    unfold P_find F_I_nameCode F_S_numberOf
    dsimp only
    rw [show F_I_length N (nI l, ib) = some (nI l) from rfl, Option.bind_some, hco, Option.bind_some, Option.bind_some, h]; rfl
  have hMo : ∀ q, f_X11_find N 71 192 32 32 600 (nI l) fx le so wh buf = some q → F_M_find N (th, ch, ik, nI l, pa_, tok, err, hti, see, rk, bl, fx, rdd, le, ler, so, sor, wh, whr, now, kept, past, buf) = some (q.1, (q.2, ch, ik, nI l, pa_, tok, err, hti, see, rk, bl, fx, rdd, le, ler, so, sor, wh, whr, now, kept, past, buf)) := by
    intro q h
    unfold F_M_find
    dsimp only
    rw [h]; rfl
  have hMf : f_X11_find N 71 192 32 32 600 (nI l) fx le so wh buf = (if ρ = (-1 : Int32) then some (0, 1) else if ρ < 0 ∨ 32 ≤ ρ.toNatClampNeg then none else if so ρ.toNatClampNeg = 3 then (if ρ < 0 ∨ 32 ≤ ρ.toNatClampNeg then none else some (wh ρ.toNatClampNeg, 0)) else some (0, 1)) := by
    unfold f_X11_find
    rw [if_neg g70, show (70 : Int32).toNatClampNeg = 70 from rfl, hM 70 (by omega), hρ1]; rfl
  have hno : σ = -1 → (ρ = -1 ∨ ∃ r, r < v 70 ∧ ρ = nI r ∧ ¬ S r = 3) → ∃ o o2, W_find N ((nI l, ib), se, dr, rdr, b, c, hi, ck) f = some o ∧ F_M_find N (th, ch, ik, nI l, pa_, tok, err, hti, see, rk, bl, fx, rdd, le, ler, so, sor, wh, whr, now, kept, past, buf) = some o2 ∧ o2.2.1 = o.1 ∧ (o.1 = 0 → o.2.2 0 = o2.1.toInt64) ∧ RlW (k + 1) o.2.1 o2.2 := by
    intro h1 h2
    have hP : P_find N ((nI l, ib), se, dr, rdr, b, c, hi, ck) = some (3, 0, ((nI l, ib), se, dr, rdr, b, c, hi, ck)) := by rw [hPc σ hσ1, if_pos h1]
    have hG : F_M_find N (th, ch, ik, nI l, pa_, tok, err, hti, see, rk, bl, fx, rdd, le, ler, so, sor, wh, whr, now, kept, past, buf) = some (0, ((1 : Int32), ch, ik, nI l, pa_, tok, err, hti, see, rk, bl, fx, rdd, le, ler, so, sor, wh, whr, now, kept, past, buf)) := by
      refine hMo (0, 1) ?_
      rw [hMf]
      cases h2 with
      | inl h => rw [if_pos h]
      | inr h =>
        obtain ⟨r, r1, r2, r3⟩ := h
        have gr := grd (i := r) (n := 32) (by omega) (by decide)
        obtain ⟨_, _, m3, _, m5, _, _⟩ := n2 r r1
        have hne : ¬ nI r = (-1 : Int32) := by
          intro hh
          have h5 := nI_pos (n := r) (by omega)
          rw [hh] at h5
          exact h5 (by decide)
        rw [r2, if_neg hne, if_neg gr, nI_clamp (by omega), m3, if_neg (show ¬ nI (S r) = (3 : Int32) from fun hh => r3 ((nI_eq (b := 3) (by omega) (by decide)).mp hh))]
    exact fin_no (c := 1) (by unfold W_find; rw [hP]; rfl) (by decide) hG rfl (RlW_thrown HR0 1)
  cases hρ2 with
  | inl h =>
    refine hno ?_ (Or.inl h.1)
    cases hσ2 with
    | inl h2 => exact h2.1
    | inr h2 =>
      obtain ⟨i, i1, i2, i3, i4⟩ := h2
      obtain ⟨r, r1, r2, r3, r4⟩ := hfound i i1 i3 i4
      exact absurd r4 (h.2 r r1)
  | inr h =>
    obtain ⟨r, r1, r2, r3, _⟩ := h
    obtain ⟨m1, m2, m3, m4, m5, m6, m7⟩ := n2 r r1
    by_cases h3 : S r = 3
    · have hw := (hrow r r1).mp r3
      have hcc : co = nI (lcode (R r)) := by
        cases hcod with
        | inl h => rw [h.2, lcode_eq hw.2]
        | inr h => exact absurd hw.1 h.1
      have hc0 : ¬ co = 0 := by
        rw [hcc]
        intro hh
        have b1 := lcode_bd m1
        have b2 := lcode_pos m1
        have := (nI_eqz (by omega)).mp hh
        omega
      rw [h3] at m6 m7
      cases hσ2 with
      | inl h2 => exact absurd ⟨hc0, by rw [m7, hcc]⟩ (h2.2 (W r) m6)
      | inr h2 =>
        obtain ⟨i, i1, i2, i3, i4⟩ := h2
        obtain ⟨r', q1, q2, q3, q4⟩ := hfound i i1 i3 i4
        have hrr := hone r r' r1 q1 r3 q4
        subst hrr
        have gr := grd (i := r) (n := 32) (by omega) (by decide)
        have hne : ∀ j, j < 100 → ¬ nI j = (-1 : Int32) := by
          intro j hj hh
          have h5 := nI_pos (n := j) (by omega)
          rw [hh] at h5
          exact h5 (by decide)
        have hP : P_find N ((nI l, ib), se, dr, rdr, b, c, hi, ck) = some (0, nI i, ((nI l, ib), se, dr, rdr, b, c, hi, ck)) := by rw [hPc σ hσ1, i2, if_neg (hne i (by omega))]
        have hG : F_M_find N (th, ch, ik, nI l, pa_, tok, err, hti, see, rk, bl, fx, rdd, le, ler, so, sor, wh, whr, now, kept, past, buf) = some (nI i, ((0 : Int32), ch, ik, nI l, pa_, tok, err, hti, see, rk, bl, fx, rdd, le, ler, so, sor, wh, whr, now, kept, past, buf)) := by
          refine hMo (nI i, 0) ?_
          rw [hMf, r2, if_neg (hne r (by omega)), if_neg gr]
          rw [nI_clamp (by omega)] at gr
          rw [nI_clamp (by omega), m3, if_pos (by rw [h3]; rfl), if_neg gr, m4, q3]
        have hW : W_find N ((nI l, ib), se, dr, rdr, b, c, hi, ck) f = some (0, ((nI l, ib), se, dr, rdr, b, c, hi, ck), vp_updL f 0 (nI i).toInt64) := by
          unfold W_find
          rw [hP]; rfl
        exact fin_ok (k := k) (s' := ((nI l, ib), se, dr, rdr, b, c, hi, ck)) (m' := ((0 : Int32), ch, ik, nI l, pa_, tok, err, hti, see, rk, bl, fx, rdd, le, ler, so, sor, wh, whr, now, kept, past, buf)) (f := f) (p := nI i) hW hG rfl (RlW_thrown HR0 0)
    · refine hno ?_ (Or.inr ⟨r, r1, r2, h3⟩)
      cases hσ2 with
      | inl h2 => exact h2.1
      | inr h2 =>
        obtain ⟨i, i1, i2, i3, i4⟩ := h2
        obtain ⟨r', q1, q2, q3, q4⟩ := hfound i i1 i3 i4
        have hrr := hone r r' r1 q1 r3 q4
        subst hrr
        exact absurd q2 h3
