/-- a tier some days on, in both forms -/
theorem tierAfter_both {v : Nat → Nat} {d c0 m D : Nat} {dy : Nat → Nat} {cs th pr fx g : Nat → Int32} (hV : SV v) (hM : SM v fx) (h0 : cs 0 = nI (v 0)) (ht : ∀ t, t < v 0 → th t = nI (v (8 + t))) (hc : c0 ≤ 512) (hdy : ∀ i, i < c0 → pr (7 * i + 5) = nI (dy i) ∧ dy i ≤ d) (hmono : ∀ i j, i ≤ j → j < c0 → dy i ≤ dy j) (hd : d ≤ 9999) (hg : g 0 = nI d) (hB : BaM (v 3) d (bD pr dy c0) g) (hm3 : m < v 3) (hD : D ≤ 2000) (t : Int32) {N : Nat} (hN : 3000 < N) : ∀ (n j a : Nat) (st si : Int32), j ≤ D → D < n + j → a ≤ c0 → (∀ i, i < a → dy i + v 6 ≤ d + j) → (∀ i, a ≤ i → i < c0 → d + j < dy i + v 6) → ∃ R : Int32 × Int32, f_X0_futureTier_b46 N (nI m) (nI D) 8 5 3584 (nI d) (nI (v 6)) (nI (v 7)) cs th (nI c0) pr n (qT pr dy c0 (v 6) m (d + j)) (nI a) (nI (d + 1 + j)) st si = some (R.1, R.1, R.2) ∧ f_X11_tierAfter_b72 N (nI m) (nI D) 71 72470 t fx g n (qT pr dy c0 (v 6) m (d + j)) (nI (d + 1 + j)) st si = some (R.1, t, R.1, R.2) := by
  have hv3 := hV.1.2.2.2.2.1
  have hv6 := hV.2.1.2.2.2.1
  intro n
  induction n with
  | zero => intro j a st si h1 h2; omega
  | succ n ih =>
    intro j a st si h1 h2 ha hb1 hb2
    rw [f_X0_futureTier_b46, f_X11_tierAfter_b72, M_today, Option.bind_some, hg, nI_add]
    by_cases h : j = D
    · rw [if_pos ((nI_ltI (by omega) (by omega)).mpr (by omega)), if_pos ((nI_ltI (by omega) (by omega)).mpr (by omega))]
      unfold f_X9_presentTier
      rw [Option.bind_some]
      exact ⟨(st, si), rfl, rfl⟩
    · obtain ⟨r, f1, f2, f3, f4, f5⟩ := C_firstAfter (dy := dy) hc (fun i hi => ⟨(hdy i hi).1, by have := (hdy i hi).2; omega⟩) (t := d + 1 + j) (win := v 6) (by omega) (by omega) ha (N := N) (by omega)
      have hr1 : ∀ i, i < r → dy i + v 6 ≤ d + (j + 1) := fun i hi => by
        by_cases h : i < a
        · have := hb1 i h; omega
        · have := f4 i (by omega) hi; omega
      have hr2 : ∀ i, r ≤ i → i < c0 → d + (j + 1) < dy i + v 6 := fun i h1 h2 => by
        have h3 := f5 (by omega)
        have h4 := hmono r i h1 h2
        omega
      have hsub : qT pr dy c0 (v 6) m (d + j) - sumR (bW pr m) a (r - a) = qT pr dy c0 (v 6) m (d + (j + 1)) := by
        rw [qT_place ha hb1 hb2, qT_place f3 hr1 hr2]
        have hsp := sumR_split (f := bW pr m) (n := r - a) (k := c0 - r) (a := a)
        rw [show r - a + (c0 - r) = c0 - a by omega, show a + (r - a) = r by omega] at hsp
        rw [hsp, Int32.add_comm (sumR (bW pr m) a (r - a)), add_subI]
      have hbo := M_baseOn (m := m) (s := d + 1 + j) (win := v 6) hB hg hd hm3 hv3 (by omega) (by omega)
      have hq2 : qT pr dy c0 (v 6) m (d + j) - bS (bD pr dy c0) (v 6) d m (d + 1 + j) = qT pr dy c0 (v 6) m (d + (j + 1)) := by
        have h3 := qT_succ (pr := pr) (dy := dy) (c := c0) (win := v 6) (d := d) (m := m) (t := d + j) (fun i hi => (hdy i hi).2) hv6 (by omega)
        rw [show d + j + 1 = d + 1 + j by omega] at h3
        rw [h3, show d + 1 + j = d + (j + 1) by omega]
      rw [if_neg (fun hh => by have := (nI_ltI (by omega) (by omega)).mp hh; omega), if_neg (fun hh => by have := (nI_ltI (by omega) (by omega)).mp hh; omega), if_neg (by decide), show (6 : Int32).toNatClampNeg = 6 from rfl, hM 6 (by omega), hbo, Option.bind_some, Option.bind_some, hq2, M_tierBy _ hV hM (by omega), Option.bind_some, M_checks, Option.bind_some, hM 7 (by omega), nI_1, Option.bind_some]
      unfold f_X7_window f_X7_grace
      rw [Option.bind_some, f1, Option.bind_some, C_bases (by omega) f2 (by omega), Option.bind_some, Option.bind_some, hsub, C_tierFor _ h0 hV.1.1 hV.1.2.1 ht (by omega), Option.bind_some, Option.bind_some, C_check, Option.bind_some, Option.bind_some]
      rw [show d + 1 + j + 1 = d + 1 + (j + 1) by omega]
      exact ih (j + 1) r _ _ (by omega) (by omega) f3 hr1 hr2

theorem T_tierAfter {N : Nat} (hN : 600000 < N) (x1 : Int32) (x2 : Int32) : StA RlW (fun s f => W_tierAfter N s f x1 x2) (fun m => F_M_tierAfter N m x1 x2) := by
  intro k s m f hk HR
  obtain ⟨inp, se, dr, rdr, b, c, hi, ck⟩ := s
  obtain ⟨th, ch, ik, len, pa_, tok, err, hti, see, rk, bl, fx, rdd, le, ler, so, sor, wh, whr, now, kept, past, buf⟩ := m
  obtain ⟨v, R⟩ := HR
  have R : RlC v k inp se b c hi ck ch ik len fx le so wh now kept past buf := R
  have HR0 : RlW k (inp, se, dr, rdr, b, c, hi, ck) (th, ch, ik, len, pa_, tok, err, hti, see, rk, bl, fx, rdd, le, ler, so, sor, wh, whr, now, kept, past, buf) := ⟨v, R⟩
  obtain ⟨hV, hM, hS, hNM, hIN, hB, hK, hH⟩ := R
  have hv3 := hV.1.2.2.2.2.1
  have hv4 := hV.1.2.2.2.2.2
  have hv1 := hV.1.2.2.1
  have hSs : SC v (inp, se, dr, rdr, b, c, hi, ck).2.1 := hS
  have hK' : (ck = 0 ∧ ik = 0) ∨ (ck = 1 ∧ ik = 1 ∧ BRL v (k + 1) c kept) := hK.imp id (fun x => ⟨x.1, x.2.1, BRL_mono x.2.2 (Nat.le_succ k)⟩)
  obtain ⟨d, E, Lg, c0, dy, db, rd, ⟨a1, a2⟩, ⟨a3, a4, a5⟩, ⟨H1, H2, H3⟩, ⟨HL, HLm⟩, H4, H5, H6, H7⟩ := hB.1
  by_cases h1 : outN x1 (v 3)
  · have hP : P_tierAfter N (inp, se, dr, rdr, b, c, hi, ck) x1 x2 = some (4, 0, (inp, se, dr, rdr, b, c, hi, ck)) := by
      unfold P_tierAfter
      rw [mem_out hSs h1 N]; rfl
    have hG : F_M_tierAfter N (th, ch, ik, len, pa_, tok, err, hti, see, rk, bl, fx, rdd, le, ler, so, sor, wh, whr, now, kept, past, buf) x1 x2 = some (0, ((1 : Int32), ch, ik, len, pa_, tok, err, hti, see, rk, bl, fx, rdd, le, ler, so, sor, wh, whr, now, kept, past, buf)) := by
      unfold F_M_tierAfter
      dsimp only
      unfold f_X11_tierAfter
      rw [M_lacksMember x1 (n := v 3) (by omega) (hM 3 (by omega)), if_pos h1]; rfl
    exact fin_no (c := 1) (by dsimp only; unfold W_tierAfter; rw [hP]; rfl) (by decide) hG rfl (RlW_thrown HR0 1)
  by_cases h2 : outR x2 0 2000
  · have hP : P_tierAfter N (inp, se, dr, rdr, b, c, hi, ck) x1 x2 = some (2, 0, (inp, se, dr, rdr, b, c, hi, ck)) := by
      unfold P_tierAfter
      rw [mem_in hSs h1 N, Option.bind_some, if_pos rfl, btw_out h2]; rfl
    have hG : F_M_tierAfter N (th, ch, ik, len, pa_, tok, err, hti, see, rk, bl, fx, rdd, le, ler, so, sor, wh, whr, now, kept, past, buf) x1 x2 = some (0, ((2 : Int32), ch, ik, len, pa_, tok, err, hti, see, rk, bl, fx, rdd, le, ler, so, sor, wh, whr, now, kept, past, buf)) := by
      unfold F_M_tierAfter
      dsimp only
      unfold f_X11_tierAfter
      rw [M_lacksMember x1 (n := v 3) (by omega) (hM 3 (by omega)), if_neg h1, Option.bind_some, if_pos rfl, show (0 : Int64) = (0 : Int32).toInt64 from rfl, show (2000 : Int64) = (2000 : Int32).toInt64 from rfl, isIn_out h2]; rfl
    exact fin_no (c := 2) (by dsimp only; unfold W_tierAfter; rw [hP]; rfl) (by decide) hG rfl (RlW_thrown HR0 2)
  have h1' := h1
  have h2' := h2
  obtain ⟨m, hm3, rfl⟩ := outN_not (by omega) h1
  have hm12 : m < 12 := by omega
  obtain ⟨D, _, hD, rfl⟩ := outR_not (a := 0) (b := 2000) (by decide) h2 (by decide)
  obtain ⟨a, w1, w2, w3, w4⟩ := H5.1
  have hq0 : b.2.2.2.2.2.2.2.2.2.2.2.2.2.2.2.2.1 m = qT b.2.2.2.2.2.2.2.2.1 dy c0 (v 6) m d := H5.2.1 m hm3
  have hsu : f_X11_sumUpTo N (nI m) (nI d) 71 72470 fx now = some (qT b.2.2.2.2.2.2.2.2.1 dy c0 (v 6) m d) := by
    rw [M_sumUpTo H5.2.2 a4 a5 hm3 hv3 hV.2.1.2.2.2.1 (hM 6 (by omega)) (by omega), qT_now (fun i hi => (H4.2.2.2.2.1 i hi).2.1.2) hV.2.1.2.2.2.1]
  obtain ⟨R, y1, y2⟩ := tierAfter_both (D := D) hV hM (hS.2.1 0 (by omega)) (fun t h => (hS.2.2.1 t h).1) H4.2.1 (fun i hi => (H4.2.2.2.2.1 i hi).2.1) H4.2.2.2.2.2 a5 a4 H5.2.2 hm3 hD 0 (N := N) (by omega) N 0 a (now (42 + m)) (now (54 + m)) (Nat.zero_le _) (by omega) w2 w3 w4
  have hft : F_B_futureTier N se b (nI m) (nI D) = some (R.1, (b.1, b.2.1, b.2.2.1, b.2.2.2.1, b.2.2.2.2.1, b.2.2.2.2.2.1, b.2.2.2.2.2.2.1, b.2.2.2.2.2.2.2.1, b.2.2.2.2.2.2.2.2.1, b.2.2.2.2.2.2.2.2.2.1, b.2.2.2.2.2.2.2.2.2.2.1, b.2.2.2.2.2.2.2.2.2.2.2.1, b.2.2.2.2.2.2.2.2.2.2.2.2.1, b.2.2.2.2.2.2.2.2.2.2.2.2.2.1, b.2.2.2.2.2.2.2.2.2.2.2.2.2.2.1, b.2.2.2.2.2.2.2.2.2.2.2.2.2.2.2.1, b.2.2.2.2.2.2.2.2.2.2.2.2.2.2.2.2.1, b.2.2.2.2.2.2.2.2.2.2.2.2.2.2.2.2.2.1, b.2.2.2.2.2.2.2.2.2.2.2.2.2.2.2.2.2.2.1, b.2.2.2.2.2.2.2.2.2.2.2.2.2.2.2.2.2.2.2.1, b.2.2.2.2.2.2.2.2.2.2.2.2.2.2.2.2.2.2.2.2.1, b.2.2.2.2.2.2.2.2.2.2.2.2.2.2.2.2.2.2.2.2.2.1, R.1, R.2)) := by
    unfold F_B_futureTier f_X0_futureTier f_X9_start
    rw [X6_at_in _ h12 hm12, Option.bind_some, X6_at_in _ h12 hm12, Option.bind_some, Option.bind_some, X6_at_in _ h12 hm12, Option.bind_some, (H6.1 m hm12).1, (H6.1 m hm12).2.1, hq0, a3, w1, H4.1, hS.1.2.1, hS.1.2.2, nI_1, Option.bind_some]
    dsimp only
    rw [show f_X0_futureTier_b46 N (nI m) (nI D) 8 5 3584 (nI d) (nI (v 6)) (nI (v 7)) se.2.2.2.1 se.2.2.2.2.2.1 (nI c0) b.2.2.2.2.2.2.2.2.1 N (qT b.2.2.2.2.2.2.2.2.1 dy c0 (v 6) m d) (nI a) (nI (d + 1)) (now (42 + m)) (now (54 + m)) = _ from y1]
    rfl
  have e1 : (42 : Int32) + nI m = nI (42 + m) := nI_add 42 m
  have e2 : (54 : Int32) + nI m = nI (54 + m) := nI_add 54 m
  have g1 := grd (i := 42 + m) (n := 72470) (by omega) (by decide)
  have g2 := grd (i := 54 + m) (n := 72470) (by omega) (by decide)
  have hP : P_tierAfter N (inp, se, dr, rdr, b, c, hi, ck) (nI m) (nI D) = some (0, R.1, (inp, se, dr, rdr, (b.1, b.2.1, b.2.2.1, b.2.2.2.1, b.2.2.2.2.1, b.2.2.2.2.2.1, b.2.2.2.2.2.2.1, b.2.2.2.2.2.2.2.1, b.2.2.2.2.2.2.2.2.1, b.2.2.2.2.2.2.2.2.2.1, b.2.2.2.2.2.2.2.2.2.2.1, b.2.2.2.2.2.2.2.2.2.2.2.1, b.2.2.2.2.2.2.2.2.2.2.2.2.1, b.2.2.2.2.2.2.2.2.2.2.2.2.2.1, b.2.2.2.2.2.2.2.2.2.2.2.2.2.2.1, b.2.2.2.2.2.2.2.2.2.2.2.2.2.2.2.1, b.2.2.2.2.2.2.2.2.2.2.2.2.2.2.2.2.1, b.2.2.2.2.2.2.2.2.2.2.2.2.2.2.2.2.2.1, b.2.2.2.2.2.2.2.2.2.2.2.2.2.2.2.2.2.2.1, b.2.2.2.2.2.2.2.2.2.2.2.2.2.2.2.2.2.2.2.1, b.2.2.2.2.2.2.2.2.2.2.2.2.2.2.2.2.2.2.2.2.1, b.2.2.2.2.2.2.2.2.2.2.2.2.2.2.2.2.2.2.2.2.2.1, R.1, R.2), c, hi, ck)) := by
    unfold P_tierAfter
    rw [mem_in hSs h1' N, Option.bind_some, if_pos rfl, btw_in h2', Option.bind_some, if_pos rfl]
    dsimp only
    rw [hft]; rfl
  have hG : F_M_tierAfter N (th, ch, ik, len, pa_, tok, err, hti, see, rk, bl, fx, rdd, le, ler, so, sor, wh, whr, now, kept, past, buf) (nI m) (nI D) = some (R.1, ((0 : Int32), ch, ik, len, pa_, tok, err, hti, see, R.1, R.2, fx, rdd, le, ler, so, sor, wh, whr, now, kept, past, buf)) := by
    unfold F_M_tierAfter
    dsimp only
    unfold f_X11_tierAfter
    rw [M_lacksMember (nI m) (n := v 3) (by omega) (hM 3 (by omega)), if_neg h1', Option.bind_some, if_pos rfl, show (0 : Int64) = (0 : Int32).toInt64 from rfl, show (2000 : Int64) = (2000 : Int32).toInt64 from rfl, isIn_in h2', Option.bind_some, if_neg (by decide), e1, e2, if_neg g1, if_neg g2, nI_clamp (by omega), nI_clamp (by omega), M_today, Option.bind_some, a4, hsu, Option.bind_some, Option.bind_some, nI_1, Option.bind_some]
    dsimp only
    rw [show f_X11_tierAfter_b72 N (nI m) (nI D) 71 72470 0 fx now N (qT b.2.2.2.2.2.2.2.2.1 dy c0 (v 6) m d) (nI (d + 1)) (now (42 + m)) (now (54 + m)) = _ from y2]; rfl
  have hW : W_tierAfter N (inp, se, dr, rdr, b, c, hi, ck) f (nI m) (nI D) = some (0, (inp, se, dr, rdr, (b.1, b.2.1, b.2.2.1, b.2.2.2.1, b.2.2.2.2.1, b.2.2.2.2.2.1, b.2.2.2.2.2.2.1, b.2.2.2.2.2.2.2.1, b.2.2.2.2.2.2.2.2.1, b.2.2.2.2.2.2.2.2.2.1, b.2.2.2.2.2.2.2.2.2.2.1, b.2.2.2.2.2.2.2.2.2.2.2.1, b.2.2.2.2.2.2.2.2.2.2.2.2.1, b.2.2.2.2.2.2.2.2.2.2.2.2.2.1, b.2.2.2.2.2.2.2.2.2.2.2.2.2.2.1, b.2.2.2.2.2.2.2.2.2.2.2.2.2.2.2.1, b.2.2.2.2.2.2.2.2.2.2.2.2.2.2.2.2.1, b.2.2.2.2.2.2.2.2.2.2.2.2.2.2.2.2.2.1, b.2.2.2.2.2.2.2.2.2.2.2.2.2.2.2.2.2.2.1, b.2.2.2.2.2.2.2.2.2.2.2.2.2.2.2.2.2.2.2.1, b.2.2.2.2.2.2.2.2.2.2.2.2.2.2.2.2.2.2.2.2.1, b.2.2.2.2.2.2.2.2.2.2.2.2.2.2.2.2.2.2.2.2.2.1, R.1, R.2), c, hi, ck), vp_updL f 0 (R.1).toInt64) := by
    unfold W_tierAfter
    rw [hP]; rfl
  have hRel : RlC v (k + 1) inp se (b.1, b.2.1, b.2.2.1, b.2.2.2.1, b.2.2.2.2.1, b.2.2.2.2.2.1, b.2.2.2.2.2.2.1, b.2.2.2.2.2.2.2.1, b.2.2.2.2.2.2.2.2.1, b.2.2.2.2.2.2.2.2.2.1, b.2.2.2.2.2.2.2.2.2.2.1, b.2.2.2.2.2.2.2.2.2.2.2.1, b.2.2.2.2.2.2.2.2.2.2.2.2.1, b.2.2.2.2.2.2.2.2.2.2.2.2.2.1, b.2.2.2.2.2.2.2.2.2.2.2.2.2.2.1, b.2.2.2.2.2.2.2.2.2.2.2.2.2.2.2.1, b.2.2.2.2.2.2.2.2.2.2.2.2.2.2.2.2.1, b.2.2.2.2.2.2.2.2.2.2.2.2.2.2.2.2.2.1, b.2.2.2.2.2.2.2.2.2.2.2.2.2.2.2.2.2.2.1, b.2.2.2.2.2.2.2.2.2.2.2.2.2.2.2.2.2.2.2.1, b.2.2.2.2.2.2.2.2.2.2.2.2.2.2.2.2.2.2.2.2.1, b.2.2.2.2.2.2.2.2.2.2.2.2.2.2.2.2.2.2.2.2.2.1, R.1, R.2) c hi ck ch ik len fx le so wh now kept past buf := ⟨hV, hM, hS, hNM, hIN, BRL_mono (k := k) ⟨hB.1, hB.2⟩ (Nat.le_succ k), hK', HIS_mono hH (Nat.le_succ k)⟩
  exact fin_ok (k := k) (s' := (inp, se, dr, rdr, (b.1, b.2.1, b.2.2.1, b.2.2.2.1, b.2.2.2.2.1, b.2.2.2.2.2.1, b.2.2.2.2.2.2.1, b.2.2.2.2.2.2.2.1, b.2.2.2.2.2.2.2.2.1, b.2.2.2.2.2.2.2.2.2.1, b.2.2.2.2.2.2.2.2.2.2.1, b.2.2.2.2.2.2.2.2.2.2.2.1, b.2.2.2.2.2.2.2.2.2.2.2.2.1, b.2.2.2.2.2.2.2.2.2.2.2.2.2.1, b.2.2.2.2.2.2.2.2.2.2.2.2.2.2.1, b.2.2.2.2.2.2.2.2.2.2.2.2.2.2.2.1, b.2.2.2.2.2.2.2.2.2.2.2.2.2.2.2.2.1, b.2.2.2.2.2.2.2.2.2.2.2.2.2.2.2.2.2.1, b.2.2.2.2.2.2.2.2.2.2.2.2.2.2.2.2.2.2.1, b.2.2.2.2.2.2.2.2.2.2.2.2.2.2.2.2.2.2.2.1, b.2.2.2.2.2.2.2.2.2.2.2.2.2.2.2.2.2.2.2.2.1, b.2.2.2.2.2.2.2.2.2.2.2.2.2.2.2.2.2.2.2.2.2.1, R.1, R.2), c, hi, ck)) (m' := ((0 : Int32), ch, ik, len, pa_, tok, err, hti, see, R.1, R.2, fx, rdd, le, ler, so, sor, wh, whr, now, kept, past, buf)) (f := f) (p := R.1) hW hG rfl ⟨v, hRel⟩

