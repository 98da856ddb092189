/-- tiers, days below, log -/
abbrev T_TS : Type := (Nat → Int32) × (Nat → Int32) × List Co
/-- one member's check -/
def tsK (v : Nat → Nat) (qu : Nat → Int32) (d : Nat) (gr : Int32) (m : Nat) (S : T_TS) : Int32 × Int32 := ckI (nI (tierT v (qu m) (v 0 - 1))) (nI d) gr (S.1 m) (S.2.1 m)
def tsS (v : Nat → Nat) (qu : Nat → Int32) (d : Nat) (gr : Int32) (m : Nat) (S : T_TS) : T_TS := (upd S.1 m (tsK v qu d gr m S).1, upd S.2.1 m (tsK v qu d gr m S).2, ckLog m d (tsK v qu d gr m S) (S.1 m) S.2.2)
/-- the checks of the first members -/
def tsA (v : Nat → Nat) (qu : Nat → Int32) (d : Nat) (gr : Int32) (S : T_TS) : Nat → T_TS
  | 0 => S
  | m + 1 => tsS v qu d gr m (tsA v qu d gr S m)
/-- the class checks all members -/
theorem C_checks {v : Nat → Nat} {d : Nat} {gr : Int32} {cs th qu : Nat → Int32} (hV : SV v) (h0 : cs 0 = nI (v 0)) (h3 : cs 3 = nI (v 3)) (ht : ∀ t, t < v 0 → th t = nI (v (8 + t))) {N : Nat} (hN : 20 < N) (S0 : T_TS) (k4 : Int32 → Int32 → Int32 → Int32 → Int32 → (Nat → Int32) → (Nat → Int32) → (Nat → Int32) → (Nat → Int32) → Int32 → Int32 → (Nat → Int32) → (Nat → Int32) → (Nat → Int32) → (Nat → Int32) → (Nat → Int32) → (Nat → Int32) → Int32 → Int32 → Option (Int32 × Int32 × Int32 × Int32 × (Nat → Int32) × (Nat → Int32) × (Nat → Int32) × (Nat → Int32) × Int32 × Int32 × (Nat → Int32) × (Nat → Int32) × (Nat → Int32) × (Nat → Int32) × (Nat → Int32) × (Nat → Int32) × Int32 × Int32)) (x2 x3 ws z : Int32) (gl gd gc gp tt ls : Nat → Int32) : ∀ (n m : Nat) (nx sz st si : Int32) (dp : Nat → Int32), m ≤ v 3 → v 3 < n + m → LogC (tsA v qu d gr S0 m).2.2 nx sz dp → ∃ (lo : Int32 × Int32 × (Nat → Int32)) (st' si' : Int32), f_X0_passDays_b33 N k4 x2 x3 8 5 120 12 12 12 (nI d) ws gr cs th z gl gd gc gp qu tt ls n (nI m) nx sz dp (tsA v qu d gr S0 m).1 (tsA v qu d gr S0 m).2.1 st si = k4 x2 (x3 + 1) (nI d) ws z gl gd gc gp lo.1 lo.2.1 lo.2.2 (tsA v qu d gr S0 (v 3)).1 (tsA v qu d gr S0 (v 3)).2.1 qu tt ls st' si' ∧ LogC (tsA v qu d gr S0 (v 3)).2.2 lo.1 lo.2.1 lo.2.2 := by
  have hv3 := hV.1.2.2.2.2.1
  intro n
  induction n with
  | zero => intro m nx sz st si dp h1 h2; omega
  | succ n ih =>
    intro m nx sz st si dp h1 h2 HL
    rw [f_X0_passDays_b33]
    unfold f_X7_count
    rw [show (3 : Int32) = nI 3 from rfl, X6_at_in cs h8 (by omega), Option.bind_some, Option.bind_some, h3]
    by_cases h : m = v 3
    · rw [if_pos (by rw [h]; exact Int32.le_refl _), Option.bind_some, h]
      rw [h] at HL
      exact ⟨(nx, sz, dp), st, si, rfl, HL⟩
    · obtain ⟨o, a1, a2⟩ := C_checkTier (v := v) (m := m) (d := d) (gr := gr) (cs := cs) (th := th) (tr := (tsA v qu d gr S0 m).1) (be := (tsA v qu d gr S0 m).2.1) (qu := qu) HL (by omega) h0 hV.1.1 hV.1.2.1 ht (N := N) (by omega)
      rw [if_neg (fun hh => by have := (nI_leI (by omega) (by omega)).mp hh; omega), a1, Option.bind_some, nI_1, Option.bind_some]
      exact ih (m + 1) o.1 o.2.1 _ _ o.2.2 (by omega) (by omega) a2
/-- the reference checks all members -/
theorem M_allchecks {v : Nat → Nat} {d : Nat} {fx qu : Nat → Int32} {B : Nat → Nat → Int32} (hV : SV v) (hM : SM v fx) (hd : d ≤ 9999) (hB : ∀ m, m < v 3 → sumR (bS B (v 6) d m) (d + 1) (v 6) = qu m) {N : Nat} (hN : 2000 < N) (S0 : T_TS) (x2 : Int32) (g0 : Nat → Int32) : ∀ (n m : Nat) (rk bl : Int32) (g : Nat → Int32), m ≤ v 3 → v 3 < n + m → BaM (v 3) d B g → g 0 = nI d → LogM (tsA v qu d (fx 7) S0 m).2.2 g → (∀ i, i < 12 → g (42 + i) = (tsA v qu d (fx 7) S0 m).1 i ∧ g (54 + i) = (tsA v qu d (fx 7) S0 m).2.1 i) → (∀ i, i < 42 ∨ 66 ≤ i → ¬ i = 2 → i < 350 ∨ 470 ≤ i → g i = g0 i) → ∃ g' rk' bl', f_X11_passes_b162 N x2 71 72470 fx n (nI m) rk bl g = some (x2, rk', bl', g') ∧ LogM (tsA v qu d (fx 7) S0 (v 3)).2.2 g' ∧ (∀ i, i < 12 → g' (42 + i) = (tsA v qu d (fx 7) S0 (v 3)).1 i ∧ g' (54 + i) = (tsA v qu d (fx 7) S0 (v 3)).2.1 i) ∧ ∀ i, i < 42 ∨ 66 ≤ i → ¬ i = 2 → i < 350 ∨ 470 ≤ i → g' i = g0 i := by
  have hv3 := hV.1.2.2.2.2.1
  have hv6 := hV.2.1.2.2.2.1
  have gd3 : ¬ ((3 : Int32) < 0 ∨ 71 ≤ (3 : Int32).toNatClampNeg) := by decide
  intro n
  induction n with
  | zero => intro m rk bl g h1 h2; omega
  | succ n ih =>
    intro m rk bl g h1 h2 hb h0 HL hti hfr
    rw [f_X11_passes_b162, if_neg gd3, show (3 : Int32).toNatClampNeg = 3 from rfl, hM 3 (by omega)]
    by_cases h : m = v 3
    · rw [if_pos ((nI_leI (by omega) (by omega)).mpr (by omega))]
      rw [h] at HL hti
      exact ⟨g, rk, bl, rfl, HL, hti, hfr⟩
    · have hq := M_sumUpTo (N := N) hb h0 hd (show m < v 3 by omega) hv3 hv6 (hM 6 (by omega)) (by omega)
      rw [hB m (by omega)] at hq
      obtain ⟨g7, k1, k2, k3, k4, k5⟩ := M_checksTier HL hV hM (show m < 12 by omega) h0 hN hq
      obtain ⟨t1, t2⟩ := hti m (by omega)
      rw [t1, t2] at k1 k2 k3 k4
      rw [if_neg (fun hh => by have := (nI_leI (by omega) (by omega)).mp hh; omega), k1, Option.bind_some, nI_1, Option.bind_some]
      refine ih (m + 1) _ _ g7 (by omega) (by omega) (fun m' e a b c => by rw [k5 _ (by omega) (by omega) (by omega) (by omega)]; exact hb m' e a b c) (by rw [k5 0 (by omega) (by omega) (by omega) (by omega), h0]) k2 (fun i hi => ?_) (fun i a b c => by rw [k5 i (by omega) (by omega) b c]; exact hfr i a b c)
      show g7 (42 + i) = upd (tsA v qu d (fx 7) S0 m).1 m (tsK v qu d (fx 7) m (tsA v qu d (fx 7) S0 m)).1 i ∧ g7 (54 + i) = upd (tsA v qu d (fx 7) S0 m).2.1 m (tsK v qu d (fx 7) m (tsA v qu d (fx 7) S0 m)).2 i
      by_cases e : i = m
      · rw [e, upd_at, upd_at]
        exact ⟨k3, k4⟩
      · rw [upd_ne _ _ e, upd_ne _ _ e, k5 _ (by omega) (by omega) (by omega) (by omega), k5 _ (by omega) (by omega) (by omega) (by omega)]
        exact hti i hi
/-- the class's window gets a day on -/
theorem C_shrink {v : Nat → Nat} {d c a : Nat} {dy : Nat → Nat} {cs pr qu : Nat → Int32} (hV : SV v) (h3 : cs 3 = nI (v 3)) (hc : c ≤ 512) (hdy : ∀ i, i < c → pr (7 * i + 5) = nI (dy i) ∧ dy i ≤ d) (hd : d ≤ 9999) (hmono : ∀ i j, i ≤ j → j < c → dy i ≤ dy j) (ha : a ≤ c) (ha1 : ∀ i, i < a → dy i + v 6 ≤ d) (ha2 : ∀ i, a ≤ i → i < c → d < dy i + v 6) (hq : ∀ m, m < v 3 → qu m = qT pr dy c (v 6) m d) {N : Nat} (hN : 2000 < N) : ∃ r qu', f_X0_shrinkWindow N 8 3584 12 (nI (d + 1)) (nI a) (nI (v 6)) cs (nI c) pr qu = some (nI r, qu') ∧ r ≤ c ∧ (∀ i, i < r → dy i + v 6 ≤ d + 1) ∧ (∀ i, r ≤ i → i < c → d + 1 < dy i + v 6) ∧ ∀ m, m < v 3 → qu' m = qT pr dy c (v 6) m (d + 1) := by
  have hv3 := hV.1.2.2.2.2.1
  have hv6 := hV.2.1.2.2.2.1
  obtain ⟨r, f1, f2, f3, f4, f5⟩ := C_firstAfter (dy := dy) hc (fun i hi => ⟨(hdy i hi).1, by have := (hdy i hi).2; omega⟩) (t := d + 1) (win := v 6) (by omega) (by omega) ha (N := N) (by omega)
  have hr1 : ∀ i, i < r → dy i + v 6 ≤ d + 1 := fun i hi => by
    by_cases h : i < a
    · have := ha1 i h; omega
    · exact f4 i (by omega) hi
  have hr2 : ∀ i, r ≤ i → i < c → d + 1 < dy i + v 6 := fun i h1 h2 => by
    have h3 := f5 (by omega)
    have h4 := hmono r i h1 h2
    omega
  have hloop : ∀ (n m : Nat) (qv : Nat → Int32), m ≤ v 3 → v 3 < n + m → (∀ j, j < m → qv j = qT pr dy c (v 6) j (d + 1)) → (∀ j, m ≤ j → j < v 3 → qv j = qu j) → ∃ qu', f_X0_shrinkWindow_b26 N (nI r) 8 3584 12 (nI a) cs pr n (nI m) qv = some (nI r, qu') ∧ ∀ m, m < v 3 → qu' m = qT pr dy c (v 6) m (d + 1) := by
    intro n
    induction n with
    | zero => intro m qv h1 h2; omega
    | succ n ih =>
      intro m qv h1 h2 q1 q2
      rw [f_X0_shrinkWindow_b26]
      unfold f_X7_count
      rw [show (3 : Int32) = nI 3 from rfl, X6_at_in cs h8 (by omega), Option.bind_some, Option.bind_some, h3]
      by_cases h : m = v 3
      · rw [if_pos (by rw [h]; exact Int32.le_refl _)]
        exact ⟨qv, rfl, fun j hj => q1 j (by omega)⟩
      · rw [if_neg (fun hh => by have := (nI_leI (by omega) (by omega)).mp hh; omega), C_bases (by omega) f2 (by omega), Option.bind_some, X6_increase_in qv _ h12 (by omega), Option.bind_some, nI_1, Option.bind_some]
        refine ih (m + 1) _ (by omega) (by omega) (fun j hj => ?_) (fun j b1 b2 => ?_)
        · by_cases e : j = m
          · subst e
            rw [upd_at, q2 j (Nat.le_refl _) (by omega), hq j (by omega), qT_place ha ha1 ha2, qT_place f3 hr1 hr2]
            have hsp := sumR_split (f := bW pr j) (n := r - a) (k := c - r) (a := a)
            rw [show r - a + (c - r) = c - a by omega, show a + (r - a) = r by omega] at hsp
            rw [hsp, Int32.add_comm (sumR (bW pr j) a (r - a)), add_negI]
          · rw [upd_ne _ _ e]; exact q1 j (by omega)
        · rw [upd_ne _ _ (by omega)]; exact q2 j (by omega) b2
  obtain ⟨qu', l1, l2⟩ := hloop N 0 qu (Nat.zero_le _) (by omega) (fun j hj => by omega) (fun j _ _ => rfl)
  refine ⟨r, qu', ?_, f3, hr1, hr2, l2⟩
  unfold f_X0_shrinkWindow f_X7_window
  rw [Option.bind_some, f1, Option.bind_some]
  exact l1

