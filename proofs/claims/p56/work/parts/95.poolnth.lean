/-- the i-th cell of a pool, in the reference -/
theorem M_poolNth {v : Nat → Nat} {d h i : Nat} {E : List En} {g : Nat → Int32} {x : En} (hV : SV v) (H : MC d E g) (hs : Sor E) (hv : ∀ x ∈ E, VK x.1 ∧ 1 ≤ x.2) (hP : sumP E < 2 ^ 31) (hE : EV v d E) (hd : d ≤ 9999) (hh : h < 4) (hx : nthE E (12 + h) i x) (hi : i < 2 ^ 31) (x3 t : Int32) : ∀ (n r : Nat), r ≤ 12000 → 12000 < n + r → cntE (QB (12 + h) (mkK (12 + h) (d + 1 + r / 12) (r % 12 + 1))) E ≤ i → f_X11_poolCohort_b65 (nI h) x3 72470 t g n (nI (i - cntE (QB (12 + h) (mkK (12 + h) (d + 1 + r / 12) (r % 12 + 1))) E)) (nI (d + 1 + r / 12)) (nI (r % 12)) = some (if x3 = 0 then nI x.2 else if x3 = 1 then nI (kD x.1) else cI (kC x.1), t) := by
  have hv5 := hV.2.1.2.1
  intro n
  induction n with
  | zero => intro r h1 h2; omega
  | succ n ih =>
    intro r h1 h2 h3
    rw [f_X11_poolCohort_b65]
    by_cases h4 : r = 12000
    · have h5 := nth_lt hx
      have h6 : cntE (fun k => decide (kL k = 12 + h)) E ≤ cntE (QB (12 + h) (mkK (12 + h) (d + 1 + r / 12) (r % 12 + 1))) E := cntE_mono (fun y hy hq => by
        have h7 := of_decide_eq_true hq
        have h8 := (hE y hy).1
        refine QB_t.mpr ⟨h7, ?_⟩
        have h9 := mk_k y.1
        have h10 := kC_lt y.1
        unfold mkK at h9 ⊢
        rw [h7] at h9
        omega)
      omega
    · have g1 := grd (i := poI h (d + 1 + r / 12) (r % 12)) (n := 72470) (by unfold poI; omega) (by decide)
      have hkl : kL (mkK (12 + h) (d + 1 + r / 12) (r % 12 + 1)) = 12 + h := kL_mk (by omega) (by omega)
      have hpl := pt_le_sum (k := mkK (12 + h) (d + 1 + r / 12) (r % 12 + 1)) (E := E)
      have hst := QB_step (a := 12 + h) (κ := mkK (12 + h) (d + 1 + r / 12) (r % 12 + 1)) (κ' := mkK (12 + h) (d + 1 + (r + 1) / 12) ((r + 1) % 12 + 1)) (i := i) hs (fun x hx => (hv x hx).2) hkl (fun x hx h7 => by
        have h8 := (hv x hx).1.2.2.2 (by omega)
        have h80 := (hv x hx).1.2.1
        have h9 := mk_k x.1
        rw [h7] at h9
        unfold mkK at h9 ⊢
        omega)
      have hcell := H.2 h (d + 1 + r / 12) (r % 12) hh (by omega) (by omega) (by omega)
      have hn := ih (r + 1) (by omega) (by omega)
      have hnext : ∀ z y : Int32, f_X11_poolCohort_b109 (f_X11_poolCohort_b65 (nI h) x3 72470 t g n) (nI (d + 1 + r / 12)) (nI (r % 12)) z y = f_X11_poolCohort_b65 (nI h) x3 72470 t g n (z - y) (nI (d + 1 + (r + 1) / 12)) (nI ((r + 1) % 12)) := by
        intro z y
        unfold f_X11_poolCohort_b109
        rw [Option.bind_some, nI_1, Option.bind_some]
        by_cases h5 : r % 12 + 1 = 12
        · rw [if_pos (show nI (r % 12 + 1) = (12 : Int32) by rw [h5]; rfl), nI_1, Option.bind_some, show d + 1 + (r + 1) / 12 = d + 1 + r / 12 + 1 by omega, show (r + 1) % 12 = 0 by omega]; rfl
        · rw [if_neg (show ¬ nI (r % 12 + 1) = (12 : Int32) from fun hx => h5 ((nI_eq (by omega) (by decide)).mp (show nI (r % 12 + 1) = nI 12 from hx))), show d + 1 + (r + 1) / 12 = d + 1 + r / 12 by omega, show (r + 1) % 12 = r % 12 + 1 by omega]
      rw [M_poolAt (by omega), Option.bind_some, if_neg g1, nI_clamp (by unfold poI; omega), hcell]
      have h86 : ∀ z : Int32, f_X11_poolCohort_b86 (f_X11_poolCohort_b65 (nI h) x3 72470 t g n) (nI h) z (nI (d + 1 + r / 12)) (nI (r % 12)) 72470 g = f_X11_poolCohort_b65 (nI h) x3 72470 t g n (z - (if pt E (mkK (12 + h) (d + 1 + r / 12) (r % 12 + 1)) = 0 then 0 else 1)) (nI (d + 1 + (r + 1) / 12)) (nI ((r + 1) % 12)) := by
        intro z
        unfold f_X11_poolCohort_b86
        rw [M_poolAt (by omega), Option.bind_some, if_neg g1, nI_clamp (by unfold poI; omega), hcell]
        by_cases h5 : pt E (mkK (12 + h) (d + 1 + r / 12) (r % 12 + 1)) = 0
        · rw [if_pos ((nI_le0 (by omega)).mpr h5), if_pos h5, hnext]
        · rw [if_neg (fun hx => h5 ((nI_le0 (by omega)).mp hx)), if_neg h5, hnext]
      rw [h86]
      by_cases h5 : pt E (mkK (12 + h) (d + 1 + r / 12) (r % 12 + 1)) = 0
      · rw [if_pos ((nI_eqz (by omega)).mpr h5), if_pos h5, Int32.sub_zero]
        rw [if_pos h5, Nat.add_zero] at hst
        rw [hst] at hn
        exact hn h3
      · rw [if_neg (fun hx => h5 ((nI_eqz (by omega)).mp hx)), if_neg h5]
        rw [if_neg h5] at hst
        obtain ⟨y, y1, y2, y3⟩ := nth_at hkl h5
        by_cases h6 : cntE (QB (12 + h) (mkK (12 + h) (d + 1 + r / 12) (r % 12 + 1))) E = i
        · rw [if_pos (show nI (i - cntE (QB (12 + h) (mkK (12 + h) (d + 1 + r / 12) (r % 12 + 1))) E) ≤ 0 by rw [h6, Nat.sub_self]; exact Int32.le_refl _)]
          rw [h6] at y1
          have hxy := nth_uniq hx y1
          have hx2 : x.2 = pt E (mkK (12 + h) (d + 1 + r / 12) (r % 12 + 1)) := by rw [← pt_mem hs hx.1, hxy, y2]
          have hxd : kD x.1 = d + 1 + r / 12 := by rw [hxy, y2, kD_mk (by omega) (by omega)]
          have hxc : kC x.1 = r % 12 + 1 := by rw [hxy, y2, kC_mk (by omega)]
          by_cases e0 : x3 = 0
          · rw [if_pos e0, if_pos e0, Option.bind_some, if_neg g1, nI_clamp (by unfold poI; omega), hcell, hx2]
          · rw [if_neg e0, if_neg e0]
            by_cases e1 : x3 = 1
            · rw [if_pos e1, if_pos e1, hxd]
            · rw [if_neg e1, if_neg e1, hxc]; rfl
        · rw [if_neg (fun hx => by have := (nI_le0 (by omega)).mp hx; omega), show (1 : Int32) = nI 1 from rfl, nI_subI (by omega), show i - cntE (QB (12 + h) (mkK (12 + h) (d + 1 + r / 12) (r % 12 + 1))) E - 1 = i - cntE (QB (12 + h) (mkK (12 + h) (d + 1 + (r + 1) / 12) ((r + 1) % 12 + 1))) E by omega]
          exact hn (by omega)


