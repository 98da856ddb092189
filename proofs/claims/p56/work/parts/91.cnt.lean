theorem cntE_congr {q q' : Nat → Bool} : ∀ {E : List En}, (∀ x ∈ E, q x.1 = q' x.1) → cntE q E = cntE q' E
  | [], _ => rfl
  | x :: E, h => by
    rw [cntE, cntE, h x List.mem_cons_self, cntE_congr (fun y hy => h y (List.mem_cons_of_mem _ hy))]
theorem cntE_zero {q : Nat → Bool} : ∀ {E : List En}, (∀ x ∈ E, q x.1 = false) → cntE q E = 0
  | [], _ => rfl
  | x :: E, h => by
    rw [cntE, h x List.mem_cons_self, if_neg Bool.false_ne_true, cntE_zero (fun y hy => h y (List.mem_cons_of_mem _ hy))]
/-- one key more -/
theorem cntE_or {q q' : Nat → Bool} {k : Nat} (hk : q k = false) : ∀ {E : List En}, Sor E → (∀ x ∈ E, 1 ≤ x.2) → (∀ x ∈ E, q' x.1 = (q x.1 || decide (x.1 = k))) → cntE q' E = cntE q E + (if pt E k = 0 then 0 else 1)
  | [], _, _, _ => rfl
  | x :: E, hs, hp, h => by
    have h1 := h x List.mem_cons_self
    have ih := cntE_or hk hs.2 (fun y hy => hp y (List.mem_cons_of_mem _ hy)) (fun y hy => h y (List.mem_cons_of_mem _ hy))
    rw [cntE, cntE, pt]
    by_cases h3 : x.1 = k
    · have h4 : pt E k = 0 := pt_none (fun y hy => by have := hs.1 y hy; omega)
      have h5 := hp x List.mem_cons_self
      rw [h4, if_pos rfl] at ih
      rw [h1, h3, hk, ih, if_neg Bool.false_ne_true, if_pos rfl, if_neg (show ¬ x.2 = 0 by omega)]
      simp only [decide_true, Bool.or_true, if_true]
    · rw [if_neg h3, h1, ih]
      simp only [h3, decide_false, Bool.or_false]
      by_cases h5 : q x.1 = true
      · rw [if_pos h5, if_pos h5]; omega
      · rw [if_neg h5, if_neg h5]
/-- the number of an account's cells -/
theorem M_cntAcc {v : Nat → Nat} {d m : Nat} {E : List En} {g : Nat → Int32} (hV : SV v) (H : MC d E g) (hs : Sor E) (hv : ∀ x ∈ E, VK x.1 ∧ 1 ≤ x.2) (hP : sumP E < 2 ^ 31) (hE : EV v d E) (hd : d ≤ 9999) (hm : m < 12) (t : Int32) : ∀ (n r : Nat), r ≤ 1000 → 1000 < n + r → f_X11_cohortCount_b14 (nI m) 72470 t g n (nI (cntE (fun k => decide (kL k = m) && decide (kD k % 1000 < r)) E)) (nI r) = some (nI (cntE (fun k => decide (kL k = m)) E), t) := by
  have hv5 := hV.2.1.2.1
  intro n
  induction n with
  | zero => intro r h1 h2; omega
  | succ n ih =>
    intro r h1 h2
    rw [f_X11_cohortCount_b14]
    by_cases h : r = 1000
    · subst h
      rw [if_pos (show (1000 : Int32) ≤ nI 1000 from Int32.le_refl _)]
      congr 3
      refine cntE_congr (fun x _ => ?_)
      rw [decide_eq_true (show kD x.1 % 1000 < 1000 by omega), Bool.and_true]
    · obtain ⟨c1, c2, c3⟩ := cD_ok (d := d) (r := r) (by omega)
      have g1 := grd (i := 12470 + 1000 * m + r) (n := 72470) (by omega) (by decide)
      have hpl := pt_le_sum (k := mkK m (cD d r) 0) (E := E)
      have hcell : g (12470 + 1000 * m + r) = nI (pt E (mkK m (cD d r) 0)) := by
        rw [← H.1 m (cD d r) hm c1 c2]
        unfold acI
        rw [c3]
      have hor : cntE (fun k => decide (kL k = m) && decide (kD k % 1000 < r + 1)) E = cntE (fun k => decide (kL k = m) && decide (kD k % 1000 < r)) E + (if pt E (mkK m (cD d r) 0) = 0 then 0 else 1) := by
        refine cntE_or ?_ hs (fun x hx => (hv x hx).2) ?_
        · rw [kD_mk (by omega) (by omega), c3, decide_eq_false (show ¬ r < r by omega), Bool.and_false]
        · intro x hx
          have hx1 := (hv x hx).1
          have hx2 := (hE x hx).1
          by_cases h5 : kL x.1 = m
          · rw [decide_eq_true h5, Bool.true_and, Bool.true_and]
            have h6 := hx1.2.2.1 (by omega)
            have h7 : (x.1 = mkK m (cD d r) 0) ↔ kD x.1 % 1000 = r := by
              refine ⟨fun hh => by rw [hh, kD_mk (by omega) (by omega), c3], fun hh => ?_⟩
              rw [← mk_k x.1, h5, h6, cD_eq (d := d) (r := r) hx2.1 (by omega) hh]
            by_cases h8 : kD x.1 % 1000 = r
            · rw [decide_eq_true (h7.mpr h8), decide_eq_true (show kD x.1 % 1000 < r + 1 by omega), Bool.or_true]
            · rw [decide_eq_false (fun hh => h8 (h7.mp hh)), Bool.or_false]
              by_cases h9 : kD x.1 % 1000 < r
              · rw [decide_eq_true h9, decide_eq_true (show kD x.1 % 1000 < r + 1 by omega)]
              · rw [decide_eq_false h9, decide_eq_false (show ¬ kD x.1 % 1000 < r + 1 by omega)]
          · rw [decide_eq_false h5, Bool.false_and, Bool.false_and, decide_eq_false (fun hh => h5 (by rw [hh, kL_mk (by omega) (by omega)]))]; rfl
      rw [if_neg (fun hh => by rw [show (1000 : Int32) = nI 1000 from rfl, nI_leI (by decide) (by omega)] at hh; omega), show (12470 : Int32) = nI 12470 from rfl, show (1000 : Int32) = nI 1000 from rfl, nI_mul, nI_add, nI_add, if_neg g1, nI_clamp (by omega), hcell]
      have hn := ih (r + 1) (by omega) (by omega)
      rw [hor] at hn
      by_cases h5 : pt E (mkK m (cD d r) 0) = 0
      · rw [if_pos ((nI_le0 (by omega)).mpr h5), Int32.add_zero, nI_1, Option.bind_some, Option.bind_some]
        rw [if_pos h5] at hn
        exact hn
      · rw [if_neg (fun hh => h5 ((nI_le0 (by omega)).mp hh)), nI_1, nI_1, Option.bind_some, Option.bind_some]
        rw [if_neg h5] at hn
        exact hn
/-- the number of a pool's cells -/
theorem M_cntPool {v : Nat → Nat} {d h : Nat} {E : List En} {g : Nat → Int32} (hV : SV v) (H : MC d E g) (hs : Sor E) (hv : ∀ x ∈ E, VK x.1 ∧ 1 ≤ x.2) (hP : sumP E < 2 ^ 31) (hE : EV v d E) (hd : d ≤ 9999) (hh : h < 4) {N : Nat} (hN : 12000 < N) : f_X11_poolCohorts N (nI h) 72470 g = some (nI (cntE (fun k => decide (kL k = 12 + h)) E)) := by
  have hv5 := hV.2.1.2.1
  have hfrom : ∀ (n r : Nat), r ≤ 12000 → 12000 < n + r → f_X11_poolCohorts_b4 (nI h) 72470 g n (nI (cntE (fun k => decide (kL k = 12 + h) && decide (kD k % 1000 * 12 + (kC k - 1) < r)) E)) (nI r) = some (nI (cntE (fun k => decide (kL k = 12 + h)) E)) := by
    intro n
    induction n with
    | zero => intro r h1 h2; omega
    | succ n ih =>
      intro r h1 h2
      rw [f_X11_poolCohorts_b4]
      by_cases h3 : r = 12000
      · subst h3
        rw [if_pos (show (12000 : Int32) ≤ nI 12000 from Int32.le_refl _)]
        congr 2
        refine cntE_congr (fun x hx => ?_)
        have := (hv x hx).1.2.1
        rw [decide_eq_true (show kD x.1 % 1000 * 12 + (kC x.1 - 1) < 12000 by omega), Bool.and_true]
      · obtain ⟨c1, c2, c3⟩ := cD_ok (d := d) (r := r / 12) (by omega)
        have g1 := grd (i := 24470 + 12000 * h + r) (n := 72470) (by omega) (by decide)
        have hpl := pt_le_sum (k := mkK (12 + h) (cD d (r / 12)) (r % 12 + 1)) (E := E)
        have hcell : g (24470 + 12000 * h + r) = nI (pt E (mkK (12 + h) (cD d (r / 12)) (r % 12 + 1))) := by
          rw [← H.2 h (cD d (r / 12)) (r % 12) hh c1 c2 (by omega)]
          unfold poI
          rw [c3]
          congr 1
          omega
        have hor : cntE (fun k => decide (kL k = 12 + h) && decide (kD k % 1000 * 12 + (kC k - 1) < r + 1)) E = cntE (fun k => decide (kL k = 12 + h) && decide (kD k % 1000 * 12 + (kC k - 1) < r)) E + (if pt E (mkK (12 + h) (cD d (r / 12)) (r % 12 + 1)) = 0 then 0 else 1) := by
          refine cntE_or ?_ hs (fun x hx => (hv x hx).2) ?_
          · rw [kD_mk (by omega) (by omega), kC_mk (by omega), c3, decide_eq_false (show ¬ r / 12 * 12 + (r % 12 + 1 - 1) < r by omega), Bool.and_false]
          · intro x hx
            have hx1 := (hv x hx).1
            have hx2 := (hE x hx).1
            by_cases h5 : kL x.1 = 12 + h
            · rw [decide_eq_true h5, Bool.true_and, Bool.true_and]
              have h6 := hx1.2.2.2 (by omega)
              have h60 := hx1.2.1
              have h7 : (x.1 = mkK (12 + h) (cD d (r / 12)) (r % 12 + 1)) ↔ kD x.1 % 1000 * 12 + (kC x.1 - 1) = r := by
                refine ⟨fun hx => by rw [hx, kD_mk (by omega) (by omega), kC_mk (by omega), c3]; omega, fun hx => ?_⟩
                rw [← mk_k x.1, h5, cD_eq (d := d) (r := r / 12) hx2.1 (by omega) (show kD x.1 % 1000 = r / 12 by omega), show kC x.1 = r % 12 + 1 by omega]
              by_cases h8 : kD x.1 % 1000 * 12 + (kC x.1 - 1) = r
              · rw [decide_eq_true (h7.mpr h8), decide_eq_true (show kD x.1 % 1000 * 12 + (kC x.1 - 1) < r + 1 by omega), Bool.or_true]
              · rw [decide_eq_false (fun hx => h8 (h7.mp hx)), Bool.or_false]
                by_cases h9 : kD x.1 % 1000 * 12 + (kC x.1 - 1) < r
                · rw [decide_eq_true h9, decide_eq_true (show kD x.1 % 1000 * 12 + (kC x.1 - 1) < r + 1 by omega)]
                · rw [decide_eq_false h9, decide_eq_false (show ¬ kD x.1 % 1000 * 12 + (kC x.1 - 1) < r + 1 by omega)]
            · rw [decide_eq_false h5, Bool.false_and, Bool.false_and, decide_eq_false (fun hx => h5 (by rw [hx, kL_mk (by omega) (by omega)]))]; rfl
        rw [if_neg (fun hx => by rw [show (12000 : Int32) = nI 12000 from rfl, nI_leI (by decide) (by omega)] at hx; omega), show (24470 : Int32) = nI 24470 from rfl, show (12000 : Int32) = nI 12000 from rfl, nI_mul, nI_add, nI_add, if_neg g1, nI_clamp (by omega), hcell]
        have hn := ih (r + 1) (by omega) (by omega)
        rw [hor] at hn
        by_cases h5 : pt E (mkK (12 + h) (cD d (r / 12)) (r % 12 + 1)) = 0
        · rw [if_pos ((nI_le0 (by omega)).mpr h5), Int32.add_zero, nI_1, Option.bind_some, Option.bind_some]
          rw [if_pos h5] at hn
          exact hn
        · rw [if_neg (fun hx => h5 ((nI_le0 (by omega)).mp hx)), nI_1, nI_1, Option.bind_some, Option.bind_some]
          rw [if_neg h5] at hn
          exact hn
  unfold f_X11_poolCohorts
  have h5 := hfrom N 0 (Nat.zero_le _) (by omega)
  rw [cntE_zero (fun x _ => by rw [decide_eq_false (show ¬ kD x.1 % 1000 * 12 + (kC x.1 - 1) < 0 by omega), Bool.and_false])] at h5
  exact h5
theorem C_cnt {E : List En} {z : Int32} {gl gd gc gp : Nat → Int32} (H : CoE E z gl gd gc gp) {a : Nat} (ha : a < 16) {N : Nat} (hN : 1024 < N) : f_X1_number N (nI a) 1024 z gl = some (nI (cntE (fun k => decide (kL k = a)) E)) := by
  rw [E_number H _ hN, cntE_congr (q' := fun k => decide (kL k = a)) (fun x hx => qK_list ha (H.2.2.1 x hx).1.1)]


