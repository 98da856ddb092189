theorem sumQ_congr {q q' : Nat → Bool} : ∀ {E : List En}, (∀ x ∈ E, q x.1 = q' x.1) → sumQ q E = sumQ q' E
  | [], _ => rfl
  | x :: E, h => by
    rw [sumQ, sumQ, h x List.mem_cons_self, sumQ_congr (fun y hy => h y (List.mem_cons_of_mem _ hy))]
theorem sumQ_zero {q : Nat → Bool} : ∀ {E : List En}, (∀ x ∈ E, q x.1 = false) → sumQ q E = 0
  | [], _ => rfl
  | x :: E, h => by
    rw [sumQ, h x List.mem_cons_self, if_neg Bool.false_ne_true, sumQ_zero (fun y hy => h y (List.mem_cons_of_mem _ hy))]
theorem sumQ_all {E : List En} {q : Nat → Bool} (h : ∀ x ∈ E, q x.1 = true) : sumQ q E = sumP E := by
  induction E with
  | nil => rfl
  | cons x E ih => rw [sumQ, sumP, h x List.mem_cons_self, if_pos rfl, ih (fun y hy => h y (List.mem_cons_of_mem _ hy))]
/-- one key more -/
theorem sumQ_or {q q' : Nat → Bool} {k : Nat} (hk : q k = false) : ∀ {E : List En}, Sor E → (∀ x ∈ E, q' x.1 = (q x.1 || decide (x.1 = k))) → sumQ q' E = sumQ q E + pt E k
  | [], _, _ => rfl
  | x :: E, hs, h => by
    have h1 := h x List.mem_cons_self
    have ih := sumQ_or hk hs.2 (fun y hy => h y (List.mem_cons_of_mem _ hy))
    rw [sumQ, sumQ, pt]
    by_cases h3 : x.1 = k
    · have h4 : pt E k = 0 := pt_none (fun y hy => by have := hs.1 y hy; omega)
      rw [h4] at ih
      rw [h1, h3, hk, ih, if_neg Bool.false_ne_true, if_pos rfl]
      simp only [decide_true, Bool.or_true, if_true]
      omega
    · rw [if_neg h3, h1, ih]
      simp only [h3, decide_false, Bool.or_false]
      by_cases h5 : q x.1 = true
      · rw [if_pos h5, if_pos h5]; omega
      · rw [if_neg h5, if_neg h5]
/-- the day of a cell of the round -/
def cD (d r : Nat) : Nat := d + 1 + (r + 1000 - (d + 1) % 1000) % 1000
theorem cD_ok {d r : Nat} (hr : r < 1000) : d < cD d r ∧ cD d r ≤ d + 1000 ∧ cD d r % 1000 = r := by unfold cD; omega
theorem cD_eq {d r e : Nat} (h1 : d < e) (h2 : e ≤ d + 1000) (h3 : e % 1000 = r) : e = cD d r := by unfold cD; omega
/-- the sum of an account's cells -/
theorem M_inAcc_from {v : Nat → Nat} {d m : Nat} {E : List En} {g : Nat → Int32} (hV : SV v) (H : MC d E g) (hs : Sor E) (hv : ∀ x ∈ E, VK x.1 ∧ 1 ≤ x.2) (hE : EV v d E) (hd : d ≤ 9999) (hm : m < 12) : ∀ (n r : Nat), r ≤ 1000 → 1000 < n + r → f_X11_inAccount_b4 (nI m) 72470 g n (nI (sumQ (fun k => decide (kL k = m) && decide (kD k % 1000 < r)) E)) (nI r) = some (nI (sumQ (fun k => decide (kL k = m)) E)) := by
  have hv5 := hV.2.1.2.1
  intro n
  induction n with
  | zero => intro r h1 h2; omega
  | succ n ih =>
    intro r h1 h2
    rw [f_X11_inAccount_b4]
    by_cases h : r = 1000
    · subst h
      rw [if_pos (show (1000 : Int32) ≤ nI 1000 from Int32.le_refl _)]
      congr 2
      refine sumQ_congr (fun x _ => ?_)
      rw [decide_eq_true (show kD x.1 % 1000 < 1000 by omega), Bool.and_true]
    · obtain ⟨c1, c2, c3⟩ := cD_ok (d := d) (r := r) (by omega)
      have g1 := grd (i := 12470 + 1000 * m + r) (n := 72470) (by omega) (by decide)
      have hcell : g (12470 + 1000 * m + r) = nI (pt E (mkK m (cD d r) 0)) := by
        rw [← H.1 m (cD d r) hm c1 c2]
        unfold acI
        rw [c3]
      rw [if_neg (fun hh => by rw [show (1000 : Int32) = nI 1000 from rfl, nI_leI (by decide) (by omega)] at hh; omega), show (12470 : Int32) = nI 12470 from rfl, show (1000 : Int32) = nI 1000 from rfl, nI_mul, nI_add, nI_add, if_neg g1, nI_clamp (by omega), hcell, Option.bind_some, nI_add, nI_1, Option.bind_some, ← sumQ_or (q := fun k => decide (kL k = m) && decide (kD k % 1000 < r)) (q' := fun k => decide (kL k = m) && decide (kD k % 1000 < r + 1)) ?_ hs ?_]
      · exact ih (r + 1) (by omega) (by omega)
      · rw [kD_mk (by omega) (by omega), c3, decide_eq_false (show ¬ r < r by omega), Bool.and_false]
      · intro x hx
        have hx1 := (hv x hx).1
        have hx2 := (hE x hx).1
        by_cases h5 : kL x.1 = m
        · rw [decide_eq_true h5, Bool.true_and, Bool.true_and]
          have h6 := hx1.2.2.1 (by omega)
          have h7 : (x.1 = mkK m (cD d r) 0) ↔ kD x.1 % 1000 = r := by
            refine ⟨fun hh => by rw [hh, kD_mk (by omega) (by omega), c3], fun hh => ?_⟩
            rw [← mk_k x.1, h5, h6, cD_eq (d := d) (r := r) hx2.1 (by omega) hh]
          by_cases h8 : kD x.1 % 1000 = r
          · rw [decide_eq_true (h7.mpr h8), decide_eq_true (show kD x.1 % 1000 < r + 1 by omega), Bool.or_true]
          · rw [decide_eq_false (fun hh => h8 (h7.mp hh)), Bool.or_false]
            by_cases h9 : kD x.1 % 1000 < r
            · rw [decide_eq_true h9, decide_eq_true (show kD x.1 % 1000 < r + 1 by omega)]
            · rw [decide_eq_false h9, decide_eq_false (show ¬ kD x.1 % 1000 < r + 1 by omega)]
        · rw [decide_eq_false h5, Bool.false_and, Bool.false_and, decide_eq_false (fun hh => h5 (by rw [hh, kL_mk (by omega) (by omega)]))]; rfl
theorem M_inAccount {v : Nat → Nat} {d m : Nat} {E : List En} {g : Nat → Int32} (hV : SV v) (H : MC d E g) (hs : Sor E) (hv : ∀ x ∈ E, VK x.1 ∧ 1 ≤ x.2) (hE : EV v d E) (hd : d ≤ 9999) (hm : m < 12) {N : Nat} (hN : 2000 < N) : f_X11_inAccount N (nI m) 72470 g = some (nI (sumQ (fun k => decide (kL k = m)) E)) := by
  unfold f_X11_inAccount
  have h := M_inAcc_from hV H hs hv hE hd hm N 0 (by omega) (by omega)
  rw [sumQ_zero (fun x _ => by rw [decide_eq_false (show ¬ kD x.1 % 1000 < 0 by omega), Bool.and_false])] at h
  exact h
theorem C_balance {E : List En} {z : Int32} {gl gd gc gp : Nat → Int32} (H : CoE E z gl gd gc gp) {a : Nat} (ha : a < 16) {N : Nat} (hN : 1024 < N) : f_X1_sum N (nI a) (-2) 1024 1024 1024 z gl gc gp = some (nI (sumQ (fun k => decide (kL k = a)) E)) := by
  rw [E_sum H _ _ hN, sumQ_congr (q' := fun k => decide (kL k = a)) (fun x hx => qK_list ha (H.2.2.1 x hx).1.1)]
/-- the cells of a pool before a day and a member -/
def qB (h : Nat) (f : Nat → Bool) (e m : Nat) (k : Nat) : Bool := decide (kL k = 12 + h) && (f (kC k - 1) && decide (kD k < e ∨ (kD k = e ∧ kC k < m + 1)))
theorem M_inPool_row {v : Nat → Nat} {d h e : Nat} {E : List En} {fx g : Nat → Int32} {f : Nat → Bool} {x2 : Int32} (hV : SV v) (hM : SM v fx) (H : MC d E g) (hs : Sor E) (hv : ∀ x ∈ E, VK x.1 ∧ 1 ≤ x.2) (hE : EV v d E) (hd : d ≤ 9999) (hh : h < 4) (h1 : d < e) (h2 : e ≤ d + 1000) (hf : ∀ m, m < 12 → ((x2 = -1 ∨ x2 = nI m) ↔ f m = true)) (kk : Int32 → Int32 → Option Int32) : ∀ (n m : Nat), m ≤ v 3 → v 3 < n + m → f_X11_inPool_b22 kk (nI h) x2 (nI e) 71 72470 fx g n (nI (sumQ (qB h f e m) E)) (nI m) = kk (nI (sumQ (qB h f (e + 1) 0) E)) (nI (e + 1)) := by
  have hv3 := hV.1.2.2.2.2.1
  intro n
  induction n with
  | zero => intro m h3 h4; omega
  | succ n ih =>
    intro m h3 h4
    rw [f_X11_inPool_b22, if_neg (by decide), show (3 : Int32).toNatClampNeg = 3 from rfl, hM 3 (by omega)]
    by_cases h5 : m = v 3
    · rw [if_pos ((nI_leI (by omega) (by omega)).mpr (by omega)), Option.bind_some, nI_1]
      congr 2
      refine sumQ_congr (fun x hx => ?_)
      unfold qB
      by_cases h6 : kL x.1 = 12 + h
      · have h7 := (hv x hx).1.2.2.2 (by omega)
        have h8 := (hE x hx).2.2 (by omega)
        congr 2
        by_cases h9 : kD x.1 < e ∨ (kD x.1 = e ∧ kC x.1 < m + 1)
        · rw [decide_eq_true h9, decide_eq_true (show kD x.1 < e + 1 ∨ (kD x.1 = e + 1 ∧ kC x.1 < 0 + 1) by omega)]
        · rw [decide_eq_false h9, decide_eq_false (show ¬ (kD x.1 < e + 1 ∨ (kD x.1 = e + 1 ∧ kC x.1 < 0 + 1)) by omega)]
      · rw [decide_eq_false h6, Bool.false_and, Bool.false_and]
    · have gp := grd (i := poI h e m) (n := 72470) (by unfold poI; omega) (by decide)
      have hstep : f m = true → sumQ (qB h f e (m + 1)) E = sumQ (qB h f e m) E + pt E (mkK (12 + h) e (m + 1)) := by
        intro hfm
        refine sumQ_or ?_ hs (fun x hx => ?_)
        · unfold qB
          rw [kD_mk (by omega) (by omega), kC_mk (by omega), decide_eq_false (show ¬ (e < e ∨ (e = e ∧ m + 1 < m + 1)) by omega), Bool.and_false, Bool.and_false]
        · unfold qB
          by_cases h6 : kL x.1 = 12 + h
          · have h7 := (hv x hx).1.2.2.2 (by omega)
            rw [decide_eq_true h6, Bool.true_and, Bool.true_and]
            have h8 : (x.1 = mkK (12 + h) e (m + 1)) ↔ (kD x.1 = e ∧ kC x.1 = m + 1) := by
              refine ⟨fun hx => by rw [hx, kD_mk (by omega) (by omega), kC_mk (by omega)]; exact ⟨rfl, rfl⟩, fun hx => ?_⟩
              rw [← mk_k x.1, h6, hx.1, hx.2]
            by_cases h9 : kD x.1 = e ∧ kC x.1 = m + 1
            · rw [decide_eq_true (h8.mpr h9), Bool.or_true, decide_eq_true (show kD x.1 < e ∨ (kD x.1 = e ∧ kC x.1 < m + 1 + 1) by omega), h9.2, Nat.add_sub_cancel, hfm]; rfl
            · rw [decide_eq_false (fun hx => h9 (h8.mp hx)), Bool.or_false]
              congr 1
              by_cases h10 : kD x.1 < e ∨ (kD x.1 = e ∧ kC x.1 < m + 1)
              · rw [decide_eq_true h10, decide_eq_true (show kD x.1 < e ∨ (kD x.1 = e ∧ kC x.1 < m + 1 + 1) by omega)]
              · rw [decide_eq_false h10, decide_eq_false (show ¬ (kD x.1 < e ∨ (kD x.1 = e ∧ kC x.1 < m + 1 + 1)) by omega)]
          · rw [decide_eq_false h6, Bool.false_and, Bool.false_and, decide_eq_false (fun hx => h6 (by rw [hx, kL_mk (by omega) (by omega)]))]; rfl
      have hskip : f m = false → sumQ (qB h f e (m + 1)) E = sumQ (qB h f e m) E := by
        intro hfm
        refine sumQ_congr (fun x hx => ?_)
        unfold qB
        by_cases h6 : kL x.1 = 12 + h
        · have h7 := (hv x hx).1.2.2.2 (by omega)
          rw [decide_eq_true h6, Bool.true_and, Bool.true_and]
          by_cases h9 : kC x.1 = m + 1
          · rw [h9, Nat.add_sub_cancel, hfm, Bool.false_and, Bool.false_and]
          · congr 1
            by_cases h10 : kD x.1 < e ∨ (kD x.1 = e ∧ kC x.1 < m + 1)
            · rw [decide_eq_true h10, decide_eq_true (show kD x.1 < e ∨ (kD x.1 = e ∧ kC x.1 < m + 1 + 1) by omega)]
            · rw [decide_eq_false h10, decide_eq_false (show ¬ (kD x.1 < e ∨ (kD x.1 = e ∧ kC x.1 < m + 1 + 1)) by omega)]
        · rw [decide_eq_false h6, Bool.false_and, Bool.false_and]
      have h45 : f_X11_inPool_b45 (f_X11_inPool_b22 kk (nI h) x2 (nI e) 71 72470 fx g n) (nI h) (nI e) (nI m) (nI (sumQ (qB h f e m) E)) 72470 g = f_X11_inPool_b22 kk (nI h) x2 (nI e) 71 72470 fx g n (nI (sumQ (qB h f e m) E + pt E (mkK (12 + h) e (m + 1)))) (nI (m + 1)) := by
        unfold f_X11_inPool_b45
        rw [M_poolAt (by omega), Option.bind_some, if_neg gp, nI_clamp (by unfold poI; omega), H.2 h e m hh h1 h2 (by omega), nI_add, Option.bind_some, nI_1, Option.bind_some]
      rw [if_neg (fun hx => by have := (nI_leI (by omega) (by omega)).mp hx; omega), h45]
      have hn := ih (m + 1) (by omega) (by omega)
      by_cases h6 : x2 = -1
      · rw [if_pos h6, ← hstep ((hf m (by omega)).mp (Or.inl h6)), hn]
      · rw [if_neg h6]
        by_cases h7 : x2 = nI m
        · rw [if_pos h7, ← hstep ((hf m (by omega)).mp (Or.inr h7)), hn]
        · have hfm : f m = false := by
            cases hx : f m with
            | false => rfl
            | true => exact absurd ((hf m (by omega)).mpr hx) (fun hy => hy.elim h6 h7)
          rw [if_neg h7, Option.bind_some, Int32.add_zero, nI_1, Option.bind_some, ← hskip hfm, hn]
theorem M_inPool {v : Nat → Nat} {d h : Nat} {E : List En} {fx g : Nat → Int32} {f : Nat → Bool} {x2 : Int32} (hV : SV v) (hM : SM v fx) (H : MC d E g) (hs : Sor E) (hv : ∀ x ∈ E, VK x.1 ∧ 1 ≤ x.2) (hE : EV v d E) (hd : d ≤ 9999) (h0 : g 0 = nI d) (hh : h < 4) (hf : ∀ m, m < 12 → ((x2 = -1 ∨ x2 = nI m) ↔ f m = true)) {N : Nat} (hN : 2000 < N) : f_X11_inPool N (nI h) x2 71 72470 fx g = some (nI (sumQ (fun k => decide (kL k = 12 + h) && f (kC k - 1)) E)) := by
  have hv3 := hV.1.2.2.2.2.1
  have hv5 := hV.2.1.2.1
  have hfrom : ∀ (n j : Nat), j ≤ 1000 → 1000 < n + j → f_X11_inPool_b10 N (nI h) x2 71 72470 fx g n (nI (sumQ (qB h f (d + 1 + j) 0) E)) (nI (d + 1 + j)) = some (nI (sumQ (fun k => decide (kL k = 12 + h) && f (kC k - 1)) E)) := by
    intro n
    induction n with
    | zero => intro j h1 h2; omega
    | succ n ih =>
      intro j h1 h2
      rw [f_X11_inPool_b10, M_last h0 hd, Option.bind_some]
      by_cases h3 : j = 1000
      · rw [if_pos ((nI_ltI (by omega) (by omega)).mpr (by omega))]
        congr 2
        refine sumQ_congr (fun x hx => ?_)
        have h4 := (hE x hx).1
        unfold qB
        rw [decide_eq_true (show kD x.1 < d + 1 + j ∨ (kD x.1 = d + 1 + j ∧ kC x.1 < 0 + 1) by omega), Bool.and_true]
      · rw [if_neg (fun hx => by have := (nI_ltI (by omega) (by omega)).mp hx; omega)]
        have hr := M_inPool_row hV hM H hs hv hE hd hh (e := d + 1 + j) (by omega) (by omega) hf (f_X11_inPool_b10 N (nI h) x2 71 72470 fx g n) N 0 (by omega) (by omega)
        rw [nI_0] at hr
        rw [hr]
        exact ih (j + 1) (by omega) (by omega)
  unfold f_X11_inPool
  rw [M_today, Option.bind_some, h0, nI_1, Option.bind_some]
  have h5 := hfrom N 0 (by omega) (by omega)
  rw [sumQ_zero (q := qB h f (d + 1 + 0) 0) (fun x hx => by
    have h4 := (hE x hx).1
    unfold qB
    by_cases h6 : kL x.1 = 12 + h
    · have h7 := (hv x hx).1.2.2.2 (by omega)
      rw [decide_eq_false (show ¬ (kD x.1 < d + 1 + 0 ∨ (kD x.1 = d + 1 + 0 ∧ kC x.1 < 0 + 1)) by omega), Bool.and_false, Bool.and_false]
    · rw [decide_eq_false h6, Bool.false_and])] at h5
  exact h5

