theorem cntE_mono {q q' : Nat → Bool} : ∀ {E : List En}, (∀ x ∈ E, q x.1 = true → q' x.1 = true) → cntE q E ≤ cntE q' E
  | [], _ => Nat.le_refl 0
  | x :: E, h => by
    have ih := cntE_mono (q := q) (q' := q') (fun y hy => h y (List.mem_cons_of_mem x hy))
    rw [cntE, cntE]
    by_cases h1 : q x.1 = true
    · rw [if_pos h1, if_pos (h x List.mem_cons_self h1)]; omega
    · rw [if_neg h1]
      by_cases h2 : q' x.1 = true
      · rw [if_pos h2]; omega
      · rw [if_neg h2]; exact ih
theorem cntE_lt {q q' : Nat → Bool} {x : En} : ∀ {E : List En}, (∀ x ∈ E, q x.1 = true → q' x.1 = true) → x ∈ E → q x.1 = false → q' x.1 = true → cntE q E < cntE q' E
  | [], _, h, _, _ => nomatch h
  | y :: E, h, hx, h1, h2 => by
    rw [cntE, cntE]
    cases List.mem_cons.mp hx with
    | inl e =>
      subst e
      have := cntE_mono (q := q) (q' := q') (fun y hy => h y (List.mem_cons_of_mem x hy))
      rw [h1, if_neg Bool.false_ne_true, h2, if_pos rfl]; omega
    | inr e =>
      have ih := cntE_lt (q := q) (q' := q') (fun z hz => h z (List.mem_cons_of_mem y hz)) e h1 h2
      by_cases h3 : q y.1 = true
      · rw [if_pos h3, if_pos (h y List.mem_cons_self h3)]; omega
      · rw [if_neg h3]
        by_cases h4 : q' y.1 = true
        · rw [if_pos h4]; omega
        · rw [if_neg h4]; exact ih
/-- the keys of a list before a key -/
def QB (a κ : Nat) (k : Nat) : Bool := decide (kL k = a) && decide (k < κ)
theorem QB_t {a κ k : Nat} : QB a κ k = true ↔ kL k = a ∧ k < κ := by
  unfold QB
  rw [Bool.and_eq_true, decide_eq_true_iff, decide_eq_true_iff]
theorem QB_f {a κ k : Nat} : QB a κ k = false ↔ ¬ (kL k = a ∧ k < κ) := by
  rw [← QB_t]; exact Bool.not_eq_true _ ▸ Iff.rfl
/-- x is the i-th of list a -/
def nthE (E : List En) (a i : Nat) (x : En) : Prop := x ∈ E ∧ kL x.1 = a ∧ cntE (QB a x.1) E = i
theorem nth_lt {E : List En} {a i : Nat} {x : En} (h : nthE E a i x) : i < cntE (fun k => decide (kL k = a)) E := by
  rw [← h.2.2]
  exact cntE_lt (fun y _ hy => decide_eq_true (QB_t.mp hy).1) h.1 (QB_f.mpr (fun hh => Nat.lt_irrefl _ hh.2)) (decide_eq_true h.2.1)
theorem nth_uniq {E : List En} {a i : Nat} {x y : En} (h : nthE E a i x) (h2 : nthE E a i y) : x.1 = y.1 := by
  have hlt : ∀ {x y : En}, nthE E a i x → nthE E a i y → ¬ x.1 < y.1 := by
    intro x y h h2 hh
    have h3 := cntE_lt (q := QB a x.1) (q' := QB a y.1) (E := E) (x := x) (fun z _ hz => by
      have := QB_t.mp hz
      exact QB_t.mpr ⟨this.1, by omega⟩) h.1 (QB_f.mpr (fun hh => Nat.lt_irrefl _ hh.2)) (QB_t.mpr ⟨h.2.1, hh⟩)
    rw [h.2.2, h2.2.2] at h3
    omega
  have h3 := hlt h h2
  have h4 := hlt h2 h
  omega
/-- the i-th of a list, in its place -/
theorem part_E {a : Nat} : ∀ {E : List En}, Sor E → (∀ x ∈ E, anyI (nI a) (nI (kL x.1)) = decide (kL x.1 = a)) → ∀ i, i < cntE (fun k => decide (kL k = a)) E → ∃ j x, firstN (fun e => anyI (nI a) e.1) (E.map co) = some j ∧ E[j + i]? = some x ∧ nthE E a i x
  | [], _, _, i, h => absurd h (Nat.not_lt_zero _)
  | x :: E, hs, ha, i, h => by
    have hax := ha x List.mem_cons_self
    have hae : ∀ y ∈ E, anyI (nI a) (nI (kL y.1)) = decide (kL y.1 = a) := fun y hy => ha y (List.mem_cons_of_mem _ hy)
    rw [cntE] at h
    rw [List.map_cons, firstN, show anyI (nI a) (co x).1 = anyI (nI a) (nI (kL x.1)) from rfl, hax]
    by_cases h1 : kL x.1 = a
    · rw [decide_eq_true h1, if_pos rfl]
      rw [decide_eq_true h1, if_pos rfl] at h
      refine ⟨0, ?_⟩
      cases i with
      | zero =>
        refine ⟨x, rfl, rfl, List.mem_cons_self, h1, ?_⟩
        refine cntE_zero (fun y hy => QB_f.mpr (fun hh => ?_))
        cases List.mem_cons.mp hy with
        | inl e => rw [e] at hh; exact Nat.lt_irrefl _ hh.2
        | inr e => have := hs.1 y e; omega
      | succ i =>
        obtain ⟨j, y, h2, h3, h4, h5, h6⟩ := part_E hs.2 hae i (by omega)
        have hj : j = 0 := by
          cases hE : E with
          | nil => rw [hE] at h4; cases h4
          | cons z E' =>
            rw [hE] at h2 h4 hs hae
            have hz1 := hs.1 z List.mem_cons_self
            have hzy : z.1 ≤ y.1 := by
              cases List.mem_cons.mp h4 with
              | inl e => rw [e]; exact Nat.le_refl _
              | inr e => exact Nat.le_of_lt (hs.2.1 y e)
            have hz : kL z.1 = a := by
              unfold kL at h1 h5 ⊢
              omega
            rw [List.map_cons, firstN, show anyI (nI a) (co z).1 = anyI (nI a) (nI (kL z.1)) from rfl, hae z List.mem_cons_self, decide_eq_true hz, if_pos rfl] at h2
            exact (Option.some.inj h2).symm
        subst hj
        rw [Nat.zero_add] at h3
        refine ⟨y, rfl, by rw [Nat.zero_add, List.getElem?_cons_succ]; exact h3, List.mem_cons_of_mem _ h4, h5, ?_⟩
        rw [cntE, QB_t.mpr ⟨h1, hs.1 y h4⟩, if_pos rfl, h6]
    · rw [decide_eq_false h1, if_neg Bool.false_ne_true]
      rw [decide_eq_false h1, if_neg Bool.false_ne_true] at h
      obtain ⟨j, y, h2, h3, h4, h5, h6⟩ := part_E hs.2 hae i h
      refine ⟨j + 1, y, by rw [h2]; rfl, by rw [show j + 1 + i = (j + i) + 1 by omega, List.getElem?_cons_succ]; exact h3, List.mem_cons_of_mem _ h4, h5, ?_⟩
      rw [cntE, QB_f.mpr (fun hh => h1 hh.1), if_neg Bool.false_ne_true, h6]
/-- a part of the i-th of a list, in the class -/
theorem C_nth {E : List En} {z : Int32} {gl gd gc gp : Nat → Int32} (H : CoE E z gl gd gc gp) {a i : Nat} (ha : a < 16) (hi : i < cntE (fun k => decide (kL k = a)) E) {N : Nat} (hN : 1024 < N) : ∃ x, nthE E a i x ∧ ∀ x3, f_X1_part N (nI a) (nI i) x3 1024 1024 1024 1024 z gl gd gc gp = some (if x3 = 0 then nI x.2 else if x3 = 1 then nI (kD x.1) else cI (kC x.1)) := by
  obtain ⟨j, x, h1, h2, h3⟩ := part_E H.2.1 (fun x hx => anyI_nI (by omega) (by have := (H.2.2.1 x hx).1.1; omega)) i hi
  exact ⟨x, h3, fun x3 => by rw [X1_part_in H.1 (nI a) hN h1 (map_get h2) x3]; rfl⟩
theorem QB_step {a κ κ' i : Nat} {E : List En} (hs : Sor E) (hv : ∀ x ∈ E, 1 ≤ x.2) (h1 : kL κ = a) (h : ∀ x ∈ E, kL x.1 = a → (x.1 < κ' ↔ (x.1 < κ ∨ x.1 = κ))) : cntE (QB a κ') E = cntE (QB a κ) E + (if pt E κ = 0 then 0 else 1) := by
  refine cntE_or (QB_f.mpr (fun hh => Nat.lt_irrefl _ hh.2)) hs hv (fun x hx => ?_)
  unfold QB
  by_cases h2 : kL x.1 = a
  · have h3 := h x hx h2
    rw [decide_eq_true h2, Bool.true_and, Bool.true_and, ← Bool.decide_or]
    exact decide_eq_decide.mpr h3
  · rw [decide_eq_false h2, Bool.false_and, Bool.false_and, decide_eq_false (fun hh => h2 (by rw [hh]; exact h1))]; rfl
theorem nth_at {E : List En} {a κ : Nat} (h1 : kL κ = a) (h2 : pt E κ ≠ 0) : ∃ x, nthE E a (cntE (QB a κ) E) x ∧ x.1 = κ ∧ x.2 = pt E κ := by
  obtain ⟨x, a1, a2, a3⟩ := pt_pos h2
  exact ⟨x, ⟨a1, by rw [a2, h1], by rw [a2]⟩, a2, a3⟩
theorem nI_eqz {n : Nat} (h : n < 2 ^ 31) : nI n = (0 : Int32) ↔ n = 0 := by rw [show (0 : Int32) = nI 0 from rfl]; exact nI_eq h (by decide)
/-- the day of the i-th of an account -/
theorem M_cohortDay {v : Nat → Nat} {d m i : Nat} {E : List En} {g : Nat → Int32} (hV : SV v) (H : MC d E g) (hs : Sor E) (hv : ∀ x ∈ E, VK x.1 ∧ 1 ≤ x.2) (hP : sumP E < 2 ^ 31) (hE : EV v d E) (hd : d ≤ 9999) (h0 : g 0 = nI d) (hm : m < 12) (hi : i < 2 ^ 31) {N : Nat} (hN : 2000 < N) : (∀ x, nthE E m i x → f_X11_cohortDay N (nI m) (nI i) 72470 g = some (nI (kD x.1))) ∧ (cntE (fun k => decide (kL k = m)) E ≤ i → f_X11_cohortDay N (nI m) (nI i) 72470 g = some (-1)) := by
  have hv5 := hV.2.1.2.1
  have hloop : ∀ (n j : Nat), j ≤ 1000 → 1000 < n + j → cntE (QB m (mkK m (d + 1 + j) 0)) E ≤ i → (∀ x, nthE E m i x → f_X11_cohortDay_b10 (nI m) 72470 g n (nI (i - cntE (QB m (mkK m (d + 1 + j) 0)) E)) (nI (d + 1 + j)) = some (nI (kD x.1))) ∧ (cntE (fun k => decide (kL k = m)) E ≤ i → f_X11_cohortDay_b10 (nI m) 72470 g n (nI (i - cntE (QB m (mkK m (d + 1 + j) 0)) E)) (nI (d + 1 + j)) = some (-1)) := by
    intro n
    induction n with
    | zero => intro j h1 h2; omega
    | succ n ih =>
      intro j h1 h2 h3
      rw [f_X11_cohortDay_b10, M_last h0 hd, Option.bind_some]
      by_cases h4 : j = 1000
      · rw [if_pos ((nI_ltI (by omega) (by omega)).mpr (by omega))]
        refine ⟨fun x hx => ?_, fun _ => rfl⟩
        have h5 := nth_lt hx
        have h6 : cntE (fun k => decide (kL k = m)) E ≤ cntE (QB m (mkK m (d + 1 + j) 0)) E := cntE_mono (fun y hy hq => by
          have h7 := of_decide_eq_true hq
          have h8 := (hE y hy).1
          refine QB_t.mpr ⟨h7, ?_⟩
          have h9 := mk_k y.1
          have h10 := kC_lt y.1
          unfold mkK at h9 ⊢
          rw [h7] at h9
          omega)
        omega
      · have g1 := grd (i := acI m (d + 1 + j)) (n := 72470) (by unfold acI; omega) (by decide)
        have hkl : kL (mkK m (d + 1 + j) 0) = m := kL_mk (by omega) (by omega)
        have hpl := pt_le_sum (k := mkK m (d + 1 + j) 0) (E := E)
        have hst := QB_step (a := m) (κ := mkK m (d + 1 + j) 0) (κ' := mkK m (d + 1 + (j + 1)) 0) (i := i) hs (fun x hx => (hv x hx).2) hkl (fun x hx h7 => by
          have h8 := (hv x hx).1.2.2.1 (by omega)
          have h9 := mk_k x.1
          rw [h7, h8] at h9
          unfold mkK at h9 ⊢
          omega)
        rw [if_neg (fun hh => by have := (nI_ltI (by omega) (by omega)).mp hh; omega), M_accountAt (by omega), Option.bind_some, if_neg g1, nI_clamp (by unfold acI; omega), H.1 m _ hm (by omega) (by omega)]
        have hn := ih (j + 1) (by omega) (by omega)
        by_cases h5 : pt E (mkK m (d + 1 + j) 0) = 0
        · rw [if_pos (by rw [h5]; rfl), nI_1, Option.bind_some]
          rw [if_pos h5, Nat.add_zero] at hst
          rw [hst] at hn
          exact hn h3
        · rw [if_neg (fun hh => h5 ((nI_eqz (by omega)).mp hh))]
          rw [if_neg h5] at hst
          obtain ⟨y, y1, y2, y3⟩ := nth_at hkl h5
          by_cases h6 : cntE (QB m (mkK m (d + 1 + j) 0)) E = i
          · rw [if_pos (by rw [h6, Nat.sub_self]; rfl)]
            rw [h6] at y1
            refine ⟨fun x hx => ?_, fun hh => ?_⟩
            · rw [nth_uniq hx y1, y2, kD_mk (by omega) (by omega)]
            · have := nth_lt y1; omega
          · rw [if_neg (fun hh => by have := (nI_eqz (by omega)).mp hh; omega), ← Int32.sub_eq_add_neg, show (1 : Int32) = nI 1 from rfl, nI_subI (by omega), Option.bind_some, nI_add, Option.bind_some, show i - cntE (QB m (mkK m (d + 1 + j) 0)) E - 1 = i - cntE (QB m (mkK m (d + 1 + (j + 1)) 0)) E by omega]
            exact hn (by omega)
  unfold f_X11_cohortDay
  rw [M_today, Option.bind_some, h0, nI_1, Option.bind_some]
  have h00 : cntE (QB m (mkK m (d + 1 + 0) 0)) E = 0 := cntE_zero (fun x hx => QB_f.mpr (fun hh => by
    have h8 := (hE x hx).1
    have h9 := mk_k x.1
    rw [hh.1] at h9
    have h10 := hh.2
    unfold mkK at h9 h10
    omega))
  have h1 := hloop N 0 (by omega) (by omega) (by omega)
  rw [h00] at h1
  exact h1


