/-- the class's cohorts are the entries -/
def CoE (E : List En) (z : Int32) (gl gd gc gp : Nat → Int32) : Prop := CoR (E.map co) z gl gd gc gp ∧ Sor E ∧ (∀ x ∈ E, VK x.1 ∧ 1 ≤ x.2) ∧ sumP E < 2 ^ 31
/-- a question of the class for keys: -2 is ANY -/
def qK (x1 x2 x3 : Int32) (k : Nat) : Bool := anyI x1 (nI (kL k)) && (anyI x2 (nI (kD k)) && anyI x3 (cI (kC k)))
theorem sumL_E {Q : Co → Bool} {q : Nat → Bool} : ∀ {E : List En}, (∀ x ∈ E, Q (co x) = q x.1) → sumL Q (E.map co) = sumW (fun _ p => nI p) q E
  | [], _ => rfl
  | x :: E, h => by rw [List.map_cons, sumL, sumW, h x List.mem_cons_self, sumL_E (fun y hy => h y (List.mem_cons_of_mem _ hy))]; rfl
theorem countL_E {Q : Co → Bool} {q : Nat → Bool} : ∀ {E : List En}, (∀ x ∈ E, Q (co x) = q x.1) → countL Q (E.map co) = cntE q E
  | [], _ => rfl
  | x :: E, h => by rw [List.map_cons, countL, cntE, h x List.mem_cons_self, countL_E (fun y hy => h y (List.mem_cons_of_mem _ hy))]
theorem E_sum {E : List En} {z : Int32} {gl gd gc gp : Nat → Int32} (H : CoE E z gl gd gc gp) (x1 x2 : Int32) {N : Nat} (hN : 1024 < N) : f_X1_sum N x1 x2 1024 1024 1024 z gl gc gp = some (nI (sumQ (qK x1 (-2) x2) E)) := by
  rw [X1_sum_in H.1 x1 x2 hN, sumL_E (q := qK x1 (-2) x2) (fun x _ => by unfold qK; rw [anyI_any (x := -2) (y := nI (kD x.1)) rfl, Bool.true_and]; rfl), sumW_Q]
theorem E_number {E : List En} {z : Int32} {gl gd gc gp : Nat → Int32} (H : CoE E z gl gd gc gp) (x1 : Int32) {N : Nat} (hN : 1024 < N) : f_X1_number N x1 1024 z gl = some (nI (cntE (qK x1 (-2) (-2)) E)) := by
  rw [X1_number_in H.1 x1 hN, countL_E (q := qK x1 (-2) (-2)) (fun x _ => by unfold qK; rw [anyI_any (x := -2) (y := nI (kD x.1)) rfl, anyI_any (x := -2) (y := cI (kC x.1)) rfl, Bool.true_and, Bool.and_true]; rfl)]
theorem E_sumUntil {E : List En} {z : Int32} {gl gd gc gp : Nat → Int32} (H : CoE E z gl gd gc gp) (x1 : Int32) (d : Nat) (hd : d < 2 ^ 31) {N : Nat} (hN : 1024 < N) : f_X1_sumUntil N x1 (nI d) 1024 1024 1024 z gl gd gp = some (nI (sumQ (fun k => qK x1 (-2) (-2) k && decide (kD k ≤ d)) E)) := by
  rw [X1_sumUntil_in H.1 x1 (nI d) hN, sumL_E (q := fun k => qK x1 (-2) (-2) k && decide (kD k ≤ d)) ?_, sumW_Q]
  intro x _
  have h2 := kD_lt x.1
  unfold qK
  rw [anyI_any (x := -2) (y := nI (kD x.1)) rfl, anyI_any (x := -2) (y := cI (kC x.1)) rfl, Bool.true_and, Bool.and_true]
  show (anyI x1 (nI (kL x.1)) && !decide (nI d < nI (kD x.1))) = _
  congr 1
  by_cases h : kD x.1 ≤ d
  · rw [decide_eq_true h, decide_eq_false (fun hh => by have := (nI_ltI hd (by omega)).mp hh; omega)]; rfl
  · rw [decide_eq_false h, decide_eq_true ((nI_ltI hd (by omega)).mpr (by omega))]; rfl
theorem map_get {E : List En} {j : Nat} {x : En} (h : E[j]? = some x) : (E.map co)[j]? = some (co x) := by rw [List.getElem?_map, h]; rfl
/-- the first that a question names, and the taking from it -/
theorem E_first {E : List En} {z : Int32} {gl gd gc gp : Nat → Int32} (H : CoE E z gl gd gc gp) (x1 x2 x3 : Int32) {N : Nat} (hN : 1024 < N) :
    (fstE (qK x1 x2 x3) E = none ∧ f_X1_first N x1 x2 x3 1024 1024 1024 z gl gd gc = some (-1)) ∨ ∃ j x, j < 1024 ∧ ¬ nI j = (-1 : Int32) ∧ E[j]? = some x ∧ x ∈ E ∧ fstE (qK x1 x2 x3) E = some x ∧ f_X1_first N x1 x2 x3 1024 1024 1024 z gl gd gc = some (nI j) ∧ gl j = nI (kL x.1) ∧ gd j = nI (kD x.1) ∧ gc j = cI (kC x.1) ∧ gp j = nI x.2 ∧ ∀ w, w < 2 ^ 31 → ∃ o, f_X1_take (nI j) (nI w) 1024 1024 1024 1024 z gl gd gc gp = some (nI (min x.2 w), o) ∧ CoE (takeE (qK x1 x2 x3) w E) o.1 o.2.1 o.2.2.1 o.2.2.2.1 o.2.2.2.2 := by
  have hf := X1_first_in H.1 x1 x2 x3 hN
  rw [firstL_N] at hf
  cases first_E (E := E) (Q := fun e => anyI x1 e.1 && (anyI x2 e.2.1 && anyI x3 e.2.2.1)) (q := qK x1 x2 x3) (fun x _ => rfl) with
  | inl h => exact Or.inl ⟨h.1, by rw [hf, h.2]; rfl⟩
  | inr h =>
    obtain ⟨j, x, a, b, c, d⟩ := h
    have hj : j < E.length := (List.getElem?_eq_some_iff.mp b).1
    have hl := H.1.1
    rw [List.length_map] at hl
    have hx : x ∈ E := List.mem_of_getElem? b
    have hx2 := mem_le_sum hx
    have hs := H.2.2.2
    obtain ⟨e1, e2, e3, e4⟩ := H.1.2.2 j (co x) (map_get b)
    have hne : ¬ nI j = (-1 : Int32) := by
      intro hh
      have h5 := nI_pos (n := j) (by omega)
      rw [hh] at h5
      exact h5 (by decide)
    refine Or.inr ⟨j, x, by omega, hne, b, hx, c, by rw [hf, a]; show some (nI (0 + j)) = _; rw [Nat.zero_add], e1, e2, e3, e4, fun w hw => ?_⟩
    obtain ⟨o, ho, hR⟩ := X1_take_in H.1 (map_get b) (nI w)
    refine ⟨o, ?_, ?_⟩
    · rw [ho, show (co x).2.2.2 = nI x.2 from rfl, minI_E (by omega) hw]
    · rw [d w hw (by omega)] at hR
      refine ⟨hR, takeE_sor H.2.1, ?_, ?_⟩
      · intro y hy
        obtain ⟨t, b1, b2, b3, b4⟩ := takeE_mem hy
        have := H.2.2.1 t b1
        exact ⟨b2 ▸ this.1, b4 this.2⟩
      · have := takeE_sum (w := w) c
        omega
/-- some points more, or none -/
def addE (k p : Nat) (E : List En) : List En := if p = 0 then E else putE k p E
theorem addE_sor {k p : Nat} {E : List En} (h : Sor E) : Sor (addE k p E) := by
  unfold addE
  by_cases hp : p = 0
  · rw [if_pos hp]; exact h
  · rw [if_neg hp]; exact putE_sor h
theorem addE_pt {k p j : Nat} {E : List En} (h : Sor E) : pt (addE k p E) j = if j = k then pt E k + p else pt E j := by
  unfold addE
  by_cases hp : p = 0
  · rw [if_pos hp, hp]
    by_cases hj : j = k
    · rw [if_pos hj, hj]; rfl
    · rw [if_neg hj]
  · rw [if_neg hp]; exact putE_pt h
theorem addE_sum {k p : Nat} {E : List En} : sumP (addE k p E) = sumP E + p := by
  unfold addE
  by_cases hp : p = 0
  · rw [if_pos hp, hp]; rfl
  · rw [if_neg hp]; exact putE_sum
theorem addE_length {k p : Nat} {E : List En} : (addE k p E).length ≤ E.length + 1 := by
  unfold addE
  by_cases hp : p = 0
  · rw [if_pos hp]; omega
  · rw [if_neg hp]; exact putE_length
theorem addE_mem {k p : Nat} {E : List En} {y : En} (h : y ∈ addE k p E) : (y.1 = k ∧ 1 ≤ y.2) ∨ y ∈ E := by
  unfold addE at h
  by_cases hp : p = 0
  · rw [if_pos hp] at h; exact Or.inr h
  · rw [if_neg hp] at h
    cases putE_mem h with
    | inl a => exact Or.inl ⟨a.1, by omega⟩
    | inr a => exact Or.inr a
theorem E_put {E : List En} {z : Int32} {gl gd gc gp : Nat → Int32} (H : CoE E z gl gd gc gp) {a e c p : Nat} (he : e < 16384) (hk : VK (mkK a e c)) (hc : c < 16) (hs : sumP E + p < 2 ^ 31) (hl : E.length < 1024) {N : Nat} (hN : 1024 < N) : ∃ o, f_X1_put N (nI a) (nI e) (cI c) (nI p) 1024 1024 1024 1024 z gl gd gc gp = some o ∧ CoE (addE (mkK a e c) p E) o.1 o.2.1 o.2.2.1 o.2.2.2.1 o.2.2.2.2 := by
  have ha : a < 16 := by have := hk.1; rwa [kL_mk he hc] at this
  unfold addE
  by_cases hp : p = 0
  · refine ⟨(z, gl, gd, gc, gp), ?_, by rw [if_pos hp]; exact H⟩
    unfold f_X1_put
    rw [hp, nI_0, if_neg (by decide)]
  · obtain ⟨o, ho, hR⟩ := X1_put_in H.1 (nI a) (nI e) (cI c) (nI p) (by rw [show (1 : Int32) = nI 1 from rfl, nI_leI (by omega) (by omega)]; omega) (by rw [List.length_map]; exact hl) hN
    rw [putL_E ha he hc (fun x hx => (H.2.2.1 x hx).1)] at hR
    refine ⟨o, ho, ?_⟩
    rw [if_neg hp]
    refine ⟨hR, putE_sor H.2.1, ?_, by rw [putE_sum]; exact hs⟩
    intro y hy
    cases putE_mem hy with
    | inl h => exact ⟨h.1 ▸ hk, by omega⟩
    | inr h => exact H.2.2.1 y h
/-- no effect -/
def actN (x : En) (n : Nat) (S : List En × Unit) : List En × Unit := S
theorem allL_E (q : Nat → Bool) (Q : Co → Bool) (hQ : ∀ x : En, Q (co x) = q x.1) : ∀ (r w : Nat) (E : List En), w < 2 ^ 31 → sumP E < 2 ^ 31 → allL Q r (nI w) (E.map co) = (nI (itG q actN r w (E, ())).1, (itG q actN r w (E, ())).2.1.map co)
  | 0, w, E, _, _ => rfl
  | r + 1, w, E, hw, hs => by
    rw [allL, itG]
    by_cases h : w = 0
    · rw [if_pos h, h, if_pos (by decide)]
    · have h2 : ¬ nI w ≤ 0 := by rw [← nI_0, nI_leI hw (by omega)]; omega
      rw [if_neg h, if_neg h2]
      cases first_E (E := E) (Q := Q) (q := q) (fun x _ => hQ x) with
      | inl h => rw [h.1, h.2]
      | inr h =>
        obtain ⟨j, x, a, b, c, d⟩ := h
        have hx := mem_le_sum (List.mem_of_getElem? b)
        rw [a, c]
        dsimp only
        rw [map_get b]
        dsimp only
        rw [d w hw (by omega), show (co x).2.2.2 = nI x.2 from rfl, minI_E (by omega) hw, nI_subI (Nat.min_le_right _ _)]
        have h3 := takeE_sum (w := w) c
        exact allL_E q Q hQ r _ _ (by omega) (by omega)
/-- what a giving without effect leaves -/
theorem itN_ok (q : Nat → Bool) : ∀ (r w : Nat) (S : List En × Unit), Sor S.1 → (∀ x ∈ S.1, VK x.1 ∧ 1 ≤ x.2) → Sor (itG q actN r w S).2.1 ∧ (∀ x ∈ (itG q actN r w S).2.1, VK x.1 ∧ 1 ≤ x.2) ∧ sumP (itG q actN r w S).2.1 + w = sumP S.1 + (itG q actN r w S).1 ∧ (itG q actN r w S).1 ≤ w ∧ (itG q actN r w S).2.1.length ≤ S.1.length ∧ (∀ k, q k = false → pt (itG q actN r w S).2.1 k = pt S.1 k) ∧ ∀ x ∈ (itG q actN r w S).2.1, ∃ y ∈ S.1, y.1 = x.1
  | 0, w, S, h1, h2 => ⟨h1, h2, rfl, Nat.le_refl _, Nat.le_refl _, fun _ _ => rfl, fun x hx => ⟨x, hx, rfl⟩⟩
  | r + 1, w, S, h1, h2 => by
    by_cases hw : w = 0
    · rw [hw, itG_zero]; exact ⟨h1, h2, rfl, Nat.le_refl _, Nat.le_refl _, fun _ _ => rfl, fun x hx => ⟨x, hx, rfl⟩⟩
    · cases hf : fstE q S.1 with
      | none => rw [itG_none _ _ _ _ _ hf]; exact ⟨h1, h2, rfl, Nat.le_refl _, Nat.le_refl _, fun _ _ => rfl, fun x hx => ⟨x, hx, rfl⟩⟩
      | some x =>
        rw [itG_some _ _ _ _ _ hw hf]
        have h3 := takeE_sum (w := w) hf
        have hl := takeE_length (q := q) (w := w) (E := S.1)
        obtain ⟨a, b, c, d, e, f, g⟩ := itN_ok q r (w - min x.2 w) (takeE q w S.1, S.2) (takeE_sor h1) (fun y hy => by
          obtain ⟨t, b1, b2, b3, b4⟩ := takeE_mem hy
          have := h2 t b1
          exact ⟨b2 ▸ this.1, b4 this.2⟩)
        have h4 := Nat.min_le_right x.2 w
        dsimp only at c e f g
        refine ⟨a, b, ?_, ?_, Nat.le_trans e hl, ?_, ?_⟩
        · unfold actN at *; omega
        · unfold actN at *; omega
        · intro k hk
          have h5 := f k hk
          rw [takeE_pt h1 hf] at h5
          rw [if_neg (fun hh => by have := (fstE_some h1 hf).2.1; rw [← hh, hk] at this; cases this)] at h5
          exact h5
        · intro y hy
          obtain ⟨t, b1, b2⟩ := g y hy
          obtain ⟨u, c1, c2, _⟩ := takeE_mem b1
          exact ⟨u, c1, by rw [c2, b2]⟩
theorem E_all {E : List En} {z : Int32} {gl gd gc gp : Nat → Int32} (H : CoE E z gl gd gc gp) (x1 x2 x3 : Int32) {w : Nat} (hw : w < 2 ^ 31) {N : Nat} (hN : 1024 < N) : ∃ o, f_X1_takeFromAll N x1 x2 x3 (nI w) 1024 1024 1024 1024 z gl gd gc gp = some (nI (w - (itG (qK x1 x2 x3) actN E.length w (E, ())).1), o) ∧ CoE (itG (qK x1 x2 x3) actN E.length w (E, ())).2.1 o.1 o.2.1 o.2.2.1 o.2.2.2.1 o.2.2.2.2 := by
  obtain ⟨o, ho, hR⟩ := X1_all_in H.1 x1 x2 x3 (nI w) hN
  rw [List.length_map, allL_E (qK x1 x2 x3) _ (fun x => rfl) E.length w E hw H.2.2.2] at ho hR
  obtain ⟨a, b, c, d, _⟩ := itN_ok (qK x1 x2 x3) E.length w (E, ()) H.2.1 H.2.2.1
  have hs := H.2.2.2
  dsimp only at c hR ho
  refine ⟨o, ?_, hR, a, b, by omega⟩
  rw [ho, nI_subI d]

