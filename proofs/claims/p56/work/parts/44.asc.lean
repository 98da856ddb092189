/-- an entry of the books' points: its key, its points -/
abbrev En : Type := Nat × Nat
/-- the keys grow -/
def Sor : List En → Prop
  | [] => True
  | x :: E => (∀ y ∈ E, x.1 < y.1) ∧ Sor E
/-- the points of a key -/
def pt : List En → Nat → Nat
  | [], _ => 0
  | x :: E, k => if x.1 = k then x.2 else pt E k
/-- all points -/
def sumP : List En → Nat
  | [] => 0
  | x :: E => x.2 + sumP E
theorem pt_none {k : Nat} : ∀ {E : List En}, (∀ y ∈ E, ¬ y.1 = k) → pt E k = 0
  | [], _ => rfl
  | x :: E, h => by
    rw [pt, if_neg (h x List.mem_cons_self)]
    exact pt_none (fun y hy => h y (List.mem_cons_of_mem _ hy))
theorem pt_mem {x : En} : ∀ {E : List En}, Sor E → x ∈ E → pt E x.1 = x.2
  | [], _, h => nomatch h
  | y :: E, hs, h => by
    rw [pt]
    cases List.mem_cons.mp h with
    | inl h2 => subst h2; rw [if_pos rfl]
    | inr h2 =>
      have := hs.1 x h2
      rw [if_neg (by omega)]
      exact pt_mem hs.2 h2
theorem pt_pos {k : Nat} : ∀ {E : List En}, pt E k ≠ 0 → ∃ x ∈ E, x.1 = k ∧ x.2 = pt E k
  | [], h => absurd rfl h
  | y :: E, h => by
    rw [pt] at h ⊢
    by_cases h2 : y.1 = k
    · rw [if_pos h2] at h ⊢
      exact ⟨y, List.mem_cons_self, h2, rfl⟩
    · rw [if_neg h2] at h ⊢
      obtain ⟨x, a, b, c⟩ := pt_pos h
      exact ⟨x, List.mem_cons_of_mem _ a, b, c⟩
theorem pt_le_sum {k : Nat} : ∀ {E : List En}, pt E k ≤ sumP E
  | [] => Nat.le_refl 0
  | x :: E => by
    rw [pt, sumP]
    have := pt_le_sum (k := k) (E := E)
    by_cases h : x.1 = k
    · rw [if_pos h]; omega
    · rw [if_neg h]; omega
theorem mem_le_sum {x : En} : ∀ {E : List En}, x ∈ E → x.2 ≤ sumP E
  | [], h => nomatch h
  | y :: E, h => by
    rw [sumP]
    cases List.mem_cons.mp h with
    | inl h2 => subst h2; omega
    | inr h2 => have := mem_le_sum h2; omega
/-- some points more for a key -/
def putE (k p : Nat) : List En → List En
  | [] => [(k, p)]
  | x :: E => if x.1 < k then x :: putE k p E else if x.1 = k then (k, x.2 + p) :: E else (k, p) :: x :: E
theorem putE_mem {k p : Nat} {y : En} : ∀ {E : List En}, y ∈ putE k p E → (y.1 = k ∧ p ≤ y.2) ∨ y ∈ E
  | [], h => by rw [putE, List.mem_singleton] at h; rw [h]; exact Or.inl ⟨rfl, Nat.le_refl _⟩
  | x :: E, h => by
    rw [putE] at h
    by_cases h1 : x.1 < k
    · rw [if_pos h1] at h
      cases List.mem_cons.mp h with
      | inl h2 => exact Or.inr (h2 ▸ List.mem_cons_self)
      | inr h2 => exact (putE_mem h2).imp id (List.mem_cons_of_mem _)
    · rw [if_neg h1] at h
      by_cases h3 : x.1 = k
      · rw [if_pos h3] at h
        cases List.mem_cons.mp h with
        | inl h2 => rw [h2]; exact Or.inl ⟨rfl, Nat.le_add_left _ _⟩
        | inr h2 => exact Or.inr (List.mem_cons_of_mem _ h2)
      · rw [if_neg h3] at h
        cases List.mem_cons.mp h with
        | inl h2 => rw [h2]; exact Or.inl ⟨rfl, Nat.le_refl _⟩
        | inr h2 => exact Or.inr h2
theorem putE_sor {k p : Nat} : ∀ {E : List En}, Sor E → Sor (putE k p E)
  | [], _ => ⟨(fun y h => nomatch h), trivial⟩
  | x :: E, hs => by
    rw [putE]
    by_cases h1 : x.1 < k
    · rw [if_pos h1]
      refine ⟨fun y hy => ?_, putE_sor hs.2⟩
      cases putE_mem hy with
      | inl h2 => rw [h2.1]; exact h1
      | inr h2 => exact hs.1 y h2
    · rw [if_neg h1]
      by_cases h3 : x.1 = k
      · rw [if_pos h3]
        exact ⟨fun y hy => h3 ▸ hs.1 y hy, hs.2⟩
      · rw [if_neg h3]
        refine ⟨fun y hy => ?_, hs⟩
        cases List.mem_cons.mp hy with
        | inl h2 => rw [h2]; show k < x.1; omega
        | inr h2 => have := hs.1 y h2; show k < y.1; omega
theorem putE_pt {k p j : Nat} : ∀ {E : List En}, Sor E → pt (putE k p E) j = if j = k then pt E k + p else pt E j
  | [], _ => by
    show (if k = j then p else 0) = if j = k then 0 + p else 0
    by_cases h : j = k
    · rw [if_pos h, if_pos h.symm, Nat.zero_add]
    · rw [if_neg h, if_neg (fun hh => h hh.symm)]
  | x :: E, hs => by
    have ih := putE_pt (k := k) (p := p) (j := j) hs.2
    have h0 : x.1 ≥ k → ¬ x.1 = k → pt E k = 0 := fun a b => pt_none (fun y hy => by have := hs.1 y hy; omega)
    rw [putE]
    by_cases h1 : x.1 < k
    · rw [if_pos h1, pt, ih, pt, pt]
      by_cases h : j = k
      · simp only [h, if_true]; rw [if_neg (by omega), if_neg (by omega)]
      · simp only [h, if_false]
    · rw [if_neg h1]
      by_cases h3 : x.1 = k
      · rw [if_pos h3, pt, pt, pt]
        by_cases h : j = k
        · simp only [h, if_true, h3]
        · simp only [h, if_false, h3]
          rw [if_neg (fun hh => h hh.symm), if_neg (fun hh => h hh.symm)]
      · have h4 : pt (x :: E) k = 0 := by rw [pt, if_neg h3, h0 (by omega) h3]
        rw [if_neg h3, pt, h4]
        show (if k = j then p else pt (x :: E) j) = _
        by_cases h : j = k
        · subst h
          rw [if_pos rfl, if_pos rfl, Nat.zero_add]
        · rw [if_neg h, if_neg (fun hh => h hh.symm)]
theorem putE_length {k p : Nat} : ∀ {E : List En}, (putE k p E).length ≤ E.length + 1
  | [] => Nat.le_refl _
  | x :: E => by
    rw [putE]
    have := putE_length (k := k) (p := p) (E := E)
    by_cases h1 : x.1 < k
    · rw [if_pos h1, List.length_cons, List.length_cons]; omega
    · rw [if_neg h1]
      by_cases h3 : x.1 = k
      · rw [if_pos h3, List.length_cons, List.length_cons]; omega
      · rw [if_neg h3, List.length_cons, List.length_cons]; omega
theorem putE_sum {k p : Nat} : ∀ {E : List En}, sumP (putE k p E) = sumP E + p
  | [] => by show p + 0 = 0 + p; omega
  | x :: E => by
    rw [putE]
    have := putE_sum (k := k) (p := p) (E := E)
    by_cases h1 : x.1 < k
    · rw [if_pos h1, sumP, sumP]; omega
    · rw [if_neg h1]
      by_cases h3 : x.1 = k
      · rw [if_pos h3, sumP, sumP]; show x.2 + p + sumP E = _; omega
      · rw [if_neg h3, sumP, sumP]; show p + (x.2 + sumP E) = _; omega
/-- the first entry that a question of keys names -/
def fstE (q : Nat → Bool) : List En → Option En
  | [] => none
  | x :: E => if q x.1 = true then some x else fstE q E
/-- what stays when the first that a question names gives what it has of what is wanted -/
def takeE (q : Nat → Bool) (w : Nat) : List En → List En
  | [] => []
  | x :: E => if q x.1 = true then (if x.2 ≤ w then E else (x.1, x.2 - w) :: E) else x :: takeE q w E
theorem fstE_none {q : Nat → Bool} : ∀ {E : List En}, fstE q E = none ↔ ∀ y ∈ E, q y.1 = false
  | [] => ⟨fun _ y h => (by cases h), fun _ => rfl⟩
  | x :: E => by
    rw [fstE]
    cases h : q x.1 with
    | true =>
      rw [if_pos rfl]
      exact ⟨fun hh => (nomatch hh), fun hh => by rw [hh x List.mem_cons_self] at h; cases h⟩
    | false =>
      rw [if_neg Bool.false_ne_true, fstE_none (E := E)]
      refine ⟨fun a y hy => ?_, fun a y hy => a y (List.mem_cons_of_mem _ hy)⟩
      cases List.mem_cons.mp hy with
      | inl h2 => rw [h2]; exact h
      | inr h2 => exact a y h2
theorem fstE_some {q : Nat → Bool} {x : En} : ∀ {E : List En}, Sor E → fstE q E = some x → x ∈ E ∧ q x.1 = true ∧ ∀ y ∈ E, q y.1 = true → x.1 ≤ y.1
  | [], _, h => nomatch h
  | z :: E, hs, h => by
    rw [fstE] at h
    cases hq : q z.1 with
    | true =>
      rw [hq, if_pos rfl] at h
      cases h
      refine ⟨List.mem_cons_self, hq, fun y hy _ => ?_⟩
      cases List.mem_cons.mp hy with
      | inl h2 => rw [h2]; exact Nat.le_refl _
      | inr h2 => exact Nat.le_of_lt (hs.1 y h2)
    | false =>
      rw [hq, if_neg Bool.false_ne_true] at h
      obtain ⟨a, b, c⟩ := fstE_some hs.2 h
      refine ⟨List.mem_cons_of_mem _ a, b, fun y hy hy2 => ?_⟩
      cases List.mem_cons.mp hy with
      | inl h2 => rw [h2, hq] at hy2; cases hy2
      | inr h2 => exact c y h2 hy2
/-- the least key that a question names is its first entry's -/
theorem fstE_hit {q : Nat → Bool} {E : List En} (hs : Sor E) {x : En} (hx : x ∈ E) (hq : q x.1 = true) (hm : ∀ y ∈ E, q y.1 = true → x.1 ≤ y.1) : fstE q E = some x := by
  cases h : fstE q E with
  | none => rw [fstE_none.mp h x hx] at hq; cases hq
  | some z =>
    obtain ⟨a, b, c⟩ := fstE_some hs h
    have h1 := c x hx hq
    have h2 := hm z a b
    have h3 : z.1 = x.1 := by omega
    have h4 := pt_mem hs a
    have h5 := pt_mem hs hx
    rw [h3, h5] at h4
    rw [show z = x from Prod.ext h3 h4.symm]
theorem takeE_mem {q : Nat → Bool} {w : Nat} {y : En} : ∀ {E : List En}, y ∈ takeE q w E → ∃ z ∈ E, z.1 = y.1 ∧ y.2 ≤ z.2 ∧ (1 ≤ z.2 → 1 ≤ y.2)
  | [], h => nomatch h
  | x :: E, h => by
    rw [takeE] at h
    cases hq : q x.1 with
    | true =>
      rw [hq, if_pos rfl] at h
      by_cases h1 : x.2 ≤ w
      · rw [if_pos h1] at h
        exact ⟨y, List.mem_cons_of_mem _ h, rfl, Nat.le_refl _, id⟩
      · rw [if_neg h1] at h
        cases List.mem_cons.mp h with
        | inl h2 => rw [h2]; exact ⟨x, List.mem_cons_self, rfl, Nat.sub_le _ _, fun _ => by show 1 ≤ x.2 - w; omega⟩
        | inr h2 => exact ⟨y, List.mem_cons_of_mem _ h2, rfl, Nat.le_refl _, id⟩
    | false =>
      rw [hq, if_neg Bool.false_ne_true] at h
      cases List.mem_cons.mp h with
      | inl h2 => rw [h2]; exact ⟨x, List.mem_cons_self, rfl, Nat.le_refl _, id⟩
      | inr h2 =>
        obtain ⟨z, a, b⟩ := takeE_mem h2
        exact ⟨z, List.mem_cons_of_mem _ a, b⟩
theorem takeE_sor {q : Nat → Bool} {w : Nat} : ∀ {E : List En}, Sor E → Sor (takeE q w E)
  | [], _ => trivial
  | x :: E, hs => by
    rw [takeE]
    cases hq : q x.1 with
    | true =>
      rw [if_pos rfl]
      by_cases h1 : x.2 ≤ w
      · rw [if_pos h1]; exact hs.2
      · rw [if_neg h1]; exact ⟨hs.1, hs.2⟩
    | false =>
      rw [if_neg Bool.false_ne_true]
      refine ⟨fun y hy => ?_, takeE_sor hs.2⟩
      obtain ⟨z, a, b, _⟩ := takeE_mem hy
      have := hs.1 z a
      omega
theorem takeE_pt {q : Nat → Bool} {w j : Nat} {x : En} : ∀ {E : List En}, Sor E → fstE q E = some x → pt (takeE q w E) j = if j = x.1 then x.2 - w else pt E j
  | [], _, h => nomatch h
  | z :: E, hs, h => by
    rw [fstE] at h
    rw [takeE]
    cases hq : q z.1 with
    | true =>
      rw [hq, if_pos rfl] at h
      cases h
      rw [if_pos rfl]
      by_cases h1 : x.2 ≤ w
      · rw [if_pos h1, pt]
        by_cases h2 : j = x.1
        · rw [if_pos h2, pt_none (fun y hy => by have := hs.1 y hy; omega)]; omega
        · rw [if_neg h2, if_neg (fun hh => h2 hh.symm)]
      · rw [if_neg h1, pt, pt]
        by_cases h2 : j = x.1
        · rw [if_pos h2, if_pos h2.symm]
        · rw [if_neg h2, if_neg (fun hh => h2 hh.symm), if_neg (fun hh => h2 hh.symm)]
    | false =>
      rw [hq, if_neg Bool.false_ne_true] at h
      rw [if_neg Bool.false_ne_true, pt, pt, takeE_pt hs.2 h]
      have h3 := (fstE_some hs.2 h).1
      have h4 := hs.1 x h3
      by_cases h2 : j = x.1
      · rw [if_pos h2, if_pos h2, if_neg (by omega)]
      · rw [if_neg h2, if_neg h2]
theorem takeE_sum {q : Nat → Bool} {w : Nat} {x : En} : ∀ {E : List En}, fstE q E = some x → sumP (takeE q w E) + min x.2 w = sumP E
  | [], h => nomatch h
  | z :: E, h => by
    rw [fstE] at h
    rw [takeE, sumP]
    cases hq : q z.1 with
    | true =>
      rw [hq, if_pos rfl] at h
      cases h
      rw [if_pos rfl]
      by_cases h1 : x.2 ≤ w
      · rw [if_pos h1, Nat.min_eq_left h1]; omega
      · rw [if_neg h1, sumP, Nat.min_eq_right (by omega)]
        show x.2 - w + sumP E + w = _
        omega
    | false =>
      rw [hq, if_neg Bool.false_ne_true] at h
      rw [if_neg Bool.false_ne_true, sumP]
      have := takeE_sum (w := w) h
      omega
theorem takeE_length {q : Nat → Bool} {w : Nat} : ∀ {E : List En}, (takeE q w E).length ≤ E.length
  | [] => Nat.le_refl 0
  | x :: E => by
    rw [takeE]
    have := takeE_length (q := q) (w := w) (E := E)
    cases hq : q x.1 with
    | true =>
      rw [if_pos rfl]
      by_cases h1 : x.2 ≤ w
      · rw [if_pos h1, List.length_cons]; omega
      · rw [if_neg h1]; exact Nat.le_refl _
    | false => rw [if_neg Bool.false_ne_true, List.length_cons, List.length_cons]; omega
/-- a sum of weights over the entries that a question of keys names -/
def sumW (W : Nat → Nat → Int32) (q : Nat → Bool) : List En → Int32
  | [] => 0
  | x :: E => if q x.1 = true then W x.1 x.2 + sumW W q E else sumW W q E
theorem sumW_congr {W : Nat → Nat → Int32} {q q' : Nat → Bool} : ∀ {E : List En}, (∀ x ∈ E, q x.1 = q' x.1) → sumW W q E = sumW W q' E
  | [], _ => rfl
  | x :: E, h => by
    rw [sumW, sumW, h x List.mem_cons_self, sumW_congr (fun y hy => h y (List.mem_cons_of_mem _ hy))]
theorem sumW_none {W : Nat → Nat → Int32} {q : Nat → Bool} : ∀ {E : List En}, (∀ x ∈ E, q x.1 = false) → sumW W q E = 0
  | [], _ => rfl
  | x :: E, h => by
    rw [sumW, h x List.mem_cons_self, if_neg Bool.false_ne_true, sumW_none (fun y hy => h y (List.mem_cons_of_mem _ hy))]
/-- one key more -/
theorem sumW_or {W : Nat → Nat → Int32} {q q' : Nat → Bool} {k : Nat} (hk : q k = false) : ∀ {E : List En}, Sor E → (∀ x ∈ E, 1 ≤ x.2) → (∀ x ∈ E, q' x.1 = (q x.1 || decide (x.1 = k))) → sumW W q' E = sumW W q E + (if pt E k = 0 then 0 else W k (pt E k))
  | [], _, _, _ => by rw [sumW, sumW, pt, if_pos rfl]; rfl
  | x :: E, hs, hp, h => by
    have h1 := h x List.mem_cons_self
    have h2 := hp x List.mem_cons_self
    have ih := sumW_or (W := W) hk hs.2 (fun y hy => hp y (List.mem_cons_of_mem _ hy)) (fun y hy => h y (List.mem_cons_of_mem _ hy))
    rw [sumW, sumW, pt]
    by_cases h3 : x.1 = k
    · have h4 : pt E k = 0 := pt_none (fun y hy => by have := hs.1 y hy; omega)
      rw [h4, if_pos rfl, Int32.add_zero] at ih
      rw [h1, h3, hk, ih, if_neg Bool.false_ne_true]
      simp only [decide_true, Bool.or_true, if_true]
      rw [if_neg (by omega), Int32.add_comm]
    · rw [if_neg h3, h1, ih]
      simp only [h3, decide_false, Bool.or_false]
      by_cases h5 : q x.1 = true
      · rw [if_pos h5, if_pos h5, Int32.add_assoc]
      · rw [if_neg h5, if_neg h5]
theorem pt_filter {f : Nat → Bool} {k : Nat} : ∀ {E : List En}, pt (E.filter (fun x => f x.1)) k = if f k = true then pt E k else 0
  | [] => by rw [List.filter_nil, pt]; exact (ite_self 0).symm
  | x :: E => by
    cases h : f x.1 with
    | true =>
      rw [List.filter_cons_of_pos (by simpa using h), pt, pt, pt_filter]
      by_cases h2 : x.1 = k
      · rw [if_pos h2, if_pos h2, if_pos (h2 ▸ h)]
      · rw [if_neg h2, if_neg h2]
    | false =>
      rw [List.filter_cons_of_neg (by simpa using h), pt, pt_filter]
      by_cases h2 : x.1 = k
      · rw [h2] at h
        rw [h, if_neg Bool.false_ne_true, if_neg Bool.false_ne_true]
      · rw [if_neg h2]
theorem sor_filter {f : En → Bool} : ∀ {E : List En}, Sor E → Sor (E.filter f)
  | [], _ => trivial
  | x :: E, hs => by
    cases h : f x with
    | true =>
      rw [List.filter_cons_of_pos h]
      exact ⟨fun y hy => hs.1 y (List.mem_filter.mp hy).1, sor_filter hs.2⟩
    | false =>
      rw [List.filter_cons_of_neg (by simpa using h)]
      exact sor_filter hs.2

