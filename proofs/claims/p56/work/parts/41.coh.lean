/-- a cohort: list, day, contributor, points -/
abbrev Co : Type := Int32 × Int32 × Int32 × Int32
/-- the class's cohorts are a list's -/
def CoR (L : List Co) (z : Int32) (gl gd gc gp : Nat → Int32) : Prop := L.length ≤ 1024 ∧ z = nI L.length ∧ ∀ (i : Nat) (e : Co), L[i]? = some e → gl i = e.1 ∧ gd i = e.2.1 ∧ gc i = e.2.2.1 ∧ gp i = e.2.2.2
/-- a question for a list's cohort: ANY is -2 -/
def anyI (x y : Int32) : Bool := if x = (-2 : Int32) then true else if y = x then true else false
/-- the points of those that a question names -/
def sumL (q : Co → Bool) : List Co → Int32
  | [] => 0
  | e :: L => if q e = true then e.2.2.2 + sumL q L else sumL q L
theorem X1_isIn_in {gl : Nat → Int32} {i : Nat} (x : Int32) (hi : i < 1024) : f_X1_isIn (nI i) x 1024 gl = some (if anyI x (gl i) = true then 1 else 0) := by
  unfold f_X1_isIn anyI
  rw [X6_at_in gl (by decide) hi]
  simp only [Option.bind_some]
  by_cases h : x = (-2 : Int32)
  · simp only [if_pos h, if_true]
  · simp only [if_neg h]
    by_cases h2 : gl i = x
    · simp only [if_pos h2, if_true]
    · simp only [if_neg h2]; rfl
theorem drop_cons' {α : Type} {L : List α} {i : Nat} (h : i < L.length) : ∃ e, L[i]? = some e ∧ L.drop i = e :: L.drop (i + 1) := ⟨L[i], List.getElem?_eq_getElem h, List.drop_eq_getElem_cons h⟩
theorem X1_sum_from {L : List Co} {z : Int32} {gl gd gc gp : Nat → Int32} (H : CoR L z gl gd gc gp) (x1 x2 : Int32) : ∀ (N i : Nat) (x : Int32), i ≤ L.length → L.length < N + i → f_X1_sum_b5 x1 x2 1024 1024 1024 z gl gc gp N x (nI i) = some (x + sumL (fun e => anyI x1 e.1 && anyI x2 e.2.2.1) (L.drop i)) := by
  obtain ⟨hl, hz, hg⟩ := H
  have h1024 : (1024 : Nat) < 2 ^ 31 := by decide
  have hL : L.length < 2 ^ 31 := by omega
  subst hz
  intro N
  induction N with
  | zero => intro i x h1 h2; omega
  | succ N ih =>
    intro i x h1 h2
    have hi : i < 2 ^ 31 := by omega
    rw [f_X1_sum_b5]
    by_cases h : L.length ≤ i
    · have h3 : L.drop i = [] := List.drop_eq_nil_of_le h
      simp only [nI_leI hL hi, h, if_true, h3, sumL, Int32.add_zero]
    · have hi2 : i < 1024 := by omega
      obtain ⟨e, he, hd⟩ := drop_cons' (L := L) (i := i) (by omega)
      obtain ⟨e1, e2, e3, e4⟩ := hg i e he
      have hn := ih (i + 1)
      simp only [nI_leI hL hi, h, if_false, X1_isIn_in x1 hi2, Option.bind_some, f_X1_sum_b43, X6_at_in gc h1024 hi2, X6_at_in gp h1024 hi2, nI_1, hd, sumL, e1, e3, e4]
      by_cases a1 : anyI x1 e.1 = true
      · have z1 : ¬ (1 : Int32) = 0 := by decide
        simp only [a1, if_true, z1, if_false, Bool.true_and]
        by_cases a2 : x2 = (-2 : Int32)
        · have a4 : anyI x2 e.2.2.1 = true := by unfold anyI; rw [if_pos a2]
          simp only [if_pos a2, a4, if_true]
          rw [hn _ (by omega) (by omega), Int32.add_assoc]
        · by_cases a3 : e.2.2.1 = x2
          · have a4 : anyI x2 e.2.2.1 = true := by unfold anyI; rw [if_neg a2, if_pos a3]
            simp only [if_neg a2, if_pos a3, a4, if_true]
            rw [hn _ (by omega) (by omega), Int32.add_assoc]
          · have a4 : anyI x2 e.2.2.1 = false := by unfold anyI; rw [if_neg a2, if_neg a3]
            simp only [if_neg a2, if_neg a3, a4, Bool.false_eq_true, if_false]
            rw [hn _ (by omega) (by omega)]
      · have a1' : anyI x1 e.1 = false := by simpa using a1
        simp only [a1', Bool.false_and, if_false, Bool.false_eq_true, if_true]
        rw [hn _ (by omega) (by omega)]
theorem X1_sum_in {L : List Co} {z : Int32} {gl gd gc gp : Nat → Int32} (H : CoR L z gl gd gc gp) (x1 x2 : Int32) {N : Nat} (hN : 1024 < N) : f_X1_sum N x1 x2 1024 1024 1024 z gl gc gp = some (sumL (fun e => anyI x1 e.1 && anyI x2 e.2.2.1) L) := by
  unfold f_X1_sum
  have h := X1_sum_from H x1 x2 N 0 0 (Nat.zero_le _) (by have := H.1; omega)
  rw [nI_0] at h
  rw [h, Int32.zero_add, List.drop_zero]
/-- the place of the first that a question names, -1 without one -/
def firstL (q : Co → Bool) : Nat → List Co → Int32
  | _, [] => -1
  | i, e :: L => if q e = true then nI i else firstL q (i + 1) L
theorem anyI_any {x y : Int32} (h : x = (-2 : Int32)) : anyI x y = true := by unfold anyI; rw [if_pos h]
theorem anyI_yes {x y : Int32} (h : ¬ x = (-2 : Int32)) (h2 : y = x) : anyI x y = true := by unfold anyI; rw [if_neg h, if_pos h2]
theorem anyI_no {x y : Int32} (h : ¬ x = (-2 : Int32)) (h2 : ¬ y = x) : anyI x y = false := by unfold anyI; rw [if_neg h, if_neg h2]
theorem X1_first_from {L : List Co} {z : Int32} {gl gd gc gp : Nat → Int32} (H : CoR L z gl gd gc gp) (x1 x2 x3 : Int32) : ∀ (N i : Nat), i ≤ L.length → L.length < N + i → f_X1_first_b3 x1 x2 x3 1024 1024 1024 z gl gd gc N (nI i) = some (firstL (fun e => anyI x1 e.1 && (anyI x2 e.2.1 && anyI x3 e.2.2.1)) i (L.drop i)) := by
  obtain ⟨hl, hz, hg⟩ := H
  have h1024 : (1024 : Nat) < 2 ^ 31 := by decide
  have hL : L.length < 2 ^ 31 := by omega
  subst hz
  intro N
  induction N with
  | zero => intro i h1 h2; omega
  | succ N ih =>
    intro i h1 h2
    have hi : i < 2 ^ 31 := by omega
    rw [f_X1_first_b3]
    by_cases h : L.length ≤ i
    · have h3 : L.drop i = [] := List.drop_eq_nil_of_le h
      simp only [nI_leI hL hi, h, if_true, h3, firstL]
    · have hi2 : i < 1024 := by omega
      obtain ⟨e, he, hd⟩ := drop_cons' (L := L) (i := i) (by omega)
      obtain ⟨e1, e2, e3, e4⟩ := hg i e he
      have hn := ih (i + 1) (by omega) (by omega)
      simp only [nI_leI hL hi, h, if_false, X1_isIn_in x1 hi2, Option.bind_some, f_X1_first_b41, X6_at_in gc h1024 hi2, X6_at_in gd h1024 hi2, nI_1, hd, firstL, e1, e2, e3]
      by_cases a1 : anyI x1 e.1 = true
      · have z1 : ¬ (1 : Int32) = 0 := by decide
        simp only [a1, if_true, z1, if_false, Bool.true_and]
        by_cases a2 : x2 = (-2 : Int32)
        · simp only [if_pos a2, anyI_any (y := e.2.1) a2, Bool.true_and]
          by_cases a3 : x3 = (-2 : Int32)
          · simp only [if_pos a3, anyI_any (y := e.2.2.1) a3, if_true]
          · by_cases a4 : e.2.2.1 = x3
            · simp only [if_neg a3, if_pos a4, anyI_yes a3 a4, if_true]
            · simp only [if_neg a3, if_neg a4, anyI_no a3 a4, Bool.false_eq_true, if_false]
              exact hn
        · by_cases a5 : e.2.1 = x2
          · simp only [if_neg a2, if_pos a5, anyI_yes a2 a5, Bool.true_and]
            by_cases a3 : x3 = (-2 : Int32)
            · simp only [if_pos a3, anyI_any (y := e.2.2.1) a3, if_true]
            · by_cases a4 : e.2.2.1 = x3
              · simp only [if_neg a3, if_pos a4, anyI_yes a3 a4, if_true]
              · simp only [if_neg a3, if_neg a4, anyI_no a3 a4, Bool.false_eq_true, if_false]
                exact hn
          · simp only [if_neg a2, if_neg a5, anyI_no a2 a5, Bool.false_and, Bool.false_eq_true, if_false]
            exact hn
      · have a1' : anyI x1 e.1 = false := by simpa using a1
        simp only [a1', Bool.false_and, if_false, Bool.false_eq_true, if_true]
        exact hn
theorem X1_first_in {L : List Co} {z : Int32} {gl gd gc gp : Nat → Int32} (H : CoR L z gl gd gc gp) (x1 x2 x3 : Int32) {N : Nat} (hN : 1024 < N) : f_X1_first N x1 x2 x3 1024 1024 1024 z gl gd gc = some (firstL (fun e => anyI x1 e.1 && (anyI x2 e.2.1 && anyI x3 e.2.2.1)) 0 L) := by
  unfold f_X1_first
  have h := X1_first_from H x1 x2 x3 N 0 (Nat.zero_le _) (by have := H.1; omega)
  rw [nI_0] at h
  rw [h, List.drop_zero]
/-- how many a question names -/
def countL (q : Co → Bool) : List Co → Nat
  | [] => 0
  | e :: L => if q e = true then countL q L + 1 else countL q L
theorem X1_number_from {L : List Co} {z : Int32} {gl gd gc gp : Nat → Int32} (H : CoR L z gl gd gc gp) (x1 : Int32) : ∀ (N i k : Nat), i ≤ L.length → L.length < N + i → f_X1_number_b4 x1 1024 z gl N (nI k) (nI i) = some (nI (k + countL (fun e => anyI x1 e.1) (L.drop i))) := by
  obtain ⟨hl, hz, hg⟩ := H
  have h1024 : (1024 : Nat) < 2 ^ 31 := by decide
  have hL : L.length < 2 ^ 31 := by omega
  subst hz
  intro N
  induction N with
  | zero => intro i k h1 h2; omega
  | succ N ih =>
    intro i k h1 h2
    have hi : i < 2 ^ 31 := by omega
    rw [f_X1_number_b4]
    by_cases h : L.length ≤ i
    · have h3 : L.drop i = [] := List.drop_eq_nil_of_le h
      simp only [nI_leI hL hi, h, if_true, h3, countL, Nat.add_zero]
    · have hi2 : i < 1024 := by omega
      obtain ⟨e, he, hd⟩ := drop_cons' (L := L) (i := i) (by omega)
      obtain ⟨e1, e2, e3, e4⟩ := hg i e he
      have hn := ih (i + 1)
      simp only [nI_leI hL hi, h, if_false, X1_isIn_in x1 hi2, Option.bind_some, nI_1, hd, countL, e1]
      by_cases a1 : anyI x1 e.1 = true
      · have z1 : ¬ (1 : Int32) = 0 := by decide
        simp only [a1, if_true, z1, if_false]
        rw [hn (k + 1) (by omega) (by omega), Nat.add_assoc, Nat.add_comm 1]
      · have a1' : anyI x1 e.1 = false := by simpa using a1
        simp only [a1', if_false, Bool.false_eq_true, if_true]
        rw [hn k (by omega) (by omega)]
theorem X1_number_in {L : List Co} {z : Int32} {gl gd gc gp : Nat → Int32} (H : CoR L z gl gd gc gp) (x1 : Int32) {N : Nat} (hN : 1024 < N) : f_X1_number N x1 1024 z gl = some (nI (countL (fun e => anyI x1 e.1) L)) := by
  unfold f_X1_number
  have h := X1_number_from H x1 N 0 0 (Nat.zero_le _) (by have := H.1; omega)
  rw [nI_0] at h
  rw [h, Nat.zero_add, List.drop_zero]
theorem X1_sumUntil_from {L : List Co} {z : Int32} {gl gd gc gp : Nat → Int32} (H : CoR L z gl gd gc gp) (x1 x2 : Int32) : ∀ (N i : Nat) (x : Int32), i ≤ L.length → L.length < N + i → f_X1_sumUntil_b5 x1 x2 1024 1024 1024 z gl gd gp N x (nI i) = some (x + sumL (fun e => anyI x1 e.1 && !decide (x2 < e.2.1)) (L.drop i)) := by
  obtain ⟨hl, hz, hg⟩ := H
  have h1024 : (1024 : Nat) < 2 ^ 31 := by decide
  have hL : L.length < 2 ^ 31 := by omega
  subst hz
  intro N
  induction N with
  | zero => intro i x h1 h2; omega
  | succ N ih =>
    intro i x h1 h2
    have hi : i < 2 ^ 31 := by omega
    rw [f_X1_sumUntil_b5]
    by_cases h : L.length ≤ i
    · have h3 : L.drop i = [] := List.drop_eq_nil_of_le h
      simp only [nI_leI hL hi, h, if_true, h3, sumL, Int32.add_zero]
    · have hi2 : i < 1024 := by omega
      obtain ⟨e, he, hd⟩ := drop_cons' (L := L) (i := i) (by omega)
      obtain ⟨e1, e2, e3, e4⟩ := hg i e he
      have hn := ih (i + 1)
      simp only [nI_leI hL hi, h, if_false, X1_isIn_in x1 hi2, Option.bind_some, X6_at_in gd h1024 hi2, X6_at_in gp h1024 hi2, nI_1, hd, sumL, e1, e2, e4]
      by_cases a1 : anyI x1 e.1 = true
      · have z1 : ¬ (1 : Int32) = 0 := by decide
        simp only [a1, if_true, z1, if_false, Bool.true_and]
        by_cases a2 : x2 < e.2.1
        · simp only [if_pos a2, decide_eq_true a2, Bool.not_true, Bool.false_eq_true, if_false]
          rw [hn _ (by omega) (by omega)]
        · simp only [if_neg a2, decide_eq_false a2, Bool.not_false, if_true]
          rw [hn _ (by omega) (by omega), Int32.add_assoc]
      · have a1' : anyI x1 e.1 = false := by simpa using a1
        simp only [a1', Bool.false_and, if_false, Bool.false_eq_true, if_true]
        rw [hn _ (by omega) (by omega)]
theorem X1_sumUntil_in {L : List Co} {z : Int32} {gl gd gc gp : Nat → Int32} (H : CoR L z gl gd gc gp) (x1 x2 : Int32) {N : Nat} (hN : 1024 < N) : f_X1_sumUntil N x1 x2 1024 1024 1024 z gl gd gp = some (sumL (fun e => anyI x1 e.1 && !decide (x2 < e.2.1)) L) := by
  unfold f_X1_sumUntil
  have h := X1_sumUntil_from H x1 x2 N 0 0 (Nat.zero_le _) (by have := H.1; omega)
  rw [nI_0] at h
  rw [h, Int32.zero_add, List.drop_zero]

