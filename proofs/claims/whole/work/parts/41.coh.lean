/-- a cohort: list, day, contributor, points -/
def Co : Type := Int32 × Int32 × Int32 × Int32
/-- the class's cohorts are a list's -/
def CoR (L : List Co) (z : Int32) (gl gd gc gp : Nat → Int32) : Prop := L.length ≤ 1024 ∧ z = nI L.length ∧ ∀ (i : Nat) (e : Co), L[i]? = some e → gl i = e.1 ∧ gd i = e.2.1 ∧ gc i = e.2.2.1 ∧ gp i = e.2.2.2
/-- a question for a list's cohort: ANY is -2 -/
def anyI (x y : Int32) : Bool := if x = (-2 : Int32) then true else if y = x then true else false
/-- the points of those that a question names -/
def sumL (q : Co → Bool) : List Co → Int32
  | [] => 0
  | e :: L => if q e = true then e.2.2.2 + sumL q L else sumL q L
theorem X1_isIn_in {gl : Nat → Int32} {i : Nat} (x : Int32) (hi : i < 1024) : f_X1_isIn (nI i) x 1024 gl = some (if anyI x (gl i) = true then 1 else 0) := by
  unfold f_X1_isIn anyI
  rw [X6_at_in gl (by decide) hi]
  simp only [Option.bind_some]
  by_cases h : x = (-2 : Int32)
  · simp only [if_pos h, if_true]
  · simp only [if_neg h]
    by_cases h2 : gl i = x
    · simp only [if_pos h2, if_true]
    · simp only [if_neg h2]; rfl
theorem drop_cons' {α : Type} {L : List α} {i : Nat} (h : i < L.length) : ∃ e, L[i]? = some e ∧ L.drop i = e :: L.drop (i + 1) := ⟨L[i], List.getElem?_eq_getElem h, List.drop_eq_getElem_cons h⟩
theorem X1_sum_from {L : List Co} {z : Int32} {gl gd gc gp : Nat → Int32} (H : CoR L z gl gd gc gp) (x1 x2 : Int32) : ∀ (N i : Nat) (x : Int32), i ≤ L.length → L.length < N + i → f_X1_sum_b5 x1 x2 1024 1024 1024 z gl gc gp N x (nI i) = some (x + sumL (fun e => anyI x1 e.1 && anyI x2 e.2.2.1) (L.drop i)) := by
  obtain ⟨hl, hz, hg⟩ := H
  have h1024 : (1024 : Nat) < 2 ^ 31 := by decide
  have hL : L.length < 2 ^ 31 := by omega
  subst hz
  intro N
  induction N with
  | zero => intro i x h1 h2; omega
  | succ N ih =>
    intro i x h1 h2
    have hi : i < 2 ^ 31 := by omega
    rw [f_X1_sum_b5]
    by_cases h : L.length ≤ i
    · have h3 : L.drop i = [] := List.drop_eq_nil_of_le h
      simp only [nI_leI hL hi, h, if_true, h3, sumL, Int32.add_zero]
    · have hi2 : i < 1024 := by omega
      obtain ⟨e, he, hd⟩ := drop_cons' (L := L) (i := i) (by omega)
      obtain ⟨e1, e2, e3, e4⟩ := hg i e he
      have hn := ih (i + 1)
      simp only [nI_leI hL hi, h, if_false, X1_isIn_in x1 hi2, Option.bind_some, f_X1_sum_b43, X6_at_in gc h1024 hi2, X6_at_in gp h1024 hi2, nI_1, hd, sumL, e1, e3, e4]
      by_cases a1 : anyI x1 e.1 = true
      · have z1 : ¬ (1 : Int32) = 0 := by decide
        simp only [a1, if_true, z1, if_false, Bool.true_and]
        by_cases a2 : x2 = (-2 : Int32)
        · have a4 : anyI x2 e.2.2.1 = true := by unfold anyI; rw [if_pos a2]
          simp only [if_pos a2, a4, if_true]
          rw [hn _ (by omega) (by omega), Int32.add_assoc]
        · by_cases a3 : e.2.2.1 = x2
          · have a4 : anyI x2 e.2.2.1 = true := by unfold anyI; rw [if_neg a2, if_pos a3]
            simp only [if_neg a2, if_pos a3, a4, if_true]
            rw [hn _ (by omega) (by omega), Int32.add_assoc]
          · have a4 : anyI x2 e.2.2.1 = false := by unfold anyI; rw [if_neg a2, if_neg a3]
            simp only [if_neg a2, if_neg a3, a4, Bool.false_eq_true, if_false]
            rw [hn _ (by omega) (by omega)]
      · have a1' : anyI x1 e.1 = false := by simpa using a1
        simp only [a1', Bool.false_and, if_false, Bool.false_eq_true, if_true]
        rw [hn _ (by omega) (by omega)]
