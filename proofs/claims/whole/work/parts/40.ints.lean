/-- layer B: a row's read -/
theorem X6_at_in {n : Nat} (g : Nat → Int32) {i : Nat} (hn : n < 2 ^ 31) (hi : i < n) : f_X6_at (nI i) n g = some (g i) := by
  have h1 : i < 2 ^ 31 := by omega
  have h2 : ¬ n ≤ i := by omega
  unfold f_X6_at
  simp only [nI_pos h1, nI_clamp h1, nI_leI hn h1, if_false, h2, or_self]
/-- a row's read behind its end -/
theorem X6_at_out {n : Nat} (g : Nat → Int32) {i : Nat} (h1 : i < 2 ^ 31) (hi : n ≤ i) : f_X6_at (nI i) n g = some 0 := by
  have hn : n < 2 ^ 31 := by omega
  unfold f_X6_at
  simp only [nI_pos h1, nI_leI hn h1, if_false, hi, if_true]
/-- a row's read before its start -/
theorem X6_at_neg {n : Nat} (g : Nat → Int32) {x : Int32} (h : x < 0) : f_X6_at x n g = some 0 := by
  unfold f_X6_at
  simp only [h, if_true]
/-- a row's write -/
theorem X6_put_in {n : Nat} (g : Nat → Int32) (v : Int32) {i : Nat} (hn : n < 2 ^ 31) (hi : i < n) : f_X6_put (nI i) v n g = some (upd g i v) := by
  have h1 : i < 2 ^ 31 := by omega
  have h2 : ¬ n ≤ i := by omega
  unfold f_X6_put
  simp only [nI_pos h1, nI_clamp h1, nI_leI hn h1, if_false, h2, or_self, Option.bind_some]
/-- a row's sum in place -/
theorem X6_increase_in {n : Nat} (g : Nat → Int32) (v : Int32) {i : Nat} (hn : n < 2 ^ 31) (hi : i < n) : f_X6_increase (nI i) v n g = some (upd g i (g i + v)) := by
  have h1 : i < 2 ^ 31 := by omega
  have h2 : ¬ n ≤ i := by omega
  unfold f_X6_increase
  simp only [nI_pos h1, nI_clamp h1, nI_leI hn h1, if_false, h2, or_self, Option.bind_some]
/-- a row filled -/
theorem X6_fill_from (x : Int32) {n : Nat} (hn : n < 2 ^ 31) : ∀ (N i : Nat) (g : Nat → Int32), i ≤ n → n < N + i → f_X6_fill_b2 x n N (nI i) g = some (fun j => if i ≤ j ∧ j < n then x else g j) := by
  intro N
  induction N with
  | zero => intro i g h1 h2; omega
  | succ N ih =>
    intro i g h1 h2
    have hi : i < 2 ^ 31 := by omega
    rw [f_X6_fill_b2]
    by_cases h : n ≤ i
    · simp only [nI_leI hn hi, h, if_true]
      congr 1; funext j
      rw [if_neg (by omega)]
    · simp only [nI_leI hn hi, h, if_false, nI_pos hi, nI_clamp hi, or_self, Option.bind_some, nI_1]
      rw [ih (i + 1) _ (by omega) (by omega)]
      congr 1; funext j
      by_cases hj : j = i
      · subst hj; simp [upd]; omega
      · simp only [upd, hj, if_false]
        by_cases h3 : i ≤ j ∧ j < n
        · rw [if_pos h3, if_pos (by omega)]
        · rw [if_neg h3, if_neg (by omega)]
