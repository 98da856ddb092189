/-- a row's block moved, be it empty -/
theorem X6_move_any {n a b c : Nat} (g : Nat → Int32) (hn : n < 2 ^ 31) (ha : a + c ≤ n) (hb : b + c ≤ n) : f_X6_move (nI a) (nI b) (nI c) n g = some (va_cpy g g a b c) := by
  by_cases hc : c = 0
  · subst hc
    rw [nI_0, X6_move_none]
    congr 1; funext j
    simp only [va_cpy, Nat.add_zero]
    rw [if_neg (by omega)]
  · exact X6_move_in g hn (by omega) ha hb
theorem nI_subI {a b : Nat} (h : b ≤ a) : nI a - nI b = nI (a - b) := by
  rw [Int32.sub_eq_iff_eq_add, nI_add, Nat.sub_add_cancel h]
/-- the cohorts moved one place on -/
theorem X1_shift_up {k q : Nat} (gl gd gc gp : Nat → Int32) (hk : k < 1024) (hq : q ≤ k) : f_X1_shift (nI q) (nI (q + 1)) 1024 1024 1024 1024 (nI k) gl gd gc gp = some (nI (k + 1), va_cpy gl gl q (q + 1) (k - q), va_cpy gd gd q (q + 1) (k - q), va_cpy gc gc q (q + 1) (k - q), va_cpy gp gp q (q + 1) (k - q)) := by
  have h1024 : (1024 : Nat) < 2 ^ 31 := by decide
  unfold f_X1_shift
  rw [nI_subI hq, nI_subI (Nat.le_succ q), show q + 1 - q = 1 by omega]
  simp only [fun g => X6_move_any (a := q) (b := q + 1) (c := k - q) g h1024 (by omega) (by omega), Option.bind_some, nI_add]
/-- the cohorts moved one place back -/
theorem X1_shift_down {k q : Nat} (gl gd gc gp : Nat → Int32) (hk : k ≤ 1024) (hq : q < k) : f_X1_shift (nI (q + 1)) (nI q) 1024 1024 1024 1024 (nI k) gl gd gc gp = some (nI (k - 1), va_cpy gl gl (q + 1) q (k - (q + 1)), va_cpy gd gd (q + 1) q (k - (q + 1)), va_cpy gc gc (q + 1) q (k - (q + 1)), va_cpy gp gp (q + 1) q (k - (q + 1))) := by
  have h1024 : (1024 : Nat) < 2 ^ 31 := by decide
  have h2 : nI k + (nI q - nI (q + 1)) = nI (k - 1) := by
    have h3 : nI (q + 1) = nI q + nI 1 := (nI_add q 1).symm
    have h4 : nI k = nI (k - 1) + nI 1 := by rw [nI_add]; congr 1; omega
    have h5 : nI q - (nI q + nI 1) = -nI 1 := by
      rw [Int32.sub_eq_iff_eq_add, Int32.add_comm, Int32.add_assoc, Int32.add_right_neg, Int32.add_zero]
    rw [h3, h5, h4, Int32.add_assoc, Int32.add_right_neg, Int32.add_zero]
  unfold f_X1_shift
  rw [nI_subI (show q + 1 ≤ k from hq), h2]
  simp only [fun g => X6_move_any (a := q + 1) (b := q) (c := k - (q + 1)) g h1024 (by omega) (by omega), Option.bind_some]
