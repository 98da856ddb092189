/-- layer B: a row's read -/
theorem X6_at_in {n : Nat} (g : Nat → Int32) {i : Nat} (hn : n < 2 ^ 31) (hi : i < n) : f_X6_at (nI i) n g = some (g i) := by
  have h1 : i < 2 ^ 31 := by omega
  have h2 : ¬ n ≤ i := by omega
  unfold f_X6_at
  simp only [nI_pos h1, nI_clamp h1, nI_leI hn h1, if_false, h2, or_self]
/-- a row's write -/
theorem X6_put_in {n : Nat} (g : Nat → Int32) (v : Int32) {i : Nat} (hn : n < 2 ^ 31) (hi : i < n) : f_X6_put (nI i) v n g = some (upd g i v) := by
  have h1 : i < 2 ^ 31 := by omega
  have h2 : ¬ n ≤ i := by omega
  unfold f_X6_put
  simp only [nI_pos h1, nI_clamp h1, nI_leI hn h1, if_false, h2, or_self, Option.bind_some]
/-- a row's sum in place -/
theorem X6_increase_in {n : Nat} (g : Nat → Int32) (v : Int32) {i : Nat} (hn : n < 2 ^ 31) (hi : i < n) : f_X6_increase (nI i) v n g = some (upd g i (g i + v)) := by
  have h1 : i < 2 ^ 31 := by omega
  have h2 : ¬ n ≤ i := by omega
  unfold f_X6_increase
  simp only [nI_pos h1, nI_clamp h1, nI_leI hn h1, if_false, h2, or_self, Option.bind_some]
/-- a row filled -/
theorem X6_fill_from (x : Int32) {n : Nat} (hn : n < 2 ^ 31) : ∀ (N i : Nat) (g : Nat → Int32), i ≤ n → n < N + i → f_X6_fill_b2 x n N (nI i) g = some (fun j => if i ≤ j ∧ j < n then x else g j) := by
  intro N
  induction N with
  | zero => intro i g h1 h2; omega
  | succ N ih =>
    intro i g h1 h2
    have hi : i < 2 ^ 31 := by omega
    rw [f_X6_fill_b2]
    by_cases h : n ≤ i
    · simp only [nI_leI hn hi, h, if_true]
      congr 1; funext j
      rw [if_neg (by omega)]
    · simp only [nI_leI hn hi, h, if_false, nI_pos hi, nI_clamp hi, or_self, Option.bind_some, nI_1]
      rw [ih (i + 1) _ (by omega) (by omega)]
      congr 1; funext j
      by_cases hj : j = i
      · subst hj; simp [upd]; omega
      · simp only [upd, hj, if_false]
        by_cases h3 : i ≤ j ∧ j < n
        · rw [if_pos h3, if_pos (by omega)]
        · rw [if_neg h3, if_neg (by omega)]
/-- a row's block moved -/
theorem X6_move_in {n a b c : Nat} (g : Nat → Int32) (hn : n < 2 ^ 31) (hc : 0 < c) (ha : a + c ≤ n) (hb : b + c ≤ n) : f_X6_move (nI a) (nI b) (nI c) n g = some (va_cpy g g a b c) := by
  have h1 : a < 2 ^ 31 := by omega
  have h2 : b < 2 ^ 31 := by omega
  have h3 : c < 2 ^ 31 := by omega
  have h5 : nI n - nI c = nI (n - c) := by
    rw [Int32.sub_eq_iff_eq_add, nI_add, Nat.sub_add_cancel (by omega)]
  have h6 : n - c < 2 ^ 31 := by omega
  have h7 : ¬ n - c < a := by omega
  have h8 : ¬ n - c < b := by omega
  have h9 : ¬ n < a + c := by omega
  have h10 : ¬ n < b + c := by omega
  have h11 : ¬ (1 : Int32) = 0 := by decide
  unfold f_X6_move f_X6_move_b39
  simp only [nI_pos h1, nI_pos h2, nI_pos h3, nI_nle hc h3, h5, nI_ltI h6 h1, nI_ltI h6 h2, h7, h8, h9, h10, h11, nI_clamp h1, nI_clamp h2, nI_clamp h3, if_false, or_self, Option.bind_some]
/-- nothing moved -/
theorem X6_move_none {n : Nat} (x y : Int32) (g : Nat → Int32) : f_X6_move x y 0 n g = some g := by
  unfold f_X6_move f_X6_move_b38 f_X6_move_b39
  simp only [if_true, Int32.le_refl, ite_self]
/-- a row's first cells copied -/
theorem X6_copyFirst_in {n k : Nat} (g h : Nat → Int32) (hn : n < 2 ^ 31) (hk : k ≤ n) : f_X6_copyFirst (nI k) n n g h = some (fun j => if j < k then h j else g j) := by
  have h1 : k < 2 ^ 31 := by omega
  have h2 : ¬ n < k := by omega
  unfold f_X6_copyFirst
  simp only [Option.bind_some, ite_self, nI_ltI hn h1, h2, if_false]
  by_cases hz : k = 0
  · subst hz
    simp [nI_0]
  · have h0 : 0 < k := by omega
    have h4 : (0 : Int32).toNatClampNeg = 0 := by decide
    have h5 : ¬ (0 : Int32) < 0 := by decide
    simp only [nI_nle h0 h1, if_false, nI_pos h1, nI_clamp h1, h4, h5, Nat.zero_add, h2, or_self]
    congr 1; funext j
    simp only [va_cpy, Nat.zero_le, true_and, Nat.zero_add, Nat.sub_zero]
/-- a row copied -/
theorem X6_copyAll_in {n : Nat} (g h : Nat → Int32) (hn : n < 2 ^ 31) : f_X6_copyAll n n g h = some (fun j => if j < n then h j else g j) := by
  unfold f_X6_copyAll
  rw [X6_copyFirst_in g h hn (Nat.le_refl n)]; rfl
/-- the sum of some cells -/
def sumI (g : Nat → Int32) : Nat → Nat → Int32
  | _, 0 => 0
  | i, k + 1 => g i + sumI g (i + 1) k
/-- a row's sum from a place on -/
theorem X6_sumFrom_from {n : Nat} (g : Nat → Int32) (hn : n < 2 ^ 31) : ∀ (N i : Nat) (x : Int32), i ≤ n → n < N + i → f_X6_sumFrom_b8 n g N x (nI i) = some (x + sumI g i (n - i)) := by
  intro N
  induction N with
  | zero => intro i x h1 h2; omega
  | succ N ih =>
    intro i x h1 h2
    have hi : i < 2 ^ 31 := by omega
    rw [f_X6_sumFrom_b8]
    by_cases h : n ≤ i
    · have h3 : n - i = 0 := by omega
      simp only [nI_leI hn hi, h, if_true, h3, sumI, Int32.add_zero]
    · obtain ⟨k, hk⟩ : ∃ k, n - i = k + 1 := ⟨n - i - 1, by omega⟩
      have h3 : n - (i + 1) = k := by omega
      simp only [nI_leI hn hi, h, if_false, nI_pos hi, nI_clamp hi, or_self, Option.bind_some, nI_1]
      rw [ih (i + 1) _ (by omega) (by omega), h3, hk, sumI, Int32.add_assoc]
theorem X6_sumFrom_in {n N i : Nat} (g : Nat → Int32) (hn : n < 2 ^ 31) (hi : i ≤ n) (hN : n < N) : f_X6_sumFrom N (nI i) n g = some (sumI g i (n - i)) := by
  have h1 : i < 2 ^ 31 := by omega
  unfold f_X6_sumFrom
  simp only [Option.bind_some, nI_pos h1, if_false]
  rw [X6_sumFrom_from g hn N i 0 hi (by omega), Int32.zero_add]
