theorem cdN_le {w : Nat → Nat} (h : WdN w) {i : Nat} (hi : i < 6) : cdN (w i) ≤ 26 := by
  have := h.2.1 i hi
  unfold cdN
  omega
theorem cdN_lt {a b : Nat → Nat} (ha : WdN a) (hb : WdN b) {i : Nat} (hi : i < 6) : a i < b i ↔ cdN (a i) < cdN (b i) := by
  have h1 := ha.2.1 i hi
  have h2 := hb.2.1 i hi
  unfold cdN
  omega
theorem lcode_bd {w : Nat → Nat} (h : WdN w) : lcode w < 2 ^ 30 := by
  have h0 := cdN_le h (i := 0) (by omega)
  have h1 := cdN_le h (i := 1) (by omega)
  have h2 := cdN_le h (i := 2) (by omega)
  have h3 := cdN_le h (i := 3) (by omega)
  have h4 := cdN_le h (i := 4) (by omega)
  have h5 := cdN_le h (i := 5) (by omega)
  unfold lcode
  omega
/-- names in their order -/
theorem lcode_lt {a b : Nat → Nat} (ha : WdN a) (hb : WdN b) {i : Nat} (hi : i < 6) (he : ∀ j, j < i → a j = b j) (hne : ¬ a i = b i) : lcode a < lcode b ↔ a i < b i := by
  have hE : ∀ j, j < i → cdN (a j) = cdN (b j) := fun j hj => by rw [he j hj]
  have hL := cdN_lt ha hb hi
  have hL2 := cdN_lt hb ha hi
  rw [hL]
  have hN : ¬ cdN (a i) = cdN (b i) := fun hh => hne (by omega)
  have a0 := cdN_le ha (i := 0) (by omega)
  have a1 := cdN_le ha (i := 1) (by omega)
  have a2 := cdN_le ha (i := 2) (by omega)
  have a3 := cdN_le ha (i := 3) (by omega)
  have a4 := cdN_le ha (i := 4) (by omega)
  have a5 := cdN_le ha (i := 5) (by omega)
  have b0 := cdN_le hb (i := 0) (by omega)
  have b1 := cdN_le hb (i := 1) (by omega)
  have b2 := cdN_le hb (i := 2) (by omega)
  have b3 := cdN_le hb (i := 3) (by omega)
  have b4 := cdN_le hb (i := 4) (by omega)
  have b5 := cdN_le hb (i := 5) (by omega)
  unfold lcode
  clear he hne hL hL2 ha hb
  match i, hi with
  | 0, _ => omega
  | 1, _ => have := hE 0 (by omega); omega
  | 2, _ => have := hE 0 (by omega); have := hE 1 (by omega); omega
  | 3, _ => have := hE 0 (by omega); have := hE 1 (by omega); have := hE 2 (by omega); omega
  | 4, _ => have := hE 0 (by omega); have := hE 1 (by omega); have := hE 2 (by omega); have := hE 3 (by omega); omega
  | 5, _ => have := hE 0 (by omega); have := hE 1 (by omega); have := hE 2 (by omega); have := hE 3 (by omega); have := hE 4 (by omega); omega
theorem lcode_eq {a b : Nat → Nat} (he : ∀ j, j < 6 → a j = b j) : lcode a = lcode b := by
  unfold lcode
  rw [he 0 (by omega), he 1 (by omega), he 2 (by omega), he 3 (by omega), he 4 (by omega), he 5 (by omega)]
/-- the row of a member -/
theorem M_row {n m : Nat} {S W : Nat → Nat} {so wh : Nat → Int32} (hn : n ≤ 29) (h : ∀ r, r < n → so r = nI (S r) ∧ wh r = nI (W r) ∧ S r < 2 ^ 20 ∧ W r < 2 ^ 20) (hm : m < 2 ^ 20) {N : Nat} (hN : 100 < N) (hex : ∃ r, r < n ∧ S r = 3 ∧ W r = m) : ∃ r, r < n ∧ S r = 3 ∧ W r = m ∧ f_X11_rowOfMember N (nI m) 32 32 so wh = some (nI r) := by
  obtain ⟨r0, e1, e2, e3⟩ := hex
  have hloop : ∀ (f i : Nat), i ≤ r0 → r0 < f + i → ∃ r, r < n ∧ S r = 3 ∧ W r = m ∧ f_X11_rowOfMember_b2 (nI m) 32 32 so wh f (nI i) = some (nI r) := by
    intro f
    induction f with
    | zero => intro i a1 a2; omega
    | succ f ih =>
      intro i a1 a2
      have g1 := grd (i := i) (n := 32) (by omega) (by decide)
      obtain ⟨h1, h2, h3, h4⟩ := h i (by omega)
      rw [f_X11_rowOfMember_b2, if_neg g1, nI_clamp (by omega), h1, h2]
      rw [nI_clamp (by omega)] at g1
      by_cases q1 : S i = 3
      · rw [if_pos (by rw [q1]; rfl), if_neg g1]
        by_cases q2 : W i = m
        · rw [if_pos (by rw [q2])]
          exact ⟨i, by omega, q1, q2, rfl⟩
        · rw [if_neg (fun hh => q2 ((nI_eq (by omega) (by omega)).mp hh)), nI_1, Option.bind_some]
          have q3 : ¬ i = r0 := fun hh => q2 (by rw [hh]; exact e3)
          exact ih (i + 1) (by omega) (by omega)
      · rw [if_neg (show ¬ nI (S i) = (3 : Int32) from fun hh => q1 ((nI_eq (b := 3) (by omega) (by decide)).mp hh)), nI_1, Option.bind_some]
        have q3 : ¬ i = r0 := fun hh => q1 (by rw [hh]; exact e2)
        exact ih (i + 1) (by omega) (by omega)
  have h5 := hloop N 0 (Nat.zero_le _) (by omega)
  rw [nI_0] at h5
  exact h5
/-- is a row's name ahead of another's -/
theorem M_name {n : Nat} {R : Nat → Nat → Nat} {le : Nat → Int32} (hn : n ≤ 29) (h : ∀ r, r < n → WdN (R r) ∧ ∀ i, i < 6 → le (6 * r + i) = nI (R r i)) {x y : Nat} (hx : x < n) (hy : y < n) {N : Nat} (hN : 100 < N) : f_X11_isNameAhead_b22 (nI (6 * x)) (nI (6 * y)) 192 le N 0 = some (if lcode (R x) < lcode (R y) then 1 else 0) := by
  obtain ⟨wx, lx⟩ := h x hx
  obtain ⟨wy, ly⟩ := h y hy
  have hloop : ∀ (f i : Nat), i ≤ 6 → 6 < f + i → (∀ j, j < i → R x j = R y j) → f_X11_isNameAhead_b22 (nI (6 * x)) (nI (6 * y)) 192 le f (nI i) = some (if lcode (R x) < lcode (R y) then 1 else 0) := by
    intro f
    induction f with
    | zero => intro i a1 a2; omega
    | succ f ih =>
      intro i a1 a2 a3
      rw [f_X11_isNameAhead_b22]
      unfold f_X11_isNameAhead_b57
      by_cases e : i = 6
      · subst e
        rw [if_pos (show (6 : Int32) ≤ nI 6 from Int32.le_refl _), if_pos (show (6 : Int32) ≤ nI 6 from Int32.le_refl _), if_neg (by rw [lcode_eq a3]; exact Nat.lt_irrefl _)]
      · have g1 := grd (i := 6 * x + i) (n := 192) (by omega) (by decide)
        have g2 := grd (i := 6 * y + i) (n := 192) (by omega) (by decide)
        have hne6 : ¬ (6 : Int32) ≤ nI i := fun hh => by have := (nI_leI (a := 6) (by decide) (by omega)).mp hh; omega
        have w1 := wx.2.1 i (by omega)
        have w2 := wy.2.1 i (by omega)
        rw [if_neg hne6, nI_add, nI_add, if_neg g1, if_neg g2, nI_clamp (by omega), nI_clamp (by omega), lx i (by omega), ly i (by omega)]
        by_cases e2 : R x i = R y i
        · rw [if_pos (by rw [e2]), nI_1, Option.bind_some]
          exact ih (i + 1) (by omega) (by omega) (fun j hj => by
            by_cases e3 : j = i
            · rw [e3]; exact e2
            · exact a3 j (by omega))
        · rw [nI_clamp (by omega)] at g1 g2
          have hl := lcode_lt wx wy (by omega) a3 e2
          rw [if_neg (fun hh => e2 ((nI_eq (by omega) (by omega)).mp hh)), if_neg hne6, if_neg g1, if_neg g2]
          by_cases e4 : R y i ≤ R x i
          · rw [if_pos ((nI_leI (by omega) (by omega)).mpr e4), if_neg (fun hh => by have := hl.mp hh; omega)]
          · rw [if_neg (fun hh => e4 ((nI_leI (by omega) (by omega)).mp hh)), if_pos (hl.mpr (by omega))]
  have h5 := hloop N 0 (Nat.zero_le _) (by omega) (fun j hj => absurd hj (Nat.not_lt_zero _))
  rw [nI_0] at h5
  exact h5

