theorem cdN_le {w : Nat → Nat} (h : WdN w) {i : Nat} (hi : i < 6) : cdN (w i) ≤ 26 := by
  have := h.2.1 i hi
  unfold cdN
  omega
theorem cdN_lt {a b : Nat → Nat} (ha : WdN a) (hb : WdN b) {i : Nat} (hi : i < 6) : a i < b i ↔ cdN (a i) < cdN (b i) := by
  have h1 := ha.2.1 i hi
  have h2 := hb.2.1 i hi
  unfold cdN
  omega
theorem lcode_bd {w : Nat → Nat} (h : WdN w) : lcode w < 2 ^ 30 := by
  have h0 := cdN_le h (i := 0) (by omega)
  have h1 := cdN_le h (i := 1) (by omega)
  have h2 := cdN_le h (i := 2) (by omega)
  have h3 := cdN_le h (i := 3) (by omega)
  have h4 := cdN_le h (i := 4) (by omega)
  have h5 := cdN_le h (i := 5) (by omega)
  unfold lcode
  omega
/-- names in their order -/
theorem lcode_lt {a b : Nat → Nat} (ha : WdN a) (hb : WdN b) {i : Nat} (hi : i < 6) (he : ∀ j, j < i → a j = b j) (hne : ¬ a i = b i) : lcode a < lcode b ↔ a i < b i := by
  have hE : ∀ j, j < i → cdN (a j) = cdN (b j) := fun j hj => by rw [he j hj]
  have hL := cdN_lt ha hb hi
  have hL2 := cdN_lt hb ha hi
  rw [hL]
  have hN : ¬ cdN (a i) = cdN (b i) := fun hh => hne (by omega)
  have a0 := cdN_le ha (i := 0) (by omega)
  have a1 := cdN_le ha (i := 1) (by omega)
  have a2 := cdN_le ha (i := 2) (by omega)
  have a3 := cdN_le ha (i := 3) (by omega)
  have a4 := cdN_le ha (i := 4) (by omega)
  have a5 := cdN_le ha (i := 5) (by omega)
  have b0 := cdN_le hb (i := 0) (by omega)
  have b1 := cdN_le hb (i := 1) (by omega)
  have b2 := cdN_le hb (i := 2) (by omega)
  have b3 := cdN_le hb (i := 3) (by omega)
  have b4 := cdN_le hb (i := 4) (by omega)
  have b5 := cdN_le hb (i := 5) (by omega)
  unfold lcode
  clear he hne hL hL2 ha hb
  match i, hi with
  | 0, _ => omega
  | 1, _ => have := hE 0 (by omega); omega
  | 2, _ => have := hE 0 (by omega); have := hE 1 (by omega); omega
  | 3, _ => have := hE 0 (by omega); have := hE 1 (by omega); have := hE 2 (by omega); omega
  | 4, _ => have := hE 0 (by omega); have := hE 1 (by omega); have := hE 2 (by omega); have := hE 3 (by omega); omega
  | 5, _ => have := hE 0 (by omega); have := hE 1 (by omega); have := hE 2 (by omega); have := hE 3 (by omega); have := hE 4 (by omega); omega
theorem lcode_eq {a b : Nat → Nat} (he : ∀ j, j < 6 → a j = b j) : lcode a = lcode b := by
  unfold lcode
  rw [he 0 (by omega), he 1 (by omega), he 2 (by omega), he 3 (by omega), he 4 (by omega), he 5 (by omega)]
