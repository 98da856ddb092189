/-- how many bits -/
def popN : Nat → Nat → Nat
  | 0, _ => 0
  | k + 1, b => b % 2 + popN k (b / 2)
theorem bit_or : ∀ m, m < 12 → ∀ i, i < 64 → ∀ j, j < 64 → i * 64 + j < 2 ^ m → nI (i * 64 + j) ||| ((1 : Int32) <<< (nI m &&& 31)) = nI (i * 64 + j + 2 ^ m) := by decide +kernel
theorem bit_pop : ∀ i, i < 64 → ∀ j, j < 64 → f_J6_bitCount_0f7a4 (nI (i * 64 + j)) = some (nI (popN 12 (i * 64 + j))) := by decide +kernel
theorem pop_add : ∀ m, m < 12 → ∀ i, i < 64 → ∀ j, j < 64 → i * 64 + j < 2 ^ m → popN 12 (i * 64 + j + 2 ^ m) = popN 12 (i * 64 + j) + 1 := by decide +kernel

