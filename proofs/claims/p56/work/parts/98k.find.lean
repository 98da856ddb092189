/-- the number of a name's first letters -/
def pcN (w : Nat → Nat) : Nat → Nat
  | 0 => 0
  | i + 1 => pcN w i * 32 + cdN (w i)
theorem pcN_6 {w : Nat → Nat} : pcN w 6 = lcode w := by
  rw [pcN, pcN, pcN, pcN, pcN, pcN, pcN, Nat.zero_mul, Nat.zero_add]; rfl
/-- a byte, as the class sees it -/
theorem C_tokenAt {l i b : Nat} {g : Nat → Int32} (hl : l ≤ 600) (hi : i < l) (hg : g i = nI b) (hb : b ≤ 255) : f_X3_tokenAt (nI i) 600 (nI l) g = some (if 97 ≤ b ∧ b ≤ 122 then 256 else if 48 ≤ b ∧ b ≤ 57 then 257 else nI b) := by
  have g1 := grd (i := i) (n := 600) (by omega) (by decide)
  unfold f_X3_tokenAt f_X3_tokenAt_b48
  rw [if_neg (nI_pos (by omega)), if_neg (fun hh => by have := (nI_leI (by omega) (by omega)).mp hh; omega), if_pos ((nI_ltI (by omega) (by omega)).mpr (by omega)), if_neg g1, nI_clamp (by omega), hg, Option.bind_some]
  have h97 : nI b < (97 : Int32) ↔ b < 97 := nI_ltI (b := 97) (by omega) (by decide)
  have h122 : (122 : Int32) < nI b ↔ 122 < b := nI_ltI (a := 122) (by decide) (by omega)
  have h48 : nI b < (48 : Int32) ↔ b < 48 := nI_ltI (b := 48) (by omega) (by decide)
  have h57 : (57 : Int32) < nI b ↔ 57 < b := nI_ltI (a := 57) (by decide) (by omega)
  have hd : (if nI b < (48 : Int32) then some (nI b) else if (57 : Int32) < nI b then some (nI b) else some (257 : Int32)) = some (if 48 ≤ b ∧ b ≤ 57 then 257 else nI b) := by
    by_cases a : b < 48
    · rw [if_pos (h48.mpr a), if_neg (by omega)]
    · rw [if_neg (fun hh => a (h48.mp hh))]
      by_cases c : 57 < b
      · rw [if_pos (h57.mpr c), if_neg (by omega)]
      · rw [if_neg (fun hh => c (h57.mp hh)), if_pos (by omega)]
  rw [hd]
  by_cases a : b < 97
  · rw [if_pos (h97.mpr a), if_neg (show ¬ (97 ≤ b ∧ b ≤ 122) by omega)]
  · rw [if_neg (fun hh => a (h97.mp hh))]
    by_cases c : 122 < b
    · rw [if_pos (h122.mpr c), if_neg (show ¬ (97 ≤ b ∧ b ≤ 122) by omega)]
    · rw [if_neg (fun hh => c (h122.mp hh)), if_pos (show 97 ≤ b ∧ b ≤ 122 by omega)]
theorem tok_letter {b : Nat} (hb : b ≤ 255) : (if 97 ≤ b ∧ b ≤ 122 then (256 : Int32) else if 48 ≤ b ∧ b ≤ 57 then 257 else nI b) = 256 ↔ (97 ≤ b ∧ b ≤ 122) := by
  by_cases a : 97 ≤ b ∧ b ≤ 122
  · rw [if_pos a]; exact ⟨fun _ => a, fun _ => rfl⟩
  · rw [if_neg a]
    refine ⟨fun hh => ?_, fun hh => absurd hh a⟩
    exfalso
    by_cases c : 48 ≤ b ∧ b ≤ 57
    · rw [if_pos c] at hh; exact absurd hh (by decide)
    · rw [if_neg c] at hh
      have := (nI_eq (b := 256) (by omega) (by decide)).mp hh
      omega
/-- the number of a name in the class -/
theorem C_nameCode {bt : Nat → Nat} {s len l : Nat} {g : Nat → Int32} (hl : l ≤ 600) (hs : s + len ≤ l) (hg : ∀ i, i < l → g i = nI (bt i) ∧ 1 ≤ bt i ∧ bt i ≤ 255) {N : Nat} (hN : 100 < N) : (isW bt s len → f_X3_nameCode N (nI s) (nI (s + len)) 600 (nI l) g = some (nI (lcode (wdN bt s len)))) ∧ (¬ isW bt s len → f_X3_nameCode N (nI s) (nI (s + len)) 600 (nI l) g = some 0) := by
  unfold f_X3_nameCode
  by_cases h0 : len = 0
  · rw [if_pos ((nI_leI (by omega) (by omega)).mpr (by omega))]
    exact ⟨fun hh => by have := hh.1; omega, fun _ => rfl⟩
  · rw [if_neg (fun hh => by have := (nI_leI (by omega) (by omega)).mp hh; omega), nI_subI (by omega), show s + len - s = len by omega]
    by_cases h6 : 6 < len
    · rw [if_neg (show ¬ nI len ≤ (6 : Int32) from fun hh => by have := (nI_leI (b := 6) (by omega) (by decide)).mp hh; omega)]
      exact ⟨fun hh => by have := hh.2.1; omega, fun _ => rfl⟩
    · rw [if_pos (show nI len ≤ (6 : Int32) from (nI_leI (b := 6) (by omega) (by decide)).mpr (by omega))]
      have hloop : ∀ (f i : Nat), i ≤ 6 → 6 < f + i → (∀ j, j < i → j < len → 97 ≤ bt (s + j) ∧ bt (s + j) ≤ 122) → pcN (wdN bt s len) i < 32 ^ i → (isW bt s len → f_X3_nameCode_b20 (nI s) (nI (s + len)) 600 (nI l) g f (nI (pcN (wdN bt s len) i)) (nI (s + i)) = some (nI (lcode (wdN bt s len)))) ∧ (¬ isW bt s len → f_X3_nameCode_b20 (nI s) (nI (s + len)) 600 (nI l) g f (nI (pcN (wdN bt s len) i)) (nI (s + i)) = some 0) := by
        intro f
        induction f with
        | zero => intro i h1 h2; omega
        | succ f ih =>
          intro i h1 h2 h3 h4
          rw [f_X3_nameCode_b20]
          by_cases e : i = 6
          · subst e
            rw [show (6 : Int32) = nI 6 from rfl, nI_add, if_pos (Int32.le_refl _)]
            refine ⟨fun _ => ?_, fun hh => absurd ⟨by omega, by omega, fun j hj => h3 j (by omega) hj⟩ hh⟩
            rw [pcN_6]
          · have h25 : pcN (wdN bt s len) i < 2 ^ 26 := by
              have : 32 ^ i ≤ 32 ^ 5 := Nat.pow_le_pow_right (by decide) (by omega)
              omega
            have hnn : ¬ nI s + (6 : Int32) ≤ nI (s + i) := by
              rw [show (6 : Int32) = nI 6 from rfl, nI_add]
              intro hh
              have := (nI_leI (by omega) (by omega)).mp hh
              omega
            have hnext : (∀ j, j < i + 1 → j < len → 97 ≤ bt (s + j) ∧ bt (s + j) ≤ 122) → cdN (wdN bt s len i) < 32 → (isW bt s len → f_X3_nameCode_b20 (nI s) (nI (s + len)) 600 (nI l) g f (nI (pcN (wdN bt s len) i * 32 + cdN (wdN bt s len i))) (nI (s + i + 1)) = some (nI (lcode (wdN bt s len)))) ∧ (¬ isW bt s len → f_X3_nameCode_b20 (nI s) (nI (s + len)) 600 (nI l) g f (nI (pcN (wdN bt s len) i * 32 + cdN (wdN bt s len i))) (nI (s + i + 1)) = some 0) := by
              intro h5 h6
              have h7 := ih (i + 1) (by omega) (by omega) h5 (by rw [pcN, Nat.pow_succ]; omega)
              rw [pcN] at h7
              exact h7
            rw [if_neg hnn]
            unfold f_X3_nameCode_b49
            by_cases e2 : len ≤ i
            · have hw : cdN (wdN bt s len i) = 0 := by unfold cdN wdN; rw [if_pos e2]
              have hc : nI (s + len) ≤ nI (s + i) := (nI_leI (by omega) (by omega)).mpr (by omega)
              have hn := hnext (fun j hj hj2 => h3 j (by omega) hj2) (by omega)
              rw [hw] at hn
              rw [if_pos hc, if_pos hc, show (0 : Int32) = nI 0 from rfl, nI_shl_or h25 (by omega), Option.bind_some, nI_1, Option.bind_some]
              exact hn
            · have hc : ¬ nI (s + len) ≤ nI (s + i) := fun hh => by have := (nI_leI (by omega) (by omega)).mp hh; omega
              obtain ⟨g1, g2, g3⟩ := hg (s + i) (by omega)
              rw [if_neg hc, C_tokenAt hl (show s + i < l by omega) g1 g3, Option.bind_some]
              by_cases e3 : 97 ≤ bt (s + i) ∧ bt (s + i) ≤ 122
              · have gi := grd (i := s + i) (n := 600) (by omega) (by decide)
                have hw : cdN (wdN bt s len i) = bt (s + i) - 96 := by unfold cdN wdN; rw [if_neg e2]
                have hba : f_X3_byteAt (nI (s + i)) 600 (nI l) g = some (nI (bt (s + i))) := by
                  unfold f_X3_byteAt
                  rw [if_neg (nI_pos (by omega)), if_neg (fun hh => by have := (nI_leI (by omega) (by omega)).mp hh; omega), if_neg (fun hh => by have := (nI_leI (by omega) (by omega)).mp hh; omega), if_neg gi, nI_clamp (by omega), g1]
                have hn := hnext (fun j hj hj2 => by
                  by_cases e4 : j = i
                  · rw [e4]; exact e3
                  · exact h3 j (by omega) hj2) (by omega)
                rw [hw] at hn
                rw [if_pos ((tok_letter g3).mpr e3), if_neg hc, hba, Option.bind_some, show (97 : Int32) = nI 97 from rfl, nI_subI (by omega), nI_1, show bt (s + i) - 97 + 1 = bt (s + i) - 96 by omega, nI_shl_or h25 (by omega), Option.bind_some, nI_1, Option.bind_some]
                exact hn
              · rw [if_neg (fun hh => e3 ((tok_letter g3).mp hh))]
                exact ⟨fun hh => absurd (hh.2.2 i (by omega)) e3, fun _ => rfl⟩
      exact hloop N 0 (by omega) (by omega) (fun j hj => absurd hj (Nat.not_lt_zero _)) (by show 0 < 1; omega)
/-- a name's number of its sort in the class -/
theorem C_numberOf {t n : Nat} {c : Int32} {cs nm : Nat → Int32} (ht : t < 8) (hn : n ≤ 12) (h : cs t = nI n) {N : Nat} (hN : 100 < N) : ∃ ρ : Int32, f_X7_numberOf N (nI t) c 8 96 cs nm = some ρ ∧ ((ρ = -1 ∧ ∀ i, i < n → ¬ (¬ c = 0 ∧ nm (12 * t + i) = c)) ∨ ∃ i, i < n ∧ ρ = nI i ∧ ¬ c = 0 ∧ nm (12 * t + i) = c) := by
  have hloop : ∀ (f i : Nat), i ≤ n → n < f + i → (∀ j, j < i → ¬ (¬ c = 0 ∧ nm (12 * t + j) = c)) → ∃ ρ : Int32, f_X7_numberOf_b2 (nI t) c 8 96 cs nm f (nI i) = some ρ ∧ ((ρ = -1 ∧ ∀ i, i < n → ¬ (¬ c = 0 ∧ nm (12 * t + i) = c)) ∨ ∃ i, i < n ∧ ρ = nI i ∧ ¬ c = 0 ∧ nm (12 * t + i) = c) := by
    intro f
    induction f with
    | zero => intro i h1 h2; omega
    | succ f ih =>
      intro i h1 h2 h3
      rw [f_X7_numberOf_b2, X6_at_in cs (show 8 < 2 ^ 31 by decide) ht, h, Option.bind_some]
      by_cases e : i = n
      · rw [if_pos (by rw [e]; exact Int32.le_refl _)]
        exact ⟨-1, rfl, Or.inl ⟨rfl, fun j hj => h3 j (by omega)⟩⟩
      · rw [if_neg (fun hh => by have := (nI_leI (by omega) (by omega)).mp hh; omega)]
        have hnext : ¬ (¬ c = 0 ∧ nm (12 * t + i) = c) → ∃ ρ : Int32, f_X7_numberOf_b2 (nI t) c 8 96 cs nm f (nI (i + 1)) = some ρ ∧ ((ρ = -1 ∧ ∀ i, i < n → ¬ (¬ c = 0 ∧ nm (12 * t + i) = c)) ∨ ∃ i, i < n ∧ ρ = nI i ∧ ¬ c = 0 ∧ nm (12 * t + i) = c) := fun hh => ih (i + 1) (by omega) (by omega) (fun j hj => by
          by_cases e4 : j = i
          · rw [e4]; exact hh
          · exact h3 j (by omega))
        by_cases e2 : c = 0
        · rw [if_pos e2, nI_1, Option.bind_some]
          exact hnext (fun hh => hh.1 e2)
        · rw [if_neg e2, show (12 : Int32) = nI 12 from rfl, nI_mul, nI_add, X6_at_in nm (show 96 < 2 ^ 31 by decide) (show t * 12 + i < 96 by omega), Option.bind_some, show t * 12 + i = 12 * t + i by omega]
          by_cases e3 : nm (12 * t + i) = c
          · rw [if_pos e3]
            exact ⟨nI i, rfl, Or.inr ⟨i, by omega, rfl, e2, e3⟩⟩
          · rw [if_neg e3, nI_1, Option.bind_some]
            exact hnext (fun hh => e3 hh.2)
  have h5 := hloop N 0 (Nat.zero_le _) (by omega) (fun j hj => absurd hj (Nat.not_lt_zero _))
  rw [nI_0] at h5
  exact h5


