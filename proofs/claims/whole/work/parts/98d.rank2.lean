/-- the class: the first member of a rank -/
theorem C_rank {T B C : Nat → Nat} {n p : Nat} {nm ti : Nat → Int32} {ba0 : Nat → Int32} {E : List En} {z : Int32} {gl gd gc gp cs : Nat → Int32} (H : CoE E z gl gd gc gp) (hn : n ≤ 12) (h3 : cs 3 = nI n) (hT : ∀ m, m < n → ti m = nI (T m) ∧ T m < 2 ^ 31) (hB : ∀ m, B m = sumQ (fun k => decide (kL k = m)) E) (hC : ∀ m, m < n → nm (36 + m) = nI (C m) ∧ C m < 2 ^ 31) (hp : p < 2 ^ 31) {N : Nat} (hN : 1024 < N) : ∃ r ba, f_X0_memberAtRank N (nI p) 8 96 1024 1024 1024 12 12 cs nm z gl gc gp ti ba0 = some (r, ba) ∧ ((r = -1 ∧ ∀ j, j < n → ¬ cntN (bfr T B C j) n = p) ∨ ∃ j, j < n ∧ r = nI j ∧ cntN (bfr T B C j) n = p) := by
  have hin : ∀ (ba : Nat → Int32), (∀ m, m < n → ba m = nI (B m) ∧ B m < 2 ^ 31) → ∀ (kk : Int32 → Option (Int32 × (Nat → Int32))) (i : Nat), i < n → ∀ (f x : Nat), x ≤ n → n < f + x → f_X0_memberAtRank_b53 kk (nI p) (nI n) (nI i) 96 12 12 nm ti ba f (nI (cntN (bfr T B C i) x)) (nI x) = if cntN (bfr T B C i) n = p then some (nI i, ba) else kk (nI (i + 1)) := by
    intro ba hba kk i hi f
    induction f with
    | zero => intro x a1 a2; omega
    | succ f ih =>
      intro x a1 a2
      rw [f_X0_memberAtRank_b53]
      by_cases e : x = n
      · have hbd := cntN_bd (p := bfr T B C i) (n := n)
        rw [if_pos (by rw [e]; exact Int32.le_refl _), e, nI_1, Option.bind_some]
        by_cases e2 : cntN (bfr T B C i) n = p
        · rw [if_pos e2, if_pos (by rw [e2])]
        · rw [if_neg e2, if_neg (fun hh => e2 ((nI_eq (by omega) hp).mp hh))]
      · rw [if_neg (fun hh => by have := (nI_leI (by omega) (by omega)).mp hh; omega), C_before hn hT hba hC (show x < n by omega) hi, Option.bind_some]
        have hn2 := ih (x + 1) (by omega) (by omega)
        rw [cntN] at hn2
        by_cases e3 : bfr T B C i x = true
        · rw [if_pos e3] at hn2 ⊢
          rw [if_neg (by decide), nI_1, Option.bind_some, nI_1, Option.bind_some]
          exact hn2
        · rw [if_neg e3] at hn2 ⊢
          rw [if_pos rfl, nI_1, Option.bind_some]
          exact hn2
  have hout : ∀ (ba : Nat → Int32), (∀ m, m < n → ba m = nI (B m) ∧ B m < 2 ^ 31) → ∀ (f i : Nat), i ≤ n → n < f + i → (∀ j, j < i → ¬ cntN (bfr T B C j) n = p) → ∃ r ba', f_X0_memberAtRank_b42 N (nI p) (nI n) 96 12 12 nm ti ba f (nI i) = some (r, ba') ∧ ((r = -1 ∧ ∀ j, j < n → ¬ cntN (bfr T B C j) n = p) ∨ ∃ j, j < n ∧ r = nI j ∧ cntN (bfr T B C j) n = p) := by
    intro ba hba f
    induction f with
    | zero => intro i a1 a2; omega
    | succ f ih =>
      intro i a1 a2 a3
      rw [f_X0_memberAtRank_b42]
      by_cases e : i = n
      · rw [if_pos (by rw [e]; exact Int32.le_refl _)]
        exact ⟨-1, ba, rfl, Or.inl ⟨rfl, fun j hj => a3 j (by omega)⟩⟩
      · have hx := hin ba hba (f_X0_memberAtRank_b42 N (nI p) (nI n) 96 12 12 nm ti ba f) i (by omega) N 0 (Nat.zero_le _) (by omega)
        rw [cntN, nI_0] at hx
        rw [if_neg (fun hh => by have := (nI_leI (by omega) (by omega)).mp hh; omega), hx]
        by_cases e2 : cntN (bfr T B C i) n = p
        · rw [if_pos e2]
          exact ⟨nI i, ba, rfl, Or.inr ⟨i, by omega, rfl, e2⟩⟩
        · rw [if_neg e2]
          exact ih (i + 1) (by omega) (by omega) (fun j hj => by
            by_cases e4 : j = i
            · rw [e4]; exact e2
            · exact a3 j (by omega))
  have hB2 : ∀ m, B m < 2 ^ 31 := fun m => by
    rw [hB]
    have h5 := sumQ_le (q := fun k => decide (kL k = m)) (E := E)
    have h6 := H.2.2.2
    omega
  have hfill : ∀ (f i : Nat) (ba : Nat → Int32), i ≤ n → n < f + i → (∀ m, m < i → ba m = nI (B m) ∧ B m < 2 ^ 31) → ∃ r ba', f_X0_memberAtRank_b11 N (nI p) (nI n) 96 1024 1024 1024 12 12 nm z gl gc gp ti f (nI i) ba = some (r, ba') ∧ ((r = -1 ∧ ∀ j, j < n → ¬ cntN (bfr T B C j) n = p) ∨ ∃ j, j < n ∧ r = nI j ∧ cntN (bfr T B C j) n = p) := by
    intro f
    induction f with
    | zero => intro i ba a1 a2; omega
    | succ f ih =>
      intro i ba a1 a2 a3
      rw [f_X0_memberAtRank_b11]
      by_cases e : i = n
      · rw [if_pos (by rw [e]; exact Int32.le_refl _)]
        rw [e] at a3
        have h9 := hout ba a3 N 0 (Nat.zero_le _) (by omega) (fun j hj => absurd hj (Nat.not_lt_zero _))
        rw [nI_0] at h9
        exact h9
      · rw [if_neg (fun hh => by have := (nI_leI (by omega) (by omega)).mp hh; omega), C_balance H (show i < 16 by omega) hN, Option.bind_some, X6_put_in _ _ h12 (show i < 12 by omega), Option.bind_some, nI_1, Option.bind_some]
        refine ih (i + 1) _ (by omega) (by omega) (fun m hm => ?_)
        by_cases e2 : m = i
        · rw [e2]
          unfold upd
          rw [if_pos rfl, hB]
          exact ⟨rfl, by rw [← hB]; exact hB2 i⟩
        · rw [upd_ne _ _ e2]
          exact a3 m (by omega)
  unfold f_X0_memberAtRank f_X7_count
  rw [show (3 : Int32) = nI 3 from rfl, X6_at_in cs (show 8 < 2 ^ 31 by decide) (show 3 < 8 by decide), h3, Option.bind_some, Option.bind_some]
  exact hfill N 0 ba0 (Nat.zero_le _) (by omega) (fun m hm => absurd hm (Nat.not_lt_zero _))

