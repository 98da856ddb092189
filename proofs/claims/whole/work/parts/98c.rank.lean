/-- how many below a number -/
def cntN (p : Nat → Bool) : Nat → Nat
  | 0 => 0
  | n + 1 => cntN p n + (if p n = true then 1 else 0)
theorem cntN_le {p q : Nat → Bool} : ∀ {n : Nat}, (∀ z, z < n → p z = true → q z = true) → cntN p n ≤ cntN q n
  | 0, _ => Nat.le_refl _
  | n + 1, h => by
    have ih := cntN_le (p := p) (q := q) (n := n) (fun z hz => h z (by omega))
    rw [cntN, cntN]
    by_cases h1 : p n = true
    · rw [if_pos h1, if_pos (h n (by omega) h1)]; omega
    · rw [if_neg h1]
      by_cases h2 : q n = true
      · rw [if_pos h2]; omega
      · rw [if_neg h2]; omega
theorem cntN_lt {p q : Nat → Bool} {x : Nat} : ∀ {n : Nat}, (∀ z, z < n → p z = true → q z = true) → x < n → p x = false → q x = true → cntN p n < cntN q n
  | 0, _, h, _, _ => absurd h (Nat.not_lt_zero _)
  | n + 1, h, hx, h1, h2 => by
    rw [cntN, cntN]
    by_cases e : x = n
    · subst e
      have := cntN_le (p := p) (q := q) (n := x) (fun z hz => h z (by omega))
      rw [h1, if_neg Bool.false_ne_true, h2, if_pos rfl]; omega
    · have ih := cntN_lt (p := p) (q := q) (x := x) (n := n) (fun z hz => h z (by omega)) (by omega) h1 h2
      by_cases h3 : p n = true
      · rw [if_pos h3, if_pos (h n (by omega) h3)]; omega
      · rw [if_neg h3]
        by_cases h4 : q n = true
        · rw [if_pos h4]; omega
        · rw [if_neg h4]; omega
theorem cntN_bd {p : Nat → Bool} : ∀ {n : Nat}, cntN p n ≤ n
  | 0 => Nat.le_refl _
  | n + 1 => by
    have ih := cntN_bd (p := p) (n := n)
    rw [cntN]
    by_cases h : p n = true
    · rw [if_pos h]; omega
    · rw [if_neg h]; omega
/-- a member ranks before another -/
def bfr (T B C : Nat → Nat) (y x : Nat) : Bool := decide (T y < T x ∨ (T x = T y ∧ (B y < B x ∨ (B x = B y ∧ C x < C y))))
theorem rank_inj {T B C : Nat → Nat} {n x y : Nat} (hC : ∀ a b, a < n → b < n → C a = C b → a = b) (hx : x < n) (hy : y < n) (h : cntN (bfr T B C x) n = cntN (bfr T B C y) n) : x = y := by
  have hlt : ∀ {x y : Nat}, x < n → bfr T B C y x = true → cntN (bfr T B C x) n < cntN (bfr T B C y) n := by
    intro x y hx h1
    refine cntN_lt (x := x) (fun z _ hz => ?_) hx ?_ h1
    · unfold bfr at h1 hz ⊢
      have a := of_decide_eq_true h1
      have b := of_decide_eq_true hz
      exact decide_eq_true (by omega)
    · unfold bfr
      exact decide_eq_false (by omega)
  by_cases h1 : T y < T x ∨ (T x = T y ∧ (B y < B x ∨ (B x = B y ∧ C x < C y)))
  · have := hlt hx (y := y) (by unfold bfr; exact decide_eq_true h1)
    omega
  · by_cases h2 : T x < T y ∨ (T y = T x ∧ (B x < B y ∨ (B y = B x ∧ C y < C x)))
    · have := hlt hy (y := x) (by unfold bfr; exact decide_eq_true h2)
      omega
    · exact hC x y hx hy (by omega)
/-- the class's question -/
theorem C_before {T B C : Nat → Nat} {n : Nat} {nm ti ba : Nat → Int32} (hn : n ≤ 12) (hT : ∀ m, m < n → ti m = nI (T m) ∧ T m < 2 ^ 31) (hB : ∀ m, m < n → ba m = nI (B m) ∧ B m < 2 ^ 31) (hC : ∀ m, m < n → nm (36 + m) = nI (C m) ∧ C m < 2 ^ 31) {x y : Nat} (hx : x < n) (hy : y < n) : f_X0_ranksBefore (nI x) (nI y) 96 12 12 nm ti ba = some (if bfr T B C y x = true then 1 else 0) := by
  have h96 : (96 : Nat) < 2 ^ 31 := by decide
  have nx := hT x hx
  have ny := hT y hy
  have bx := hB x hx
  have by' := hB y hy
  have cx := hC x hx
  have cy := hC y hy
  unfold f_X0_ranksBefore f_X7_nameOf
  rw [X6_at_in ti h12 (show x < 12 by omega), X6_at_in ti h12 (show y < 12 by omega), X6_at_in ba h12 (show x < 12 by omega), X6_at_in ba h12 (show y < 12 by omega), show (3 : Int32) * (12 : Int32) = nI 36 from rfl, nI_add, nI_add, X6_at_in nm h96 (show 36 + x < 96 by omega), X6_at_in nm h96 (show 36 + y < 96 by omega), nx.1, ny.1, bx.1, by'.1, cx.1, cy.1]
  simp only [Option.bind_some]
  unfold bfr
  by_cases h1 : T x = T y
  · rw [if_pos ((nI_eq nx.2 ny.2).mpr h1)]
    by_cases h2 : B x = B y
    · rw [if_pos ((nI_eq bx.2 by'.2).mpr h2)]
      by_cases h3 : C y ≤ C x
      · rw [if_pos ((nI_leI cy.2 cx.2).mpr h3), decide_eq_false (by omega), if_neg Bool.false_ne_true]
      · rw [if_neg (fun hh => h3 ((nI_leI cy.2 cx.2).mp hh)), decide_eq_true (by omega), if_pos rfl]
    · rw [if_neg (fun hh => h2 ((nI_eq bx.2 by'.2).mp hh))]
      by_cases h3 : B x ≤ B y
      · rw [if_pos ((nI_leI bx.2 by'.2).mpr h3), decide_eq_false (by omega), if_neg Bool.false_ne_true]
      · rw [if_neg (fun hh => h3 ((nI_leI bx.2 by'.2).mp hh)), decide_eq_true (by omega), if_pos rfl]
  · rw [if_neg (fun hh => h1 ((nI_eq nx.2 ny.2).mp hh))]
    by_cases h3 : T x ≤ T y
    · rw [if_pos ((nI_leI nx.2 ny.2).mpr h3), decide_eq_false (by omega), if_neg Bool.false_ne_true]
    · rw [if_neg (fun hh => h3 ((nI_leI nx.2 ny.2).mp hh)), decide_eq_true (by omega), if_pos rfl]

