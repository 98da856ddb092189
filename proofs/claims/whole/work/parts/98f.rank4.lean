/-- the reference: the last member of a rank -/
theorem M_rank {T B C : Nat → Nat} {n p : Nat} {fx le so wh now : Nat → Int32} (hn : n ≤ 12) (h3 : fx 3 = nI n) {N : Nat} (hN : 100 < N) (hA : ∀ x y, x < n → y < n → f_X11_isAhead N (nI x) (nI y) 192 32 32 72470 le so wh now = some (if bfr T B C y x = true then 1 else 0)) (hp : p < 2 ^ 31) (hC : ∀ a b, a < n → b < n → C a = C b → a = b) (t : Int32) : ((∀ j, j < n → ¬ cntN (bfr T B C j) n = p) → f_X11_rankedMember_b23 N (nI p) 71 192 32 32 72470 t fx le so wh now N (-1) 0 = some (-1, t)) ∧ ∀ j, j < n → cntN (bfr T B C j) n = p → f_X11_rankedMember_b23 N (nI p) 71 192 32 32 72470 t fx le so wh now N (-1) 0 = some (nI j, t) := by
  have gd3 : ¬ ((3 : Int32) < 0 ∨ 71 ≤ (3 : Int32).toNatClampNeg) := by decide
  have hin : ∀ (kk : Int32 → Int32 → Option (Int32 × Int32)) (x2 : Int32) (i : Nat), i < n → ∀ (f x : Nat), x ≤ n → n < f + x → f_X11_rankedMember_b39 N kk (nI p) x2 (nI i) 71 192 32 32 72470 fx le so wh now f (nI (cntN (bfr T B C i) x)) (nI x) = if cntN (bfr T B C i) n = p then kk (nI i) (nI (i + 1)) else kk x2 (nI (i + 1)) := by
    intro kk x2 i hi f
    induction f with
    | zero => intro x a1 a2; omega
    | succ f ih =>
      intro x a1 a2
      rw [f_X11_rankedMember_b39, if_neg gd3, show (3 : Int32).toNatClampNeg = 3 from rfl, h3]
      by_cases e : x = n
      · have hbd := cntN_bd (p := bfr T B C i) (n := n)
        rw [if_pos (by rw [e]; exact Int32.le_refl _), e, nI_1, Option.bind_some, Option.bind_some]
        by_cases e2 : cntN (bfr T B C i) n = p
        · rw [if_pos e2, if_pos (by rw [e2])]
        · rw [if_neg e2, if_neg (fun hh => e2 ((nI_eq (by omega) hp).mp hh))]
      · have hn2 := ih (x + 1) (by omega) (by omega)
        rw [cntN] at hn2
        rw [if_neg (fun hh => by have := (nI_leI (by omega) (by omega)).mp hh; omega)]
        by_cases e4 : x = i
        · have e5 : ¬ bfr T B C i x = true := by
            rw [e4]
            unfold bfr
            rw [decide_eq_true_iff]
            omega
          rw [if_neg e5] at hn2
          rw [if_pos (by rw [e4]), Int32.add_zero, Option.bind_some, nI_1, Option.bind_some]
          exact hn2
        · rw [if_neg (fun hh => e4 ((nI_eq (by omega) (by omega)).mp hh)), hA x i (by omega) hi, Option.bind_some]
          by_cases e3 : bfr T B C i x = true
          · rw [if_pos e3] at hn2 ⊢
            rw [if_neg (by decide), nI_1, Option.bind_some, nI_1, Option.bind_some]
            exact hn2
          · rw [if_neg e3] at hn2 ⊢
            rw [if_pos rfl, Int32.add_zero, Option.bind_some, nI_1, Option.bind_some]
            exact hn2
  have hout : ∀ (f i : Nat) (x2 : Int32), i ≤ n → n < f + i → ((∀ j, i ≤ j → j < n → ¬ cntN (bfr T B C j) n = p) → f_X11_rankedMember_b23 N (nI p) 71 192 32 32 72470 t fx le so wh now f x2 (nI i) = some (x2, t)) ∧ ∀ j, i ≤ j → j < n → cntN (bfr T B C j) n = p → f_X11_rankedMember_b23 N (nI p) 71 192 32 32 72470 t fx le so wh now f x2 (nI i) = some (nI j, t) := by
    intro f
    induction f with
    | zero => intro i x2 a1 a2; omega
    | succ f ih =>
      intro i x2 a1 a2
      rw [f_X11_rankedMember_b23, if_neg gd3, show (3 : Int32).toNatClampNeg = 3 from rfl, h3]
      by_cases e : i = n
      · rw [if_pos (by rw [e]; exact Int32.le_refl _)]
        exact ⟨fun _ => rfl, fun j h1 h2 => by omega⟩
      · have hx := hin (f_X11_rankedMember_b23 N (nI p) 71 192 32 32 72470 t fx le so wh now f) x2 i (by omega) N 0 (Nat.zero_le _) (by omega)
        rw [cntN, nI_0] at hx
        rw [if_neg (fun hh => by have := (nI_leI (by omega) (by omega)).mp hh; omega), hx]
        by_cases e2 : cntN (bfr T B C i) n = p
        · rw [if_pos e2]
          have h5 := ih (i + 1) (nI i) (by omega) (by omega)
          have h6 : ∀ j, i + 1 ≤ j → j < n → ¬ cntN (bfr T B C j) n = p := fun j j1 j2 hh => by
            have := rank_inj hC (show i < n by omega) j2 (by rw [e2, hh])
            omega
          refine ⟨fun hh => absurd e2 (hh i (Nat.le_refl _) (by omega)), fun j j1 j2 j3 => ?_⟩
          have := rank_inj hC (show i < n by omega) j2 (by rw [e2, j3])
          rw [← this]
          exact h5.1 h6
        · rw [if_neg e2]
          have h5 := ih (i + 1) x2 (by omega) (by omega)
          refine ⟨fun hh => h5.1 (fun j j1 j2 => hh j (by omega) j2), fun j j1 j2 j3 => ?_⟩
          have h7 : ¬ j = i := fun hh => e2 (by rw [← hh]; exact j3)
          exact h5.2 j (by omega) j2 j3
  have h9 := hout N 0 (-1) (Nat.zero_le _) (by omega)
  rw [nI_0] at h9
  exact ⟨fun hh => h9.1 (fun j _ j2 => hh j j2), fun j j2 j3 => h9.2 j (Nat.zero_le _) j2 j3⟩
/-- the reference's order -/
theorem M_ahead {v : Nat → Nat} {d : Nat} {E : List En} {g : Nat → Int32} (hV : SV v) (H : MC d E g) (hs : Sor E) (hv : ∀ x ∈ E, VK x.1 ∧ 1 ≤ x.2) (hP : sumP E < 2 ^ 31) (hE : EV v d E) (hd : d ≤ 9999) {T ρ : Nat → Nat} {R : Nat → Nat → Nat} {le so wh : Nat → Int32} (hT : ∀ m, m < v 3 → g (42 + m) = nI (T m) ∧ T m < 2 ^ 31) {N : Nat} (hN : 2000 < N) (hR : ∀ m, m < v 3 → ρ m < v 70 ∧ f_X11_rowOfMember N (nI m) 32 32 so wh = some (nI (ρ m))) (h70 : v 70 ≤ 29) (hW : ∀ r, r < v 70 → WdN (R r) ∧ ∀ i, i < 6 → le (6 * r + i) = nI (R r i)) {x y : Nat} (hx : x < v 3) (hy : y < v 3) : f_X11_isAhead N (nI x) (nI y) 192 32 32 72470 le so wh g = some (if bfr T (fun m => sumQ (fun k => decide (kL k = m)) E) (fun m => lcode (R (ρ m))) y x = true then 1 else 0) := by
  have hv3 := hV.1.2.2.2.2.1
  have tx := hT x hx
  have ty := hT y hy
  have bx := sumQ_le (q := fun k => decide (kL k = x)) (E := E)
  have by' := sumQ_le (q := fun k => decide (kL k = y)) (E := E)
  have g1 := grd (i := 42 + x) (n := 72470) (by omega) (by decide)
  have g2 := grd (i := 42 + y) (n := 72470) (by omega) (by decide)
  have hname : f_X11_isNameAhead N (nI x) (nI y) 192 32 32 le so wh = some (if lcode (R (ρ x)) < lcode (R (ρ y)) then 1 else 0) := by
    unfold f_X11_isNameAhead
    rw [(hR x hx).2, Option.bind_some, show (6 : Int32) = nI 6 from rfl, nI_mul, Option.bind_some, (hR y hy).2, Option.bind_some, nI_mul, Option.bind_some, M_name h70 hW (hR x hx).1 (hR y hy).1 (by omega)]
  unfold f_X11_isAhead
  rw [show (42 : Int32) + nI x = nI (42 + x) from nI_add 42 x, show (42 : Int32) + nI y = nI (42 + y) from nI_add 42 y, if_neg g1, if_neg g2]
  rw [nI_clamp (by omega)] at g1 g2
  rw [nI_clamp (by omega), nI_clamp (by omega), tx.1, ty.1, M_inAccount hV H hs hv hE hd (show x < 12 by omega) hN, M_inAccount hV H hs hv hE hd (show y < 12 by omega) hN, Option.bind_some, Option.bind_some, hname, Option.bind_some]
  unfold bfr
  dsimp only
  by_cases h1 : T x = T y
  · rw [if_pos ((nI_eq tx.2 ty.2).mpr h1)]
    by_cases h2 : sumQ (fun k => decide (kL k = x)) E = sumQ (fun k => decide (kL k = y)) E
    · rw [if_pos ((nI_eq (by omega) (by omega)).mpr h2)]
      by_cases h3 : lcode (R (ρ x)) < lcode (R (ρ y))
      · rw [if_pos h3, if_pos (Or.inr rfl), decide_eq_true (by omega), if_pos rfl]
      · rw [if_neg h3, if_pos (Or.inl rfl), decide_eq_false (by omega), if_neg Bool.false_ne_true]
    · rw [if_neg (fun hh => h2 ((nI_eq (by omega) (by omega)).mp hh))]
      by_cases h3 : sumQ (fun k => decide (kL k = x)) E ≤ sumQ (fun k => decide (kL k = y)) E
      · rw [if_pos ((nI_leI (by omega) (by omega)).mpr h3), decide_eq_false (by omega), if_neg Bool.false_ne_true]
      · rw [if_neg (fun hh => h3 ((nI_leI (by omega) (by omega)).mp hh)), decide_eq_true (by omega), if_pos rfl]
  · rw [if_neg (fun hh => h1 ((nI_eq tx.2 ty.2).mp hh)), if_neg g1, if_neg g2]
    by_cases h3 : T x ≤ T y
    · rw [if_pos ((nI_leI tx.2 ty.2).mpr h3), decide_eq_false (by omega), if_neg Bool.false_ne_true]
    · rw [if_neg (fun hh => h3 ((nI_leI tx.2 ty.2).mp hh)), decide_eq_true (by omega), if_pos rfl]

