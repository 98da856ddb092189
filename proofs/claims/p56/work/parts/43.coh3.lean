theorem X1_all_in {L : List Co} {z : Int32} {gl gd gc gp : Nat → Int32} (H : CoR L z gl gd gc gp) (x1 x2 x3 x4 : Int32) {N : Nat} (hN : 1024 < N) : ∃ o, f_X1_takeFromAll N x1 x2 x3 x4 1024 1024 1024 1024 z gl gd gc gp = some (x4 - (allL (fun e => anyI x1 e.1 && (anyI x2 e.2.1 && anyI x3 e.2.2.1)) L.length x4 L).1, o) ∧ CoR (allL (fun e => anyI x1 e.1 && (anyI x2 e.2.1 && anyI x3 e.2.2.1)) L.length x4 L).2 o.1 o.2.1 o.2.2.1 o.2.2.2.1 o.2.2.2.2 := by
  have hl := H.1
  have h := X1_all_from x1 x2 x3 x4 hN N L.length x4 z L gl gd gc gp H (by omega) hl
  unfold f_X1_takeFromAll
  rw [← H.2.1] at h
  exact h
/-- a part of the i-th of a list -/
theorem X1_part_in {L : List Co} {z : Int32} {gl gd gc gp : Nat → Int32} (H : CoR L z gl gd gc gp) (x1 : Int32) {N : Nat} (hN : 1024 < N) {j i : Nat} (hf : firstN (fun e => anyI x1 e.1) L = some j) {e : Co} (he : L[j + i]? = some e) (x3 : Int32) : f_X1_part N x1 (nI i) x3 1024 1024 1024 1024 z gl gd gc gp = some (if x3 = 0 then e.2.2.2 else if x3 = 1 then e.2.1 else e.2.2.1) := by
  have h1024 : (1024 : Nat) < 2 ^ 31 := by decide
  have hl := H.1
  have hq : j + i < L.length := (List.getElem?_eq_some_iff.mp he).1
  have hq2 : j + i < 1024 := by omega
  obtain ⟨e1, e2, e3, e4⟩ := H.2.2 _ e he
  have hq5 : (fun e : Co => anyI x1 e.1 && (anyI (-2) e.2.1 && anyI (-2) e.2.2.1)) = (fun e => anyI x1 e.1) := by
    funext e
    rw [anyI_any rfl, anyI_any rfl, Bool.and_true, Bool.and_true]
  unfold f_X1_part
  rw [X1_first_in H x1 (-2) (-2) hN, hq5, firstL_N, hf]
  simp only [Option.elim, Option.bind_some, Nat.zero_add, nI_add]
  rw [X6_at_in gp h1024 hq2, X6_at_in gd h1024 hq2, X6_at_in gc h1024 hq2, e2, e3, e4]
  simp only [Option.bind_some]
  by_cases a : x3 = 0
  · rw [if_pos a, if_pos a]
  · rw [if_neg a, if_neg a]
    by_cases b : x3 = 1
    · rw [if_pos b, if_pos b]
    · rw [if_neg b, if_neg b]
/-- the cohorts copied -/
theorem X1_copyFrom_in {L M : List Co} {z y : Int32} {gl gd gc gp hl hd hc hp : Nat → Int32} (H : CoR M y hl hd hc hp) : ∃ o, f_X1_copyFrom 1024 1024 1024 1024 1024 1024 1024 1024 gl gd gc gp y hl hd hc hp = some o ∧ CoR M o.1 o.2.1 o.2.2.1 o.2.2.2.1 o.2.2.2.2 := by
  have h1024 : (1024 : Nat) < 2 ^ 31 := by decide
  have hy := H.2.1
  subst hy
  refine ⟨(nI M.length, (fun j => if j < M.length then hl j else gl j), (fun j => if j < M.length then hd j else gd j), (fun j => if j < M.length then hc j else gc j), (fun j => if j < M.length then hp j else gp j)), ?_, H.1, rfl, ?_⟩
  · unfold f_X1_copyFrom
    simp only [fun g h => X6_copyFirst_in (n := 1024) (k := M.length) g h h1024 H.1, Option.bind_some]
  · intro i e hi
    have hq : i < M.length := (List.getElem?_eq_some_iff.mp hi).1
    simp only [hq, if_true]
    exact H.2.2 i e hi
/-- the losses by the lists, of those that expire -/
def lossL (x1 : Int32) : List Co → (Nat → Int32) → (Nat → Int32)
  | [], g => g
  | e :: L, g => if x1 < e.2.1 then lossL x1 L g else lossL x1 L (upd g e.1.toNatClampNeg (g e.1.toNatClampNeg + e.2.2.2))
theorem cpy1 {g : Nat → Int32} {a b j : Nat} : va_cpy g g a b 1 j = if j = b then g a else g j := by
  unfold va_cpy
  by_cases h : j = b
  · rw [if_pos (by omega), if_pos h, h, Nat.sub_self, Nat.add_zero]
  · rw [if_neg (by omega), if_neg h]
theorem X1_expire_from (x1 : Int32) {z : Int32} {L : List Co} (hz : z = nI L.length) (hl : L.length ≤ 1024) (hp : ∀ e ∈ L, ∃ a, a < 16 ∧ e.1 = nI a) : ∀ (n i : Nat) (K : List Co) (gl gd gc gp g0 : Nat → Int32), i ≤ L.length → K.length ≤ i → L.length < n + i → (∀ (j : Nat) (e : Co), K[j]? = some e → gl j = e.1 ∧ gd j = e.2.1 ∧ gc j = e.2.2.1 ∧ gp j = e.2.2.2) → (∀ (j : Nat) (e : Co), i ≤ j → L[j]? = some e → gl j = e.1 ∧ gd j = e.2.1 ∧ gc j = e.2.2.1 ∧ gp j = e.2.2.2) → ∃ o, f_X1_expire_b5 x1 1024 1024 1024 1024 16 z n (nI K.length) (nI i) gl gd gc gp g0 = some o ∧ CoR (K ++ (L.drop i).filter (fun e => decide (x1 < e.2.1))) o.1 o.2.1 o.2.2.1 o.2.2.2.1 o.2.2.2.2.1 ∧ o.2.2.2.2.2 = lossL x1 (L.drop i) g0 := by
  have h1024 : (1024 : Nat) < 2 ^ 31 := by decide
  have h16 : (16 : Nat) < 2 ^ 31 := by decide
  have hL : L.length < 2 ^ 31 := by omega
  subst hz
  intro n
  induction n with
  | zero => intro i K gl gd gc gp g0 h1 h2 h3; omega
  | succ n ih =>
    intro i K gl gd gc gp g0 h1 h2 h3 hK hR
    have hi : i < 2 ^ 31 := by omega
    rw [f_X1_expire_b5]
    by_cases h : L.length ≤ i
    · have h4 : L.drop i = [] := List.drop_eq_nil_of_le h
      rw [if_pos ((nI_leI hL hi).mpr h), h4]
      exact ⟨_, rfl, ⟨by simp; omega, by simp, by simpa using hK⟩, rfl⟩
    · have hi2 : i < 1024 := by omega
      have hk2 : K.length < 1024 := by omega
      have hk3 : K.length < 2 ^ 31 := by omega
      obtain ⟨e, he, hd⟩ := drop_cons' (L := L) (i := i) (by omega)
      obtain ⟨e1, e2, e3, e4⟩ := hR i e (Nat.le_refl i) he
      rw [if_neg (fun hh => h ((nI_leI hL hi).mp hh)), X6_at_in gd h1024 hi2, e2]
      simp only [Option.bind_some]
      rw [hd]
      by_cases hx : x1 < e.2.1
      · have hf : (e :: L.drop (i + 1)).filter (fun e => decide (x1 < e.2.1)) = e :: (L.drop (i + 1)).filter (fun e => decide (x1 < e.2.1)) := List.filter_cons_of_pos (by simpa using hx)
        rw [if_pos hx, hf, lossL, if_pos hx]
        have hkl : (K ++ [e]).length = K.length + 1 := by simp
        have hap : K ++ e :: (L.drop (i + 1)).filter (fun e => decide (x1 < e.2.1)) = (K ++ [e]) ++ (L.drop (i + 1)).filter (fun e => decide (x1 < e.2.1)) := by simp
        rw [hap]
        by_cases hki : i ≤ K.length
        · have hki2 : i = K.length := by omega
          rw [if_pos ((nI_leI hi hk3).mpr hki), nI_1, nI_1, ← hkl]
          refine ih (i + 1) (K ++ [e]) gl gd gc gp g0 (by omega) (by rw [hkl]; omega) (by omega) ?_ (fun j e' hj he' => hR j e' (by omega) he')
          intro j e' hj
          by_cases hjk : j < K.length
          · rw [List.getElem?_append_left hjk] at hj
            exact hK j e' hj
          · rw [List.getElem?_append_right (by omega)] at hj
            have hj0 : j - K.length = 0 := by
              have := (List.getElem?_eq_some_iff.mp hj).1
              simp at this; omega
            rw [hj0] at hj
            cases hj
            have : j = i := by omega
            rw [this]
            exact ⟨e1, e2, e3, e4⟩
        · rw [if_neg (fun hh => hki ((nI_leI hi hk3).mp hh))]
          have hone : (1 : Int32) = nI 1 := by decide
          rw [hone]
          simp only [fun g => X6_move_any (n := 1024) (a := i) (b := K.length) (c := 1) g h1024 (by omega) (by omega), Option.bind_some, nI_add]
          rw [← hkl]
          refine ih (i + 1) (K ++ [e]) _ _ _ _ g0 (by omega) (by rw [hkl]; omega) (by omega) ?_ ?_
          · intro j e' hj
            simp only [cpy1]
            by_cases hjk : j < K.length
            · have hne : ¬ j = K.length := by omega
              rw [List.getElem?_append_left hjk] at hj
              simp only [hne, if_false]
              exact hK j e' hj
            · rw [List.getElem?_append_right (by omega)] at hj
              have hj0 : j - K.length = 0 := by
                have := (List.getElem?_eq_some_iff.mp hj).1
                simp at this; omega
              rw [hj0] at hj
              cases hj
              have : j = K.length := by omega
              simp only [this, if_true]
              exact ⟨e1, e2, e3, e4⟩
          · intro j e' hj he'
            have hne : ¬ j = K.length := by omega
            simp only [cpy1, hne, if_false]
            exact hR j e' (by omega) he'
      · have hf : (e :: L.drop (i + 1)).filter (fun e => decide (x1 < e.2.1)) = (L.drop (i + 1)).filter (fun e => decide (x1 < e.2.1)) := List.filter_cons_of_neg (by simpa using hx)
        obtain ⟨a, ha, hae⟩ := hp e (List.mem_of_getElem? he)
        rw [if_neg hx, hf, lossL, if_neg hx, X6_at_in gl h1024 hi2, X6_at_in gp h1024 hi2, e1, e4, hae]
        simp only [Option.bind_some]
        rw [X6_increase_in g0 _ h16 ha, nI_clamp (by omega), nI_1]
        simp only [Option.bind_some]
        exact ih (i + 1) K gl gd gc gp _ (by omega) (by omega) (by omega) hK (fun j e' hj he' => hR j e' (by omega) he')

