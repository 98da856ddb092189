/-- how many a question of keys names -/
def cntE (q : Nat → Bool) : List En → Nat
  | [] => 0
  | x :: E => if q x.1 = true then cntE q E + 1 else cntE q E
theorem cntE_le {q : Nat → Bool} : ∀ {E : List En}, cntE q E ≤ E.length
  | [] => Nat.le_refl 0
  | x :: E => by
    rw [cntE, List.length_cons]
    have := cntE_le (q := q) (E := E)
    by_cases h : q x.1 = true
    · rw [if_pos h]; omega
    · rw [if_neg h]; omega
theorem cntE_none {q : Nat → Bool} : ∀ {E : List En}, cntE q E = 0 ↔ fstE q E = none
  | [] => ⟨fun _ => rfl, fun _ => rfl⟩
  | x :: E => by
    rw [cntE, fstE]
    by_cases h : q x.1 = true
    · rw [if_pos h, if_pos h]
      exact ⟨fun hh => by omega, fun hh => (nomatch hh)⟩
    · rw [if_neg h, if_neg h]
      exact cntE_none
theorem cntE_take {q : Nat → Bool} {w : Nat} {x : En} : ∀ {E : List En}, fstE q E = some x → cntE q (takeE q w E) = if x.2 ≤ w then cntE q E - 1 else cntE q E
  | [], h => nomatch h
  | z :: E, h => by
    rw [fstE] at h
    rw [takeE, cntE]
    cases hq : q z.1 with
    | true =>
      rw [hq, if_pos rfl] at h
      cases h
      rw [if_pos rfl, if_pos rfl]
      by_cases h2 : x.2 ≤ w
      · rw [if_pos h2, if_pos h2]; omega
      · rw [if_neg h2, if_neg h2, cntE, hq, if_pos rfl]
    | false =>
      rw [hq, if_neg Bool.false_ne_true] at h
      rw [if_neg Bool.false_ne_true, if_neg Bool.false_ne_true, cntE, hq, if_neg Bool.false_ne_true]
      exact cntE_take h
theorem cntE_put {q : Nat → Bool} {k p : Nat} (hk : q k = false) : ∀ {E : List En}, cntE q (putE k p E) = cntE q E
  | [] => by simp only [putE, cntE, hk, Bool.false_eq_true, if_false]
  | x :: E => by
    rw [putE]
    by_cases h1 : x.1 < k
    · rw [if_pos h1, cntE, cntE, cntE_put hk]
    · rw [if_neg h1]
      by_cases h2 : x.1 = k
      · rw [if_pos h2, cntE, cntE, h2]
      · rw [if_neg h2]
        rw [cntE]; simp only [hk, Bool.false_eq_true, if_false]
/-- the points are all that a question of keys names together -/
def sumQ (q : Nat → Bool) : List En → Nat
  | [] => 0
  | x :: E => if q x.1 = true then x.2 + sumQ q E else sumQ q E
theorem sumQ_le {q : Nat → Bool} : ∀ {E : List En}, sumQ q E ≤ sumP E
  | [] => Nat.le_refl 0
  | x :: E => by
    rw [sumQ, sumP]
    have := sumQ_le (q := q) (E := E)
    by_cases h : q x.1 = true
    · rw [if_pos h]; omega
    · rw [if_neg h]; omega
theorem sumW_Q {q : Nat → Bool} : ∀ {E : List En}, sumW (fun _ p => nI p) q E = nI (sumQ q E)
  | [] => rfl
  | x :: E => by
    rw [sumW, sumQ, sumW_Q]
    by_cases h : q x.1 = true
    · rw [if_pos h, if_pos h, nI_add]
    · rw [if_neg h, if_neg h]
/-- the entries that a question names give one after another what is wanted, and each giving has an effect -/
def itG {σ : Type} (q : Nat → Bool) (act : En → Nat → List En × σ → List En × σ) : Nat → Nat → List En × σ → Nat × (List En × σ)
  | 0, w, S => (w, S)
  | r + 1, w, S => if w = 0 then (w, S) else match fstE q S.1 with
    | none => (w, S)
    | some x => itG q act r (w - min x.2 w) (act x (min x.2 w) (takeE q w S.1, S.2))
theorem itG_zero {σ : Type} (q : Nat → Bool) (act : En → Nat → List En × σ → List En × σ) (r : Nat) (S : List En × σ) : itG q act r 0 S = (0, S) := by
  cases r with
  | zero => rfl
  | succ r => rw [itG, if_pos rfl]
theorem itG_none {σ : Type} (q : Nat → Bool) (act : En → Nat → List En × σ → List En × σ) (r w : Nat) (S : List En × σ) (h : fstE q S.1 = none) : itG q act r w S = (w, S) := by
  cases r with
  | zero => rfl
  | succ r =>
    rw [itG, h]
    by_cases hw : w = 0
    · rw [if_pos hw]
    · rw [if_neg hw]
theorem itG_some {σ : Type} (q : Nat → Bool) (act : En → Nat → List En × σ → List En × σ) (r w : Nat) (S : List En × σ) {x : En} (hw : ¬ w = 0) (h : fstE q S.1 = some x) : itG q act (r + 1) w S = itG q act r (w - min x.2 w) (act x (min x.2 w) (takeE q w S.1, S.2)) := by
  rw [itG, h, if_neg hw]
/-- an effect leaves the entries that a question names -/
def ActOk {σ : Type} (q : Nat → Bool) (act : En → Nat → List En × σ → List En × σ) : Prop := ∀ (x : En) (n : Nat) (S : List En × σ), (Sor S.1 → Sor (act x n S).1) ∧ cntE q (act x n S).1 = cntE q S.1 ∧ ∀ y : En, q y.1 = true → (y ∈ (act x n S).1 ↔ y ∈ S.1)
/-- a scan of the places κ i, i < n, is the giving one after another -/
theorem scanG {σ β : Type} {q : Nat → Bool} {act : En → Nat → List En × σ → List En × σ} (hact : ActOk q act) (κ : Nat → Nat) (n W : Nat) (R : List En × σ → (Nat → Int32) → Prop) (M : Nat → Nat → (Nat → Int32) → Option β) (fin : Nat → (Nat → Int32) → Option β)
    (hend : ∀ w g S, w ≤ W → R S g → M n w g = fin w g)
    (hzero : ∀ i g S, i < n → R S g → M i 0 g = fin 0 g)
    (hmiss : ∀ i w g S, i < n → 0 < w → w ≤ W → Sor S.1 → R S g → pt S.1 (κ i) = 0 → ∃ g', M i w g = M (i + 1) w g' ∧ R S g')
    (hhit : ∀ i w g S, i < n → 0 < w → w ≤ W → Sor S.1 → R S g → ∀ x, x.1 = κ i → x ∈ S.1 → 1 ≤ x.2 → fstE q S.1 = some x → ∃ g', M i w g = M (i + 1) (w - min x.2 w) g' ∧ R (act x (min x.2 w) (takeE q w S.1, S.2)) g')
    (hR : ∀ S g, R S g → ∀ x ∈ S.1, 1 ≤ x.2)
    (hq : ∀ i, i < n → q (κ i) = true) (hmono : ∀ i j, i < j → j < n → κ i < κ j) :
    ∀ (m i r w : Nat) (S : List En × σ) (g : Nat → Int32), i + m = n → w ≤ W → cntE q S.1 ≤ r → Sor S.1 → R S g → (∀ y ∈ S.1, q y.1 = true → ∃ j, i ≤ j ∧ j < n ∧ y.1 = κ j) → ∃ g', M i w g = fin (itG q act r w S).1 g' ∧ R (itG q act r w S).2 g' := by
  intro m
  induction m with
  | zero =>
    intro i r w S g h1 hW h2 h3 h4 h5
    have h6 : fstE q S.1 = none := by
      rw [fstE_none]
      intro y hy
      cases hh : q y.1 with
      | false => rfl
      | true =>
        obtain ⟨j, a, b, _⟩ := h5 y hy hh
        omega
    rw [itG_none q act r w S h6]
    have h7 : i = n := by omega
    rw [h7]
    exact ⟨g, hend w g S hW h4, h4⟩
  | succ m ih =>
    intro i r w S g h1 hW h2 h3 h4 h5
    by_cases hw : w = 0
    · rw [hw, itG_zero]
      exact ⟨g, hzero i g S (by omega) h4, h4⟩
    · by_cases hp : pt S.1 (κ i) = 0
      · obtain ⟨g', a, b⟩ := hmiss i w g S (by omega) (by omega) hW h3 h4 hp
        rw [a]
        refine ih (i + 1) r w S g' (by omega) hW h2 h3 b ?_
        intro y hy hyq
        obtain ⟨j, c, d, e⟩ := h5 y hy hyq
        refine ⟨j, ?_, d, e⟩
        by_cases hj : j = i
        · exfalso
          rw [hj] at e
          have h8 := pt_mem h3 hy
          rw [e, hp] at h8
          have := hR S g h4 y hy
          omega
        · omega
      · obtain ⟨x, hx, hx1, hx2⟩ := pt_pos hp
        have hxq : q x.1 = true := by rw [hx1]; exact hq i (by omega)
        have hpos := hR S g h4 x hx
        have hf : fstE q S.1 = some x := by
          refine fstE_hit h3 hx hxq (fun y hy hyq => ?_)
          obtain ⟨j, c, d, e⟩ := h5 y hy hyq
          by_cases hj : j = i
          · rw [e, hj, hx1]; exact Nat.le_refl _
          · have := hmono i j (by omega) d
            omega
        obtain ⟨g', a, b⟩ := hhit i w g S (by omega) (by omega) hW h3 h4 x hx1 hx hpos hf
        have hc : cntE q S.1 ≠ 0 := fun hh => by rw [cntE_none.mp hh] at hf; cases hf
        obtain ⟨r', hr⟩ : ∃ r', r = r' + 1 := ⟨r - 1, by omega⟩
        rw [a, hr, itG_some q act r' w S hw hf]
        obtain ⟨a1, a2, a3⟩ := hact x (min x.2 w) (takeE q w S.1, S.2)
        by_cases hle : x.2 ≤ w
        · refine ih (i + 1) r' _ _ g' (by omega) (by omega) ?_ (a1 (takeE_sor h3)) b ?_
          · rw [a2]
            show cntE q (takeE q w S.1) ≤ r'
            rw [cntE_take hf, if_pos hle]; omega
          · intro y hy hyq
            have hy2 : y ∈ takeE q w S.1 := (a3 y hyq).mp hy
            obtain ⟨z, b1, b2, b3, b4⟩ := takeE_mem hy2
            obtain ⟨j, c, d, e⟩ := h5 z b1 (by rw [b2]; exact hyq)
            refine ⟨j, ?_, d, by rw [← b2]; exact e⟩
            by_cases hj : j = i
            · exfalso
              have h9 := takeE_pt (w := w) (j := y.1) h3 hf
              rw [← b2, e, hj, hx1, if_pos rfl] at h9
              have h10 := pt_mem (takeE_sor (q := q) (w := w) h3) hy2
              rw [← b2, e, hj, h9] at h10
              have := b4 (hR S g h4 z b1)
              omega
            · omega
        · have h11 : w - min x.2 w = 0 := by rw [Nat.min_eq_right (by omega)]; omega
          rw [h11] at *
          rw [itG_zero]
          by_cases hn : i + 1 = n
          · rw [hn]
            exact ⟨g', hend 0 g' _ (Nat.zero_le _) b, b⟩
          · exact ⟨g', hzero (i + 1) g' _ (by omega) b, b⟩

