/-- the letters from a place on are a keyword -/
def KW (bt : Nat → Nat) (l s k : Nat) : Prop := spn (isLe bt) l s - s = sl_len k ∧ ∀ i, i < sl_len k → nI (bt (s + i)) = sl_ch k i
theorem sl_bd : ∀ k, k < 8 → 1 ≤ sl_len k ∧ sl_len k ≤ 20 := by decide +kernel
theorem KW_lt {bt : Nat → Nat} {l s k : Nat} (hs : s ≤ l) (hk : k < 8) (h : KW bt l s k) : s < l ∧ isLe bt s = true := by
  obtain ⟨a, b, c, d⟩ := spn_spec (f := isLe bt) hs
  have := sl_bd k hk
  have h1 := h.1
  exact ⟨by omega, c s (Nat.le_refl _) (by omega)⟩
theorem sch_in {k i : Nat} (hk : k < 8) (hi : i < sl_len k) : f_sch k (nI i) = some (sl_ch k i) := by
  have := sl_bd k hk
  unfold f_sch
  rw [nI_clamp (by omega), if_pos ⟨Nat.lt_of_lt_of_le hk (by decide), nI_pos (by omega), fun hh => by have := (nI_leI (by omega) (by omega)).mp hh; omega, by omega⟩]
/-- the class: does a token spell a keyword -/
theorem C_spells {bt : Nat → Nat} {l s k : Nat} {g buf : Nat → Int32} (H : TB bt l g buf) (hs : s ≤ l) (hk : k < 8) {N : Nat} (hN : 100 < N) : (KW bt l s k → f_X3_spells N k (nI s) (nI (spn (isLe bt) l s)) 600 g = some 1) ∧ (¬ KW bt l s k → f_X3_spells N k (nI s) (nI (spn (isLe bt) l s)) 600 g = some 0) := by
  obtain ⟨a, b, c, d⟩ := spn_spec (f := isLe bt) hs
  have hl := H.1
  have hb := sl_bd k hk
  have hsl : f_slen k = some (nI (sl_len k)) := by unfold f_slen; rw [if_pos (Nat.lt_of_lt_of_le hk (by decide))]
  unfold f_X3_spells
  rw [hsl, Option.bind_some, nI_subI a]
  by_cases e : spn (isLe bt) l s - s = sl_len k
  · rw [if_pos (by rw [e]), if_neg (nI_pos (by omega)), if_pos ((nI_leI (by omega) (by omega)).mpr (by omega))]
    have hloop : ∀ (n i : Nat), i ≤ sl_len k → sl_len k < n + i → (∀ j, j < i → nI (bt (s + j)) = sl_ch k j) → (KW bt l s k → f_X3_spells_b28 k (nI s) 600 g n (nI i) = some 1) ∧ (¬ KW bt l s k → f_X3_spells_b28 k (nI s) 600 g n (nI i) = some 0) := by
      intro n
      induction n with
      | zero => intro i h1 h2; omega
      | succ n ih =>
        intro i h1 h2 h3
        rw [f_X3_spells_b28, hsl, Option.bind_some]
        by_cases e2 : i = sl_len k
        · rw [if_pos (by rw [e2]; exact Int32.le_refl _)]
          exact ⟨fun _ => rfl, fun hh => absurd ⟨e, fun j hj => h3 j (by omega)⟩ hh⟩
        · have gi := grd (i := s + i) (n := 600) (by omega) (by decide)
          rw [if_neg (fun hh => by have := (nI_leI (by omega) (by omega)).mp hh; omega), nI_add, if_neg gi, nI_clamp (by omega), sch_in hk (by omega), Option.bind_some, (H.2 (s + i) (by omega)).1]
          by_cases e3 : nI (bt (s + i)) = sl_ch k i
          · rw [if_pos e3, nI_1, Option.bind_some]
            exact ih (i + 1) (by omega) (by omega) (fun j hj => by
              by_cases e4 : j = i
              · rw [e4]; exact e3
              · exact h3 j (by omega))
          · rw [if_neg e3]
            exact ⟨fun hh => absurd (hh.2 i (by omega)) e3, fun _ => rfl⟩
    exact hloop N 0 (Nat.zero_le _) (by omega) (fun j hj => absurd hj (Nat.not_lt_zero _))
  · rw [if_neg (fun hh => e ((nI_eq (by omega) (by omega)).mp hh))]
    exact ⟨fun hh => absurd hh.1 e, fun _ => rfl⟩
/-- the class: which keyword a token is -/
theorem C_keyword {bt : Nat → Nat} {l s : Nat} {g buf : Nat → Int32} (H : TB bt l g buf) (hs : s ≤ l) {N : Nat} (hN : 100 < N) : ∃ κ : Int32, f_X8_keyword N 600 (nI (tkE bt l s)) (nI s) (tkK bt l s) g = some κ ∧ ((κ = -1 ∧ ∀ k, k < 8 → ¬ KW bt l s k) ∨ ∃ k, k < 8 ∧ κ = nI k ∧ KW bt l s k ∧ ∀ k', k' < k → ¬ KW bt l s k') := by
  have hwo : ∀ k, k < 8 → f_X8_wordOf (nI k) = some k := by decide +kernel
  have h256 : tkK bt l s = 256 → tkE bt l s = spn (isLe bt) l s := by
    intro hh
    have hlt : s < l := by
      by_cases e : s < l
      · exact e
      · have h8 := (tkK_258 (bt := bt) (l := l) (s := s) (fun h => absurd h e)).mpr (by omega)
        rw [h8] at hh; exact absurd hh (by decide)
    unfold tkE
    rw [if_neg (by omega), if_pos ((tkK_256 hlt (H.2 s hlt).2.2.1).mp hh)]
  have hloop : ∀ (n k : Nat), k ≤ 8 → 8 < n + k → (∀ k', k' < k → ¬ KW bt l s k') → ∃ κ : Int32, f_X8_keyword_b2 N 600 (nI (tkE bt l s)) (nI s) (tkK bt l s) g n (nI k) = some κ ∧ ((κ = -1 ∧ ∀ k, k < 8 → ¬ KW bt l s k) ∨ ∃ k, k < 8 ∧ κ = nI k ∧ KW bt l s k ∧ ∀ k', k' < k → ¬ KW bt l s k') := by
    intro n
    induction n with
    | zero => intro k h1 h2; omega
    | succ n ih =>
      intro k h1 h2 h3
      rw [f_X8_keyword_b2]
      by_cases e : k = 8
      · rw [if_pos (show (8 : Int32) ≤ nI k by rw [e]; exact Int32.le_refl _)]
        exact ⟨-1, rfl, Or.inl ⟨rfl, fun j hj => h3 j (by omega)⟩⟩
      · rw [if_neg (show ¬ (8 : Int32) ≤ nI k from fun hh => by have := (nI_leI (a := 8) (by decide) (by omega)).mp hh; omega)]
        have hnext : ¬ KW bt l s k → ∃ κ : Int32, f_X8_keyword_b2 N 600 (nI (tkE bt l s)) (nI s) (tkK bt l s) g n (nI (k + 1)) = some κ ∧ ((κ = -1 ∧ ∀ k, k < 8 → ¬ KW bt l s k) ∨ ∃ k, k < 8 ∧ κ = nI k ∧ KW bt l s k ∧ ∀ k', k' < k → ¬ KW bt l s k') := fun hh => ih (k + 1) (by omega) (by omega) (fun j hj => by
          by_cases e4 : j = k
          · rw [e4]; exact hh
          · exact h3 j (by omega))
        by_cases e2 : tkK bt l s = 256
        · have hsp := C_spells H hs (show k < 8 by omega) hN
          rw [if_pos e2, hwo k (by omega), Option.bind_some, h256 e2]
          rw [h256 e2] at hnext
          by_cases e3 : KW bt l s k
          · rw [hsp.1 e3, Option.bind_some, if_neg (by decide)]
            exact ⟨nI k, rfl, Or.inr ⟨k, by omega, rfl, e3, h3⟩⟩
          · rw [hsp.2 e3, Option.bind_some, if_pos rfl, nI_1, Option.bind_some]
            exact hnext e3
        · rw [if_neg e2, nI_1, Option.bind_some]
          refine hnext (fun hh => e2 ?_)
          obtain ⟨q1, q2⟩ := KW_lt hs (by omega) hh
          exact (tkK_256 q1 (H.2 s q1).2.2.1).mpr q2
  unfold f_X8_keyword
  have h5 := hloop N 0 (Nat.zero_le _) (by omega) (fun j hj => absurd hj (Nat.not_lt_zero _))
  rw [nI_0] at h5
  exact h5
theorem spn_idem {f : Nat → Bool} {l p : Nat} (h : p ≤ l) : spn f l (spn f l p) = spn f l p := by
  obtain ⟨a, b, c, d⟩ := spn_spec (f := f) h
  by_cases e : spn f l p < l
  · exact spn_no (d e)
  · exact spn_ge (by omega)
/-- the reference: is the next word a keyword -/
theorem M_isWord {bt : Nat → Nat} {l p k : Nat} {g buf : Nat → Int32} (H : TB bt l g buf) (hp : p ≤ l) (hk : k < 8) (tk : Int32) {N : Nat} (hN : 700 < N) : (KW bt l (spn (isSp bt) l p) k → f_X11_isWord N k 600 (nI l) (nI p) tk (-1) buf = some (1, nI (spn (isSp bt) l p), nI (spn (isSp bt) l p))) ∧ (¬ KW bt l (spn (isSp bt) l p) k → f_X11_isWord N k 600 (nI l) (nI p) tk (-1) buf = some (0, nI (spn (isSp bt) l p), nI (spn (isSp bt) l p))) := by
  obtain ⟨a1, a2, a3, a4⟩ := spn_spec (f := isSp bt) hp
  obtain ⟨s, hs⟩ : ∃ s, s = spn (isSp bt) l p := ⟨_, rfl⟩
  rw [← hs] at a1 a2
  obtain ⟨a, b, c, d⟩ := spn_spec (f := isLe bt) a2
  have hl := H.1
  have hb := sl_bd k hk
  have hsl : f_slen k = some (nI (sl_len k)) := by unfold f_slen; rw [if_pos (Nat.lt_of_lt_of_le hk (by decide))]
  unfold f_X11_isWord f_X11_isFine
  rw [if_neg (by decide), Option.bind_some, if_neg (by decide), M_wordLength H hp hN, Option.bind_some, hsl, Option.bind_some, ← hs]
  dsimp only
  by_cases e : spn (isLe bt) l s - s = sl_len k
  · rw [if_pos (by rw [e])]
    have hloop : ∀ (n i : Nat), i ≤ sl_len k → sl_len k < n + i → (∀ j, j < i → nI (bt (s + j)) = sl_ch k j) → (KW bt l s k → f_X11_isWord_b22 k 600 (nI s) (nI s) buf n (nI i) = some (1, nI s, nI s)) ∧ (¬ KW bt l s k → f_X11_isWord_b22 k 600 (nI s) (nI s) buf n (nI i) = some (0, nI s, nI s)) := by
      intro n
      induction n with
      | zero => intro i h1 h2; omega
      | succ n ih =>
        intro i h1 h2 h3
        rw [f_X11_isWord_b22, hsl, Option.bind_some]
        by_cases e2 : i = sl_len k
        · rw [if_pos (by rw [e2]; exact Int32.le_refl _)]
          exact ⟨fun _ => rfl, fun hh => absurd ⟨e, fun j hj => h3 j (by omega)⟩ hh⟩
        · have gi := grd (i := s + i) (n := 600) (by omega) (by decide)
          have hle := of_decide_eq_true (c (s + i) (by omega) (by omega))
          obtain ⟨_, _, b3, b4⟩ := H.2 (s + i) (by omega)
          have hna := nar_b (bt (s + i)) (by omega)
          rw [if_pos (by omega)] at hna
          rw [if_neg (fun hh => by have := (nI_leI (by omega) (by omega)).mp hh; omega), nI_add, if_neg gi, nI_clamp (by omega), sch_in hk (by omega), Option.bind_some, b4, hna]
          by_cases e3 : nI (bt (s + i)) = sl_ch k i
          · rw [if_pos e3, nI_1, Option.bind_some]
            exact ih (i + 1) (by omega) (by omega) (fun j hj => by
              by_cases e4 : j = i
              · rw [e4]; exact e3
              · exact h3 j (by omega))
          · rw [if_neg e3]
            exact ⟨fun hh => absurd (hh.2 i (by omega)) e3, fun _ => rfl⟩
    exact hloop N 0 (Nat.zero_le _) (by omega) (fun j hj => absurd hj (Nat.not_lt_zero _))
  · rw [if_neg (fun hh => e ((nI_eq (by omega) (by omega)).mp hh))]
    exact ⟨fun hh => absurd hh.1 e, fun _ => rfl⟩
theorem M_takes {bt : Nat → Nat} {l p k : Nat} {g buf : Nat → Int32} (H : TB bt l g buf) (hp : p ≤ l) (hk : k < 8) (tk : Int32) {N : Nat} (hN : 700 < N) : (KW bt l (spn (isSp bt) l p) k → f_X11_takes N k 600 (nI l) (nI p) tk (-1) buf = some (1, nI (spn (isLe bt) l (spn (isSp bt) l p)), nI (spn (isSp bt) l p))) ∧ (¬ KW bt l (spn (isSp bt) l p) k → f_X11_takes N k 600 (nI l) (nI p) tk (-1) buf = some (0, nI (spn (isSp bt) l p), nI (spn (isSp bt) l p))) := by
  obtain ⟨w1, w2⟩ := M_isWord H hp hk tk hN
  obtain ⟨a1, a2, a3, a4⟩ := spn_spec (f := isSp bt) hp
  obtain ⟨a, b, c, d⟩ := spn_spec (f := isLe bt) a2
  unfold f_X11_takes
  constructor
  · intro h
    rw [w1 h, Option.bind_some, if_neg (show ¬ (1 : Int32) = 0 by decide), show f_slen k = some (nI (sl_len k)) by unfold f_slen; rw [if_pos (Nat.lt_of_lt_of_le hk (by decide))], Option.bind_some, if_pos (Or.inr rfl)]
    dsimp only
    have := h.1
    rw [nI_add, show spn (isSp bt) l p + sl_len k = spn (isLe bt) l (spn (isSp bt) l p) by omega]
  · intro h
    rw [w2 h, Option.bind_some, if_pos rfl, if_pos (Or.inl rfl)]
    dsimp only
    rw [Int32.add_zero]
theorem M_isKeyword {bt : Nat → Nat} {l s : Nat} {g buf : Nat → Int32} (H : TB bt l g buf) (hs : s ≤ l) (hi : spn (isSp bt) l s = s) (tk : Int32) {N : Nat} (hN : 700 < N) : ((∃ k, k < 8 ∧ KW bt l s k) → f_X11_isKeyword N 600 (nI l) (nI s) tk (-1) buf = some (1, nI s, nI s)) ∧ ((∀ k, k < 8 → ¬ KW bt l s k) → f_X11_isKeyword N 600 (nI l) (nI s) tk (-1) buf = some (0, nI s, nI s)) := by
  have w : ∀ k tk, k < 8 → (KW bt l s k → f_X11_isWord N k 600 (nI l) (nI s) tk (-1) buf = some (1, nI s, nI s)) ∧ (¬ KW bt l s k → f_X11_isWord N k 600 (nI l) (nI s) tk (-1) buf = some (0, nI s, nI s)) := by
    intro k tk hk
    have h := M_isWord H hs hk tk hN
    rw [hi] at h
    exact h
  have hz : ¬ (1 : Int32) = 0 := by decide
  have key : f_X11_isKeyword N 600 (nI l) (nI s) tk (-1) buf = some (1, nI s, nI s) ∧ (∃ k, k < 8 ∧ KW bt l s k) ∨ f_X11_isKeyword N 600 (nI l) (nI s) tk (-1) buf = some (0, nI s, nI s) ∧ ∀ k, k < 8 → ¬ KW bt l s k := by
    unfold f_X11_isKeyword
    by_cases h0 : KW bt l s 0
    · rw [(w 0 _ (by omega)).1 h0, Option.bind_some, if_neg hz]; exact Or.inl ⟨rfl, 0, by omega, h0⟩
    rw [(w 0 _ (by omega)).2 h0, Option.bind_some, if_pos rfl]
    by_cases h1 : KW bt l s 1
    · rw [(w 1 _ (by omega)).1 h1, Option.bind_some, if_neg hz]; exact Or.inl ⟨rfl, 1, by omega, h1⟩
    rw [(w 1 _ (by omega)).2 h1, Option.bind_some, if_pos rfl]
    by_cases h2 : KW bt l s 2
    · rw [(w 2 _ (by omega)).1 h2, Option.bind_some, if_neg hz]; exact Or.inl ⟨rfl, 2, by omega, h2⟩
    rw [(w 2 _ (by omega)).2 h2, Option.bind_some, if_pos rfl]
    by_cases h3 : KW bt l s 3
    · rw [(w 3 _ (by omega)).1 h3, Option.bind_some, if_neg hz]; exact Or.inl ⟨rfl, 3, by omega, h3⟩
    rw [(w 3 _ (by omega)).2 h3, Option.bind_some, if_pos rfl]
    by_cases h4 : KW bt l s 4
    · rw [(w 4 _ (by omega)).1 h4, Option.bind_some, if_neg hz]; exact Or.inl ⟨rfl, 4, by omega, h4⟩
    rw [(w 4 _ (by omega)).2 h4, Option.bind_some, if_pos rfl]
    by_cases h5 : KW bt l s 5
    · rw [(w 5 _ (by omega)).1 h5, Option.bind_some, if_neg hz]; exact Or.inl ⟨rfl, 5, by omega, h5⟩
    rw [(w 5 _ (by omega)).2 h5, Option.bind_some, if_pos rfl]
    by_cases h6 : KW bt l s 6
    · rw [(w 6 _ (by omega)).1 h6, Option.bind_some, if_neg hz]; exact Or.inl ⟨rfl, 6, by omega, h6⟩
    rw [(w 6 _ (by omega)).2 h6, Option.bind_some, if_pos rfl]
    by_cases h7 : KW bt l s 7
    · rw [(w 7 _ (by omega)).1 h7, Option.bind_some, if_neg hz]; exact Or.inl ⟨rfl, 7, by omega, h7⟩
    rw [(w 7 _ (by omega)).2 h7, Option.bind_some, if_pos rfl]
    refine Or.inr ⟨rfl, fun k hk => ?_⟩
    match k, hk with
    | 0, _ => exact h0
    | 1, _ => exact h1
    | 2, _ => exact h2
    | 3, _ => exact h3
    | 4, _ => exact h4
    | 5, _ => exact h5
    | 6, _ => exact h6
    | 7, _ => exact h7
  constructor
  · intro ⟨k, hk, h⟩
    cases key with
    | inl q => exact q.1
    | inr q => exact absurd h (q.2 k hk)
  · intro h
    cases key with
    | inl q =>
      obtain ⟨k, hk, h9⟩ := q.2
      exact absurd h9 (h k hk)
    | inr q => exact q.1


