theorem nI_shl_or {c d : Nat} (hc : c < 2 ^ 26) (hd : d < 32) : (nI c <<< ((5 : Int32) &&& 31)) ||| nI d = nI (c * 32 + d) := by
  apply Int32.toBitVec_inj.mp
  apply BitVec.eq_of_toNat_eq
  have e1 : ((nI c <<< ((5 : Int32) &&& 31)) ||| nI d).toBitVec = ((nI c).toBitVec <<< (((5 : Int32) &&& 31).toBitVec.smod 32)) ||| (nI d).toBitVec := rfl
  have e2 : (((5 : Int32) &&& 31).toBitVec.smod 32) = 5#32 := by decide
  have e3 : ∀ n : Nat, n < 2 ^ 32 → (nI n).toBitVec.toNat = n := by
    intro n hn
    show (BitVec.ofNat 32 n).toNat = n
    rw [BitVec.toNat_ofNat, Nat.mod_eq_of_lt hn]
  rw [e1, e2, BitVec.toNat_or, BitVec.shiftLeft_eq', BitVec.toNat_shiftLeft, e3 c (by omega), e3 d (by omega), e3 _ (by omega), show (5#32).toNat = 5 from rfl, Nat.mod_eq_of_lt (by rw [Nat.shiftLeft_eq]; omega), ← Nat.shiftLeft_add_eq_or_of_lt (by omega), Nat.shiftLeft_eq]
theorem lcode_inj {a b : Nat → Nat} (ha : WdN a) (hb : WdN b) (h : lcode a = lcode b) : ∀ i, i < 6 → a i = b i := by
  have key : ∀ i, i ≤ 6 → ∀ j, j < i → a j = b j := by
    intro i
    induction i with
    | zero => intro _ j hj; omega
    | succ i ih =>
      intro hi j hj
      have h1 := ih (by omega)
      by_cases e : j = i
      · subst e
        by_cases e2 : a j = b j
        · exact e2
        · have l1 := lcode_lt ha hb (by omega) h1 e2
          have l2 := lcode_lt hb ha (by omega) (fun k hk => (h1 k hk).symm) (fun hh => e2 hh.symm)
          omega
      · exact h1 j (by omega)
  exact fun i hi => key 6 (by omega) i hi
theorem lcode_pos {w : Nat → Nat} (h : WdN w) : 1 ≤ lcode w := by
  have h1 := h.2.1 0 (by omega)
  have h2 := h.1
  have h3 : 1 ≤ cdN (w 0) := by unfold cdN; omega
  unfold lcode
  omega
theorem nar_b : ∀ b, b < 256 → vp_nar .byte (nI b) = if b < 128 then nI b else nI b - 256 := by decide +kernel
theorem nar_eq {x b : Nat} (hx : x < 128) (hb : b < 256) : nI x = vp_nar .byte (nI b) ↔ x = b := by
  rw [nar_b b hb]
  by_cases h : b < 128
  · rw [if_pos h]
    exact nI_eq (by omega) (by omega)
  · rw [if_neg h]
    refine ⟨fun hh => ?_, fun hh => by omega⟩
    exfalso
    have h2 : (nI x).toInt = (nI b - 256).toInt := by rw [hh]
    rw [show (256 : Int32) = nI 256 from rfl, Int32.toInt_sub, nI_toInt (by omega), nI_toInt (by omega), nI_toInt (by decide), Int.bmod_eq_of_le (by omega) (by omega)] at h2
    omega
/-- the word of some bytes -/
def wdN (bt : Nat → Nat) (s len i : Nat) : Nat := if len ≤ i then 0 else bt (s + i)
/-- is it a name -/
def isW (bt : Nat → Nat) (s len : Nat) : Prop := 1 ≤ len ∧ len ≤ 6 ∧ ∀ i, i < len → 97 ≤ bt (s + i) ∧ bt (s + i) ≤ 122
theorem isW_wd {bt : Nat → Nat} {s len : Nat} (h : isW bt s len) : WdN (wdN bt s len) := by
  obtain ⟨h1, h2, h3⟩ := h
  have hw : ∀ i, wdN bt s len i = if len ≤ i then 0 else bt (s + i) := fun _ => rfl
  refine ⟨?_, fun i hi => ?_, fun i hi => ?_⟩
  · rw [hw, if_neg (by omega)]
    have := h3 0 (by omega)
    omega
  · rw [hw]
    by_cases e : len ≤ i
    · rw [if_pos e]; exact Or.inl rfl
    · rw [if_neg e]; exact Or.inr (h3 i (by omega))
  · rw [hw, hw]
    by_cases e : len ≤ i
    · intro _
      rw [if_pos (by omega)]
    · rw [if_neg e]
      have := h3 i (by omega)
      intro hh
      omega
/-- a row is the word -/
def isRow (le buf : Nat → Int32) (s len r : Nat) : Prop := 1 ≤ len ∧ len ≤ 6 ∧ ∀ i, i < 6 → le (6 * r + i) = if len ≤ i then 0 else buf (s + i)
theorem isRow_wd {bt w : Nat → Nat} {le buf : Nat → Int32} {s len r : Nat} (hw : WdN w) (hl : ∀ i, i < 6 → le (6 * r + i) = nI (w i)) (hb : ∀ i, i < len → 1 ≤ bt (s + i) ∧ bt (s + i) ≤ 255 ∧ buf (s + i) = vp_nar .byte (nI (bt (s + i)))) : isRow le buf s len r ↔ isW bt s len ∧ ∀ i, i < 6 → w i = wdN bt s len i := by
  have h128 : ∀ i, i < 6 → w i < 128 := fun i hi => by have := hw.2.1 i hi; omega
  constructor
  · intro ⟨h1, h2, h3⟩
    have h4 : ∀ i, i < 6 → w i = wdN bt s len i := by
      intro i hi
      have h5 := h3 i hi
      rw [hl i hi] at h5
      unfold wdN
      by_cases e : len ≤ i
      · rw [if_pos e] at h5 ⊢
        exact (nI_eqz (by have := h128 i hi; omega)).mp h5
      · rw [if_neg e] at h5 ⊢
        obtain ⟨b1, b2, b3⟩ := hb i (by omega)
        rw [b3] at h5
        exact (nar_eq (h128 i hi) (by omega)).mp h5
    refine ⟨⟨h1, h2, fun i hi => ?_⟩, h4⟩
    have h5 := h4 i (by omega)
    unfold wdN at h5
    rw [if_neg (by omega)] at h5
    obtain ⟨b1, b2, b3⟩ := hb i hi
    have := hw.2.1 i (by omega)
    omega
  · intro ⟨⟨h1, h2, h3⟩, h4⟩
    refine ⟨h1, h2, fun i hi => ?_⟩
    rw [hl i hi, h4 i hi]
    unfold wdN
    by_cases e : len ≤ i
    · rw [if_pos e, if_pos e]; rfl
    · rw [if_neg e, if_neg e]
      obtain ⟨b1, b2, b3⟩ := hb i (by omega)
      rw [b3]
      exact (nar_eq (by have := h3 i (by omega); omega) (by omega)).mpr rfl
/-- the reference: the first row that is the word -/
theorem M_rowOf {n s len : Nat} {le buf : Nat → Int32} (hn : n ≤ 32) (hs : s + len ≤ 600) {N : Nat} (hN : 100 < N) : ∃ ρ : Int32, f_X11_rowOf N (nI n) (nI s) (nI len) 192 600 le buf = some ρ ∧ ((ρ = -1 ∧ ∀ r, r < n → ¬ isRow le buf s len r) ∨ ∃ r, r < n ∧ ρ = nI r ∧ isRow le buf s len r ∧ ∀ r', r' < r → ¬ isRow le buf s len r') := by
  have hin : ∀ (kk : Int32 → Option Int32) (r : Nat), r < n → ∀ (f i : Nat), i ≤ 6 → 6 < f + i → f_X11_rowOf_b31 kk (nI s) (nI len) (nI r) 192 600 le buf f 0 (nI i) = if f = 0 then none else kk (nI (r + 1)) := by
    intro kk r hr f i h1 h2
    cases f with
    | zero => omega
    | succ f =>
      rw [f_X11_rowOf_b31]
      unfold f_X11_rowOf_b86
      rw [if_pos rfl, if_pos rfl, nI_1, Option.bind_some, if_neg (Nat.succ_ne_zero f)]
      exact ite_self _
  have hin0 : ∀ (kk : Int32 → Option Int32) (r : Nat), r < n → ∀ (f i : Nat), i ≤ 6 → 6 < f + i → (∀ j, j < i → le (6 * r + j) = if len ≤ j then 0 else buf (s + j)) → ((∀ j, j < 6 → le (6 * r + j) = if len ≤ j then 0 else buf (s + j)) → f_X11_rowOf_b31 kk (nI s) (nI len) (nI r) 192 600 le buf f 1 (nI i) = some (nI r)) ∧ (¬ (∀ j, j < 6 → le (6 * r + j) = if len ≤ j then 0 else buf (s + j)) → f_X11_rowOf_b31 kk (nI s) (nI len) (nI r) 192 600 le buf f 1 (nI i) = kk (nI (r + 1))) := by
    intro kk r hr f
    induction f with
    | zero => intro i h1 h2; omega
    | succ f ih =>
      intro i h1 h2 h3
      rw [f_X11_rowOf_b31]
      unfold f_X11_rowOf_b86
      by_cases e : i = 6
      · subst e
        rw [if_pos (show (6 : Int32) ≤ nI 6 from Int32.le_refl _), if_neg (by decide)]
        exact ⟨fun _ => rfl, fun hh => absurd h3 hh⟩
      · have g1 := grd (i := 6 * r + i) (n := 192) (by omega) (by decide)
        rw [if_neg (show ¬ (6 : Int32) ≤ nI i from fun hh => by have := (nI_leI (a := 6) (by decide) (by omega)).mp hh; omega), if_neg (by decide), show (6 : Int32) = nI 6 from rfl, nI_mul, nI_add, if_neg g1, nI_clamp (by omega)]
        have hstep : ∀ x : Int32, x = (if len ≤ i then 0 else buf (s + i)) → ((∀ j, j < 6 → le (6 * r + j) = if len ≤ j then 0 else buf (s + j)) → f_X11_rowOf_b70 (f_X11_rowOf_b31 kk (nI s) (nI len) (nI r) 192 600 le buf f) (nI i) (le (6 * r + i)) x = some (nI r)) ∧ (¬ (∀ j, j < 6 → le (6 * r + j) = if len ≤ j then 0 else buf (s + j)) → f_X11_rowOf_b70 (f_X11_rowOf_b31 kk (nI s) (nI len) (nI r) 192 600 le buf f) (nI i) (le (6 * r + i)) x = kk (nI (r + 1))) := by
          intro x hx
          unfold f_X11_rowOf_b70
          by_cases e2 : le (6 * r + i) = x
          · rw [if_pos e2, nI_1, Option.bind_some]
            exact ih (i + 1) (by omega) (by omega) (fun j hj => by
              by_cases e3 : j = i
              · rw [e3, e2, hx]
              · exact h3 j (by omega))
          · rw [if_neg e2, nI_1, Option.bind_some]
            refine ⟨fun hh => absurd (by rw [hh i (by omega), hx]) e2, fun _ => ?_⟩
            have h9 := hin kk r hr f (i + 1) (by omega) (by omega)
            rw [if_neg (by omega)] at h9
            exact h9
        by_cases e2 : len ≤ i
        · rw [if_pos ((nI_leI (by omega) (by omega)).mpr e2)]
          exact hstep 0 (by rw [if_pos e2])
        · have g2 := grd (i := s + i) (n := 600) (by omega) (by decide)
          rw [if_neg (fun hh => e2 ((nI_leI (by omega) (by omega)).mp hh)), nI_add, if_neg g2, nI_clamp (by omega)]
          exact hstep _ (by rw [if_neg e2])
  have hout : ∀ (f r : Nat), r ≤ n → n < f + r → (∀ r', r' < r → ¬ isRow le buf s len r') → ∃ ρ : Int32, f_X11_rowOf_b3 N (nI n) (nI s) (nI len) 192 600 le buf f (nI r) = some ρ ∧ ((ρ = -1 ∧ ∀ r, r < n → ¬ isRow le buf s len r) ∨ ∃ r, r < n ∧ ρ = nI r ∧ isRow le buf s len r ∧ ∀ r', r' < r → ¬ isRow le buf s len r') := by
    intro f
    induction f with
    | zero => intro r h1 h2; omega
    | succ f ih =>
      intro r h1 h2 h3
      rw [f_X11_rowOf_b3]
      by_cases e : r = n
      · rw [if_pos (by rw [e]; exact Int32.le_refl _)]
        exact ⟨-1, rfl, Or.inl ⟨rfl, fun r' hr' => h3 r' (by omega)⟩⟩
      · rw [if_neg (fun hh => by have := (nI_leI (by omega) (by omega)).mp hh; omega)]
        have hnext : ¬ isRow le buf s len r → ∃ ρ : Int32, f_X11_rowOf_b3 N (nI n) (nI s) (nI len) 192 600 le buf f (nI (r + 1)) = some ρ ∧ ((ρ = -1 ∧ ∀ r, r < n → ¬ isRow le buf s len r) ∨ ∃ r, r < n ∧ ρ = nI r ∧ isRow le buf s len r ∧ ∀ r', r' < r → ¬ isRow le buf s len r') := fun hr => ih (r + 1) (by omega) (by omega) (fun r' hr' => by
          by_cases e3 : r' = r
          · rw [e3]; exact hr
          · exact h3 r' (by omega))
        have h9 := hin (f_X11_rowOf_b3 N (nI n) (nI s) (nI len) 192 600 le buf f) r (by omega) N 0 (by omega) (by omega)
        rw [if_neg (by omega), nI_0] at h9
        by_cases e1 : len = 0
        · rw [if_pos ((nI_le0 (by omega)).mpr e1), h9]
          exact hnext (fun hh => by have := hh.1; omega)
        · rw [if_neg (fun hh => e1 ((nI_le0 (by omega)).mp hh))]
          by_cases e2 : 6 < len
          · rw [if_pos (show (6 : Int32) < nI len from (nI_ltI (a := 6) (by decide) (by omega)).mpr e2), h9]
            exact hnext (fun hh => by have := hh.2.1; omega)
          · rw [if_neg (show ¬ (6 : Int32) < nI len from fun hh => e2 ((nI_ltI (a := 6) (by decide) (by omega)).mp hh))]
            have h8 := hin0 (f_X11_rowOf_b3 N (nI n) (nI s) (nI len) 192 600 le buf f) r (by omega) N 0 (by omega) (by omega) (fun j hj => absurd hj (Nat.not_lt_zero _))
            rw [nI_0] at h8
            by_cases e3 : ∀ j, j < 6 → le (6 * r + j) = if len ≤ j then 0 else buf (s + j)
            · rw [h8.1 e3]
              exact ⟨nI r, rfl, Or.inr ⟨r, by omega, rfl, ⟨by omega, by omega, e3⟩, h3⟩⟩
            · rw [h8.2 e3]
              exact hnext (fun hh => e3 hh.2.2)
  have h5 := hout N 0 (Nat.zero_le _) (by omega) (fun r' hr' => absurd hr' (Nat.not_lt_zero _))
  rw [nI_0] at h5
  exact h5


