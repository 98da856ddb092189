/-- the names read so far: the class's numbers, the reference's rows -/
def NR (v : Nat → Nat) (R : Nat → Nat → Nat) (S W : Nat → Nat) (nm le so wh : Nat → Int32) : Prop := (v 70 = v 0 + v 1 + v 3 + v 4 ∧ v 0 ≤ 5 ∧ v 1 ≤ 8 ∧ v 3 ≤ 12 ∧ v 4 ≤ 4) ∧ (∀ r, r < v 70 → WdN (R r) ∧ (∀ i, i < 6 → le (6 * r + i) = nI (R r i)) ∧ so r = nI (S r) ∧ wh r = nI (W r) ∧ (S r = 0 ∨ S r = 1 ∨ S r = 3 ∨ S r = 4) ∧ W r < v (S r) ∧ nm (12 * S r + W r) = nI (lcode (R r))) ∧ (∀ r r', r < r' → r' < v 70 → ¬ lcode (R r) = lcode (R r')) ∧ (∀ t m, (t = 1 ∨ t = 3) → m < v t → ∃ r, r < v 70 ∧ S r = t ∧ W r = m) ∧ ∀ c, c < 96 → nm c = 0 ∨ ∃ r, r < v 70 ∧ nm c = nI (lcode (R r))
/-- the letters from a place on are a new name -/
def newN (bt : Nat → Nat) (l s n : Nat) (le buf : Nat → Int32) : Prop := (1 ≤ spn (isLe bt) l s - s ∧ spn (isLe bt) l s - s ≤ 6) ∧ (∀ k, k < 8 → ¬ KW bt l s k) ∧ ∀ r, r < n → ¬ isRow le buf s (spn (isLe bt) l s - s) r
theorem spn_isW {bt : Nat → Nat} {l s : Nat} (hs : s ≤ l) : isW bt s (spn (isLe bt) l s - s) ↔ 1 ≤ spn (isLe bt) l s - s ∧ spn (isLe bt) l s - s ≤ 6 := by
  obtain ⟨a, b, c, d⟩ := spn_spec (f := isLe bt) hs
  exact ⟨fun h => ⟨h.1, h.2.1⟩, fun h => ⟨h.1, h.2, fun i hi => of_decide_eq_true (c (s + i) (by omega) (by omega))⟩⟩
theorem C_taken {c : Int32} {nm : Nat → Int32} {N : Nat} (hN : 200 < N) : ((∃ i, i < 96 ∧ nm i = c) → f_X7_isTaken N c 96 nm = some 1) ∧ (¬ (∃ i, i < 96 ∧ nm i = c) → f_X7_isTaken N c 96 nm = some 0) := by
  have hloop : ∀ (n i : Nat), i ≤ 96 → 96 < n + i → (∀ j, j < i → ¬ nm j = c) → ((∃ i, i < 96 ∧ nm i = c) → f_X6_contains_b2 c 96 nm n (nI i) = some 1) ∧ (¬ (∃ i, i < 96 ∧ nm i = c) → f_X6_contains_b2 c 96 nm n (nI i) = some 0) := by
    intro n
    induction n with
    | zero => intro i h1 h2; omega
    | succ n ih =>
      intro i h1 h2 h3
      rw [f_X6_contains_b2]
      by_cases e : i = 96
      · rw [if_pos (by rw [e]; exact Int32.le_refl _)]
        refine ⟨fun hh => ?_, fun _ => rfl⟩
        obtain ⟨j, j1, j2⟩ := hh
        exact absurd j2 (h3 j (by omega))
      · have gi := grd (i := i) (n := 96) (by omega) (by decide)
        rw [if_neg (fun hh => by have := (nI_leI (by omega) (by omega)).mp hh; omega), if_neg gi, nI_clamp (by omega)]
        by_cases e2 : nm i = c
        · rw [if_pos e2]
          exact ⟨fun _ => rfl, fun hh => absurd ⟨i, by omega, e2⟩ hh⟩
        · rw [if_neg e2, nI_1, Option.bind_some]
          exact ih (i + 1) (by omega) (by omega) (fun j hj => by
            by_cases e4 : j = i
            · rw [e4]; exact e2
            · exact h3 j (by omega))
  have h5 := hloop N 0 (Nat.zero_le _) (by omega) (fun j hj => absurd hj (Nat.not_lt_zero _))
  rw [nI_0] at h5
  unfold f_X7_isTaken f_X6_contains
  constructor
  · intro h
    rw [h5.1 h, Option.bind_some, if_pos (Or.inr rfl)]
  · intro h
    rw [h5.2 h, Option.bind_some, if_pos (Or.inl rfl)]
theorem TB_row {bt : Nat → Nat} {l s : Nat} {g buf : Nat → Int32} (H : TB bt l g buf) (hs : s ≤ l) : ∀ i, i < spn (isLe bt) l s - s → 1 ≤ bt (s + i) ∧ bt (s + i) ≤ 255 ∧ buf (s + i) = vp_nar .byte (nI (bt (s + i))) := by
  obtain ⟨a, b, c, d⟩ := spn_spec (f := isLe bt) hs
  intro i hi
  exact (H.2 (s + i) (by omega)).2
/-- the class: a new name -/
theorem C_newName {v : Nat → Nat} {R : Nat → Nat → Nat} {S W : Nat → Nat} {nm le so wh : Nat → Int32} (HN : NR v R S W nm le so wh) {bt : Nat → Nat} {l : Nat} {g buf : Nat → Int32} (H : TB bt l g buf) {p : Nat} (hp : p ≤ l) {N : Nat} (hN : 700 < N) : (newN bt l (spn (isSp bt) l p) (v 70) le buf → f_X8_readNewName N 600 96 (nI p) (-1) (nI l) g nm = some (nI (lcode (wdN bt (spn (isSp bt) l p) (spn (isLe bt) l (spn (isSp bt) l p) - spn (isSp bt) l p))), nI (spn (isLe bt) l (spn (isSp bt) l p)), nI (spn (isSp bt) l p), 256, -1)) ∧ (¬ newN bt l (spn (isSp bt) l p) (v 70) le buf → ∃ y, f_X8_readNewName N 600 96 (nI p) (-1) (nI l) g nm = some (y, nI (tkE bt l (spn (isSp bt) l p)), nI (spn (isSp bt) l p), tkK bt l (spn (isSp bt) l p), nI (spn (isSp bt) l p))) := by
  have hl := H.1
  obtain ⟨a1, a2, a3, a4⟩ := spn_spec (f := isSp bt) hp
  obtain ⟨s, hs⟩ : ∃ s, s = spn (isSp bt) l p := ⟨_, rfl⟩
  unfold f_X8_readNewName
  rw [C_readToken H hp hN, Option.bind_some, ← hs]
  rw [← hs] at a1 a2
  obtain ⟨b1, b2, b3, b4⟩ := spn_spec (f := isLe bt) a2
  have href : f_X8_refuse (nI s) (-1) = some (nI s) := by unfold f_X8_refuse; rw [if_pos rfl]
  dsimp only
  have hte : s ≤ tkE bt l s ∧ tkE bt l s ≤ l := by
    unfold tkE
    by_cases e : l ≤ s
    · rw [if_pos e]; omega
    · rw [if_neg e]
      by_cases q : isLe bt s = true
      · rw [if_pos q]; omega
      · rw [if_neg q]
        by_cases q2 : isDi bt s = true
        · rw [if_pos q2]
          have := spn_spec (f := isDi bt) a2
          omega
        · rw [if_neg q2]; omega
  have hcod := C_nameCode (bt := bt) (s := s) (len := tkE bt l s - s) (l := l) (g := g) hl (by omega) (fun i hi => ⟨(H.2 i hi).1, (H.2 i hi).2.1, (H.2 i hi).2.2.1⟩) (N := N) (by omega)
  rw [show s + (tkE bt l s - s) = tkE bt l s by omega] at hcod
  by_cases hk : tkK bt l s = 256
  · have hlt : s < l := by
      by_cases e : s < l
      · exact e
      · have h8 := (tkK_258 (bt := bt) (l := l) (s := s) (fun h => absurd h e)).mpr (by omega)
        rw [h8] at hk; exact absurd hk (by decide)
    have hle := (tkK_256 hlt (H.2 s hlt).2.2.1).mp hk
    have he : tkE bt l s = spn (isLe bt) l s := by
      unfold tkE
      rw [if_neg (by omega), if_pos hle]
    rw [he] at hcod ⊢
    obtain ⟨len, hlen⟩ : ∃ len, len = spn (isLe bt) l s - s := ⟨_, rfl⟩
    unfold newN
    rw [← hlen] at hcod ⊢
    by_cases hw : isW bt s len
    · have hwd := isW_wd hw
      have b6 := lcode_bd hwd
      have b7 := lcode_pos hwd
      rw [hcod.1 hw, Option.bind_some, if_pos hk, if_neg (fun hh => by have := (nI_eqz (by omega)).mp hh; omega)]
      obtain ⟨κ, k1, k2⟩ := C_keyword H a2 (N := N) (by omega)
      rw [he] at k1
      rw [k1, Option.bind_some]
      cases k2 with
      | inl k2 =>
        rw [if_pos k2.1]
        have hrow : ∀ r, r < v 70 → (isRow le buf s len r ↔ lcode (R r) = lcode (wdN bt s len)) := by
          intro r hr
          obtain ⟨m1, m2, _⟩ := HN.2.1 r hr
          have h5 := isRow_wd m1 m2 (s := s) (len := len) (buf := buf) (bt := bt) (by rw [hlen]; exact TB_row H a2)
          rw [h5]
          exact ⟨fun hh => lcode_eq hh.2, fun hh => ⟨hw, lcode_inj m1 hwd hh⟩⟩
        have htk : (∃ i, i < 96 ∧ nm i = nI (lcode (wdN bt s len))) ↔ ∃ r, r < v 70 ∧ isRow le buf s len r := by
          constructor
          · intro ⟨i, i1, i2⟩
            cases HN.2.2.2.2 i i1 with
            | inl q =>
              rw [q] at i2
              have := (nI_eqz (n := lcode (wdN bt s len)) (by omega)).mp i2.symm
              omega
            | inr q =>
              obtain ⟨r, r1, r2⟩ := q
              obtain ⟨m1, _⟩ := HN.2.1 r r1
              have b8 := lcode_bd m1
              rw [r2] at i2
              exact ⟨r, r1, (hrow r r1).mpr ((nI_eq (by omega) (by omega)).mp i2)⟩
          · intro ⟨r, r1, r2⟩
            obtain ⟨m1, _, _, _, m5, m6, m7⟩ := HN.2.1 r r1
            have h5 := (hrow r r1).mp r2
            obtain ⟨⟨_, h0, h1, h3, h4⟩, _⟩ := HN
            refine ⟨12 * S r + W r, ?_, by rw [m7, h5]⟩
            rcases m5 with e | e | e | e <;> rw [e] at m6 ⊢ <;> omega
        obtain ⟨t1, t2⟩ := C_taken (c := nI (lcode (wdN bt s len))) (nm := nm) (N := N) (by omega)
        by_cases ht : ∃ i, i < 96 ∧ nm i = nI (lcode (wdN bt s len))
        · rw [t1 ht, Option.bind_some, if_neg (by decide)]
          unfold f_X8_readNewName_b53
          rw [href, hk]
          obtain ⟨r, r1, r2⟩ := htk.mp ht
          exact ⟨fun hh => absurd r2 (hh.2.2 r r1), fun _ => ⟨_, rfl⟩⟩
        · rw [t2 ht, Option.bind_some, if_pos rfl, hk]
          exact ⟨fun _ => rfl, fun hh => absurd ⟨⟨hw.1, hw.2.1⟩, k2.2, fun r hr h9 => ht (htk.mpr ⟨r, hr, h9⟩)⟩ hh⟩
      | inr k2 =>
        obtain ⟨k, q1, q2, q3, _⟩ := k2
        rw [q2, if_neg (nI_neg1 (by omega))]
        unfold f_X8_readNewName_b53
        rw [href]
        exact ⟨fun hh => absurd q3 (hh.2.1 k q1), fun _ => ⟨_, rfl⟩⟩
    · rw [hcod.2 hw, Option.bind_some, if_pos hk, if_pos rfl]
      unfold f_X8_readNewName_b53
      rw [href]
      refine ⟨fun hh => ?_, fun _ => ⟨_, rfl⟩⟩
      have h9 := (spn_isW a2).mpr (by rw [← hlen]; exact hh.1)
      rw [← hlen] at h9
      exact absurd h9 hw
  · have hno : ¬ newN bt l s (v 70) le buf := by
      intro hh
      have h1 := hh.1.1
      have hlt : s < l := by omega
      exact hk ((tkK_256 hlt (H.2 s hlt).2.2.1).mpr (b3 s (Nat.le_refl _) (by omega)))
    refine ⟨fun hh => absurd hh hno, fun _ => ?_⟩
    obtain ⟨cc, hcc⟩ : ∃ cc, f_X3_nameCode N (nI s) (nI (tkE bt l s)) 600 (nI l) g = some cc := by
      by_cases hw : isW bt s (tkE bt l s - s)
      · exact ⟨_, hcod.1 hw⟩
      · exact ⟨_, hcod.2 hw⟩
    rw [hcc, Option.bind_some, if_neg hk]
    unfold f_X8_readNewName_b53
    rw [href]
    exact ⟨_, rfl⟩


