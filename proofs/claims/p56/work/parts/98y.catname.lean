/-- a category's name, in both -/
theorem S_catName {v : Nat → Nat} {R : Nat → Nat → Nat} {S W : Nat → Nat} {nm le so wh cs rdd : Nat → Int32} (HN : NR v R S W nm le so wh) (hcs : cs 1 = nI (v 1)) (h70 : rdd 70 = nI (v 70)) {bt : Nat → Nat} {l : Nat} {g buf : Nat → Int32} (H : TB bt l g buf) {p : Nat} (hp : p ≤ l) (tk : Int32) {N : Nat} (hN : 700 < N) : (∃ i, i < v 1 ∧ f_X8_readCategoryName N 600 8 96 (nI p) (-1) (nI l) g cs nm = some (nI i, nI (spn (isLe bt) l (spn (isSp bt) l p)), nI (spn (isSp bt) l p), 256, -1) ∧ f_X11_categoryName N 71 192 32 32 600 (nI l) (nI p) tk (-1) rdd le so wh buf = some (nI i, nI (spn (isLe bt) l (spn (isSp bt) l p)), nI (spn (isSp bt) l p), -1)) ∨ (f_X8_readCategoryName N 600 8 96 (nI p) (-1) (nI l) g cs nm = some (-1, nI (tkE bt l (spn (isSp bt) l p)), nI (spn (isSp bt) l p), tkK bt l (spn (isSp bt) l p), nI (spn (isSp bt) l p)) ∧ ∃ q, f_X11_categoryName N 71 192 32 32 600 (nI l) (nI p) tk (-1) rdd le so wh buf = some (0, q, nI (spn (isSp bt) l p), nI (spn (isSp bt) l p))) := by
  have hl := H.1
  obtain ⟨a1, a2, a3, a4⟩ := spn_spec (f := isSp bt) hp
  obtain ⟨s, hs⟩ : ∃ s, s = spn (isSp bt) l p := ⟨_, rfl⟩
  rw [← hs]
  have ht := C_readToken H hp hN
  have hwl := M_wordLength H hp hN
  rw [← hs] at a1 a2 ht hwl
  obtain ⟨b1, b2, b3, b4⟩ := spn_spec (f := isLe bt) a2
  obtain ⟨⟨c0, c1, c2, c3, c4⟩, n2, n3, n4, n5⟩ := HN
  obtain ⟨len, hlen⟩ : ∃ len, len = spn (isLe bt) l s - s := ⟨_, rfl⟩
  rw [← hlen] at hwl
  have g70 : ¬ ((70 : Int32) < 0 ∨ 71 ≤ (70 : Int32).toNatClampNeg) := by decide
  obtain ⟨ρ, r1, r2⟩ := M_rowOf (n := v 70) (s := s) (len := len) (le := le) (buf := buf) (by omega) (by omega) (N := N) (by omega)
  have hM : f_X11_categoryName N 71 192 32 32 600 (nI l) (nI p) tk (-1) rdd le so wh buf = if ρ = (-1 : Int32) then some (0, nI s, nI s, nI s) else (if ρ < 0 ∨ 32 ≤ ρ.toNatClampNeg then none else (if so ρ.toNatClampNeg = (1 : Int32) then (if ρ < 0 ∨ 32 ≤ ρ.toNatClampNeg then none else some (wh ρ.toNatClampNeg, nI s + nI len, nI s, -1)) else some (0, nI s, nI s, nI s))) := by
    unfold f_X11_categoryName f_X11_categoryName_b53 f_X11_wrongAt
    rw [fine_yes, Option.bind_some, if_neg (by decide), hwl, Option.bind_some]
    dsimp only
    rw [if_neg g70, show (70 : Int32).toNatClampNeg = 70 from rfl, h70, r1, Option.bind_some, if_neg (show ¬ (0 : Int32) ≤ -1 by decide)]; rfl
  have hb41 : ∀ (e t : Int32), f_X8_readCategoryName_b41 (-1) e (nI s) t (-1) = some (-1, e, nI s, t, nI s) := by
    intro e t
    unfold f_X8_readCategoryName_b41 f_X8_refuse
    rw [if_pos rfl, if_pos rfl]; rfl
  have hcod := C_nameCode (bt := bt) (s := s) (len := len) (l := l) (g := g) hl (by omega) (fun i hi => ⟨(H.2 i hi).1, (H.2 i hi).2.1, (H.2 i hi).2.2.1⟩) (N := N) (by omega)
  rw [show s + len = spn (isLe bt) l s by omega] at hcod
  have hrow : ∀ r, r < v 70 → (isRow le buf s len r ↔ isW bt s len ∧ ∀ i, i < 6 → R r i = wdN bt s len i) := fun r hr => isRow_wd (n2 r hr).1 (n2 r hr).2.1 (by rw [hlen]; exact TB_row H a2)
  have hone : ∀ r r', r < v 70 → r' < v 70 → isRow le buf s len r → isRow le buf s len r' → r = r' := by
    intro r r' h1 h2 h3 h4
    have h5 := ((hrow r h1).mp h3).2
    have h6 := ((hrow r' h2).mp h4).2
    have h7 : lcode (R r) = lcode (R r') := lcode_eq (fun j hj => by rw [h5 j hj, h6 j hj])
    by_cases q1 : r < r'
    · exact absurd h7 (n3 _ _ q1 h2)
    · by_cases q2 : r' < r
      · exact absurd h7.symm (n3 _ _ q2 h1)
      · omega
  by_cases hk : tkK bt l s = 256
  · have hlt : s < l := by
      by_cases e : s < l
      · exact e
      · have h8 := (tkK_258 (bt := bt) (l := l) (s := s) (fun h => absurd h e)).mpr (by omega)
        rw [h8] at hk; exact absurd hk (by decide)
    have hle := (tkK_256 hlt (H.2 s hlt).2.2.1).mp hk
    have he : tkE bt l s = spn (isLe bt) l s := by
      unfold tkE
      rw [if_neg (by omega), if_pos hle]
    obtain ⟨co, hco, hcc⟩ : ∃ co : Int32, f_X3_nameCode N (nI s) (nI (spn (isLe bt) l s)) 600 (nI l) g = some co ∧ ((isW bt s len ∧ co = nI (lcode (wdN bt s len))) ∨ (¬ isW bt s len ∧ co = 0)) := by
      by_cases h : isW bt s len
      · exact ⟨_, hcod.1 h, Or.inl ⟨h, rfl⟩⟩
      · exact ⟨_, hcod.2 h, Or.inr ⟨h, rfl⟩⟩
    obtain ⟨σ, hσ1, hσ2⟩ := C_numberOf (t := 1) (n := v 1) (c := co) (cs := cs) (nm := nm) (by omega) (by omega) hcs (N := N) (by omega)
    have hC : f_X8_readCategoryName N 600 8 96 (nI p) (-1) (nI l) g cs nm = f_X8_readCategoryName_b41 σ (nI (spn (isLe bt) l s)) (nI s) 256 (-1) := by
      unfold f_X8_readCategoryName
      rw [ht, Option.bind_some]
      dsimp only
      rw [if_pos hk, he, hco, Option.bind_some, show f_X7_numberOf N 1 co 8 96 cs nm = _ from hσ1, Option.bind_some, hk]
    have hfound : ∀ i, i < v 1 → ¬ co = 0 → nm (12 * 1 + i) = co → ∃ r, r < v 70 ∧ S r = 1 ∧ W r = i ∧ isRow le buf s len r := by
      intro i hi h1 h2
      cases hcc with
      | inr h => exact absurd h.2 h1
      | inl h =>
        obtain ⟨r, q1, q2, q3⟩ := n4 1 i (Or.inl rfl) hi
        obtain ⟨m1, m2, _, _, _, _, m7⟩ := n2 r q1
        rw [q2, q3, h2, h.2] at m7
        have hw := isW_wd h.1
        have z1 := lcode_bd m1
        have z2 := lcode_bd hw
        have h5 := (nI_eq (by omega) (by omega)).mp m7
        exact ⟨r, q1, q2, q3, (hrow r q1).mpr ⟨h.1, lcode_inj m1 hw h5.symm⟩⟩
    have hno : σ = -1 → (ρ = -1 ∨ ∃ r, r < v 70 ∧ ρ = nI r ∧ ¬ S r = 1) → (f_X8_readCategoryName N 600 8 96 (nI p) (-1) (nI l) g cs nm = some (-1, nI (tkE bt l s), nI s, tkK bt l s, nI s) ∧ ∃ q, f_X11_categoryName N 71 192 32 32 600 (nI l) (nI p) tk (-1) rdd le so wh buf = some (0, q, nI s, nI s)) := by
      intro h1 h2
      refine ⟨by rw [hC, h1, hb41, he, hk], nI s, ?_⟩
      rw [hM]
      cases h2 with
      | inl h => rw [if_pos h]
      | inr h =>
        obtain ⟨r, q1, q2, q3⟩ := h
        have gr := grd (i := r) (n := 32) (by omega) (by decide)
        obtain ⟨_, _, m3, _, m5, _, _⟩ := n2 r q1
        rw [q2, if_neg (nI_neg1 (by omega)), if_neg gr, nI_clamp (by omega), m3, if_neg (show ¬ nI (S r) = (1 : Int32) from fun hh => q3 ((nI_eq (b := 1) (by omega) (by decide)).mp hh))]
    cases r2 with
    | inl h =>
      refine Or.inr (hno ?_ (Or.inl h.1))
      cases hσ2 with
      | inl h2 => exact h2.1
      | inr h2 =>
        obtain ⟨i, i1, i2, i3, i4⟩ := h2
        obtain ⟨r, q1, q2, q3, q4⟩ := hfound i i1 i3 i4
        exact absurd q4 (h.2 r q1)
    | inr h =>
      obtain ⟨r, q1, q2, q3, _⟩ := h
      obtain ⟨m1, m2, m3, m4, m5, m6, m7⟩ := n2 r q1
      by_cases h3 : S r = 1
      · have hw := (hrow r q1).mp q3
        have hcc2 : co = nI (lcode (R r)) := by
          cases hcc with
          | inl h => rw [h.2, lcode_eq hw.2]
          | inr h => exact absurd hw.1 h.1
        have hc0 : ¬ co = 0 := by
          rw [hcc2]
          intro hh
          have z1 := lcode_bd m1
          have z2 := lcode_pos m1
          have := (nI_eqz (by omega)).mp hh
          omega
        rw [h3] at m6 m7
        cases hσ2 with
        | inl h2 => exact absurd ⟨hc0, by rw [m7, hcc2]⟩ (h2.2 (W r) m6)
        | inr h2 =>
          obtain ⟨i, i1, i2, i3, i4⟩ := h2
          obtain ⟨r', y1, y2, y3, y4⟩ := hfound i i1 i3 i4
          have hrr := hone r r' q1 y1 q3 y4
          subst hrr
          have gr := grd (i := r) (n := 32) (by omega) (by decide)
          refine Or.inl ⟨i, i1, ?_, ?_⟩
          · rw [hC, i2]
            unfold f_X8_readCategoryName_b41
            rw [if_neg (nI_neg1 (by omega))]
          · rw [hM, q2, if_neg (nI_neg1 (by omega)), if_neg gr]
            rw [nI_clamp (by omega)] at gr
            rw [nI_clamp (by omega), m3, if_pos (by rw [h3]; rfl), if_neg gr, m4, y3, nI_add, show s + len = spn (isLe bt) l s by omega]
      · refine Or.inr (hno ?_ (Or.inr ⟨r, q1, q2, h3⟩))
        cases hσ2 with
        | inl h2 => exact h2.1
        | inr h2 =>
          obtain ⟨i, i1, i2, i3, i4⟩ := h2
          obtain ⟨r', y1, y2, y3, y4⟩ := hfound i i1 i3 i4
          have hrr := hone r r' q1 y1 q3 y4
          subst hrr
          exact absurd y2 h3
  · have hl0 : len = 0 := by
      by_cases e : len = 0
      · exact e
      · have hlt : s < l := by omega
        exact absurd ((tkK_256 hlt (H.2 s hlt).2.2.1).mpr (b3 s (Nat.le_refl _) (by omega))) hk
    refine Or.inr ⟨?_, nI s, ?_⟩
    · unfold f_X8_readCategoryName
      rw [ht, Option.bind_some]
      dsimp only
      rw [if_neg hk, hb41]
    · rw [hM]
      cases r2 with
      | inl h => rw [if_pos h.1]
      | inr h =>
        obtain ⟨r, _, _, q3, _⟩ := h
        have := q3.1
        omega


