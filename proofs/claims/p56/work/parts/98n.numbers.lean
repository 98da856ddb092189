/-- the value of digits -/
def dvN (bt : Nat → Nat) (s : Nat) : Nat → Nat
  | 0 => 0
  | n + 1 => dvN bt s n * 10 + (bt (s + n) - 48)
/-- is there a number within bounds -/
def numOK (bt : Nat → Nat) (l s : Nat) (lo hi : Int32) : Prop := (s < l ∧ isDi bt s = true ∧ spn (isDi bt) l s - s ≤ 7) ∧ lo ≤ nI (dvN bt s (spn (isDi bt) l s - s)) ∧ nI (dvN bt s (spn (isDi bt) l s - s)) ≤ hi
theorem dv_step {a b : Nat} (h : 48 ≤ b) : nI a * (10 : Int32) + nI b - (48 : Int32) = nI (a * 10 + (b - 48)) := by
  rw [show (10 : Int32) = nI 10 from rfl, nI_mul, nI_add, show (48 : Int32) = nI 48 from rfl, nI_subI (by omega), show a * 10 + b - 48 = a * 10 + (b - 48) by omega]
theorem dig_ok {bt : Nat → Nat} {i : Nat} (h : isDi bt i = true) : 48 ≤ bt i ∧ bt i ≤ 57 := by
  unfold isDi at h
  exact of_decide_eq_true h
theorem nI_neg1 {n : Nat} (h : n < 2 ^ 31) : ¬ nI n = (-1 : Int32) := by
  intro hh
  have h5 := nI_pos (n := n) h
  rw [hh] at h5
  exact h5 (by decide)
/-- the class: a number -/
theorem C_readNumber {bt : Nat → Nat} {l : Nat} {g buf : Nat → Int32} (H : TB bt l g buf) {p : Nat} (hp : p ≤ l) (lo hi st tk : Int32) {N : Nat} (hN : 700 < N) : (numOK bt l (spn (isSp bt) l p) lo hi → f_X8_readNumber N lo hi 600 (nI p) st tk (-1) (nI l) g = some (nI (dvN bt (spn (isSp bt) l p) (spn (isDi bt) l (spn (isSp bt) l p) - spn (isSp bt) l p)), nI (spn (isDi bt) l (spn (isSp bt) l p)), nI (spn (isSp bt) l p), 257, -1)) ∧ (¬ numOK bt l (spn (isSp bt) l p) lo hi → ∃ y, f_X8_readNumber N lo hi 600 (nI p) st tk (-1) (nI l) g = some (y, nI (tkE bt l (spn (isSp bt) l p)), nI (spn (isSp bt) l p), tkK bt l (spn (isSp bt) l p), nI (spn (isSp bt) l p))) := by
  have hl := H.1
  obtain ⟨a1, a2, a3, a4⟩ := spn_spec (f := isSp bt) hp
  obtain ⟨s, hs⟩ : ∃ s, s = spn (isSp bt) l p := ⟨_, rfl⟩
  unfold f_X8_readNumber
  rw [if_pos rfl, C_readToken H hp hN, Option.bind_some, ← hs]
  rw [← hs] at a1 a2
  have href : ∀ x : Int32, f_X8_refuse (nI s) (-1) = some (nI s) := fun _ => by unfold f_X8_refuse; rw [if_pos rfl]
  dsimp only
  by_cases hk : tkK bt l s = 257
  · have hlt : s < l := by
      by_cases e : s < l
      · exact e
      · have h8 := (tkK_258 (bt := bt) (l := l) (s := s) (fun h => absurd h e)).mpr (by omega)
        rw [h8] at hk; exact absurd hk (by decide)
    have hd := (tkK_257 hlt (H.2 s hlt).2.2.1).mp hk
    have hnl : ¬ isLe bt s = true := by
      intro hh
      have := (tkK_256 hlt (H.2 s hlt).2.2.1).mpr hh
      rw [hk] at this
      exact absurd this (by decide)
    have he : tkE bt l s = spn (isDi bt) l s := by
      unfold tkE
      rw [if_neg (by omega), if_neg hnl, if_pos hd]
    obtain ⟨b1, b2, b3, b4⟩ := spn_spec (f := isDi bt) (Nat.le_of_lt hlt)
    rw [if_pos hk, he, nI_subI b1]
    by_cases h7 : spn (isDi bt) l s - s ≤ 7
    · rw [if_pos (show nI (spn (isDi bt) l s - s) ≤ (7 : Int32) from (nI_leI (b := 7) (by omega) (by decide)).mpr h7)]
      have hloop : ∀ (n j : Nat), s + j ≤ spn (isDi bt) l s → spn (isDi bt) l s < n + (s + j) → f_X8_readNumber_b52 lo hi 600 (nI (spn (isDi bt) l s)) (nI s) (tkK bt l s) (-1) (nI l) g n (nI (dvN bt s j)) (nI (s + j)) = if nI (dvN bt s (spn (isDi bt) l s - s)) < lo then f_X8_readNumber_b95 (nI (dvN bt s (spn (isDi bt) l s - s))) (nI (spn (isDi bt) l s)) (nI s) (tkK bt l s) (-1) else if nI (dvN bt s (spn (isDi bt) l s - s)) ≤ hi then some (nI (dvN bt s (spn (isDi bt) l s - s)), nI (spn (isDi bt) l s), nI s, tkK bt l s, -1) else f_X8_readNumber_b95 (nI (dvN bt s (spn (isDi bt) l s - s))) (nI (spn (isDi bt) l s)) (nI s) (tkK bt l s) (-1) := by
        intro n
        induction n with
        | zero => intro j c1 c2; omega
        | succ n ih =>
          intro j c1 c2
          rw [f_X8_readNumber_b52]
          by_cases e : s + j = spn (isDi bt) l s
          · rw [if_pos (by rw [e]; exact Int32.le_refl _), show spn (isDi bt) l s - s = j by omega]
          · have hdj := dig_ok (b3 (s + j) (by omega) (by omega))
            rw [if_neg (fun hh => by have := (nI_leI (by omega) (by omega)).mp hh; omega), C_byte H (by omega), Option.bind_some, dv_step hdj.1, Option.bind_some, nI_1, Option.bind_some]
            exact ih (j + 1) (by omega) (by omega)
      have h9 := hloop N 0 (by omega) (by omega)
      rw [show f_X8_readNumber_b52 lo hi 600 (nI (spn (isDi bt) l s)) (nI s) (tkK bt l s) (-1) (nI l) g N 0 (nI s) = _ from h9]
      unfold f_X8_readNumber_b95
      rw [href 0, Option.bind_some, hk]
      by_cases c1 : nI (dvN bt s (spn (isDi bt) l s - s)) < lo
      · rw [if_pos c1]
        exact ⟨fun hh => absurd hh.2.1 (Int32.not_le.mpr c1), fun _ => ⟨_, rfl⟩⟩
      · rw [if_neg c1]
        by_cases c2 : nI (dvN bt s (spn (isDi bt) l s - s)) ≤ hi
        · rw [if_pos c2]
          exact ⟨fun _ => rfl, fun hh => absurd ⟨⟨hlt, hd, h7⟩, Int32.not_lt.mp c1, c2⟩ hh⟩
        · rw [if_neg c2]
          exact ⟨fun hh => absurd hh.2.2 c2, fun _ => ⟨_, rfl⟩⟩
    · rw [if_neg (show ¬ nI (spn (isDi bt) l s - s) ≤ (7 : Int32) from fun hh => h7 ((nI_leI (b := 7) (by omega) (by decide)).mp hh))]
      unfold f_X8_readNumber_b38
      rw [href 0]
      exact ⟨fun hh => absurd hh.1.2.2 h7, fun _ => ⟨_, rfl⟩⟩
  · rw [if_neg hk]
    unfold f_X8_readNumber_b38
    rw [href 0]
    refine ⟨fun hh => absurd ((tkK_257 hh.1.1 (H.2 s hh.1.1).2.2.1).mpr hh.1.2.1) hk, fun _ => ⟨_, rfl⟩⟩
/-- the reference: a number -/
theorem M_number {bt : Nat → Nat} {l : Nat} {g buf : Nat → Int32} (H : TB bt l g buf) {p : Nat} (hp : p ≤ l) (lo hi tk : Int32) {N : Nat} (hN : 700 < N) : (numOK bt l (spn (isSp bt) l p) lo hi → f_X11_number N lo hi 600 (nI l) (nI p) tk (-1) buf = some (nI (dvN bt (spn (isSp bt) l p) (spn (isDi bt) l (spn (isSp bt) l p) - spn (isSp bt) l p)), nI (spn (isDi bt) l (spn (isSp bt) l p)), nI (spn (isSp bt) l p), -1)) ∧ (¬ numOK bt l (spn (isSp bt) l p) lo hi → ∃ y q, f_X11_number N lo hi 600 (nI l) (nI p) tk (-1) buf = some (y, q, nI (spn (isSp bt) l p), nI (spn (isSp bt) l p))) := by
  have hl := H.1
  obtain ⟨a1, a2, a3, a4⟩ := spn_spec (f := isSp bt) hp
  obtain ⟨s, hs⟩ : ∃ s, s = spn (isSp bt) l p := ⟨_, rfl⟩
  rw [← hs] at a1 a2
  unfold f_X11_number f_X11_isFine
  rw [if_neg (by decide), Option.bind_some, if_neg (by decide), M_look H hp hN, Option.bind_some, ← hs]
  dsimp only
  obtain ⟨b1, b2, b3, b4⟩ := spn_spec (f := isDi bt) a2
  have hwr : ∀ x : Int32, ∀ q : Int32, f_X11_number_b112 x q (nI s) (-1) = some (x, q, nI s, nI s) := by
    intro x q
    unfold f_X11_number_b112 f_X11_wrongAt
    rw [if_neg (by decide)]; rfl
  have hdig : ∀ i, i ≤ l → f_X11_isDigit (heN bt l i) = some (if i < l ∧ isDi bt i = true then 1 else 0) := by
    intro i hi
    unfold heN
    by_cases e : l ≤ i
    · rw [if_pos e, if_neg (by omega)]; rfl
    · rw [if_neg e, nI_dig _ (by have := (H.2 i (by omega)).2.2.1; omega)]
      by_cases c : 48 ≤ bt i ∧ bt i ≤ 57
      · rw [if_pos c, if_pos ⟨by omega, decide_eq_true c⟩]
      · rw [if_neg c, if_neg (fun hh => c (of_decide_eq_true hh.2))]
  have hloop : ∀ (n j : Nat), s + j ≤ spn (isDi bt) l s → spn (isDi bt) l s < n + (s + j) → (numOK bt l s lo hi → f_X11_number_b17 lo hi 600 (nI l) (nI s) (-1) buf n (nI (dvN bt s j)) (nI (s + j)) = some (nI (dvN bt s (spn (isDi bt) l s - s)), nI (spn (isDi bt) l s), nI s, -1)) ∧ (¬ numOK bt l s lo hi → ∀ x : Int32, (j ≤ 7 → x = nI (dvN bt s j)) → ∃ y q, f_X11_number_b17 lo hi 600 (nI l) (nI s) (-1) buf n x (nI (s + j)) = some (y, q, nI s, nI s)) := by
    intro n
    induction n with
    | zero => intro j c1 c2; omega
    | succ n ih =>
      intro j c1 c2
      by_cases e : s + j = spn (isDi bt) l s
      · have hnd : ¬ (s + j < l ∧ isDi bt (s + j) = true) := by
          intro hh
          have := b4 (by omega)
          rw [← e] at this
          rw [this] at hh
          exact absurd hh.2 Bool.false_ne_true
        have hj : spn (isDi bt) l s - s = j := by omega
        have hstep : ∀ x : Int32, f_X11_number_b17 lo hi 600 (nI l) (nI s) (-1) buf (n + 1) x (nI (s + j)) = if nI (s + j) = nI s then some (x, nI (s + j), nI s, nI s) else if (7 : Int32) < nI j then some (x, nI (s + j), nI s, nI s) else if x < lo ∨ hi < x then some (x, nI (s + j), nI s, nI s) else some (x, nI (s + j), nI s, -1) := by
          intro x
          rw [f_X11_number_b17, M_here H (by omega), Option.bind_some, hdig _ (by omega), if_neg hnd, Option.bind_some, if_pos rfl, nI_subI (by omega), show s + j - s = j by omega, hwr, M_isIn, Option.bind_some]
          by_cases c : x < lo ∨ hi < x
          · rw [if_pos c, if_pos rfl, if_pos c]
          · rw [if_neg c, if_neg (show ¬ (1 : Int32) = 0 by decide), if_neg c]
        constructor
        · intro hok
          rw [hstep]
          obtain ⟨⟨o1, o2, o3⟩, o4, o5⟩ := hok
          rw [hj] at o3 o4 o5 ⊢
          have hj1 : ¬ j = 0 := by
            intro hh
            subst hh
            exact hnd ⟨by omega, o2⟩
          rw [if_neg (fun hh => hj1 (by have := (nI_eq (by omega) (by omega)).mp hh; omega)), if_neg (show ¬ (7 : Int32) < nI j from fun hh => by have := (nI_ltI (a := 7) (by decide) (by omega)).mp hh; omega), if_neg (fun hh => hh.elim (Int32.not_lt.mpr o4) (Int32.not_lt.mpr o5)), e]
        · intro hno x hx
          rw [hstep]
          by_cases c0 : nI (s + j) = nI s
          · rw [if_pos c0]; exact ⟨_, _, rfl⟩
          · rw [if_neg c0]
            by_cases c1 : (7 : Int32) < nI j
            · rw [if_pos c1]; exact ⟨_, _, rfl⟩
            · rw [if_neg c1]
              have hj7 : j ≤ 7 := by
                by_cases h : j ≤ 7
                · exact h
                · exact absurd ((nI_ltI (a := 7) (by decide) (by omega)).mpr (by omega)) c1
              have hx := hx hj7
              by_cases c2 : x < lo ∨ hi < x
              · rw [if_pos c2]; exact ⟨_, _, rfl⟩
              · exfalso
                refine hno ⟨⟨?_, ?_, by omega⟩, ?_, ?_⟩
                · by_cases h : s < l
                  · exact h
                  · exact absurd (by rw [show s + j = s by omega]) c0
                · have hj0 : ¬ j = 0 := fun hh => c0 (by rw [hh, Nat.add_zero])
                  exact b3 s (Nat.le_refl _) (by omega)
                · rw [hj, ← hx]
                  exact Int32.not_lt.mp (fun hh => c2 (Or.inl hh))
                · rw [hj, ← hx]
                  exact Int32.not_lt.mp (fun hh => c2 (Or.inr hh))
      · have hd := b3 (s + j) (by omega) (by omega)
        have hdj := dig_ok hd
        have hstep : ∀ x : Int32, f_X11_number_b17 lo hi 600 (nI l) (nI s) (-1) buf (n + 1) x (nI (s + j)) = if (7 : Int32) ≤ nI j then f_X11_number_b17 lo hi 600 (nI l) (nI s) (-1) buf n x (nI (s + (j + 1))) else f_X11_number_b17 lo hi 600 (nI l) (nI s) (-1) buf n ((10 : Int32) * x + nI (bt (s + j)) - (48 : Int32)) (nI (s + (j + 1))) := by
          intro x
          have hhe : heN bt l (s + j) = nI (bt (s + j)) := by
            unfold heN
            rw [if_neg (by omega)]
          rw [f_X11_number_b17, M_here H (by omega), Option.bind_some, hdig _ (by omega), if_pos ⟨by omega, hd⟩, Option.bind_some, if_neg (by decide), nI_subI (by omega), show s + j - s = j by omega, nI_1, Option.bind_some, Option.bind_some, hhe]; rfl
        have hn := ih (j + 1) (by omega) (by omega)
        have h7 : (7 : Int32) ≤ nI j ↔ 7 ≤ j := nI_leI (a := 7) (by decide) (by omega)
        constructor
        · intro hok
          have hj : j < 7 := by
            have := hok.1.2.2
            omega
          rw [hstep, if_neg (fun hh => by have := h7.mp hh; omega), Int32.mul_comm, dv_step hdj.1]
          exact hn.1 hok
        · intro hno x hx
          rw [hstep]
          by_cases c : 7 ≤ j
          · rw [if_pos (h7.mpr c)]
            exact hn.2 hno x (fun hh => by omega)
          · rw [if_neg (fun hh => c (h7.mp hh)), hx (by omega), Int32.mul_comm, dv_step hdj.1]
            exact hn.2 hno _ (fun _ => rfl)
  have h9 := hloop N 0 (by omega) (by omega)
  exact ⟨fun hok => h9.1 hok, fun hno => h9.2 hno 0 (fun _ => rfl)⟩


