/-- the reference: a new name -/
theorem M_names {v : Nat → Nat} {R : Nat → Nat → Nat} {S W : Nat → Nat} {nm le so wh rdd : Nat → Int32} (HN : NR v R S W nm le so wh) {bt : Nat → Nat} {l : Nat} {g buf : Nat → Int32} (H : TB bt l g buf) {p : Nat} (hp : p ≤ l) {t : Nat} (ht : t < 5) (h70 : rdd 70 = nI (v 70)) (hrow : v 70 < 32) (tk : Int32) {N : Nat} (hN : 700 < N) : (newN bt l (spn (isSp bt) l p) (v 70) le buf → ∃ le', f_X11_names N (nI t) 71 192 32 32 600 (nI l) (nI p) tk (-1) rdd le so wh buf = some (nI (spn (isLe bt) l (spn (isSp bt) l p)), nI (spn (isSp bt) l p), -1, upd rdd 70 (nI (v 70 + 1)), le', upd so (v 70) (nI t), upd wh (v 70) (rdd t)) ∧ (∀ i, i < 6 → le' (6 * v 70 + i) = nI (wdN bt (spn (isSp bt) l p) (spn (isLe bt) l (spn (isSp bt) l p) - spn (isSp bt) l p) i)) ∧ ∀ i, i < 6 * v 70 → le' i = le i) ∧ (¬ newN bt l (spn (isSp bt) l p) (v 70) le buf → ∃ q, f_X11_names N (nI t) 71 192 32 32 600 (nI l) (nI p) tk (-1) rdd le so wh buf = some (q, nI (spn (isSp bt) l p), nI (spn (isSp bt) l p), rdd, le, so, wh)) := by
  have hl := H.1
  obtain ⟨a1, a2, a3, a4⟩ := spn_spec (f := isSp bt) hp
  have hid : spn (isSp bt) l (spn (isSp bt) l p) = spn (isSp bt) l p := spn_idem hp
  obtain ⟨s, hs⟩ : ∃ s, s = spn (isSp bt) l p := ⟨_, rfl⟩
  rw [← hs] at hid
  unfold f_X11_names
  unfold f_X11_isFine
  rw [if_neg (by decide), Option.bind_some, if_neg (by decide), M_wordLength H hp hN, Option.bind_some, ← hs]
  rw [← hs] at a1 a2
  obtain ⟨b1, b2, b3, b4⟩ := spn_spec (f := isLe bt) a2
  have hb59 : ∀ q : Int32, f_X11_names_b59 q (nI s) (-1) rdd le so wh = some (q, nI s, nI s, rdd, le, so, wh) := by
    intro q
    unfold f_X11_names_b59 f_X11_wrongAt
    rw [if_neg (by decide)]; rfl
  obtain ⟨len, hlen⟩ : ∃ len, len = spn (isLe bt) l s - s := ⟨_, rfl⟩
  dsimp only
  unfold newN
  rw [← hlen]
  have g70 : ¬ ((70 : Int32) < 0 ∨ 71 ≤ (70 : Int32).toNatClampNeg) := by decide
  rw [show (1 : Int64) = (1 : Int32).toInt64 from rfl, show (6 : Int64) = (6 : Int32).toInt64 from rfl, M_isIn, Option.bind_some]
  have hrange : (nI len < (1 : Int32) ∨ (6 : Int32) < nI len) ↔ ¬ (1 ≤ len ∧ len ≤ 6) := by
    have q1 : nI len < (1 : Int32) ↔ len < 1 := nI_ltI (b := 1) (by omega) (by decide)
    have q2 : (6 : Int32) < nI len ↔ 6 < len := nI_ltI (a := 6) (by decide) (by omega)
    rw [q1, q2]
    omega
  by_cases hr : 1 ≤ len ∧ len ≤ 6
  · rw [if_neg (fun hh => hrange.mp hh hr), if_neg (show ¬ (1 : Int32) = 0 by decide)]
    obtain ⟨w1, w2⟩ := M_isKeyword H a2 hid (nI s) hN
    by_cases hkw : ∃ k, k < 8 ∧ KW bt l s k
    · rw [w1 hkw, Option.bind_some]
      dsimp only
      rw [if_neg (show ¬ (1 : Int32) = 0 by decide), hb59]
      obtain ⟨k, k1, k2⟩ := hkw
      exact ⟨fun hh => absurd k2 (hh.2.1 k k1), fun _ => ⟨_, rfl⟩⟩
    · have hkw' : ∀ k, k < 8 → ¬ KW bt l s k := fun k hk h => hkw ⟨k, hk, h⟩
      rw [w2 hkw', Option.bind_some]
      dsimp only
      rw [if_pos rfl, if_neg g70, show (70 : Int32).toNatClampNeg = 70 from rfl, h70]
      obtain ⟨ρ, r1, r2⟩ := M_rowOf (n := v 70) (s := s) (len := len) (le := le) (buf := buf) (by omega) (by omega) (N := N) (by omega)
      rw [r1, Option.bind_some]
      cases r2 with
      | inr r2 =>
        obtain ⟨r, q1, q2, q3, _⟩ := r2
        rw [q2, if_neg (nI_neg1 (by omega)), hb59]
        exact ⟨fun hh => absurd q3 (hh.2.2 r q1), fun _ => ⟨_, rfl⟩⟩
      | inl r2 =>
        rw [if_pos r2.1, if_neg (show ¬ ((70 : Int32) < 0 ∨ 71 ≤ 70) by decide), Option.bind_some]
        refine ⟨fun _ => ?_, fun hh => absurd ⟨hr, hkw', r2.2⟩ hh⟩
        have hloop : ∀ (n i : Nat) (lf : Nat → Int32), i ≤ 6 → 6 < n + i → (∀ j, j < i → lf (6 * v 70 + j) = nI (wdN bt s len j)) → (∀ j, j < 6 * v 70 → lf j = le j) → ∃ le', f_X11_names_b79 (nI t) (nI len) (nI (v 70)) 71 192 32 32 600 (nI s) (nI s) (-1) rdd so wh buf n (nI i) lf = some (nI (spn (isLe bt) l s), nI s, -1, upd rdd 70 (nI (v 70 + 1)), le', upd so (v 70) (nI t), upd wh (v 70) (rdd t)) ∧ (∀ i, i < 6 → le' (6 * v 70 + i) = nI (wdN bt s len i)) ∧ ∀ i, i < 6 * v 70 → le' i = le i := by
          intro n
          induction n with
          | zero => intro i lf h1 h2; omega
          | succ n ih =>
            intro i lf h1 h2 h3 h4
            rw [f_X11_names_b79]
            by_cases e : i = 6
            · subst e
              have gr := grd (i := v 70) (n := 32) (by omega) (by decide)
              have gt := grd (i := t) (n := 71) (by omega) (by decide)
              rw [if_pos (show (6 : Int32) ≤ nI 6 from Int32.le_refl _), if_neg gr, Option.bind_some, if_neg gt]
              rw [nI_clamp (by omega)] at gr gt
              rw [nI_clamp (by omega), nI_clamp (by omega), if_neg gr, Option.bind_some, if_neg (show ¬ ((70 : Int32) < 0 ∨ 71 ≤ (70 : Int32).toNatClampNeg) by decide), show (70 : Int32).toNatClampNeg = 70 from rfl, if_neg (show ¬ ((70 : Int32) < 0 ∨ 71 ≤ 70) by decide), h70, nI_1, Option.bind_some, nI_add, show s + len = spn (isLe bt) l s by omega]
              exact ⟨lf, rfl, h3, h4⟩
            · have hput : ∀ (x : Int32), vp_nar .byte x = nI (wdN bt s len i) → ∃ le', f_X11_names_b119 (f_X11_names_b79 (nI t) (nI len) (nI (v 70)) 71 192 32 32 600 (nI s) (nI s) (-1) rdd so wh buf n) (nI i) (nI (6 * v 70 + i)) x 192 lf = some (nI (spn (isLe bt) l s), nI s, -1, upd rdd 70 (nI (v 70 + 1)), le', upd so (v 70) (nI t), upd wh (v 70) (rdd t)) ∧ (∀ i, i < 6 → le' (6 * v 70 + i) = nI (wdN bt s len i)) ∧ ∀ i, i < 6 * v 70 → le' i = le i := by
                intro x hx
                have gq := grd (i := 6 * v 70 + i) (n := 192) (by omega) (by decide)
                unfold f_X11_names_b119
                rw [if_neg gq, nI_clamp (by omega), hx, Option.bind_some, nI_1, Option.bind_some]
                refine ih (i + 1) _ (by omega) (by omega) (fun j hj => ?_) (fun j hj => ?_)
                · by_cases e2 : j = i
                  · rw [e2, upd_at]
                  · rw [upd_ne _ _ (by omega)]
                    exact h3 j (by omega)
                · rw [upd_ne _ _ (by omega)]
                  exact h4 j hj
              rw [if_neg (show ¬ (6 : Int32) ≤ nI i from fun hh => by have := (nI_leI (a := 6) (by decide) (by omega)).mp hh; omega), show (6 : Int32) = nI 6 from rfl, nI_mul, nI_add]
              by_cases e2 : len ≤ i
              · rw [if_pos ((nI_leI (by omega) (by omega)).mpr e2)]
                refine hput 0 ?_
                unfold wdN
                rw [if_pos e2]; rfl
              · have gb := grd (i := s + i) (n := 600) (by omega) (by decide)
                rw [if_neg (fun hh => e2 ((nI_leI (by omega) (by omega)).mp hh)), nI_add, if_neg gb, nI_clamp (by omega)]
                refine hput _ ?_
                have hle := of_decide_eq_true (b3 (s + i) (by omega) (by omega))
                obtain ⟨_, _, c3, c4⟩ := H.2 (s + i) (by omega)
                have hna := nar_b (bt (s + i)) (by omega)
                rw [if_pos (by omega)] at hna
                unfold wdN
                rw [if_neg e2, c4, hna, hna]
        have h9 := hloop N 0 le (by omega) (by omega) (fun j hj => absurd hj (Nat.not_lt_zero _)) (fun _ _ => rfl)
        rw [nI_0] at h9
        exact h9
  · rw [if_pos (hrange.mpr hr), if_pos rfl, hb59]
    exact ⟨fun hh => absurd hh.1 hr, fun _ => ⟨_, rfl⟩⟩
/-- one name more -/
theorem NR_add {v : Nat → Nat} {R : Nat → Nat → Nat} {S W : Nat → Nat} {nm le le' so wh : Nat → Int32} (HN : NR v R S W nm le so wh) {t : Nat} (ht : t = 0 ∨ t = 1 ∨ t = 3 ∨ t = 4) {w : Nat → Nat} (hw : WdN w) (hnew : ∀ r, r < v 70 → ¬ lcode (R r) = lcode w) (hl1 : ∀ i, i < 6 → le' (6 * v 70 + i) = nI (w i)) (hl2 : ∀ i, i < 6 * v 70 → le' i = le i) (hroom : (t = 0 → v 0 < 5) ∧ (t = 1 → v 1 < 8) ∧ (t = 3 → v 3 < 12) ∧ (t = 4 → v 4 < 4)) : NR (updN (updN v t (v t + 1)) 70 (v 70 + 1)) (fun r => if r = v 70 then w else R r) (fun r => if r = v 70 then t else S r) (fun r => if r = v 70 then v t else W r) (upd nm (12 * t + v t) (nI (lcode w))) le' (upd so (v 70) (nI t)) (upd wh (v 70) (nI (v t))) := by
  obtain ⟨⟨c0, c1, c2, c3, c4⟩, n2, n3, n4, n5⟩ := HN
  have hu : ∀ i, i ≠ 70 → updN (updN v t (v t + 1)) 70 (v 70 + 1) i = if i = t then v t + 1 else v i := by
    intro i hi
    unfold updN
    rw [if_neg hi]
  have hu70 : updN (updN v t (v t + 1)) 70 (v 70 + 1) 70 = v 70 + 1 := by
    unfold updN
    rw [if_pos rfl]
  have hvt : v t < 12 := by
    rcases ht with e | e | e | e <;> rw [e] <;> omega
  have hmono : ∀ i, i ≠ 70 → v i ≤ updN (updN v t (v t + 1)) 70 (v 70 + 1) i := by
    intro i hi
    rw [hu i hi]
    by_cases e : i = t
    · rw [if_pos e, e]; omega
    · rw [if_neg e]; exact Nat.le_refl _
  refine ⟨?_, fun r hr => ?_, fun r r' h1 h2 => ?_, fun t' m ht' hm => ?_, fun c hc => ?_⟩
  · rw [hu70, hu 0 (by decide), hu 1 (by decide), hu 3 (by decide), hu 4 (by decide)]
    obtain ⟨q0, q1, q3, q4⟩ := hroom
    rcases ht with e | e | e | e
    · have := q0 e
      subst e
      rw [if_pos rfl, if_neg (by decide), if_neg (by decide), if_neg (by decide)]
      omega
    · have := q1 e
      subst e
      rw [if_pos rfl, if_neg (by decide), if_neg (by decide), if_neg (by decide)]
      omega
    · have := q3 e
      subst e
      rw [if_pos rfl, if_neg (by decide), if_neg (by decide), if_neg (by decide)]
      omega
    · have := q4 e
      subst e
      rw [if_pos rfl, if_neg (by decide), if_neg (by decide), if_neg (by decide)]
      omega
  · rw [hu70] at hr
    by_cases e : r = v 70
    · subst e
      simp only [if_true]
      refine ⟨hw, hl1, upd_at _ _ _, upd_at _ _ _, ht, ?_, upd_at _ _ _⟩
      rw [hu t (by omega), if_pos rfl]
      omega
    · simp only [e, if_false]
      obtain ⟨m1, m2, m3, m4, m5, m6, m7⟩ := n2 r (by omega)
      refine ⟨m1, fun i hi => by rw [hl2 _ (by omega)]; exact m2 i hi, by rw [upd_ne _ _ e]; exact m3, by rw [upd_ne _ _ e]; exact m4, m5, Nat.lt_of_lt_of_le m6 (hmono _ (by omega)), ?_⟩
      have hne : ¬ 12 * S r + W r = 12 * t + v t := by
        intro hh
        have hW : W r < 12 := by
          rcases m5 with e | e | e | e <;> rw [e] at m6 <;> omega
        have h8 : S r = t := by omega
        rw [h8] at m6 hh
        omega
      rw [upd_ne _ _ hne]
      exact m7
  · rw [hu70] at h2
    dsimp only
    by_cases e : r' = v 70
    · subst e
      rw [if_pos rfl, if_neg (by omega)]
      exact hnew r (by omega)
    · rw [if_neg e, if_neg (by omega)]
      exact n3 r r' h1 (by omega)
  · rw [hu t' (by omega)] at hm
    by_cases e : t' = t
    · rw [if_pos e] at hm
      by_cases e2 : m = v t
      · exact ⟨v 70, by rw [hu70]; omega, by dsimp only; rw [if_pos rfl, e], by dsimp only; rw [if_pos rfl, e2]⟩
      · obtain ⟨r, r1, r2, r3⟩ := n4 t' m ht' (by rw [e]; omega)
        exact ⟨r, by rw [hu70]; omega, by dsimp only; rw [if_neg (by omega)]; exact r2, by dsimp only; rw [if_neg (by omega)]; exact r3⟩
    · rw [if_neg e] at hm
      obtain ⟨r, r1, r2, r3⟩ := n4 t' m ht' hm
      exact ⟨r, by rw [hu70]; omega, by dsimp only; rw [if_neg (by omega)]; exact r2, by dsimp only; rw [if_neg (by omega)]; exact r3⟩
  · by_cases e : c = 12 * t + v t
    · exact Or.inr ⟨v 70, by rw [hu70]; omega, by dsimp only; rw [e, upd_at, if_pos rfl]⟩
    · rw [upd_ne _ _ e]
      cases n5 c hc with
      | inl h => exact Or.inl h
      | inr h =>
        obtain ⟨r, r1, r2⟩ := h
        exact Or.inr ⟨r, by rw [hu70]; omega, by dsimp only; rw [if_neg (by omega)]; exact r2⟩


