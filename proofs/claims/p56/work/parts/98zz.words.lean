/-! the law's text, read: words and numbers -/
theorem spn_at {f : Nat → Bool} {l : Nat} : ∀ (n p : Nat), p + n ≤ l → (∀ i, i < n → f (p + i) = true) → (p + n = l ∨ f (p + n) = false) → spn f l p = p + n
  | 0, p, h1, h2, h3 => by
    rcases h3 with h3 | h3
    · exact spn_ge (by omega)
    · exact spn_no h3
  | n + 1, p, h1, h2, h3 => by
    rw [spn_yes (p := p) (by omega) (h2 0 (by omega)), spn_at n (p + 1) (by omega) (fun i hi => by
      have := h2 (i + 1) (by omega)
      rw [show p + (i + 1) = p + 1 + i by omega] at this
      exact this) (by rw [show p + 1 + n = p + (n + 1) by omega]; exact h3)]
    omega
/-- what stands in a text from a place on -/
def At (t : List Nat) (p : Nat) (u : List Nat) : Prop := p ≤ t.length ∧ t.drop p = u
theorem At_len {t : List Nat} {p : Nat} {u : List Nat} (h : At t p u) : t.length = p + u.length := by
  have h1 := h.1
  rw [← h.2, List.length_drop]
  omega
theorem At_gD {t : List Nat} {p : Nat} {u : List Nat} (h : At t p u) (i : Nat) : t.getD (p + i) 0 = u.getD i 0 := by
  rw [← h.2, gD_drop]
theorem At_go {t : List Nat} {p : Nat} {w r : List Nat} (h : At t p (w ++ r)) : At t (p + w.length) r := by
  have h1 := At_len h
  rw [List.length_append] at h1
  refine ⟨by omega, ?_⟩
  rw [← List.drop_drop, h.2, List.drop_left]
theorem At_0 (t : List Nat) : At t 0 t := ⟨Nat.zero_le _, rfl⟩
theorem At_word {t : List Nat} {p : Nat} {w r : List Nat} (h : At t p (w ++ r)) {q : Nat → Bool} {f : Nat → Bool} (hf : ∀ i, f i = q (t.getD i 0)) (h1 : ∀ c ∈ w, q c = true) (h2 : r = [] ∨ q (r.getD 0 0) = false) : spn f t.length p = p + w.length := by
  have hl := At_len h
  rw [List.length_append] at hl
  refine spn_at w.length p (by omega) ?_ ?_
  · intro i hi
    rw [hf, At_gD h, gD_app, if_pos hi]
    refine h1 _ ?_
    rw [List.getD_eq_getElem?_getD, List.getElem?_eq_getElem hi]
    exact List.getElem_mem hi
  · rcases h2 with h2 | h2
    · subst h2
      exact Or.inl (by rw [hl]; rfl)
    · right
      rw [hf]
      have := At_gD (At_go h) 0
      rw [Nat.add_zero] at this
      rw [this]; exact h2
/-- the questions over a text -/
theorem qSp (t : List Nat) (i : Nat) : isSp (fun i => t.getD i 0) i = (fun c => decide (c = 32)) (t.getD i 0) := rfl
theorem qLe (t : List Nat) (i : Nat) : isLe (fun i => t.getD i 0) i = (fun c => decide (97 ≤ c ∧ c ≤ 122)) (t.getD i 0) := rfl
theorem qDi (t : List Nat) (i : Nat) : isDi (fun i => t.getD i 0) i = (fun c => decide (48 ≤ c ∧ c ≤ 57)) (t.getD i 0) := rfl
theorem dg_in {x : Nat} (h : x < 10000) : ∀ c ∈ dg x, 48 ≤ c ∧ c ≤ 57 := fun c hc => by
  unfold dg at hc
  split at hc
  · simp only [List.mem_cons, List.not_mem_nil, or_false] at hc; omega
  · split at hc
    · simp only [List.mem_cons, List.not_mem_nil, or_false] at hc; omega
    · split at hc
      · simp only [List.mem_cons, List.not_mem_nil, or_false] at hc; omega
      · simp only [List.mem_cons, List.not_mem_nil, or_false] at hc; omega
theorem dg_pos (x : Nat) : 1 ≤ (dg x).length := by
  unfold dg
  split
  · simp
  · split
    · simp
    · split <;> simp
theorem dv_dg {bt : Nat → Nat} {s x : Nat} (hx : x < 10000) (h : ∀ i, i < (dg x).length → bt (s + i) = (dg x).getD i 0) : dvN bt s (dg x).length = x := by
  by_cases h1 : x < 10
  · rw [dg_1 h1] at h ⊢
    have e0 : bt (s + 0) = 48 + x % 10 := h 0 (by simp)
    show 0 * 10 + (bt (s + 0) - 48) = x
    rw [e0]; omega
  · by_cases h2 : x < 100
    · rw [dg_2 h1 h2] at h ⊢
      have e0 : bt (s + 0) = 48 + x / 10 := h 0 (by simp)
      have e1 : bt (s + 1) = 48 + x % 10 := h 1 (by simp)
      show (0 * 10 + (bt (s + 0) - 48)) * 10 + (bt (s + 1) - 48) = x
      rw [e0, e1]; omega
    · by_cases h3 : x < 1000
      · rw [dg_3 h2 h3] at h ⊢
        have e0 : bt (s + 0) = 48 + x / 100 % 10 := h 0 (by simp)
        have e1 : bt (s + 1) = 48 + x % 100 / 10 := h 1 (by simp)
        have e2 : bt (s + 2) = 48 + x % 100 % 10 := h 2 (by simp)
        show ((0 * 10 + (bt (s + 0) - 48)) * 10 + (bt (s + 1) - 48)) * 10 + (bt (s + 2) - 48) = x
        rw [e0, e1, e2]; omega
      · rw [dg_4 h3] at h ⊢
        have e0 : bt (s + 0) = 48 + x / 100 / 10 := h 0 (by simp)
        have e1 : bt (s + 1) = 48 + x / 100 % 10 := h 1 (by simp)
        have e2 : bt (s + 2) = 48 + x % 100 / 10 := h 2 (by simp)
        have e3 : bt (s + 3) = 48 + x % 100 % 10 := h 3 (by simp)
        show (((0 * 10 + (bt (s + 0) - 48)) * 10 + (bt (s + 1) - 48)) * 10 + (bt (s + 2) - 48)) * 10 + (bt (s + 3) - 48) = x
        rw [e0, e1, e2, e3]; omega
/-- what may follow a word or a number: nothing, a space, a semicolon -/
def Fol (r : List Nat) : Prop := r = [] ∨ r.getD 0 0 = 32 ∨ r.getD 0 0 = 59
theorem Fol_q {r : List Nat} (h : Fol r) {q : Nat → Bool} (h1 : q 32 = false) (h2 : q 59 = false) : r = [] ∨ q (r.getD 0 0) = false := by
  rcases h with h | h | h
  · exact Or.inl h
  · exact Or.inr (by rw [h]; exact h1)
  · exact Or.inr (by rw [h]; exact h2)
/-- a space before what is none -/
theorem At_sp {t : List Nat} {p : Nat} {u : List Nat} (h : At t p (32 :: u)) (hu : u = [] ∨ ¬ u.getD 0 0 = 32) : spn (isSp (fun i => t.getD i 0)) t.length p = p + 1 ∧ At t (p + 1) u := by
  have h' : At t p ([32] ++ u) := h
  refine ⟨At_word (q := fun c => decide (c = 32)) h' (qSp t) (fun c hc => by rw [List.mem_singleton.mp hc]; rfl) ?_, At_go h'⟩
  rcases hu with hu | hu
  · exact Or.inl hu
  · exact Or.inr (decide_eq_false hu)
/-- the class: a number of the text -/
theorem D_num {t : List Nat} {g buf : Nat → Int32} (H : TB (fun i => t.getD i 0) t.length g buf) {p x lo hi : Nat} {r : List Nat} (h : At t p (32 :: (dg x ++ r))) (hr : Fol r) (hx : x < 10000) (h1 : lo ≤ x) (h2 : x ≤ hi) (hhi : hi < 2 ^ 31) (st tk : Int32) {N : Nat} (hN : 700 < N) : f_X8_readNumber N (nI lo) (nI hi) 600 (nI p) st tk (-1) (nI t.length) g = some (nI x, nI (p + 1 + (dg x).length), nI (p + 1), 257, -1) ∧ At t (p + 1 + (dg x).length) r := by
  have hp := dg_pos x
  have h4 := dg_len x
  have hne : dg x ++ r = [] ∨ ¬ (dg x ++ r).getD 0 0 = 32 := by
    right
    have e : (dg x ++ r).getD 0 0 = (dg x).getD 0 0 := by rw [gD_app, if_pos (by omega)]
    have e2 : (dg x).getD 0 0 ∈ dg x := by
      rw [List.getD_eq_getElem?_getD, List.getElem?_eq_getElem (by omega)]
      exact List.getElem_mem _
    have := dg_in hx _ e2
    rw [e]; omega
  obtain ⟨s1, s2⟩ := At_sp h hne
  have s3 : spn (isDi (fun i => t.getD i 0)) t.length (p + 1) = p + 1 + (dg x).length := At_word (q := fun c => decide (48 ≤ c ∧ c ≤ 57)) s2 (qDi t) (fun c hc => decide_eq_true (dg_in hx c hc)) (Fol_q (q := fun c => decide (48 ≤ c ∧ c ≤ 57)) hr (by decide) (by decide))
  have hl := At_len s2
  rw [List.length_append] at hl
  have s4 : dvN (fun i => t.getD i 0) (p + 1) (dg x).length = x := dv_dg hx (fun i hi => by
    show t.getD (p + 1 + i) 0 = _
    rw [At_gD s2, gD_app, if_pos hi])
  have s5 : isDi (fun i => t.getD i 0) (p + 1) = true := by
    obtain ⟨_, _, c, _⟩ := spn_spec (f := isDi (fun i => t.getD i 0)) (l := t.length) (p := p + 1) (by omega)
    exact c (p + 1) (Nat.le_refl _) (by omega)
  refine ⟨?_, At_go s2⟩
  have ok : numOK (fun i => t.getD i 0) t.length (p + 1) (nI lo) (nI hi) := by
    refine ⟨⟨by omega, s5, by omega⟩, ?_, ?_⟩
    · rw [s3, show p + 1 + (dg x).length - (p + 1) = (dg x).length by omega, s4]
      exact (nI_leI (by omega) (by omega)).mpr h1
    · rw [s3, show p + 1 + (dg x).length - (p + 1) = (dg x).length by omega, s4]
      exact (nI_leI (by omega) (by omega)).mpr h2
  have hz := (C_readNumber H h.1 (nI lo) (nI hi) st tk hN).1 (by rw [s1]; exact ok)
  rw [hz, s1, s3, show p + 1 + (dg x).length - (p + 1) = (dg x).length by omega, s4]
