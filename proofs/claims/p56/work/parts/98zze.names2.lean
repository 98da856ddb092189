/-! the law's text, read: what is known of the draft on the way -/
def LL (pf c : Nat → Nat) (L : List (List Nat)) : Prop := ∀ u, u ∈ L → (∃ i, i < c 0 ∧ u = [116, 97 + i]) ∨ (∃ i, i < c 1 ∧ u = [99, 97 + i]) ∨ ∃ i, i < c 3 ∧ u = [109, nameN pf i]
theorem wd2 {a b : Nat} (h1 : 97 ≤ a ∧ a ≤ 122) (h2 : 97 ≤ b ∧ b ≤ 122) : Wd [a, b] := ⟨fun c hc => by
  simp only [List.mem_cons, List.not_mem_nil, or_false] at hc
  rcases hc with h | h <;> (rw [h]; assumption), by simp, by simp⟩
theorem LL_wd {pf c : Nat → Nat} {L : List (List Nat)} (h : LL pf c L) (h0 : c 0 ≤ 4) (h1 : c 1 ≤ 3) : ∀ u, u ∈ L → Wd u := by
  intro u hu
  rcases h u hu with ⟨i, a, b⟩ | ⟨i, a, b⟩ | ⟨i, a, b⟩
  · rw [b]; exact wd2 (by omega) (by omega)
  · rw [b]; exact wd2 (by omega) (by omega)
  · rw [b]; exact wd2 (by omega) (b_name i)
theorem LL_t {pf c : Nat → Nat} {L : List (List Nat)} (h : LL pf c L) : ∀ u, u ∈ L → ∃ i, i < 6 ∧ ¬ ([116, 97 + c 0] : List Nat).getD i 0 = u.getD i 0 := by
  intro u hu
  rcases h u hu with ⟨i, a, b⟩ | ⟨i, a, b⟩ | ⟨i, a, b⟩
  · exact ⟨1, by decide, by rw [b]; show ¬ 97 + c 0 = 97 + i; omega⟩
  · exact ⟨0, by decide, by rw [b]; show ¬ 116 = 99; decide⟩
  · exact ⟨0, by decide, by rw [b]; show ¬ 116 = 109; decide⟩
theorem LL_c {pf c : Nat → Nat} {L : List (List Nat)} (h : LL pf c L) : ∀ u, u ∈ L → ∃ i, i < 6 ∧ ¬ ([99, 97 + c 1] : List Nat).getD i 0 = u.getD i 0 := by
  intro u hu
  rcases h u hu with ⟨i, a, b⟩ | ⟨i, a, b⟩ | ⟨i, a, b⟩
  · exact ⟨0, by decide, by rw [b]; show ¬ 99 = 116; decide⟩
  · exact ⟨1, by decide, by rw [b]; show ¬ 97 + c 1 = 97 + i; omega⟩
  · exact ⟨0, by decide, by rw [b]; show ¬ 99 = 109; decide⟩
theorem LL_m {pf c : Nat → Nat} {L : List (List Nat)} (h : LL pf c L) (h3 : c 3 < 4) : ∀ u, u ∈ L → ∃ i, i < 6 ∧ ¬ ([109, nameN pf (c 3)] : List Nat).getD i 0 = u.getD i 0 := by
  intro u hu
  rcases h u hu with ⟨i, a, b⟩ | ⟨i, a, b⟩ | ⟨i, a, b⟩
  · exact ⟨0, by decide, by rw [b]; show ¬ 109 = 116; decide⟩
  · exact ⟨0, by decide, by rw [b]; show ¬ 109 = 99; decide⟩
  · exact ⟨1, by decide, by rw [b]; show ¬ nameN pf (c 3) = nameN pf i; unfold nameN; omega⟩
theorem LL_h {pf c : Nat → Nat} {L : List (List Nat)} (h : LL pf c L) : ∀ u, u ∈ L → ∃ i, i < 6 ∧ ¬ ([104] : List Nat).getD i 0 = u.getD i 0 := by
  intro u hu
  rcases h u hu with ⟨i, a, b⟩ | ⟨i, a, b⟩ | ⟨i, a, b⟩
  · exact ⟨0, by decide, by rw [b]; show ¬ 104 = 116; decide⟩
  · exact ⟨0, by decide, by rw [b]; show ¬ 104 = 99; decide⟩
  · exact ⟨0, by decide, by rw [b]; show ¬ 104 = 109; decide⟩
theorem inc_at {c : Nat → Nat} {k : Nat} : inc c k k = c k + 1 := if_pos rfl
theorem inc_ne {c : Nat → Nat} {k i : Nat} (h : ¬ i = k) : inc c k i = c i := if_neg h
theorem inc_le {c : Nat → Nat} {k i : Nat} : c i ≤ inc c k i := by
  unfold inc
  by_cases e : i = k
  · rw [if_pos e, e]; omega
  · rw [if_neg e]; omega
theorem LL_inc {pf c : Nat → Nat} {L : List (List Nat)} (h : LL pf c L) (k : Nat) {w : List Nat} (hw : (∃ i, i < inc c k 0 ∧ w = [116, 97 + i]) ∨ (∃ i, i < inc c k 1 ∧ w = [99, 97 + i]) ∨ ∃ i, i < inc c k 3 ∧ w = [109, nameN pf i]) : LL pf (inc c k) (w :: L) := by
  intro u hu
  rcases List.mem_cons.mp hu with e | e
  · rw [e]; exact hw
  · rcases h u e with ⟨i, a, b⟩ | ⟨i, a, b⟩ | ⟨i, a, b⟩
    · exact Or.inl ⟨i, Nat.lt_of_lt_of_le a inc_le, b⟩
    · exact Or.inr (Or.inl ⟨i, Nat.lt_of_lt_of_le a inc_le, b⟩)
    · exact Or.inr (Or.inr ⟨i, Nat.lt_of_lt_of_le a inc_le, b⟩)
def SS (pf c : Nat → Nat) (L : List (List Nat)) (cs nm th : Nat → Int32) : Prop := DD c L cs nm ∧ LL pf c L ∧ (1 ≤ c 1 → nm (12 * 1 + 0) = nI (cw [99, 97])) ∧ (1 ≤ c 0 → th (c 0 - 1) = nI ((c 0 - 1) * stepN pf)) ∧ c 0 ≤ 4 ∧ c 1 ≤ 3 ∧ c 3 ≤ 4
theorem SS_tier {pf c : Nat → Nat} {L : List (List Nat)} {cs nm th : Nat → Int32} (H : SS pf c L cs nm th) (h : c 0 < 4) : SS pf (inc c 0) ([116, 97 + c 0] :: L) (upd cs 0 (nI (c 0 + 1))) (upd nm (12 * 0 + c 0) (nI (cw [116, 97 + c 0]))) (upd th (c 0) (nI (c 0 * stepN pf))) := by
  obtain ⟨a1, a2, a3, a4, a5, a6, a7⟩ := H
  refine ⟨DD_1 a1 0 _ _, LL_inc a2 0 (Or.inl ⟨c 0, by rw [inc_at]; omega, rfl⟩), fun h1 => ?_, fun _ => ?_, by rw [inc_at]; omega, by rw [inc_ne (by decide)]; exact a6, by rw [inc_ne (by decide)]; exact a7⟩
  · rw [inc_ne (by decide)] at h1
    rw [upd_ne _ _ (by omega)]; exact a3 h1
  · rw [inc_at, Nat.add_sub_cancel, upd_at]
theorem SS_cat {pf c : Nat → Nat} {L : List (List Nat)} {cs nm th : Nat → Int32} (H : SS pf c L cs nm th) (h : c 1 < 3) : SS pf (inc c 1) ([99, 97 + c 1] :: L) (upd cs 1 (nI (c 1 + 1))) (upd nm (12 * 1 + c 1) (nI (cw [99, 97 + c 1]))) th := by
  obtain ⟨a1, a2, a3, a4, a5, a6, a7⟩ := H
  refine ⟨DD_1 a1 1 _ _, LL_inc a2 1 (Or.inr (Or.inl ⟨c 1, by rw [inc_at]; omega, rfl⟩)), fun h1 => ?_, fun h1 => ?_, by rw [inc_ne (by decide)]; exact a5, by rw [inc_at]; omega, by rw [inc_ne (by decide)]; exact a7⟩
  · by_cases e : c 1 = 0
    · rw [e, upd_at]
    · rw [upd_ne _ _ (by omega)]; exact a3 (by omega)
  · rw [inc_ne (by decide)] at h1 ⊢
    exact a4 h1
theorem SS_mem {pf c : Nat → Nat} {L : List (List Nat)} {cs nm th : Nat → Int32} (H : SS pf c L cs nm th) (h : c 3 < 4) : SS pf (inc c 3) ([109, nameN pf (c 3)] :: L) (upd cs 3 (nI (c 3 + 1))) (upd nm (12 * 3 + c 3) (nI (cw [109, nameN pf (c 3)]))) th := by
  obtain ⟨a1, a2, a3, a4, a5, a6, a7⟩ := H
  refine ⟨DD_1 a1 3 _ _, LL_inc a2 3 (Or.inr (Or.inr ⟨c 3, by rw [inc_at]; omega, rfl⟩)), fun h1 => ?_, fun h1 => ?_, by rw [inc_ne (by decide)]; exact a5, by rw [inc_ne (by decide)]; exact a6, by rw [inc_at]; omega⟩
  · rw [inc_ne (by decide)] at h1
    rw [upd_ne _ _ (by omega)]; exact a3 h1
  · rw [inc_ne (by decide)] at h1 ⊢
    exact a4 h1
