theorem sets_len : ∀ (is : List Nat) (w ws : va_W), (sets ws is w).length = ws.length
  | [], w, _ => by cases w <;> rfl
  | _ :: _, [], _ => rfl
  | i :: is, q :: qs, ws => by
    show (sets (ws.set i q) is qs).length = ws.length
    rw [sets_len is qs (ws.set i q), List.length_set]
theorem sets_get : ∀ (is : List Nat) (w ws : va_W), is.length = w.length → (∀ i j q : Nat, is[i]? = some q → is[j]? = some q → i = j) → ∀ (j k : Nat) (q : Nat × va_E), is[j]? = some k → w[j]? = some q → k < ws.length → (sets ws is w)[k]? = some q
  | [], [], ws, _, _, j, k, q, h, _, _ => by simp at h
  | i :: is, q0 :: qs, ws, hl, hn, j, k, q, h1, h2, hk => by
    have hn' : ∀ a b q : Nat, is[a]? = some q → is[b]? = some q → a = b := fun a b q ha hb => by
      have := hn (a + 1) (b + 1) q (by simpa using ha) (by simpa using hb)
      omega
    cases j with
    | zero =>
      simp at h1 h2
      subst h1; subst h2
      by_cases hm : i ∈ is
      · obtain ⟨b, hb⟩ := List.getElem?_of_mem hm
        have := hn 0 (b + 1) i rfl (by simpa using hb)
        omega
      · have key : ∀ (is : List Nat) (w v : va_W), i ∉ is → (sets v is w)[i]? = v[i]? := by
          intro is
          induction is with
          | nil => intro w v _; cases w <;> rfl
          | cons a is ih =>
            intro w v hm
            cases w with
            | nil => rfl
            | cons b w =>
              show (sets (v.set a b) is w)[i]? = v[i]?
              rw [ih w (v.set a b) (fun z => hm (List.mem_cons_of_mem _ z)), List.getElem?_set_ne (fun z => hm (by rw [z]; exact List.mem_cons_self))]
        show (sets (ws.set i q0) is qs)[i]? = some q0
        rw [key is qs (ws.set i q0) hm, List.getElem?_set_self hk]
    | succ j =>
      simp at h1 h2
      exact sets_get is qs (ws.set i q0) (by simpa using hl) hn' j k q h1 h2 (by rw [List.length_set]; exact hk)
/-- a new writing of a world behind a call, for long worlds: place by place -/
theorem sets_eq {ws ws2 w1 : va_W} {isC isR : List Nat} (n : Nat) (hl : ws.length = n) (hl2 : ws2.length = n) (hn : va_nd isC = true) (h1 : isC.map (fun i => ws2[i]?) = w1.map some) (h2 : isR.map (fun i => ws2[i]?) = isR.map (fun i => ws[i]?)) (hc : (List.range n).all (fun i => isC.contains i || isR.contains i) = true) : sets ws isC w1 = ws2 := by
  have hlen : isC.length = w1.length := by
    have := congrArg List.length h1
    simpa using this
  apply List.ext_getElem?
  intro k
  by_cases hk : k < n
  · have hck := List.all_eq_true.mp hc k (List.mem_range.mpr hk)
    by_cases hm : k ∈ isC
    · obtain ⟨j, hj⟩ := List.getElem?_of_mem hm
      obtain ⟨q, g1, g2⟩ := map_at2 h1 hj
      rw [sets_get isC w1 ws hlen (va_nd_inj _ hn) j k q hj g1 (by omega), g2]
    · have hr : k ∈ isR := by
        simp only [Bool.or_eq_true, List.contains_iff_mem] at hck
        rcases hck with h | h
        · exact absurd h hm
        · exact h
      obtain ⟨j, hj⟩ := List.getElem?_of_mem hr
      have e2 : ws2[k]? = ws[k]? := by
        have h3 : (isR.map (fun i => ws2[i]?))[j]? = (isR.map (fun i => ws[i]?))[j]? := by rw [h2]
        rw [List.getElem?_map, List.getElem?_map, hj] at h3
        exact Option.some.inj h3
      rw [e2]
      obtain ⟨q, hq⟩ : ∃ q, (sets ws isC w1)[k]? = some q := by
        have : k < (sets ws isC w1).length := by rw [sets_len]; omega
        exact ⟨_, List.getElem?_eq_getElem this⟩
      rcases sets_at isC w1 ws hlen k q hq with ⟨j, g1, g2⟩ | ⟨g1, g2⟩
      · exact absurd (List.mem_of_getElem? g1) hm
      · rw [hq, g2]
  · rw [List.getElem?_eq_none (by rw [sets_len]; omega), List.getElem?_eq_none (by omega)]

