/-- a scan, with what is left in the relation -/
theorem scanW {σ β : Type} {q : Nat → Bool} {act : En → Nat → List En × σ → List En × σ} (hact : ActOk q act) (κ : Nat → Nat) (n W : Nat) (R : Nat → List En × σ → (Nat → Int32) → Prop) (M : Nat → Nat → (Nat → Int32) → Option β) (fin : Nat → (Nat → Int32) → Option β)
    (hend : ∀ w g S, w ≤ W → R w S g → M n w g = fin w g)
    (hzero : ∀ i g S, i < n → R 0 S g → M i 0 g = fin 0 g)
    (hmiss : ∀ i w g S, i < n → 0 < w → w ≤ W → Sor S.1 → R w S g → pt S.1 (κ i) = 0 → ∃ g', M i w g = M (i + 1) w g' ∧ R w S g')
    (hhit : ∀ i w g S, i < n → 0 < w → w ≤ W → Sor S.1 → R w S g → ∀ x, x.1 = κ i → x ∈ S.1 → 1 ≤ x.2 → fstE q S.1 = some x → ∃ g', M i w g = M (i + 1) (w - min x.2 w) g' ∧ R (w - min x.2 w) (act x (min x.2 w) (takeE q w S.1, S.2)) g')
    (hR : ∀ w S g, R w S g → ∀ x ∈ S.1, 1 ≤ x.2)
    (hq : ∀ i, i < n → q (κ i) = true) (hmono : ∀ i j, i < j → j < n → κ i < κ j) :
    ∀ (m i r w : Nat) (S : List En × σ) (g : Nat → Int32), i + m = n → w ≤ W → cntE q S.1 ≤ r → Sor S.1 → R w S g → (∀ y ∈ S.1, q y.1 = true → ∃ j, i ≤ j ∧ j < n ∧ y.1 = κ j) → ∃ g', M i w g = fin (itG q act r w S).1 g' ∧ R (itG q act r w S).1 (itG q act r w S).2 g' := by
  intro m
  induction m with
  | zero =>
    intro i r w S g h1 hW h2 h3 h4 h5
    have h6 : fstE q S.1 = none := by
      rw [fstE_none]
      intro y hy
      cases hh : q y.1 with
      | false => rfl
      | true =>
        obtain ⟨j, a, b, _⟩ := h5 y hy hh
        omega
    rw [itG_none q act r w S h6]
    have h7 : i = n := by omega
    rw [h7]
    exact ⟨g, hend w g S hW h4, h4⟩
  | succ m ih =>
    intro i r w S g h1 hW h2 h3 h4 h5
    by_cases hw : w = 0
    · rw [hw] at h4
      rw [hw, itG_zero]
      exact ⟨g, hzero i g S (by omega) h4, h4⟩
    · by_cases hp : pt S.1 (κ i) = 0
      · obtain ⟨g', a, b⟩ := hmiss i w g S (by omega) (by omega) hW h3 h4 hp
        rw [a]
        refine ih (i + 1) r w S g' (by omega) hW h2 h3 b ?_
        intro y hy hyq
        obtain ⟨j, c, d, e⟩ := h5 y hy hyq
        refine ⟨j, ?_, d, e⟩
        by_cases hj : j = i
        · exfalso
          rw [hj] at e
          have h8 := pt_mem h3 hy
          rw [e, hp] at h8
          have := hR w S g h4 y hy
          omega
        · omega
      · obtain ⟨x, hx, hx1, hx2⟩ := pt_pos hp
        have hxq : q x.1 = true := by rw [hx1]; exact hq i (by omega)
        have hpos := hR w S g h4 x hx
        have hf : fstE q S.1 = some x := by
          refine fstE_hit h3 hx hxq (fun y hy hyq => ?_)
          obtain ⟨j, c, d, e⟩ := h5 y hy hyq
          by_cases hj : j = i
          · rw [e, hj, hx1]; exact Nat.le_refl _
          · have := hmono i j (by omega) d
            omega
        obtain ⟨g', a, b⟩ := hhit i w g S (by omega) (by omega) hW h3 h4 x hx1 hx hpos hf
        have hc : cntE q S.1 ≠ 0 := fun hh => by rw [cntE_none.mp hh] at hf; cases hf
        obtain ⟨r', hr⟩ : ∃ r', r = r' + 1 := ⟨r - 1, by omega⟩
        rw [a, hr, itG_some q act r' w S hw hf]
        obtain ⟨a1, a2, a3⟩ := hact x (min x.2 w) (takeE q w S.1, S.2)
        by_cases hle : x.2 ≤ w
        · refine ih (i + 1) r' _ _ g' (by omega) (by omega) ?_ (a1 (takeE_sor h3)) b ?_
          · rw [a2]
            show cntE q (takeE q w S.1) ≤ r'
            rw [cntE_take hf, if_pos hle]; omega
          · intro y hy hyq
            have hy2 : y ∈ takeE q w S.1 := (a3 y hyq).mp hy
            obtain ⟨z, b1, b2, b3, b4⟩ := takeE_mem hy2
            obtain ⟨j, c, d, e⟩ := h5 z b1 (by rw [b2]; exact hyq)
            refine ⟨j, ?_, d, by rw [← b2]; exact e⟩
            by_cases hj : j = i
            · exfalso
              have h9 := takeE_pt (w := w) (j := y.1) h3 hf
              rw [← b2, e, hj, hx1, if_pos rfl] at h9
              have h10 := pt_mem (takeE_sor (q := q) (w := w) h3) hy2
              rw [← b2, e, hj, h9] at h10
              have := b4 (hR w S g h4 z b1)
              omega
            · omega
        · have h11 : w - min x.2 w = 0 := by rw [Nat.min_eq_right (by omega)]; omega
          rw [h11] at b
          rw [h11, itG_zero]
          by_cases hn : i + 1 = n
          · rw [hn]
            exact ⟨g', hend 0 g' _ (Nat.zero_le _) b, b⟩
          · exact ⟨g', hzero (i + 1) g' _ (by omega) b, b⟩
theorem putE_mem_iff {k p : Nat} {y : En} (hy : ¬ y.1 = k) : ∀ {E : List En}, y ∈ putE k p E ↔ y ∈ E
  | [] => by
    rw [putE, List.mem_singleton]
    refine ⟨fun h => absurd (by rw [h]) hy, fun h => by cases h⟩
  | x :: E => by
    rw [putE]
    by_cases h1 : x.1 < k
    · rw [if_pos h1, List.mem_cons, List.mem_cons, putE_mem_iff hy]
    · rw [if_neg h1]
      by_cases h2 : x.1 = k
      · rw [if_pos h2, List.mem_cons, List.mem_cons]
        refine ⟨fun h => h.elim (fun e => absurd (by rw [e]) hy) Or.inr, fun h => h.elim (fun e => absurd (by rw [e, h2]) hy) Or.inr⟩
      · rw [if_neg h2, List.mem_cons]
        exact ⟨fun h => h.elim (fun e => absurd (by rw [e]) hy) id, Or.inr⟩
theorem sumQ_put {q : Nat → Bool} {k p : Nat} (hk : q k = false) : ∀ {E : List En}, sumQ q (putE k p E) = sumQ q E
  | [] => by simp only [putE, sumQ, hk, Bool.false_eq_true, if_false]
  | x :: E => by
    rw [putE]
    by_cases h1 : x.1 < k
    · rw [if_pos h1, sumQ, sumQ, sumQ_put hk]
    · rw [if_neg h1]
      by_cases h2 : x.1 = k
      · rw [if_pos h2, sumQ, sumQ, h2]; simp only [hk, Bool.false_eq_true, if_false]
      · rw [if_neg h2]
        rw [sumQ]; simp only [hk, Bool.false_eq_true, if_false]
/-- the effect of a giving that credits a member: debts first -/
def actC (m2 : Nat) (x : En) (n : Nat) (S : List En × ((Nat → Nat) × Nat)) : List En × ((Nat → Nat) × Nat) := (addE (mkK m2 (kD x.1) 0) (n - min n (S.2.1 m2)) S.1, (updN S.2.1 m2 (S.2.1 m2 - min n (S.2.1 m2)), S.2.2 + min n (S.2.1 m2)))
/-- the question leaves a member's account alone -/
def QOut (q : Nat → Bool) (m2 : Nat) : Prop := ∀ e, e < 16384 → q (mkK m2 e 0) = false
theorem actC_ok {m2 : Nat} {q : Nat → Bool} (hq : QOut q m2) : ActOk q (actC m2) := by
  intro x n S
  have hk := hq (kD x.1) (kD_lt x.1)
  unfold actC addE
  dsimp only
  by_cases hp : n - min n (S.2.1 m2) = 0
  · rw [if_pos hp]; exact ⟨id, rfl, fun y _ => Iff.rfl⟩
  · rw [if_neg hp]
    refine ⟨putE_sor, cntE_put hk, fun y hy => putE_mem_iff (fun hh => ?_)⟩
    rw [hh, hk] at hy; cases hy
theorem actC_sumQ {m2 : Nat} {q : Nat → Bool} (hq : QOut q m2) (x : En) (n : Nat) (S : List En × ((Nat → Nat) × Nat)) : sumQ q (actC m2 x n S).1 = sumQ q S.1 := by
  have hk := hq (kD x.1) (kD_lt x.1)
  unfold actC addE
  dsimp only
  by_cases hp : n - min n (S.2.1 m2) = 0
  · rw [if_pos hp]
  · rw [if_neg hp]; exact sumQ_put hk
theorem takeE_len1 {q : Nat → Bool} {w : Nat} {x : En} : ∀ {E : List En}, fstE q E = some x → x.2 ≤ w → (takeE q w E).length + 1 = E.length
  | [], h, _ => nomatch h
  | z :: E, h, hw => by
    rw [fstE] at h
    rw [takeE]
    cases hq : q z.1 with
    | true =>
      rw [hq, if_pos rfl] at h
      cases h
      rw [if_pos rfl, if_pos hw, List.length_cons]
    | false =>
      rw [hq, if_neg Bool.false_ne_true] at h
      rw [if_neg Bool.false_ne_true, List.length_cons, List.length_cons, takeE_len1 h hw]
/-- one giving with its credit -/
theorem actC_step {v : Nat → Nat} {d m2 w : Nat} {q : Nat → Bool} {S : List En × ((Nat → Nat) × Nat)} (hm3 : m2 < v 3) (hm2 : m2 < 12) (h1 : Sor S.1) (h2 : ∀ x ∈ S.1, VK x.1 ∧ 1 ≤ x.2) (h3 : EV v d S.1) {x : En} (hf : fstE q S.1 = some x) : Sor (actC m2 x (min x.2 w) (takeE q w S.1, S.2)).1 ∧ (∀ y ∈ (actC m2 x (min x.2 w) (takeE q w S.1, S.2)).1, VK y.1 ∧ 1 ≤ y.2) ∧ EV v d (actC m2 x (min x.2 w) (takeE q w S.1, S.2)).1 ∧ sumP (actC m2 x (min x.2 w) (takeE q w S.1, S.2)).1 + (actC m2 x (min x.2 w) (takeE q w S.1, S.2)).2.2 = sumP S.1 + S.2.2 ∧ (actC m2 x (min x.2 w) (takeE q w S.1, S.2)).2.1 m2 + (actC m2 x (min x.2 w) (takeE q w S.1, S.2)).2.2 = S.2.1 m2 + S.2.2 ∧ (∀ j, ¬ j = m2 → (actC m2 x (min x.2 w) (takeE q w S.1, S.2)).2.1 j = S.2.1 j) ∧ (actC m2 x (min x.2 w) (takeE q w S.1, S.2)).1.length ≤ S.1.length + 1 ∧ (x.2 ≤ w → (actC m2 x (min x.2 w) (takeE q w S.1, S.2)).1.length ≤ S.1.length) := by
  have hx := (fstE_some h1 hf).1
  have hxe := (h3 x hx).1
  obtain ⟨k1, k2, k3⟩ := takeE_keep (q := q) (w := w) h2 h3
  have hts := takeE_sum (w := w) hf
  have hsum := addE_sum (k := mkK m2 (kD x.1) 0) (p := min x.2 w - min (min x.2 w) (S.2.1 m2)) (E := takeE q w S.1)
  have hlen := addE_length (k := mkK m2 (kD x.1) 0) (p := min x.2 w - min (min x.2 w) (S.2.1 m2)) (E := takeE q w S.1)
  have htl := takeE_length (q := q) (w := w) (E := S.1)
  have hkd := kD_lt x.1
  unfold actC
  dsimp only
  refine ⟨addE_sor (takeE_sor h1), fun y hy => ?_, EV_add k2 ?_, by omega, ?_, fun j hj => updN_ne _ _ hj, by omega, fun hle => ?_⟩
  · cases addE_mem hy with
    | inl a => exact ⟨by rw [a.1]; exact VK_ac hm2 hkd, a.2⟩
    | inr a => exact k1 y a
  · rw [kD_mk hkd (by omega), kL_mk hkd (by omega), kC_mk (by omega)]
    omega
  · rw [updN_at]; omega
  · have := takeE_len1 hf hle
    omega
/-- what a giving with credits keeps -/
theorem itC_ok {v : Nat → Nat} {d m2 : Nat} {q : Nat → Bool} (hm3 : m2 < v 3) (hm2 : m2 < 12) : ∀ (r w : Nat) (S : List En × ((Nat → Nat) × Nat)), Sor S.1 → (∀ x ∈ S.1, VK x.1 ∧ 1 ≤ x.2) → EV v d S.1 → Sor (itG q (actC m2) r w S).2.1 ∧ (∀ x ∈ (itG q (actC m2) r w S).2.1, VK x.1 ∧ 1 ≤ x.2) ∧ EV v d (itG q (actC m2) r w S).2.1 ∧ sumP (itG q (actC m2) r w S).2.1 + (itG q (actC m2) r w S).2.2.2 = sumP S.1 + S.2.2 ∧ (itG q (actC m2) r w S).2.2.1 m2 + (itG q (actC m2) r w S).2.2.2 = S.2.1 m2 + S.2.2 ∧ (∀ j, ¬ j = m2 → (itG q (actC m2) r w S).2.2.1 j = S.2.1 j) ∧ (itG q (actC m2) r w S).2.1.length ≤ S.1.length + 1 ∧ S.2.2 ≤ (itG q (actC m2) r w S).2.2.2
  | 0, w, S, h1, h2, h3 => ⟨h1, h2, h3, rfl, rfl, fun _ _ => rfl, Nat.le_succ _, Nat.le_refl _⟩
  | r + 1, w, S, h1, h2, h3 => by
    by_cases hw : w = 0
    · rw [hw, itG_zero]; exact ⟨h1, h2, h3, rfl, rfl, fun _ _ => rfl, Nat.le_succ _, Nat.le_refl _⟩
    · cases hf : fstE q S.1 with
      | none => rw [itG_none _ _ _ _ _ hf]; exact ⟨h1, h2, h3, rfl, rfl, fun _ _ => rfl, Nat.le_succ _, Nat.le_refl _⟩
      | some x =>
        rw [itG_some _ _ _ _ _ hw hf]
        obtain ⟨a1, a2, a3, a4, a5, a6, a7, a8⟩ := actC_step (w := w) hm3 hm2 h1 h2 h3 hf
        have hge : S.2.2 ≤ (actC m2 x (min x.2 w) (takeE q w S.1, S.2)).2.2 := Nat.le_add_right _ _
        obtain ⟨b1, b2, b3, b4, b5, b6, b7, b8⟩ := itC_ok (q := q) hm3 hm2 r (w - min x.2 w) _ a1 a2 a3
        refine ⟨b1, b2, b3, by omega, by omega, fun j hj => by rw [b6 j hj, a6 j hj], ?_, by omega⟩
        by_cases hle : x.2 ≤ w
        · have := a8 hle; omega
        · have h5 : w - min x.2 w = 0 := by rw [Nat.min_eq_right (by omega)]; omega
          rw [h5, itG_zero]
          exact a7

