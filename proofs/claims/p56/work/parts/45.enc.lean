/-- a key's list, day and contributor (0 none, m + 1 the member m) -/
def kL (k : Nat) : Nat := k / 262144
def kD (k : Nat) : Nat := k / 16 % 16384
def kC (k : Nat) : Nat := k % 16
def mkK (a e c : Nat) : Nat := a * 262144 + e * 16 + c
theorem kL_mk {a e c : Nat} (he : e < 16384) (hc : c < 16) : kL (mkK a e c) = a := by unfold kL mkK; omega
theorem kD_mk {a e c : Nat} (he : e < 16384) (hc : c < 16) : kD (mkK a e c) = e := by unfold kD mkK; omega
theorem kC_mk {a e c : Nat} (hc : c < 16) : kC (mkK a e c) = c := by unfold kC mkK; omega
theorem mk_k (k : Nat) : mkK (kL k) (kD k) (kC k) = k := by unfold kL kD kC mkK; omega
theorem kD_lt (k : Nat) : kD k < 16384 := by unfold kD; omega
theorem kC_lt (k : Nat) : kC k < 16 := by unfold kC; omega
/-- a contributor as the class has it -/
def cI : Nat → Int32
  | 0 => -1
  | c + 1 => nI c
/-- an entry as the class has it -/
def co (x : En) : Co := (nI (kL x.1), nI (kD x.1), cI (kC x.1), nI x.2)
/-- the keys that there are -/
def VK (k : Nat) : Prop := kL k < 16 ∧ kC k ≤ 12 ∧ (kL k < 12 → kC k = 0) ∧ (12 ≤ kL k → 1 ≤ kC k)
theorem cI_le {b c : Nat} (hb : b < 16) (hc : c < 16) : cI c ≤ cI b ↔ c ≤ b := by
  cases c with
  | zero =>
    cases b with
    | zero => exact ⟨fun _ => Nat.le_refl 0, fun _ => Int32.le_refl _⟩
    | succ b =>
      refine ⟨fun _ => Nat.zero_le _, fun _ => ?_⟩
      show (-1 : Int32) ≤ nI b
      rw [Int32.le_iff_toInt_le, nI_toInt (by omega)]
      have : (-1 : Int32).toInt = -1 := by decide
      omega
  | succ c =>
    cases b with
    | zero =>
      refine ⟨fun h => ?_, fun h => by omega⟩
      have h : nI c ≤ (-1 : Int32) := h
      rw [Int32.le_iff_toInt_le, nI_toInt (by omega)] at h
      have : (-1 : Int32).toInt = -1 := by decide
      omega
    | succ b =>
      show nI c ≤ nI b ↔ _
      rw [nI_leI (by omega) (by omega)]; omega
theorem cI_eq {b c : Nat} (hb : b < 16) (hc : c < 16) : cI c = cI b ↔ c = b := by
  refine ⟨fun h => ?_, fun h => by rw [h]⟩
  have h1 := (cI_le hb hc).mp (by rw [h]; exact Int32.le_refl _)
  have h2 := (cI_le hc hb).mp (by rw [h]; exact Int32.le_refl _)
  omega
theorem befI_E {a e c : Nat} (ha : a < 16) (he : e < 16384) (hc : c < 16) {k : Nat} (hk : VK k) : befI (nI a) (nI e) (cI c) (nI (kL k)) (nI (kD k)) (cI (kC k)) = decide (k < mkK a e c) := by
  have h1 := hk.1
  have h2 := kD_lt k
  have h3 := kC_lt k
  have h4 := mk_k k
  unfold befI
  by_cases b1 : kL k = a
  · rw [if_pos (by rw [b1])]
    by_cases b2 : kD k = e
    · rw [if_pos (by rw [b2])]
      by_cases b3 : c ≤ kC k
      · rw [decide_eq_true ((cI_le h3 hc).mpr b3), decide_eq_false (by unfold mkK at h4 ⊢; omega)]; rfl
      · rw [decide_eq_false (fun hh => b3 ((cI_le h3 hc).mp hh)), decide_eq_true (by unfold mkK at h4 ⊢; omega)]; rfl
    · rw [if_neg (fun hh => b2 ((nI_eq (by omega) (by omega)).mp hh))]
      by_cases b3 : e ≤ kD k
      · rw [decide_eq_true ((nI_leI (by omega) (by omega)).mpr b3), decide_eq_false (by unfold mkK at h4 ⊢; omega)]; rfl
      · rw [decide_eq_false (fun hh => b3 ((nI_leI (by omega) (by omega)).mp hh)), decide_eq_true (by unfold mkK at h4 ⊢; omega)]; rfl
  · rw [if_neg (fun hh => b1 ((nI_eq (by omega) (by omega)).mp hh))]
    by_cases b3 : a ≤ kL k
    · rw [decide_eq_true ((nI_leI (by omega) (by omega)).mpr b3), decide_eq_false (by unfold mkK at h4 ⊢; omega)]; rfl
    · rw [decide_eq_false (fun hh => b3 ((nI_leI (by omega) (by omega)).mp hh)), decide_eq_true (by unfold mkK at h4 ⊢; omega)]; rfl
theorem sameK {a e c : Nat} (ha : a < 16) (he : e < 16384) (hc : c < 16) {k : Nat} (hk : VK k) : (nI (kL k) = nI a ∧ nI (kD k) = nI e ∧ cI (kC k) = cI c) ↔ k = mkK a e c := by
  have h1 := hk.1
  have h2 := kD_lt k
  have h3 := kC_lt k
  have h4 := mk_k k
  rw [nI_eq (by omega) (by omega), nI_eq (by omega) (by omega), cI_eq hc h3]
  refine ⟨fun h => ?_, fun h => ?_⟩
  · rw [← h.1, ← h.2.1, ← h.2.2, h4]
  · rw [h, kL_mk he hc, kD_mk he hc, kC_mk hc]; exact ⟨rfl, rfl, rfl⟩
theorem putL_cons (x1 x2 x3 x4 : Int32) (e : Co) (L : List Co) : putL x1 x2 x3 x4 (e :: L) = if befI x1 x2 x3 e.1 e.2.1 e.2.2.1 = true then e :: putL x1 x2 x3 x4 L else if e.1 = x1 ∧ e.2.1 = x2 ∧ e.2.2.1 = x3 then (e.1, e.2.1, e.2.2.1, e.2.2.2 + x4) :: L else (x1, x2, x3, x4) :: e :: L := by
  unfold putL
  rw [placeL]
  by_cases h : befI x1 x2 x3 e.1 e.2.1 e.2.2.1 = true
  · simp only [h, if_true, List.getElem?_cons_succ]
    cases L[placeL x1 x2 x3 L]? with
    | none => rfl
    | some e' =>
      dsimp only
      by_cases h2 : e'.1 = x1 ∧ e'.2.1 = x2 ∧ e'.2.2.1 = x3
      · rw [if_pos h2, if_pos h2]; rfl
      · rw [if_neg h2, if_neg h2]; rfl
  · simp only [if_neg h, List.getElem?_cons_zero]
    by_cases h2 : e.1 = x1 ∧ e.2.1 = x2 ∧ e.2.2.1 = x3
    · rw [if_pos h2, if_pos h2]; rfl
    · rw [if_neg h2, if_neg h2]; rfl
theorem putL_E {a e c p : Nat} (ha : a < 16) (he : e < 16384) (hc : c < 16) : ∀ {E : List En}, (∀ x ∈ E, VK x.1) → putL (nI a) (nI e) (cI c) (nI p) (E.map co) = (putE (mkK a e c) p E).map co
  | [], _ => by
    show [(nI a, nI e, cI c, nI p)] = [co (mkK a e c, p)]
    unfold co
    rw [kL_mk he hc, kD_mk he hc, kC_mk hc]
  | x :: E, h => by
    have hk := h x List.mem_cons_self
    have ih := putL_E (p := p) ha he hc (fun y hy => h y (List.mem_cons_of_mem _ hy))
    rw [List.map_cons, putL_cons, putE]
    rw [show (co x).1 = nI (kL x.1) from rfl, show (co x).2.1 = nI (kD x.1) from rfl, show (co x).2.2.1 = cI (kC x.1) from rfl, show (co x).2.2.2 = nI x.2 from rfl, befI_E ha he hc hk]
    by_cases h1 : x.1 < mkK a e c
    · rw [if_pos (decide_eq_true h1), if_pos h1, ih]; rfl
    · rw [if_neg (by simpa using h1), if_neg h1]
      by_cases h2 : x.1 = mkK a e c
      · rw [if_pos ((sameK ha he hc hk).mpr h2), if_pos h2, nI_add, h2, List.map_cons]
        unfold co
        rfl
      · rw [if_neg (fun hh => h2 ((sameK ha he hc hk).mp hh)), if_neg h2, List.map_cons, List.map_cons]
        unfold co
        rw [kL_mk he hc, kD_mk he hc, kC_mk hc]
theorem minI_E {p w : Nat} (hp : p < 2 ^ 31) (hw : w < 2 ^ 31) : minI (nI p) (nI w) = nI (min p w) := by
  unfold minI
  by_cases h : p < w
  · rw [if_pos ((nI_ltI hp hw).mpr h), Nat.min_eq_left (by omega)]
  · rw [if_neg (fun hh => h ((nI_ltI hp hw).mp hh)), Nat.min_eq_right (by omega)]
/-- the first that a question names, in both forms -/
theorem first_E {Q : Co → Bool} {q : Nat → Bool} : ∀ {E : List En}, (∀ x ∈ E, Q (co x) = q x.1) → (fstE q E = none ∧ firstN Q (E.map co) = none) ∨ ∃ j x, firstN Q (E.map co) = some j ∧ E[j]? = some x ∧ fstE q E = some x ∧ ∀ w, w < 2 ^ 31 → x.2 < 2 ^ 31 → takeL j (nI w) (E.map co) = (takeE q w E).map co
  | [], _ => Or.inl ⟨rfl, rfl⟩
  | x :: E, h => by
    have h1 := h x List.mem_cons_self
    rw [fstE, List.map_cons, firstN, h1]
    cases hq : q x.1 with
    | true =>
      rw [if_pos rfl, if_pos rfl]
      refine Or.inr ⟨0, x, rfl, rfl, rfl, fun w hw hx => ?_⟩
      unfold takeL
      rw [List.getElem?_cons_zero]
      dsimp only
      rw [show (co x).2.2.2 = nI x.2 from rfl, minI_E hx hw, ← Int32.sub_eq_add_neg, nI_subI (Nat.min_le_left _ _), takeE, hq, if_pos rfl]
      have h5 : nI (x.2 - min x.2 w) = 0 ↔ x.2 - min x.2 w = 0 := by rw [← nI_0, nI_eq (by omega) (by omega)]
      by_cases h2 : x.2 ≤ w
      · rw [if_pos h2, if_pos (h5.mpr (by rw [Nat.min_eq_left h2]; omega))]; rfl
      · rw [if_neg h2, if_neg (fun hh => by have := h5.mp hh; rw [Nat.min_eq_right (by omega)] at this; omega), Nat.min_eq_right (by omega)]; rfl
    | false =>
      rw [if_neg Bool.false_ne_true, if_neg Bool.false_ne_true]
      cases first_E (fun y hy => h y (List.mem_cons_of_mem _ hy)) with
      | inl h2 => exact Or.inl ⟨h2.1, by rw [h2.2]; rfl⟩
      | inr h2 =>
        obtain ⟨j, z, a, b, c, d⟩ := h2
        refine Or.inr ⟨j + 1, z, by rw [a]; rfl, b, c, fun w hw hx => ?_⟩
        have h3 := d w hw hx
        rw [takeE, hq, if_neg Bool.false_ne_true, List.map_cons, ← h3]
        unfold takeL
        rw [List.getElem?_cons_succ]
        cases (List.map co E)[j]? with
        | none => rfl
        | some e =>
          dsimp only
          by_cases h4 : e.2.2.2 + -minI e.2.2.2 (nI w) = 0
          · rw [if_pos h4, if_pos h4]; rfl
          · rw [if_neg h4, if_neg h4]; rfl

