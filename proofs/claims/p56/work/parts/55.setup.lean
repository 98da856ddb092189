/-- what a setup fixes: the reference's numbers -/
def SV (v : Nat → Nat) : Prop := (1 ≤ v 0 ∧ v 0 ≤ 5 ∧ v 1 ≤ 8 ∧ v 2 ≤ 8 ∧ v 3 ≤ 12 ∧ v 4 ≤ 4) ∧ (1 ≤ v 5 ∧ v 5 ≤ 1000 ∧ 1 ≤ v 6 ∧ v 6 ≤ 1000 ∧ v 7 ≤ 400) ∧ (v 8 = 0 ∧ ∀ t, t < v 0 → v (8 + t) ≤ 1000000 ∧ v (13 + t) ≤ 300) ∧ (∀ t, t + 1 < v 0 → v (8 + t) < v (8 + (t + 1))) ∧ (∀ c, c < v 1 → v (18 + c) ≤ 50 ∧ v (26 + c) ≤ 100000) ∧ (∀ p, p < v 2 → v (34 + p) < v 1 ∧ v (42 + p) ≤ 9999 ∧ v (50 + p) ≤ 9999 ∧ v (58 + p) ≤ 500) ∧ ∀ h, h < v 4 → v (66 + h) ≤ 100
def SM (v : Nat → Nat) (fx : Nat → Int32) : Prop := ∀ i, i < 71 → fx i = nI (v i)
def SC (v : Nat → Nat) (s : T_SE) : Prop := (s.1 = nI (v 5) ∧ s.2.1 = nI (v 6) ∧ s.2.2.1 = nI (v 7)) ∧ (∀ i, i < 5 → s.2.2.2.1 i = nI (v i)) ∧ (∀ t, t < v 0 → s.2.2.2.2.2.1 t = nI (v (8 + t)) ∧ s.2.2.2.2.2.2.1 t = nI (v (13 + t))) ∧ (∀ c, c < v 1 → s.2.2.2.2.2.2.2.1 c = nI (v (18 + c)) ∧ s.2.2.2.2.2.2.2.2.1 c = nI (v (26 + c))) ∧ (∀ p, p < v 2 → s.2.2.2.2.2.2.2.2.2.1 p = nI (v (34 + p)) ∧ s.2.2.2.2.2.2.2.2.2.2.1 p = nI (v (42 + p)) ∧ s.2.2.2.2.2.2.2.2.2.2.2.1 p = nI (v (50 + p)) ∧ s.2.2.2.2.2.2.2.2.2.2.2.2.1 p = nI (v (58 + p))) ∧ ∀ h, h < v 4 → s.2.2.2.2.2.2.2.2.2.2.2.2.2 h = nI (v (66 + h))
/-- the last of the thresholds up to one that a sum reaches -/
def tierT (v : Nat → Nat) (x : Int32) : Nat → Nat
  | 0 => 0
  | k + 1 => if x < nI (v (8 + (k + 1))) then tierT v x k else k + 1
theorem tierT_le {v : Nat → Nat} {x : Int32} : ∀ {k : Nat}, tierT v x k ≤ k
  | 0 => Nat.le_refl 0
  | k + 1 => by
    rw [tierT]
    have := tierT_le (v := v) (x := x) (k := k)
    by_cases h : x < nI (v (8 + (k + 1)))
    · rw [if_pos h]; omega
    · rw [if_neg h]; exact Nat.le_refl _
theorem tierT_eq {v : Nat → Nat} {x : Int32} {t : Nat} (h0 : t = 0 ∨ ¬ x < nI (v (8 + t))) : ∀ {k : Nat}, t ≤ k → (∀ j, t < j → j ≤ k → x < nI (v (8 + j))) → tierT v x k = t
  | 0, h, _ => by rw [tierT]; omega
  | k + 1, h, hj => by
    rw [tierT]
    by_cases h1 : t = k + 1
    · subst h1
      have h2 : ¬ x < nI (v (8 + (k + 1))) := h0.elim (fun a => by omega) id
      rw [if_neg h2]
    · rw [if_pos (hj (k + 1) (by omega) (Nat.le_refl _)), tierT_eq h0 (by omega) (fun j a b => hj j a (by omega))]
theorem h8 : (8 : Nat) < 2 ^ 31 := by decide
theorem C_tier_from {v : Nat → Nat} (x : Int32) {cs th : Nat → Int32} (h0 : cs 0 = nI (v 0)) (hn : v 0 ≤ 5) (ht : ∀ t, t < v 0 → th t = nI (v (8 + t))) : ∀ (n j : Nat), j + 1 ≤ v 0 → v 0 < n + (j + 1) → f_X7_tierFor_b4 x 8 5 cs th n (nI (tierT v x j)) (nI (j + 1)) = some (nI (tierT v x (v 0 - 1))) := by
  intro n
  induction n with
  | zero => intro j h1 h2; omega
  | succ n ih =>
    intro j h1 h2
    rw [f_X7_tierFor_b4, show (0 : Int32) = nI 0 from rfl, X6_at_in cs h8 (by omega), Option.bind_some, h0]
    by_cases h : v 0 = j + 1
    · rw [if_pos (by rw [h]; exact Int32.le_refl _), show v 0 - 1 = j by omega]
    · rw [if_neg (fun hh => by have := (nI_leI (by omega) (by omega)).mp hh; omega), X6_at_in th h5' (by omega), Option.bind_some, ht (j + 1) (by omega)]
      have h3 := ih (j + 1) (by omega) (by omega)
      rw [tierT] at h3
      by_cases h4 : x < nI (v (8 + (j + 1)))
      · rw [if_pos h4] at h3 ⊢
        rw [Option.bind_some, nI_1, h3]
      · rw [if_neg h4] at h3 ⊢
        rw [Option.bind_some, nI_1, h3]
theorem C_tierFor {v : Nat → Nat} (x : Int32) {cs th : Nat → Int32} (h0 : cs 0 = nI (v 0)) (h1 : 1 ≤ v 0) (hn : v 0 ≤ 5) (ht : ∀ t, t < v 0 → th t = nI (v (8 + t))) {N : Nat} (hN : 10 < N) : f_X7_tierFor N x 8 5 cs th = some (nI (tierT v x (v 0 - 1))) := by
  unfold f_X7_tierFor
  exact C_tier_from x h0 hn ht N 0 (by omega) (by omega)
theorem th_mono {v : Nat → Nat} (h : ∀ t, t + 1 < v 0 → v (8 + t) < v (8 + (t + 1))) : ∀ {k a : Nat}, a + k < v 0 → v (8 + a) ≤ v (8 + (a + k))
  | 0, a, _ => Nat.le_refl _
  | k + 1, a, hk => by
    have h1 := th_mono h (k := k) (a := a) (by omega)
    have h2 := h (a + k) (by omega)
    rw [show a + (k + 1) = a + k + 1 by omega]; omega
theorem M_tier_from {v : Nat → Nat} (x : Int32) {fx : Nat → Int32} (hV : SV v) (hM : SM v fx) : ∀ (n t : Nat), t < v 0 → v 0 < n + t + 1 → (t = 0 ∨ ¬ x < nI (v (8 + t))) → f_X11_tierBy_b2 x 71 fx n (nI t) = some (nI (tierT v x (v 0 - 1))) := by
  obtain ⟨⟨a1, a2, _⟩, _, ⟨a3, a4⟩, a5, _⟩ := hV
  intro n
  induction n with
  | zero => intro t h1 h2 _; omega
  | succ n ih =>
    intro t h1 h2 h3
    rw [f_X11_tierBy_b2, if_neg (by decide), show (0 : Int32).toNatClampNeg = 0 from rfl, hM 0 (by omega), nI_1]
    by_cases h : v 0 ≤ t + 1
    · rw [if_pos ((nI_leI (by omega) (by omega)).mpr h), tierT_eq h3 (by omega) (fun j b1 b2 => by omega)]
    · have g1 := grd (i := 8 + t + 1) (n := 71) (by omega) (by decide)
      rw [if_neg (fun hh => h ((nI_leI (by omega) (by omega)).mp hh)), show (8 : Int32) = nI 8 from rfl, nI_add, nI_1, if_neg g1, nI_clamp (by omega), hM (8 + t + 1) (by omega), show 8 + t + 1 = 8 + (t + 1) by omega]
      by_cases h4 : x < nI (v (8 + (t + 1)))
      · rw [if_pos h4, tierT_eq h3 (by omega) (fun j b1 b2 => ?_)]
        have h6 := th_mono a5 (k := j - (t + 1)) (a := t + 1) (by omega)
        rw [show t + 1 + (j - (t + 1)) = j by omega] at h6
        have h7 := (a4 j (by omega)).1
        refine Int32.lt_of_lt_of_le h4 ?_
        rw [nI_leI (by omega) (by omega)]
        exact h6
      · rw [if_neg h4, Option.bind_some, ih (t + 1) (by omega) (by omega) (Or.inr h4)]
theorem M_tierBy {v : Nat → Nat} (x : Int32) {fx : Nat → Int32} (hV : SV v) (hM : SM v fx) {N : Nat} (hN : 10 < N) : f_X11_tierBy N x 71 fx = some (nI (tierT v x (v 0 - 1))) := by
  have := hV.1.2.1
  have := hV.1.1
  unfold f_X11_tierBy
  exact M_tier_from x hV hM N 0 (by omega) (by omega) (Or.inl rfl)
/-- what the promotions add for a category on a day -/
def exP (v : Nat → Nat) (c e : Nat) : Nat → Nat
  | 0 => 0
  | p + 1 => exP v c e p + (if v (34 + p) = c ∧ v (42 + p) ≤ e ∧ e ≤ v (50 + p) then v (58 + p) else 0)
theorem exP_le {v : Nat → Nat} {c e : Nat} : ∀ {n : Nat}, (∀ p, p < n → v (58 + p) ≤ 500) → exP v c e n ≤ 500 * n
  | 0, _ => Nat.le_refl 0
  | n + 1, h => by
    rw [exP]
    have h1 := exP_le (v := v) (c := c) (e := e) (n := n) (fun p hp => h p (by omega))
    have h2 := h n (by omega)
    by_cases h3 : v (34 + n) = c ∧ v (42 + n) ≤ e ∧ e ≤ v (50 + n)
    · rw [if_pos h3]; omega
    · rw [if_neg h3]; omega
theorem C_ex_from {v : Nat → Nat} {c e : Nat} {cs pc pf pl px : Nat → Int32} (hV : SV v) (h2 : cs 2 = nI (v 2)) (hp : ∀ p, p < v 2 → pc p = nI (v (34 + p)) ∧ pf p = nI (v (42 + p)) ∧ pl p = nI (v (50 + p)) ∧ px p = nI (v (58 + p))) (hc : c < 8) (he : e < 2 ^ 20) : ∀ (n j : Nat), j ≤ v 2 → v 2 < n + j → f_X7_extrasOn_b5 (nI c) (nI e) 8 8 8 8 8 cs pc pf pl px n (nI (exP v c e j)) (nI j) = some (nI (exP v c e (v 2))) := by
  have hb := hV.1.2.2.2.1
  have hv := hV.2.2.2.2.2.1
  have hv1 := hV.1.2.2.1
  intro n
  induction n with
  | zero => intro j h1 h2; omega
  | succ n ih =>
    intro j h3 h4
    rw [f_X7_extrasOn_b5, show (2 : Int32) = nI 2 from rfl, X6_at_in cs h8 (by omega), Option.bind_some, h2]
    by_cases h : v 2 = j
    · rw [if_pos (by rw [h]; exact Int32.le_refl _), h]
    · obtain ⟨q1, q2, q3, q4⟩ := hp j (by omega)
      obtain ⟨r1, r2, r3, r4⟩ := hv j (by omega)
      have h5 := ih (j + 1) (by omega) (by omega)
      rw [exP] at h5
      rw [if_neg (fun hh => by have := (nI_leI (by omega) (by omega)).mp hh; omega), X6_at_in pc h8 (by omega), X6_at_in pf h8 (by omega), X6_at_in pl h8 (by omega), X6_at_in px h8 (by omega), q1, q2, q3, q4]
      simp only [Option.bind_some, nI_1, nI_add]
      by_cases b1 : v (34 + j) = c
      · rw [if_pos (by rw [b1])]
        by_cases b2 : e < v (42 + j)
        · rw [if_pos ((nI_ltI (by omega) (by omega)).mpr b2)]
          rw [if_neg (by omega), Nat.add_zero] at h5
          exact h5
        · rw [if_neg (fun hh => b2 ((nI_ltI (by omega) (by omega)).mp hh))]
          by_cases b3 : v (50 + j) < e
          · rw [if_pos ((nI_ltI (by omega) (by omega)).mpr b3)]
            rw [if_neg (by omega), Nat.add_zero] at h5
            exact h5
          · rw [if_neg (fun hh => b3 ((nI_ltI (by omega) (by omega)).mp hh))]
            rw [if_pos (by omega)] at h5
            exact h5
      · rw [if_neg (fun hh => b1 ((nI_eq (by omega) (by omega)).mp hh))]
        rw [if_neg (by omega), Nat.add_zero] at h5
        exact h5
theorem C_extras {v : Nat → Nat} {c e : Nat} {cs pc pf pl px : Nat → Int32} (hV : SV v) (h2 : cs 2 = nI (v 2)) (hp : ∀ p, p < v 2 → pc p = nI (v (34 + p)) ∧ pf p = nI (v (42 + p)) ∧ pl p = nI (v (50 + p)) ∧ px p = nI (v (58 + p))) (hc : c < 8) (he : e < 2 ^ 20) {N : Nat} (hN : 10 < N) : f_X7_extrasOn N (nI c) (nI e) 8 8 8 8 8 cs pc pf pl px = some (nI (exP v c e (v 2))) := by
  have hb := hV.1.2.2.2.1
  unfold f_X7_extrasOn
  exact C_ex_from hV h2 hp hc he N 0 (Nat.zero_le _) (by omega)
theorem M_ex_from {v : Nat → Nat} {c e : Nat} {fx : Nat → Int32} (hV : SV v) (hM : SM v fx) (hc : c < 8) (he : e < 2 ^ 20) : ∀ (n j : Nat), j ≤ v 2 → v 2 < n + j → f_X11_extrasOf_b5 (nI c) (nI e) 71 fx n (nI (exP v c e j)) (nI j) = some (nI (exP v c e (v 2))) := by
  have hb := hV.1.2.2.2.1
  have hv := hV.2.2.2.2.2.1
  have hv1 := hV.1.2.2.1
  intro n
  induction n with
  | zero => intro j h1 h2; omega
  | succ n ih =>
    intro j h3 h4
    rw [f_X11_extrasOf_b5, if_neg (by decide), show (2 : Int32).toNatClampNeg = 2 from rfl, hM 2 (by omega)]
    by_cases h : v 2 = j
    · rw [if_pos (by rw [h]; exact Int32.le_refl _), h]
    · obtain ⟨r1, r2, r3, r4⟩ := hv j (by omega)
      have h5 := ih (j + 1) (by omega) (by omega)
      rw [exP] at h5
      have e1 : (34 : Int32) + nI j = nI (34 + j) := nI_add 34 j
      have e2 : (42 : Int32) + nI j = nI (42 + j) := nI_add 42 j
      have e3 : (50 : Int32) + nI j = nI (50 + j) := nI_add 50 j
      have e4 : (58 : Int32) + nI j = nI (58 + j) := nI_add 58 j
      have g1 := grd (i := 34 + j) (n := 71) (by omega) (by decide)
      have g2 := grd (i := 42 + j) (n := 71) (by omega) (by decide)
      have g3 := grd (i := 50 + j) (n := 71) (by omega) (by decide)
      have g4 := grd (i := 58 + j) (n := 71) (by omega) (by decide)
      rw [if_neg (fun hh => by have := (nI_leI (by omega) (by omega)).mp hh; omega), e1, e2, e3, e4, if_neg g1, if_neg g2, if_neg g3, if_neg g4, nI_clamp (by omega), nI_clamp (by omega), nI_clamp (by omega), nI_clamp (by omega), hM _ (by omega), hM _ (by omega), hM _ (by omega), hM _ (by omega), M_isIn]
      simp only [Option.bind_some, nI_1, Int32.add_zero, nI_add]
      by_cases b1 : v (34 + j) = c
      · rw [if_pos (by rw [b1])]
        by_cases b2 : nI e < nI (v (42 + j)) ∨ nI (v (50 + j)) < nI e
        · have b3 := b2
          rw [nI_ltI (by omega) (by omega), nI_ltI (by omega) (by omega)] at b3
          rw [if_neg (by omega), Nat.add_zero] at h5
          rw [if_pos b2, if_pos rfl]
          exact h5
        · have b3 := b2
          rw [nI_ltI (by omega) (by omega), nI_ltI (by omega) (by omega)] at b3
          rw [if_pos (by omega)] at h5
          rw [if_neg b2, if_neg (by decide)]
          exact h5
      · rw [if_neg (fun hh => b1 ((nI_eq (by omega) (by omega)).mp hh))]
        rw [if_neg (by omega), Nat.add_zero] at h5
        exact h5
theorem M_extras {v : Nat → Nat} {c e : Nat} {fx : Nat → Int32} (hV : SV v) (hM : SM v fx) (hc : c < 8) (he : e < 2 ^ 20) {N : Nat} (hN : 10 < N) : f_X11_extrasOf N (nI c) (nI e) 71 fx = some (nI (exP v c e (v 2))) := by
  have hb := hV.1.2.2.2.1
  unfold f_X11_extrasOf
  exact M_ex_from hV hM hc he N 0 (Nat.zero_le _) (by omega)

