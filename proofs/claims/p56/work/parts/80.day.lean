/-- what a list loses up to a day -/
def lossN (E : List En) (t a : Nat) : Nat := sumQ (fun k => decide (kL k = a) && !decide (t < kD k)) E
/-- the log's entries of the losses -/
def expL (E : List En) (t : Nat) (Lg : List Co) : Nat → List Co
  | 0 => Lg
  | a + 1 => if lossN E t a = 0 then expL E t Lg a else logAdd (if a < 12 then (4, nI t, nI a, nI (lossN E t a)) else (5, nI t, nI (a - 12), nI (lossN E t a))) (expL E t Lg a)
theorem sumI_N {ls : Nat → Int32} {f : Nat → Nat} {n : Nat} (h : ∀ a, a < n → ls a = nI (f a)) : ∀ (k i : Nat), i + k ≤ n → nI (sumN f i) + sumI ls i k = nI (sumN f (i + k))
  | 0, i, _ => by rw [sumI, Int32.add_zero]; rfl
  | k + 1, i, hk => by
    have ih := sumI_N h k (i + 1) (by omega)
    rw [sumN] at ih
    rw [sumI, h i (by omega), ← Int32.add_assoc, nI_add, ih, show i + 1 + k = i + (k + 1) by omega]
theorem h16 : (16 : Nat) < 2 ^ 31 := by decide
theorem lossN_le {E : List En} {t a : Nat} : lossN E t a ≤ sumP E := sumQ_le
/-- the class's loop over the losses -/
theorem C_exp_loop {E : List En} {t : Nat} {Lg : List Co} {N : Nat} (hN : 20 < N) (hs : sumP E < 2 ^ 31) (z : Int32) (gl gd gc gp tt ls : Nat → Int32) (hls : ∀ a, a < 16 → ls a = nI (lossN E t a)) : ∀ (n a : Nat) (nx sz : Int32) (dp : Nat → Int32), a ≤ 16 → 16 < n + a → LogC (expL E t Lg a) nx sz dp → ∃ lo : Int32 × Int32 × (Nat → Int32), f_X0_expire_b25 N 120 5 16 (nI t) z gl gd gc gp tt ls n (nI a) nx sz dp = some (nI (sumN (lossN E t) 16), z, gl, gd, gc, gp, lo.1, lo.2.1, lo.2.2, upd tt 2 (tt 2 + nI (sumN (lossN E t) 16)), ls) ∧ LogC (expL E t Lg 16) lo.1 lo.2.1 lo.2.2 := by
  intro n
  induction n with
  | zero => intro a nx sz dp h1 h2; omega
  | succ n ih =>
    intro a nx sz dp h1 h2 HL
    rw [f_X0_expire_b25]
    by_cases h : a = 16
    · subst h
      have hsum := sumI_N hls 16 0 (by omega)
      rw [if_pos (show (16 : Int32) ≤ nI 16 from Int32.le_refl _), show (0 : Int32) = nI 0 from rfl, X6_sumFrom_in ls h16 (by omega) (by omega), Option.bind_some, show (2 : Int32) = nI 2 from rfl, X6_increase_in tt _ h5' (by omega), Option.bind_some]
      have h2 : sumI ls 0 (16 - 0) = nI (sumN (lossN E t) 16) := by
        have h3 : nI (sumN (lossN E t) 0) + sumI ls 0 16 = nI (sumN (lossN E t) (0 + 16)) := hsum
        rw [sumN, nI_0, Int32.zero_add, Nat.zero_add] at h3
        exact h3
      rw [h2]
      exact ⟨(nx, sz, dp), rfl, HL⟩
    · have hle := lossN_le (E := E) (t := t) (a := a)
      have hE : expL E t Lg (a + 1) = if lossN E t a = 0 then expL E t Lg a else logAdd (if a < 12 then (4, nI t, nI a, nI (lossN E t a)) else (5, nI t, nI (a - 12), nI (lossN E t a))) (expL E t Lg a) := rfl
      rw [if_neg (fun hh => by rw [show (16 : Int32) = nI 16 from rfl, nI_leI (by decide) (by omega)] at hh; omega), X6_at_in ls h16 (by omega), Option.bind_some, hls a (by omega)]
      unfold f_X0_expire_b67
      by_cases h0 : lossN E t a = 0
      · rw [if_pos h0] at hE
        rw [h0, nI_0, if_pos (Int32.le_refl 0), if_pos (Int32.le_refl 0), nI_1, Option.bind_some]
        exact ih (a + 1) nx sz dp (by omega) (by omega) (by rw [hE]; exact HL)
      · rw [if_neg h0] at hE
        have h0' : ¬ nI (lossN E t a) ≤ 0 := fun hh => h0 ((nI_le0 (by omega)).mp hh)
        rw [if_neg h0']
        by_cases h12' : a < 12
        · rw [if_pos h12'] at hE
          rw [if_neg (fun hh => by rw [show (12 : Int32) = nI 12 from rfl, nI_leI (by decide) (by omega)] at hh; omega)]
          obtain ⟨lo, l1, l2⟩ := C_log_add HL 4 (nI t) (nI a) (nI (lossN E t a))
          rw [l1, Option.bind_some, nI_1, Option.bind_some]
          exact ih (a + 1) _ _ _ (by omega) (by omega) (by rw [hE]; exact l2)
        · rw [if_neg h12'] at hE
          rw [if_pos (by rw [show (12 : Int32) = nI 12 from rfl, nI_leI (by decide) (by omega)]; omega), if_neg h0', show nI a - (12 : Int32) = nI (a - 12) from nI_subI (a := a) (b := 12) (by omega)]
          obtain ⟨lo, l1, l2⟩ := C_log_add HL 5 (nI t) (nI (a - 12)) (nI (lossN E t a))
          rw [l1, Option.bind_some, nI_1, Option.bind_some]
          exact ih (a + 1) _ _ _ (by omega) (by omega) (by rw [hE]; exact l2)
/-- the class lets expire -/
theorem C_expire {E : List En} {t : Nat} {Lg : List Co} {z nx sz : Int32} {gl gd gc gp dp tt ls : Nat → Int32} (H : CoE E z gl gd gc gp) (HL : LogC Lg nx sz dp) (ht : t < 2 ^ 20) {N : Nat} (hN : 2000 < N) : ∃ (o : T_CO) (lo : Int32 × Int32 × (Nat → Int32)) (ls' : Nat → Int32), f_X0_expire N 1024 1024 1024 1024 120 5 16 (nI t) z gl gd gc gp nx sz dp tt ls = some (nI (sumN (lossN E t) 16), o.1, o.2.1, o.2.2.1, o.2.2.2.1, o.2.2.2.2, lo.1, lo.2.1, lo.2.2, upd tt 2 (tt 2 + nI (sumN (lossN E t) 16)), ls') ∧ CoE (E.filter (fun x => decide (t < kD x.1))) o.1 o.2.1 o.2.2.1 o.2.2.2.1 o.2.2.2.2 ∧ LogC (expL E t Lg 16) lo.1 lo.2.1 lo.2.2 := by
  have hf := X6_fill_from 0 h16 N 0 ls (by omega) (by omega)
  obtain ⟨o, a1, a2, a3⟩ := E_expire H (d := t) (by omega) (fun j => if 0 ≤ j ∧ j < 16 then (0 : Int32) else ls j) (N := N) (by omega)
  obtain ⟨lo, c1, c2⟩ := C_exp_loop (Lg := Lg) (N := N) (by omega) H.2.2.2 o.1 o.2.1 o.2.2.1 o.2.2.2.1 o.2.2.2.2.1 tt o.2.2.2.2.2 (fun a ha => by
    rw [a3 a, if_pos ⟨Nat.zero_le _, ha⟩, Int32.zero_add]
    rfl) N 0 nx sz dp (by omega) (by omega) HL
  refine ⟨(o.1, o.2.1, o.2.2.1, o.2.2.2.1, o.2.2.2.2.1), lo, o.2.2.2.2.2, ?_, a2, c2⟩
  have hfill : f_X6_fill N 0 16 ls = some (fun j => if 0 ≤ j ∧ j < 16 then (0 : Int32) else ls j) := by
    unfold f_X6_fill
    exact hf
  unfold f_X0_expire
  rw [hfill, Option.bind_some, a1, Option.bind_some]
  exact c1
theorem sumQ_add {q q' p : Nat → Bool} : ∀ {E : List En}, (∀ x ∈ E, p x.1 = (q x.1 || q' x.1)) → (∀ x ∈ E, q x.1 = true → q' x.1 = false) → sumQ p E = sumQ q E + sumQ q' E
  | [], _, _ => rfl
  | x :: E, h1, h2 => by
    have ih := sumQ_add (E := E) (fun y hy => h1 y (List.mem_cons_of_mem _ hy)) (fun y hy => h2 y (List.mem_cons_of_mem _ hy))
    have a := h1 x List.mem_cons_self
    have b := h2 x List.mem_cons_self
    rw [sumQ, sumQ, sumQ, a, ih]
    cases hq : q x.1 with
    | true => rw [b hq]; simp only [Bool.or_false, if_true, Bool.false_eq_true, if_false]; omega
    | false =>
      cases hq' : q' x.1 with
      | true => simp only [Bool.or_true, if_true, Bool.false_eq_true, if_false]; omega
      | false => simp only [Bool.or_false, Bool.false_eq_true, if_false]
theorem sumN_loss {E : List En} {t : Nat} : ∀ n, sumN (lossN E t) n = sumQ (fun k => decide (kL k < n) && !decide (t < kD k)) E
  | 0 => by
    rw [sumN, sumQ_zero]
    intro x _
    rw [decide_eq_false (Nat.not_lt_zero _), Bool.false_and]
  | n + 1 => by
    rw [sumN, sumN_loss n]
    unfold lossN
    rw [← sumQ_add]
    · intro x _
      cases ht : decide (t < kD x.1) with
      | true => simp only [Bool.not_true, Bool.and_false, Bool.or_false]
      | false =>
        simp only [Bool.not_false, Bool.and_true]
        by_cases h : kL x.1 < n
        · rw [decide_eq_true h, decide_eq_true (show kL x.1 < n + 1 by omega), Bool.true_or]
        · rw [decide_eq_false h, Bool.false_or]
          by_cases h2 : kL x.1 = n
          · rw [decide_eq_true h2, decide_eq_true (show kL x.1 < n + 1 by omega)]
          · rw [decide_eq_false h2, decide_eq_false (show ¬ kL x.1 < n + 1 by omega)]
    · intro x _ h
      rw [Bool.and_eq_true] at h
      have := of_decide_eq_true h.1
      rw [decide_eq_false (show ¬ kL x.1 = n by omega), Bool.false_and]
theorem sumQ_filter {f : Nat → Bool} : ∀ {E : List En}, sumP (E.filter (fun x => f x.1)) + sumQ (fun k => !f k) E = sumP E
  | [] => rfl
  | x :: E => by
    have ih := sumQ_filter (f := f) (E := E)
    rw [sumQ, sumP]
    cases h : f x.1 with
    | true => rw [List.filter_cons_of_pos (p := fun x : En => f x.1) h, sumP]; simp only [Bool.not_true, Bool.false_eq_true, if_false]; omega
    | false => rw [List.filter_cons_of_neg (p := fun x : En => f x.1) (by rw [h]; exact Bool.false_ne_true)]; simp only [Bool.not_false, if_true]; omega
theorem loss_all {E : List En} {t : Nat} (hv : ∀ x ∈ E, VK x.1 ∧ 1 ≤ x.2) : sumP (E.filter (fun x => decide (t < kD x.1))) + sumN (lossN E t) 16 = sumP E := by
  rw [sumN_loss, ← sumQ_filter (f := fun k => decide (t < kD k)) (E := E)]
  congr 1
  refine sumQ_congr (fun x hx => ?_)
  rw [decide_eq_true (hv x hx).1.1, Bool.true_and]
/-- an account's loss of a day is a cell's -/
theorem loss_ac {v : Nat → Nat} {d m : Nat} {E : List En} (hs : Sor E) (hv : ∀ x ∈ E, VK x.1 ∧ 1 ≤ x.2) (hE : EV v d E) (hd : d ≤ 9999) (hm : m < 12) : lossN E (d + 1) m = pt E (mkK m (d + 1) 0) := by
  unfold lossN
  have h := sumQ_or (q := fun _ => false) (q' := fun k => decide (kL k = m) && !decide (d + 1 < kD k)) (k := mkK m (d + 1) 0) rfl hs (fun x hx => by
    have h1 := (hE x hx).1
    rw [Bool.false_or]
    by_cases h2 : kL x.1 = m
    · have h3 := (hv x hx).1.2.2.1 (by omega)
      rw [decide_eq_true h2, Bool.true_and]
      have h4 : (x.1 = mkK m (d + 1) 0) ↔ kD x.1 = d + 1 := by
        refine ⟨fun hh => by rw [hh, kD_mk (by omega) (by omega)], fun hh => ?_⟩
        rw [← mk_k x.1, h2, h3, hh]
      by_cases h5 : kD x.1 = d + 1
      · rw [decide_eq_true (h4.mpr h5), decide_eq_false (show ¬ d + 1 < kD x.1 by omega)]; rfl
      · rw [decide_eq_false (fun hh => h5 (h4.mp hh)), decide_eq_true (show d + 1 < kD x.1 by omega)]; rfl
    · rw [decide_eq_false h2, Bool.false_and, decide_eq_false (fun hh => h2 (by rw [hh, kL_mk (by omega) (by omega)]))])
  rw [h, sumQ_zero (fun _ _ => rfl), Nat.zero_add]
/-- a pool's loss of a day, up to a member -/
def lossP (E : List En) (d h : Nat) : Nat → Nat
  | 0 => 0
  | c + 1 => lossP E d h c + pt E (mkK (12 + h) (d + 1) (c + 1))
theorem loss_po {v : Nat → Nat} {d h : Nat} {E : List En} (hs : Sor E) (hv : ∀ x ∈ E, VK x.1 ∧ 1 ≤ x.2) (hE : EV v d E) (hd : d ≤ 9999) (hh : h < 4) (hv3 : v 3 ≤ 12) : lossN E (d + 1) (12 + h) = lossP E d h (v 3) := by
  have hst : ∀ c, c ≤ 12 → lossP E d h c = sumQ (fun k => decide (kL k = 12 + h) && (!decide (d + 1 < kD k) && decide (kC k < c + 1))) E := by
    intro c
    induction c with
    | zero =>
      intro _
      rw [lossP, sumQ_zero]
      intro x hx
      by_cases h2 : kL x.1 = 12 + h
      · have := (hv x hx).1.2.2.2 (by omega)
        rw [decide_eq_false (show ¬ kC x.1 < 0 + 1 by omega), Bool.and_false, Bool.and_false]
      · rw [decide_eq_false h2, Bool.false_and]
    | succ c ih =>
      intro hc
      rw [lossP, ih (by omega), ← sumQ_or ?_ hs ?_]
      · rw [kD_mk (by omega) (by omega), kC_mk (by omega), decide_eq_false (show ¬ c + 1 < c + 1 by omega), Bool.and_false, Bool.and_false]
      · intro x hx
        have h1 := (hE x hx).1
        by_cases h2 : kL x.1 = 12 + h
        · have h4 : (x.1 = mkK (12 + h) (d + 1) (c + 1)) ↔ (kD x.1 = d + 1 ∧ kC x.1 = c + 1) := by
            refine ⟨fun hh => by rw [hh, kD_mk (by omega) (by omega), kC_mk (by omega)]; exact ⟨rfl, rfl⟩, fun hh => ?_⟩
            rw [← mk_k x.1, h2, hh.1, hh.2]
          rw [decide_eq_true h2, Bool.true_and, Bool.true_and]
          by_cases h5 : kD x.1 = d + 1
          · rw [decide_eq_false (show ¬ d + 1 < kD x.1 by omega)]
            simp only [Bool.not_false, Bool.true_and]
            by_cases h6 : kC x.1 = c + 1
            · rw [decide_eq_true (h4.mpr ⟨h5, h6⟩), decide_eq_true (show kC x.1 < c + 1 + 1 by omega), Bool.or_true]
            · rw [decide_eq_false (fun hh => h6 (h4.mp hh).2), Bool.or_false]
              by_cases h7 : kC x.1 < c + 1
              · rw [decide_eq_true h7, decide_eq_true (show kC x.1 < c + 1 + 1 by omega)]
              · rw [decide_eq_false h7, decide_eq_false (show ¬ kC x.1 < c + 1 + 1 by omega)]
          · rw [decide_eq_true (show d + 1 < kD x.1 by omega), decide_eq_false (fun hh => h5 (h4.mp hh).1)]; rfl
        · rw [decide_eq_false h2, Bool.false_and, Bool.false_and, decide_eq_false (fun hh => h2 (by rw [hh, kL_mk (by omega) (by omega)]))]; rfl
  rw [hst (v 3) hv3]
  unfold lossN
  refine sumQ_congr (fun x hx => ?_)
  by_cases h2 : kL x.1 = 12 + h
  · have h3 := (hE x hx).2.2 (by omega)
    have h4 := (hv x hx).1.2.2.2 (by omega)
    rw [decide_eq_true (show kC x.1 < v 3 + 1 by omega), Bool.and_true]
  · rw [decide_eq_false h2, Bool.false_and, Bool.false_and]

