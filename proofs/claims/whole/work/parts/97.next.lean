/-- the lists of a member: its account, and the pool of its household -/
def inS (m ho k : Nat) : Bool := decide (kL k = m) || (decide (¬ ho = 0) && decide (kL k = 11 + ho))
theorem inS_t {m ho k : Nat} : inS m ho k = true ↔ kL k = m ∨ (¬ ho = 0 ∧ kL k = 11 + ho) := by
  unfold inS
  rw [Bool.or_eq_true, Bool.and_eq_true, decide_eq_true_iff, decide_eq_true_iff, decide_eq_true_iff]
/-- the first day of a member's points -/
def dayS (E : List En) (m ho e : Nat) : Prop := (∃ x ∈ E, inS m ho x.1 = true ∧ kD x.1 = e) ∧ ∀ y ∈ E, inS m ho y.1 = true → e ≤ kD y.1
/-- the first of a list, in the class -/
theorem C_firstDay {E : List En} {z : Int32} {gl gd gc gp : Nat → Int32} (H : CoE E z gl gd gc gp) {a : Nat} (ha : a < 16) {N : Nat} (hN : 1024 < N) : (f_X1_first N (nI a) (-2) (-2) 1024 1024 1024 z gl gd gc = some (-1) ∧ ∀ y ∈ E, ¬ kL y.1 = a) ∨ ∃ j e, ¬ nI j = (-1 : Int32) ∧ f_X1_first N (nI a) (-2) (-2) 1024 1024 1024 z gl gd gc = some (nI j) ∧ f_X1_dayOf (nI j) 1024 gd = some (nI e) ∧ (∃ x ∈ E, kL x.1 = a ∧ kD x.1 = e) ∧ ∀ y ∈ E, kL y.1 = a → e ≤ kD y.1 := by
  have hq : ∀ y ∈ E, qK (nI a) (-2) (-2) y.1 = decide (kL y.1 = a) := fun y hy => qK_list ha (H.2.2.1 y hy).1.1
  cases E_first H (nI a) (-2) (-2) hN with
  | inl h =>
    refine Or.inl ⟨h.2, fun y hy hh => ?_⟩
    have h1 := fstE_none.mp h.1 y hy
    rw [hq y hy, decide_eq_true hh] at h1
    cases h1
  | inr h =>
    obtain ⟨j, x, b1, b2, b3, b4, b5, b6, b7, b8, b9, b10, _⟩ := h
    obtain ⟨c1, c2, c3⟩ := fstE_some H.2.1 b5
    rw [hq x b4] at c2
    have c4 := of_decide_eq_true c2
    refine Or.inr ⟨j, kD x.1, b2, b6, ?_, ⟨x, b4, c4, rfl⟩, fun y hy hh => ?_⟩
    · unfold f_X1_dayOf
      rw [X6_at_in gd (show (1024 : Nat) < 2 ^ 31 by decide) b1, b8]; rfl
    · have h5 := c3 y hy (by rw [hq y hy]; exact decide_eq_true hh)
      unfold kD
      unfold kL at hh c4
      omega
theorem C_soonest {E : List En} {z : Int32} {gl gd gc gp hm : Nat → Int32} {m ho : Nat} (H : CoE E z gl gd gc gp) (hm12 : m < 12) (hho : hm m = cI ho) (ho4 : ho ≤ 4) {N : Nat} (hN : 1024 < N) : (f_X0_soonestExpiry N (nI m) 1024 1024 1024 12 z gl gd gc hm = some (-1) ∧ ∀ y ∈ E, ¬ inS m ho y.1 = true) ∨ ∃ e, f_X0_soonestExpiry N (nI m) 1024 1024 1024 12 z gl gd gc hm = some (nI e) ∧ dayS E m ho e := by
  have hpo : f_X0_poolOf (nI m) 12 hm = some (if ho = 0 then -1 else nI (11 + ho)) := by
    unfold f_X0_poolOf
    rw [X6_at_in _ h12 hm12, Option.bind_some, hho, C_poolList ho4]; rfl
  unfold f_X0_soonestExpiry
  rw [hpo]
  have hp : (f_X1_first N (if ho = 0 then -1 else nI (11 + ho)) (-2) (-2) 1024 1024 1024 z gl gd gc = some (-1) ∧ ∀ y ∈ E, ¬ (¬ ho = 0 ∧ kL y.1 = 11 + ho)) ∨ ∃ j e, ¬ nI j = (-1 : Int32) ∧ f_X1_first N (if ho = 0 then -1 else nI (11 + ho)) (-2) (-2) 1024 1024 1024 z gl gd gc = some (nI j) ∧ f_X1_dayOf (nI j) 1024 gd = some (nI e) ∧ ¬ ho = 0 ∧ (∃ x ∈ E, kL x.1 = 11 + ho ∧ kD x.1 = e) ∧ ∀ y ∈ E, kL y.1 = 11 + ho → e ≤ kD y.1 := by
    by_cases h0 : ho = 0
    · rw [if_pos h0]
      refine Or.inl ⟨?_, fun y _ hh => hh.1 h0⟩
      cases E_first H (-1) (-2) (-2) hN with
      | inl h => exact h.2
      | inr h =>
        obtain ⟨j, x, b1, b2, b3, b4, b5, _⟩ := h
        have h6 := (fstE_some H.2.1 b5).2.1
        rw [qK_none (H.2.2.1 x b4).1.1] at h6
        cases h6
    · rw [if_neg h0]
      cases C_firstDay H (a := 11 + ho) (by omega) hN with
      | inl h => exact Or.inl ⟨h.1, fun y hy hh => h.2 y hy hh.2⟩
      | inr h =>
        obtain ⟨j, e, b1, b2, b3, b4, b5⟩ := h
        exact Or.inr ⟨j, e, b1, b2, b3, h0, b4, b5⟩
  cases C_firstDay H (a := m) (by omega) hN with
  | inl h =>
    rw [h.1, Option.bind_some, Option.bind_some]
    cases hp with
    | inl p =>
      rw [p.1, Option.bind_some, if_pos rfl, if_pos rfl]
      exact Or.inl ⟨rfl, fun y hy hh => (inS_t.mp hh).elim (h.2 y hy) (p.2 y hy)⟩
    | inr p =>
      obtain ⟨j, e, p1, p2, p3, p4, ⟨x, p5, p6, p7⟩, p8⟩ := p
      rw [p2, Option.bind_some, if_pos rfl, if_neg p1, p3]
      refine Or.inr ⟨e, rfl, ⟨x, p5, inS_t.mpr (Or.inr ⟨p4, p6⟩), p7⟩, fun y hy hh => ?_⟩
      exact (inS_t.mp hh).elim (fun e => absurd e (h.2 y hy)) (fun e => p8 y hy e.2)
  | inr h =>
    obtain ⟨j1, e1, a1, a2, a3, ⟨x1, a5, a6, a7⟩, a8⟩ := h
    rw [a2, Option.bind_some, Option.bind_some]
    cases hp with
    | inl p =>
      rw [p.1, Option.bind_some, if_neg a1, if_pos rfl, a3]
      refine Or.inr ⟨e1, rfl, ⟨x1, a5, inS_t.mpr (Or.inl a6), a7⟩, fun y hy hh => ?_⟩
      exact (inS_t.mp hh).elim (a8 y hy) (fun e => absurd e (p.2 y hy))
    | inr p =>
      obtain ⟨j, e, p1, p2, p3, p4, ⟨x, p5, p6, p7⟩, p8⟩ := p
      have hk1 := kD_lt x1.1
      have hk2 := kD_lt x.1
      rw [p2, Option.bind_some, if_neg a1, if_neg p1, a3, p3, Option.bind_some, Option.bind_some]
      by_cases h5 : e < e1
      · rw [if_pos ((nI_ltI (by omega) (by omega)).mpr h5)]
        refine Or.inr ⟨e, rfl, ⟨x, p5, inS_t.mpr (Or.inr ⟨p4, p6⟩), p7⟩, fun y hy hh => ?_⟩
        exact (inS_t.mp hh).elim (fun e2 => by have := a8 y hy e2; omega) (fun e2 => p8 y hy e2.2)
      · rw [if_neg (fun hh => h5 ((nI_ltI (by omega) (by omega)).mp hh))]
        refine Or.inr ⟨e1, rfl, ⟨x1, a5, inS_t.mpr (Or.inl a6), a7⟩, fun y hy hh => ?_⟩
        exact (inS_t.mp hh).elim (a8 y hy) (fun e2 => by have := p8 y hy e2.2; omega)
theorem pt_zero {E : List En} {x : En} (hs : Sor E) (hx : x ∈ E) (h1 : 1 ≤ x.2) {k : Nat} (h : pt E k = 0) : ¬ x.1 = k := by
  intro hh
  have := pt_mem hs hx
  rw [hh, h] at this
  omega
/-- is there a point of the member's on a day, in the reference -/
theorem M_isAnyAt {v : Nat → Nat} {d m ho e : Nat} {E : List En} {g : Nat → Int32} (hV : SV v) (H : MC d E g) (hs : Sor E) (hv : ∀ x ∈ E, VK x.1 ∧ 1 ≤ x.2) (hP : sumP E < 2 ^ 31) (hd : d ≤ 9999) (hm : m < 12) (hho : g (30 + m) = cI ho) (ho4 : ho ≤ 4) (h1 : d < e) (h2 : e ≤ d + 1000) {N : Nat} (hN : 2000 < N) : (f_X11_isAnyAt N (nI m) (nI e) 72470 g = some 1 ∧ ∃ x ∈ E, inS m ho x.1 = true ∧ kD x.1 = e) ∨ (f_X11_isAnyAt N (nI m) (nI e) 72470 g = some 0 ∧ ∀ x ∈ E, inS m ho x.1 = true → ¬ kD x.1 = e) := by
  have g1 := grd (i := acI m e) (n := 72470) (by unfold acI; omega) (by decide)
  have g2 := grd (i := 30 + m) (n := 72470) (by omega) (by decide)
  have hpl := pt_le_sum (k := mkK m e 0) (E := E)
  unfold f_X11_isAnyAt
  rw [M_accountAt (by omega), Option.bind_some, if_neg g1, nI_clamp (by unfold acI; omega), H.1 m e hm h1 h2]
  by_cases h3 : pt E (mkK m e 0) = 0
  · have hacc : ∀ x ∈ E, kL x.1 = m → ¬ kD x.1 = e := by
      intro x hx h4 h5
      refine pt_zero hs hx (hv x hx).2 h3 ?_
      rw [← mk_k x.1, h4, h5, (hv x hx).1.2.2.1 (by omega)]
    rw [if_pos ((nI_le0 (by omega)).mpr h3), show (30 : Int32) + nI m = nI (30 + m) from nI_add 30 m, if_neg g2, nI_clamp (by omega), hho, Option.bind_some]
    by_cases h4 : ho = 0
    · refine Or.inr ⟨?_, fun x hx hh => (inS_t.mp hh).elim (hacc x hx) (fun e => absurd h4 e.1)⟩
      obtain ⟨n, hn⟩ : ∃ n, N = n + 1 := ⟨N - 1, by omega⟩
      rw [hn, f_X11_isAnyAt_b28, if_neg (by decide), h4, if_pos (show cI 0 = -1 from rfl)]
    · obtain ⟨q, hq⟩ : ∃ q, ho = q + 1 := ⟨ho - 1, by omega⟩
      subst hq
      have hne : ¬ cI (q + 1) = (-1 : Int32) := fun hx => h4 ((cI_none (by omega)).mp hx)
      have hloop : ∀ (n j : Nat), j ≤ 12 → 12 < n + j → (∀ x ∈ E, kL x.1 = 12 + q → kD x.1 = e → j < kC x.1) → (f_X11_isAnyAt_b28 (nI e) (cI (q + 1)) 72470 g n (nI j) = some 1 ∧ ∃ x ∈ E, inS m (q + 1) x.1 = true ∧ kD x.1 = e) ∨ (f_X11_isAnyAt_b28 (nI e) (cI (q + 1)) 72470 g n (nI j) = some 0 ∧ ∀ x ∈ E, kL x.1 = 12 + q → ¬ kD x.1 = e) := by
        intro n
        induction n with
        | zero => intro j h5 h6; omega
        | succ n ih =>
          intro j h5 h6 h7
          rw [f_X11_isAnyAt_b28]
          by_cases h8 : j = 12
          · rw [if_pos (show (12 : Int32) ≤ nI j by rw [h8]; exact Int32.le_refl _)]
            refine Or.inr ⟨rfl, fun x hx h9 h10 => ?_⟩
            have := h7 x hx h9 h10
            have := (hv x hx).1.2.1
            omega
          · have g3 := grd (i := poI q e j) (n := 72470) (by unfold poI; omega) (by decide)
            have hpl2 := pt_le_sum (k := mkK (12 + q) e (j + 1)) (E := E)
            rw [if_neg (show ¬ (12 : Int32) ≤ nI j from fun hh => by have := (nI_leI (a := 12) (by decide) (by omega)).mp hh; omega), if_neg hne, show cI (q + 1) = nI q from rfl, M_poolAt (by omega), Option.bind_some, if_neg g3, nI_clamp (by unfold poI; omega), H.2 q e j (by omega) h1 h2 (by omega)]
            by_cases h9 : pt E (mkK (12 + q) e (j + 1)) = 0
            · rw [if_pos ((nI_le0 (by omega)).mpr h9), nI_1, Option.bind_some]
              refine ih (j + 1) (by omega) (by omega) (fun x hx h10 h11 => ?_)
              have h12 := h7 x hx h10 h11
              have h13 : ¬ kC x.1 = j + 1 := by
                intro h13
                refine pt_zero hs hx (hv x hx).2 h9 ?_
                rw [← mk_k x.1, h10, h11, h13]
              omega
            · rw [if_neg (fun hh => h9 ((nI_le0 (by omega)).mp hh))]
              obtain ⟨x, x1, x2, x3⟩ := pt_pos h9
              refine Or.inl ⟨rfl, x, x1, inS_t.mpr (Or.inr ⟨by omega, ?_⟩), ?_⟩
              · rw [x2, kL_mk (by omega) (by omega)]; omega
              · rw [x2, kD_mk (by omega) (by omega)]
      cases hloop N 0 (by omega) (by omega) (fun x hx h5 _ => by have := (hv x hx).1.2.2.2 (by omega); omega) with
      | inl h => exact Or.inl h
      | inr h =>
        refine Or.inr ⟨h.1, fun x hx hh => (inS_t.mp hh).elim (hacc x hx) (fun e => h.2 x hx (by omega))⟩
  · rw [if_neg (fun hh => h3 ((nI_le0 (by omega)).mp hh))]
    obtain ⟨x, x1, x2, x3⟩ := pt_pos h3
    exact Or.inl ⟨rfl, x, x1, inS_t.mpr (Or.inl (by rw [x2, kL_mk (by omega) (by omega)])), by rw [x2, kD_mk (by omega) (by omega)]⟩
theorem M_nextExpiry {v : Nat → Nat} {d m ho : Nat} {E : List En} {g : Nat → Int32} (hV : SV v) (H : MC d E g) (hs : Sor E) (hv : ∀ x ∈ E, VK x.1 ∧ 1 ≤ x.2) (hP : sumP E < 2 ^ 31) (hE : EV v d E) (hd : d ≤ 9999) (h0 : g 0 = nI d) (hm : m < 12) (hho : g (30 + m) = cI ho) (ho4 : ho ≤ 4) (t : Int32) {N : Nat} (hN : 2000 < N) : ((∀ y ∈ E, ¬ inS m ho y.1 = true) → f_X11_nextExpiry_b17 N (nI m) 72470 t g N (nI (d + 1)) = some (0, 2)) ∧ ∀ e, dayS E m ho e → f_X11_nextExpiry_b17 N (nI m) 72470 t g N (nI (d + 1)) = some (nI e, t) := by
  have hv5 := hV.2.1.2.1
  have hloop : ∀ (n j : Nat), j ≤ 1000 → 1000 < n + j → (∀ x ∈ E, inS m ho x.1 = true → d + 1 + j ≤ kD x.1) → ((∀ y ∈ E, ¬ inS m ho y.1 = true) → f_X11_nextExpiry_b17 N (nI m) 72470 t g n (nI (d + 1 + j)) = some (0, 2)) ∧ ∀ e, dayS E m ho e → f_X11_nextExpiry_b17 N (nI m) 72470 t g n (nI (d + 1 + j)) = some (nI e, t) := by
    intro n
    induction n with
    | zero => intro j h1 h2; omega
    | succ n ih =>
      intro j h1 h2 h3
      rw [f_X11_nextExpiry_b17, M_last h0 hd, Option.bind_some]
      by_cases h4 : j = 1000
      · rw [if_pos ((nI_ltI (by omega) (by omega)).mpr (by omega))]
        refine ⟨fun _ => rfl, fun e he => ?_⟩
        obtain ⟨⟨x, x1, x2, x3⟩, _⟩ := he
        have := h3 x x1 x2
        have := (hE x x1).1
        omega
      · rw [if_neg (fun hh => by have := (nI_ltI (by omega) (by omega)).mp hh; omega)]
        cases M_isAnyAt hV H hs hv hP hd hm hho ho4 (e := d + 1 + j) (by omega) (by omega) hN with
        | inl h =>
          rw [h.1, Option.bind_some, if_neg (by decide)]
          obtain ⟨x, x1, x2, x3⟩ := h.2
          refine ⟨fun hh => absurd x2 (hh x x1), fun e he => ?_⟩
          have h5 := he.2 x x1 x2
          obtain ⟨⟨y, y1, y2, y3⟩, _⟩ := he
          have h6 := h3 y y1 y2
          rw [show d + 1 + j = e by omega]
        | inr h =>
          rw [h.1, Option.bind_some, if_pos rfl, nI_1, Option.bind_some]
          refine ih (j + 1) (by omega) (by omega) (fun x hx hh => ?_)
          have h5 := h3 x hx hh
          have h6 := h.2 x hx hh
          omega
  exact hloop N 0 (by omega) (by omega) (fun x hx _ => by have := (hE x hx).1; omega)

