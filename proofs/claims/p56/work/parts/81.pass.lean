/-- the reference's numbers while a day passes: the lists before one have lost, and of that one the members before one -/
def PZ (v : Nat → Nat) (d : Nat) (E : List En) (Lg : List Co) (g0 : Nat → Int32) (a c A : Nat) (g : Nat → Int32) : Prop := (∀ m e, m < 12 → d < e → e ≤ d + 1000 → g (acI m e) = if e = d + 1 ∧ m < a then 0 else nI (pt E (mkK m e 0))) ∧ (∀ h e m, h < 4 → d < e → e ≤ d + 1000 → m < 12 → g (poI h e m) = if e = d + 1 ∧ (12 + h < a ∨ (12 + h = a ∧ m < c)) then 0 else nI (pt E (mkK (12 + h) e (m + 1)))) ∧ (∀ m r, m < 12 → r < 1000 → g (470 + 1000 * m + r) = if r = (d + 1) % 1000 ∧ m < a ∧ m < v 3 then 0 else g0 (470 + 1000 * m + r)) ∧ g 0 = nI (d + 1) ∧ g 5 = g0 5 + nI A ∧ LogM (expL E (d + 1) Lg a) g ∧ ∀ i, i < 350 → ¬ i = 0 → ¬ i = 5 → ¬ i = 2 → g i = g0 i
theorem M_expiresAt {g : Nat → Int32} {i n : Nat} (hi : 12470 ≤ i) (hi2 : i < 72470) (hg : g i = nI n) : f_X11_expiresAt (nI i) 72470 g = some (nI n, upd (upd g i 0) 5 (g 5 + nI n)) := by
  have g1 := grd (i := i) (n := 72470) hi2 (by decide)
  have g2 := grd2 (i := i) (n := 72470) hi2 (by decide)
  have gd5 : ¬ ((5 : Int32) < 0 ∨ 72470 ≤ (5 : Int32).toNatClampNeg) := by decide
  unfold f_X11_expiresAt
  rw [if_neg g1, nI_clamp (by omega), hg, Option.bind_some, if_neg g2, Option.bind_some, if_neg gd5, if_neg gd5, show (5 : Int32).toNatClampNeg = 5 from rfl, Option.bind_some, upd_ne _ _ (show ¬ 5 = i by omega)]
/-- a list without a loss -/
theorem PZ_skip {v : Nat → Nat} {d a A : Nat} {E : List En} {Lg : List Co} {g0 g : Nat → Int32} (H : PZ v d E Lg g0 a 0 A g) (h0 : lossN E (d + 1) a = 0) (hm : ∀ k, kL k = a → pt E k = 0) (ha : a < 12 → ¬ a < v 3) (hd : d ≤ 9999) : PZ v d E Lg g0 (a + 1) 0 A g := by
  obtain ⟨h1, h2, h3, h4, h5, h6, h7⟩ := H
  refine ⟨fun m e b1 b2 b3 => ?_, fun h e m b1 b2 b3 b4 => ?_, fun m r b1 b2 => ?_, h4, h5, ?_, h7⟩
  · rw [h1 m e b1 b2 b3]
    by_cases c1 : e = d + 1 ∧ m < a
    · rw [if_pos c1, if_pos ⟨c1.1, by omega⟩]
    · rw [if_neg c1]
      by_cases c2 : e = d + 1 ∧ m < a + 1
      · rw [if_pos c2, hm _ (by rw [kL_mk (by omega) (by omega)]; omega)]; rfl
      · rw [if_neg c2]
  · rw [h2 h e m b1 b2 b3 b4]
    by_cases c1 : e = d + 1 ∧ (12 + h < a ∨ (12 + h = a ∧ m < 0))
    · rw [if_pos c1, if_pos ⟨c1.1, by omega⟩]
    · rw [if_neg c1]
      by_cases c2 : e = d + 1 ∧ (12 + h < a + 1 ∨ (12 + h = a + 1 ∧ m < 0))
      · rw [if_pos c2, hm _ (by rw [kL_mk (by omega) (by omega)]; omega)]; rfl
      · rw [if_neg c2]
  · rw [h3 m r b1 b2]
    by_cases c1 : r = (d + 1) % 1000 ∧ m < a ∧ m < v 3
    · rw [if_pos c1, if_pos ⟨c1.1, by omega, c1.2.2⟩]
    · rw [if_neg c1, if_neg (fun hh => c1 ⟨hh.1, by
        have := hh.2.1
        have := hh.2.2
        by_cases e : m = a
        · have := ha (by omega); omega
        · omega, hh.2.2⟩)]
  · have : expL E (d + 1) Lg (a + 1) = expL E (d + 1) Lg a := by rw [expL, if_pos h0]
    rw [this]; exact h6
theorem loss_none {v : Nat → Nat} {d a : Nat} {E : List En} (hv : ∀ x ∈ E, VK x.1 ∧ 1 ≤ x.2) (hE : EV v d E) (h : (a < 12 ∧ v 3 ≤ a) ∨ (12 ≤ a ∧ v 4 ≤ a - 12)) : (∀ t, lossN E t a = 0) ∧ ∀ k, kL k = a → pt E k = 0 := by
  have hno : ∀ x ∈ E, ¬ kL x.1 = a := by
    intro x hx hh
    have h1 := (hE x hx).2
    cases h with
    | inl b => have := h1.1 (by omega); omega
    | inr b => have := (h1.2 (by omega)).1; omega
  refine ⟨fun t => ?_, fun k hk => ?_⟩
  · unfold lossN
    exact sumQ_zero (fun x hx => by rw [decide_eq_false (hno x hx), Bool.false_and])
  · exact pt_none (fun y hy hh => hno y hy (by rw [hh]; exact hk))
/-- the accounts lose -/
theorem M_pass_acc {v : Nat → Nat} {d : Nat} {E : List En} {Lg : List Co} {fx g0 : Nat → Int32} (hV : SV v) (hM : SM v fx) (hs : Sor E) (hv : ∀ x ∈ E, VK x.1 ∧ 1 ≤ x.2) (hE : EV v d E) (hsum : sumP E < 2 ^ 31) (hd : d ≤ 9999) (rk bl : Int32) {N : Nat} (hN : 2000 < N) : ∀ (n m : Nat) (g : Nat → Int32), m ≤ v 3 → v 3 < n + m → PZ v d E Lg g0 m 0 (sumN (lossN E (d + 1)) m) g → ∃ g', f_X11_passes_b19 N (nI (d + 1)) 71 72470 rk bl fx n (nI (sumN (lossN E (d + 1)) m)) (nI m) g = f_X11_passes_b87 N (nI (d + 1)) 71 72470 rk bl fx N (nI (sumN (lossN E (d + 1)) (v 3))) (0 : Int32) g' ∧ PZ v d E Lg g0 (v 3) 0 (sumN (lossN E (d + 1)) (v 3)) g' := by
  have hv3 := hV.1.2.2.2.2.1
  have gd3 : ¬ ((3 : Int32) < 0 ∨ 71 ≤ (3 : Int32).toNatClampNeg) := by decide
  intro n
  induction n with
  | zero => intro m g h1 h2; omega
  | succ n ih =>
    intro m g h1 h2 H
    rw [f_X11_passes_b19, if_neg gd3, show (3 : Int32).toNatClampNeg = 3 from rfl, hM 3 (by omega)]
    by_cases h : m = v 3
    · rw [if_pos ((nI_leI (by omega) (by omega)).mpr (by omega)), h]
      rw [h] at H
      exact ⟨g, rfl, H⟩
    · have hlm := loss_ac hs hv hE hd (show m < 12 by omega)
      have hle := lossN_le (E := E) (t := d + 1) (a := m)
      have gb := grd (i := 470 + 1000 * m + (d + 1) % 1000) (n := 72470) (by omega) (by decide)
      obtain ⟨p1, p2, p3, p4, p5, p6, p7⟩ := H
      have hcell : upd g (470 + 1000 * m + (d + 1) % 1000) 0 (acI m (d + 1)) = nI (lossN E (d + 1) m) := by
        rw [upd_ne _ _ (by unfold acI; omega), p1 m (d + 1) (by omega) (by omega) (by omega), if_neg (by omega), hlm]
      have hex := M_expiresAt (i := acI m (d + 1)) (by unfold acI; omega) (by unfold acI; omega) hcell
      have hsn : sumN (lossN E (d + 1)) (m + 1) = sumN (lossN E (d + 1)) m + lossN E (d + 1) m := rfl
      have hac := show 12470 ≤ acI m (d + 1) by unfold acI; omega
      obtain ⟨g2, hg2⟩ : ∃ g2, g2 = upd (upd (upd g (470 + 1000 * m + (d + 1) % 1000) 0) (acI m (d + 1)) 0) 5 (upd g (470 + 1000 * m + (d + 1) % 1000) 0 5 + nI (lossN E (d + 1) m)) := ⟨_, rfl⟩
      rw [← hg2] at hex
      have q1 : ∀ m' e, m' < 12 → d < e → e ≤ d + 1000 → g2 (acI m' e) = if e = d + 1 ∧ m' < m + 1 then 0 else nI (pt E (mkK m' e 0)) := by
        intro m' e b1 b2 b3
        rw [hg2, upd_ne _ _ (by unfold acI; omega)]
        by_cases c1 : e = d + 1 ∧ m' = m
        · rw [c1.1, c1.2, upd_at, if_pos ⟨rfl, by omega⟩]
        · rw [upd_ne _ _ (by unfold acI; omega), upd_ne _ _ (by unfold acI; omega), p1 m' e b1 b2 b3]
          by_cases c2 : e = d + 1 ∧ m' < m
          · rw [if_pos c2, if_pos ⟨c2.1, by omega⟩]
          · rw [if_neg c2, if_neg (by omega)]
      have q2 : ∀ h e m', h < 4 → d < e → e ≤ d + 1000 → m' < 12 → g2 (poI h e m') = if e = d + 1 ∧ (12 + h < m + 1 ∨ (12 + h = m + 1 ∧ m' < 0)) then 0 else nI (pt E (mkK (12 + h) e (m' + 1))) := by
        intro h e m' b1 b2 b3 b4
        rw [hg2, upd_ne _ _ (by unfold poI; omega), upd_ne _ _ (by unfold poI acI; omega), upd_ne _ _ (by unfold poI; omega), p2 h e m' b1 b2 b3 b4, if_neg (by omega), if_neg (by omega)]
      have q3 : ∀ m' r, m' < 12 → r < 1000 → g2 (470 + 1000 * m' + r) = if r = (d + 1) % 1000 ∧ m' < m + 1 ∧ m' < v 3 then 0 else g0 (470 + 1000 * m' + r) := by
        intro m' r b1 b2
        rw [hg2, upd_ne _ _ (by omega), upd_ne _ _ (by omega)]
        by_cases c1 : r = (d + 1) % 1000 ∧ m' = m
        · rw [c1.1, c1.2, upd_at, if_pos ⟨rfl, by omega, by omega⟩]
        · rw [upd_ne _ _ (by omega), p3 m' r b1 b2]
          by_cases c2 : r = (d + 1) % 1000 ∧ m' < m ∧ m' < v 3
          · rw [if_pos c2, if_pos ⟨c2.1, by omega, c2.2.2⟩]
          · rw [if_neg c2, if_neg (by omega)]
      have q4 : g2 0 = nI (d + 1) := by rw [hg2, upd_ne _ _ (by omega), upd_ne _ _ (by omega), upd_ne _ _ (by omega), p4]
      have q5 : g2 5 = g0 5 + nI (sumN (lossN E (d + 1)) (m + 1)) := by rw [hg2, upd_at, upd_ne _ _ (by omega), p5, Int32.add_assoc, nI_add, hsn]
      have q6 : LogM (expL E (d + 1) Lg m) g2 := LogM_same p6 (by rw [hg2, upd_ne _ _ (by omega), upd_ne _ _ (by omega), upd_ne _ _ (by omega)]) (fun i a b => by rw [hg2, upd_ne _ _ (by omega), upd_ne _ _ (by omega), upd_ne _ _ (by omega)])
      have q7 : ∀ i, i < 350 → ¬ i = 0 → ¬ i = 5 → ¬ i = 2 → g2 i = g0 i := by
        intro i b1 b2 b3 b4
        rw [hg2, upd_ne _ _ b3, upd_ne _ _ (by omega), upd_ne _ _ (by omega), p7 i b1 b2 b3 b4]
      rw [if_neg (fun hh => by have := (nI_leI (by omega) (by omega)).mp hh; omega), if_neg (by decide), nI_mod (by omega), show (470 : Int32) = nI 470 from rfl, show (1000 : Int32) = nI 1000 from rfl, nI_mul, nI_add, nI_add, if_neg gb, nI_clamp (by omega), Option.bind_some, M_accountAt (by omega), Option.bind_some, hex, Option.bind_some, nI_add, Option.bind_some, ← hsn]
      by_cases h0 : lossN E (d + 1) m = 0
      · rw [if_pos (by rw [h0]; exact Int32.le_refl 0), nI_1, Option.bind_some]
        refine ih (m + 1) g2 (by omega) (by omega) ⟨q1, q2, q3, q4, q5, ?_, q7⟩
        rw [expL, if_pos h0]; exact q6
      · rw [if_neg (fun hh => h0 ((nI_le0 (by omega)).mp hh))]
        obtain ⟨g3, l1, l2, l3⟩ := M_logs q6 4 (nI m) (nI (lossN E (d + 1) m)) (N := N) (by omega)
        rw [q4] at l2
        dsimp only
        rw [l1, Option.bind_some, nI_1, Option.bind_some]
        refine ih (m + 1) g3 (by omega) (by omega) ⟨fun m' e b1 b2 b3 => by rw [l3 _ (by unfold acI; omega) (by unfold acI; omega)]; exact q1 m' e b1 b2 b3, fun h e m' b1 b2 b3 b4 => by rw [l3 _ (by unfold poI; omega) (by unfold poI; omega)]; exact q2 h e m' b1 b2 b3 b4, fun m' r b1 b2 => by rw [l3 _ (by omega) (by omega)]; exact q3 m' r b1 b2, by rw [l3 0 (by omega) (by omega), q4], by rw [l3 5 (by omega) (by omega), q5], ?_, fun i b1 b2 b3 b4 => by rw [l3 i b4 (by omega)]; exact q7 i b1 b2 b3 b4⟩
        rw [expL, if_neg h0, if_pos (by omega)]; exact l2
/-- a pool loses -/
theorem M_pass_pool {v : Nat → Nat} {d h : Nat} {E : List En} {Lg : List Co} {fx g0 : Nat → Int32} (hV : SV v) (hM : SM v fx) (hs : Sor E) (hv : ∀ x ∈ E, VK x.1 ∧ 1 ≤ x.2) (hE : EV v d E) (hsum : sumP E < 2 ^ 31) (hd : d ≤ 9999) (hh : h < 4) (kk : Int32 → Int32 → (Nat → Int32) → Option (Int32 × Int32 × Int32 × (Nat → Int32))) {N : Nat} (hN : 2000 < N) : ∀ (n c : Nat) (g : Nat → Int32), c ≤ v 3 → v 3 < n + c → PZ v d E Lg g0 (12 + h) c (sumN (lossN E (d + 1)) (12 + h) + lossP E d h c) g → ∃ g', f_X11_passes_b103 N kk (nI (d + 1)) (nI (sumN (lossN E (d + 1)) (12 + h))) (nI h) 71 72470 fx n (nI (lossP E d h c)) (nI c) g = kk (nI (sumN (lossN E (d + 1)) (12 + h + 1))) (nI (h + 1)) g' ∧ PZ v d E Lg g0 (12 + h + 1) 0 (sumN (lossN E (d + 1)) (12 + h + 1)) g' := by
  have hv3 := hV.1.2.2.2.2.1
  have gd3 : ¬ ((3 : Int32) < 0 ∨ 71 ≤ (3 : Int32).toNatClampNeg) := by decide
  have hlp := loss_po hs hv hE hd hh hv3
  have hle := lossN_le (E := E) (t := d + 1) (a := 12 + h)
  have hsn : sumN (lossN E (d + 1)) (12 + h + 1) = sumN (lossN E (d + 1)) (12 + h) + lossN E (d + 1) (12 + h) := rfl
  intro n
  induction n with
  | zero => intro c g h1 h2; omega
  | succ n ih =>
    intro c g h1 h2 H
    rw [f_X11_passes_b103, if_neg gd3, show (3 : Int32).toNatClampNeg = 3 from rfl, hM 3 (by omega)]
    obtain ⟨p1, p2, p3, p4, p5, p6, p7⟩ := H
    by_cases hc : c = v 3
    · subst hc
      rw [← hlp] at p5 ⊢
      rw [← hsn] at p5
      have z1 : ∀ m e, m < 12 → d < e → e ≤ d + 1000 → g (acI m e) = if e = d + 1 ∧ m < 12 + h + 1 then 0 else nI (pt E (mkK m e 0)) := by
        intro m e b1 b2 b3
        rw [p1 m e b1 b2 b3]
        by_cases c1 : e = d + 1
        · rw [if_pos ⟨c1, by omega⟩, if_pos ⟨c1, by omega⟩]
        · rw [if_neg (fun hx => c1 hx.1), if_neg (fun hx => c1 hx.1)]
      have z2 : ∀ h' e m, h' < 4 → d < e → e ≤ d + 1000 → m < 12 → g (poI h' e m) = if e = d + 1 ∧ (12 + h' < 12 + h + 1 ∨ (12 + h' = 12 + h + 1 ∧ m < 0)) then 0 else nI (pt E (mkK (12 + h') e (m + 1))) := by
        intro h' e m b1 b2 b3 b4
        rw [p2 h' e m b1 b2 b3 b4]
        by_cases c1 : e = d + 1 ∧ (12 + h' < 12 + h ∨ (12 + h' = 12 + h ∧ m < v 3))
        · rw [if_pos c1, if_pos ⟨c1.1, by omega⟩]
        · rw [if_neg c1]
          by_cases c2 : e = d + 1 ∧ (12 + h' < 12 + h + 1 ∨ (12 + h' = 12 + h + 1 ∧ m < 0))
          · rw [if_pos c2, pt_none (fun y hy hx => by
              have h5 := (hE y hy).2.2
              rw [hx, kL_mk (by omega) (by omega), kC_mk (by omega)] at h5
              have := h5 (by omega)
              omega)]; rfl
          · rw [if_neg c2]
      have z3 : ∀ m r, m < 12 → r < 1000 → g (470 + 1000 * m + r) = if r = (d + 1) % 1000 ∧ m < 12 + h + 1 ∧ m < v 3 then 0 else g0 (470 + 1000 * m + r) := by
        intro m r b1 b2
        rw [p3 m r b1 b2]
        by_cases c1 : r = (d + 1) % 1000 ∧ m < v 3
        · rw [if_pos ⟨c1.1, by omega, c1.2⟩, if_pos ⟨c1.1, by omega, c1.2⟩]
        · rw [if_neg (fun hx => c1 ⟨hx.1, hx.2.2⟩), if_neg (fun hx => c1 ⟨hx.1, hx.2.2⟩)]
      rw [if_pos ((nI_leI (by omega) (by omega)).mpr (Nat.le_refl _)), nI_add, ← hsn, Option.bind_some]
      by_cases h0 : lossN E (d + 1) (12 + h) = 0
      · rw [if_pos (by rw [h0]; exact Int32.le_refl 0), nI_1, Option.bind_some]
        refine ⟨g, rfl, z1, z2, z3, p4, p5, ?_, p7⟩
        rw [expL, if_pos h0]; exact p6
      · rw [if_neg (fun hx => h0 ((nI_le0 (by omega)).mp hx))]
        obtain ⟨g3, l1, l2, l3⟩ := M_logs p6 5 (nI h) (nI (lossN E (d + 1) (12 + h))) (N := N) (by omega)
        rw [p4] at l2
        rw [l1, Option.bind_some, nI_1, Option.bind_some]
        refine ⟨g3, rfl, fun m' e b1 b2 b3 => by rw [l3 _ (by unfold acI; omega) (by unfold acI; omega)]; exact z1 m' e b1 b2 b3, fun h e m' b1 b2 b3 b4 => by rw [l3 _ (by unfold poI; omega) (by unfold poI; omega)]; exact z2 h e m' b1 b2 b3 b4, fun m' r b1 b2 => by rw [l3 _ (by omega) (by omega)]; exact z3 m' r b1 b2, by rw [l3 0 (by omega) (by omega), p4], by rw [l3 5 (by omega) (by omega), p5], ?_, fun i b1 b2 b3 b4 => by rw [l3 i b4 (by omega)]; exact p7 i b1 b2 b3 b4⟩
        rw [expL, if_neg h0, if_neg (by omega), Nat.add_sub_cancel_left]; exact l2
    · have hcell : g (poI h (d + 1) c) = nI (pt E (mkK (12 + h) (d + 1) (c + 1))) := by
        rw [p2 h (d + 1) c hh (by omega) (by omega) (by omega), if_neg (by omega)]
      have hex := M_expiresAt (i := poI h (d + 1) c) (by unfold poI; omega) (by unfold poI; omega) hcell
      have hls : lossP E d h (c + 1) = lossP E d h c + pt E (mkK (12 + h) (d + 1) (c + 1)) := rfl
      obtain ⟨g2, hg2⟩ : ∃ g2, g2 = upd (upd g (poI h (d + 1) c) 0) 5 (g 5 + nI (pt E (mkK (12 + h) (d + 1) (c + 1)))) := ⟨_, rfl⟩
      rw [← hg2] at hex
      rw [if_neg (fun hx => by have := (nI_leI (by omega) (by omega)).mp hx; omega), M_poolAt (by omega), Option.bind_some, hex, Option.bind_some, nI_add, ← hls, Option.bind_some, nI_1, Option.bind_some]
      refine ih (c + 1) g2 (by omega) (by omega) ⟨fun m e b1 b2 b3 => ?_, fun h' e m b1 b2 b3 b4 => ?_, fun m r b1 b2 => ?_, ?_, ?_, LogM_same p6 (by rw [hg2, upd_ne _ _ (by omega), upd_ne _ _ (by unfold poI; omega)]) (fun i a b => by rw [hg2, upd_ne _ _ (by omega), upd_ne _ _ (by unfold poI; omega)]), fun i b1 b2 b3 b4 => ?_⟩
      · rw [hg2, upd_ne _ _ (by unfold acI; omega), upd_ne _ _ (by unfold acI poI; omega)]
        exact p1 m e b1 b2 b3
      · rw [hg2, upd_ne _ _ (by unfold poI; omega)]
        by_cases c1 : e = d + 1 ∧ h' = h ∧ m = c
        · rw [c1.1, c1.2.1, c1.2.2, upd_at, if_pos ⟨rfl, by omega⟩]
        · rw [upd_ne _ _ (by unfold poI; omega), p2 h' e m b1 b2 b3 b4]
          by_cases c2 : e = d + 1 ∧ (12 + h' < 12 + h ∨ (12 + h' = 12 + h ∧ m < c))
          · rw [if_pos c2, if_pos ⟨c2.1, by omega⟩]
          · rw [if_neg c2, if_neg (by omega)]
      · rw [hg2, upd_ne _ _ (by omega), upd_ne _ _ (by unfold poI; omega)]
        exact p3 m r b1 b2
      · rw [hg2, upd_ne _ _ (by omega), upd_ne _ _ (by unfold poI; omega), p4]
      · rw [hg2, upd_at, p5, Int32.add_assoc, nI_add, hls, Nat.add_assoc]
      · rw [hg2, upd_ne _ _ b3, upd_ne _ _ (by unfold poI; omega)]
        exact p7 i b1 b2 b3 b4
/-- all pools lose -/
theorem M_pass_pools {v : Nat → Nat} {d : Nat} {E : List En} {Lg : List Co} {fx g0 : Nat → Int32} (hV : SV v) (hM : SM v fx) (hs : Sor E) (hv : ∀ x ∈ E, VK x.1 ∧ 1 ≤ x.2) (hE : EV v d E) (hsum : sumP E < 2 ^ 31) (hd : d ≤ 9999) (rk bl : Int32) {N : Nat} (hN : 2000 < N) : ∀ (n h : Nat) (g : Nat → Int32), h ≤ v 4 → v 4 < n + h → PZ v d E Lg g0 (12 + h) 0 (sumN (lossN E (d + 1)) (12 + h)) g → ∃ g', f_X11_passes_b87 N (nI (d + 1)) 71 72470 rk bl fx n (nI (sumN (lossN E (d + 1)) (12 + h))) (nI h) g = f_X11_passes_b162 N (nI (sumN (lossN E (d + 1)) (12 + v 4))) 71 72470 fx N (0 : Int32) rk bl g' ∧ PZ v d E Lg g0 (12 + v 4) 0 (sumN (lossN E (d + 1)) (12 + v 4)) g' := by
  have hv4 := hV.1.2.2.2.2.2
  have hv3 := hV.1.2.2.2.2.1
  have gd4 : ¬ ((4 : Int32) < 0 ∨ 71 ≤ (4 : Int32).toNatClampNeg) := by decide
  intro n
  induction n with
  | zero => intro h g h1 h2; omega
  | succ n ih =>
    intro h g h1 h2 H
    rw [f_X11_passes_b87, if_neg gd4, show (4 : Int32).toNatClampNeg = 4 from rfl, hM 4 (by omega)]
    by_cases hc : h = v 4
    · rw [if_pos ((nI_leI (by omega) (by omega)).mpr (by omega)), hc]
      rw [hc] at H
      exact ⟨g, rfl, H⟩
    · rw [if_neg (fun hx => by have := (nI_leI (by omega) (by omega)).mp hx; omega)]
      obtain ⟨g2, a1, a2⟩ := M_pass_pool hV hM hs hv hE hsum hd (show h < 4 by omega) (f_X11_passes_b87 N (nI (d + 1)) 71 72470 rk bl fx n) hN N 0 g (Nat.zero_le _) (by omega) H
      have a1' : f_X11_passes_b103 N (f_X11_passes_b87 N (nI (d + 1)) 71 72470 rk bl fx n) (nI (d + 1)) (nI (sumN (lossN E (d + 1)) (12 + h))) (nI h) 71 72470 fx N (0 : Int32) (0 : Int32) g = _ := a1
      rw [a1']
      exact ih (h + 1) g2 (by omega) (by omega) a2

