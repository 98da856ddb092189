theorem X1_expire_in (x1 : Int32) {z : Int32} {L : List Co} {gl gd gc gp : Nat → Int32} (H : CoR L z gl gd gc gp) (hp : ∀ e ∈ L, ∃ a, a < 16 ∧ e.1 = nI a) (g0 : Nat → Int32) {N : Nat} (hN : 1024 < N) : ∃ o, f_X1_expire N x1 1024 1024 1024 1024 16 z gl gd gc gp g0 = some o ∧ CoR (L.filter (fun e => decide (x1 < e.2.1))) o.1 o.2.1 o.2.2.1 o.2.2.2.1 o.2.2.2.2.1 ∧ o.2.2.2.2.2 = lossL x1 L g0 := by
  have hl := H.1
  obtain ⟨o, a, b, c⟩ := X1_expire_from x1 H.2.1 hl hp N 0 [] gl gd gc gp g0 (Nat.zero_le _) (Nat.le_refl _) (by omega) (fun j e h => by cases h) (fun j e _ h => H.2.2 j e h)
  rw [List.drop_zero] at b c
  exact ⟨o, a, b, c⟩
theorem filter_co (d : Nat) (hd : d < 2 ^ 31) : ∀ E : List En, (E.map co).filter (fun e => decide (nI d < e.2.1)) = (E.filter (fun x => decide (d < kD x.1))).map co
  | [] => rfl
  | x :: E => by
    have h2 := kD_lt x.1
    have h3 : decide (nI d < (co x).2.1) = decide (d < kD x.1) := by
      show decide (nI d < nI (kD x.1)) = _
      by_cases h : d < kD x.1
      · rw [decide_eq_true h, decide_eq_true ((nI_ltI hd (by omega)).mpr h)]
      · rw [decide_eq_false h, decide_eq_false (fun hh => h ((nI_ltI hd (by omega)).mp hh))]
    rw [List.map_cons]
    cases h : decide (d < kD x.1) with
    | true => rw [List.filter_cons_of_pos (by rw [h3, h]), List.filter_cons_of_pos (p := fun x : En => decide (d < kD x.1)) h, filter_co d hd E]; rfl
    | false => rw [List.filter_cons_of_neg (by rw [h3, h]; exact Bool.false_ne_true), List.filter_cons_of_neg (p := fun x : En => decide (d < kD x.1)) (by rw [h]; exact Bool.false_ne_true), filter_co d hd E]
theorem lossL_E (d : Nat) (hd : d < 2 ^ 31) (a : Nat) : ∀ (E : List En) (g : Nat → Int32), (∀ x ∈ E, kL x.1 < 16) → lossL (nI d) (E.map co) g a = g a + nI (sumQ (fun k => decide (kL k = a) && !decide (d < kD k)) E)
  | [], g, _ => by rw [sumQ, nI_0, Int32.add_zero]; rfl
  | x :: E, g, h => by
    have h1 := h x List.mem_cons_self
    have h2 := kD_lt x.1
    have hh := fun y hy => h y (List.mem_cons_of_mem _ hy)
    rw [List.map_cons, lossL, sumQ]
    have h3 : (nI d < (co x).2.1) ↔ d < kD x.1 := nI_ltI hd (by omega)
    have h4 : (co x).1.toNatClampNeg = kL x.1 := nI_clamp (by omega)
    by_cases h5 : d < kD x.1
    · rw [if_pos (h3.mpr h5), lossL_E d hd a E g hh, decide_eq_true h5, Bool.not_true, Bool.and_false, if_neg Bool.false_ne_true]
    · rw [if_neg (fun hx => h5 (h3.mp hx)), lossL_E d hd a E _ hh, decide_eq_false h5, Bool.not_false, Bool.and_true, h4]
      by_cases h6 : kL x.1 = a
      · rw [decide_eq_true h6, if_pos rfl, h6]
        unfold upd
        rw [if_pos rfl, show (co x).2.2.2 = nI x.2 from rfl, Int32.add_assoc, nI_add]
      · rw [decide_eq_false h6, if_neg Bool.false_ne_true]
        unfold upd
        rw [if_neg (fun hx => h6 hx.symm)]
theorem sumP_filter {f : En → Bool} : ∀ {E : List En}, sumP (E.filter f) + sumP (E.filter (fun x => !f x)) = sumP E
  | [] => rfl
  | x :: E => by
    have ih := sumP_filter (f := f) (E := E)
    cases h : f x with
    | true => rw [List.filter_cons_of_pos h, List.filter_cons_of_neg (by simp [h]), sumP, sumP]; omega
    | false => rw [List.filter_cons_of_neg (by simp [h]), List.filter_cons_of_pos (by simp [h]), sumP, sumP]; omega
theorem E_expire {E : List En} {z : Int32} {gl gd gc gp : Nat → Int32} (H : CoE E z gl gd gc gp) {d : Nat} (hd : d < 2 ^ 31) (g0 : Nat → Int32) {N : Nat} (hN : 1024 < N) : ∃ o, f_X1_expire N (nI d) 1024 1024 1024 1024 16 z gl gd gc gp g0 = some o ∧ CoE (E.filter (fun x => decide (d < kD x.1))) o.1 o.2.1 o.2.2.1 o.2.2.2.1 o.2.2.2.2.1 ∧ ∀ a, o.2.2.2.2.2 a = g0 a + nI (sumQ (fun k => decide (kL k = a) && !decide (d < kD k)) E) := by
  obtain ⟨o, a, b, c⟩ := X1_expire_in (nI d) H.1 (fun e he => by
    obtain ⟨x, hx, hx2⟩ := List.mem_map.mp he
    exact ⟨kL x.1, (H.2.2.1 x hx).1.1, by rw [← hx2]; rfl⟩) g0 hN
  rw [filter_co d hd] at b
  refine ⟨o, a, ⟨b, sor_filter H.2.1, fun x hx => H.2.2.1 x (List.mem_filter.mp hx).1, ?_⟩, ?_⟩
  · have := sumP_filter (f := fun x => decide (d < kD x.1)) (E := E)
    have := H.2.2.2
    omega
  · intro i
    rw [c, lossL_E d hd i E g0 (fun x hx => (H.2.2.1 x hx).1.1)]
theorem E_copy {E : List En} {y : Int32} {gl gd gc gp hl hd hc hp : Nat → Int32} (H : CoE E y hl hd hc hp) : ∃ o, f_X1_copyFrom 1024 1024 1024 1024 1024 1024 1024 1024 gl gd gc gp y hl hd hc hp = some o ∧ CoE E o.1 o.2.1 o.2.2.1 o.2.2.2.1 o.2.2.2.2 := by
  obtain ⟨o, ho, hR⟩ := X1_copyFrom_in (L := E.map co) (z := y) (gl := gl) (gd := gd) (gc := gc) (gp := gp) H.1
  exact ⟨o, ho, hR, H.2⟩
