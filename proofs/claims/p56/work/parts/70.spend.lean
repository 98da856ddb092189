/-- the effect of a giving that redeems: the tenth of life counts it -/
def actR (v : Nat → Nat) (d : Nat) (x : En) (n : Nat) (S : List En × (Nat → Nat)) : List En × (Nat → Nat) := (S.1, updN S.2 (partN v d (kD x.1)) (S.2 (partN v d (kD x.1)) + n))
theorem actR_ok (v : Nat → Nat) (d : Nat) (q : Nat → Bool) : ActOk q (actR v d) := fun x n S => ⟨id, rfl, fun y _ => Iff.rfl⟩
theorem sumQ_take {q : Nat → Bool} {w : Nat} {x : En} : ∀ {E : List En}, fstE q E = some x → sumQ q (takeE q w E) + min x.2 w = sumQ q E
  | [], h => nomatch h
  | z :: E, h => by
    rw [fstE] at h
    rw [takeE, sumQ]
    cases hq : q z.1 with
    | true =>
      rw [hq, if_pos rfl] at h
      cases h
      rw [if_pos rfl, if_pos rfl]
      by_cases h1 : x.2 ≤ w
      · rw [if_pos h1, Nat.min_eq_left h1]; omega
      · rw [if_neg h1, sumQ, hq, if_pos rfl, Nat.min_eq_right (by omega)]
        show x.2 - w + sumQ q E + w = _
        omega
    | false =>
      rw [hq, if_neg Bool.false_ne_true] at h
      rw [if_neg Bool.false_ne_true, if_neg Bool.false_ne_true, sumQ, hq, if_neg Bool.false_ne_true]
      exact sumQ_take h
theorem sumQ_none {q : Nat → Bool} : ∀ {E : List En}, fstE q E = none → sumQ q E = 0
  | [], _ => rfl
  | z :: E, h => by
    rw [fstE] at h
    rw [sumQ]
    cases hq : q z.1 with
    | true => rw [hq, if_pos rfl] at h; cases h
    | false =>
      rw [hq, if_neg Bool.false_ne_true] at h
      rw [if_neg Bool.false_ne_true, sumQ_none h]
/-- how much is left: what the entries do not have -/
theorem itG_left {σ : Type} {q : Nat → Bool} {act : En → Nat → List En × σ → List En × σ} (hact : ∀ x n S, Sor S.1 → Sor (act x n S).1 ∧ cntE q (act x n S).1 = cntE q S.1 ∧ sumQ q (act x n S).1 = sumQ q S.1) : ∀ (r w : Nat) (S : List En × σ), Sor S.1 → cntE q S.1 ≤ r → (itG q act r w S).1 = w - sumQ q S.1
  | 0, w, S, hs, h => by
    have h1 : fstE q S.1 = none := cntE_none.mp (by omega)
    rw [itG_none _ _ _ _ _ h1, sumQ_none h1]; rfl
  | r + 1, w, S, hs, h => by
    by_cases hw : w = 0
    · rw [hw, itG_zero]; show 0 = 0 - _; omega
    · cases hf : fstE q S.1 with
      | none => rw [itG_none _ _ _ _ _ hf, sumQ_none hf]; rfl
      | some x =>
        rw [itG_some _ _ _ _ _ hw hf]
        have h1 := sumQ_take (w := w) hf
        obtain ⟨a, b, c⟩ := hact x (min x.2 w) (takeE q w S.1, S.2) (takeE_sor hs)
        have h2 := Nat.min_le_right x.2 w
        by_cases hle : x.2 ≤ w
        · have h3 : cntE q (takeE q w S.1) = cntE q S.1 - 1 := by rw [cntE_take hf, if_pos hle]
          have h4 : cntE q S.1 ≠ 0 := fun hh => by rw [cntE_none.mp hh] at hf; cases hf
          rw [itG_left hact r _ _ a (by rw [b, h3]; omega), c]
          dsimp only
          omega
        · have h5 : w - min x.2 w = 0 := by rw [Nat.min_eq_right (by omega)]; omega
          rw [h5, itG_zero]
          show 0 = w - _
          rw [Nat.min_eq_right (by omega)] at h1
          omega
/-- what a redeeming keeps -/
theorem itR_ok (v : Nat → Nat) (d : Nat) (hV : SV v) (q : Nat → Bool) : ∀ (r w : Nat) (S : List En × (Nat → Nat)), Sor S.1 → (∀ x ∈ S.1, VK x.1 ∧ 1 ≤ x.2) → EV v d S.1 → Sor (itG q (actR v d) r w S).2.1 ∧ (∀ x ∈ (itG q (actR v d) r w S).2.1, VK x.1 ∧ 1 ≤ x.2) ∧ EV v d (itG q (actR v d) r w S).2.1 ∧ sumP (itG q (actR v d) r w S).2.1 + w = sumP S.1 + (itG q (actR v d) r w S).1 ∧ (itG q (actR v d) r w S).1 ≤ w ∧ (itG q (actR v d) r w S).2.1.length ≤ S.1.length ∧ sumN (itG q (actR v d) r w S).2.2 10 + (itG q (actR v d) r w S).1 = sumN S.2 10 + w ∧ ∀ q' : Nat → Bool, (∀ k, q k = true → q' k = false) → sumQ q' (itG q (actR v d) r w S).2.1 = sumQ q' S.1
  | 0, w, S, h1, h2, h3 => ⟨h1, h2, h3, rfl, Nat.le_refl _, Nat.le_refl _, rfl, fun _ _ => rfl⟩
  | r + 1, w, S, h1, h2, h3 => by
    by_cases hw : w = 0
    · rw [hw, itG_zero]; exact ⟨h1, h2, h3, rfl, Nat.le_refl _, Nat.le_refl _, rfl, fun _ _ => rfl⟩
    · cases hf : fstE q S.1 with
      | none => rw [itG_none _ _ _ _ _ hf]; exact ⟨h1, h2, h3, rfl, Nat.le_refl _, Nat.le_refl _, rfl, fun _ _ => rfl⟩
      | some x =>
        rw [itG_some _ _ _ _ _ hw hf]
        have h4 := takeE_sum (w := w) hf
        have hl := takeE_length (q := q) (w := w) (E := S.1)
        obtain ⟨x1, x2, x3⟩ := fstE_some h1 hf
        have hp := partN_le (d := d) (e := kD x.1) hV (h3 x x1).1.1
        obtain ⟨a, b, c, d1, e, f, g1, g2⟩ := itR_ok v d hV q r (w - min x.2 w) (actR v d x (min x.2 w) (takeE q w S.1, S.2)) (takeE_sor h1) (fun y hy => by
          have hy : y ∈ takeE q w S.1 := hy
          obtain ⟨t, b1, b2, b3, b4⟩ := takeE_mem hy
          have := h2 t b1
          exact ⟨b2 ▸ this.1, b4 this.2⟩) (fun y hy => by
          have hy : y ∈ takeE q w S.1 := hy
          obtain ⟨t, b1, b2, b3, b4⟩ := takeE_mem hy
          rw [← b2]; exact h3 t b1)
        have h5 := Nat.min_le_right x.2 w
        have h6 := sumN_upd (f := S.2) (i := partN v d (kD x.1)) (x := S.2 (partN v d (kD x.1)) + min x.2 w) (n := 10) (by omega)
        have h7 : sumP (actR v d x (min x.2 w) (takeE q w S.1, S.2)).1 = sumP (takeE q w S.1) := rfl
        have h8 : sumN (actR v d x (min x.2 w) (takeE q w S.1, S.2)).2 10 = sumN (updN S.2 (partN v d (kD x.1)) (S.2 (partN v d (kD x.1)) + min x.2 w)) 10 := rfl
        have h9 : (actR v d x (min x.2 w) (takeE q w S.1, S.2)).1.length = (takeE q w S.1).length := rfl
        refine ⟨a, b, c, by omega, by omega, by omega, by omega, fun q' hq' => ?_⟩
        rw [g2 q' hq']
        show sumQ q' (takeE q w S.1) = sumQ q' S.1
        have hgen : ∀ E : List En, fstE q E = some x → sumQ q' (takeE q w E) = sumQ q' E := by
          intro E
          induction E with
          | nil => intro h; cases h
          | cons z E ih =>
            intro h
            rw [fstE] at h
            rw [takeE]
            cases hq : q z.1 with
            | true =>
              rw [hq, if_pos rfl] at h
              cases h
              rw [if_pos rfl]
              by_cases hle : x.2 ≤ w
              · rw [if_pos hle, sumQ, hq' x.1 hq, if_neg Bool.false_ne_true]
              · rw [if_neg hle, sumQ, sumQ]
                dsimp only
                rw [hq' x.1 hq, if_neg Bool.false_ne_true, if_neg Bool.false_ne_true]
            | false =>
              rw [hq, if_neg Bool.false_ne_true] at h
              rw [if_neg Bool.false_ne_true, sumQ, sumQ, ih h]
        exact hgen S.1 hf
theorem h10 : (10 : Nat) < 2 ^ 31 := by decide
/-- the class redeems from one list -/
theorem C_spend_from {v : Nat → Nat} {d : Nat} (hV : SV v) (hd : d ≤ 9999) (x1 x2 : Int32) {N : Nat} (hN : 1024 < N) : ∀ (n r w : Nat) (E : List En) (rd : Nat → Nat) (z : Int32) (gl gd gc gp re : Nat → Int32), CoE E z gl gd gc gp → EV v d E → (∀ i, i < 10 → re i = nI (rd i)) → w < 2 ^ 31 → r < n → r ≤ 1024 → ∃ (o : T_CO) (re' : Nat → Int32), f_X0_spendFrom_b11 N x1 x2 1024 1024 1024 1024 10 (nI d) (nI (v 5)) n (nI w) (nI r) z gl gd gc gp re = some (x2 - nI (itG (qK x1 (-2) (-2)) (actR v d) r w (E, rd)).1, o.1, o.2.1, o.2.2.1, o.2.2.2.1, o.2.2.2.2, re') ∧ CoE (itG (qK x1 (-2) (-2)) (actR v d) r w (E, rd)).2.1 o.1 o.2.1 o.2.2.1 o.2.2.2.1 o.2.2.2.2 ∧ ∀ i, i < 10 → re' i = nI ((itG (qK x1 (-2) (-2)) (actR v d) r w (E, rd)).2.2 i) := by
  intro n
  induction n with
  | zero => intro r w E rd z gl gd gc gp re H h1 h2 h3 h4; omega
  | succ n ih =>
    intro r w E rd z gl gd gc gp re H hE hre hw h1 h2
    rw [f_X0_spendFrom_b11]
    cases r with
    | zero =>
      rw [nI_0, if_pos (Int32.le_refl 0)]
      exact ⟨(z, gl, gd, gc, gp), re, rfl, H, hre⟩
    | succ r =>
      rw [if_neg (nI_nle (Nat.succ_pos r) (by omega))]
      by_cases hw0 : w = 0
      · rw [hw0, itG_zero, nI_0, if_pos (Int32.le_refl 0)]
        exact ⟨(z, gl, gd, gc, gp), re, rfl, H, hre⟩
      · rw [if_neg (fun hh => hw0 ((nI_le0 hw).mp hh))]
        cases E_first H x1 (-2) (-2) hN with
        | inl h =>
          rw [h.2, Option.bind_some, if_pos rfl, itG_none _ _ _ _ _ h.1]
          exact ⟨(z, gl, gd, gc, gp), re, rfl, H, hre⟩
        | inr h =>
          obtain ⟨j, x, k1, k2, k3, k4, k5, k6, k7, k8, k9, k10, k11⟩ := h
          obtain ⟨o, m1, m2⟩ := k11 w hw
          have hx := (hE x k4).1
          have hpl := partN_le (d := d) (e := kD x.1) hV hx.1
          rw [itG_some _ _ _ _ _ hw0 k5, k6, Option.bind_some, if_neg k2]
          unfold f_X1_dayOf
          rw [X6_at_in gd (by decide) k1, Option.bind_some, Option.bind_some, k8, C_partOf hV hd hx.1 hx.2, Option.bind_some, m1, Option.bind_some, X6_increase_in re _ h10 (by omega), Option.bind_some, nI_subI (Nat.min_le_right _ _), Option.bind_some, show nI (r + 1) + (-1 : Int32) = nI r by rw [← Int32.sub_eq_add_neg]; exact nI_pred r, Option.bind_some]
          refine ih r (w - min x.2 w) (takeE (qK x1 (-2) (-2)) w E) (updN rd (partN v d (kD x.1)) (rd (partN v d (kD x.1)) + min x.2 w)) _ _ _ _ _ _ m2 (fun y hy => ?_) (fun i hi => ?_) (by omega) (by omega) (by omega)
          · obtain ⟨t, b1, b2, b3, b4⟩ := takeE_mem hy
            rw [← b2]; exact hE t b1
          · by_cases e : i = partN v d (kD x.1)
            · rw [e, upd_at, updN_at, hre _ (by omega), nI_add]
            · rw [upd_ne _ _ e, updN_ne _ _ e]; exact hre i hi
theorem C_spend {v : Nat → Nat} {d w : Nat} (hV : SV v) (hd : d ≤ 9999) (x1 : Int32) {N : Nat} (hN : 2000 < N) {E : List En} {rd : Nat → Nat} {z : Int32} {gl gd gc gp re : Nat → Int32} (H : CoE E z gl gd gc gp) (hE : EV v d E) (hre : ∀ i, i < 10 → re i = nI (rd i)) (hw : w < 2 ^ 31) : ∃ (o : T_CO) (re' : Nat → Int32), f_X0_spendFrom N x1 (nI w) 1024 1024 1024 1024 10 (nI d) (nI (v 5)) z gl gd gc gp re = some (nI w - nI (itG (qK x1 (-2) (-2)) (actR v d) E.length w (E, rd)).1, o.1, o.2.1, o.2.2.1, o.2.2.2.1, o.2.2.2.2, re') ∧ CoE (itG (qK x1 (-2) (-2)) (actR v d) E.length w (E, rd)).2.1 o.1 o.2.1 o.2.2.1 o.2.2.2.1 o.2.2.2.2 ∧ ∀ i, i < 10 → re' i = nI ((itG (qK x1 (-2) (-2)) (actR v d) E.length w (E, rd)).2.2 i) := by
  have hl := H.1.1
  have hz := H.1.2.1
  rw [List.length_map] at hl hz
  unfold f_X0_spendFrom f_X1_size
  rw [Option.bind_some, hz]
  rw [hz] at H
  exact C_spend_from hV hd x1 (nI w) (by omega) N E.length w E rd _ gl gd gc gp re H hE hre hw (by omega) hl

