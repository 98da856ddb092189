/-- the class's questions, for keys -/
theorem nI_ne2 {a : Nat} (h : a < 2 ^ 31) : ¬ nI a = (-2 : Int32) := by
  intro hh
  have h5 := nI_pos h
  rw [hh] at h5
  exact h5 (by decide)
theorem anyI_nI {a b : Nat} (ha : a < 2 ^ 31) (hb : b < 2 ^ 31) : anyI (nI a) (nI b) = decide (b = a) := by
  by_cases h : b = a
  · rw [anyI_yes (nI_ne2 ha) (by rw [h]), decide_eq_true h]
  · rw [anyI_no (nI_ne2 ha) (fun hh => h ((nI_eq hb ha).mp hh)), decide_eq_false h]
theorem anyI_cI {m c : Nat} (hm : m < 15) (hc : c < 16) : anyI (nI m) (cI c) = decide (c = m + 1) := by
  have h1 : (cI c = nI m) ↔ c = m + 1 := by
    rw [show nI m = cI (m + 1) from rfl, cI_eq (by omega) hc]
  by_cases h : c = m + 1
  · rw [anyI_yes (nI_ne2 (by omega)) (h1.mpr h), decide_eq_true h]
  · rw [anyI_no (nI_ne2 (by omega)) (fun hh => h (h1.mp hh)), decide_eq_false h]
theorem qK_list {a k : Nat} (ha : a < 16) (hk : kL k < 16) : qK (nI a) (-2) (-2) k = decide (kL k = a) := by
  unfold qK
  rw [anyI_nI (by omega) (by omega), anyI_any (x := -2) (y := nI (kD k)) rfl, anyI_any (x := -2) (y := cI (kC k)) rfl, Bool.true_and, Bool.and_true]
theorem qK_listday {a e k : Nat} (ha : a < 16) (he : e < 2 ^ 20) (hk : kL k < 16) : qK (nI a) (nI e) (-2) k = (decide (kL k = a) && decide (kD k = e)) := by
  have := kD_lt k
  unfold qK
  rw [anyI_nI (by omega) (by omega), anyI_nI (by omega) (by omega), anyI_any (x := -2) (y := cI (kC k)) rfl, Bool.and_true]
theorem qK_listc {a m k : Nat} (ha : a < 16) (hm : m < 12) (hk : kL k < 16) : qK (nI a) (-2) (nI m) k = (decide (kL k = a) && decide (kC k = m + 1)) := by
  unfold qK
  rw [anyI_nI (by omega) (by omega), anyI_any (x := -2) (y := nI (kD k)) rfl, anyI_cI (by omega) (kC_lt k), Bool.true_and]
theorem qK_all {a e m k : Nat} (ha : a < 16) (he : e < 2 ^ 20) (hm : m < 12) (hk : kL k < 16) : qK (nI a) (nI e) (nI m) k = (decide (kL k = a) && (decide (kD k = e) && decide (kC k = m + 1))) := by
  have := kD_lt k
  unfold qK
  rw [anyI_nI (by omega) (by omega), anyI_nI (by omega) (by omega), anyI_cI (by omega) (kC_lt k)]
theorem qK_none {y z : Int32} {k : Nat} (hk : kL k < 16) : qK (-1) y z k = false := by
  unfold qK
  rw [anyI_no (x := -1) (y := nI (kL k)) (by decide) (fun hh => by
    have h5 := nI_pos (n := kL k) (by omega)
    rw [hh] at h5
    exact h5 (by decide)), Bool.false_and]
theorem qK_any {k : Nat} : qK (-2) (-2) (-2) k = true := by
  unfold qK
  rw [anyI_any (x := -2) (y := nI (kL k)) rfl, anyI_any (x := -2) (y := nI (kD k)) rfl, anyI_any (x := -2) (y := cI (kC k)) rfl]; rfl
/-- nothing is asked for: nothing is given -/
theorem itN_out {q : Nat → Bool} {r w : Nat} {S : List En × Unit} (h : ∀ y ∈ S.1, q y.1 = false) : itG q actN r w S = (w, S) := itG_none _ _ _ _ _ (fstE_none.mpr h)
/-- one cell of an account gives -/
theorem M_oneA {d m e w : Nat} {g0 g : Nat → Int32} {S : List En × Unit} (H : RN d g0 S g) (hs : Sor S.1) (hd : d ≤ 9999) (hm : m < 12) (h1 : d < e) (h2 : e ≤ d + 1000) (hw : w < 2 ^ 31) {q : Nat → Bool} (hq : q (mkK m e 0) = true) (hk : ∀ y ∈ S.1, q y.1 = true → y.1 = mkK m e 0) {r : Nat} (hr : cntE q S.1 ≤ r) : ∃ g', f_X11_takesAt (nI (acI m e)) (nI w) 72470 g = some (nI (w - (itG q actN r w S).1), g') ∧ RN d g0 (itG q actN r w S).2 g' := by
  by_cases hp : pt S.1 (mkK m e 0) = 0
  · have h3 : fstE q S.1 = none := by
      rw [fstE_none]
      intro y hy
      cases hh : q y.1 with
      | false => rfl
      | true =>
        have a := hk y hy hh
        have b := pt_mem hs hy
        rw [a, hp] at b
        have := (H.2.1 y hy).2
        omega
    rw [itG_none _ _ _ _ _ h3, RN_miss H hd hm h1 h2 hw hp]
    exact ⟨g, by rw [Nat.sub_self], H⟩
  · obtain ⟨x, hx, hx1, hx2⟩ := pt_pos hp
    have hf : fstE q S.1 = some x := fstE_hit hs hx (by rw [hx1]; exact hq) (fun y hy hyq => by rw [hk y hy hyq, hx1]; exact Nat.le_refl _)
    obtain ⟨c1, c2⟩ := RN_hit H hs hd hm h1 h2 hw hx1 hx hf
    by_cases hw0 : w = 0
    · rw [hw0, itG_zero]
      have hx3 := (H.2.1 x hx).2
      have hg : g (acI m e) = nI x.2 := by rw [H.1.1 m e hm h1 h2, hx2]
      refine ⟨g, ?_, H⟩
      have := mem_le_sum hx
      have := H.2.2.2.1
      rw [M_takesAt (p := x.2) (by unfold acI; omega) hg (by omega) (by omega), Nat.min_zero, Nat.sub_zero]
      congr 2
      funext j
      by_cases hj : j = acI m e
      · rw [hj, upd_at, hg]
      · rw [upd_ne _ _ hj]
    · have hc : cntE q S.1 ≠ 0 := fun hh => by rw [cntE_none.mp hh] at hf; cases hf
      obtain ⟨r', hr'⟩ : ∃ r', r = r' + 1 := ⟨r - 1, by omega⟩
      rw [hr', itG_some _ _ _ _ _ hw0 hf]
      have h4 : itG q actN r' (w - min x.2 w) (actN x (min x.2 w) (takeE q w S.1, S.2)) = (w - min x.2 w, (takeE q w S.1, S.2)) := by
        by_cases hle : x.2 ≤ w
        · refine itN_out (fun y hy => ?_)
          cases hh : q y.1 with
          | false => rfl
          | true =>
            exfalso
            have hy : y ∈ takeE q w S.1 := hy
            obtain ⟨z, b1, b2, b3, b4⟩ := takeE_mem hy
            have a := hk z b1 (by rw [b2]; exact hh)
            have b := pt_mem (takeE_sor (q := q) (w := w) hs) hy
            rw [takeE_pt hs hf, if_pos (by rw [← b2, a, hx1])] at b
            have := b4 (H.2.1 z b1).2
            omega
        · rw [Nat.min_eq_right (by omega), Nat.sub_self, itG_zero]
          rfl
      rw [h4, c1]
      refine ⟨_, ?_, c2⟩
      have := Nat.min_le_right x.2 w
      rw [show w - (w - min x.2 w) = min x.2 w by omega]
/-- one cell of a pool gives -/
theorem M_oneP {d h m e w : Nat} {g0 g : Nat → Int32} {S : List En × Unit} (H : RN d g0 S g) (hs : Sor S.1) (hd : d ≤ 9999) (hh0 : h < 4) (hm : m < 12) (h1 : d < e) (h2 : e ≤ d + 1000) (hw : w < 2 ^ 31) {q : Nat → Bool} (hq : q (mkK (12 + h) e (m + 1)) = true) (hk : ∀ y ∈ S.1, q y.1 = true → y.1 = mkK (12 + h) e (m + 1)) {r : Nat} (hr : cntE q S.1 ≤ r) : ∃ g', f_X11_takesAt (nI (poI h e m)) (nI w) 72470 g = some (nI (w - (itG q actN r w S).1), g') ∧ RN d g0 (itG q actN r w S).2 g' := by
  by_cases hp : pt S.1 (mkK (12 + h) e (m + 1)) = 0
  · have h3 : fstE q S.1 = none := by
      rw [fstE_none]
      intro y hy
      cases hh : q y.1 with
      | false => rfl
      | true =>
        have a := hk y hy hh
        have b := pt_mem hs hy
        rw [a, hp] at b
        have := (H.2.1 y hy).2
        omega
    rw [itG_none _ _ _ _ _ h3, RN_missP H hd hh0 hm h1 h2 hw hp]
    exact ⟨g, by rw [Nat.sub_self], H⟩
  · obtain ⟨x, hx, hx1, hx2⟩ := pt_pos hp
    have hf : fstE q S.1 = some x := fstE_hit hs hx (by rw [hx1]; exact hq) (fun y hy hyq => by rw [hk y hy hyq, hx1]; exact Nat.le_refl _)
    obtain ⟨c1, c2⟩ := RN_hitP H hs hd hh0 hm h1 h2 hw hx1 hx hf
    by_cases hw0 : w = 0
    · rw [hw0, itG_zero]
      have hx3 := (H.2.1 x hx).2
      have hg : g (poI h e m) = nI x.2 := by rw [H.1.2 h e m hh0 h1 h2 hm, hx2]
      refine ⟨g, ?_, H⟩
      have := mem_le_sum hx
      have := H.2.2.2.1
      rw [M_takesAt (p := x.2) (by unfold poI; omega) hg (by omega) (by omega), Nat.min_zero, Nat.sub_zero]
      congr 2
      funext j
      by_cases hj : j = poI h e m
      · rw [hj, upd_at, hg]
      · rw [upd_ne _ _ hj]
    · have hc : cntE q S.1 ≠ 0 := fun hh => by rw [cntE_none.mp hh] at hf; cases hf
      obtain ⟨r', hr'⟩ : ∃ r', r = r' + 1 := ⟨r - 1, by omega⟩
      rw [hr', itG_some _ _ _ _ _ hw0 hf]
      have h4 : itG q actN r' (w - min x.2 w) (actN x (min x.2 w) (takeE q w S.1, S.2)) = (w - min x.2 w, (takeE q w S.1, S.2)) := by
        by_cases hle : x.2 ≤ w
        · refine itN_out (fun y hy => ?_)
          cases hh : q y.1 with
          | false => rfl
          | true =>
            exfalso
            have hy : y ∈ takeE q w S.1 := hy
            obtain ⟨z, b1, b2, b3, b4⟩ := takeE_mem hy
            have a := hk z b1 (by rw [b2]; exact hh)
            have b := pt_mem (takeE_sor (q := q) (w := w) hs) hy
            rw [takeE_pt hs hf, if_pos (by rw [← b2, a, hx1])] at b
            have := b4 (H.2.1 z b1).2
            omega
        · rw [Nat.min_eq_right (by omega), Nat.sub_self, itG_zero]
          rfl
      rw [h4, c1]
      refine ⟨_, ?_, c2⟩
      have := Nat.min_le_right x.2 w
      rw [show w - (w - min x.2 w) = min x.2 w by omega]

