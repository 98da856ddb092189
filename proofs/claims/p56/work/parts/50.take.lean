/-- one cell of the reference gives: the account's -/
theorem RN_hit {d m w : Nat} {g0 g : Nat → Int32} {S : List En × Unit} (H : RN d g0 S g) (hs : Sor S.1) (hd : d ≤ 9999) (hm : m < 12) {e : Nat} (h1 : d < e) (h2 : e ≤ d + 1000) (hw : w < 2 ^ 31) {x : En} (hx : x.1 = mkK m e 0) (hxm : x ∈ S.1) {q : Nat → Bool} (hf : fstE q S.1 = some x) : f_X11_takesAt (nI (acI m e)) (nI w) 72470 g = some (nI (min x.2 w), upd g (acI m e) (nI (x.2 - min x.2 w))) ∧ RN d g0 (takeE q w S.1, S.2) (upd g (acI m e) (nI (x.2 - min x.2 w))) := by
  have hp := mem_le_sum hxm
  have hP := H.2.2.2.1
  have hg : g (acI m e) = nI x.2 := by rw [H.1.1 m e hm h1 h2, ← hx, pt_mem hs hxm]
  refine ⟨M_takesAt (by unfold acI; omega) hg (by omega) hw, RN_take H ?_ ?_⟩
  · refine MC_ac hd H.1 hm h1 h2 (fun j => ?_)
    rw [takeE_pt hs hf, hx]
    by_cases hj : j = mkK m e 0
    · rw [if_pos hj, if_pos hj]; omega
    · rw [if_neg hj, if_neg hj]
  · intro i hi
    unfold upd
    rw [if_neg (by unfold acI; omega)]
theorem RN_miss {d m w : Nat} {g0 g : Nat → Int32} {S : List En × Unit} (H : RN d g0 S g) (hd : d ≤ 9999) (hm : m < 12) {e : Nat} (h1 : d < e) (h2 : e ≤ d + 1000) (hw : w < 2 ^ 31) (hx : pt S.1 (mkK m e 0) = 0) : f_X11_takesAt (nI (acI m e)) (nI w) 72470 g = some (nI 0, g) := by
  have hg : g (acI m e) = nI 0 := by rw [H.1.1 m e hm h1 h2, hx]
  rw [M_takesAt (p := 0) (by unfold acI; omega) hg (by omega) hw, Nat.zero_min]
  congr 2
  funext j
  unfold upd
  by_cases hj : j = acI m e
  · rw [if_pos hj, hj, hg]
  · rw [if_neg hj]
theorem RN_hitP {d h m w : Nat} {g0 g : Nat → Int32} {S : List En × Unit} (H : RN d g0 S g) (hs : Sor S.1) (hd : d ≤ 9999) (hh : h < 4) (hm : m < 12) {e : Nat} (h1 : d < e) (h2 : e ≤ d + 1000) (hw : w < 2 ^ 31) {x : En} (hx : x.1 = mkK (12 + h) e (m + 1)) (hxm : x ∈ S.1) {q : Nat → Bool} (hf : fstE q S.1 = some x) : f_X11_takesAt (nI (poI h e m)) (nI w) 72470 g = some (nI (min x.2 w), upd g (poI h e m) (nI (x.2 - min x.2 w))) ∧ RN d g0 (takeE q w S.1, S.2) (upd g (poI h e m) (nI (x.2 - min x.2 w))) := by
  have hp := mem_le_sum hxm
  have hP := H.2.2.2.1
  have hg : g (poI h e m) = nI x.2 := by rw [H.1.2 h e m hh h1 h2 hm, ← hx, pt_mem hs hxm]
  refine ⟨M_takesAt (by unfold poI; omega) hg (by omega) hw, RN_take H ?_ ?_⟩
  · refine MC_po hd H.1 hh hm h1 h2 (fun j => ?_)
    rw [takeE_pt hs hf, hx]
    by_cases hj : j = mkK (12 + h) e (m + 1)
    · rw [if_pos hj, if_pos hj]; omega
    · rw [if_neg hj, if_neg hj]
  · intro i hi
    unfold upd
    rw [if_neg (by unfold poI; omega)]
theorem RN_missP {d h m w : Nat} {g0 g : Nat → Int32} {S : List En × Unit} (H : RN d g0 S g) (hd : d ≤ 9999) (hh : h < 4) (hm : m < 12) {e : Nat} (h1 : d < e) (h2 : e ≤ d + 1000) (hw : w < 2 ^ 31) (hx : pt S.1 (mkK (12 + h) e (m + 1)) = 0) : f_X11_takesAt (nI (poI h e m)) (nI w) 72470 g = some (nI 0, g) := by
  have hg : g (poI h e m) = nI 0 := by rw [H.1.2 h e m hh h1 h2 hm, hx]
  rw [M_takesAt (p := 0) (by unfold poI; omega) hg (by omega) hw, Nat.zero_min]
  congr 2
  funext j
  unfold upd
  by_cases hj : j = poI h e m
  · rw [if_pos hj, hj, hg]
  · rw [if_neg hj]
/-- an account's entries lie in the cells of the days to come -/
theorem qA_key {d m : Nat} {E : List En} (hv : ∀ x ∈ E, VK x.1 ∧ 1 ≤ x.2) (hD : DE d E) (hm : m < 12) : ∀ y ∈ E, qA m y.1 = true → ∃ j, 0 ≤ j ∧ j < 1000 ∧ y.1 = mkK m (d + 1 + j) 0 := by
  intro y hy hq
  have h1 : kL y.1 = m := of_decide_eq_true hq
  obtain ⟨h2, h3⟩ := hD y hy
  have h4 := (hv y hy).1.2.2.1 (by omega)
  refine ⟨kD y.1 - (d + 1), Nat.zero_le _, by omega, ?_⟩
  rw [show d + 1 + (kD y.1 - (d + 1)) = kD y.1 by omega, ← h1, ← h4, mk_k]
theorem qP_key {d h m : Nat} {E : List En} (hD : DE d E) : ∀ y ∈ E, qP h m y.1 = true → ∃ j, 0 ≤ j ∧ j < 1000 ∧ y.1 = mkK (12 + h) (d + 1 + j) (m + 1) := by
  intro y hy hq
  unfold qP at hq
  rw [Bool.and_eq_true] at hq
  have h1 : kL y.1 = 12 + h := of_decide_eq_true hq.1
  have h5 : kC y.1 = m + 1 := of_decide_eq_true hq.2
  obtain ⟨h2, h3⟩ := hD y hy
  refine ⟨kD y.1 - (d + 1), Nat.zero_le _, by omega, ?_⟩
  rw [show d + 1 + (kD y.1 - (d + 1)) = kD y.1 by omega, ← h1, ← h5, mk_k]
theorem nI_le0 {w : Nat} (hw : w < 2 ^ 31) : nI w ≤ 0 ↔ w = 0 := by rw [← nI_0, nI_leI hw (by omega)]; omega
theorem M_takesFromAccount {d m w : Nat} {g0 : Nat → Int32} {E : List En} (H : RN d g0 (E, ()) g0) (hs : Sor E) (hd : d ≤ 9999) (hg : g0 0 = nI d) (hm : m < 12) (hw : w < 2 ^ 31) {N : Nat} (hN : 2000 < N) {q : Nat → Bool} (hq : ∀ e, d < e → e ≤ d + 1000 → q (mkK m e 0) = true) (hk : ∀ y ∈ E, q y.1 = true → ∃ j, 0 ≤ j ∧ j < 1000 ∧ y.1 = mkK m (d + 1 + j) 0) {r : Nat} (hr : cntE q E ≤ r) : ∃ g', f_X11_takesFromAccount N (nI m) (nI w) 72470 g0 = some (nI w - nI (itG q actN r w (E, ())).1, g') ∧ RN d g0 (itG q actN r w (E, ())).2 g' := by
  have hday : ∀ S g, RN d g0 S g → g 0 = nI d := fun S g h => by rw [h.2.2.2.2 0 (by omega)]; exact hg
  have key : ∃ g', f_X11_takesFromAccount_b10 (nI m) (nI w) 72470 (N - 0) (nI w) (nI (d + 1 + 0)) g0 = some (nI w - nI (itG q actN r w (E, ())).1, g') ∧ RN d g0 (itG q actN r w (E, ())).2 g' := by
    refine scanG (actN_ok q) (fun i => mkK m (d + 1 + i) 0) 1000 w (RN d g0) (fun i w' g => f_X11_takesFromAccount_b10 (nI m) (nI w) 72470 (N - i) (nI w') (nI (d + 1 + i)) g) (fun w' g => some (nI w - nI w', g)) ?hend ?hzero ?hmiss ?hhit (fun S g h x hx => (h.2.1 x hx).2) ?hq ?hmono 1000 0 r w (E, ()) g0 (by omega) (Nat.le_refl _) hr hs H hk
    case hend =>
      intro w' g S _ hR
      obtain ⟨n, hn⟩ : ∃ n, N - 1000 = n + 1 := ⟨N - 1001, by omega⟩
      rw [hn, f_X11_takesFromAccount_b10, M_last (hday S g hR) hd, Option.bind_some, if_pos ((nI_ltI (by omega) (by omega)).mpr (by omega))]
    case hzero =>
      intro i g S hi hR
      obtain ⟨n, hn⟩ : ∃ n, N - i = n + 1 := ⟨N - i - 1, by omega⟩
      rw [hn, f_X11_takesFromAccount_b10, M_last (hday S g hR) hd, Option.bind_some, if_neg (fun hh => by have := (nI_ltI (by omega) (by omega)).mp hh; omega), nI_0, if_pos (Int32.le_refl 0)]
    case hmiss =>
      intro i w' g S hi h0 hw' hs' hR hp
      obtain ⟨n, hn⟩ : ∃ n, N - i = n + 1 := ⟨N - i - 1, by omega⟩
      have hn2 : N - (i + 1) = n := by omega
      refine ⟨g, ?_, hR⟩
      rw [hn, hn2, f_X11_takesFromAccount_b10, M_last (hday S g hR) hd, Option.bind_some, if_neg (fun hh => by have := (nI_ltI (by omega) (by omega)).mp hh; omega), if_neg (fun hh => by have := (nI_le0 (by omega)).mp hh; omega), M_accountAt (by omega), Option.bind_some, RN_miss hR hd hm (by omega) (by omega) (by omega) hp]
      simp only [Option.bind_some, nI_1, nI_0, Int32.sub_zero]
      rfl
    case hhit =>
      intro i w' g S hi h0 hw' hs' hR x hx hxm _ hf
      obtain ⟨n, hn⟩ : ∃ n, N - i = n + 1 := ⟨N - i - 1, by omega⟩
      have hn2 : N - (i + 1) = n := by omega
      obtain ⟨c1, c2⟩ := RN_hit hR hs' hd hm (e := d + 1 + i) (by omega) (by omega) (w := w') (by omega) hx hxm hf
      refine ⟨_, ?_, c2⟩
      rw [hn, hn2, f_X11_takesFromAccount_b10, M_last (hday S g hR) hd, Option.bind_some, if_neg (fun hh => by have := (nI_ltI (by omega) (by omega)).mp hh; omega), if_neg (fun hh => by have := (nI_le0 (by omega)).mp hh; omega), M_accountAt (by omega), Option.bind_some, c1]
      simp only [Option.bind_some, nI_1, nI_subI (Nat.min_le_right x.2 w')]
      rfl
    case hq =>
      intro i hi
      exact hq _ (by omega) (by omega)
    case hmono =>
      intro i j hij hj
      unfold mkK
      omega
  obtain ⟨g', a, b⟩ := key
  refine ⟨g', ?_, b⟩
  unfold f_X11_takesFromAccount f_X11_today0
  have h1 : ¬ ((0 : Int32) < 0 ∨ 72470 ≤ (0 : Int32).toNatClampNeg) := by decide
  simp only [if_neg h1, Option.bind_some]
  rw [show (0 : Int32).toNatClampNeg = 0 from rfl, hg, nI_1]
  exact a
theorem M_takesOwn {d h m w : Nat} {g0 : Nat → Int32} {E : List En} (H : RN d g0 (E, ()) g0) (hs : Sor E) (hd : d ≤ 9999) (hg : g0 0 = nI d) (hh : h < 4) (hm : m < 12) (hw : w < 2 ^ 31) {N : Nat} (hN : 2000 < N) {q : Nat → Bool} (hq : ∀ e, d < e → e ≤ d + 1000 → q (mkK (12 + h) e (m + 1)) = true) (hk : ∀ y ∈ E, q y.1 = true → ∃ j, 0 ≤ j ∧ j < 1000 ∧ y.1 = mkK (12 + h) (d + 1 + j) (m + 1)) {r : Nat} (hr : cntE q E ≤ r) : ∃ g', f_X11_takesOwn N (nI h) (nI m) (nI w) 72470 g0 = some (nI w - nI (itG q actN r w (E, ())).1, g') ∧ RN d g0 (itG q actN r w (E, ())).2 g' := by
  have hday : ∀ S g, RN d g0 S g → g 0 = nI d := fun S g hx => by rw [hx.2.2.2.2 0 (by omega)]; exact hg
  have key : ∃ g', f_X11_takesOwn_b11 (nI h) (nI m) (nI w) 72470 (N - 0) (nI w) (nI (d + 1 + 0)) g0 = some (nI w - nI (itG q actN r w (E, ())).1, g') ∧ RN d g0 (itG q actN r w (E, ())).2 g' := by
    refine scanG (actN_ok q) (fun i => mkK (12 + h) (d + 1 + i) (m + 1)) 1000 w (RN d g0) (fun i w' g => f_X11_takesOwn_b11 (nI h) (nI m) (nI w) 72470 (N - i) (nI w') (nI (d + 1 + i)) g) (fun w' g => some (nI w - nI w', g)) ?hend ?hzero ?hmiss ?hhit (fun S g hy x hx => (hy.2.1 x hx).2) ?hq ?hmono 1000 0 r w (E, ()) g0 (by omega) (Nat.le_refl _) hr hs H hk
    case hend =>
      intro w' g S _ hR
      obtain ⟨n, hn⟩ : ∃ n, N - 1000 = n + 1 := ⟨N - 1001, by omega⟩
      rw [hn, f_X11_takesOwn_b11, M_last (hday S g hR) hd, Option.bind_some, if_pos ((nI_ltI (by omega) (by omega)).mpr (by omega))]
    case hzero =>
      intro i g S hi hR
      obtain ⟨n, hn⟩ : ∃ n, N - i = n + 1 := ⟨N - i - 1, by omega⟩
      rw [hn, f_X11_takesOwn_b11, M_last (hday S g hR) hd, Option.bind_some, if_neg (fun hx => by have := (nI_ltI (by omega) (by omega)).mp hx; omega), nI_0, if_pos (Int32.le_refl 0)]
    case hmiss =>
      intro i w' g S hi h0 hw' hs' hR hp
      obtain ⟨n, hn⟩ : ∃ n, N - i = n + 1 := ⟨N - i - 1, by omega⟩
      have hn2 : N - (i + 1) = n := by omega
      refine ⟨g, ?_, hR⟩
      rw [hn, hn2, f_X11_takesOwn_b11, M_last (hday S g hR) hd, Option.bind_some, if_neg (fun hx => by have := (nI_ltI (by omega) (by omega)).mp hx; omega), if_neg (fun hx => by have := (nI_le0 (by omega)).mp hx; omega), M_poolAt (by omega), Option.bind_some, RN_missP hR hd hh hm (by omega) (by omega) (by omega) hp]
      simp only [Option.bind_some, nI_1, nI_0, Int32.sub_zero]
      rfl
    case hhit =>
      intro i w' g S hi h0 hw' hs' hR x hx hxm _ hf
      obtain ⟨n, hn⟩ : ∃ n, N - i = n + 1 := ⟨N - i - 1, by omega⟩
      have hn2 : N - (i + 1) = n := by omega
      obtain ⟨c1, c2⟩ := RN_hitP hR hs' hd hh hm (e := d + 1 + i) (by omega) (by omega) (w := w') (by omega) hx hxm hf
      refine ⟨_, ?_, c2⟩
      rw [hn, hn2, f_X11_takesOwn_b11, M_last (hday S g hR) hd, Option.bind_some, if_neg (fun hx => by have := (nI_ltI (by omega) (by omega)).mp hx; omega), if_neg (fun hx => by have := (nI_le0 (by omega)).mp hx; omega), M_poolAt (by omega), Option.bind_some, c1]
      simp only [Option.bind_some, nI_1, nI_subI (Nat.min_le_right x.2 w')]
      rfl
    case hq =>
      intro i hi
      exact hq _ (by omega) (by omega)
    case hmono =>
      intro i j hij hj
      unfold mkK
      omega
  obtain ⟨g', a, b⟩ := key
  refine ⟨g', ?_, b⟩
  unfold f_X11_takesOwn f_X11_today0
  have h1 : ¬ ((0 : Int32) < 0 ∨ 72470 ≤ (0 : Int32).toNatClampNeg) := by decide
  simp only [if_neg h1, Option.bind_some]
  rw [show (0 : Int32).toNatClampNeg = 0 from rfl, hg, nI_1]
  exact a

