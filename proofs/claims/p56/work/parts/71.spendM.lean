/-- the reference's cells and what was redeemed -/
def RS (v : Nat → Nat) (d : Nat) (g0 : Nat → Int32) (S : List En × (Nat → Nat)) (g : Nat → Int32) : Prop := MC d S.1 g ∧ (∀ x ∈ S.1, VK x.1 ∧ 1 ≤ x.2) ∧ EV v d S.1 ∧ sumP S.1 < 2 ^ 31 ∧ (∀ i, i < 10 → g (8 + i) = nI (S.2 i)) ∧ ∀ i, i < 12470 → i < 8 ∨ 18 ≤ i → g i = g0 i
theorem takeE_none {q : Nat → Bool} {w : Nat} : ∀ {E : List En}, fstE q E = none → takeE q w E = E
  | [], _ => rfl
  | x :: E, hf => by
    rw [fstE] at hf
    rw [takeE]
    by_cases hx : q x.1 = true
    · rw [if_pos hx] at hf; cases hf
    · rw [if_neg hx] at hf ⊢
      rw [takeE_none hf]
theorem takeE_keep {q : Nat → Bool} {w : Nat} {v : Nat → Nat} {d : Nat} {E : List En} (h1 : ∀ x ∈ E, VK x.1 ∧ 1 ≤ x.2) (h2 : EV v d E) : (∀ x ∈ takeE q w E, VK x.1 ∧ 1 ≤ x.2) ∧ EV v d (takeE q w E) ∧ sumP (takeE q w E) ≤ sumP E := by
  refine ⟨fun y hy => ?_, fun y hy => ?_, ?_⟩
  · obtain ⟨t, b1, b2, b3, b4⟩ := takeE_mem hy
    have := h1 t b1
    exact ⟨b2 ▸ this.1, b4 this.2⟩
  · obtain ⟨t, b1, b2, b3, b4⟩ := takeE_mem hy
    rw [← b2]; exact h2 t b1
  · cases hf : fstE q E with
    | none => rw [takeE_none hf]; exact Nat.le_refl _
    | some x => have := takeE_sum (w := w) hf; omega
/-- a cell gives and the tenth of life counts it -/
theorem RS_hit {v : Nat → Nat} {d w i e : Nat} {g0 fx g : Nat → Int32} {S : List En × (Nat → Nat)} (hV : SV v) (hM : SM v fx) (hd : d ≤ 9999) (H : RS v d g0 S g) (hg0 : g0 0 = nI d) (hw0 : 0 < w) (hw : w < 2 ^ 31) {x : En} (hxm : x ∈ S.1) (he : kD x.1 = e) {q : Nat → Bool} (hi : 12470 ≤ i) (hi2 : i < 72470) (hgi : g i = nI x.2) (hMC : MC d (takeE q w S.1) (upd g i (nI (x.2 - min x.2 w)))) : ∃ g', f_X11_redeems (nI i) (nI e) (nI w) 71 72470 fx g = some (nI (min x.2 w), g') ∧ RS v d g0 (actR v d x (min x.2 w) (takeE q w S.1, S.2)) g' := by
  have hp := mem_le_sum hxm
  have hP := H.2.2.2.1
  have hx1 := (H.2.1 x hxm).2
  have hx := (H.2.2.1 x hxm).1
  rw [he] at hx
  have hpl := partN_le (d := d) (e := e) hV hx.1
  have h0 : upd g i (nI (x.2 - min x.2 w)) 0 = nI d := by rw [upd_ne _ _ (by omega), H.2.2.2.2.2 0 (by omega) (by omega), hg0]
  obtain ⟨k1, k2, k3⟩ := takeE_keep (q := q) (w := w) H.2.1 H.2.2.1
  have e1 : (8 : Int32) + nI (partN v d e) = nI (8 + partN v d e) := nI_add 8 _
  have gg := grd2 (i := 8 + partN v d e) (n := 72470) (by omega) (by decide)
  have hmin : 0 < min x.2 w := by omega
  refine ⟨upd (upd g i (nI (x.2 - min x.2 w))) (8 + partN v d e) (nI (S.2 (partN v d e) + min x.2 w)), ?_, ?_⟩
  · unfold f_X11_redeems
    rw [M_takesAt hi2 hgi (by omega) hw, Option.bind_some, if_neg (fun hh => by have := (nI_le0 (by omega)).mp hh; omega), M_partOf hV hM h0 hd hx.1 hx.2, Option.bind_some, e1, nI_clamp (by omega), if_neg gg, if_neg gg, Option.bind_some]
    dsimp only
    rw [upd_ne _ _ (show ¬ 8 + partN v d e = i by omega), H.2.2.2.2.1 _ (by omega), nI_add]
  · refine ⟨MC_same hMC (fun j a b => by rw [upd_ne _ _ (by omega)]), k1, k2, by show sumP (takeE q w S.1) < 2 ^ 31; omega, fun j hj => ?_, fun j a b => ?_⟩
    · show _ = nI (updN S.2 (partN v d (kD x.1)) (S.2 (partN v d (kD x.1)) + min x.2 w) j)
      rw [he]
      by_cases hh : j = partN v d e
      · rw [hh, upd_at, updN_at]
      · rw [upd_ne _ _ (by omega), updN_ne _ _ hh, upd_ne _ _ (by omega)]
        exact H.2.2.2.2.1 j hj
    · rw [upd_ne _ _ (by omega), upd_ne _ _ (by omega)]
      exact H.2.2.2.2.2 j a b
theorem RS_miss {w i : Nat} {fx g : Nat → Int32} (x2 : Int32) (hi2 : i < 72470) (hw : w < 2 ^ 31) (hgi : g i = nI 0) : f_X11_redeems (nI i) x2 (nI w) 71 72470 fx g = some (nI 0, g) := by
  unfold f_X11_redeems
  have h1 : upd g i (nI (0 - min 0 w)) = g := by
    funext j
    by_cases hj : j = i
    · rw [hj, upd_at, hgi, Nat.zero_sub]
    · rw [upd_ne _ _ hj]
  rw [M_takesAt hi2 hgi (by omega) hw, h1, Nat.zero_min, Option.bind_some]
  exact if_pos (Int32.le_refl 0)
theorem RS_day {v : Nat → Nat} {d : Nat} {g0 g : Nat → Int32} {S : List En × (Nat → Nat)} (H : RS v d g0 S g) (hg0 : g0 0 = nI d) : g 0 = nI d := by rw [H.2.2.2.2.2 0 (by omega) (by omega), hg0]
/-- the reference redeems from an account -/
theorem M_redeem_own {v : Nat → Nat} {d m w : Nat} {g0 fx pa : Nat → Int32} {E : List En} {rd : Nat → Nat} (hV : SV v) (hM : SM v fx) (H : RS v d g0 (E, rd) g0) (hs : Sor E) (hd : d ≤ 9999) (hg : g0 0 = nI d) (hm : m < 12) (hw : w < 2 ^ 31) (x2 x3 t ch : Int32) {N : Nat} (hN : 2000 < N) : ∃ g', f_X11_redeem_b94 N (nI m) x2 x3 71 72470 t ch fx pa N (nI w) (nI (d + 1)) g0 = f_X11_redeem_b133 N (nI m) x2 x3 (nI (itG (qK (nI m) (-2) (-2)) (actR v d) E.length w (E, rd)).1) 71 72470 t ch fx g' pa ∧ RS v d g0 (itG (qK (nI m) (-2) (-2)) (actR v d) E.length w (E, rd)).2 g' := by
  have key : ∃ g', f_X11_redeem_b94 N (nI m) x2 x3 71 72470 t ch fx pa (N - 0) (nI w) (nI (d + 1 + 0)) g0 = f_X11_redeem_b133 N (nI m) x2 x3 (nI (itG (qK (nI m) (-2) (-2)) (actR v d) E.length w (E, rd)).1) 71 72470 t ch fx g' pa ∧ RS v d g0 (itG (qK (nI m) (-2) (-2)) (actR v d) E.length w (E, rd)).2 g' := by
    refine scanG (actR_ok v d (qK (nI m) (-2) (-2))) (fun i => mkK m (d + 1 + i) 0) 1000 w (RS v d g0) (fun i w' g => f_X11_redeem_b94 N (nI m) x2 x3 71 72470 t ch fx pa (N - i) (nI w') (nI (d + 1 + i)) g) (fun w' g => f_X11_redeem_b133 N (nI m) x2 x3 (nI w') 71 72470 t ch fx g pa) ?hend ?hzero ?hmiss ?hhit (fun S g h x hx => (h.2.1 x hx).2) ?hq ?hmono 1000 0 E.length w (E, rd) g0 (by omega) (Nat.le_refl _) cntE_le hs H ?hkey
    case hend =>
      intro w' g S _ hR
      obtain ⟨n, hn⟩ : ∃ n, N - 1000 = n + 1 := ⟨N - 1001, by omega⟩
      rw [hn, f_X11_redeem_b94, M_last (RS_day hR hg) hd, Option.bind_some, if_pos ((nI_ltI (by omega) (by omega)).mpr (by omega))]
    case hzero =>
      intro i g S hi hR
      obtain ⟨n, hn⟩ : ∃ n, N - i = n + 1 := ⟨N - i - 1, by omega⟩
      rw [hn, f_X11_redeem_b94, M_last (RS_day hR hg) hd, Option.bind_some, if_neg (fun hh => by have := (nI_ltI (by omega) (by omega)).mp hh; omega), nI_0, if_pos (Int32.le_refl 0)]
    case hmiss =>
      intro i w' g S hi h0 hw' hs' hR hp
      obtain ⟨n, hn⟩ : ∃ n, N - i = n + 1 := ⟨N - i - 1, by omega⟩
      have hn2 : N - (i + 1) = n := by omega
      refine ⟨g, ?_, hR⟩
      rw [hn, hn2, f_X11_redeem_b94, M_last (RS_day hR hg) hd, Option.bind_some, if_neg (fun hh => by have := (nI_ltI (by omega) (by omega)).mp hh; omega), if_neg (fun hh => by have := (nI_le0 (by omega)).mp hh; omega), M_accountAt (by omega), Option.bind_some, RS_miss _ (by unfold acI; omega) (by omega) (by rw [hR.1.1 m _ hm (by omega) (by omega), hp])]
      simp only [Option.bind_some, nI_1, nI_0, Int32.sub_zero]
      rfl
    case hhit =>
      intro i w' g S hi h0 hw' hs' hR x hx hxm _ hf
      obtain ⟨n, hn⟩ : ∃ n, N - i = n + 1 := ⟨N - i - 1, by omega⟩
      have hn2 : N - (i + 1) = n := by omega
      obtain ⟨g', c1, c2⟩ := RS_hit hV hM hd hR hg h0 (show w' < 2 ^ 31 by omega) hxm (e := d + 1 + i) (by rw [hx, kD_mk (by omega) (by omega)]) (q := qK (nI m) (-2) (-2)) (i := acI m (d + 1 + i)) (by unfold acI; omega) (by unfold acI; omega) (by rw [hR.1.1 m _ hm (by omega) (by omega), ← hx, pt_mem hs' hxm]) (MC_ac hd hR.1 hm (by omega) (by omega) (fun j => by
        rw [takeE_pt hs' hf, hx]
        by_cases hj : j = mkK m (d + 1 + i) 0
        · rw [if_pos hj, if_pos hj]; omega
        · rw [if_neg hj, if_neg hj]))
      refine ⟨g', ?_, c2⟩
      rw [hn, hn2, f_X11_redeem_b94, M_last (RS_day hR hg) hd, Option.bind_some, if_neg (fun hh => by have := (nI_ltI (by omega) (by omega)).mp hh; omega), if_neg (fun hh => by have := (nI_le0 (by omega)).mp hh; omega), M_accountAt (by omega), Option.bind_some, c1]
      simp only [Option.bind_some, nI_1, nI_subI (Nat.min_le_right x.2 w')]
      rfl
    case hq =>
      intro i hi
      rw [qK_list (by omega) (by rw [kL_mk (by omega) (by omega)]; omega), kL_mk (by omega) (by omega), decide_eq_true rfl]
    case hmono =>
      intro i j hij hj
      unfold mkK
      omega
    case hkey =>
      have hD : DE d E := fun x hx => by
        have := (H.2.2.1 x hx).1
        have := hV.2.1.2.1
        omega
      exact fun y hy hq => qA_key H.2.1 hD hm y hy (by rw [qK_list (by omega) (H.2.1 y hy).1.1] at hq; exact hq)
  exact key
/-- the place in a pool's cells: the rounds of the days, the members in them -/
def poolM (v : Nat → Nat) (N : Nat) (x1 x2 x3 x7 : Int32) (d : Nat) (t ch : Int32) (fx pa : Nat → Int32) (i w : Nat) (g : Nat → Int32) : Option (Int32 × Int32 × Int32 × (Nat → Int32) × (Nat → Int32)) := if i % 12 = 0 then f_X11_redeem_b145 N x1 x2 x3 x7 71 72470 t ch fx pa (N - i / 12) (nI w) (nI (d + 1 + i / 12)) g else if i % 12 < v 3 then f_X11_redeem_b162 (f_X11_redeem_b145 N x1 x2 x3 x7 71 72470 t ch fx pa (N - i / 12 - 1)) x3 (nI (d + 1 + i / 12)) 71 72470 fx (N - i % 12) (nI w) (nI (i % 12)) g else f_X11_redeem_b145 N x1 x2 x3 x7 71 72470 t ch fx pa (N - i / 12 - 1) (nI w) (nI (d + 1 + i / 12 + 1)) g
/-- from within a round on to the next place -/
theorem poolM_next {v : Nat → Nat} {N d i w : Nat} {fx pa : Nat → Int32} (hV : SV v) (hM : SM v fx) (hN : 2000 < N) (x1 x2 x3 x7 t ch : Int32) (hi : i < 12000) (h3 : i % 12 < v 3) (g : Nat → Int32) : f_X11_redeem_b162 (f_X11_redeem_b145 N x1 x2 x3 x7 71 72470 t ch fx pa (N - i / 12 - 1)) x3 (nI (d + 1 + i / 12)) 71 72470 fx (N - i % 12 - 1) (nI w) (nI (i % 12 + 1)) g = poolM v N x1 x2 x3 x7 d t ch fx pa (i + 1) w g := by
  have hv3 := hV.1.2.2.2.2.1
  have gd3 : ¬ ((3 : Int32) < 0 ∨ 71 ≤ (3 : Int32).toNatClampNeg) := by decide
  have hend : ¬ i % 12 + 1 < v 3 → f_X11_redeem_b162 (f_X11_redeem_b145 N x1 x2 x3 x7 71 72470 t ch fx pa (N - i / 12 - 1)) x3 (nI (d + 1 + i / 12)) 71 72470 fx (N - i % 12 - 1) (nI w) (nI (i % 12 + 1)) g = f_X11_redeem_b145 N x1 x2 x3 x7 71 72470 t ch fx pa (N - i / 12 - 1) (nI w) (nI (d + 1 + i / 12 + 1)) g := by
    intro h
    obtain ⟨n, hn⟩ : ∃ n, N - i % 12 - 1 = n + 1 := ⟨N - i % 12 - 2, by omega⟩
    rw [hn, f_X11_redeem_b162, if_neg gd3, show (3 : Int32).toNatClampNeg = 3 from rfl, hM 3 (by omega), if_pos ((nI_leI (by omega) (by omega)).mpr (by omega)), Option.bind_some, nI_1]
  unfold poolM
  by_cases h : (i + 1) % 12 = 0
  · rw [if_pos h, hend (by omega), show N - (i + 1) / 12 = N - i / 12 - 1 by omega, show d + 1 + (i + 1) / 12 = d + 1 + i / 12 + 1 by omega]
  · rw [if_neg h, show (i + 1) / 12 = i / 12 by omega, show (i + 1) % 12 = i % 12 + 1 by omega]
    by_cases h2 : i % 12 + 1 < v 3
    · rw [if_pos h2, show N - (i % 12 + 1) = N - i % 12 - 1 by omega]
    · rw [if_neg h2, hend h2]
/-- into a round -/
theorem poolM_in {v : Nat → Nat} {N d i w : Nat} {fx pa g : Nat → Int32} (hN : 2000 < N) (x1 x2 x3 x7 t ch : Int32) (hi : i < 12000) (h3 : i % 12 < v 3) (hg : g 0 = nI d) (hd : d ≤ 9999) (hw : 0 < w) (hw2 : w < 2 ^ 31) : poolM v N x1 x2 x3 x7 d t ch fx pa i w g = f_X11_redeem_b162 (f_X11_redeem_b145 N x1 x2 x3 x7 71 72470 t ch fx pa (N - i / 12 - 1)) x3 (nI (d + 1 + i / 12)) 71 72470 fx (N - i % 12) (nI w) (nI (i % 12)) g := by
  unfold poolM
  by_cases h : i % 12 = 0
  · obtain ⟨n, hn⟩ : ∃ n, N - i / 12 = n + 1 := ⟨N - i / 12 - 1, by omega⟩
    rw [if_pos h, h, hn, f_X11_redeem_b145, M_last hg hd, Option.bind_some, if_neg (fun hh => by have := (nI_ltI (by omega) (by omega)).mp hh; omega), if_neg (fun hh => by have := (nI_le0 hw2).mp hh; omega)]
    rfl
  · rw [if_neg h, if_pos h3]
/-- the reference redeems from a pool -/
theorem M_redeem_pool {v : Nat → Nat} {d h w : Nat} {g0 g fx pa : Nat → Int32} {S : List En × (Nat → Nat)} (hV : SV v) (h3p : 0 < v 3) (hM : SM v fx) (H : RS v d g0 S g) (hs : Sor S.1) (hd : d ≤ 9999) (hg : g0 0 = nI d) (hh : h < 4) (hw : w < 2 ^ 31) (x1 x2 x7 t ch : Int32) {N : Nat} (hN : 2000 < N) : ∃ g', f_X11_redeem_b145 N x1 x2 (nI h) x7 71 72470 t ch fx pa N (nI w) (nI (d + 1)) g = f_X11_redeem_b211 N x1 x2 x7 72470 t ch g' pa ∧ RS v d g0 (itG (qK (nI (12 + h)) (-2) (-2)) (actR v d) S.1.length w S).2 g' := by
  have hv3 := hV.1.2.2.2.2.1
  have gd3 : ¬ ((3 : Int32) < 0 ∨ 71 ≤ (3 : Int32).toNatClampNeg) := by decide
  have hzero1 : ∀ (n : Nat) (x8 : Int32) (g : Nat → Int32) (S : List En × (Nat → Nat)), RS v d g0 S g → f_X11_redeem_b145 N x1 x2 (nI h) x7 71 72470 t ch fx pa (n + 1) (nI 0) x8 g = f_X11_redeem_b211 N x1 x2 x7 72470 t ch g pa := by
    intro n x8 g S hR
    rw [f_X11_redeem_b145, M_last (RS_day hR hg) hd, Option.bind_some, nI_0, if_pos (Int32.le_refl 0)]
    exact ite_self _
  have key : ∃ g', poolM v N x1 x2 (nI h) x7 d t ch fx pa 0 w g = f_X11_redeem_b211 N x1 x2 x7 72470 t ch g' pa ∧ RS v d g0 (itG (qK (nI (12 + h)) (-2) (-2)) (actR v d) S.1.length w S).2 g' := by
    refine scanG (actR_ok v d (qK (nI (12 + h)) (-2) (-2))) (fun i => mkK (12 + h) (d + 1 + i / 12) (i % 12 + 1)) 12000 w (RS v d g0) (fun i w' g => poolM v N x1 x2 (nI h) x7 d t ch fx pa i w' g) (fun w' g => f_X11_redeem_b211 N x1 x2 x7 72470 t ch g pa) ?hend ?hzero ?hmiss ?hhit (fun S g h x hx => (h.2.1 x hx).2) ?hq ?hmono 12000 0 S.1.length w S g (by omega) (Nat.le_refl _) cntE_le hs H ?hkey
    case hend =>
      intro w' g S _ hR
      obtain ⟨n, hn⟩ : ∃ n, N - 12000 / 12 = n + 1 := ⟨N - 1001, by omega⟩
      unfold poolM
      rw [if_pos (by omega), hn, f_X11_redeem_b145, M_last (RS_day hR hg) hd, Option.bind_some, if_pos ((nI_ltI (by omega) (by omega)).mpr (by omega))]
    case hzero =>
      intro i g S hi hR
      unfold poolM
      by_cases h1 : i % 12 = 0
      · obtain ⟨n, hn⟩ : ∃ n, N - i / 12 = n + 1 := ⟨N - i / 12 - 1, by omega⟩
        rw [if_pos h1, hn, hzero1 n _ g S hR]
      · obtain ⟨n, hn⟩ : ∃ n, N - i / 12 - 1 = n + 1 := ⟨N - i / 12 - 2, by omega⟩
        rw [if_neg h1]
        by_cases h2 : i % 12 < v 3
        · obtain ⟨n2, hn2⟩ : ∃ n2, N - i % 12 = n2 + 1 := ⟨N - i % 12 - 1, by omega⟩
          rw [if_pos h2, hn, hn2, f_X11_redeem_b162, if_neg gd3, show (3 : Int32).toNatClampNeg = 3 from rfl, hM 3 (by omega), if_neg (fun hh => by have := (nI_leI (by omega) (by omega)).mp hh; omega), if_pos (by rw [nI_0]; exact Int32.le_refl 0), Option.bind_some, hzero1 n _ g S hR]
        · rw [if_neg h2, hn, hzero1 n _ g S hR]
    case hmiss =>
      intro i w' g S hi h0 hw' hs' hR hp
      refine ⟨g, ?_, hR⟩
      by_cases h3 : i % 12 < v 3
      · obtain ⟨n, hn⟩ : ∃ n, N - i % 12 = n + 1 := ⟨N - i % 12 - 1, by omega⟩
        rw [poolM_in hN x1 x2 (nI h) x7 t ch hi h3 (RS_day hR hg) hd h0 (by omega), ← poolM_next hV hM hN x1 x2 (nI h) x7 t ch hi h3 g, hn, f_X11_redeem_b162, if_neg gd3, show (3 : Int32).toNatClampNeg = 3 from rfl, hM 3 (by omega), if_neg (fun hh => by have := (nI_leI (by omega) (by omega)).mp hh; omega), if_neg (fun hh => by have := (nI_le0 (by omega)).mp hh; omega), M_poolAt (by omega), Option.bind_some, RS_miss _ (by unfold poI; omega) (by omega) (by rw [hR.1.2 h _ _ hh (by omega) (by omega) (by omega), hp])]
        simp only [Option.bind_some, nI_1, nI_0, Int32.sub_zero]
        rfl
      · by_cases h1 : i % 12 = 0
        · exfalso
          omega
        · unfold poolM
          rw [if_neg h1, if_neg h3]
          by_cases h4 : (i + 1) % 12 = 0
          · rw [if_pos h4, show N - (i + 1) / 12 = N - i / 12 - 1 by omega, show d + 1 + (i + 1) / 12 = d + 1 + i / 12 + 1 by omega]
          · rw [if_neg h4, if_neg (by omega), show (i + 1) / 12 = i / 12 by omega]
    case hhit =>
      intro i w' g S hi h0 hw' hs' hR x hx hxm _ hf
      have h3 : i % 12 < v 3 := by
        have h5 := (hR.2.2.1 x hxm).2.2
        rw [hx, kL_mk (by omega) (by omega), kC_mk (by omega)] at h5
        have := h5 (by omega)
        omega
      obtain ⟨n, hn⟩ : ∃ n, N - i % 12 = n + 1 := ⟨N - i % 12 - 1, by omega⟩
      obtain ⟨g', c1, c2⟩ := RS_hit hV hM hd hR hg h0 (show w' < 2 ^ 31 by omega) hxm (e := d + 1 + i / 12) (by rw [hx, kD_mk (by omega) (by omega)]) (q := qK (nI (12 + h)) (-2) (-2)) (i := poI h (d + 1 + i / 12) (i % 12)) (by unfold poI; omega) (by unfold poI; omega) (by rw [hR.1.2 h _ _ hh (by omega) (by omega) (by omega), ← hx, pt_mem hs' hxm]) (MC_po hd hR.1 hh (by omega) (by omega) (by omega) (fun j => by
        rw [takeE_pt hs' hf, hx]
        by_cases hj : j = mkK (12 + h) (d + 1 + i / 12) (i % 12 + 1)
        · rw [if_pos hj, if_pos hj]; omega
        · rw [if_neg hj, if_neg hj]))
      refine ⟨g', ?_, c2⟩
      rw [poolM_in hN x1 x2 (nI h) x7 t ch hi h3 (RS_day hR hg) hd h0 (by omega), ← poolM_next hV hM hN x1 x2 (nI h) x7 t ch hi h3 g', hn, f_X11_redeem_b162, if_neg gd3, show (3 : Int32).toNatClampNeg = 3 from rfl, hM 3 (by omega), if_neg (fun hh => by have := (nI_leI (by omega) (by omega)).mp hh; omega), if_neg (fun hh => by have := (nI_le0 (by omega)).mp hh; omega), M_poolAt (by omega), Option.bind_some, c1]
      simp only [Option.bind_some, nI_1, nI_subI (Nat.min_le_right x.2 w')]
      rfl
    case hq =>
      intro i hi
      rw [qK_list (by omega) (by rw [kL_mk (by omega) (by omega)]; omega), kL_mk (by omega) (by omega), decide_eq_true rfl]
    case hmono =>
      intro i j hij hj
      unfold mkK
      omega
    case hkey =>
      intro y hy hq
      rw [qK_list (by omega) (H.2.1 y hy).1.1] at hq
      have h1 : kL y.1 = 12 + h := of_decide_eq_true hq
      have h2 := (H.2.2.1 y hy).1
      have h5 := hV.2.1.2.1
      have h3 := (H.2.1 y hy).1.2
      refine ⟨(kD y.1 - (d + 1)) * 12 + (kC y.1 - 1), Nat.zero_le _, by omega, ?_⟩
      have e1 : ((kD y.1 - (d + 1)) * 12 + (kC y.1 - 1)) / 12 = kD y.1 - (d + 1) := by omega
      have e2 : ((kD y.1 - (d + 1)) * 12 + (kC y.1 - 1)) % 12 = kC y.1 - 1 := by omega
      rw [e1, e2, show d + 1 + (kD y.1 - (d + 1)) = kD y.1 by omega, show kC y.1 - 1 + 1 = kC y.1 by omega, ← h1, mk_k]
  have h00 : poolM v N x1 x2 (nI h) x7 d t ch fx pa 0 w g = f_X11_redeem_b145 N x1 x2 (nI h) x7 71 72470 t ch fx pa N (nI w) (nI (d + 1)) g := by
    unfold poolM
    rw [if_pos rfl]
    rfl
  rw [h00] at key
  exact key

