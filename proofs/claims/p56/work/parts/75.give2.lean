/-- the class gives with credits, from one list -/
theorem C_give_from {v : Nat → Nat} {d m2 : Nat} (hm3 : m2 < v 3) (hm2 : m2 < 12) (x1 x3 : Int32) {N : Nat} (hN : 1024 < N) (hq : QOut (qK x1 (-2) (-2)) m2) (nx sz : Int32) (dp tt0 : Nat → Int32) : ∀ (n r w : Nat) (S : List En × ((Nat → Nat) × Nat)) (z : Int32) (gl gd gc gp de tt : Nat → Int32), CoE S.1 z gl gd gc gp → EV v d S.1 → (∀ j, j < 12 → de j = nI (S.2.1 j)) → S.2.1 m2 < 2 ^ 31 → (∀ j, tt j = if j = 4 then tt0 4 + nI S.2.2 else tt0 j) → w < 2 ^ 31 → r < n → r ≤ 1024 → (w = 0 ∨ S.1.length < 1024) → ∃ (o : T_CO) (de' tt' : Nat → Int32), f_X0_give_b15 N x1 (nI m2) x3 1024 1024 1024 1024 120 12 5 (nI d) nx sz dp n (nI S.2.2) (nI w) (nI r) z gl gd gc gp de tt = f_X0_give_b99 x1 x3 (nI (itG (qK x1 (-2) (-2)) (actC m2) r w S).2.2.2) 120 (nI d) o.1 o.2.1 o.2.2.1 o.2.2.2.1 o.2.2.2.2 nx sz dp de' tt' ∧ CoE (itG (qK x1 (-2) (-2)) (actC m2) r w S).2.1 o.1 o.2.1 o.2.2.1 o.2.2.2.1 o.2.2.2.2 ∧ (∀ j, j < 12 → de' j = nI ((itG (qK x1 (-2) (-2)) (actC m2) r w S).2.2.1 j)) ∧ ∀ j, tt' j = if j = 4 then tt0 4 + nI (itG (qK x1 (-2) (-2)) (actC m2) r w S).2.2.2 else tt0 j := by
  intro n
  induction n with
  | zero => intro r w S z gl gd gc gp de tt H hE hde hD htt hw h1 h2 h3; omega
  | succ n ih =>
    intro r w S z gl gd gc gp de tt H hE hde hD htt hw h1 h2 h3
    rw [f_X0_give_b15]
    cases r with
    | zero =>
      rw [nI_0, if_pos (Int32.le_refl 0)]
      exact ⟨(z, gl, gd, gc, gp), de, tt, rfl, H, hde, htt⟩
    | succ r =>
      rw [if_neg (nI_nle (Nat.succ_pos r) (by omega))]
      by_cases hw0 : w = 0
      · rw [hw0, itG_zero, nI_0, if_pos (Int32.le_refl 0)]
        exact ⟨(z, gl, gd, gc, gp), de, tt, rfl, H, hde, htt⟩
      · rw [if_neg (fun hh => hw0 ((nI_le0 hw).mp hh))]
        cases E_first H x1 (-2) (-2) hN with
        | inl h =>
          rw [h.2, Option.bind_some, if_pos rfl, itG_none _ _ _ _ _ h.1]
          exact ⟨(z, gl, gd, gc, gp), de, tt, rfl, H, hde, htt⟩
        | inr h =>
          obtain ⟨j, x, k1, k2, k3, k4, k5, k6, k7, k8, k9, k10, k11⟩ := h
          obtain ⟨o, l1, l2⟩ := k11 w hw
          have hts := takeE_sum (w := w) k5
          have hsm := H.2.2.2
          have htl := takeE_length (q := qK x1 (-2) (-2)) (w := w) (E := S.1)
          have hmin := Nat.min_le_right x.2 w
          obtain ⟨o2, c1, c2⟩ := C_credit l2 (m := m2) (e := kD x.1) (n := min x.2 w) (D := S.2.1 m2) (db := de) (tt := tt) hm2 (kD_lt _) (hde m2 hm2) hD (by omega) (by omega) (by omega) hN
          obtain ⟨a1, a2, a3, a4, a5, a6, a7, a8⟩ := actC_step (w := w) hm3 hm2 H.2.1 H.2.2.1 hE k5
          rw [itG_some _ _ _ _ _ hw0 k5, k6, Option.bind_some, if_neg k2]
          unfold f_X1_dayOf
          rw [X6_at_in gd (by decide) k1, Option.bind_some, Option.bind_some, k8, l1, Option.bind_some]
          dsimp only
          rw [c1, Option.bind_some, nI_add, Option.bind_some, nI_subI (Nat.min_le_right _ _), Option.bind_some, show nI (r + 1) + (-1 : Int32) = nI r by rw [← Int32.sub_eq_add_neg]; exact nI_pred r, Option.bind_some]
          refine ih r (w - min x.2 w) (actC m2 x (min x.2 w) (takeE (qK x1 (-2) (-2)) w S.1, S.2)) _ _ _ _ _ _ _ c2 a3 (fun i hi => ?_) ?_ (fun i => ?_) (by omega) (by omega) (by omega) ?_
          · show upd de m2 (nI (S.2.1 m2 - min (min x.2 w) (S.2.1 m2))) i = nI (updN S.2.1 m2 (S.2.1 m2 - min (min x.2 w) (S.2.1 m2)) i)
            by_cases e : i = m2
            · rw [e, upd_at, updN_at]
            · rw [upd_ne _ _ e, updN_ne _ _ e]; exact hde i hi
          · show updN S.2.1 m2 (S.2.1 m2 - min (min x.2 w) (S.2.1 m2)) m2 < 2 ^ 31
            rw [updN_at]; omega
          · show upd tt 4 (tt 4 + nI (min (min x.2 w) (S.2.1 m2))) i = if i = 4 then tt0 4 + nI (S.2.2 + min (min x.2 w) (S.2.1 m2)) else tt0 i
            by_cases e : i = 4
            · rw [e, upd_at, if_pos rfl, htt 4, if_pos rfl, Int32.add_assoc, nI_add]
            · rw [upd_ne _ _ e, if_neg e, htt i, if_neg e]
          · by_cases hle : x.2 ≤ w
            · right
              have := a8 hle
              omega
            · left
              rw [Nat.min_eq_right (by omega)]; omega
/-- the reference's cells, debts and settled points -/
def RC (v : Nat → Nat) (d m2 : Nat) (g0 : Nat → Int32) (S : List En × ((Nat → Nat) × Nat)) (g : Nat → Int32) : Prop := MC d S.1 g ∧ (∀ x ∈ S.1, VK x.1 ∧ 1 ≤ x.2) ∧ EV v d S.1 ∧ sumP S.1 + S.2.2 < 2 ^ 31 ∧ (g (18 + m2) = nI (S.2.1 m2) ∧ S.2.1 m2 < 2 ^ 31) ∧ g 7 = g0 7 + nI S.2.2 ∧ ∀ i, i < 12470 → ¬ i = 7 → ¬ i = 18 + m2 → g i = g0 i
theorem RC_day {v : Nat → Nat} {d m2 : Nat} {g0 g : Nat → Int32} {S : List En × ((Nat → Nat) × Nat)} (H : RC v d m2 g0 S g) (hg0 : g0 0 = nI d) : g 0 = nI d := by rw [H.2.2.2.2.2.2 0 (by omega) (by omega) (by omega), hg0]
theorem addI_subI (a b c : Int32) : a + b - c = a - c + b := by
  rw [Int32.sub_eq_add_neg, Int32.sub_eq_add_neg, Int32.add_assoc, Int32.add_comm b, ← Int32.add_assoc]
/-- a cell gives, and the points are credited -/
theorem RC_hit {v : Nat → Nat} {d m2 w i e : Nat} {g0 g g1 : Nat → Int32} {S : List En × ((Nat → Nat) × Nat)} (H : RC v d m2 g0 S g) (hd : d ≤ 9999) (hm3 : m2 < v 3) (hm2 : m2 < 12) (hs : Sor S.1) (hw : w < 2 ^ 31) {x : En} (he : kD x.1 = e) {q : Nat → Bool} (hf : fstE q S.1 = some x) (hi : 12470 ≤ i) (hg1 : g1 = upd g i (nI (x.2 - min x.2 w))) (hMC : MC d (takeE q w S.1) g1) (hv5 : v 5 ≤ 1000) : ∃ g', f_X11_credits (nI m2) (nI (min x.2 w)) (nI e) 72470 g1 = some (nI (min (min x.2 w) (S.2.1 m2)), g') ∧ RC v d m2 g0 (actC m2 x (min x.2 w) (takeE q w S.1, S.2)) g' ∧ g' 7 = g 7 + nI (min (min x.2 w) (S.2.1 m2)) := by
  have hx := (H.2.2.1 x (fstE_some hs hf).1).1
  rw [he] at hx
  obtain ⟨a1, a2, a3, a4, a5, a6, a7, a8⟩ := actC_step (w := w) hm3 hm2 hs H.2.1 H.2.2.1 hf
  have hmin := Nat.min_le_right x.2 w
  have hP := H.2.2.2.1
  obtain ⟨g', c1, c2, c3, c4, c5⟩ := M_credits hMC (takeE_sor hs) hd hm2 (e := e) (n := min x.2 w) (D := S.2.1 m2) hx.1 (by omega) (by rw [hg1, upd_ne _ _ (by omega)]; exact H.2.2.2.2.1.1) H.2.2.2.2.1.2 (by omega)
  have h7 : g' 7 = g 7 + nI (min (min x.2 w) (S.2.1 m2)) := by rw [c4, hg1, upd_ne _ _ (by omega)]
  refine ⟨g', c1, ⟨?_, a2, a3, by omega, ⟨?_, ?_⟩, ?_, fun j b1 b2 b3 => ?_⟩, h7⟩
  · unfold actC
    rw [he]
    exact c2
  · show _ = nI (updN S.2.1 m2 (S.2.1 m2 - min (min x.2 w) (S.2.1 m2)) m2)
    rw [c3, updN_at]
  · show updN S.2.1 m2 (S.2.1 m2 - min (min x.2 w) (S.2.1 m2)) m2 < 2 ^ 31
    rw [updN_at]
    have := H.2.2.2.2.1.2
    omega
  · show _ = g0 7 + nI (S.2.2 + min (min x.2 w) (S.2.1 m2))
    rw [h7, H.2.2.2.2.2.1, Int32.add_assoc, nI_add]
  · rw [c5 j b1 b3 b2, hg1, upd_ne _ _ (by omega)]
    exact H.2.2.2.2.2.2 j b1 b2 b3
/-- nothing is credited -/
theorem RC_miss {v : Nat → Nat} {d m2 e : Nat} {g0 g : Nat → Int32} {S : List En × ((Nat → Nat) × Nat)} (H : RC v d m2 g0 S g) (hd : d ≤ 9999) (hm2 : m2 < 12) (hs : Sor S.1) (h1 : d < e) (h2 : e ≤ d + 1000) : ∃ g', f_X11_credits (nI m2) (nI 0) (nI e) 72470 g = some (nI 0, g') ∧ RC v d m2 g0 S g' ∧ g' 7 = g 7 := by
  obtain ⟨g', c1, c2, c3, c4, c5⟩ := M_credits H.1 hs hd hm2 (e := e) (n := 0) (D := S.2.1 m2) h1 h2 H.2.2.2.2.1.1 H.2.2.2.2.1.2 (by omega)
  rw [Nat.zero_min] at c1 c2 c3 c4
  have h7 : g' 7 = g 7 := by rw [c4, nI_0, Int32.add_zero]
  refine ⟨g', c1, ⟨?_, H.2.1, H.2.2.1, H.2.2.2.1, ⟨by rw [c3, Nat.sub_zero], H.2.2.2.2.1.2⟩, by rw [h7]; exact H.2.2.2.2.2.1, fun j b1 b2 b3 => by rw [c5 j b1 b3 b2]; exact H.2.2.2.2.2.2 j b1 b2 b3⟩, h7⟩
  unfold addE at c2
  rw [if_pos (by omega)] at c2
  exact c2
/-- the reference transfers -/
theorem M_transfer_loop {v : Nat → Nat} {d m m2 w : Nat} {g0 pa : Nat → Int32} {S : List En × ((Nat → Nat) × Nat)} (hV : SV v) (H : RC v d m2 g0 S g0) (hs : Sor S.1) (hd : d ≤ 9999) (hg : g0 0 = nI d) (hm : m < 12) (hm3 : m2 < v 3) (hm2 : m2 < 12) (hne : ¬ m = m2) (hw : w < 2 ^ 31) (x3 t ch : Int32) {N : Nat} (hN : 2000 < N) : ∃ g', f_X11_transfer_b76 N (nI m) (nI m2) x3 72470 t ch pa N (nI w) (g0 7 - g0 7) (nI (d + 1)) g0 = f_X11_transfer_b131 N (nI m) x3 (g' 7 - g0 7) 72470 t ch g' pa ∧ RC v d m2 g0 (itG (qK (nI m) (-2) (-2)) (actC m2) S.1.length w S).2 g' := by
  have hv5 := hV.2.1.2.1
  have hq : QOut (qK (nI m) (-2) (-2)) m2 := fun e he => by
    rw [qK_list (by omega) (by rw [kL_mk he (by omega)]; omega), kL_mk he (by omega), decide_eq_false (fun hh => hne hh.symm)]
  have key : ∃ g', f_X11_transfer_b76 N (nI m) (nI m2) x3 72470 t ch pa (N - 0) (nI w) (g0 7 - g0 7) (nI (d + 1 + 0)) g0 = f_X11_transfer_b131 N (nI m) x3 (g' 7 - g0 7) 72470 t ch g' pa ∧ RC v d m2 g0 (itG (qK (nI m) (-2) (-2)) (actC m2) S.1.length w S).2 g' := by
    refine scanG (actC_ok hq) (fun i => mkK m (d + 1 + i) 0) 1000 w (RC v d m2 g0) (fun i w' g => f_X11_transfer_b76 N (nI m) (nI m2) x3 72470 t ch pa (N - i) (nI w') (g 7 - g0 7) (nI (d + 1 + i)) g) (fun w' g => f_X11_transfer_b131 N (nI m) x3 (g 7 - g0 7) 72470 t ch g pa) ?hend ?hzero ?hmiss ?hhit (fun S g h x hx => (h.2.1 x hx).2) ?hq ?hmono 1000 0 S.1.length w S g0 (by omega) (Nat.le_refl _) cntE_le hs H ?hkey
    case hend =>
      intro w' g S _ hR
      obtain ⟨n, hn⟩ : ∃ n, N - 1000 = n + 1 := ⟨N - 1001, by omega⟩
      rw [hn, f_X11_transfer_b76, M_last (RC_day hR hg) hd, Option.bind_some, if_pos ((nI_ltI (by omega) (by omega)).mpr (by omega))]
    case hzero =>
      intro i g S hi hR
      obtain ⟨n, hn⟩ : ∃ n, N - i = n + 1 := ⟨N - i - 1, by omega⟩
      rw [hn, f_X11_transfer_b76, M_last (RC_day hR hg) hd, Option.bind_some, if_neg (fun hh => by have := (nI_ltI (by omega) (by omega)).mp hh; omega), nI_0, if_pos (Int32.le_refl 0)]
    case hmiss =>
      intro i w' g S hi h0 hw' hs' hR hp
      obtain ⟨n, hn⟩ : ∃ n, N - i = n + 1 := ⟨N - i - 1, by omega⟩
      have hn2 : N - (i + 1) = n := by omega
      obtain ⟨g', c1, c2, c3⟩ := RC_miss hR hd hm2 hs' (e := d + 1 + i) (by omega) (by omega)
      refine ⟨g', ?_, c2⟩
      have hcell : g (acI m (d + 1 + i)) = nI 0 := by rw [hR.1.1 m _ hm (by omega) (by omega), hp]
      have hta : f_X11_takesAt (nI (acI m (d + 1 + i))) (nI w') 72470 g = some (nI 0, g) := by
        rw [M_takesAt (p := 0) (by unfold acI; omega) hcell (by omega) (by omega), Nat.zero_min]
        congr 2
        funext j
        by_cases hj : j = acI m (d + 1 + i)
        · rw [hj, upd_at, hcell]
        · rw [upd_ne _ _ hj]
      rw [hn, hn2, f_X11_transfer_b76, M_last (RC_day hR hg) hd, Option.bind_some, if_neg (fun hh => by have := (nI_ltI (by omega) (by omega)).mp hh; omega), if_neg (fun hh => by have := (nI_le0 (by omega)).mp hh; omega), M_accountAt (by omega), Option.bind_some, hta, Option.bind_some, Option.bind_some]
      dsimp only
      rw [c1, Option.bind_some, Option.bind_some, Option.bind_some, nI_1, c3]
      dsimp only
      rw [nI_0, Int32.sub_zero, Int32.add_zero]
      rfl
    case hhit =>
      intro i w' g S hi h0 hw' hs' hR x hx hxm _ hf
      obtain ⟨n, hn⟩ : ∃ n, N - i = n + 1 := ⟨N - i - 1, by omega⟩
      have hn2 : N - (i + 1) = n := by omega
      have hsm := mem_le_sum hxm
      have hP := hR.2.2.2.1
      have hcell : g (acI m (d + 1 + i)) = nI x.2 := by rw [hR.1.1 m _ hm (by omega) (by omega), ← hx, pt_mem hs' hxm]
      have hta := M_takesAt (i := acI m (d + 1 + i)) (w := w') (by unfold acI; omega) hcell (by omega) (by omega)
      obtain ⟨g', c1, c2, c3⟩ := RC_hit hR hd hm3 hm2 hs' (show w' < 2 ^ 31 by omega) (e := d + 1 + i) (by rw [hx, kD_mk (by omega) (by omega)]) hf (i := acI m (d + 1 + i)) (by unfold acI; omega) rfl (MC_ac hd hR.1 hm (by omega) (by omega) (fun j => by
        rw [takeE_pt hs' hf, hx]
        by_cases hj : j = mkK m (d + 1 + i) 0
        · rw [if_pos hj, if_pos hj]; omega
        · rw [if_neg hj, if_neg hj])) hv5
      refine ⟨g', ?_, c2⟩
      rw [hn, hn2, f_X11_transfer_b76, M_last (RC_day hR hg) hd, Option.bind_some, if_neg (fun hh => by have := (nI_ltI (by omega) (by omega)).mp hh; omega), if_neg (fun hh => by have := (nI_le0 (by omega)).mp hh; omega), M_accountAt (by omega), Option.bind_some, hta, Option.bind_some, Option.bind_some]
      dsimp only
      rw [c1, Option.bind_some, Option.bind_some, Option.bind_some, nI_1, c3, addI_subI, nI_subI (Nat.min_le_right _ _)]
      rfl
    case hq =>
      intro i hi
      rw [qK_list (by omega) (by rw [kL_mk (by omega) (by omega)]; omega), kL_mk (by omega) (by omega), decide_eq_true rfl]
    case hmono =>
      intro i j hij hj
      unfold mkK
      omega
    case hkey =>
      have hD : DE d S.1 := fun x hx => by
        have := (H.2.2.1 x hx).1
        omega
      exact fun y hy hq => qA_key H.2.1 hD hm y hy (by rw [qK_list (by omega) (H.2.1 y hy).1.1] at hq; exact hq)
  exact key

