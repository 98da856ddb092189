theorem sumQ_two {q q' : Nat → Bool} : ∀ {E : List En}, (∀ x ∈ E, q x.1 = true → q' x.1 = false) → sumQ q E + sumQ q' E ≤ sumP E
  | [], _ => Nat.le_refl 0
  | x :: E, h => by
    have ih := sumQ_two (E := E) (fun y hy => h y (List.mem_cons_of_mem _ hy))
    have h1 := h x List.mem_cons_self
    rw [sumQ, sumQ, sumP]
    by_cases h2 : q x.1 = true
    · rw [if_pos h2, h1 h2, if_neg Bool.false_ne_true]; omega
    · rw [if_neg h2]
      by_cases h3 : q' x.1 = true
      · rw [if_pos h3]; omega
      · rw [if_neg h3]; omega
/-- what a member can redeem -/
def avN (m ho : Nat) (E : List En) : Nat := sumQ (fun k => decide (kL k = m)) E + (if ho = 0 then 0 else sumQ (fun k => decide (kL k = 11 + ho)) E)
theorem avN_le {m ho : Nat} {E : List En} (hm : m < 12) : avN m ho E ≤ sumP E := by
  unfold avN
  by_cases h : ho = 0
  · rw [if_pos h]; exact sumQ_le
  · rw [if_neg h]
    refine sumQ_two (fun x _ hx => ?_)
    have := of_decide_eq_true hx
    exact decide_eq_false (by omega)
theorem C_poolSum {E : List En} {z : Int32} {gl gd gc gp : Nat → Int32} (H : CoE E z gl gd gc gp) {ho : Nat} (hh : ho ≤ 4) {N : Nat} (hN : 1024 < N) : f_X1_sum N (if ho = 0 then -1 else nI (11 + ho)) (-2) 1024 1024 1024 z gl gc gp = some (nI (if ho = 0 then 0 else sumQ (fun k => decide (kL k = 11 + ho)) E)) := by
  by_cases h : ho = 0
  · rw [if_pos h, if_pos h, E_sum H _ _ hN, sumQ_zero (fun x hx => qK_none (H.2.2.1 x hx).1.1)]
  · rw [if_neg h, if_neg h, C_balance H (by omega) hN]
theorem C_redeemable {E : List En} {z : Int32} {gl gd gc gp hm : Nat → Int32} (H : CoE E z gl gd gc gp) {m ho : Nat} (hm12 : m < 12) (hho : hm m = cI ho) (hh : ho ≤ 4) {N : Nat} (hN : 1024 < N) : f_X0_redeemable N (nI m) 1024 1024 1024 12 z gl gc gp hm = some (nI (avN m ho E)) := by
  unfold f_X0_redeemable f_X0_poolOf
  rw [C_balance H (by omega) hN, Option.bind_some, X6_at_in hm h12 hm12, Option.bind_some, hho, C_poolList hh, Option.bind_some, Option.bind_some, C_poolSum H hh hN, Option.bind_some, nI_add]
  rfl
/-- the members' and the pools' part of a redemption -/
def spendE (v : Nat → Nat) (d m ho w : Nat) (E : List En) (rd : Nat → Nat) : Nat × (List En × (Nat → Nat)) := itG (qK (if ho = 0 then -1 else nI (11 + ho)) (-2) (-2)) (actR v d) (itG (qK (nI m) (-2) (-2)) (actR v d) E.length w (E, rd)).2.1.length (itG (qK (nI m) (-2) (-2)) (actR v d) E.length w (E, rd)).1 (itG (qK (nI m) (-2) (-2)) (actR v d) E.length w (E, rd)).2
theorem spendE_zero {v : Nat → Nat} {d m ho w : Nat} {E : List En} {rd : Nat → Nat} (hV : SV v) (hs : Sor E) (hv : ∀ x ∈ E, VK x.1 ∧ 1 ≤ x.2) (hE : EV v d E) (hm : m < 12) (hho : ho ≤ 4) (hw : w ≤ avN m ho E) : (spendE v d m ho w E rd).1 = 0 := by
  obtain ⟨a1, a2, a3, a4, a5, a6, a7, a8⟩ := itR_ok v d hV (qK (nI m) (-2) (-2)) E.length w (E, rd) hs hv hE
  have hl1 := itG_left (q := qK (nI m) (-2) (-2)) (act := actR v d) (fun x n S h => ⟨h, rfl, rfl⟩) E.length w (E, rd) hs cntE_le
  have hl2 := itG_left (q := qK (if ho = 0 then -1 else nI (11 + ho)) (-2) (-2)) (act := actR v d) (fun x n S h => ⟨h, rfl, rfl⟩) (itG (qK (nI m) (-2) (-2)) (actR v d) E.length w (E, rd)).2.1.length (itG (qK (nI m) (-2) (-2)) (actR v d) E.length w (E, rd)).1 (itG (qK (nI m) (-2) (-2)) (actR v d) E.length w (E, rd)).2 a1 cntE_le
  unfold spendE
  rw [hl2, hl1]
  dsimp only
  rw [sumQ_congr (q := qK (nI m) (-2) (-2)) (q' := fun k => decide (kL k = m)) (fun x hx => qK_list (by omega) (hv x hx).1.1)]
  unfold avN at hw
  by_cases h : ho = 0
  · rw [if_pos h] at hw; omega
  · rw [if_neg h] at hw
    rw [a8 (qK (if ho = 0 then -1 else nI (11 + ho)) (-2) (-2)) (fun k hk => by
      rw [if_neg h]
      unfold qK at hk ⊢
      rw [Bool.and_eq_true] at hk
      have h1 : nI (kL k) = nI m := by
        have h2 := hk.1
        unfold anyI at h2
        rw [if_neg (nI_ne2 (by omega))] at h2
        by_cases h3 : nI (kL k) = nI m
        · exact h3
        · rw [if_neg h3] at h2; cases h2
      rw [anyI_no (nI_ne2 (by omega)) (by rw [h1, nI_eq (by omega) (by omega)]; omega), Bool.false_and])]
    rw [if_neg h, sumQ_congr (q := qK (nI (11 + ho)) (-2) (-2)) (q' := fun k => decide (kL k = 11 + ho)) (fun x hx => qK_list (by omega) (hv x hx).1.1)]
    omega
theorem spendE_ok {v : Nat → Nat} {d m ho w : Nat} {E : List En} {rd : Nat → Nat} (hV : SV v) (hs : Sor E) (hv : ∀ x ∈ E, VK x.1 ∧ 1 ≤ x.2) (hE : EV v d E) : EV v d (spendE v d m ho w E rd).2.1 ∧ sumP (spendE v d m ho w E rd).2.1 + sumN (spendE v d m ho w E rd).2.2 10 = sumP E + sumN rd 10 ∧ (spendE v d m ho w E rd).2.1.length ≤ E.length := by
  obtain ⟨a1, a2, a3, a4, a5, a6, a7, a8⟩ := itR_ok v d hV (qK (nI m) (-2) (-2)) E.length w (E, rd) hs hv hE
  obtain ⟨b1, b2, b3, b4, b5, b6, b7, b8⟩ := itR_ok v d hV (qK (if ho = 0 then -1 else nI (11 + ho)) (-2) (-2)) (itG (qK (nI m) (-2) (-2)) (actR v d) E.length w (E, rd)).2.1.length (itG (qK (nI m) (-2) (-2)) (actR v d) E.length w (E, rd)).1 (itG (qK (nI m) (-2) (-2)) (actR v d) E.length w (E, rd)).2 a1 a2 a3
  unfold spendE
  dsimp only at a4 a6 a7
  exact ⟨b3, by omega, by omega⟩
/-- the class redeems -/
theorem C_redeem {v : Nat → Nat} {d m ho w : Nat} (hV : SV v) (hd : d ≤ 9999) {E : List En} {rd : Nat → Nat} {Lg : List Co} {z nx sz : Int32} {gl gd gc gp dp hm re tt : Nat → Int32} (H : CoE E z gl gd gc gp) (HL : LogC Lg nx sz dp) (hE : EV v d E) (hre : ∀ i, i < 10 → re i = nI (rd i)) (hm12 : m < 12) (hho : hm m = cI ho) (hh : ho ≤ 4) (hw : w < 2 ^ 31) (hwa : w ≤ avN m ho E) {N : Nat} (hN : 2000 < N) : ∃ (o : T_CO) (re' : Nat → Int32) (lo : Int32 × Int32 × (Nat → Int32)), f_X0_spend N (nI m) (nI w) 1024 1024 1024 1024 120 12 10 5 (nI d) (nI (v 5)) z gl gd gc gp nx sz dp hm re tt = some (nI (w - sumQ (fun k => decide (kL k = m)) E), o.1, o.2.1, o.2.2.1, o.2.2.2.1, o.2.2.2.2, lo.1, lo.2.1, lo.2.2, re', upd tt 1 (tt 1 + nI w)) ∧ CoE (spendE v d m ho w E rd).2.1 o.1 o.2.1 o.2.2.1 o.2.2.2.1 o.2.2.2.2 ∧ (∀ i, i < 10 → re' i = nI ((spendE v d m ho w E rd).2.2 i)) ∧ LogC (logAdd (2, nI d, nI m, nI w) Lg) lo.1 lo.2.1 lo.2.2 := by
  obtain ⟨a1, a2, a3, a4, a5, a6, a7, a8⟩ := itR_ok v d hV (qK (nI m) (-2) (-2)) E.length w (E, rd) H.2.1 H.2.2.1 hE
  have hl1 := itG_left (q := qK (nI m) (-2) (-2)) (act := actR v d) (fun x n S h => ⟨h, rfl, rfl⟩) E.length w (E, rd) H.2.1 cntE_le
  have hz := spendE_zero (rd := rd) hV H.2.1 H.2.2.1 hE hm12 hh hwa
  obtain ⟨o1, re1, c1, c2, c3⟩ := C_spend hV hd (nI m) hN H hE hre hw
  obtain ⟨X, hX⟩ : ∃ X, X = itG (qK (nI m) (-2) (-2)) (actR v d) E.length w (E, rd) := ⟨_, rfl⟩
  have hsp : spendE v d m ho w E rd = itG (qK (if ho = 0 then -1 else nI (11 + ho)) (-2) (-2)) (actR v d) X.2.1.length X.1 X.2 := by rw [hX]; rfl
  rw [← hX] at a1 a2 a3 a5 c1 c2 c3 hl1
  obtain ⟨o2, re2, e1, e2, e3⟩ := C_spend (rd := X.2.2) (w := X.1) hV hd (if ho = 0 then -1 else nI (11 + ho)) hN c2 a3 c3 (by omega)
  obtain ⟨lo, l1, l2⟩ := C_log_add HL 2 (nI d) (nI m) (nI w)
  have hsp2 : itG (qK (if ho = 0 then -1 else nI (11 + ho)) (-2) (-2)) (actR v d) X.2.1.length X.1 (X.2.1, X.2.2) = spendE v d m ho w E rd := hsp.symm
  rw [hsp2, hz, nI_0, Int32.sub_zero] at e1
  rw [hsp2] at e2 e3
  rw [sumQ_congr (q := qK (nI m) (-2) (-2)) (q' := fun k => decide (kL k = m)) (fun x hx => qK_list (by omega) (H.2.2.1 x hx).1.1)] at hl1
  refine ⟨o2, re2, lo, ?_, e2, e3, l2⟩
  unfold f_X0_spend f_X0_poolOf
  rw [c1, Option.bind_some, X6_at_in hm h12 hm12, Option.bind_some, hho, C_poolList hh, Option.bind_some, Option.bind_some, subI_self, e1, Option.bind_some, show (1 : Int32) = nI 1 from rfl, X6_increase_in tt _ h5' (by omega), Option.bind_some, l1, Option.bind_some, hl1]
theorem redeem_split {v : Nat → Nat} {d m : Nat} {E : List En} (hv : ∀ x ∈ E, VK x.1 ∧ 1 ≤ x.2) (hE : EV v d E) (h : Nat) : sumQ (fun k => decide (kL k = 12 + h) && (fun _ : Nat => true) (kC k - 1)) E = sumQ (fun k => decide (kL k = 12 + h)) E := sumQ_congr (fun x _ => Bool.and_true _)
/-- the reference redeems -/
theorem M_redeem {v : Nat → Nat} {d m ho w : Nat} {E : List En} {rd : Nat → Nat} {Lg : List Co} {fx g pa pa' : Nat → Int32} {ch ch' : Int32} (hV : SV v) (hM : SM v fx) (HC : MC d E g) (hs : Sor E) (hv : ∀ x ∈ E, VK x.1 ∧ 1 ≤ x.2) (hE : EV v d E) (hsum : sumP E < 2 ^ 31) (HL : LogM Lg g) (hre : ∀ i, i < 10 → g (8 + i) = nI (rd i)) (hd : d ≤ 9999) (h0 : g 0 = nI d) (hm3 : m < v 3) (hho : g (30 + m) = cI ho) (hh : ho ≤ 4) (hw1 : 1 ≤ w) (hw : w < 2 ^ 31) (hwa : w ≤ avN m ho E) {N : Nat} (hN : 2000 < N) (hr : f_X11_remembers N 72470 579760 ch g pa = some (ch', pa')) : ∃ g', f_X11_redeem N (nI m) (nI w) 71 72470 579760 ch fx g pa = some (nI (w - sumQ (fun k => decide (kL k = m)) E), 0, ch', g', pa') ∧ MC d (spendE v d m ho w E rd).2.1 g' ∧ (∀ i, i < 10 → g' (8 + i) = nI ((spendE v d m ho w E rd).2.2 i)) ∧ LogM (logAdd (2, nI d, nI m, nI w) Lg) g' ∧ g' 4 = g 4 + nI w ∧ ∀ i, i < 12470 → i < 8 ∨ 18 ≤ i → ¬ i = 4 → ¬ i = 2 → i < 350 ∨ 470 ≤ i → g' i = g i := by
  have hv3 := hV.1.2.2.2.2.1
  have hm12 : m < 12 := by omega
  have e1 : (30 : Int32) + nI m = nI (30 + m) := nI_add 30 m
  have gm := grd (i := 30 + m) (n := 72470) (by omega) (by decide)
  have HR : RS v d g (E, rd) g := ⟨HC, hv, hE, hsum, hre, fun _ _ _ => rfl⟩
  obtain ⟨a1, a2, a3, a4, a5, a6, a7, a8⟩ := itR_ok v d hV (qK (nI m) (-2) (-2)) E.length w (E, rd) hs hv hE
  have hl1 := itG_left (q := qK (nI m) (-2) (-2)) (act := actR v d) (fun x n S h => ⟨h, rfl, rfl⟩) E.length w (E, rd) hs cntE_le
  obtain ⟨g1, c1, c2⟩ := M_redeem_own (pa := pa') hV hM HR hs hd h0 hm12 hw (nI w) (cI ho) 0 ch' hN
  obtain ⟨X, hX⟩ : ∃ X, X = itG (qK (nI m) (-2) (-2)) (actR v d) E.length w (E, rd) := ⟨_, rfl⟩
  have hsp : spendE v d m ho w E rd = itG (qK (if ho = 0 then -1 else nI (11 + ho)) (-2) (-2)) (actR v d) X.2.1.length X.1 X.2 := by rw [hX]; rfl
  rw [← hX] at a1 a2 a3 a5 c1 c2 hl1
  rw [sumQ_congr (q := qK (nI m) (-2) (-2)) (q' := fun k => decide (kL k = m)) (fun x hx => qK_list (by omega) (hv x hx).1.1)] at hl1
  have gd4 : ¬ ((4 : Int32) < 0 ∨ 72470 ≤ (4 : Int32).toNatClampNeg) := by decide
  obtain ⟨g2, e2, e3⟩ : ∃ g2, f_X11_redeem_b145 N (nI m) (nI w) (cI ho) (nI X.1) 71 72470 0 ch' fx pa' N (nI X.1) (nI (d + 1)) g1 = f_X11_redeem_b211 N (nI m) (nI w) (nI X.1) 72470 0 ch' g2 pa' ∧ RS v d g (spendE v d m ho w E rd).2 g2 := by
    by_cases h : ho = 0
    · have hx0 : X.1 = 0 := by
        unfold avN at hwa
        rw [if_pos h] at hwa
        rw [hl1]
        omega
      refine ⟨g1, ?_, ?_⟩
      · obtain ⟨n, hn⟩ : ∃ n, N = n + 1 := ⟨N - 1, by omega⟩
        have hst : f_X11_redeem_b145 N (nI m) (nI w) (cI ho) (nI X.1) 71 72470 0 ch' fx pa' (n + 1) (nI X.1) (nI (d + 1)) g1 = f_X11_redeem_b211 N (nI m) (nI w) (nI X.1) 72470 0 ch' g1 pa' := by
          rw [f_X11_redeem_b145, M_last (RS_day c2 h0) hd, Option.bind_some, hx0, nI_0, if_pos (Int32.le_refl 0)]
          exact ite_self _
        rw [← hn] at hst
        exact hst
      · rw [hsp, if_pos h, itG_none _ _ _ _ _ (fstE_none.mpr (fun y hy => qK_none (a2 y hy).1.1))]
        exact c2
    · obtain ⟨q, hq⟩ : ∃ q, ho = q + 1 := ⟨ho - 1, by omega⟩
      have h3 : cI ho = nI q := by rw [hq]; rfl
      have h11 : 11 + ho = 12 + q := by omega
      obtain ⟨g2, k1, k2⟩ := M_redeem_pool (w := X.1) (pa := pa') hV (by omega) hM c2 a1 hd h0 (show q < 4 by omega) (by omega) (nI m) (nI w) (nI X.1) 0 ch' hN
      rw [hsp, if_neg h, h11, h3]
      exact ⟨g2, k1, k2⟩
  have hLg : LogM Lg (upd g2 4 (g2 4 + nI w)) := LogM_same HL (by rw [upd_ne _ _ (by omega), e3.2.2.2.2.2 2 (by omega) (by omega)]) (fun i a b => by rw [upd_ne _ _ (by omega), e3.2.2.2.2.2 i (by omega) (by omega)])
  obtain ⟨g3, l1, l2, l3⟩ := M_logs hLg 2 (nI m) (nI w) (N := N) (by omega)
  rw [upd_ne _ _ (by omega), e3.2.2.2.2.2 0 (by omega) (by omega), h0] at l2
  have h133 : f_X11_redeem_b133 N (nI m) (nI w) (cI ho) (nI X.1) 71 72470 0 ch' fx g1 pa' = some (nI X.1, 0, ch', g3, pa') := by
    unfold f_X11_redeem_b133
    rw [M_today, Option.bind_some, RS_day c2 h0, nI_1, Option.bind_some, e2]
    unfold f_X11_redeem_b211
    rw [if_neg gd4, if_neg gd4, show (4 : Int32).toNatClampNeg = 4 from rfl, Option.bind_some, l1, Option.bind_some]
  have hb64 : ∀ (s0 s1 : Int32), s0 + s1 = nI (avN m ho E) → f_X11_redeem_b64 N (nI m) (nI w) (cI ho) s0 s1 71 72470 579760 0 ch fx g pa = some (nI (w - sumQ (fun k => decide (kL k = m)) E), 0, ch', g3, pa') := by
    intro s0 s1 hss
    have := avN_le (m := m) (ho := ho) (E := E) hm12
    unfold f_X11_redeem_b64
    rw [hss, Option.bind_some, if_pos ((nI_leI (by omega) (by omega)).mpr hwa), hr, Option.bind_some, M_today, Option.bind_some, h0, nI_1, Option.bind_some, c1, h133, hl1]
  refine ⟨g3, ?_, MC_same e3.1 (fun i a b => by rw [l3 i (by omega) (by omega), upd_ne _ _ (by omega)]), fun i hi => by rw [l3 _ (by omega) (by omega), upd_ne _ _ (by omega), e3.2.2.2.2.1 i hi], l2, ?_, ?_⟩
  · unfold f_X11_redeem
    rw [M_isMember (nI m) (n := v 3) (by omega) (hM 3 (by omega)), Option.bind_some, if_neg (outN_in (by omega) hm3), if_neg (by decide), if_pos (by rw [show (1 : Int32) = nI 1 from rfl, nI_leI (by omega) hw]; exact hw1), e1, if_neg gm, nI_clamp (by omega), hho, Option.bind_some, M_inAccount hV HC hs hv hE hd hm12 hN, Option.bind_some]
    by_cases h : ho = 0
    · rw [if_pos (by rw [h]; rfl)]
      exact hb64 _ _ (by unfold avN; rw [if_pos h, Int32.add_zero, Nat.add_zero])
    · obtain ⟨q, hq⟩ : ∃ q, ho = q + 1 := ⟨ho - 1, by omega⟩
      have h3 : cI ho = nI q := by rw [hq]; rfl
      have hip : f_X11_inPool N (cI ho) (-1) 71 72470 fx g = some (nI (sumQ (fun k => decide (kL k = 12 + q)) E)) := by
        rw [h3, M_inPool hV hM HC hs hv hE hd h0 (show q < 4 by omega) (f := fun _ => true) (fun m _ => ⟨fun _ => rfl, fun _ => Or.inl rfl⟩) hN, redeem_split (m := m) hv hE q]
      rw [if_neg (fun hx => h ((cI_none (by omega)).mp hx)), hip, Option.bind_some]
      refine hb64 _ _ ?_
      unfold avN
      rw [if_neg h, nI_add, show 12 + q = 11 + ho by omega]
  · rw [l3 4 (by omega) (by omega), upd_at, e3.2.2.2.2.2 4 (by omega) (by omega)]
  · intro i a b c e f
    rw [l3 i e f, upd_ne _ _ c, e3.2.2.2.2.2 i a b]
/-- a redemption, on both sides -/
theorem S_redeem {v : Nat → Nat} {k : Nat} {s : T_SE} {b : T_BK} {fx g pa : Nat → Int32} {ch : Int32} (hV : SV v) (hM : SM v fx) (hS : SC v s) (H : BR v k b g) (hk : k < 512) {m w : Nat} (hm3 : m < v 3) (hw1 : 1 ≤ w) (hw : w < 2 ^ 31) {N : Nat} (hN : 2000 < N) : ∃ T, T < 2 ^ 31 ∧ F_B_redeemable N b (nI m) = some (nI T) ∧ (¬ w ≤ T → f_X11_redeem N (nI m) (nI w) 71 72470 579760 ch fx g pa = some (0, 3, ch, g, pa)) ∧ (w ≤ T → ∀ ch' pa', f_X11_remembers N 72470 579760 ch g pa = some (ch', pa') → ∃ b' g' p, F_B_spend N s b (nI m) (nI w) = some (p, b') ∧ f_X11_redeem N (nI m) (nI w) 71 72470 579760 ch fx g pa = some (p, 0, ch', g', pa') ∧ BR v (k + 1) b' g') := by
  obtain ⟨day, ws, z, gl, gd, gc, gp, cnt, pr, nx, sz, dp, ti, be, de, hm, qu, sh, re, tt, ls, ba, st, si⟩ := b
  have H : BRc v k day ws z gl gd gc gp cnt pr nx sz dp ti be de hm qu sh re tt g := H
  obtain ⟨d, E, Lg, c, dy, db, rd, ⟨a1, a2⟩, ⟨a3, a4, a5⟩, ⟨H1, H2, H3⟩, ⟨HL, HLm⟩, H4, H5, H6, H7⟩ := H
  have hv3 := hV.1.2.2.2.2.1
  have hv4 := hV.1.2.2.2.2.2
  have hm12 : m < 12 := by omega
  obtain ⟨t1, t2, t3, ⟨t, t4, t5⟩, ⟨ho, t6, t7⟩⟩ := H6.1 m hm12
  obtain ⟨ex, x1, x2⟩ := H7.2.2.2
  have hbs := bd_succ k
  have hle := avN_le (m := m) (ho := ho) (E := E) hm12
  have hsm := H1.2.2.2
  refine ⟨avN m ho E, by omega, ?_, fun hn => ?_, fun hwa ch' pa' hr => ?_⟩
  · unfold F_B_redeemable
    dsimp only
    rw [C_redeemable H1 hm12 (by rw [t3, t7]) (by omega) (by omega), Option.bind_some]
  · have e1 : (30 : Int32) + nI m = nI (30 + m) := nI_add 30 m
    have gm := grd (i := 30 + m) (n := 72470) (by omega) (by decide)
    have hb64 : ∀ (s0 s1 : Int32), s0 + s1 = nI (avN m ho E) → f_X11_redeem_b64 N (nI m) (nI w) (cI ho) s0 s1 71 72470 579760 0 ch fx g pa = some (0, 3, ch, g, pa) := by
      intro s0 s1 hss
      unfold f_X11_redeem_b64
      rw [hss, Option.bind_some, if_neg (fun hh => hn ((nI_leI (by omega) (by omega)).mp hh))]
      rfl
    unfold f_X11_redeem
    rw [M_isMember (nI m) (n := v 3) (by omega) (hM 3 (by omega)), Option.bind_some, if_neg (outN_in (by omega) hm3), if_neg (by decide), if_pos (by rw [show (1 : Int32) = nI 1 from rfl, nI_leI (by omega) hw]; exact hw1), e1, if_neg gm, nI_clamp (by omega), t7, Option.bind_some, M_inAccount hV H2 H1.2.1 H1.2.2.1 H3 a5 hm12 hN, Option.bind_some]
    by_cases h : ho = 0
    · rw [if_pos (by rw [h]; rfl)]
      exact hb64 _ _ (by unfold avN; rw [if_pos h, Int32.add_zero, Nat.add_zero])
    · obtain ⟨q, hq⟩ : ∃ q, ho = q + 1 := ⟨ho - 1, by omega⟩
      have h3 : cI ho = nI q := by rw [hq]; rfl
      have hip : f_X11_inPool N (cI ho) (-1) 71 72470 fx g = some (nI (sumQ (fun k => decide (kL k = 12 + q)) E)) := by
        rw [h3, M_inPool hV hM H2 H1.2.1 H1.2.2.1 H3 a5 a4 (show q < 4 by omega) (f := fun _ => true) (fun m _ => ⟨fun _ => rfl, fun _ => Or.inl rfl⟩) hN, redeem_split (m := m) H1.2.2.1 H3 q]
      rw [if_neg (fun hx => h ((cI_none (by omega)).mp hx)), hip, Option.bind_some]
      refine hb64 _ _ ?_
      unfold avN
      rw [if_neg h, nI_add, show 12 + q = 11 + ho by omega]
  · obtain ⟨o, re', lo, C1, C2, C3, C4⟩ := C_redeem (rd := rd) (re := re) (tt := tt) (hm := hm) hV a5 H1 HL H3 (fun i hi => (H7.2.1 i hi).1) hm12 (by rw [t3, t7]) (by omega) hw hwa hN
    obtain ⟨g', K1, K2, K3, K4, K5, K6⟩ := M_redeem (rd := rd) hV hM H2 H1.2.1 H1.2.2.1 H3 hsm HLm (fun i hi => (H7.2.1 i hi).2) a5 a4 hm3 t7 (by omega) hw1 hw hwa hN hr
    obtain ⟨y1, y2, y3⟩ := spendE_ok (m := m) (ho := ho) (w := w) (rd := rd) hV H1.2.1 H1.2.2.1 H3
    subst a3
    refine ⟨(nI d, ws, o.1, o.2.1, o.2.2.1, o.2.2.2.1, o.2.2.2.2, cnt, pr, lo.1, lo.2.1, lo.2.2, ti, be, de, hm, qu, sh, re', upd tt 1 (tt 1 + nI w), ls, ba, st, si), g', _, ?_, K1, ?_⟩
    · unfold F_B_spend
      dsimp only
      rw [hS.1.1, C1, Option.bind_some]
    · unfold BR
      dsimp only
      refine ⟨d, (spendE v d m ho w E rd).2.1, logAdd (2, nI d, nI m, nI w) Lg, c, dy, db, (spendE v d m ho w E rd).2.2, ⟨by omega, by omega⟩, ⟨rfl, ?_, a5⟩, ⟨C2, K2, y1⟩, ⟨C4, K4⟩, B4_same H4 (K6 1 (by omega) (by omega) (by omega) (by omega) (by omega)) (fun i p q => K6 i (by omega) (by omega) (by omega) (by omega) (by omega)), B5_same hV H5 (fun i p q => K6 i (by omega) (by omega) (by omega) (by omega) (by omega)), B6_same hV H6 (fun i p q => K6 i (by omega) (by omega) (by omega) (by omega) (by omega)), fun m' hm' => ?_, fun i hi => ⟨C3 i hi, K3 i hi⟩, fun i hi => ?_, ex, ?_, by omega⟩
      · rw [K6 0 (by omega) (by omega) (by omega) (by omega) (by omega), a4]
      · obtain ⟨z1, z2, z3, z4⟩ := H7.1 m' hm'
        rw [K6 _ (by omega) (by omega) (by omega) (by omega) (by omega)]
        exact ⟨z1, z2, by omega, z4⟩
      · by_cases e : i = 1
        · subst e
          rw [upd_at]
          show _ = g' 4
          rw [K5, H7.2.2.1 1 (by omega)]
        · rw [upd_ne _ _ e, K6 _ (by omega) (by omega) (by omega) (by omega) (by omega)]
          exact H7.2.2.1 i hi
      · rw [upd_ne _ _ (by decide), x1]

