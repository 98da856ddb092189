/-! the law's text, read: members, categories, tiers -/
theorem fol_fl {f : Nat → List Nat} (hf : ∀ k, ∃ u, f k = 59 :: u) {R : List Nat} (hR : Fol R) : ∀ (n j : Nat), Fol (fl f j n ++ R)
  | 0, j => hR
  | n + 1, j => by
    obtain ⟨u, hu⟩ := hf j
    right; right
    show ((f j ++ fl f (j + 1) n) ++ R).getD 0 0 = 59
    rw [hu]; rfl
theorem go_mem {t : List Nat} {g buf : Nat → Int32} (H : TB (fun i => t.getD i 0) t.length g buf) {N : Nat} (hN : 700 < N) {pf : Nat → Nat} {B : Nat} {Q : T_SE → Prop} {R : List Nat} (hR : Fol R) : ∀ (n j x p' : Nat) (li wi gr : Int32) (cs nm th bo ra ca a1 a2 a3 a4 sh : Nat → Int32) (c : Nat → Nat) (L : List (List Nat)), SS pf c L cs nm th → At t p' (fl (memR pf) j n ++ R) → x ≤ p' → c 3 = j → j + n ≤ 4 → (∀ (x2 p2 : Nat) (c2 : Nat → Nat) (L2 : List (List Nat)) (cs2 nm2 : Nat → Int32), SS pf c2 L2 cs2 nm2 th → At t p2 R → x2 ≤ p2 → c2 3 = j + n → (∀ i, ¬ i = 3 → c2 i = c i) → Pn t g N B x2 p2 (li, wi, gr, cs2, nm2, th, bo, ra, ca, a1, a2, a3, a4, sh) Q) → Pn t g N (B + n) x p' (li, wi, gr, cs, nm, th, bo, ra, ca, a1, a2, a3, a4, sh) Q
  | 0, j, x, p', li, wi, gr, cs, nm, th, bo, ra, ca, a1, a2, a3, a4, sh, c, L, S, h, hx, hj, hn, K => K x p' c L cs nm S h hx hj (fun _ _ => rfl)
  | n + 1, j, x, p', li, wi, gr, cs, nm, th, bo, ra, ca, a1, a2, a3, a4, sh, c, L, S, h, hx, hj, hn, K => by
    subst hj
    have e : fl (memR pf) (c 3) (n + 1) ++ R = 59 :: (tx 3 ++ (32 :: ([109, nameN pf (c 3)] ++ (fl (memR pf) (c 3 + 1) n ++ R)))) := by
      show ((59 :: (tx 3 ++ (32 :: [109, nameN pf (c 3)]))) ++ fl (memR pf) (c 3 + 1) n) ++ R = _
      simp only [List.append_assoc, List.cons_append, List.nil_append]
    rw [e] at h
    have hw : Wd [109, nameN pf (c 3)] := wd2 (by omega) (b_name _)
    have hF := fol_fl (f := memR pf) (fun k => ⟨_, rfl⟩) hR n (c 3 + 1)
    obtain ⟨z1, z2⟩ := D_member H (At_semi h) hF (li := li) (wi := wi) (gr := gr) (th := th) (bo := bo) (ra := ra) (ca := ca) (a1 := a1) (a2 := a2) (a3 := a3) (a4 := a4) (sh := sh) S.1 hN hw (LL_wd S.2.1 S.2.2.2.2.1 S.2.2.2.2.2.1) (LL_m S.2.1 (by omega)) (by omega)
    refine Pn_semi (B := B + n) H hN h hx z1 ?_
    refine go_mem H hN hR n (c 3 + 1) (x + 1) _ li wi gr _ _ th bo ra ca a1 a2 a3 a4 sh (inc c 3) _ (SS_mem S (by omega)) z2 (by omega) inc_at (by omega) ?_
    intro x2 p2 c2 L2 cs2 nm2 S2 h2 hx2 hc2 hi2
    exact K x2 p2 c2 L2 cs2 nm2 S2 h2 hx2 (by omega) (fun i hi => (hi2 i hi).trans (inc_ne hi))
theorem go_cat {t : List Nat} {g buf : Nat → Int32} (H : TB (fun i => t.getD i 0) t.length g buf) {N : Nat} (hN : 700 < N) {pf : Nat → Nat} {B : Nat} {Q : T_SE → Prop} {R : List Nat} (hR : Fol R) : ∀ (n j x p' : Nat) (li wi gr : Int32) (cs nm th bo ra ca a1 a2 a3 a4 sh : Nat → Int32) (c : Nat → Nat) (L : List (List Nat)), SS pf c L cs nm th → At t p' (fl (catR pf) j n ++ R) → x ≤ p' → c 1 = j → j + n ≤ 3 → (∀ (x2 p2 : Nat) (c2 : Nat → Nat) (L2 : List (List Nat)) (cs2 nm2 ra2 ca2 : Nat → Int32), SS pf c2 L2 cs2 nm2 th → At t p2 R → x2 ≤ p2 → c2 1 = j + n → (∀ i, ¬ i = 1 → c2 i = c i) → Pn t g N B x2 p2 (li, wi, gr, cs2, nm2, th, bo, ra2, ca2, a1, a2, a3, a4, sh) Q) → Pn t g N (B + n) x p' (li, wi, gr, cs, nm, th, bo, ra, ca, a1, a2, a3, a4, sh) Q
  | 0, j, x, p', li, wi, gr, cs, nm, th, bo, ra, ca, a1, a2, a3, a4, sh, c, L, S, h, hx, hj, hn, K => K x p' c L cs nm ra ca S h hx hj (fun _ _ => rfl)
  | n + 1, j, x, p', li, wi, gr, cs, nm, th, bo, ra, ca, a1, a2, a3, a4, sh, c, L, S, h, hx, hj, hn, K => by
    subst hj
    have e : fl (catR pf) (c 1) (n + 1) ++ R = 59 :: (tx 1 ++ (32 :: ([99, 97 + c 1] ++ (32 :: (dg (rateN pf (c 1)) ++ (32 :: (dg (capN pf (c 1)) ++ (fl (catR pf) (c 1 + 1) n ++ R)))))))) := by
      show ((59 :: (tx 1 ++ (32 :: ([99, 97 + c 1] ++ (32 :: (dg (rateN pf (c 1)) ++ (32 :: dg (capN pf (c 1)))))))))  ++ fl (catR pf) (c 1 + 1) n) ++ R = _
      simp only [List.append_assoc, List.cons_append, List.nil_append]
    rw [e] at h
    have hw : Wd [99, 97 + c 1] := wd2 (by omega) (by omega)
    have hF := fol_fl (f := catR pf) (fun k => ⟨_, rfl⟩) hR n (c 1 + 1)
    have hb1 := b_rate (pf := pf) (c 1)
    have hb2 := b_cap (pf := pf) (c 1)
    obtain ⟨z1, z2⟩ := D_category H (At_semi h) hF hb1 (by omega) (li := li) (wi := wi) (gr := gr) (th := th) (bo := bo) (ra := ra) (ca := ca) (a1 := a1) (a2 := a2) (a3 := a3) (a4 := a4) (sh := sh) S.1 hN hw (LL_wd S.2.1 S.2.2.2.2.1 S.2.2.2.2.2.1) (LL_c S.2.1) (by omega)
    refine Pn_semi (B := B + n) H hN h hx z1 ?_
    refine go_cat H hN hR n (c 1 + 1) (x + 1) _ li wi gr _ _ th bo _ _ a1 a2 a3 a4 sh (inc c 1) _ (SS_cat S (by omega)) z2 (by omega) inc_at (by omega) ?_
    intro x2 p2 c2 L2 cs2 nm2 ra2 ca2 S2 h2 hx2 hc2 hi2
    exact K x2 p2 c2 L2 cs2 nm2 ra2 ca2 S2 h2 hx2 (by omega) (fun i hi => (hi2 i hi).trans (inc_ne hi))
theorem go_tier {t : List Nat} {g buf : Nat → Int32} (H : TB (fun i => t.getD i 0) t.length g buf) {N : Nat} (hN : 700 < N) {pf : Nat → Nat} {B : Nat} {Q : T_SE → Prop} {R : List Nat} (hR : Fol R) : ∀ (n j x p' : Nat) (li wi gr : Int32) (cs nm th bo ra ca a1 a2 a3 a4 sh : Nat → Int32) (c : Nat → Nat) (L : List (List Nat)), SS pf c L cs nm th → At t p' (fl (tierR pf) j n ++ R) → x ≤ p' → c 0 = j → j + n ≤ 4 → (∀ (x2 p2 : Nat) (c2 : Nat → Nat) (L2 : List (List Nat)) (cs2 nm2 th2 bo2 : Nat → Int32), SS pf c2 L2 cs2 nm2 th2 → At t p2 R → x2 ≤ p2 → c2 0 = j + n → (∀ i, ¬ i = 0 → c2 i = c i) → Pn t g N B x2 p2 (li, wi, gr, cs2, nm2, th2, bo2, ra, ca, a1, a2, a3, a4, sh) Q) → Pn t g N (B + n) x p' (li, wi, gr, cs, nm, th, bo, ra, ca, a1, a2, a3, a4, sh) Q
  | 0, j, x, p', li, wi, gr, cs, nm, th, bo, ra, ca, a1, a2, a3, a4, sh, c, L, S, h, hx, hj, hn, K => K x p' c L cs nm th bo S h hx hj (fun _ _ => rfl)
  | n + 1, j, x, p', li, wi, gr, cs, nm, th, bo, ra, ca, a1, a2, a3, a4, sh, c, L, S, h, hx, hj, hn, K => by
    subst hj
    have e : fl (tierR pf) (c 0) (n + 1) ++ R = 59 :: (tx 0 ++ (32 :: ([116, 97 + c 0] ++ (32 :: (dg (c 0 * stepN pf) ++ (32 :: (dg (bonusN pf (c 0)) ++ (fl (tierR pf) (c 0 + 1) n ++ R)))))))) := by
      show ((59 :: (tx 0 ++ (32 :: ([116, 97 + c 0] ++ (32 :: (dg (c 0 * stepN pf) ++ (32 :: dg (bonusN pf (c 0))))))))) ++ fl (tierR pf) (c 0 + 1) n) ++ R = _
      simp only [List.append_assoc, List.cons_append, List.nil_append]
    rw [e] at h
    have hw : Wd [116, 97 + c 0] := wd2 (by omega) (by omega)
    have hF := fol_fl (f := tierR pf) (fun k => ⟨_, rfl⟩) hR n (c 0 + 1)
    have hb1 := b_bonus (pf := pf) (c 0)
    have hb2 := b_step (pf := pf)
    have hm : c 0 * stepN pf ≤ 3 * 449 := Nat.mul_le_mul (by omega) hb2.2
    have kk : ∀ (p2 : Nat), x + 1 ≤ p2 → At t p2 (fl (tierR pf) (c 0 + 1) n ++ R) → Pn t g N (B + n) (x + 1) p2 (li, wi, gr, upd cs 0 (nI (c 0 + 1)), upd nm (12 * 0 + c 0) (nI (cw [116, 97 + c 0])), upd th (c 0) (nI (c 0 * stepN pf)), upd bo (c 0) (nI (bonusN pf (c 0))), ra, ca, a1, a2, a3, a4, sh) Q := by
      intro p2 hp2 hA
      refine go_tier H hN hR n (c 0 + 1) (x + 1) p2 li wi gr _ _ _ _ ra ca a1 a2 a3 a4 sh (inc c 0) _ (SS_tier S (by omega)) hA hp2 inc_at (by omega) ?_
      intro x2 p2 c2 L2 cs2 nm2 th2 bo2 S2 h2 hx2 hc2 hi2
      exact K x2 p2 c2 L2 cs2 nm2 th2 bo2 S2 h2 hx2 (by omega) (fun i hi => (hi2 i hi).trans (inc_ne hi))
    by_cases h0 : c 0 = 0
    · have e0 : c 0 * stepN pf = 0 := by rw [h0, Nat.zero_mul]
      rw [e0] at h kk
      obtain ⟨z1, z2⟩ := D_tier0 H (At_semi h) hF hb1 (li := li) (wi := wi) (gr := gr) (th := th) (bo := bo) (ra := ra) (ca := ca) (a1 := a1) (a2 := a2) (a3 := a3) (a4 := a4) (sh := sh) S.1 hN hw (LL_wd S.2.1 S.2.2.2.2.1 S.2.2.2.2.2.1) (LL_t S.2.1) h0 (by omega)
      exact Pn_semi (B := B + n) H hN h hx z1 (kk _ (by omega) z2)
    · obtain ⟨d, hd⟩ : ∃ d, c 0 = d + 1 := ⟨c 0 - 1, by omega⟩
      have hT := S.2.2.2.1 (by omega)
      rw [show c 0 - 1 = d by omega] at hT
      have hlt : d * stepN pf < c 0 * stepN pf := by rw [hd, Nat.succ_mul]; omega
      obtain ⟨z1, z2⟩ := D_tierS H (At_semi h) hF hb1 (li := li) (wi := wi) (gr := gr) (th := th) (bo := bo) (ra := ra) (ca := ca) (a1 := a1) (a2 := a2) (a3 := a3) (a4 := a4) (sh := sh) S.1 hN hw (LL_wd S.2.1 S.2.2.2.2.1 S.2.2.2.2.2.1) (LL_t S.2.1) hd hT hlt (by omega) (by omega)
      exact Pn_semi (B := B + n) H hN h hx z1 (kk _ (by omega) z2)
