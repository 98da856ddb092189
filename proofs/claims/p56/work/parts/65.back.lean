theorem sumF_drop {f f' : Nat → Int32} {i : Nat} (h0 : f' i = 0) : ∀ {n : Nat}, i < n → (∀ j, j < n → ¬ j = i → f' j = f j) → sumF f n = sumF f' n + f i
  | 0, h, _ => by omega
  | n + 1, h, e => by
    rw [sumF, sumF]
    by_cases hi : i = n
    · subst hi
      rw [h0, Int32.add_zero, sumF_congr (f := f') (h := f) (fun j hj => e j (by omega) (by omega))]
    · rw [sumF_drop h0 (n := n) (by omega) (fun j hj hj2 => e j (by omega) hj2), e n (by omega) (by omega), Int32.add_assoc, Int32.add_assoc, Int32.add_comm (f i)]
/-- a refunded purchase adds no more -/
theorem bW_back {pr : Nat → Int32} {i m' j : Nat} : bW (upd pr (7 * i + 6) 1) m' j = if j = i then 0 else bW pr m' j := by
  unfold bW
  by_cases h : j = i
  · subst h
    rw [if_pos rfl, upd_at, upd_ne _ _ (by omega), if_neg (show ¬ (1 : Int32) = 0 by decide)]
    exact ite_self 0
  · rw [if_neg h, upd_ne _ _ (by omega), upd_ne _ _ (by omega), upd_ne _ _ (by omega)]
theorem B4_back {v : Nat → Nat} {d c : Nat} {dy : Nat → Nat} {cnt : Int32} {pr g g' : Nat → Int32} (H : B4 v d c dy cnt pr g) {i : Nat} (hi : i < c) (hi2 : c ≤ i + 40) (h1 : g' 1 = g 1) (hg : ∀ j, 70 ≤ j → j < 350 → g' j = upd g (70 + 7 * (i % 40) + 6) 1 j) : B4 v d c dy cnt (upd pr (7 * i + 6) 1) g' := by
  obtain ⟨a1, a2, a3, a4, a5, a6⟩ := H
  refine ⟨a1, a2, by rw [h1, a3], ?_, ?_, a6⟩
  · intro j w hj hj2 hw
    rw [hg _ (by omega) (by omega)]
    by_cases h : j = i ∧ w = 6
    · rw [h.1, h.2, upd_at, upd_at]
    · rw [upd_ne _ _ (by omega), upd_ne _ _ (by omega)]
      exact a4 j w hj hj2 hw
  · intro j hj
    obtain ⟨b1, b2, b3, b4⟩ := a5 j hj
    rw [upd_ne _ _ (show ¬ 7 * j = 7 * i + 6 by omega), upd_ne _ _ (show ¬ 7 * j + 5 = 7 * i + 6 by omega), upd_ne _ _ (show ¬ 7 * j + 4 = 7 * i + 6 by omega)]
    refine ⟨b1, b2, b3, ?_⟩
    by_cases h : j = i
    · rw [h, upd_at]; exact Or.inr rfl
    · rw [upd_ne _ _ (by omega)]; exact b4
theorem qT_back {pr : Nat → Int32} {dy : Nat → Nat} {c win m' t i m : Nat} (hi : i < c) (hm : m < 12) (hm' : m' < 12) (h1 : pr (7 * i) = nI m) (h2 : pr (7 * i + 6) = 0) : qT pr dy c win m' t = qT (upd pr (7 * i + 6) 1) dy c win m' t + (if t < dy i + win then (if m' = m then pr (7 * i + 3) else 0) else 0) := by
  have hw : bW pr m' i = if m' = m then pr (7 * i + 3) else 0 := by
    unfold bW
    by_cases h : m' = m
    · rw [if_pos (by rw [h1, h]), if_pos h2, if_pos h]
    · rw [if_neg (fun hh => by rw [h1, nI_eq (by omega) (by omega)] at hh; omega), if_neg h]
  unfold qT
  rw [sumF_drop (i := i) (f := fun j => if t < dy j + win then bW pr m' j else 0) (f' := fun j => if t < dy j + win then bW (upd pr (7 * i + 6) 1) m' j else 0) (by rw [bW_back, if_pos rfl]; exact ite_self 0) hi (fun j _ h => by rw [bW_back, if_neg h]), hw]
theorem bD_back {pr : Nat → Int32} {dy : Nat → Nat} {c m' e i m : Nat} (hi : i < c) (hm : m < 12) (hm' : m' < 12) (h1 : pr (7 * i) = nI m) (h2 : pr (7 * i + 6) = 0) : bD pr dy c m' e = bD (upd pr (7 * i + 6) 1) dy c m' e + (if dy i = e then (if m' = m then pr (7 * i + 3) else 0) else 0) := by
  have hw : bW pr m' i = if m' = m then pr (7 * i + 3) else 0 := by
    unfold bW
    by_cases h : m' = m
    · rw [if_pos (by rw [h1, h]), if_pos h2, if_pos h]
    · rw [if_neg (fun hh => by rw [h1, nI_eq (by omega) (by omega)] at hh; omega), if_neg h]
  unfold bD
  rw [sumF_drop (i := i) (f := fun j => if dy j = e then bW pr m' j else 0) (f' := fun j => if dy j = e then bW (upd pr (7 * i + 6) 1) m' j else 0) (by rw [bW_back, if_pos rfl]; exact ite_self 0) hi (fun j _ h => by rw [bW_back, if_neg h]), hw]
theorem add_negI (a b : Int32) : a + b + -b = a := by rw [Int32.add_assoc, Int32.add_right_neg, Int32.add_zero]
theorem add_subI (a b : Int32) : a + b - b = a := by rw [Int32.sub_eq_add_neg, add_negI]
/-- the qualifying sums after a refund -/
theorem B5_back {v : Nat → Nat} {d c : Nat} {dy : Nat → Nat} {ws : Int32} {pr qu g g' : Nat → Int32} (H : B5 v d c dy ws pr qu g) (hV : SV v) {i m : Nat} (hi : i < c) (hm : m < v 3) (h1 : pr (7 * i) = nI m) (h2 : pr (7 * i + 6) = 0) (hdy : dy i ≤ d)
    (hg : ∀ j, 470 ≤ j → j < 12470 → g' j = if d < dy i + 1000 ∧ j = 470 + 1000 * m + dy i % 1000 then g j - pr (7 * i + 3) else g j) : B5 v d c dy ws (upd pr (7 * i + 6) 1) (if d < dy i + v 6 then upd qu m (qu m + -pr (7 * i + 3)) else qu) g' := by
  obtain ⟨a0, a5, a6⟩ := H
  have hv3 := hV.1.2.2.2.2.1
  refine ⟨a0, fun m' hm' => ?_, fun m' e hm' he1 he2 => ?_⟩
  · have hq := qT_back (dy := dy) (win := v 6) (t := d) (m' := m') hi (by omega) (by omega) h1 h2
    by_cases hw : d < dy i + v 6
    · rw [if_pos hw] at hq ⊢
      by_cases e : m' = m
      · rw [if_pos e] at hq
        subst e
        rw [upd_at, a5 m' hm', hq, add_negI]
      · rw [if_neg e, Int32.add_zero] at hq
        rw [upd_ne _ _ e, a5 m' hm', hq]
    · rw [if_neg hw] at hq ⊢
      rw [a5 m' hm', hq, Int32.add_zero]
  · have hq := bD_back (dy := dy) (e := e) (m' := m') hi (by omega) (by omega) h1 h2
    rw [hg _ (by omega) (by omega), a6 m' e hm' he1 he2, hq]
    by_cases h3 : dy i = e
    · rw [if_pos h3]
      by_cases h4 : m' = m
      · rw [if_pos h4, if_pos (by rw [h3, h4]; exact ⟨by omega, rfl⟩), add_subI]
      · rw [if_neg h4, if_neg (by omega), Int32.add_zero]
    · rw [if_neg h3, if_neg (by omega), Int32.add_zero]
/-- a taking from all that a question names: what is left of what is wanted, and the entries -/
def stg (q : Nat → Bool) (x : Nat × (List En × Unit)) : Nat × (List En × Unit) := itG q actN x.2.1.length x.1 x.2
/-- what a taking keeps -/
theorem stg_ok (q : Nat → Bool) {v : Nat → Nat} {d : Nat} {x : Nat × (List En × Unit)} (h1 : Sor x.2.1) (h2 : ∀ y ∈ x.2.1, VK y.1 ∧ 1 ≤ y.2) (h3 : EV v d x.2.1) : Sor (stg q x).2.1 ∧ (∀ y ∈ (stg q x).2.1, VK y.1 ∧ 1 ≤ y.2) ∧ EV v d (stg q x).2.1 ∧ sumP (stg q x).2.1 + x.1 = sumP x.2.1 + (stg q x).1 ∧ (stg q x).1 ≤ x.1 ∧ (stg q x).2.1.length ≤ x.2.1.length := by
  obtain ⟨a, b, c, d', e, f, g⟩ := itN_ok q x.2.1.length x.1 x.2 h1 h2
  refine ⟨a, b, fun y hy => ?_, c, d', e⟩
  obtain ⟨z, hz, hz2⟩ := g y hy
  rw [← hz2]
  exact h3 z hz
theorem C_stage {x : Nat × (List En × Unit)} {z : Int32} {gl gd gc gp : Nat → Int32} (H : CoE x.2.1 z gl gd gc gp) (x1 x2 x3 : Int32) (hw : x.1 < 2 ^ 31) {N : Nat} (hN : 1024 < N) : ∃ o, f_X1_takeFromAll N x1 x2 x3 (nI x.1) 1024 1024 1024 1024 z gl gd gc gp = some (nI (x.1 - (stg (qK x1 x2 x3) x).1), o) ∧ CoE (stg (qK x1 x2 x3) x).2.1 o.1 o.2.1 o.2.2.1 o.2.2.2.1 o.2.2.2.2 := E_all H x1 x2 x3 hw hN
/-- the four takings of a refund -/
def four (q1 q2 q3 q4 : Nat → Bool) (p : Nat) (E : List En) : Nat × (List En × Unit) := stg q4 (stg q3 (stg q2 (stg q1 (p, (E, ())))))

