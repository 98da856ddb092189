/-- the entries' keys are those of the setup's members and households, and of the days to come -/
def EV (v : Nat → Nat) (d : Nat) (E : List En) : Prop := ∀ x ∈ E, (d < kD x.1 ∧ kD x.1 ≤ d + v 5) ∧ (kL x.1 < 12 → kL x.1 < v 3) ∧ (12 ≤ kL x.1 → kL x.1 - 12 < v 4 ∧ kC x.1 - 1 < v 3)
def B2 (v : Nat → Nat) (d : Nat) (E : List En) (z : Int32) (gl gd gc gp g : Nat → Int32) : Prop := CoE E z gl gd gc gp ∧ MC d E g ∧ EV v d E
/-- tiers, homes, shares -/
def B6 (v : Nat → Nat) (ti be hm sh g : Nat → Int32) : Prop := (∀ m, m < 12 → ti m = g (42 + m) ∧ be m = g (54 + m) ∧ hm m = g (30 + m) ∧ (∃ t, t < v 0 ∧ g (42 + m) = nI t) ∧ ∃ h, h ≤ v 4 ∧ g (30 + m) = cI h) ∧ ∀ h, h < v 4 → sh h = g (66 + h) ∧ ∃ p, p ≤ 100 ∧ g (66 + h) = nI p
/-- more points than so many calls can bring -/
def bd (k : Nat) : Nat := k * 2200000
theorem bd_mono {k k' : Nat} (h : k ≤ k') : bd k ≤ bd k' := Nat.mul_le_mul_right _ h
theorem bd_succ (k : Nat) : bd (k + 1) = bd k + 2200000 := by unfold bd; rw [Nat.add_mul, Nat.one_mul]
theorem bd_512 {k : Nat} (h : k ≤ 512) : bd k ≤ 1126400000 := by
  have h1 := bd_mono h
  have h2 : bd 512 = 1126400000 := by unfold bd; rfl
  omega
/-- a sum of natural numbers -/
def sumN (f : Nat → Nat) : Nat → Nat
  | 0 => 0
  | n + 1 => sumN f n + f n
/-- debts, what was redeemed, totals -/
def B7 (v : Nat → Nat) (k : Nat) (E : List En) (db rd : Nat → Nat) (de re tt g : Nat → Int32) : Prop := (∀ m, m < 12 → de m = nI (db m) ∧ g (18 + m) = nI (db m) ∧ db m ≤ bd k ∧ (v 3 ≤ m → db m = 0)) ∧ (∀ i, i < 10 → re i = nI (rd i) ∧ g (8 + i) = nI (rd i)) ∧ (∀ i, i < 5 → tt i = g (3 + i)) ∧ ∃ ex, tt 2 = nI ex ∧ sumP E + sumN rd 10 + ex ≤ bd k
/-- the class's books are the reference's numbers, after so many calls -/
def BRc (v : Nat → Nat) (k : Nat) (day ws z : Int32) (gl gd gc gp : Nat → Int32) (cnt : Int32) (pr : Nat → Int32) (nx sz : Int32) (dp ti be de hm qu sh re tt g : Nat → Int32) : Prop := ∃ (d : Nat) (E : List En) (Lg : List Co) (c : Nat) (dy db rd : Nat → Nat), (E.length ≤ 2 * k ∧ c ≤ k) ∧ (day = nI d ∧ g 0 = nI d ∧ d ≤ 9999) ∧ B2 v d E z gl gd gc gp g ∧ (LogC Lg nx sz dp ∧ LogM Lg g) ∧ B4 v d c dy cnt pr g ∧ B5 v d c dy ws pr qu g ∧ B6 v ti be hm sh g ∧ B7 v k E db rd de re tt g
def BR (v : Nat → Nat) (k : Nat) (b : T_BK) (g : Nat → Int32) : Prop := BRc v k b.1 b.2.1 b.2.2.1 b.2.2.2.1 b.2.2.2.2.1 b.2.2.2.2.2.1 b.2.2.2.2.2.2.1 b.2.2.2.2.2.2.2.1 b.2.2.2.2.2.2.2.2.1 b.2.2.2.2.2.2.2.2.2.1 b.2.2.2.2.2.2.2.2.2.2.1 b.2.2.2.2.2.2.2.2.2.2.2.1 b.2.2.2.2.2.2.2.2.2.2.2.2.1 b.2.2.2.2.2.2.2.2.2.2.2.2.2.1 b.2.2.2.2.2.2.2.2.2.2.2.2.2.2.1 b.2.2.2.2.2.2.2.2.2.2.2.2.2.2.2.1 b.2.2.2.2.2.2.2.2.2.2.2.2.2.2.2.2.1 b.2.2.2.2.2.2.2.2.2.2.2.2.2.2.2.2.2.1 b.2.2.2.2.2.2.2.2.2.2.2.2.2.2.2.2.2.2.1 b.2.2.2.2.2.2.2.2.2.2.2.2.2.2.2.2.2.2.2.1 g
theorem B2_same {v : Nat → Nat} {d : Nat} {E : List En} {z : Int32} {gl gd gc gp g g' : Nat → Int32} (H : B2 v d E z gl gd gc gp g) (h : ∀ i, 12470 ≤ i → i < 72470 → g' i = g i) : B2 v d E z gl gd gc gp g' := ⟨H.1, MC_same H.2.1 h, H.2.2⟩
theorem B4_same {v : Nat → Nat} {d c : Nat} {dy : Nat → Nat} {cnt : Int32} {pr g g' : Nat → Int32} (H : B4 v d c dy cnt pr g) (h1 : g' 1 = g 1) (h : ∀ i, 70 ≤ i → i < 350 → g' i = g i) : B4 v d c dy cnt pr g' := ⟨H.1, H.2.1, by rw [h1]; exact H.2.2.1, fun i w a b c => by rw [h _ (by omega) (by omega)]; exact H.2.2.2.1 i w a b c, H.2.2.2.2⟩
theorem B5_same {v : Nat → Nat} {d c : Nat} {dy : Nat → Nat} {ws : Int32} {pr qu g g' : Nat → Int32} (hV : SV v) (H : B5 v d c dy ws pr qu g) (h : ∀ i, 470 ≤ i → i < 12470 → g' i = g i) : B5 v d c dy ws pr qu g' := ⟨H.1, H.2.1, fun m e a b c => by
  have := hV.1.2.2.2.2.1
  rw [h _ (by omega) (by omega)]; exact H.2.2 m e a b c⟩
theorem B6_same {v : Nat → Nat} {ti be hm sh g g' : Nat → Int32} (hV : SV v) (H : B6 v ti be hm sh g) (h : ∀ i, 30 ≤ i → i < 70 → g' i = g i) : B6 v ti be hm sh g' := by
  have := hV.1.2.2.2.2.2
  refine ⟨fun m hm => ?_, fun q hq => ?_⟩
  · rw [h (42 + m) (by omega) (by omega), h (54 + m) (by omega) (by omega), h (30 + m) (by omega) (by omega)]
    exact H.1 m hm
  · rw [h (66 + q) (by omega) (by omega)]
    exact H.2 q hq
theorem B7_same {v : Nat → Nat} {k k' : Nat} {E : List En} {db rd : Nat → Nat} {de re tt g g' : Nat → Int32} (H : B7 v k E db rd de re tt g) (hk : k ≤ k') (h : ∀ i, 3 ≤ i → i < 30 → g' i = g i) : B7 v k' E db rd de re tt g' := by
  refine ⟨fun m hm => ?_, fun i hi => ?_, fun i hi => ?_, ?_⟩
  · rw [h _ (by omega) (by omega)]
    obtain ⟨a, b, c, d⟩ := H.1 m hm
    exact ⟨a, b, Nat.le_trans c (bd_mono hk), d⟩
  · rw [h _ (by omega) (by omega)]; exact H.2.1 i hi
  · rw [h _ (by omega) (by omega)]; exact H.2.2.1 i hi
  · obtain ⟨ex, a, b⟩ := H.2.2.2
    exact ⟨ex, a, Nat.le_trans b (bd_mono hk)⟩
theorem BR_mono {v : Nat → Nat} {k k' : Nat} {b : T_BK} {g : Nat → Int32} (H : BR v k b g) (hk : k ≤ k') : BR v k' b g := by
  obtain ⟨d, E, Lg, c, dy, db, rd, ⟨a1, a2⟩, a3, a4, a5, a6, a7, a8, a9⟩ := H
  exact ⟨d, E, Lg, c, dy, db, rd, ⟨by omega, by omega⟩, a3, a4, a5, a6, a7, a8, B7_same a9 hk (fun i _ _ => rfl)⟩
theorem EV_add {v : Nat → Nat} {d : Nat} {E : List En} (H : EV v d E) {k p : Nat} (h : (d < kD k ∧ kD k ≤ d + v 5) ∧ (kL k < 12 → kL k < v 3) ∧ (12 ≤ kL k → kL k - 12 < v 4 ∧ kC k - 1 < v 3)) : EV v d (addE k p E) := by
  intro x hx
  cases addE_mem hx with
  | inl a => rw [a.1]; exact h
  | inr a => exact H x a
theorem cI_none {c : Nat} (hc : c < 16) : cI c = (-1 : Int32) ↔ c = 0 := by
  rw [show (-1 : Int32) = cI 0 from rfl, cI_eq (by omega) hc]
/-- the sums of some functions changed in one place -/
theorem sumN_upd {f : Nat → Nat} {i x : Nat} : ∀ {n : Nat}, i < n → sumN (updN f i x) n + f i = sumN f n + x
  | 0, h => by omega
  | n + 1, h => by
    rw [sumN, sumN]
    by_cases hi : i = n
    · subst hi
      have h2 : sumN (updN f i x) i = sumN f i := by
        have : ∀ k, k ≤ i → sumN (updN f i x) k = sumN f k := by
          intro k
          induction k with
          | zero => intro _; rfl
          | succ k ih => intro hk; rw [sumN, sumN, ih (by omega), updN_ne _ _ (by omega)]
        exact this i (Nat.le_refl _)
      rw [h2, updN_at]; omega
    · have := sumN_upd (f := f) (x := x) (i := i) (n := n) (by omega)
      rw [updN_ne _ _ (show ¬ n = i by omega)]; omega

