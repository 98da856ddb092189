theorem toInt64_lt {a b : Int32} : a.toInt64 < b.toInt64 ↔ a < b := by rw [Int64.lt_iff_toInt_lt, Int32.lt_iff_toInt_lt, Int32.toInt_toInt64, Int32.toInt_toInt64]
theorem M_isIn (x a b : Int32) : f_X11_isIn x.toInt64 a.toInt64 b.toInt64 = some (if x < a ∨ b < x then 0 else 1) := by
  unfold f_X11_isIn
  by_cases h1 : x < a
  · rw [if_pos ((lg_cmp_lt _ _).mpr (toInt64_lt.mpr h1)), if_pos (Or.inl h1)]
  · rw [if_neg (fun hh => h1 (toInt64_lt.mp ((lg_cmp_lt _ _).mp hh)))]
    by_cases h2 : b < x
    · rw [if_pos ((lg_cmp_gt _ _).mpr (toInt64_lt.mpr h2)), if_pos (Or.inr h2)]
    · rw [if_neg (fun hh => h2 (toInt64_lt.mp ((lg_cmp_gt _ _).mp hh))), if_neg (fun hh => hh.elim h1 h2)]
theorem lt_sub1 {x : Int32} {n : Nat} (hn : n < 2 ^ 30) : nI n - 1 < x ↔ nI n ≤ x := by
  rw [Int32.lt_iff_toInt_lt, Int32.le_iff_toInt_le, show (1 : Int32) = nI 1 from rfl, subI_toInt hn (by decide), nI_toInt (by omega)]
  omega
/-- a number out of its range -/
abbrev outN (x : Int32) (n : Nat) : Prop := x < 0 ∨ nI n ≤ x
theorem outN_not {x : Int32} {n : Nat} (hn : n < 2 ^ 30) (h : ¬ outN x n) : ∃ m, m < n ∧ x = nI m := by
  obtain ⟨j, h1, h2⟩ := nI_of (fun hh => h (Or.inl hh))
  refine ⟨j, ?_, h2⟩
  have h3 : ¬ nI n ≤ x := fun hh => h (Or.inr hh)
  rw [h2, nI_leI (by omega) h1] at h3
  omega
theorem outN_in {m n : Nat} (hn : n < 2 ^ 30) (h : m < n) : ¬ outN (nI m) n := by
  intro hh
  cases hh with
  | inl a => exact nI_pos (by omega) a
  | inr a => rw [nI_leI (by omega) (by omega)] at a; omega
theorem M_isInN (x : Int32) {n : Nat} (hn : n < 2 ^ 30) : f_X11_isIn x.toInt64 (0 : Int64) ((nI n - (1 : Int32)).toInt64) = some (if outN x n then 0 else 1) := by
  rw [show (0 : Int64) = (0 : Int32).toInt64 from rfl, M_isIn]
  congr 1
  by_cases h : outN x n
  · rw [if_pos h, if_pos (h.imp id (fun hh => (lt_sub1 hn).mpr hh))]
  · rw [if_neg h, if_neg (fun hh => h (hh.imp id (fun h2 => (lt_sub1 hn).mp h2)))]
theorem bool01 {c : Prop} [Decidable c] : (if (if c then (0 : Int32) else 1) = 0 ∨ (if c then (0 : Int32) else 1) = 1 then some (if c then (0 : Int32) else 1) else none) = some (if c then (0 : Int32) else 1) := by
  by_cases h : c
  · simp only [if_pos h]; rfl
  · simp only [if_neg h]; rfl
theorem M_isMember (x : Int32) {fx : Nat → Int32} {n : Nat} (hn : n < 2 ^ 30) (h : fx 3 = nI n) : f_X11_isMember x 71 fx = some (if outN x n then 0 else 1) := by
  unfold f_X11_isMember
  rw [if_neg (by decide), show (3 : Int32).toNatClampNeg = 3 from rfl, h, M_isInN x hn, Option.bind_some, bool01]
theorem M_isHouse (x : Int32) {fx : Nat → Int32} {n : Nat} (hn : n < 2 ^ 30) (h : fx 4 = nI n) : f_X11_isHouse x 71 fx = some (if outN x n then 0 else 1) := by
  unfold f_X11_isHouse
  rw [if_neg (by decide), show (4 : Int32).toNatClampNeg = 4 from rfl, h, M_isInN x hn, Option.bind_some, bool01]
theorem M_isCategory (x : Int32) {fx : Nat → Int32} {n : Nat} (hn : n < 2 ^ 30) (h : fx 1 = nI n) : f_X11_isCategory x 71 fx = some (if outN x n then 0 else 1) := by
  unfold f_X11_isCategory
  rw [if_neg (by decide), show (1 : Int32).toNatClampNeg = 1 from rfl, h, M_isInN x hn, Option.bind_some, bool01]
theorem M_lacksMember (x : Int32) {fx : Nat → Int32} {n : Nat} (hn : n < 2 ^ 30) (h : fx 3 = nI n) : f_X11_lacksMember x 71 fx = some (if outN x n then (1, 1) else (0, 0)) := by
  unfold f_X11_lacksMember f_X11_lacksMember_b14
  rw [M_isMember x hn h, Option.bind_some]
  by_cases c : outN x n
  · simp only [if_pos c, if_true]; rfl
  · simp only [if_neg c]; rfl
theorem M_lacksHouse (x : Int32) {fx : Nat → Int32} {n : Nat} (hn : n < 2 ^ 30) (h : fx 4 = nI n) : f_X11_lacksHouse x 71 fx = some (if outN x n then (1, 1) else (0, 0)) := by
  unfold f_X11_lacksHouse f_X11_lacksHouse_b14
  rw [M_isHouse x hn h, Option.bind_some]
  by_cases c : outN x n
  · simp only [if_pos c, if_true]; rfl
  · simp only [if_neg c]; rfl
theorem M_today {g : Nat → Int32} : f_X11_today0 72470 g = some (g 0) := by
  unfold f_X11_today0
  rw [if_neg (by decide)]; rfl
/-- the reference's bases of the days, of the members there are -/
def BaM (nm d : Nat) (B : Nat → Nat → Int32) (g : Nat → Int32) : Prop := ∀ m e, m < nm → e ≤ d → d < e + 1000 → g (470 + 1000 * m + e % 1000) = B m e
/-- what a day adds, days counted from the window's beginning -/
def bS (B : Nat → Nat → Int32) (win d m s : Nat) : Int32 := if s < win then 0 else if s - win ≤ d ∧ d < s - win + 1000 then B m (s - win) else 0
theorem M_baseOn {nm d m s win : Nat} {B : Nat → Nat → Int32} {g : Nat → Int32} (H : BaM nm d B g) (h0 : g 0 = nI d) (hd : d ≤ 9999) (hm : m < nm) (hnm : nm ≤ 12) (hs : s < 2 ^ 20) (hw : win < 2 ^ 20) : f_X11_baseOn (nI m) (nI s - nI win) 72470 g = some (bS B win d m s) := by
  unfold f_X11_baseOn bS
  have e1 : nI s - nI win < 0 ↔ s < win := by
    rw [← nI_0, subI_lt (by omega) (by omega) (by omega)]; omega
  by_cases h : s < win
  · rw [if_pos (e1.mpr h), if_pos h]
    unfold f_X11_baseOn_b28 f_X11_baseOn_b29
    rw [if_pos rfl]
  · rw [if_neg (fun hh => h (e1.mp hh)), if_neg h, M_today, Option.bind_some, Option.bind_some, h0, nI_subI (by omega)]
    by_cases h2 : d < s - win
    · rw [if_pos ((nI_ltI (by omega) (by omega)).mpr h2), if_neg (by omega)]
      unfold f_X11_baseOn_b28 f_X11_baseOn_b29
      rw [if_pos rfl]
    · rw [if_neg (fun hh => h2 ((nI_ltI (by omega) (by omega)).mp hh))]
      have e3 : nI (s - win) ≤ nI d - (1000 : Int32) ↔ s - win + 1000 ≤ d := by
        rw [Int32.le_iff_toInt_le, show (1000 : Int32) = nI 1000 from rfl, subI_toInt (by omega) (by decide), nI_toInt (by omega)]; omega
      by_cases h3 : s - win + 1000 ≤ d
      · rw [if_pos (e3.mpr h3), if_neg (by omega)]
        unfold f_X11_baseOn_b28 f_X11_baseOn_b29
        rw [if_pos rfl]
      · rw [if_neg (fun hh => h3 (e3.mp hh)), if_pos (by omega)]
        unfold f_X11_baseOn_b29
        have g1 := grd (i := 470 + 1000 * m + (s - win) % 1000) (n := 72470) (by omega) (by decide)
        rw [if_neg (by decide), if_neg (by decide), nI_mod (by omega), show (470 : Int32) = nI 470 from rfl, show (1000 : Int32) = nI 1000 from rfl, nI_mul, nI_add, nI_add, if_neg g1, nI_clamp (by omega), H m _ hm (by omega) (by omega)]
theorem M_sum_from {nm d m win : Nat} {B : Nat → Nat → Int32} {g : Nat → Int32} (H : BaM nm d B g) (h0 : g 0 = nI d) (hd : d ≤ 9999) (hm : m < nm) (hnm : nm ≤ 12) (hw : win ≤ 1000) : ∀ (n j : Nat) (x : Int32), j ≤ win → win < n + j → f_X11_sumUpTo_b15 (nI m) (nI d) 72470 g n x (nI (d + 1 + j) - nI win) = some (x + sumR (bS B win d m) (d + 1 + j) (win - j)) := by
  intro n
  induction n with
  | zero => intro j x h1 h2; omega
  | succ n ih =>
    intro j x h1 h2
    rw [f_X11_sumUpTo_b15]
    have e1 : nI d < nI (d + 1 + j) - nI win ↔ win ≤ j := by
      rw [Int32.lt_iff_toInt_lt, subI_toInt (by omega) (by omega), nI_toInt (by omega)]; omega
    by_cases h : win ≤ j
    · rw [if_pos (e1.mpr h), show win - j = 0 by omega, sumR, Int32.add_zero]
    · obtain ⟨k, hk⟩ : ∃ k, win - j = k + 1 := ⟨win - j - 1, by omega⟩
      rw [if_neg (fun hh => h (e1.mp hh)), M_baseOn H h0 hd hm hnm (by omega) (by omega), Option.bind_some, Option.bind_some, Option.bind_some, hk, sumR]
      have e2 : nI (d + 1 + j) - nI win + 1 = nI (d + 1 + (j + 1)) - nI win := by
        rw [show d + 1 + (j + 1) = d + 1 + j + 1 by omega, ← nI_1, Int32.sub_eq_add_neg, Int32.sub_eq_add_neg, Int32.add_assoc, Int32.add_comm _ 1, ← Int32.add_assoc]
      rw [e2, ih (j + 1) _ (by omega) (by omega), show win - (j + 1) = k by omega, Int32.add_assoc]
      rfl
theorem M_sumUpTo {nm d m win : Nat} {B : Nat → Nat → Int32} {fx g : Nat → Int32} (H : BaM nm d B g) (h0 : g 0 = nI d) (hd : d ≤ 9999) (hm : m < nm) (hnm : nm ≤ 12) (hw : win ≤ 1000) (h6 : fx 6 = nI win) {N : Nat} (hN : 2000 < N) : f_X11_sumUpTo N (nI m) (nI d) 71 72470 fx g = some (sumR (bS B win d m) (d + 1) win) := by
  unfold f_X11_sumUpTo
  have e2 : nI d - nI win + 1 = nI (d + 1 + 0) - nI win := by
    rw [Nat.add_zero, ← nI_1, Int32.sub_eq_add_neg, Int32.sub_eq_add_neg, Int32.add_assoc, Int32.add_comm _ 1, ← Int32.add_assoc]
  rw [if_neg (by decide), show (6 : Int32).toNatClampNeg = 6 from rfl, h6, Option.bind_some, e2, M_sum_from H h0 hd hm hnm hw N 0 0 (by omega) (by omega), Int32.zero_add]
  rfl
/-- a member's qualifying sum on a day: the purchases of the window -/
def qT (pr : Nat → Int32) (dy : Nat → Nat) (c win m t : Nat) : Int32 := sumF (fun i => if t < dy i + win then bW pr m i else 0) c
/-- the days of the window give it -/
theorem qT_days {pr : Nat → Int32} {dy : Nat → Nat} {c win d m : Nat} (hdy : ∀ i, i < c → dy i ≤ d) (hw : win ≤ 1000) : ∀ n, sumR (bS (bD pr dy c) win d m) (d + 1) n = sumF (fun i => if d < dy i + win ∧ dy i + win ≤ d + n then bW pr m i else 0) c
  | 0 => by
    rw [sumR, sumF_zero]
    intro i _
    exact if_neg (by omega)
  | n + 1 => by
    have hb : bS (bD pr dy c) win d m (d + 1 + n) = sumF (fun i => if dy i + win = d + 1 + n then bW pr m i else 0) c := by
      unfold bS
      by_cases h : d + 1 + n < win
      · rw [if_pos h, sumF_zero]
        intro i _
        exact if_neg (by omega)
      · rw [if_neg h]
        by_cases h2 : d + 1 + n - win ≤ d ∧ d < d + 1 + n - win + 1000
        · rw [if_pos h2]
          unfold bD
          refine sumF_congr (fun i _ => ?_)
          by_cases h3 : dy i = d + 1 + n - win
          · rw [if_pos h3, if_pos (by omega)]
          · rw [if_neg h3, if_neg (by omega)]
        · rw [if_neg h2, sumF_zero]
          intro i hi
          have := hdy i hi
          exact if_neg (by omega)
    rw [sumR_snoc, qT_days hdy hw n, hb, sumF_add]
    refine sumF_congr (fun i _ => ?_)
    by_cases h1 : d < dy i + win ∧ dy i + win ≤ d + n
    · rw [if_pos h1, if_neg (by omega), if_pos (by omega), Int32.add_zero]
    · rw [if_neg h1, Int32.zero_add]
      by_cases h2 : dy i + win = d + 1 + n
      · rw [if_pos h2, if_pos (by omega)]
      · rw [if_neg h2, if_neg (by omega)]
theorem qT_now {pr : Nat → Int32} {dy : Nat → Nat} {c win d m : Nat} (hdy : ∀ i, i < c → dy i ≤ d) (hw : win ≤ 1000) : sumR (bS (bD pr dy c) win d m) (d + 1) win = qT pr dy c win m d := by
  rw [qT_days hdy hw win]
  unfold qT
  refine sumF_congr (fun i hi => ?_)
  have := hdy i hi
  by_cases h : d < dy i + win
  · rw [if_pos h, if_pos (by omega)]
  · rw [if_neg h, if_neg (by omega)]
/-- the sum one day later -/
theorem qT_succ {pr : Nat → Int32} {dy : Nat → Nat} {c win d m t : Nat} (hdy : ∀ i, i < c → dy i ≤ d) (hw : win ≤ 1000) (ht : d ≤ t) : qT pr dy c win m t - bS (bD pr dy c) win d m (t + 1) = qT pr dy c win m (t + 1) := by
  have hb : bS (bD pr dy c) win d m (t + 1) = sumF (fun i => if dy i + win = t + 1 then bW pr m i else 0) c := by
    unfold bS
    by_cases h : t + 1 < win
    · rw [if_pos h, sumF_zero]
      intro i _
      exact if_neg (by omega)
    · rw [if_neg h]
      by_cases h2 : t + 1 - win ≤ d ∧ d < t + 1 - win + 1000
      · rw [if_pos h2]
        unfold bD
        refine sumF_congr (fun i _ => ?_)
        by_cases h3 : dy i = t + 1 - win
        · rw [if_pos h3, if_pos (by omega)]
        · rw [if_neg h3, if_neg (by omega)]
      · rw [if_neg h2, sumF_zero]
        intro i hi
        have := hdy i hi
        exact if_neg (by omega)
  rw [Int32.sub_eq_iff_eq_add, hb]
  unfold qT
  rw [sumF_add]
  refine sumF_congr (fun i _ => ?_)
  by_cases h1 : t < dy i + win
  · rw [if_pos h1]
    by_cases h2 : dy i + win = t + 1
    · rw [if_pos h2, if_neg (by omega), Int32.zero_add]
    · rw [if_neg h2, if_pos (by omega), Int32.add_zero]
  · rw [if_neg h1, if_neg (by omega), if_neg (by omega)]; rfl
/-- the purchases of the window are those from a place on -/
theorem qT_place {pr : Nat → Int32} {dy : Nat → Nat} {c win m t a : Nat} (ha : a ≤ c) (h1 : ∀ i, i < a → dy i + win ≤ t) (h2 : ∀ i, a ≤ i → i < c → t < dy i + win) : qT pr dy c win m t = sumR (bW pr m) a (c - a) := by
  unfold qT
  have h3 : sumF (fun i => if t < dy i + win then bW pr m i else 0) (a + (c - a)) = sumR (bW pr m) a (c - a) := by
    rw [sumF_R, sumF_zero (fun i hi => if_neg (by have := h1 i hi; omega)), Int32.zero_add]
    exact sumR_congr (fun i b1 b2 => if_pos (h2 i b1 (by omega)))
  rw [show a + (c - a) = c by omega] at h3
  exact h3
theorem sumR_split {f : Nat → Int32} : ∀ {n k a : Nat}, sumR f a (n + k) = sumR f a n + sumR f (a + n) k
  | 0, k, a => by rw [sumR, Int32.zero_add, Nat.zero_add]; rfl
  | n + 1, k, a => by
    rw [show n + 1 + k = (n + k) + 1 by omega, sumR, sumR, sumR_split, Int32.add_assoc, show a + 1 + n = a + (n + 1) by omega]

