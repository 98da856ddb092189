/-- sums of a function over the first, and over some from one on -/
def sumF (f : Nat → Int32) : Nat → Int32
  | 0 => 0
  | n + 1 => sumF f n + f n
def sumR (f : Nat → Int32) : Nat → Nat → Int32
  | _, 0 => 0
  | a, n + 1 => f a + sumR f (a + 1) n
theorem sumF_congr {f h : Nat → Int32} : ∀ {n : Nat}, (∀ i, i < n → f i = h i) → sumF f n = sumF h n
  | 0, _ => rfl
  | n + 1, e => by rw [sumF, sumF, sumF_congr (fun i hi => e i (by omega)), e n (by omega)]
theorem sumF_add {f h : Nat → Int32} : ∀ {n : Nat}, sumF f n + sumF h n = sumF (fun i => f i + h i) n
  | 0 => rfl
  | n + 1 => by
    rw [sumF, sumF, sumF, ← sumF_add]
    rw [Int32.add_assoc, Int32.add_assoc, ← Int32.add_assoc (f n), Int32.add_comm (f n), Int32.add_assoc (sumF h n)]
theorem sumF_zero {f : Nat → Int32} : ∀ {n : Nat}, (∀ i, i < n → f i = 0) → sumF f n = 0
  | 0, _ => rfl
  | n + 1, e => by rw [sumF, sumF_zero (fun i hi => e i (by omega)), e n (by omega)]; rfl
theorem sumR_snoc {f : Nat → Int32} : ∀ {n a : Nat}, sumR f a (n + 1) = sumR f a n + f (a + n)
  | 0, a => by rw [sumR, sumR, sumR, Int32.zero_add, Int32.add_zero]; rfl
  | n + 1, a => by
    rw [sumR, sumR_snoc, sumR, Int32.add_assoc]
    rw [show a + 1 + n = a + (n + 1) by omega]
theorem sumF_R {f : Nat → Int32} : ∀ {n a : Nat}, sumF f (a + n) = sumF f a + sumR f a n
  | 0, a => by rw [sumR, Int32.add_zero]; rfl
  | n + 1, a => by rw [show a + (n + 1) = (a + n) + 1 by omega, sumF, sumF_R, sumR_snoc, Int32.add_assoc]
theorem sumR_congr {f h : Nat → Int32} : ∀ {n a : Nat}, (∀ i, a ≤ i → i < a + n → f i = h i) → sumR f a n = sumR h a n
  | 0, _, _ => rfl
  | n + 1, a, e => by rw [sumR, sumR, e a (by omega) (by omega), sumR_congr (fun i h1 h2 => e i (by omega) (by omega))]
/-- what a purchase adds to a member's sum -/
def bW (pr : Nat → Int32) (m i : Nat) : Int32 := if pr (7 * i) = nI m then (if pr (7 * i + 6) = 0 then pr (7 * i + 3) else 0) else 0
theorem h3584 : (3584 : Nat) < 2 ^ 31 := by decide
theorem C_part {pr : Nat → Int32} {i w : Nat} (hi : i < 512) (hw : w < 7) : f_X5_part (nI i) (nI w) 3584 pr = some (pr (7 * i + w)) := by
  unfold f_X5_part
  rw [show (7 : Int32) = nI 7 from rfl, nI_mul, nI_add, X6_at_in pr h3584 (by omega), Option.bind_some, Nat.mul_comm]
theorem C_bases_from {pr : Nat → Int32} {m e : Nat} (he : e ≤ 512) : ∀ (n a : Nat) (x : Int32), a ≤ e → e < n + a → f_X5_basesOf_b6 (nI m) (nI e) 3584 pr n x (nI a) = some (x + sumR (bW pr m) a (e - a)) := by
  intro n
  induction n with
  | zero => intro a x h1 h2; omega
  | succ n ih =>
    intro a x h1 h2
    rw [f_X5_basesOf_b6]
    by_cases h : e = a
    · subst h
      rw [if_pos (Int32.le_refl _), Nat.sub_self, sumR, Int32.add_zero]
    · obtain ⟨k, hk⟩ : ∃ k, e - a = k + 1 := ⟨e - a - 1, by omega⟩
      have h3 := ih (a + 1)
      rw [show e - (a + 1) = k by omega] at h3
      have q0 : f_X5_part (nI a) 0 3584 pr = some (pr (7 * a)) := C_part (w := 0) (by omega) (by omega)
      have q6 : f_X5_part (nI a) 6 3584 pr = some (pr (7 * a + 6)) := C_part (w := 6) (by omega) (by omega)
      have q3 : f_X5_part (nI a) 3 3584 pr = some (pr (7 * a + 3)) := C_part (w := 3) (by omega) (by omega)
      rw [if_neg (fun hh => by have := (nI_leI (by omega) (by omega)).mp hh; omega), q0, q3, q6, hk, sumR]
      simp only [Option.bind_some, nI_1]
      unfold bW at *
      by_cases b1 : pr (7 * a) = nI m
      · rw [if_pos b1, if_pos b1]
        by_cases b2 : pr (7 * a + 6) = 0
        · rw [if_pos b2, if_pos b2, h3 _ (by omega) (by omega), Int32.add_assoc]
        · rw [if_neg b2, if_neg b2, h3 _ (by omega) (by omega), Int32.zero_add]
      · rw [if_neg b1, if_neg b1, h3 _ (by omega) (by omega), Int32.zero_add]
theorem C_bases {pr : Nat → Int32} {m e a : Nat} (he : e ≤ 512) (ha : a ≤ e) {N : Nat} (hN : 1024 < N) : f_X5_basesOf N (nI m) (nI a) (nI e) 3584 pr = some (sumR (bW pr m) a (e - a)) := by
  unfold f_X5_basesOf
  rw [C_bases_from he N a 0 ha (by omega), Int32.zero_add]
theorem subI_toInt {a b : Nat} (ha : a < 2 ^ 30) (hb : b < 2 ^ 30) : (nI a - nI b).toInt = (a : Int) - b := by
  have h1 : (nI a).toInt = a := nI_toInt (by omega)
  have h2 : (nI b).toInt = b := nI_toInt (by omega)
  rw [Int32.toInt_sub, h1, h2, Int.bmod_eq_of_le (by omega) (by omega)]
theorem subI_lt {a b c : Nat} (ha : a < 2 ^ 30) (hb : b < 2 ^ 30) (hc : c < 2 ^ 30) : nI a - nI b < nI c ↔ a < c + b := by
  rw [Int32.lt_iff_toInt_lt, subI_toInt ha hb, nI_toInt (by omega)]; omega
theorem C_firstAfter_from {pr : Nat → Int32} {dy : Nat → Nat} {c : Nat} (hc : c ≤ 512) (hdy : ∀ i, i < c → pr (7 * i + 5) = nI (dy i) ∧ dy i < 16384) {t win : Nat} (ht : t < 2 ^ 20) (hw : win < 2 ^ 20) : ∀ (n a : Nat), a ≤ c → c < n + a → ∃ r, f_X5_firstAfter_b2 (nI t - nI win) 3584 (nI c) pr n (nI a) = some (nI r) ∧ a ≤ r ∧ r ≤ c ∧ (∀ i, a ≤ i → i < r → dy i + win ≤ t) ∧ (r < c → t < dy r + win) := by
  intro n
  induction n with
  | zero => intro a h1 h2; omega
  | succ n ih =>
    intro a h1 h2
    rw [f_X5_firstAfter_b2]
    by_cases h : c = a
    · subst h
      rw [if_pos (Int32.le_refl _)]
      exact ⟨c, rfl, Nat.le_refl _, Nat.le_refl _, fun i a b => by omega, fun a => by omega⟩
    · obtain ⟨q1, q2⟩ := hdy a (by omega)
      have q5 : f_X5_part (nI a) 5 3584 pr = some (pr (7 * a + 5)) := C_part (w := 5) (by omega) (by omega)
      rw [if_neg (fun hh => by have := (nI_leI (by omega) (by omega)).mp hh; omega), q5, Option.bind_some, q1]
      by_cases b : t < dy a + win
      · rw [if_pos ((subI_lt (by omega) (by omega) (by omega)).mpr b)]
        exact ⟨a, rfl, Nat.le_refl _, h1, fun i a b => by omega, fun _ => b⟩
      · rw [if_neg (fun hh => b ((subI_lt (by omega) (by omega) (by omega)).mp hh)), Option.bind_some, nI_1]
        obtain ⟨r, a1, a2, a3, a4, a5⟩ := ih (a + 1) (by omega) (by omega)
        refine ⟨r, a1, by omega, a3, fun i b1 b2 => ?_, a5⟩
        by_cases hi : i = a
        · rw [hi]; omega
        · exact a4 i (by omega) b2
theorem C_firstAfter {pr : Nat → Int32} {dy : Nat → Nat} {c : Nat} (hc : c ≤ 512) (hdy : ∀ i, i < c → pr (7 * i + 5) = nI (dy i) ∧ dy i < 16384) {t win a : Nat} (ht : t < 2 ^ 20) (hw : win < 2 ^ 20) (ha : a ≤ c) {N : Nat} (hN : 1024 < N) : ∃ r, f_X5_firstAfter N (nI a) (nI t - nI win) 3584 (nI c) pr = some (nI r) ∧ a ≤ r ∧ r ≤ c ∧ (∀ i, a ≤ i → i < r → dy i + win ≤ t) ∧ (r < c → t < dy r + win) := by
  unfold f_X5_firstAfter
  exact C_firstAfter_from hc hdy ht hw N a ha (by omega)
/-- what a member bought on a day adds -/
def bD (pr : Nat → Int32) (dy : Nat → Nat) (c m e : Nat) : Int32 := sumF (fun i => if dy i = e then bW pr m i else 0) c
