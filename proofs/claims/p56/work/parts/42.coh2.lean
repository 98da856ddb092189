/-- a row's block moved, be it empty -/
theorem X6_move_any {n a b c : Nat} (g : Nat → Int32) (hn : n < 2 ^ 31) (ha : a + c ≤ n) (hb : b + c ≤ n) : f_X6_move (nI a) (nI b) (nI c) n g = some (va_cpy g g a b c) := by
  by_cases hc : c = 0
  · subst hc
    rw [nI_0, X6_move_none]
    congr 1; funext j
    simp only [va_cpy, Nat.add_zero]
    rw [if_neg (by omega)]
  · exact X6_move_in g hn (by omega) ha hb
theorem nI_subI {a b : Nat} (h : b ≤ a) : nI a - nI b = nI (a - b) := by
  rw [Int32.sub_eq_iff_eq_add, nI_add, Nat.sub_add_cancel h]
/-- the cohorts moved one place on -/
theorem X1_shift_up {k q : Nat} (gl gd gc gp : Nat → Int32) (hk : k < 1024) (hq : q ≤ k) : f_X1_shift (nI q) (nI (q + 1)) 1024 1024 1024 1024 (nI k) gl gd gc gp = some (nI (k + 1), va_cpy gl gl q (q + 1) (k - q), va_cpy gd gd q (q + 1) (k - q), va_cpy gc gc q (q + 1) (k - q), va_cpy gp gp q (q + 1) (k - q)) := by
  have h1024 : (1024 : Nat) < 2 ^ 31 := by decide
  unfold f_X1_shift
  rw [nI_subI hq, nI_subI (Nat.le_succ q), show q + 1 - q = 1 by omega]
  simp only [fun g => X6_move_any (a := q) (b := q + 1) (c := k - q) g h1024 (by omega) (by omega), Option.bind_some, nI_add]
/-- the cohorts moved one place back -/
theorem X1_shift_down {k q : Nat} (gl gd gc gp : Nat → Int32) (hk : k ≤ 1024) (hq : q < k) : f_X1_shift (nI (q + 1)) (nI q) 1024 1024 1024 1024 (nI k) gl gd gc gp = some (nI (k - 1), va_cpy gl gl (q + 1) q (k - (q + 1)), va_cpy gd gd (q + 1) q (k - (q + 1)), va_cpy gc gc (q + 1) q (k - (q + 1)), va_cpy gp gp (q + 1) q (k - (q + 1))) := by
  have h1024 : (1024 : Nat) < 2 ^ 31 := by decide
  have h2 : nI k + (nI q - nI (q + 1)) = nI (k - 1) := by
    have h3 : nI (q + 1) = nI q + nI 1 := (nI_add q 1).symm
    have h4 : nI k = nI (k - 1) + nI 1 := by rw [nI_add]; congr 1; omega
    have h5 : nI q - (nI q + nI 1) = -nI 1 := by
      rw [Int32.sub_eq_iff_eq_add, Int32.add_comm, Int32.add_assoc, Int32.add_right_neg, Int32.add_zero]
    rw [h3, h5, h4, Int32.add_assoc, Int32.add_right_neg, Int32.add_zero]
  unfold f_X1_shift
  rw [nI_subI (show q + 1 ≤ k from hq), h2]
  simp only [fun g => X6_move_any (a := q + 1) (b := q) (c := k - (q + 1)) g h1024 (by omega) (by omega), Option.bind_some]
/-- a list with one more in a place -/
def insAt (L : List Co) (q : Nat) (e : Co) : List Co := L.take q ++ e :: L.drop q
theorem insAt_length {L : List Co} {q : Nat} (e : Co) (h : q ≤ L.length) : (insAt L q e).length = L.length + 1 := by
  unfold insAt
  simp only [List.length_append, List.length_take, List.length_cons, List.length_drop]
  omega
theorem insAt_get {L : List Co} {q : Nat} (e : Co) (h : q ≤ L.length) (i : Nat) : (insAt L q e)[i]? = if i < q then L[i]? else if i = q then some e else L[i - 1]? := by
  unfold insAt
  have h1 : (L.take q).length = q := by rw [List.length_take]; omega
  by_cases h2 : i < q
  · rw [if_pos h2, List.getElem?_append_left (by omega), List.getElem?_take_of_lt h2]
  · rw [if_neg h2, List.getElem?_append_right (by omega), h1]
    by_cases h3 : i = q
    · rw [if_pos h3, h3, Nat.sub_self]; rfl
    · rw [if_neg h3]
      obtain ⟨d, hd⟩ : ∃ d, i - q = d + 1 := ⟨i - q - 1, by omega⟩
      rw [hd, List.getElem?_cons_succ, List.getElem?_drop]
      congr 1; omega
/-- the cohorts with one more, in a place -/
theorem CoR_ins {L : List Co} {z : Int32} {gl gd gc gp : Nat → Int32} (H : CoR L z gl gd gc gp) {q : Nat} (hq : q ≤ L.length) (hl : L.length < 1024) (e : Co) : CoR (insAt L q e) (nI (L.length + 1)) (upd (va_cpy gl gl q (q + 1) (L.length - q)) q e.1) (upd (va_cpy gd gd q (q + 1) (L.length - q)) q e.2.1) (upd (va_cpy gc gc q (q + 1) (L.length - q)) q e.2.2.1) (upd (va_cpy gp gp q (q + 1) (L.length - q)) q e.2.2.2) := by
  refine ⟨by rw [insAt_length e hq]; omega, by rw [insAt_length e hq], ?_⟩
  intro i e' hi
  have hb : i < L.length + 1 := by
    have := (List.getElem?_eq_some_iff.mp hi).1
    rwa [insAt_length e hq] at this
  rw [insAt_get e hq] at hi
  by_cases h2 : i < q
  · rw [if_pos h2] at hi
    have h3 : ¬ i = q := by omega
    have h4 : ¬ (q + 1 ≤ i ∧ i < q + 1 + (L.length - q)) := by omega
    simp only [upd, h3, if_false, va_cpy, h4]
    exact H.2.2 i e' hi
  · rw [if_neg h2] at hi
    by_cases h3 : i = q
    · rw [if_pos h3] at hi
      cases hi
      simp only [upd, h3, if_true, and_self]
    · rw [if_neg h3] at hi
      have h4 : q + 1 ≤ i ∧ i < q + 1 + (L.length - q) := by omega
      have h5 : q + (i - (q + 1)) = i - 1 := by omega
      simp only [upd, h3, if_false, va_cpy, h4, and_self, if_true, h5]
      exact H.2.2 (i - 1) e' hi
/-- stands a cohort before a key -/
def befI (x1 x2 x3 : Int32) (l d c : Int32) : Bool := if l = x1 then (if d = x2 then !decide (x3 ≤ c) else !decide (x2 ≤ d)) else !decide (x1 ≤ l)
theorem X1_isBefore_in {gl gd gc : Nat → Int32} {i : Nat} (x1 x2 x3 : Int32) (hi : i < 1024) : f_X1_isBefore (nI i) x1 x2 x3 1024 1024 1024 gl gd gc = some (if befI x1 x2 x3 (gl i) (gd i) (gc i) = true then 1 else 0) := by
  have h1024 : (1024 : Nat) < 2 ^ 31 := by decide
  unfold f_X1_isBefore befI
  simp only [X6_at_in gl h1024 hi, X6_at_in gd h1024 hi, X6_at_in gc h1024 hi, Option.bind_some]
  by_cases a1 : gl i = x1
  · by_cases a2 : gd i = x2
    · by_cases a3 : x3 ≤ gc i
      · simp [a1, a2, a3]
      · simp [a1, a2, a3]
    · by_cases a3 : x2 ≤ gd i
      · simp [a1, a2, a3]
      · simp [a1, a2, a3]
  · by_cases a3 : x1 ≤ gl i
    · simp [a1, a3]
    · simp [a1, a3]
/-- the place of a key: so many stand before it -/
def placeL (x1 x2 x3 : Int32) : List Co → Nat
  | [] => 0
  | e :: L => if befI x1 x2 x3 e.1 e.2.1 e.2.2.1 = true then placeL x1 x2 x3 L + 1 else 0
theorem placeL_le (x1 x2 x3 : Int32) : ∀ L : List Co, placeL x1 x2 x3 L ≤ L.length
  | [] => Nat.le_refl 0
  | e :: L => by
    rw [placeL]
    have := placeL_le x1 x2 x3 L
    by_cases h : befI x1 x2 x3 e.1 e.2.1 e.2.2.1 = true
    · rw [if_pos h, List.length_cons]; omega
    · rw [if_neg h]; exact Nat.zero_le _
theorem X1_put_walk {L : List Co} {z : Int32} {gl gd gc gp : Nat → Int32} (H : CoR L z gl gd gc gp) (x1 x2 x3 x4 : Int32) : ∀ (N i : Nat), i ≤ L.length → L.length < N + i → f_X1_put_b10 x1 x2 x3 x4 1024 1024 1024 1024 z gl gd gc gp N (nI i) = f_X1_put_b37 x1 x2 x3 x4 (nI (i + placeL x1 x2 x3 (L.drop i))) 1024 1024 1024 1024 z gl gd gc gp := by
  obtain ⟨hl, hz, hg⟩ := H
  have hL : L.length < 2 ^ 31 := by omega
  subst hz
  intro N
  induction N with
  | zero => intro i h1 h2; omega
  | succ N ih =>
    intro i h1 h2
    have hi : i < 2 ^ 31 := by omega
    rw [f_X1_put_b10]
    by_cases h : L.length ≤ i
    · have h3 : L.drop i = [] := List.drop_eq_nil_of_le h
      simp only [nI_leI hL hi, h, if_true, h3, placeL, Nat.add_zero]
    · have hi2 : i < 1024 := by omega
      obtain ⟨e, he, hd⟩ := drop_cons' (L := L) (i := i) (by omega)
      obtain ⟨e1, e2, e3, e4⟩ := hg i e he
      have hn := ih (i + 1) (by omega) (by omega)
      simp only [nI_leI hL hi, h, if_false, X1_isBefore_in x1 x2 x3 hi2, Option.bind_some, nI_1, hd, placeL, e1, e2, e3]
      by_cases a1 : befI x1 x2 x3 e.1 e.2.1 e.2.2.1 = true
      · have z1 : ¬ (1 : Int32) = 0 := by decide
        simp only [a1, if_true, z1, if_false]
        rw [hn, show i + 1 + placeL x1 x2 x3 (L.drop (i + 1)) = i + (placeL x1 x2 x3 (L.drop (i + 1)) + 1) by omega]
      · have a1' : befI x1 x2 x3 e.1 e.2.1 e.2.2.1 = false := by simpa using a1
        simp only [a1', if_false, Bool.false_eq_true, if_true, Nat.add_zero]
/-- the points of one cohort changed -/
theorem CoR_set {L : List Co} {z : Int32} {gl gd gc gp : Nat → Int32} (H : CoR L z gl gd gc gp) {q : Nat} {e : Co} (he : L[q]? = some e) (v : Int32) : CoR (L.set q (e.1, e.2.1, e.2.2.1, v)) z gl gd gc (upd gp q v) := by
  refine ⟨by rw [List.length_set]; exact H.1, by rw [List.length_set]; exact H.2.1, ?_⟩
  intro i e' hi
  have hq : q < L.length := (List.getElem?_eq_some_iff.mp he).1
  by_cases h : i = q
  · subst h
    rw [List.getElem?_set_self hq] at hi
    cases hi
    obtain ⟨e1, e2, e3, e4⟩ := H.2.2 i e he
    exact ⟨e1, e2, e3, by simp only [upd, if_true]⟩
  · rw [List.getElem?_set_ne (fun h2 => h h2.symm)] at hi
    obtain ⟨e1, e2, e3, e4⟩ := H.2.2 i e' hi
    exact ⟨e1, e2, e3, by simp only [upd, h, if_false]; exact e4⟩
/-- the cohorts with some points more -/
def putL (x1 x2 x3 x4 : Int32) (L : List Co) : List Co := match L[placeL x1 x2 x3 L]? with
  | none => insAt L (placeL x1 x2 x3 L) (x1, x2, x3, x4)
  | some e => if e.1 = x1 ∧ e.2.1 = x2 ∧ e.2.2.1 = x3 then L.set (placeL x1 x2 x3 L) (e.1, e.2.1, e.2.2.1, e.2.2.2 + x4) else insAt L (placeL x1 x2 x3 L) (x1, x2, x3, x4)
theorem X1_put_new {L : List Co} {z : Int32} {gl gd gc gp : Nat → Int32} (H : CoR L z gl gd gc gp) (x1 x2 x3 x4 : Int32) (hl : L.length < 1024) {q : Nat} (hq : q ≤ L.length) : ∃ o, f_X1_put_b90 x1 x2 x3 x4 (nI q) 0 1024 1024 1024 1024 z gl gd gc gp = some o ∧ CoR (insAt L q (x1, x2, x3, x4)) o.1 o.2.1 o.2.2.1 o.2.2.2.1 o.2.2.2.2 := by
  have h1024 : (1024 : Nat) < 2 ^ 31 := by decide
  have hL : L.length < 2 ^ 31 := by omega
  have hz := H.2.1
  subst hz
  have h1 : ¬ (1024 : Int32) ≤ nI L.length := by
    rw [show (1024 : Int32) = nI 1024 from rfl, nI_leI h1024 hL]; omega
  refine ⟨(nI (L.length + 1), upd (va_cpy gl gl q (q + 1) (L.length - q)) q x1, upd (va_cpy gd gd q (q + 1) (L.length - q)) q x2, upd (va_cpy gc gc q (q + 1) (L.length - q)) q x3, upd (va_cpy gp gp q (q + 1) (L.length - q)) q x4), ?_, CoR_ins H hq hl (x1, x2, x3, x4)⟩
  unfold f_X1_put_b90
  have hq2 : q < 1024 := by omega
  simp only [if_true, h1, if_false, nI_1, X1_shift_up gl gd gc gp hl hq, Option.bind_some, fun g v => X6_put_in (n := 1024) (i := q) g v h1024 hq2]
theorem X1_put_in {L : List Co} {z : Int32} {gl gd gc gp : Nat → Int32} (H : CoR L z gl gd gc gp) (x1 x2 x3 x4 : Int32) (h4 : (1 : Int32) ≤ x4) (hl : L.length < 1024) {N : Nat} (hN : 1024 < N) : ∃ o, f_X1_put N x1 x2 x3 x4 1024 1024 1024 1024 z gl gd gc gp = some o ∧ CoR (putL x1 x2 x3 x4 L) o.1 o.2.1 o.2.2.1 o.2.2.2.1 o.2.2.2.2 := by
  have h1024 : (1024 : Nat) < 2 ^ 31 := by decide
  have hL : L.length < 2 ^ 31 := by omega
  have hz := H.2.1
  have hw := X1_put_walk H x1 x2 x3 x4 N 0 (Nat.zero_le _) (by omega)
  rw [nI_0, List.drop_zero, Nat.zero_add] at hw
  have hq := placeL_le x1 x2 x3 L
  obtain ⟨o, ho, hR⟩ := X1_put_new H x1 x2 x3 x4 hl hq
  unfold f_X1_put putL
  rw [if_pos h4, hw]
  unfold f_X1_put_b37 f_X1_put_b89
  have hq3 : placeL x1 x2 x3 L < 2 ^ 31 := by omega
  have hzq : (z ≤ nI (placeL x1 x2 x3 L)) ↔ L.length ≤ placeL x1 x2 x3 L := by rw [hz]; exact nI_leI hL hq3
  by_cases h : L.length ≤ placeL x1 x2 x3 L
  · rw [if_pos (hzq.mpr h), List.getElem?_eq_none h]
    exact ⟨o, ho, hR⟩
  · rw [if_neg (fun hh => h (hzq.mp hh))]
    have hq2 : placeL x1 x2 x3 L < 1024 := by omega
    obtain ⟨e, he, hd⟩ := drop_cons' (L := L) (i := placeL x1 x2 x3 L) (by omega)
    obtain ⟨e1, e2, e3, e4⟩ := H.2.2 _ e he
    rw [he]
    simp only [X6_at_in gl h1024 hq2, X6_at_in gd h1024 hq2, X6_at_in gc h1024 hq2, Option.bind_some, e1, e2, e3]
    by_cases b1 : e.1 = x1
    · by_cases b2 : e.2.1 = x2
      · by_cases b3 : e.2.2.1 = x3
        · rw [if_pos b1, if_pos b2, if_pos b3, if_pos ⟨b1, b2, b3⟩]
          refine ⟨(z, gl, gd, gc, upd gp (placeL x1 x2 x3 L) (e.2.2.2 + x4)), ?_, CoR_set H he _⟩
          unfold f_X1_put_b90
          rw [if_neg (by decide), X6_increase_in gp x4 h1024 hq2, e4]; rfl
        · rw [if_pos b1, if_pos b2, if_neg b3, if_neg (fun hh => b3 hh.2.2)]
          exact ⟨o, ho, hR⟩
      · rw [if_pos b1, if_neg b2, if_neg (fun hh => b2 hh.2.1)]
        exact ⟨o, ho, hR⟩
    · rw [if_neg b1, if_neg (fun hh => b1 hh.1)]
      exact ⟨o, ho, hR⟩
/-- a list without one place -/
def delAt (L : List Co) (q : Nat) : List Co := L.take q ++ L.drop (q + 1)
theorem delAt_length {L : List Co} {q : Nat} (h : q < L.length) : (delAt L q).length = L.length - 1 := by
  unfold delAt
  simp only [List.length_append, List.length_take, List.length_drop]
  omega
theorem delAt_get {L : List Co} {q : Nat} (h : q < L.length) (i : Nat) : (delAt L q)[i]? = if i < q then L[i]? else L[i + 1]? := by
  unfold delAt
  have h1 : (L.take q).length = q := by rw [List.length_take]; omega
  by_cases h2 : i < q
  · rw [if_pos h2, List.getElem?_append_left (by omega), List.getElem?_take_of_lt h2]
  · rw [if_neg h2, List.getElem?_append_right (by omega), h1, List.getElem?_drop]
    congr 1; omega
/-- the cohorts without one of them -/
theorem CoR_del {L : List Co} {z : Int32} {gl gd gc gp : Nat → Int32} (H : CoR L z gl gd gc gp) {q : Nat} (hq : q < L.length) : CoR (delAt L q) (nI (L.length - 1)) (va_cpy gl gl (q + 1) q (L.length - (q + 1))) (va_cpy gd gd (q + 1) q (L.length - (q + 1))) (va_cpy gc gc (q + 1) q (L.length - (q + 1))) (va_cpy gp gp (q + 1) q (L.length - (q + 1))) := by
  refine ⟨by rw [delAt_length hq]; have := H.1; omega, by rw [delAt_length hq], ?_⟩
  intro i e' hi
  have hb : i < L.length - 1 := by
    have := (List.getElem?_eq_some_iff.mp hi).1
    rwa [delAt_length hq] at this
  rw [delAt_get hq] at hi
  by_cases h2 : i < q
  · rw [if_pos h2] at hi
    have h4 : ¬ (q ≤ i ∧ i < q + (L.length - (q + 1))) := by omega
    simp only [va_cpy, h4, if_false]
    exact H.2.2 i e' hi
  · rw [if_neg h2] at hi
    have h4 : q ≤ i ∧ i < q + (L.length - (q + 1)) := by omega
    have h5 : q + 1 + (i - q) = i + 1 := by omega
    simp only [va_cpy, h4, and_self, if_true, h5]
    exact H.2.2 (i + 1) e' hi
/-- what one cohort gives of what is wanted -/
def minI (p w : Int32) : Int32 := if p < w then p else w
/-- the cohorts after a taking from one place -/
def takeL (q : Nat) (w : Int32) (L : List Co) : List Co := match L[q]? with
  | none => L
  | some e => if e.2.2.2 + -minI e.2.2.2 w = 0 then delAt L q else L.set q (e.1, e.2.1, e.2.2.1, e.2.2.2 + -minI e.2.2.2 w)
theorem X1_take_in {L : List Co} {z : Int32} {gl gd gc gp : Nat → Int32} (H : CoR L z gl gd gc gp) {q : Nat} {e : Co} (he : L[q]? = some e) (w : Int32) : ∃ o, f_X1_take (nI q) w 1024 1024 1024 1024 z gl gd gc gp = some (minI e.2.2.2 w, o) ∧ CoR (takeL q w L) o.1 o.2.1 o.2.2.1 o.2.2.2.1 o.2.2.2.2 := by
  have h1024 : (1024 : Nat) < 2 ^ 31 := by decide
  have hl := H.1
  have hq : q < L.length := (List.getElem?_eq_some_iff.mp he).1
  have hq2 : q < 1024 := by omega
  obtain ⟨e1, e2, e3, e4⟩ := H.2.2 q e he
  have hu : upd gp q (gp q + -minI e.2.2.2 w) q = e.2.2.2 + -minI e.2.2.2 w := by simp only [upd, if_true, e4]
  unfold f_X1_take takeL
  rw [X6_at_in gp h1024 hq2, e4, he]
  simp only [Option.bind_some]
  rw [show (if e.2.2.2 < w then e.2.2.2 else w) = minI e.2.2.2 w from rfl, X6_increase_in gp _ h1024 hq2]
  simp only [Option.bind_some]
  rw [X6_at_in _ h1024 hq2, hu]
  simp only [Option.bind_some]
  by_cases h0 : e.2.2.2 + -minI e.2.2.2 w = 0
  · rw [if_pos h0, if_pos h0, nI_1, H.2.1, X1_shift_down _ _ _ _ hl hq]
    have HD := CoR_del (CoR_set H he (gp q + -minI e.2.2.2 w)) (q := q) (by rw [List.length_set]; exact hq)
    rw [List.length_set] at HD
    have hs : delAt (L.set q (e.1, e.2.1, e.2.2.1, gp q + -minI e.2.2.2 w)) q = delAt L q := by
      unfold delAt
      rw [List.take_set_of_le (Nat.le_refl q), List.drop_set_of_lt (Nat.lt_succ_self q)]
    rw [hs] at HD
    exact ⟨_, rfl, HD⟩
  · rw [if_neg h0, if_neg h0]
    have HS := CoR_set H he (gp q + -minI e.2.2.2 w)
    rw [e4] at HS ⊢
    exact ⟨(z, gl, gd, gc, upd gp q (e.2.2.2 + -minI e.2.2.2 w)), rfl, HS⟩
/-- the place of the first that a question names -/
def firstN (q : Co → Bool) : List Co → Option Nat
  | [] => none
  | e :: L => if q e = true then some 0 else (firstN q L).map (· + 1)
theorem firstL_N (q : Co → Bool) : ∀ (L : List Co) (i : Nat), firstL q i L = (firstN q L).elim (-1) (fun j => nI (i + j))
  | [], i => rfl
  | e :: L, i => by
    rw [firstL, firstN]
    by_cases h : q e = true
    · rw [if_pos h, if_pos h]; rfl
    · rw [if_neg h, if_neg h, firstL_N q L (i + 1)]
      cases firstN q L with
      | none => rfl
      | some j => show nI (i + 1 + j) = nI (i + (j + 1)); congr 1; omega
theorem firstN_get (q : Co → Bool) : ∀ (L : List Co) (j : Nat), firstN q L = some j → ∃ e, L[j]? = some e ∧ q e = true
  | [], j, h => by cases h
  | e :: L, j, h => by
    rw [firstN] at h
    by_cases hq : q e = true
    · rw [if_pos hq] at h; cases h; exact ⟨e, rfl, hq⟩
    · rw [if_neg hq] at h
      cases h2 : firstN q L with
      | none => rw [h2] at h; cases h
      | some k =>
        rw [h2] at h; cases h
        obtain ⟨e', h3, h4⟩ := firstN_get q L k h2
        exact ⟨e', by rw [List.getElem?_cons_succ]; exact h3, h4⟩
/-- the cohorts that a question names give what is wanted: what is left of it, and the cohorts -/
def allL (q : Co → Bool) : Nat → Int32 → List Co → Int32 × List Co
  | 0, w, L => (w, L)
  | r + 1, w, L => if w ≤ 0 then (w, L) else match firstN q L with
    | none => (w, L)
    | some j => match L[j]? with
      | none => (w, L)
      | some e => allL q r (w - minI e.2.2.2 w) (takeL j w L)
theorem X1_all_from (x1 x2 x3 x4 : Int32) {N : Nat} (hN : 1024 < N) : ∀ (n r : Nat) (w z : Int32) (L : List Co) (gl gd gc gp : Nat → Int32), CoR L z gl gd gc gp → r < n → r ≤ 1024 → ∃ o, f_X1_takeFromAll_b10 N x1 x2 x3 x4 1024 1024 1024 1024 n w (nI r) z gl gd gc gp = some (x4 - (allL (fun e => anyI x1 e.1 && (anyI x2 e.2.1 && anyI x3 e.2.2.1)) r w L).1, o) ∧ CoR (allL (fun e => anyI x1 e.1 && (anyI x2 e.2.1 && anyI x3 e.2.2.1)) r w L).2 o.1 o.2.1 o.2.2.1 o.2.2.2.1 o.2.2.2.2 := by
  intro n
  induction n with
  | zero => intro r w z L gl gd gc gp H h1 _; omega
  | succ n ih =>
    intro r w z L gl gd gc gp H h1 h2
    rw [f_X1_takeFromAll_b10]
    cases r with
    | zero =>
      rw [nI_0, if_pos (Int32.le_refl 0)]
      exact ⟨(z, gl, gd, gc, gp), rfl, H⟩
    | succ r =>
      rw [if_neg (nI_nle (Nat.succ_pos r) (by omega))]
      unfold allL
      by_cases hw : w ≤ 0
      · rw [if_pos hw, if_pos hw]
        exact ⟨(z, gl, gd, gc, gp), rfl, H⟩
      · rw [if_neg hw, if_neg hw, X1_first_in H x1 x2 x3 hN, firstL_N]
        simp only [Option.bind_some]
        cases hf : firstN (fun e => anyI x1 e.1 && (anyI x2 e.2.1 && anyI x3 e.2.2.1)) L with
        | none =>
          simp only [Option.elim, if_true]
          exact ⟨(z, gl, gd, gc, gp), rfl, H⟩
        | some j =>
          obtain ⟨e, he, _⟩ := firstN_get _ L j hf
          have hj : j < L.length := (List.getElem?_eq_some_iff.mp he).1
          have hl := H.1
          have hne : ¬ nI (0 + j) = (-1 : Int32) := by
            rw [Nat.zero_add]
            intro hh
            have h5 := nI_pos (n := j) (by omega)
            rw [hh] at h5
            exact h5 (by decide)
          obtain ⟨o, ho, hR⟩ := X1_take_in H he w
          simp only [Option.elim, hne, if_false, he]
          rw [Nat.zero_add, ho]
          simp only [Option.bind_some]
          rw [show nI (r + 1) + (-1 : Int32) = nI r by rw [← Int32.sub_eq_add_neg]; exact nI_pred r]
          exact ih r _ _ _ _ _ _ _ hR (by omega) (by omega)

