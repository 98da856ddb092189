theorem X1_all_in {L : List Co} {z : Int32} {gl gd gc gp : Nat → Int32} (H : CoR L z gl gd gc gp) (x1 x2 x3 x4 : Int32) {N : Nat} (hN : 1024 < N) : ∃ o, f_X1_takeFromAll N x1 x2 x3 x4 1024 1024 1024 1024 z gl gd gc gp = some (x4 - (allL (fun e => anyI x1 e.1 && (anyI x2 e.2.1 && anyI x3 e.2.2.1)) L.length x4 L).1, o) ∧ CoR (allL (fun e => anyI x1 e.1 && (anyI x2 e.2.1 && anyI x3 e.2.2.1)) L.length x4 L).2 o.1 o.2.1 o.2.2.1 o.2.2.2.1 o.2.2.2.2 := by
  have hl := H.1
  have h := X1_all_from x1 x2 x3 x4 hN N L.length x4 z L gl gd gc gp H (by omega) hl
  unfold f_X1_takeFromAll
  rw [← H.2.1] at h
  exact h
/-- a part of the i-th of a list -/
theorem X1_part_in {L : List Co} {z : Int32} {gl gd gc gp : Nat → Int32} (H : CoR L z gl gd gc gp) (x1 : Int32) {N : Nat} (hN : 1024 < N) {j i : Nat} (hf : firstN (fun e => anyI x1 e.1) L = some j) {e : Co} (he : L[j + i]? = some e) (x3 : Int32) : f_X1_part N x1 (nI i) x3 1024 1024 1024 1024 z gl gd gc gp = some (if x3 = 0 then e.2.2.2 else if x3 = 1 then e.2.1 else e.2.2.1) := by
  have h1024 : (1024 : Nat) < 2 ^ 31 := by decide
  have hl := H.1
  have hq : j + i < L.length := (List.getElem?_eq_some_iff.mp he).1
  have hq2 : j + i < 1024 := by omega
  obtain ⟨e1, e2, e3, e4⟩ := H.2.2 _ e he
  have hq5 : (fun e : Co => anyI x1 e.1 && (anyI (-2) e.2.1 && anyI (-2) e.2.2.1)) = (fun e => anyI x1 e.1) := by
    funext e
    rw [anyI_any rfl, anyI_any rfl, Bool.and_true, Bool.and_true]
  unfold f_X1_part
  rw [X1_first_in H x1 (-2) (-2) hN, hq5, firstL_N, hf]
  simp only [Option.elim, Option.bind_some, Nat.zero_add, nI_add]
  rw [X6_at_in gp h1024 hq2, X6_at_in gd h1024 hq2, X6_at_in gc h1024 hq2, e2, e3, e4]
  simp only [Option.bind_some]
  by_cases a : x3 = 0
  · rw [if_pos a, if_pos a]
  · rw [if_neg a, if_neg a]
    by_cases b : x3 = 1
    · rw [if_pos b, if_pos b]
    · rw [if_neg b, if_neg b]
/-- the cohorts copied -/
theorem X1_copyFrom_in {L M : List Co} {z y : Int32} {gl gd gc gp hl hd hc hp : Nat → Int32} (H : CoR M y hl hd hc hp) : ∃ o, f_X1_copyFrom 1024 1024 1024 1024 1024 1024 1024 1024 gl gd gc gp y hl hd hc hp = some o ∧ CoR M o.1 o.2.1 o.2.2.1 o.2.2.2.1 o.2.2.2.2 := by
  have h1024 : (1024 : Nat) < 2 ^ 31 := by decide
  have hy := H.2.1
  subst hy
  refine ⟨(nI M.length, (fun j => if j < M.length then hl j else gl j), (fun j => if j < M.length then hd j else gd j), (fun j => if j < M.length then hc j else gc j), (fun j => if j < M.length then hp j else gp j)), ?_, H.1, rfl, ?_⟩
  · unfold f_X1_copyFrom
    simp only [fun g h => X6_copyFirst_in (n := 1024) (k := M.length) g h h1024 H.1, Option.bind_some]
  · intro i e hi
    have hq : i < M.length := (List.getElem?_eq_some_iff.mp hi).1
    simp only [hq, if_true]
    exact H.2.2 i e hi
