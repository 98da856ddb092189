theorem X6_fill_in (x : Int32) {n : Nat} (hn : n < 2 ^ 31) {N : Nat} (hN : n < N) (g : Nat → Int32) : f_X6_fill N x n g = some (fun j => if j < n then x else g j) := by
  unfold f_X6_fill
  rw [show (0 : Int32) = nI 0 from rfl, X6_fill_from x hn N 0 g (by omega) (by omega)]
  congr 1; funext j
  by_cases h : j < n
  · rw [if_pos h, if_pos ⟨Nat.zero_le _, h⟩]
  · rw [if_neg h, if_neg (fun hh => h hh.2)]
theorem C_clear {N : Nat} (hN : 100 < N) (cs nm th bo : Nat → Int32) : ∃ cs' nm' th' bo', f_X7_clear N 8 96 5 5 cs nm th bo = some (365, 365, 0, cs', nm', th', bo') ∧ (∀ i, i < 8 → cs' i = 0) ∧ (∀ i, i < 96 → nm' i = 0) ∧ (∀ i, i < 5 → th' i = 0 ∧ bo' i = 0) := by
  refine ⟨(fun j => if j < 8 then 0 else cs j), (fun j => if j < 96 then 0 else nm j), (fun j => if j < 5 then 0 else th j), (fun j => if j < 5 then 0 else bo j), ?_, fun i hi => if_pos hi, fun i hi => if_pos hi, fun i hi => ⟨if_pos hi, if_pos hi⟩⟩
  unfold f_X7_clear
  rw [X6_fill_in 0 (by decide) (by omega), Option.bind_some, X6_fill_in 0 (by decide) (by omega), Option.bind_some, X6_fill_in 0 (by decide) (by omega), Option.bind_some, X6_fill_in 0 (by decide) (by omega), Option.bind_some]
theorem M_begins_from : ∀ (n i : Nat) (g : Nat → Int32), i ≤ 71 → 71 < n + i → f_X11_begins_b2 71 n (nI i) g = some (upd (upd (upd (fun j => if i ≤ j ∧ j < 71 then 0 else g j) 5 365) 6 365) 0 1) := by
  intro n
  induction n with
  | zero => intro i g h1 h2; omega
  | succ n ih =>
    intro i g h1 h2
    rw [f_X11_begins_b2]
    by_cases h : i = 71
    · subst h
      have g5 : ¬ ((5 : Int32) < 0 ∨ 71 ≤ (5 : Int32).toNatClampNeg) := by decide
      have g6 : ¬ ((6 : Int32) < 0 ∨ 71 ≤ (6 : Int32).toNatClampNeg) := by decide
      have g0 : ¬ ((0 : Int32) < 0 ∨ 71 ≤ (0 : Int32).toNatClampNeg) := by decide
      have hf : (fun j => if 71 ≤ j ∧ j < 71 then (0 : Int32) else g j) = g := by
        funext j
        rw [if_neg (by omega)]
      rw [if_pos (show (71 : Int32) ≤ nI 71 by decide), if_neg g5, Option.bind_some, if_neg g6, Option.bind_some, if_neg g0, Option.bind_some, hf]
      rfl
    · have gi := grd (i := i) (n := 71) (by omega) (by decide)
      rw [if_neg (show ¬ (71 : Int32) ≤ nI i from fun hh => by
        have := (nI_leI (a := 71) (b := i) (by decide) (by omega)).mp hh
        omega), if_neg gi, Option.bind_some, Option.bind_some, nI_1, nI_clamp (by omega), ih (i + 1) _ (by omega) (by omega)]
      have hf : (fun j => if i + 1 ≤ j ∧ j < 71 then (0 : Int32) else upd g i 0 j) = (fun j => if i ≤ j ∧ j < 71 then 0 else g j) := by
        funext j
        by_cases e : j = i
        · rw [e, if_neg (by omega), upd_at, if_pos (by omega)]
        · by_cases e2 : i + 1 ≤ j ∧ j < 71
          · rw [if_pos e2, if_pos (by omega)]
          · rw [if_neg e2, upd_ne _ _ e, if_neg (by omega)]
      rw [hf]
/-- the numbers of an empty setup that is being read -/
def v00 : Nat → Nat := fun i => if i = 5 ∨ i = 6 then 365 else 0
theorem v00_o {i : Nat} (h : ¬ i = 5) (h2 : ¬ i = 6) : v00 i = 0 := by
  unfold v00
  rw [if_neg (by omega)]
theorem M_begins {N : Nat} (hN : 100 < N) (g : Nat → Int32) : ∃ r0, f_X11_begins N 71 g = some r0 ∧ r0 0 = 1 ∧ ∀ i, i < 71 → i ≠ 0 → r0 i = nI (v00 i) := by
  refine ⟨upd (upd (upd (fun j => if 0 ≤ j ∧ j < 71 then 0 else g j) 5 365) 6 365) 0 1, by unfold f_X11_begins; exact M_begins_from N 0 g (by omega) (by omega), upd_at _ _ _, fun i h1 h2 => ?_⟩
  rw [upd_ne _ _ h2]
  by_cases e : i = 6
  · rw [e, upd_at]; rfl
  · rw [upd_ne _ _ e]
    by_cases e2 : i = 5
    · rw [e2, upd_at]; rfl
    · rw [upd_ne _ _ e2, v00_o e2 e]
      exact if_pos ⟨Nat.zero_le _, h1⟩
theorem DR_start {d8 d9 d10 d11 d12 d13 d14 cs' nm' th' bo' r0 le so wh : Nat → Int32} (h1 : ∀ i, i < 8 → cs' i = 0) (h2 : ∀ i, i < 96 → nm' i = 0) (h3 : ∀ i, i < 5 → th' i = 0 ∧ bo' i = 0) (h4 : r0 0 = 1) (h5 : ∀ i, i < 71 → i ≠ 0 → r0 i = nI (v00 i)) : DR v00 (fun _ _ => 0) (fun _ => 0) (fun _ => 0) (365, 365, 0, cs', nm', th', bo', d8, d9, d10, d11, d12, d13, d14) r0 le so wh 0 0 := by
  have w0 : v00 0 = 0 := rfl
  have w1 : v00 1 = 0 := rfl
  have w2 : v00 2 = 0 := rfl
  have w3 : v00 3 = 0 := rfl
  have w4 : v00 4 = 0 := rfl
  have w5 : v00 5 = 365 := rfl
  have w6 : v00 6 = 365 := rfl
  have w7 : v00 7 = 0 := rfl
  have w8 : v00 8 = 0 := rfl
  have w70 : v00 70 = 0 := rfl
  refine ⟨⟨⟨by omega, by omega, by omega, by omega, by omega⟩, fun r hr => by omega, fun r r' a b => by omega, fun t m ht hm => ?_, fun c hc => Or.inl (h2 c hc)⟩, ⟨⟨by omega, by omega, by omega, by omega, by omega⟩, ⟨by omega, by omega, by omega, by omega, by omega⟩, ⟨w8, fun t ht => by omega⟩, fun t ht => by omega, fun c hc => by omega, fun p hp => by omega, fun h hh => by omega⟩, ⟨⟨by rw [w5]; rfl, by rw [w6]; rfl, by rw [w7]; rfl⟩, fun i hi => ?_, fun t ht => by omega, fun c hc => by omega, fun p hp => by omega, fun h hh => by omega⟩, h5, Or.inl ⟨rfl, w0, h4, (h3 0 (by decide)).1, (h3 0 (by decide)).2, rfl⟩, 0, 0, 0, by decide, by decide, by decide, rfl, h1 5 (by decide), h1 6 (by decide), h1 7 (by decide)⟩
  · rcases ht with e | e <;> rw [e] at hm <;> omega
  · rw [v00_o (by omega) (by omega)]
    exact h1 i (by omega)
/-- THE READING in both programs -/
theorem R_read {bt : Nat → Nat} {l : Nat} {g buf : Nat → Int32} (H : TB bt l g buf) {N : Nat} (hN : 700 < N) (dr : T_SE) (rdr : T_RD) (rdd le so wh : Nat → Int32) : ∃ (ans : Int32) (dr' : T_SE) (rdr' : T_RD) (pm tm em ht' sn' : Int32) (rdd' le' so' wh' : Nat → Int32), F_R_read N (nI l, g) dr rdr = some (ans, dr', rdr') ∧ f_X11_readsText N 71 192 32 32 600 (nI l) rdd le so wh buf = some (ans, pm, tm, em, ht', sn', rdd', le', so', wh') ∧ FIN l ans dr' rdd' le' so' wh' := by
  obtain ⟨d1, d2, d3, d4, d5, d6, d7, d8, d9, d10, d11, d12, d13, d14⟩ := dr
  obtain ⟨e1, e2, e3, e4⟩ := rdr
  have hl := H.1
  obtain ⟨r0, b1, b2, b3⟩ := M_begins (N := N) (by omega) rdd
  obtain ⟨cs', nm', th', bo', c1, c2, c3, c4⟩ := C_clear (N := N) (by omega) d4 d5 d6 d7
  have HD : DR v00 (fun _ _ => 0) (fun _ => 0) (fun _ => 0) (365, 365, 0, cs', nm', th', bo', d8, d9, d10, d11, d12, d13, d14) r0 le so wh 0 0 := DR_start c2 c3 c4 b2 b3
  obtain ⟨ans, pc, sc, tc, ec, se', pm, tm, em, ht', sn', rdd', le', so', wh', z1, z2, z3⟩ := R_loop H hN (l + 1) 0 0 N N v00 _ _ _ _ r0 le so wh 0 0 e2 e3 (by omega) (by omega) (by omega) (by omega) (by omega) HD
  refine ⟨ans, se', (pc, sc, tc, ec), pm, tm, em, ht', sn', rdd', le', so', wh', ?_, ?_, z3⟩
  · unfold F_R_read f_X8_read
    dsimp only at z1 ⊢
    rw [nI_0] at z1
    rw [c1, Option.bind_some]
    dsimp only
    rw [z1]; rfl
  · unfold f_X11_readsText
    rw [nI_0] at z2
    rw [b1, Option.bind_some]
    exact z2

