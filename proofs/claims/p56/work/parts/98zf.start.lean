theorem M_st57 {fx : Nat → Int32} : ∀ (n i : Nat) (g : Nat → Int32), i ≤ 4 → 4 < n + i → f_X11_starts_b57 71 72470 fx n (nI i) g = some (fun j => if 66 + i ≤ j ∧ j < 70 then fx j else g j) := by
  intro n
  induction n with
  | zero => intro i g h1 h2; omega
  | succ n ih =>
    intro i g h1 h2
    rw [f_X11_starts_b57]
    by_cases h : i = 4
    · subst h
      rw [if_pos (show (4 : Int32) ≤ nI 4 by decide)]
      congr 1; funext j
      rw [if_neg (by omega)]
    · have g1 := grd (i := 66 + i) (n := 71) (by omega) (by decide)
      have g2 := grd (i := 66 + i) (n := 72470) (by omega) (by decide)
      rw [if_neg (show ¬ (4 : Int32) ≤ nI i from fun hh => by
        have := (nI_leI (a := 4) (b := i) (by decide) (by omega)).mp hh
        omega), show (66 : Int32) + nI i = nI (66 + i) from nI_add 66 i, if_neg g1, if_neg g2, Option.bind_some, Option.bind_some, nI_1, nI_clamp (by omega), ih (i + 1) _ (by omega) (by omega)]
      congr 1; funext j
      by_cases e : j = 66 + i
      · rw [e, if_neg (by omega), upd_at, if_pos (by omega)]
      · by_cases e2 : 66 + (i + 1) ≤ j ∧ j < 70
        · rw [if_pos e2, if_pos (by omega)]
        · rw [if_neg e2, upd_ne _ _ e, if_neg (by omega)]
theorem M_st57_0 {fx : Nat → Int32} {N : Nat} (hN : 100 < N) (g : Nat → Int32) : f_X11_starts_b57 71 72470 fx N 0 g = some (fun j => if 66 ≤ j ∧ j < 70 then fx j else g j) := M_st57 N 0 g (by omega) (by omega)
/-- the reference's books at their start -/
def ini (fx g : Nat → Int32) : Nat → Int32 := fun j => if 66 ≤ j ∧ j < 70 then fx j else if (30 ≤ j ∧ j < 42) ∨ (54 ≤ j ∧ j < 66) then -1 else g j
theorem M_st23 {fx : Nat → Int32} {N : Nat} (hN : 100 < N) : ∀ (n i : Nat) (g : Nat → Int32), i ≤ 12 → 12 < n + i → f_X11_starts_b23 N 71 72470 fx n (nI i) g = some (fun j => if 66 ≤ j ∧ j < 70 then fx j else if (30 + i ≤ j ∧ j < 42) ∨ (54 + i ≤ j ∧ j < 66) then -1 else g j) := by
  intro n
  induction n with
  | zero => intro i g h1 h2; omega
  | succ n ih =>
    intro i g h1 h2
    rw [f_X11_starts_b23]
    by_cases h : i = 12
    · subst h
      rw [if_pos (show (12 : Int32) ≤ nI 12 by decide), M_st57_0 hN g]
      congr 1; funext j
      by_cases e : 66 ≤ j ∧ j < 70
      · rw [if_pos e, if_pos e]
      · rw [if_neg e, if_neg e, if_neg (by omega)]
    · have g1 := grd (i := 30 + i) (n := 72470) (by omega) (by decide)
      have g2 := grd (i := 54 + i) (n := 72470) (by omega) (by decide)
      rw [if_neg (show ¬ (12 : Int32) ≤ nI i from fun hh => by
        have := (nI_leI (a := 12) (b := i) (by decide) (by omega)).mp hh
        omega), show (30 : Int32) + nI i = nI (30 + i) from nI_add 30 i, show (54 : Int32) + nI i = nI (54 + i) from nI_add 54 i, if_neg g1, Option.bind_some, if_neg g2, Option.bind_some, Option.bind_some, nI_1, nI_clamp (by omega), nI_clamp (by omega), ih (i + 1) _ (by omega) (by omega)]
      congr 1; funext j
      by_cases e : 66 ≤ j ∧ j < 70
      · rw [if_pos e, if_pos e]
      · rw [if_neg e, if_neg e]
        by_cases e1 : j = 54 + i
        · rw [e1, if_neg (by omega), upd_at, if_pos (by omega)]
        · by_cases e2 : j = 30 + i
          · rw [e2, if_neg (by omega), upd_ne _ _ (by omega), upd_at, if_pos (by omega)]
          · by_cases e3 : (30 + (i + 1) ≤ j ∧ j < 42) ∨ (54 + (i + 1) ≤ j ∧ j < 66)
            · rw [if_pos e3, if_pos (by omega)]
            · rw [if_neg e3, upd_ne _ _ e1, upd_ne _ _ e2, if_neg (by omega)]
theorem M_st23_0 {fx : Nat → Int32} {N : Nat} (hN : 100 < N) (g : Nat → Int32) : f_X11_starts_b23 N 71 72470 fx N 0 g = some (ini fx g) := M_st23 hN N 0 g (by omega) (by omega)
theorem M_st2 {fx : Nat → Int32} {N : Nat} (hN : 100 < N) : ∀ (n i : Nat) (g : Nat → Int32), i ≤ 72470 → 72470 < n + i → f_X11_starts_b2 N 71 72470 fx n (nI i) g = some (ini fx (fun j => if i ≤ j ∧ j < 72470 then 0 else g j)) := by
  intro n
  induction n with
  | zero => intro i g h1 h2; omega
  | succ n ih =>
    intro i g h1 h2
    rw [f_X11_starts_b2]
    have hc : (72470 : Int32) ≤ nI i ↔ 72470 ≤ i := nI_leI (a := 72470) (b := i) (by decide) (by omega)
    by_cases h : 72470 ≤ i
    · have e : i = 72470 := by omega
      have hf : (fun j => if i ≤ j ∧ j < 72470 then (0 : Int32) else g j) = g := by
        funext j
        rw [if_neg (by omega)]
      rw [if_pos (hc.mpr h), M_st23_0 hN g, hf]
    · have g1 := grd (i := i) (n := 72470) (by omega) (by decide)
      rw [if_neg (fun hh => h (hc.mp hh)), if_neg g1, Option.bind_some, Option.bind_some, nI_1, nI_clamp (by omega), ih (i + 1) _ (by omega) (by omega)]
      congr 2; funext j
      by_cases e : j = i
      · rw [e, if_neg (by omega), upd_at, if_pos (by omega)]
      · by_cases e2 : i + 1 ≤ j ∧ j < 72470
        · rw [if_pos e2, if_pos (by omega)]
        · rw [if_neg e2, upd_ne _ _ e, if_neg (by omega)]
theorem M_starts {N : Nat} (hN : 73000 < N) (fx g : Nat → Int32) : f_X11_starts N 71 72470 fx g = some (ini fx (fun j => if j < 72470 then 0 else g j)) := by
  have hf : (fun j => if 0 ≤ j ∧ j < 72470 then (0 : Int32) else g j) = (fun j => if j < 72470 then 0 else g j) := by
    funext j
    by_cases h : j < 72470
    · rw [if_pos h, if_pos ⟨Nat.zero_le _, h⟩]
    · rw [if_neg h, if_neg (fun hh => h hh.2)]
  have h0 := M_st2 (fx := fx) (N := N) (by omega) N 0 g (by omega) (by omega)
  rw [hf, nI_0] at h0
  exact h0
theorem C_reset_from {shs : Nat → Int32} {a b c d : Int32} {ti be de hm qu re tt : Nat → Int32} : ∀ (n i : Nat) (g : Nat → Int32), i ≤ 4 → 4 < n + i → f_X0_reset_b79 4 4 shs a b c d ti be de hm qu re tt n (nI i) g = some (0, 0, a, b, c, d, ti, be, de, hm, qu, (fun j => if i ≤ j ∧ j < 4 then shs j else g j), re, tt) := by
  intro n
  induction n with
  | zero => intro i g h1 h2; omega
  | succ n ih =>
    intro i g h1 h2
    rw [f_X0_reset_b79]
    by_cases h : i = 4
    · subst h
      have hf : (fun j => if 4 ≤ j ∧ j < 4 then shs j else g j) = g := by
        funext j
        rw [if_neg (by omega)]
      rw [if_pos (show (4 : Int32) ≤ nI 4 by decide), hf]
    · have hf : (fun j => if i + 1 ≤ j ∧ j < 4 then shs j else upd g i (shs i) j) = (fun j => if i ≤ j ∧ j < 4 then shs j else g j) := by
        funext j
        by_cases e : j = i
        · rw [e, if_neg (by omega), upd_at, if_pos (by omega)]
        · by_cases e2 : i + 1 ≤ j ∧ j < 4
          · rw [if_pos e2, if_pos (by omega)]
          · rw [if_neg e2, upd_ne _ _ e, if_neg (by omega)]
      rw [if_neg (show ¬ (4 : Int32) ≤ nI i from fun hh => by
        have := (nI_leI (a := 4) (b := i) (by decide) (by omega)).mp hh
        omega)]
      unfold f_X7_firstShareOf
      rw [X6_at_in _ (by decide) (by omega), Option.bind_some, Option.bind_some, X6_put_in _ _ (by decide) (by omega), Option.bind_some, Option.bind_some, nI_1, ih (i + 1) _ (by omega) (by omega), hf]
theorem livN_none {hm : Nat → Int32} {x : Int32} : ∀ {n : Nat}, (∀ m, m < n → ¬ hm m = x) → livN hm x n = 0
  | 0, _ => rfl
  | n + 1, h => by rw [livN, livN_none (fun m hm => h m (by omega)), if_neg (h n (by omega))]
/-- THE BOOKS AT THEIR START in both programs -/
theorem B_start {v : Nat → Nat} {se : T_SE} {fx : Nat → Int32} (hV : SV v) (hS : SC v se) (hM : SM v fx) (b : T_BK) (g : Nat → Int32) (k : Nat) {N : Nat} (hN : 73000 < N) : ∃ x, F_B_reset N se b = some x ∧ BRL v k x (ini fx (fun j => if j < 72470 then 0 else g j)) := by
  obtain ⟨day, ws, z, gl, gd, gc, gp, cnt, pr, nx, sz, dp, ti, be, de, hm, qu, sh, re, tt, ls, ba, st, si⟩ := b
  have hv3 := hV.1.2.2.2.2.1
  have hv4 := hV.1.2.2.2.2.2
  generalize hg : ini fx (fun j => if j < 72470 then 0 else g j) = G
  have hG : ∀ j, G j = (if 66 ≤ j ∧ j < 70 then fx j else if (30 ≤ j ∧ j < 42) ∨ (54 ≤ j ∧ j < 66) then -1 else if j < 72470 then 0 else g j) := fun j => by rw [← hg]; rfl
  have z0 : ∀ j, j < 72470 → ¬ (66 ≤ j ∧ j < 70) → ¬ ((30 ≤ j ∧ j < 42) ∨ (54 ≤ j ∧ j < 66)) → G j = 0 := by
    intro j h1 h2 h3
    rw [hG, if_neg h2, if_neg h3, if_pos h1]
  have z1 : ∀ j, (30 ≤ j ∧ j < 42) ∨ (54 ≤ j ∧ j < 66) → G j = -1 := by
    intro j h1
    rw [hG, if_neg (by omega), if_pos h1]
  have z2 : ∀ j, 66 ≤ j ∧ j < 70 → G j = fx j := by
    intro j h1
    rw [hG, if_pos h1]
  have z3 : ∀ j, j < 72470 → 70 ≤ j → G j = 0 := fun j h1 h2 => z0 j h1 (by omega) (by omega)
  refine ⟨(0, 0, 0, gl, gd, gc, gp, 0, pr, 0, 0, dp, (fun j => if j < 12 then 0 else ti j), (fun j => if j < 12 then -1 else be j), (fun j => if j < 12 then 0 else de j), (fun j => if j < 12 then -1 else hm j), (fun j => if j < 12 then 0 else qu j), (fun j => if 0 ≤ j ∧ j < 4 then se.2.2.2.2.2.2.2.2.2.2.2.2.2 j else sh j), (fun j => if j < 10 then 0 else re j), (fun j => if j < 5 then 0 else tt j), ls, ba, st, si), ?_, ⟨?_, ?_⟩⟩
  · unfold F_B_reset f_X0_reset f_X1_clear f_X5_clear f_X4_clear
    dsimp only
    rw [Option.bind_some, Option.bind_some, Option.bind_some, X6_fill_in 0 (by decide) (by omega), Option.bind_some, X6_fill_in (-1) (by decide) (by omega), Option.bind_some, X6_fill_in 0 (by decide) (by omega), Option.bind_some, X6_fill_in (-1) (by decide) (by omega), Option.bind_some, X6_fill_in 0 (by decide) (by omega), Option.bind_some, X6_fill_in 0 (by decide) (by omega), Option.bind_some, X6_fill_in 0 (by decide) (by omega), Option.bind_some]
    have hr := C_reset_from (shs := se.2.2.2.2.2.2.2.2.2.2.2.2.2) (a := 0) (b := 0) (c := 0) (d := 0) (ti := fun j => if j < 12 then 0 else ti j) (be := fun j => if j < 12 then -1 else be j) (de := fun j => if j < 12 then 0 else de j) (hm := fun j => if j < 12 then -1 else hm j) (qu := fun j => if j < 12 then 0 else qu j) (re := fun j => if j < 10 then 0 else re j) (tt := fun j => if j < 5 then 0 else tt j) N 0 sh (by omega) (by omega)
    rw [nI_0] at hr
    rw [hr, Option.bind_some]
  · unfold BR
    dsimp only
    refine ⟨0, [], [], 0, fun _ => 0, fun _ => 0, fun _ => 0, ⟨Nat.zero_le _, Nat.zero_le _⟩, ⟨rfl, z0 0 (by decide) (by decide) (by decide), by decide⟩, ⟨⟨⟨by decide, rfl, fun i e h => absurd h (by simp)⟩, True.intro, fun x hx => absurd hx (by simp), by decide⟩, ⟨fun m e h1 h2 h3 => ?_, fun h e m h1 h2 h3 h4 => ?_⟩, fun x hx => absurd hx (by simp)⟩, ⟨⟨0, by decide, rfl, rfl, by decide, fun i e h => absurd h (by simp)⟩, ⟨z0 2 (by decide) (by decide) (by decide), by decide, fun i e h => absurd h (by simp)⟩⟩, ⟨rfl, by decide, z0 1 (by decide) (by decide) (by decide), fun i w h => by omega, fun i h => by omega, fun i j h1 h2 => by omega⟩, ⟨⟨0, rfl, by decide, fun i h => by omega, fun i h1 h2 => by omega⟩, fun m hm => ?_, fun m e h1 h2 h3 => ?_⟩, ⟨fun m hm => ?_, fun h hh => ?_⟩, fun m hm => ?_, fun i hi => ?_, fun i hi => ?_, 0, ?_, ?_⟩
    · unfold acI
      rw [z3 _ (by omega) (by omega)]; rfl
    · unfold poI
      rw [z3 _ (by omega) (by omega)]; rfl
    · dsimp only
      rw [if_pos (show m < 12 by omega)]; rfl
    · rw [z3 _ (by omega) (by omega)]; rfl
    · dsimp only
      rw [if_pos hm, if_pos hm, if_pos hm, z0 (42 + m) (by omega) (by omega) (by omega), z1 (54 + m) (by omega), z1 (30 + m) (by omega)]
      exact ⟨rfl, rfl, rfl, ⟨0, hV.1.1, rfl⟩, 0, Nat.zero_le _, rfl⟩
    · dsimp only
      rw [if_pos (by omega), z2 (66 + h) (by omega), hM (66 + h) (by omega)]
      exact ⟨hS.2.2.2.2.2 h hh, v (66 + h), hV.2.2.2.2.2.2 h hh, rfl⟩
    · dsimp only
      rw [if_pos hm, z0 (18 + m) (by omega) (by omega) (by omega)]
      exact ⟨rfl, rfl, Nat.zero_le _, fun _ => rfl⟩
    · dsimp only
      rw [if_pos hi, z0 (8 + i) (by omega) (by omega) (by omega)]
      exact ⟨rfl, rfl⟩
    · dsimp only
      rw [if_pos hi, z0 (3 + i) (by omega) (by omega) (by omega)]
    · dsimp only
      rw [if_pos (by decide)]; rfl
    · exact Nat.zero_le _
  · intro h hh
    dsimp only
    rw [livN_none (fun m hm => by
      rw [if_pos (show m < 12 by omega)]
      exact fun e => nI_neg1 (n := h) (by omega) e.symm)]
    exact Nat.zero_le _
theorem S_copy {v : Nat → Nat} {s0 s1 : T_SE} (hV : SV v) (hS : SC v s1) {le so wh : Nat → Int32} (hN : NM v s1.2.2.2.2.1 le so wh) (N : Nat) : ∃ x, F_S_copyFrom N s0 s1 = some x ∧ SC v x ∧ NM v x.2.2.2.2.1 le so wh := by
  obtain ⟨d1, d2, d3, d4, d5, d6, d7, d8, d9, d10, d11, d12, d13, d14⟩ := s1
  obtain ⟨e1, e2, e3, e4, e5, e6, e7, e8, e9, e10, e11, e12, e13, e14⟩ := s0
  obtain ⟨w1, w2, w3, w4, w5, w6⟩ := hS
  have hv := hV.1
  refine ⟨(d1, d2, d3, (fun j => if j < 8 then d4 j else e4 j), (fun j => if j < 96 then d5 j else e5 j), (fun j => if j < 5 then d6 j else e6 j), (fun j => if j < 5 then d7 j else e7 j), (fun j => if j < 8 then d8 j else e8 j), (fun j => if j < 8 then d9 j else e9 j), (fun j => if j < 8 then d10 j else e10 j), (fun j => if j < 8 then d11 j else e11 j), (fun j => if j < 8 then d12 j else e12 j), (fun j => if j < 8 then d13 j else e13 j), (fun j => if j < 4 then d14 j else e14 j)), ?_, ⟨w1, fun i hi => ?_, fun t ht => ?_, fun c hc => ?_, fun p hp => ?_, fun h hh => ?_⟩, ?_⟩
  · unfold F_S_copyFrom f_X7_copyFrom
    dsimp only
    rw [X6_copyAll_in e4 d4 (by decide), Option.bind_some, X6_copyAll_in e5 d5 (by decide), Option.bind_some, X6_copyAll_in e6 d6 (by decide), Option.bind_some, X6_copyAll_in e7 d7 (by decide), Option.bind_some, X6_copyAll_in e8 d8 (by decide), Option.bind_some, X6_copyAll_in e9 d9 (by decide), Option.bind_some, X6_copyAll_in e10 d10 (by decide), Option.bind_some, X6_copyAll_in e11 d11 (by decide), Option.bind_some, X6_copyAll_in e12 d12 (by decide), Option.bind_some, X6_copyAll_in e13 d13 (by decide), Option.bind_some, X6_copyAll_in e14 d14 (by decide), Option.bind_some, Option.bind_some]
  · dsimp only
    rw [if_pos (by omega)]; exact w2 i hi
  · dsimp only
    rw [if_pos (by omega), if_pos (by omega)]; exact w3 t ht
  · dsimp only
    rw [if_pos (by omega), if_pos (by omega)]; exact w4 c hc
  · dsimp only
    rw [if_pos (by omega), if_pos (by omega), if_pos (by omega), if_pos (by omega)]; exact w5 p hp
  · dsimp only
    rw [if_pos (by omega)]; exact w6 h hh
  · obtain ⟨R, S, W, n1, n2, n3, n4⟩ := hN
    refine ⟨R, S, W, n1, fun r hr => ?_, n3, n4⟩
    obtain ⟨m1, m2, m3, m4, m5, m6, m7⟩ := n2 r hr
    refine ⟨m1, m2, m3, m4, m5, m6, ?_⟩
    dsimp only
    have hb : 12 * S r + W r < 96 := by
      rcases m5 with q | q | q | q <;> rw [q] at m6 ⊢ <;> omega
    rw [if_pos hb]; exact m7

