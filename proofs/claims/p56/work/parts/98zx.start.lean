/-! books at their start, and what they stand for -/
theorem tierT_zero {v : Nat → Nat} (hV : SV v) : tierT v 0 (v 0 - 1) = 0 := by
  refine tierT_eq (Or.inl rfl) (Nat.zero_le _) ?_
  intro j h1 h2
  have h3 := hV.2.2.2.1 (j - 1) (by omega)
  have h4 := (hV.2.2.1.2 j (by have := hV.1.1; omega)).1
  rw [show 8 + (j - 1 + 1) = 8 + j by omega] at h3
  exact (nI_ltI (a := 0) (by decide) (by omega)).mpr (by omega)
theorem JS_zero {v : Nat → Nat} (hV : SV v) {ti be hm qu sh tt pr : Nat → Int32} (h1 : ∀ m, m < 12 → ti m = 0) (h2 : ∀ m, m < 12 → be m = -1) (h3 : ∀ m, m < 12 → qu m = 0) (h4 : ∀ m, m < 5 → tt m = 0) : JS v (0, [], [], 0, (fun _ => 0), (fun _ => 0), (fun _ => 0), ti, be, hm, qu, sh, tt, pr) := by
  have hv3 := hV.1.2.2.2.2.1
  unfold JS
  dsimp only [BA.d, BA.E, BA.Lg, BA.c, BA.dy, BA.db, BA.rd, BA.ti, BA.be, BA.hm, BA.qu, BA.sh, BA.tt, BA.pr]
  refine ⟨by rw [h4 1 (by decide)]; rfl, by rw [h4 0 (by decide), h4 1 (by decide), h4 2 (by decide), h4 3 (by decide), h4 4 (by decide)]; rfl, fun m hm => ?_, fun x hx => absurd hx (by simp)⟩
  rw [h1 m (by omega), h2 m (by omega), h3 m (by omega)]
  exact ⟨0, hV.1.1, rfl, by rw [tierT_zero hV]; exact Nat.le_refl _, Or.inl ⟨rfl, (tierT_zero hV).symm⟩⟩
theorem Q_start {v : Nat → Nat} {se : T_SE} {fx : Nat → Int32} (hV : SV v) (hS : SC v se) (hM : SM v fx) (b : T_BK) (g : Nat → Int32) (k : Nat) {N : Nat} (hN : 73000 < N) : ∃ x a, F_B_reset N se b = some x ∧ BQ v k a x (ini fx (fun j => if j < 72470 then 0 else g j)) ∧ a.d = 0 ∧ a.E = [] ∧ JS v a := by
  obtain ⟨day, ws, z, gl, gd, gc, gp, cnt, pr, nx, sz, dp, ti, be, de, hm, qu, sh, re, tt, ls, ba, st, si⟩ := b
  have hv3 := hV.1.2.2.2.2.1
  have hv4 := hV.1.2.2.2.2.2
  generalize hg : ini fx (fun j => if j < 72470 then 0 else g j) = G
  have hG : ∀ j, G j = (if 66 ≤ j ∧ j < 70 then fx j else if (30 ≤ j ∧ j < 42) ∨ (54 ≤ j ∧ j < 66) then -1 else if j < 72470 then 0 else g j) := fun j => by rw [← hg]; rfl
  have z0 : ∀ j, j < 72470 → ¬ (66 ≤ j ∧ j < 70) → ¬ ((30 ≤ j ∧ j < 42) ∨ (54 ≤ j ∧ j < 66)) → G j = 0 := by
    intro j h1 h2 h3
    rw [hG, if_neg h2, if_neg h3, if_pos h1]
  have z1 : ∀ j, (30 ≤ j ∧ j < 42) ∨ (54 ≤ j ∧ j < 66) → G j = -1 := by
    intro j h1
    rw [hG, if_neg (by omega), if_pos h1]
  have z2 : ∀ j, 66 ≤ j ∧ j < 70 → G j = fx j := by
    intro j h1
    rw [hG, if_pos h1]
  have z3 : ∀ j, j < 72470 → 70 ≤ j → G j = 0 := fun j h1 h2 => z0 j h1 (by omega) (by omega)
  refine ⟨(0, 0, 0, gl, gd, gc, gp, 0, pr, 0, 0, dp, (fun j => if j < 12 then 0 else ti j), (fun j => if j < 12 then -1 else be j), (fun j => if j < 12 then 0 else de j), (fun j => if j < 12 then -1 else hm j), (fun j => if j < 12 then 0 else qu j), (fun j => if 0 ≤ j ∧ j < 4 then se.2.2.2.2.2.2.2.2.2.2.2.2.2 j else sh j), (fun j => if j < 10 then 0 else re j), (fun j => if j < 5 then 0 else tt j), ls, ba, st, si), (0, [], [], 0, (fun _ => 0), (fun _ => 0), (fun _ => 0), (fun j => if j < 12 then 0 else ti j), (fun j => if j < 12 then -1 else be j), (fun j => if j < 12 then -1 else hm j), (fun j => if j < 12 then 0 else qu j), (fun j => if 0 ≤ j ∧ j < 4 then se.2.2.2.2.2.2.2.2.2.2.2.2.2 j else sh j), (fun j => if j < 5 then 0 else tt j), pr), ?_, ?_, rfl, rfl, JS_zero hV (fun j hj => if_pos hj) (fun j hj => if_pos hj) (fun j hj => if_pos hj) (fun j hj => if_pos hj)⟩
  · unfold F_B_reset f_X0_reset f_X1_clear f_X5_clear f_X4_clear
    dsimp only
    rw [Option.bind_some, Option.bind_some, Option.bind_some, X6_fill_in 0 (by decide) (by omega), Option.bind_some, X6_fill_in (-1) (by decide) (by omega), Option.bind_some, X6_fill_in 0 (by decide) (by omega), Option.bind_some, X6_fill_in (-1) (by decide) (by omega), Option.bind_some, X6_fill_in 0 (by decide) (by omega), Option.bind_some, X6_fill_in 0 (by decide) (by omega), Option.bind_some, X6_fill_in 0 (by decide) (by omega), Option.bind_some]
    have hr := C_reset_from (shs := se.2.2.2.2.2.2.2.2.2.2.2.2.2) (a := 0) (b := 0) (c := 0) (d := 0) (ti := fun j => if j < 12 then 0 else ti j) (be := fun j => if j < 12 then -1 else be j) (de := fun j => if j < 12 then 0 else de j) (hm := fun j => if j < 12 then -1 else hm j) (qu := fun j => if j < 12 then 0 else qu j) (re := fun j => if j < 10 then 0 else re j) (tt := fun j => if j < 5 then 0 else tt j) N 0 sh (by omega) (by omega)
    rw [nI_0] at hr
    rw [hr, Option.bind_some]
  · unfold BQ
    dsimp only [BA.d, BA.E, BA.Lg, BA.c, BA.dy, BA.db, BA.rd, BA.ti, BA.be, BA.hm, BA.qu, BA.sh, BA.tt, BA.pr]
    refine ⟨⟨Nat.zero_le _, Nat.zero_le _⟩, ⟨rfl, z0 0 (by decide) (by decide) (by decide), by decide⟩, ⟨⟨⟨by decide, rfl, fun i e h => absurd h (by simp)⟩, True.intro, fun x hx => absurd hx (by simp), by decide⟩, ⟨fun m e h1 h2 h3 => ?_, fun h e m h1 h2 h3 h4 => ?_⟩, fun x hx => absurd hx (by simp)⟩, ⟨⟨0, by decide, rfl, rfl, by decide, fun i e h => absurd h (by simp)⟩, ⟨z0 2 (by decide) (by decide) (by decide), by decide, fun i e h => absurd h (by simp)⟩⟩, ⟨rfl, by decide, z0 1 (by decide) (by decide) (by decide), fun i w h => by omega, fun i h => by omega, fun i j h1 h2 => by omega⟩, ⟨⟨0, rfl, by decide, fun i h => by omega, fun i h1 h2 => by omega⟩, fun m hm => ?_, fun m e h1 h2 h3 => ?_⟩, ⟨fun m hm => ?_, fun h hh => ?_⟩, ⟨fun m hm => ?_, fun i hi => ?_, fun i hi => ?_, 0, ?_, ?_⟩, ?_, ⟨fun _ _ => ⟨rfl, rfl, rfl, rfl⟩, fun _ _ => rfl, fun _ _ => rfl, fun _ _ => rfl⟩⟩
    · unfold acI
      rw [z3 _ (by omega) (by omega)]; rfl
    · unfold poI
      rw [z3 _ (by omega) (by omega)]; rfl
    · dsimp only
      rw [if_pos (show m < 12 by omega)]; rfl
    · rw [z3 _ (by omega) (by omega)]; rfl
    · dsimp only
      rw [if_pos hm, if_pos hm, if_pos hm, z0 (42 + m) (by omega) (by omega) (by omega), z1 (54 + m) (by omega), z1 (30 + m) (by omega)]
      exact ⟨rfl, rfl, rfl, ⟨0, hV.1.1, rfl⟩, 0, Nat.zero_le _, rfl⟩
    · dsimp only
      rw [if_pos (by omega), z2 (66 + h) (by omega), hM (66 + h) (by omega)]
      exact ⟨hS.2.2.2.2.2 h hh, v (66 + h), hV.2.2.2.2.2.2 h hh, rfl⟩
    · dsimp only
      rw [if_pos hm, z0 (18 + m) (by omega) (by omega) (by omega)]
      exact ⟨rfl, rfl, Nat.zero_le _, fun _ => rfl⟩
    · dsimp only
      rw [if_pos hi, z0 (8 + i) (by omega) (by omega) (by omega)]
      exact ⟨rfl, rfl⟩
    · dsimp only
      rw [if_pos hi, z0 (3 + i) (by omega) (by omega) (by omega)]
    · dsimp only
      rw [if_pos (by decide)]; rfl
    · exact Nat.zero_le _
    · intro h hh
      rw [livN_none (fun m hm => by
        rw [if_pos (show m < 12 by omega)]
        exact fun e => nI_neg1 (n := h) (by omega) e.symm)]
      exact Nat.zero_le _
