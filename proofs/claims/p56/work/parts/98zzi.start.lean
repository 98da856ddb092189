/-- THE MATHEMATICS: the law's chain of calls comes to its end -/
theorem B_law : ∃ (N : Nat) (o1 oS : T_SE), F_S_clear N zSE = some o1 ∧ F_S_finish N o1 = some oS ∧ ∃ oB : T_BK, F_B_reset N oS zBK = some oB ∧ ∀ pf : Nat → Nat, pf 93 < 2 ^ 31 → LawM N (zIN, oS, oS, zRD, oB, oB, (0, 0, fun _ => oB), 0) pf := by
  obtain ⟨N, hN⟩ : ∃ N : Nat, 600000 < N := ⟨700000, by decide⟩
  obtain ⟨r0, b1, b2, b3⟩ := M_begins (N := N) (by omega) (fun _ => 0)
  obtain ⟨cs', nm', th', bo', c1, c2, c3, c4⟩ := C_clear (N := N) (by omega) (fun _ => 0) (fun _ => 0) (fun _ => 0) (fun _ => 0)
  have HD : DR v00 (fun _ _ => 0) (fun _ => 0) (fun _ => 0) (365, 365, 0, cs', nm', th', bo', (fun _ => 0), (fun _ => 0), (fun _ => 0), (fun _ => 0), (fun _ => 0), (fun _ => 0), (fun _ => 0)) r0 (fun _ => 0) (fun _ => 0) (fun _ => 0) 0 0 := DR_start c2 c3 c4 b2 b3
  obtain ⟨v', y1, y2, y3, y4⟩ := DR_fin HD
  obtain ⟨oB, a, u1, u2, u3, u4, u5⟩ := Q_start y2 y3 y4 zBK (fun _ => 0) 0 (N := N) (by omega)
  refine ⟨N, (365, 365, 0, cs', nm', th', bo', (fun _ => 0), (fun _ => 0), (fun _ => 0), (fun _ => 0), (fun _ => 0), (fun _ => 0), (fun _ => 0)), finS (365, 365, 0, cs', nm', th', bo', (fun _ => 0), (fun _ => 0), (fun _ => 0), (fun _ => 0), (fun _ => 0), (fun _ => 0), (fun _ => 0)), ?_, ?_, oB, u1, ?_⟩
  · unfold F_S_clear zSE
    dsimp only
    rw [c1]; rfl
  · unfold F_S_finish
    dsimp only
    rw [C_finish]; rfl
  intro pf hL
  have s0 := y2.1
  have s5 := y2.2.1
  have v0 : v' 0 = 1 := by
    have h := y3.2.1 0 (by decide)
    unfold finS at h
    dsimp only at h
    rw [if_pos (c2 0 (by decide)), upd_at] at h
    exact ((nI_eq (a := 1) (by decide) (by omega)).mp h).symm
  have v3 : v' 3 = 0 := by
    have h := y3.2.1 3 (by decide)
    unfold finS at h
    dsimp only at h
    rw [if_pos (c2 0 (by decide)), upd_ne _ _ (by decide), c2 3 (by decide)] at h
    exact ((nI_eq (a := 0) (by decide) (by omega)).mp h).symm
  have v5 : v' 5 = 365 := ((nI_eq (a := 365) (by decide) (by omega)).mp y3.1.1).symm
  obtain ⟨oS, hoS⟩ : ∃ oS, oS = finS (365, 365, 0, cs', nm', th', bo', (fun _ => 0), (fun _ => 0), (fun _ => 0), (fun _ => 0), (fun _ => 0), (fun _ => 0), (fun _ => 0)) := ⟨_, rfl⟩
  rw [← hoS] at y3 ⊢
  have l1 := l_cfg pf
  have l2 := l_sp pf
  have R : Rep v' 0 a ((0, fun _ => 0), oS, oS, zRD, oB, oB, (0, 0, fun _ => oB), 0) := ⟨y2, y3, by decide, _, u2⟩
  obtain ⟨dr1, rdr1, e1⟩ := Z_chk hN R v0 v3 v5 u4
  obtain ⟨g2, e2, t2⟩ := X_send (NZ_sp pf) (by omega) (N := N) (by omega) (l := 0) (by decide) (fun _ => 0) oS dr1 rdr1 oB oB (0, 0, fun _ => oB) 0
  obtain ⟨dr3, rdr3, e3⟩ := Z_err (NZ_sp pf) (by omega) (N := N) (by omega) t2 y3 v3 dr1 rdr1 oB oB (0, 0, fun _ => oB) 0
  obtain ⟨g4, e4, t4⟩ := X_send (NZ_cfg pf) (by omega) (N := N) (by omega) (l := (spT pf).length) (by omega) g2 oS dr3 rdr3 oB oB (0, 0, fun _ => oB) 0
  obtain ⟨v, a5, z5, e5, R5⟩ := Z_chk2 hL hN t4 oS dr3 rdr3 oB oB (fun _ => oB) 0
  obtain ⟨o, e6, k', a', l', sv', hk, R6, hs⟩ := loop_ok hN hL 16 0 0 a5 [] none z5 0 0 (by decide) (by decide) R5 (Or.inl ⟨rfl, rfl⟩)
  obtain ⟨z7, e7⟩ := fin_done hN R6 hk hs
  exact ⟨_, _, _, _, z5, z7, o, e1, e2, e3, e4, e5, e6, e7⟩
