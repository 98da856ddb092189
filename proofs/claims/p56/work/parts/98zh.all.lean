theorem B_ini {N : Nat} (hN : 73000 < N) : ∃ (o1 oS : T_SE), F_S_clear N zSE = some o1 ∧ F_S_finish N o1 = some oS ∧ ∃ oB : T_BK, F_B_reset N oS zBK = some oB ∧ ∃ g1 : Nat → Int32, f_X11_begins N 71 (fun _ => 0) = some g1 ∧ ∃ now : Nat → Int32, f_X11_starts N 71 72470 g1 (fun _ => 0) = some now ∧ ∃ v, RlC v 0 zIN oS oB oB (0, 0, fun _ => oB) 0 0 0 0 g1 (fun _ => 0) (fun _ => 0) (fun _ => 0) now (fun _ => 0) (fun _ => 0) (fun _ => 0) := by
  obtain ⟨r0, b1, b2, b3⟩ := M_begins (N := N) (by omega) (fun _ => 0)
  obtain ⟨cs', nm', th', bo', c1, c2, c3, c4⟩ := C_clear (N := N) (by omega) (fun _ => 0) (fun _ => 0) (fun _ => 0) (fun _ => 0)
  have HD : DR v00 (fun _ _ => 0) (fun _ => 0) (fun _ => 0) (365, 365, 0, cs', nm', th', bo', (fun _ => 0), (fun _ => 0), (fun _ => 0), (fun _ => 0), (fun _ => 0), (fun _ => 0), (fun _ => 0)) r0 (fun _ => 0) (fun _ => 0) (fun _ => 0) 0 0 := DR_start c2 c3 c4 b2 b3
  obtain ⟨v', y1, y2, y3, y4⟩ := DR_fin HD
  obtain ⟨x, u1, u2⟩ := B_start y2 y3 y4 zBK (fun _ => 0) 0 hN
  refine ⟨(365, 365, 0, cs', nm', th', bo', (fun _ => 0), (fun _ => 0), (fun _ => 0), (fun _ => 0), (fun _ => 0), (fun _ => 0), (fun _ => 0)), finS (365, 365, 0, cs', nm', th', bo', (fun _ => 0), (fun _ => 0), (fun _ => 0), (fun _ => 0), (fun _ => 0), (fun _ => 0), (fun _ => 0)), ?_, ?_, x, u1, r0, b1, _, M_starts hN r0 (fun _ => 0), v', y2, y4, y3, y1, ⟨0, by decide, rfl, rfl, fun i hi => by omega⟩, u2, Or.inl ⟨rfl, rfl⟩, ⟨0, 0, by decide, by decide, rfl, rfl, rfl, fun j hj => by omega⟩⟩
  · unfold F_S_clear zSE
    dsimp only
    rw [c1]; rfl
  · unfold F_S_finish
    dsimp only
    rw [C_finish]; rfl

