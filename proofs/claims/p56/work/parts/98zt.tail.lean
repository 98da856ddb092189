theorem lg_self (x : Int64) : lg_cmp x x = 0 := by
  unfold lg_cmp
  rw [if_neg (Int64.lt_irrefl), if_pos rfl]
/-- the object with new books and a new ring -/
abbrev stp (s : T_PL) (b : T_BK) (h : T_HI) : T_PL := (s.1, s.2.1, s.2.2.1, s.2.2.2.1, b, s.2.2.2.2.2.1, h, s.2.2.2.2.2.2.2)
def JD (v : Nat → Nat) (k : Nat) (x : BA) : Prop := JS v x ∧ x.d ≤ 25 * k
def RP (pf v : Nat → Nat) (k : Nat) (a : BA) (l : List BA) (sv : Option BA) (s : T_PL) : Prop := SV v ∧ LV pf v ∧ SC v s.2.1 ∧ (∃ g, BQ v k a s.2.2.2.2.1 g) ∧ HX v k s.2.2.2.2.2.2.1 l ∧ (JD v k a ∧ ∀ x ∈ l, JD v k x) ∧ ∀ x, sv = some x → s.2.2.2.2.2.2.2 = 1 ∧ (∃ g, BQ v k x s.2.2.2.2.2.1 g) ∧ JD v k x
def HS (N : Nat) (v : Nat → Nat) (sv : Option BA) (x6 : Int64) (x8 : Int32) : Prop := (x8 = 0 ∧ sv = none) ∨ (x8 = 1 ∧ ∃ x, sv = some x ∧ ∀ k s, k ≤ 512 → Rep v k x s → f_L_all N s = some (x6, s))
def TR (N : Nat) (pf v : Nat → Nat) (k : Nat) (F : Option (Int64 × Int32 × T_PL)) : Prop := ∃ o, F = some o ∧ ∃ a l sv, RP pf v k a l sv o.2.2 ∧ HS N v sv o.1 o.2.1
theorem JD_mono {v : Nat → Nat} {k k' : Nat} {x : BA} (h : JD v k x) (hk : k ≤ k') : JD v k' x := ⟨h.1, by have := h.2; omega⟩
section TURN
variable {N : Nat} {pf v : Nat → Nat} {k : Nat} {a : BA} {l : List BA} {sv : Option BA} {s : T_PL} {x6 : Int64} {x8 : Int32}
theorem RP_rep (R : RP pf v k a l sv s) (hk : k ≤ 512) : Rep v k a s := ⟨R.1, R.2.2.1, hk, R.2.2.2.1⟩
theorem RP_mono {k' : Nat} (R : RP pf v k a l sv s) (hk : k ≤ k') : RP pf v k' a l sv s := by
  obtain ⟨h1, h2, h3, ⟨g, h4⟩, h5, ⟨h6, h7⟩, h8⟩ := R
  exact ⟨h1, h2, h3, ⟨g, BQ_mono h4 hk⟩, HX_mono h5 hk, ⟨JD_mono h6 hk, fun x hx => JD_mono (h7 x hx) hk⟩, fun x hx => by
    obtain ⟨e1, ⟨g2, e2⟩, e3⟩ := h8 x hx
    exact ⟨e1, ⟨g2, BQ_mono e2 hk⟩, JD_mono e3 hk⟩⟩
theorem RP_next {a' : BA} {b' : T_BK} {h' : T_HI} {g' : Nat → Int32} (R : RP pf v k a l sv s) (hh : HX v k h' ((a :: l).take 8)) (hb : BQ v (k + 1) a' b' g') (hj : JS v a') (hd : a'.d ≤ 25 * (k + 1)) : RP pf v (k + 1) a' ((a :: l).take 8) sv (stp s b' h') := by
  obtain ⟨h1, h2, h3, ⟨g, h4⟩, h5, ⟨h6, h7⟩, h8⟩ := R
  refine ⟨h1, h2, h3, ⟨g', hb⟩, HX_mono hh (Nat.le_succ k), ⟨⟨hj, hd⟩, fun x hx => ?_⟩, fun x hx => ?_⟩
  · rcases List.mem_cons.mp (List.mem_of_mem_take hx) with e | e
    · rw [e]; exact JD_mono h6 (Nat.le_succ k)
    · exact JD_mono (h7 x e) (Nat.le_succ k)
  · obtain ⟨e1, ⟨g2, e2⟩, e3⟩ := h8 x hx
    exact ⟨e1, ⟨g2, BQ_mono e2 (Nat.le_succ k)⟩, JD_mono e3 (Nat.le_succ k)⟩
theorem V_undoCount (R : RP pf v k a l sv s) : P_undoCount N s = some (nI l.length, s) := by
  obtain ⟨n0, a1, a2, a3, a4, a5⟩ := R.2.2.2.2.1
  unfold P_undoCount F_hcount
  rw [Option.bind_some, a4]
theorem RP_len (R : RP pf v k a l sv s) : l.length ≤ 8 := R.2.2.2.2.1.choose_spec.2.1
theorem snd_R (R : RP pf v k a l sv s) (hk : k ≤ 512) (hN : 600000 < N) (hL : pf 93 < 2 ^ 31) : f_L_isSound N pf s = some (1, s) := snd (RP_rep R hk) hN R.2.2.2.2.2.1.1.1 R.2.1 hL
theorem v4_pos (R : RP pf v k a l sv s) : 0 < v 4 := by rw [R.2.1.2.1]; decide
/-- behind a change that did not come -/
theorem tail_no (R : RP pf v k a l sv s) (hk : k ≤ 500) (hN : 600000 < N) (hL : pf 93 < 2 ^ 31) (hs : HS N v sv x6 x8) {x10 x16 : Int32} {x11 : Int64} (h11 : ∀ k s, k ≤ 512 → Rep v k a s → f_L_all N s = some (x11, s)) (hx : x16 < 0) : TR N pf v (k + 1) (f_L_turn_b912 N pf x6 x8 x10 x11 (nI l.length) x16 s) := by
  refine ⟨(x6, x8, s), ?_, a, l, sv, RP_mono R (Nat.le_succ k), hs⟩
  unfold f_L_turn_b912
  rw [if_neg (Int32.not_le.mpr hx), h11 k s (by omega) (RP_rep R (by omega)), Option.bind_some, if_pos (lg_self _), V_undoCount R, Option.bind_some, if_pos rfl]
  unfold f_L_turn_b938
  rw [if_pos hx]
  unfold f_L_turn_b961
  rw [if_pos hx]
  unfold f_L_turn_b1004
  rw [snd_R R (by omega) hN hL, Option.bind_some, if_neg (show ¬ (1 : Int32) = 0 by decide)]
/-- behind a change -/
theorem tail_ok {a' : BA} (R0 : RP pf v k a l sv s) {s' : T_PL} (R : RP pf v (k + 1) a' ((a :: l).take 8) sv s') (hk : k ≤ 500) (hN : 600000 < N) (hL : pf 93 < 2 ^ 31) (hs : HS N v sv x6 x8) {x10 : Int32} {x11 : Int64} (h11 : ∀ k s, k ≤ 512 → Rep v k a s → f_L_all N s = some (x11, s)) {q : Nat} (hq : q < 2 ^ 31) : TR N pf v (k + 1) (f_L_turn_b912 N pf x6 x8 x10 x11 (nI l.length) (nI q) s') := by
  have hl := RP_len R0
  have hlt : ((a :: l).take 8).length = min 8 (l.length + 1) := by rw [List.length_take, List.length_cons]
  have hx : ¬ nI q < 0 := nI_pos hq
  have hmin : (if nI l.length + (1 : Int32) < (8 : Int32) then nI l.length + (1 : Int32) else (8 : Int32)) = nI ((a :: l).take 8).length := by
    rw [nI_1, hlt]
    by_cases e : l.length + 1 < 8
    · rw [if_pos (show nI (l.length + 1) < (8 : Int32) from (nI_ltI (b := 8) (by omega) (by decide)).mpr e)]; congr 1; omega
    · rw [if_neg (show ¬ nI (l.length + 1) < (8 : Int32) from fun hh => e ((nI_ltI (b := 8) (by omega) (by decide)).mp hh))]
      show nI 8 = _
      congr 1; omega
  have h1004 : ∀ {a9 : BA} {l9 : List BA} {s9 : T_PL}, RP pf v (k + 1) a9 l9 sv s9 → TR N pf v (k + 1) (f_L_turn_b1004 N pf x6 x8 s9) := fun {a9 l9 s9} R9 => by
    refine ⟨(x6, x8, s9), ?_, a9, l9, sv, R9, hs⟩
    unfold f_L_turn_b1004
    rw [snd_R R9 (by omega) hN hL, Option.bind_some, if_neg (show ¬ (1 : Int32) = 0 by decide)]
  unfold f_L_turn_b912
  rw [if_pos (Int32.not_lt.mp hx)]
  unfold f_L_turn_b938
  rw [if_neg hx, V_undoCount R, Option.bind_some, if_pos hmin.symm]
  unfold f_L_turn_b961
  rw [if_neg hx, show (4 : Int32) = nI 4 from rfl, in_val _ (by decide) (by decide), Option.bind_some]
  by_cases e : nI (inN (x10 >>> ((26 : Int32) &&& 31)) 4) = 0
  case neg => rw [if_neg e]; exact h1004 R
  rw [if_pos e]
  obtain ⟨h1, h2, h3, h4, h5, ⟨h6, h7⟩, h8⟩ := R
  obtain ⟨h', x, c1, c2, g, c3⟩ := X_back (N := N) (b := s'.2.2.2.2.1) h1 (show HX v (k + 1) s'.2.2.2.2.2.2.1 (a :: l.take 7) from h5)
  have hcnt : s'.2.2.2.2.2.2.1.2.1 = nI (l.take 7).length.succ := h5.choose_spec.2.2.2.1
  obtain ⟨n1, d1, d2, d3, d4, d5⟩ := id c2
  have hundo : P_undo N s' = some (0, nI (l.take 7).length, stp s' x h') := by
    unfold P_undo F_hcount
    rw [Option.bind_some, hcnt, if_neg (fun hh => by have := (nI_eq (by rw [Nat.succ_eq_add_one, List.length_take]; omega) (by decide)).mp (show nI _ = nI 0 from hh); omega), c1, Option.bind_some, Option.bind_some, d4]
  have R2 : RP pf v (k + 1) a (l.take 7) sv (stp s' x h') := ⟨h1, h2, h3, ⟨g, c3⟩, c2, ⟨h7 a (List.mem_cons_self), fun y hy => h7 y (List.mem_cons_of_mem _ hy)⟩, h8⟩
  have hm7 : nI (l.take 7).length = (if (7 : Int32) < nI l.length then (7 : Int32) else nI l.length) := by
    rw [List.length_take]
    by_cases e : 7 < l.length
    · rw [if_pos (show (7 : Int32) < nI l.length from (nI_ltI (a := 7) (by decide) (by omega)).mpr e)]
      show _ = nI 7
      congr 1; omega
    · rw [if_neg (show ¬ (7 : Int32) < nI l.length from fun hh => e ((nI_ltI (a := 7) (by decide) (by omega)).mp hh))]; congr 1; omega
  rw [hundo, Option.bind_some, if_neg (fun h => h rfl), if_pos hm7, h11 (k + 1) _ (by omega) (RP_rep R2 (by omega)), Option.bind_some, if_pos (lg_self _)]
  exact h1004 R2
end TURN
