/-! the start's answers, and a text that is sent, asked and loaded -/
theorem Z_read0 {N : Nat} (hN : 700 < N) (g : Nat → Int32) (dr : T_SE) (rdr : T_RD) : ∃ dr' rdr', F_R_read N (0, g) dr rdr = some (0, dr', rdr') := by
  obtain ⟨d1, d2, d3, d4, d5, d6, d7, d8, d9, d10, d11, d12, d13, d14⟩ := dr
  obtain ⟨e1, e2, e3, e4⟩ := rdr
  have H : TB (fun _ => 0) 0 g g := ⟨by decide, fun i hi => absurd hi (Nat.not_lt_zero _)⟩
  obtain ⟨a1, a2, -, -⟩ := spn_spec (f := isSp (fun _ => 0)) (Nat.le_refl 0)
  obtain ⟨cs', nm', th', bo', c1, -, -, -⟩ := C_clear (N := N) (by omega) d4 d5 d6 d7
  obtain ⟨κ, k1, k2⟩ := C_keyword H (s := spn (isSp (fun _ => 0)) 0 0) a2 (N := N) (by omega)
  have hk : κ = -1 := by
    rcases k2 with k2 | k2
    · exact k2.1
    · obtain ⟨k, q1, q2, q3, q4⟩ := k2
      exact absurd (KW_lt a2 q1 q3).1 (by omega)
  have z1 := C_stmt (se := (365, 365, 0, cs', nm', th', bo', d8, d9, d10, d11, d12, d13, d14)) H (Nat.le_refl 0) hN k1 (Or.inl hk)
  have e0 : spn (isSp (fun _ => 0)) 0 0 = 0 := by omega
  rw [e0] at z1
  dsimp only at z1
  rw [nI_0] at z1
  obtain ⟨n, hn⟩ : ∃ n, N = n + 1 := ⟨N - 1, by omega⟩
  have hb : ∀ m, ∃ x, f_X8_read_b19 N 600 8 96 5 5 8 8 8 8 8 8 4 0 g (m + 1) 0 0 e2 e3 (-1) 365 365 0 cs' nm' th' bo' d8 d9 d10 d11 d12 d13 d14 = some ((0 : Int32), x) := by
    intro m
    unfold f_X8_read_b19 f_X3_length
    rw [Option.bind_some, if_neg (show ¬ (0 : Int32) < 0 by decide), z1, Option.bind_some]
    dsimp only
    rw [if_neg (show ¬ (0 : Int32) = -1 by decide)]
    exact ⟨_, rfl⟩
  obtain ⟨x, hx⟩ := hb n
  rw [← hn] at hx
  unfold F_R_read f_X8_read
  dsimp only
  rw [c1, Option.bind_some]
  dsimp only
  rw [hx]
  exact ⟨_, _, rfl⟩
theorem Z_setup {v : Nat → Nat} {s : T_PL} {N : Nat} (hS : SC v s.2.1) {i : Nat} (hi : i < 5) : P_setup N s (nI i) = some (0, nI (v i), s) := by
  obtain ⟨inp, se, dr, rdr, b, c, h, ck⟩ := s
  have hne : ∀ j : Nat, 5 ≤ j → j < 8 → ¬ nI i = nI j := fun j h1 h2 hh => by have := (nI_eq (by omega) (by omega)).mp hh; omega
  unfold P_setup
  rw [btw_in (show ¬ outR (nI i) 0 7 from notout (a := 0) (b := 7) (by omega) (by decide) (Nat.zero_le _) (by omega)), Option.bind_some, if_pos rfl, if_neg (show ¬ nI i = (5 : Int32) from hne 5 (by decide) (by decide)), if_neg (show ¬ nI i = (6 : Int32) from hne 6 (by decide) (by decide)), if_neg (show ¬ nI i = (7 : Int32) from hne 7 (by decide) (by decide)), cnt_in hS hi]; rfl
theorem Z_setup5 {v : Nat → Nat} {s : T_PL} {N : Nat} (hS : SC v s.2.1) : P_setup N s 5 = some (0, nI (v 5), s) := by
  obtain ⟨inp, se, dr, rdr, b, c, h, ck⟩ := s
  have hS : SC v se := hS
  unfold P_setup
  rw [btw_in (show ¬ outR 5 0 7 by decide), Option.bind_some, if_pos rfl, if_pos rfl]
  unfold F_S_life f_X7_life
  rw [show (((inp, se, dr, rdr, b, c, h, ck) : T_PL).2.1).1 = nI (v 5) from hS.1.1]; rfl
theorem Z_threshold {v : Nat → Nat} {s : T_PL} {N : Nat} (hS : SC v s.2.1) (hV : SV v) : P_threshold N s 0 = some (0, 0, s) := by
  obtain ⟨inp, se, dr, rdr, b, c, h, ck⟩ := s
  have hS : SC v se := hS
  have h0 := hV.1.1
  have h5 := hV.1.2.1
  unfold P_threshold
  rw [if_neg (show ¬ (0 : Int32) < 0 by decide), show F_S_count N ((inp, se, dr, rdr, b, c, h, ck) : T_PL).2.1 (0 : Int32) = some (nI (v 0)) from cnt_in hS (i := 0) (by decide) N, Option.bind_some, if_pos (show (0 : Int32) < nI (v 0) from (nI_ltI (a := 0) (by decide) (by omega)).mpr (by omega))]
  unfold F_S_thresholdOf f_X7_thresholdOf
  rw [show (0 : Int32) = nI 0 from rfl, X6_at_in _ (by decide) (by decide), show ((inp, se, dr, rdr, b, c, h, ck) : T_PL).2.1.2.2.2.2.2.1 0 = nI (v 8) from (hS.2.2.1 0 (by omega)).1, hV.2.2.1.1]; rfl
theorem TX_TB {t : List Nat} (h : NZ t) (ht : t.length ≤ 600) {g : Nat → Int32} (hg : TX t t.length g) : TB (fun i => t.getD i 0) t.length g (fun i => vp_nar .byte (nI (t.getD i 0))) := by
  refine ⟨ht, fun i hi => ⟨hg i hi, ?_, by have := gD_lt h i; show t.getD i 0 ≤ 255; omega, rfl⟩⟩
  have e : t[i]? = some t[i] := List.getElem?_eq_getElem hi
  show 1 ≤ t.getD i 0
  rw [List.getD_eq_getElem?_getD, e]
  exact (h _ (List.getElem_mem hi)).1
theorem Z_err {t : List Nat} (h : NZ t) (ht : t.length ≤ 600) {N : Nat} (hN : 700 < N) {g : Nat → Int32} (hg : TX t t.length g) {v : Nat → Nat} {se : T_SE} (hS : SC v se) (h3 : v 3 = 0) (dr : T_SE) (rdr : T_RD) (b c : T_BK) (hi : T_HI) (ck : Int32) : ∃ dr' rdr', H_err N (nI t.length) ((nI t.length, g), se, dr, rdr, b, c, hi, ck) = some ((nI t.length, g), se, dr', rdr', b, c, hi, ck) := by
  have H := TX_TB h ht hg
  obtain ⟨ans, dr', rdr', pm, tm, em, ht', sn', rdd', le', so', wh', z1, z2, z3⟩ := R_read H hN dr rdr (fun _ => 0) (fun _ => 0) (fun _ => 0) (fun _ => 0)
  obtain ⟨ans2, dr2, rdr2, pm2, tm2, em2, ht2, sn2, rdd2, le2, so2, wh2, y1, y2, y3⟩ := R_read H hN dr' rdr' (fun _ => 0) (fun _ => 0) (fun _ => 0) (fun _ => 0)
  have hea : ans = ans2 := congrArg Prod.fst (Option.some.inj (z2.symm.trans y2))
  subst hea
  unfold H_err P_errorPosition
  dsimp only
  rw [z1, Option.bind_some, Option.bind_some]
  dsimp only
  rcases z3 with z3 | z3
  · obtain ⟨q, q1, q2⟩ := z3
    subst q2
    rw [if_neg (nI_pos (by omega)), if_neg (fun hh => by have := (nI_ltI (by omega) (by omega)).mp hh; omega)]
    unfold H_loaded P_load
    dsimp only
    rw [y1, Option.bind_some]
    dsimp only
    rw [if_neg (nI_neg1 (by omega)), Option.bind_some]
    dsimp only
    rw [if_neg (show ¬ (2 : Nat) = 0 by decide), if_pos rfl, Option.bind_some]
    dsimp only
    rw [if_pos rfl, show (3 : Int32) = nI 3 from rfl, Z_setup (v := v) (i := 3) hS (by decide), Option.bind_some]
    dsimp only
    rw [if_pos rfl, h3, if_pos (show nI 0 = (0 : Int32) from rfl)]
    exact ⟨_, _, rfl⟩
  · rw [z3.1, if_pos (show (-1 : Int32) < 0 by decide)]
    exact ⟨_, _, rfl⟩
theorem Z_chk {v : Nat → Nat} {a : BA} {N : Nat} (hN : 600000 < N) {g : Nat → Int32} {se dr : T_SE} {rdr : T_RD} {b c : T_BK} {hi : T_HI} {ck : Int32} (R : Rep v 0 a ((0, g), se, dr, rdr, b, c, hi, ck)) (h0 : v 0 = 1) (h3 : v 3 = 0) (h5 : v 5 = 365) (hE : a.E = []) : ∃ dr' rdr', f_L_chk N ((0, g), se, dr, rdr, b, c, hi, ck) = some ((0, g), se, dr', rdr', b, c, hi, ck) := by
  obtain ⟨hV, hS, hk, G, HQ⟩ := R
  have hS : SC v se := hS
  obtain ⟨dr1, rdr1, z1⟩ := Z_read0 (N := N) (by omega) g dr rdr
  obtain ⟨dr2, rdr2, z2⟩ := Z_read0 (N := N) (by omega) g dr1 rdr1
  have p0 : ∀ s : T_PL, s.2.1 = se → P_setup N s 0 = some (0, 1, s) := fun s hs => by
    have := Z_setup (N := N) (s := s) (v := v) (i := 0) (by rw [hs]; exact hS) (by decide)
    rw [h0] at this; exact this
  have p3 : ∀ s : T_PL, s.2.1 = se → P_setup N s 3 = some (0, 0, s) := fun s hs => by
    have := Z_setup (N := N) (s := s) (v := v) (i := 3) (by rw [hs]; exact hS) (by decide)
    rw [h3] at this; exact this
  have p5 : ∀ s : T_PL, s.2.1 = se → P_setup N s 5 = some (0, 365, s) := fun s hs => by
    have := Z_setup5 (N := N) (s := s) (v := v) (by rw [hs]; exact hS)
    rw [h5] at this; exact this
  have pt : ∀ s : T_PL, s.2.1 = se → P_threshold N s 0 = some (0, 0, s) := fun s hs => Z_threshold (v := v) (by rw [hs]; exact hS) hV
  have R2 : Rep v 0 a ((0, g), se, dr2, rdr2, b, c, hi, ck) := ⟨hV, hS, hk, G, HQ⟩
  have pT := V_total R2 hN (n := 5) (by decide)
  rw [if_pos rfl, hE] at pT
  unfold f_L_chk
  rw [p0 _ rfl, Option.bind_some]
  dsimp only
  rw [if_neg (fun hh => hh rfl), if_pos rfl, pt _ rfl, Option.bind_some]
  dsimp only
  rw [if_neg (fun hh => hh rfl), if_pos rfl, p3 _ rfl, Option.bind_some]
  dsimp only
  rw [if_neg (fun hh => hh rfl), if_pos rfl, p5 _ rfl, Option.bind_some]
  dsimp only
  rw [if_neg (fun hh => hh rfl), if_pos rfl]
  unfold P_errorPosition
  dsimp only
  rw [z1, Option.bind_some, Option.bind_some]
  dsimp only
  rw [if_pos rfl]
  unfold H_loaded P_load
  dsimp only
  rw [z2, Option.bind_some]
  dsimp only
  rw [if_neg (show ¬ (0 : Int32) = -1 by decide), Option.bind_some]
  dsimp only
  rw [if_neg (show ¬ (2 : Nat) = 0 by decide), if_pos rfl, Option.bind_some]
  dsimp only
  rw [if_pos rfl, show P_total N ((0, g), se, dr2, rdr2, b, c, hi, ck) 5 = _ from pT, Option.bind_some]
  dsimp only
  rw [if_neg (fun hh => hh rfl), if_pos (show nI (sumP []) = (0 : Int32) from rfl)]
  exact ⟨_, _, rfl⟩
