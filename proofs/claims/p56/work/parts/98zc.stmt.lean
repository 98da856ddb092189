theorem cntX {i : Nat} (hi : i < 8) (cs : Nat → Int32) : f_X7_count (nI i) 8 cs = some (cs i) := by
  unfold f_X7_count
  rw [X6_at_in _ (by decide) hi]; rfl
/-- the class's reading once its keyword is known -/
theorem C_stmt {se : T_SE} {bt : Nat → Nat} {l : Nat} {g buf : Nat → Int32} (H : TB bt l g buf) {p : Nat} (hp : p ≤ l) {N : Nat} (hN : 700 < N) {κ : Int32} (hk : f_X8_keyword N 600 (nI (tkE bt l (spn (isSp bt) l p))) (nI (spn (isSp bt) l p)) (tkK bt l (spn (isSp bt) l p)) g = some κ) (hr : κ = -1 ∨ ∃ k x y, k < 8 ∧ κ = nI k ∧ se.2.2.2.1 k = nI x ∧ f_X8_mostOf (nI k) = some (nI y) ∧ y ≤ x ∧ x < 2 ^ 31) : f_X8_readStatement N 600 8 96 5 5 8 8 8 8 8 8 4 (nI p) (-1) (nI l) g se.1 se.2.1 se.2.2.1 se.2.2.2.1 se.2.2.2.2.1 se.2.2.2.2.2.1 se.2.2.2.2.2.2.1 se.2.2.2.2.2.2.2.1 se.2.2.2.2.2.2.2.2.1 se.2.2.2.2.2.2.2.2.2.1 se.2.2.2.2.2.2.2.2.2.2.1 se.2.2.2.2.2.2.2.2.2.2.2.1 se.2.2.2.2.2.2.2.2.2.2.2.2.1 se.2.2.2.2.2.2.2.2.2.2.2.2.2 = some (nI (tkE bt l (spn (isSp bt) l p)), nI (spn (isSp bt) l p), tkK bt l (spn (isSp bt) l p), nI (spn (isSp bt) l p), se) := by
  have hb : ∀ (a b c d1 d2 d3 : Int32) (c1 c2 c3 c4 c5 c6 c7 c8 c9 c10 c11 : Nat → Int32), f_X8_readStatement_b29 a b c (-1) d1 d2 d3 c1 c2 c3 c4 c5 c6 c7 c8 c9 c10 c11 = some (a, b, c, b, d1, d2, d3, c1, c2, c3, c4, c5, c6, c7, c8, c9, c10, c11) := by
    intros
    unfold f_X8_readStatement_b29 f_X8_refuse
    rw [if_pos rfl]; rfl
  unfold f_X8_readStatement
  rw [C_readToken H hp hN, Option.bind_some]
  dsimp only
  rw [hk, Option.bind_some]
  cases hr with
  | inl h => rw [if_pos h, hb]
  | inr h =>
    obtain ⟨k, x, y, k1, k2, k3, k4, k5, k6⟩ := h
    subst k2
    rw [if_neg (nI_neg1 (by omega)), cntX k1, Option.bind_some, k4, Option.bind_some, k3, if_neg (fun hh => by have := (nI_ltI k6 (by omega)).mp hh; omega), hb]
theorem S_st0 {v : Nat → Nat} {R : Nat → Nat → Nat} {S W : Nat → Nat} {se : T_SE} {rdd le so wh : Nat → Int32} {ht sn : Int32} (HD : DR v R S W se rdd le so wh ht sn) {bt : Nat → Nat} {l : Nat} {g buf : Nat → Int32} (H : TB bt l g buf) {p : Nat} (hp : p ≤ l) {N : Nat} (hN : 700 < N) (hk : f_X8_keyword N 600 (nI (tkE bt l (spn (isSp bt) l p))) (nI (spn (isSp bt) l p)) (tkK bt l (spn (isSp bt) l p)) g = some (0 : Int32))  (h0 : KW bt l (spn (isSp bt) l p) 0) : ∃ (pc sc tc ec : Int32) (se' : T_SE) (pm tm em ht' sn' : Int32) (rdd' le' so' wh' : Nat → Int32), f_X8_readStatement N 600 8 96 5 5 8 8 8 8 8 8 4 (nI p) (-1) (nI l) g se.1 se.2.1 se.2.2.1 se.2.2.2.1 se.2.2.2.2.1 se.2.2.2.2.2.1 se.2.2.2.2.2.2.1 se.2.2.2.2.2.2.2.1 se.2.2.2.2.2.2.2.2.1 se.2.2.2.2.2.2.2.2.2.1 se.2.2.2.2.2.2.2.2.2.2.1 se.2.2.2.2.2.2.2.2.2.2.2.1 se.2.2.2.2.2.2.2.2.2.2.2.2.1 se.2.2.2.2.2.2.2.2.2.2.2.2.2 = some (pc, sc, tc, ec, se') ∧ f_X11_readsStatement N 71 192 32 32 600 (nI l) (nI p) (-1) ht sn rdd le so wh buf = some (pm, tm, em, ht', sn', rdd', le', so', wh') ∧ OUT l pc ec se' pm em ht' sn' rdd' le' so' wh' ∧ PGo p l pc ec := by
  obtain ⟨a1, a2, a3, a4⟩ := spn_spec (f := isSp bt) hp
  have hl := H.1
  have hkw := KW_lt a2 (by decide) h0
  obtain ⟨b1, b2, b3, b4⟩ := spn_spec (f := isLe bt) a2
  have hte : tkE bt l (spn (isSp bt) l p) = (spn (isLe bt) l (spn (isSp bt) l p)) := by
    unfold tkE
    rw [if_neg (by omega), if_pos hkw.2]
  obtain ⟨D1, D2, D3, D4, D5, D6⟩ := id HD
  have hcnt : se.2.2.2.1 0 = nI (v 0) := D3.2.1 0 (by omega)
  have hbd : v 0 ≤ 5 := by
    have := D2.1
    omega
  by_cases hf : v 0 = 5
  · obtain ⟨a, b, ht', r1, r2, r3, r4, z⟩ := (S_tier HD H b2 (s0 := (spn (isSp bt) l p)) a2 hN).1 hf
    refine ⟨nI (tkE bt l (spn (isSp bt) l p)), nI (spn (isSp bt) l p), tkK bt l (spn (isSp bt) l p), nI (spn (isSp bt) l p), se, a, b, nI (spn (isSp bt) l p), ht', sn, r1, r2, r3, r4, C_stmt H hp hN hk (Or.inr ⟨0, v 0, 5, by decide, rfl, hcnt, by decide +kernel, by omega, by omega⟩), ?_, Or.inl ⟨(spn (isSp bt) l p), a2, rfl, rfl⟩, PGo_err (by omega)⟩
    rw [M_stmt0 H hp hN h0, z]; rfl
  · obtain ⟨pc, sc, tc, ec, cs', nm', th', bo', pm, tm, em, ht', rdd', le', so', wh', z1, z2, z3⟩ := (S_tier HD H b2 (s0 := (spn (isSp bt) l p)) a2 hN).2 (by omega)
    have hpg := tier_PG D1 H b2 hN z1
    refine ⟨pc, sc, tc, ec, (se.1, se.2.1, se.2.2.1, cs', nm', th', bo', se.2.2.2.2.2.2.2.1, se.2.2.2.2.2.2.2.2.1, se.2.2.2.2.2.2.2.2.2.1, se.2.2.2.2.2.2.2.2.2.2.1, se.2.2.2.2.2.2.2.2.2.2.2.1, se.2.2.2.2.2.2.2.2.2.2.2.2.1, se.2.2.2.2.2.2.2.2.2.2.2.2.2), pm, tm, em, ht', sn, rdd', le', so', wh', ?_, ?_, z3, PGo_mono hpg (by omega)⟩
    · unfold f_X8_readStatement
      rw [C_readToken H hp hN, Option.bind_some]
      dsimp only
      rw [hk, Option.bind_some, if_neg (show ¬ (0 : Int32) = -1 by decide), show f_X7_count (0 : Int32) 8 se.2.2.2.1 = some (nI (v 0)) from (cntX (i := 0) (by decide) _).trans (by rw [hcnt]), Option.bind_some, show f_X8_mostOf (0 : Int32) = some (5 : Int32) by decide +kernel, Option.bind_some, if_pos (show nI (v 0) < (5 : Int32) from (nI_ltI (b := 5) (by omega) (by decide)).mpr (by omega)), if_pos (show (0 : Int32) = 0 from rfl), hte, z1, Option.bind_some]
    · rw [M_stmt0 H hp hN h0, z2]; rfl
theorem S_st1 {v : Nat → Nat} {R : Nat → Nat → Nat} {S W : Nat → Nat} {se : T_SE} {rdd le so wh : Nat → Int32} {ht sn : Int32} (HD : DR v R S W se rdd le so wh ht sn) {bt : Nat → Nat} {l : Nat} {g buf : Nat → Int32} (H : TB bt l g buf) {p : Nat} (hp : p ≤ l) {N : Nat} (hN : 700 < N) (hk : f_X8_keyword N 600 (nI (tkE bt l (spn (isSp bt) l p))) (nI (spn (isSp bt) l p)) (tkK bt l (spn (isSp bt) l p)) g = some (1 : Int32)) (h0 : ¬ KW bt l (spn (isSp bt) l p) 0) (h1 : KW bt l (spn (isSp bt) l p) 1) : ∃ (pc sc tc ec : Int32) (se' : T_SE) (pm tm em ht' sn' : Int32) (rdd' le' so' wh' : Nat → Int32), f_X8_readStatement N 600 8 96 5 5 8 8 8 8 8 8 4 (nI p) (-1) (nI l) g se.1 se.2.1 se.2.2.1 se.2.2.2.1 se.2.2.2.2.1 se.2.2.2.2.2.1 se.2.2.2.2.2.2.1 se.2.2.2.2.2.2.2.1 se.2.2.2.2.2.2.2.2.1 se.2.2.2.2.2.2.2.2.2.1 se.2.2.2.2.2.2.2.2.2.2.1 se.2.2.2.2.2.2.2.2.2.2.2.1 se.2.2.2.2.2.2.2.2.2.2.2.2.1 se.2.2.2.2.2.2.2.2.2.2.2.2.2 = some (pc, sc, tc, ec, se') ∧ f_X11_readsStatement N 71 192 32 32 600 (nI l) (nI p) (-1) ht sn rdd le so wh buf = some (pm, tm, em, ht', sn', rdd', le', so', wh') ∧ OUT l pc ec se' pm em ht' sn' rdd' le' so' wh' ∧ PGo p l pc ec := by
  obtain ⟨a1, a2, a3, a4⟩ := spn_spec (f := isSp bt) hp
  have hl := H.1
  have hkw := KW_lt a2 (by decide) h1
  obtain ⟨b1, b2, b3, b4⟩ := spn_spec (f := isLe bt) a2
  have hte : tkE bt l (spn (isSp bt) l p) = (spn (isLe bt) l (spn (isSp bt) l p)) := by
    unfold tkE
    rw [if_neg (by omega), if_pos hkw.2]
  obtain ⟨D1, D2, D3, D4, D5, D6⟩ := id HD
  have hcnt : se.2.2.2.1 1 = nI (v 1) := D3.2.1 1 (by omega)
  have hbd : v 1 ≤ 8 := by
    have := D2.1
    omega
  by_cases hf : v 1 = 8
  · obtain ⟨a, b, z⟩ := (S_category HD H b2 (s0 := (spn (isSp bt) l p)) a2 hN).1 hf
    refine ⟨nI (tkE bt l (spn (isSp bt) l p)), nI (spn (isSp bt) l p), tkK bt l (spn (isSp bt) l p), nI (spn (isSp bt) l p), se, a, b, nI (spn (isSp bt) l p), ht, sn, rdd, le, so, wh, C_stmt H hp hN hk (Or.inr ⟨1, v 1, 8, by decide, rfl, hcnt, by decide +kernel, by omega, by omega⟩), ?_, Or.inl ⟨(spn (isSp bt) l p), a2, rfl, rfl⟩, PGo_err (by omega)⟩
    rw [M_stmt1 H hp hN h0 h1, z]; rfl
  · obtain ⟨pc, sc, tc, ec, cs', nm', ra', ca', pm, tm, em, rdd', le', so', wh', z1, z2, z3⟩ := (S_category HD H b2 (s0 := (spn (isSp bt) l p)) a2 hN).2 (by omega)
    have hpg := category_PG D1 H b2 hN z1
    refine ⟨pc, sc, tc, ec, (se.1, se.2.1, se.2.2.1, cs', nm', se.2.2.2.2.2.1, se.2.2.2.2.2.2.1, ra', ca', se.2.2.2.2.2.2.2.2.2.1, se.2.2.2.2.2.2.2.2.2.2.1, se.2.2.2.2.2.2.2.2.2.2.2.1, se.2.2.2.2.2.2.2.2.2.2.2.2.1, se.2.2.2.2.2.2.2.2.2.2.2.2.2), pm, tm, em, ht, sn, rdd', le', so', wh', ?_, ?_, z3, PGo_mono hpg (by omega)⟩
    · unfold f_X8_readStatement
      rw [C_readToken H hp hN, Option.bind_some]
      dsimp only
      rw [hk, Option.bind_some, if_neg (show ¬ (1 : Int32) = -1 by decide), show f_X7_count (1 : Int32) 8 se.2.2.2.1 = some (nI (v 1)) from (cntX (i := 1) (by decide) _).trans (by rw [hcnt]), Option.bind_some, show f_X8_mostOf (1 : Int32) = some (8 : Int32) by decide +kernel, Option.bind_some, if_pos (show nI (v 1) < (8 : Int32) from (nI_ltI (b := 8) (by omega) (by decide)).mpr (by omega)), if_neg (show ¬ (1 : Int32) = 0 by decide), if_pos (show (1 : Int32) = 1 from rfl), hte, z1, Option.bind_some]
    · rw [M_stmt1 H hp hN h0 h1, z2]; rfl
theorem S_st2 {v : Nat → Nat} {R : Nat → Nat → Nat} {S W : Nat → Nat} {se : T_SE} {rdd le so wh : Nat → Int32} {ht sn : Int32} (HD : DR v R S W se rdd le so wh ht sn) {bt : Nat → Nat} {l : Nat} {g buf : Nat → Int32} (H : TB bt l g buf) {p : Nat} (hp : p ≤ l) {N : Nat} (hN : 700 < N) (hk : f_X8_keyword N 600 (nI (tkE bt l (spn (isSp bt) l p))) (nI (spn (isSp bt) l p)) (tkK bt l (spn (isSp bt) l p)) g = some (2 : Int32)) (h0 : ¬ KW bt l (spn (isSp bt) l p) 0) (h1 : ¬ KW bt l (spn (isSp bt) l p) 1) (h2 : KW bt l (spn (isSp bt) l p) 2) : ∃ (pc sc tc ec : Int32) (se' : T_SE) (pm tm em ht' sn' : Int32) (rdd' le' so' wh' : Nat → Int32), f_X8_readStatement N 600 8 96 5 5 8 8 8 8 8 8 4 (nI p) (-1) (nI l) g se.1 se.2.1 se.2.2.1 se.2.2.2.1 se.2.2.2.2.1 se.2.2.2.2.2.1 se.2.2.2.2.2.2.1 se.2.2.2.2.2.2.2.1 se.2.2.2.2.2.2.2.2.1 se.2.2.2.2.2.2.2.2.2.1 se.2.2.2.2.2.2.2.2.2.2.1 se.2.2.2.2.2.2.2.2.2.2.2.1 se.2.2.2.2.2.2.2.2.2.2.2.2.1 se.2.2.2.2.2.2.2.2.2.2.2.2.2 = some (pc, sc, tc, ec, se') ∧ f_X11_readsStatement N 71 192 32 32 600 (nI l) (nI p) (-1) ht sn rdd le so wh buf = some (pm, tm, em, ht', sn', rdd', le', so', wh') ∧ OUT l pc ec se' pm em ht' sn' rdd' le' so' wh' ∧ PGo p l pc ec := by
  obtain ⟨a1, a2, a3, a4⟩ := spn_spec (f := isSp bt) hp
  have hl := H.1
  have hkw := KW_lt a2 (by decide) h2
  obtain ⟨b1, b2, b3, b4⟩ := spn_spec (f := isLe bt) a2
  have hte : tkE bt l (spn (isSp bt) l p) = (spn (isLe bt) l (spn (isSp bt) l p)) := by
    unfold tkE
    rw [if_neg (by omega), if_pos hkw.2]
  obtain ⟨D1, D2, D3, D4, D5, D6⟩ := id HD
  have hcnt : se.2.2.2.1 2 = nI (v 2) := D3.2.1 2 (by omega)
  have hbd : v 2 ≤ 8 := by
    have := D2.1
    omega
  by_cases hf : v 2 = 8
  · obtain ⟨a, b, z⟩ := (S_promo HD H b2 (s0 := (spn (isSp bt) l p)) a2 hN).1 hf
    refine ⟨nI (tkE bt l (spn (isSp bt) l p)), nI (spn (isSp bt) l p), tkK bt l (spn (isSp bt) l p), nI (spn (isSp bt) l p), se, a, b, nI (spn (isSp bt) l p), ht, sn, rdd, le, so, wh, C_stmt H hp hN hk (Or.inr ⟨2, v 2, 8, by decide, rfl, hcnt, by decide +kernel, by omega, by omega⟩), ?_, Or.inl ⟨(spn (isSp bt) l p), a2, rfl, rfl⟩, PGo_err (by omega)⟩
    rw [M_stmt2 H hp hN h0 h1 h2, z]; rfl
  · obtain ⟨pc, sc, tc, ec, cs', nm', A1, A2, A3, A4, pm, tm, em, rdd', z1, z2, z3⟩ := (S_promo HD H b2 (s0 := (spn (isSp bt) l p)) a2 hN).2 (by omega)
    have hpg := promo_PG D1 (D3.2.1 1 (by omega)) (D4 70 (by omega) (by decide)) H b2 hN z1
    refine ⟨pc, sc, tc, ec, (se.1, se.2.1, se.2.2.1, cs', nm', se.2.2.2.2.2.1, se.2.2.2.2.2.2.1, se.2.2.2.2.2.2.2.1, se.2.2.2.2.2.2.2.2.1, A1, A2, A3, A4, se.2.2.2.2.2.2.2.2.2.2.2.2.2), pm, tm, em, ht, sn, rdd', le, so, wh, ?_, ?_, z3, PGo_mono hpg (by omega)⟩
    · unfold f_X8_readStatement
      rw [C_readToken H hp hN, Option.bind_some]
      dsimp only
      rw [hk, Option.bind_some, if_neg (show ¬ (2 : Int32) = -1 by decide), show f_X7_count (2 : Int32) 8 se.2.2.2.1 = some (nI (v 2)) from (cntX (i := 2) (by decide) _).trans (by rw [hcnt]), Option.bind_some, show f_X8_mostOf (2 : Int32) = some (8 : Int32) by decide +kernel, Option.bind_some, if_pos (show nI (v 2) < (8 : Int32) from (nI_ltI (b := 8) (by omega) (by decide)).mpr (by omega)), if_neg (show ¬ (2 : Int32) = 0 by decide), if_neg (show ¬ (2 : Int32) = 1 by decide), if_pos (show (2 : Int32) = 2 from rfl), hte, z1, Option.bind_some]
    · rw [M_stmt2 H hp hN h0 h1 h2, z2]; rfl
theorem S_st3 {v : Nat → Nat} {R : Nat → Nat → Nat} {S W : Nat → Nat} {se : T_SE} {rdd le so wh : Nat → Int32} {ht sn : Int32} (HD : DR v R S W se rdd le so wh ht sn) {bt : Nat → Nat} {l : Nat} {g buf : Nat → Int32} (H : TB bt l g buf) {p : Nat} (hp : p ≤ l) {N : Nat} (hN : 700 < N) (hk : f_X8_keyword N 600 (nI (tkE bt l (spn (isSp bt) l p))) (nI (spn (isSp bt) l p)) (tkK bt l (spn (isSp bt) l p)) g = some (3 : Int32)) (h0 : ¬ KW bt l (spn (isSp bt) l p) 0) (h1 : ¬ KW bt l (spn (isSp bt) l p) 1) (h2 : ¬ KW bt l (spn (isSp bt) l p) 2) (h3 : KW bt l (spn (isSp bt) l p) 3) : ∃ (pc sc tc ec : Int32) (se' : T_SE) (pm tm em ht' sn' : Int32) (rdd' le' so' wh' : Nat → Int32), f_X8_readStatement N 600 8 96 5 5 8 8 8 8 8 8 4 (nI p) (-1) (nI l) g se.1 se.2.1 se.2.2.1 se.2.2.2.1 se.2.2.2.2.1 se.2.2.2.2.2.1 se.2.2.2.2.2.2.1 se.2.2.2.2.2.2.2.1 se.2.2.2.2.2.2.2.2.1 se.2.2.2.2.2.2.2.2.2.1 se.2.2.2.2.2.2.2.2.2.2.1 se.2.2.2.2.2.2.2.2.2.2.2.1 se.2.2.2.2.2.2.2.2.2.2.2.2.1 se.2.2.2.2.2.2.2.2.2.2.2.2.2 = some (pc, sc, tc, ec, se') ∧ f_X11_readsStatement N 71 192 32 32 600 (nI l) (nI p) (-1) ht sn rdd le so wh buf = some (pm, tm, em, ht', sn', rdd', le', so', wh') ∧ OUT l pc ec se' pm em ht' sn' rdd' le' so' wh' ∧ PGo p l pc ec := by
  obtain ⟨a1, a2, a3, a4⟩ := spn_spec (f := isSp bt) hp
  have hl := H.1
  have hkw := KW_lt a2 (by decide) h3
  obtain ⟨b1, b2, b3, b4⟩ := spn_spec (f := isLe bt) a2
  have hte : tkE bt l (spn (isSp bt) l p) = (spn (isLe bt) l (spn (isSp bt) l p)) := by
    unfold tkE
    rw [if_neg (by omega), if_pos hkw.2]
  obtain ⟨D1, D2, D3, D4, D5, D6⟩ := id HD
  have hcnt : se.2.2.2.1 3 = nI (v 3) := D3.2.1 3 (by omega)
  have hbd : v 3 ≤ 12 := by
    have := D2.1
    omega
  by_cases hf : v 3 = 12
  · obtain ⟨a, b, z⟩ := (S_member HD H b2 (s0 := (spn (isSp bt) l p)) a2 hN).1 hf
    refine ⟨nI (tkE bt l (spn (isSp bt) l p)), nI (spn (isSp bt) l p), tkK bt l (spn (isSp bt) l p), nI (spn (isSp bt) l p), se, a, b, nI (spn (isSp bt) l p), ht, sn, rdd, le, so, wh, C_stmt H hp hN hk (Or.inr ⟨3, v 3, 12, by decide, rfl, hcnt, by decide +kernel, by omega, by omega⟩), ?_, Or.inl ⟨(spn (isSp bt) l p), a2, rfl, rfl⟩, PGo_err (by omega)⟩
    rw [M_stmt3 H hp hN h0 h1 h2 h3, z]; rfl
  · obtain ⟨pc, sc, tc, ec, cs', nm', pm, tm, em, rdd', le', so', wh', z1, z2, z3⟩ := (S_member HD H b2 (s0 := (spn (isSp bt) l p)) a2 hN).2 (by omega)
    have hpg := member_PG D1 H b2 hN z1
    refine ⟨pc, sc, tc, ec, (se.1, se.2.1, se.2.2.1, cs', nm', se.2.2.2.2.2), pm, tm, em, ht, sn, rdd', le', so', wh', ?_, ?_, z3, PGo_mono hpg (by omega)⟩
    · unfold f_X8_readStatement
      rw [C_readToken H hp hN, Option.bind_some]
      dsimp only
      rw [hk, Option.bind_some, if_neg (show ¬ (3 : Int32) = -1 by decide), show f_X7_count (3 : Int32) 8 se.2.2.2.1 = some (nI (v 3)) from (cntX (i := 3) (by decide) _).trans (by rw [hcnt]), Option.bind_some, show f_X8_mostOf (3 : Int32) = some (12 : Int32) by decide +kernel, Option.bind_some, if_pos (show nI (v 3) < (12 : Int32) from (nI_ltI (b := 12) (by omega) (by decide)).mpr (by omega)), if_neg (show ¬ (3 : Int32) = 0 by decide), if_neg (show ¬ (3 : Int32) = 1 by decide), if_neg (show ¬ (3 : Int32) = 2 by decide), if_pos (show (3 : Int32) = 3 from rfl), hte, z1, Option.bind_some]
    · rw [M_stmt3 H hp hN h0 h1 h2 h3, z2]; rfl
theorem S_st4 {v : Nat → Nat} {R : Nat → Nat → Nat} {S W : Nat → Nat} {se : T_SE} {rdd le so wh : Nat → Int32} {ht sn : Int32} (HD : DR v R S W se rdd le so wh ht sn) {bt : Nat → Nat} {l : Nat} {g buf : Nat → Int32} (H : TB bt l g buf) {p : Nat} (hp : p ≤ l) {N : Nat} (hN : 700 < N) (hk : f_X8_keyword N 600 (nI (tkE bt l (spn (isSp bt) l p))) (nI (spn (isSp bt) l p)) (tkK bt l (spn (isSp bt) l p)) g = some (4 : Int32)) (h0 : ¬ KW bt l (spn (isSp bt) l p) 0) (h1 : ¬ KW bt l (spn (isSp bt) l p) 1) (h2 : ¬ KW bt l (spn (isSp bt) l p) 2) (h3 : ¬ KW bt l (spn (isSp bt) l p) 3) (h4 : KW bt l (spn (isSp bt) l p) 4) : ∃ (pc sc tc ec : Int32) (se' : T_SE) (pm tm em ht' sn' : Int32) (rdd' le' so' wh' : Nat → Int32), f_X8_readStatement N 600 8 96 5 5 8 8 8 8 8 8 4 (nI p) (-1) (nI l) g se.1 se.2.1 se.2.2.1 se.2.2.2.1 se.2.2.2.2.1 se.2.2.2.2.2.1 se.2.2.2.2.2.2.1 se.2.2.2.2.2.2.2.1 se.2.2.2.2.2.2.2.2.1 se.2.2.2.2.2.2.2.2.2.1 se.2.2.2.2.2.2.2.2.2.2.1 se.2.2.2.2.2.2.2.2.2.2.2.1 se.2.2.2.2.2.2.2.2.2.2.2.2.1 se.2.2.2.2.2.2.2.2.2.2.2.2.2 = some (pc, sc, tc, ec, se') ∧ f_X11_readsStatement N 71 192 32 32 600 (nI l) (nI p) (-1) ht sn rdd le so wh buf = some (pm, tm, em, ht', sn', rdd', le', so', wh') ∧ OUT l pc ec se' pm em ht' sn' rdd' le' so' wh' ∧ PGo p l pc ec := by
  obtain ⟨a1, a2, a3, a4⟩ := spn_spec (f := isSp bt) hp
  have hl := H.1
  have hkw := KW_lt a2 (by decide) h4
  obtain ⟨b1, b2, b3, b4⟩ := spn_spec (f := isLe bt) a2
  have hte : tkE bt l (spn (isSp bt) l p) = (spn (isLe bt) l (spn (isSp bt) l p)) := by
    unfold tkE
    rw [if_neg (by omega), if_pos hkw.2]
  obtain ⟨D1, D2, D3, D4, D5, D6⟩ := id HD
  have hcnt : se.2.2.2.1 4 = nI (v 4) := D3.2.1 4 (by omega)
  have hbd : v 4 ≤ 4 := by
    have := D2.1
    omega
  by_cases hf : v 4 = 4
  · obtain ⟨a, b, z⟩ := (S_house HD H b2 (s0 := (spn (isSp bt) l p)) a2 hN).1 hf
    refine ⟨nI (tkE bt l (spn (isSp bt) l p)), nI (spn (isSp bt) l p), tkK bt l (spn (isSp bt) l p), nI (spn (isSp bt) l p), se, a, b, nI (spn (isSp bt) l p), ht, sn, rdd, le, so, wh, C_stmt H hp hN hk (Or.inr ⟨4, v 4, 4, by decide, rfl, hcnt, by decide +kernel, by omega, by omega⟩), ?_, Or.inl ⟨(spn (isSp bt) l p), a2, rfl, rfl⟩, PGo_err (by omega)⟩
    rw [M_stmt4 H hp hN h0 h1 h2 h3 h4, z]; rfl
  · obtain ⟨pc, sc, tc, ec, cs', nm', sh', pm, tm, em, rdd', le', so', wh', z1, z2, z3⟩ := (S_house HD H b2 (s0 := (spn (isSp bt) l p)) a2 hN).2 (by omega)
    have hpg := house_PG D1 H b2 hN z1
    refine ⟨pc, sc, tc, ec, (se.1, se.2.1, se.2.2.1, cs', nm', se.2.2.2.2.2.1, se.2.2.2.2.2.2.1, se.2.2.2.2.2.2.2.1, se.2.2.2.2.2.2.2.2.1, se.2.2.2.2.2.2.2.2.2.1, se.2.2.2.2.2.2.2.2.2.2.1, se.2.2.2.2.2.2.2.2.2.2.2.1, se.2.2.2.2.2.2.2.2.2.2.2.2.1, sh'), pm, tm, em, ht, sn, rdd', le', so', wh', ?_, ?_, z3, PGo_mono hpg (by omega)⟩
    · unfold f_X8_readStatement
      rw [C_readToken H hp hN, Option.bind_some]
      dsimp only
      rw [hk, Option.bind_some, if_neg (show ¬ (4 : Int32) = -1 by decide), show f_X7_count (4 : Int32) 8 se.2.2.2.1 = some (nI (v 4)) from (cntX (i := 4) (by decide) _).trans (by rw [hcnt]), Option.bind_some, show f_X8_mostOf (4 : Int32) = some (4 : Int32) by decide +kernel, Option.bind_some, if_pos (show nI (v 4) < (4 : Int32) from (nI_ltI (b := 4) (by omega) (by decide)).mpr (by omega)), if_neg (show ¬ (4 : Int32) = 0 by decide), if_neg (show ¬ (4 : Int32) = 1 by decide), if_neg (show ¬ (4 : Int32) = 2 by decide), if_neg (show ¬ (4 : Int32) = 3 by decide), if_pos (show (4 : Int32) = 4 from rfl), hte, z1, Option.bind_some]
    · rw [M_stmt4 H hp hN h0 h1 h2 h3 h4, z2]; rfl
theorem S_st5 {v : Nat → Nat} {R : Nat → Nat → Nat} {S W : Nat → Nat} {se : T_SE} {rdd le so wh : Nat → Int32} {ht sn : Int32} (HD : DR v R S W se rdd le so wh ht sn) {bt : Nat → Nat} {l : Nat} {g buf : Nat → Int32} (H : TB bt l g buf) {p : Nat} (hp : p ≤ l) {N : Nat} (hN : 700 < N) (hk : f_X8_keyword N 600 (nI (tkE bt l (spn (isSp bt) l p))) (nI (spn (isSp bt) l p)) (tkK bt l (spn (isSp bt) l p)) g = some (5 : Int32)) (h0 : ¬ KW bt l (spn (isSp bt) l p) 0) (h1 : ¬ KW bt l (spn (isSp bt) l p) 1) (h2 : ¬ KW bt l (spn (isSp bt) l p) 2) (h3 : ¬ KW bt l (spn (isSp bt) l p) 3) (h4 : ¬ KW bt l (spn (isSp bt) l p) 4) (h5 : KW bt l (spn (isSp bt) l p) 5) : ∃ (pc sc tc ec : Int32) (se' : T_SE) (pm tm em ht' sn' : Int32) (rdd' le' so' wh' : Nat → Int32), f_X8_readStatement N 600 8 96 5 5 8 8 8 8 8 8 4 (nI p) (-1) (nI l) g se.1 se.2.1 se.2.2.1 se.2.2.2.1 se.2.2.2.2.1 se.2.2.2.2.2.1 se.2.2.2.2.2.2.1 se.2.2.2.2.2.2.2.1 se.2.2.2.2.2.2.2.2.1 se.2.2.2.2.2.2.2.2.2.1 se.2.2.2.2.2.2.2.2.2.2.1 se.2.2.2.2.2.2.2.2.2.2.2.1 se.2.2.2.2.2.2.2.2.2.2.2.2.1 se.2.2.2.2.2.2.2.2.2.2.2.2.2 = some (pc, sc, tc, ec, se') ∧ f_X11_readsStatement N 71 192 32 32 600 (nI l) (nI p) (-1) ht sn rdd le so wh buf = some (pm, tm, em, ht', sn', rdd', le', so', wh') ∧ OUT l pc ec se' pm em ht' sn' rdd' le' so' wh' ∧ PGo p l pc ec := by
  obtain ⟨a1, a2, a3, a4⟩ := spn_spec (f := isSp bt) hp
  have hl := H.1
  have hkw := KW_lt a2 (by decide) h5
  obtain ⟨b1, b2, b3, b4⟩ := spn_spec (f := isLe bt) a2
  have hte : tkE bt l (spn (isSp bt) l p) = (spn (isLe bt) l (spn (isSp bt) l p)) := by
    unfold tkE
    rw [if_neg (by omega), if_pos hkw.2]
  obtain ⟨D1, D2, D3, D4, D5, D6⟩ := id HD
  obtain ⟨a_, b_, c_, d1, d2, d3, d4, d5, d6, d7⟩ := D6
  have hcnt : se.2.2.2.1 5 = nI a_ := d5
  by_cases hf : a_ = 1
  · obtain ⟨a, b, sn', z⟩ := (S_life HD H b2 (s0 := (spn (isSp bt) l p)) a2 (nI (spn (isSp bt) l p)) (tkK bt l (spn (isSp bt) l p)) hN).1 (by rw [hcnt, hf]; rfl)
    refine ⟨nI (tkE bt l (spn (isSp bt) l p)), nI (spn (isSp bt) l p), tkK bt l (spn (isSp bt) l p), nI (spn (isSp bt) l p), se, a, b, nI (spn (isSp bt) l p), ht, sn', rdd, le, so, wh, C_stmt H hp hN hk (Or.inr ⟨5, a_, 1, by decide, rfl, hcnt, by decide +kernel, by omega, by omega⟩), ?_, Or.inl ⟨(spn (isSp bt) l p), a2, rfl, rfl⟩, PGo_err (by omega)⟩
    rw [M_stmt5 H hp hN h0 h1 h2 h3 h4 h5, z]; rfl
  · obtain ⟨pc, sc, tc, ec, li', wi', gr', cs', nm', pm, tm, em, sn', rdd', z1, z2, z3⟩ := (S_life HD H b2 (s0 := (spn (isSp bt) l p)) a2 (nI (spn (isSp bt) l p)) (tkK bt l (spn (isSp bt) l p)) hN).2 (by rw [hcnt, show a_ = 0 by omega]; rfl)
    have hpg := period_PG H b2 hN z1
    refine ⟨pc, sc, tc, ec, (li', wi', gr', cs', nm', se.2.2.2.2.2.1, se.2.2.2.2.2.2.1, se.2.2.2.2.2.2.2.1, se.2.2.2.2.2.2.2.2.1, se.2.2.2.2.2.2.2.2.2.1, se.2.2.2.2.2.2.2.2.2.2.1, se.2.2.2.2.2.2.2.2.2.2.2.1, se.2.2.2.2.2.2.2.2.2.2.2.2.1, se.2.2.2.2.2.2.2.2.2.2.2.2.2), pm, tm, em, ht, sn', rdd', le, so, wh, ?_, ?_, z3, PGo_mono hpg (by omega)⟩
    · unfold f_X8_readStatement
      rw [C_readToken H hp hN, Option.bind_some]
      dsimp only
      rw [hk, Option.bind_some, if_neg (show ¬ (5 : Int32) = -1 by decide), show f_X7_count (5 : Int32) 8 se.2.2.2.1 = some (nI a_) from (cntX (i := 5) (by decide) _).trans (by rw [hcnt]), Option.bind_some, show f_X8_mostOf (5 : Int32) = some (1 : Int32) by decide +kernel, Option.bind_some, if_pos (show nI a_ < (1 : Int32) by rw [show a_ = 0 by omega]; decide), if_neg (show ¬ (5 : Int32) = 0 by decide), if_neg (show ¬ (5 : Int32) = 1 by decide), if_neg (show ¬ (5 : Int32) = 2 by decide), if_neg (show ¬ (5 : Int32) = 3 by decide), if_neg (show ¬ (5 : Int32) = 4 by decide), hte, z1, Option.bind_some]
    · rw [M_stmt5 H hp hN h0 h1 h2 h3 h4 h5, z2]; rfl
theorem S_st6 {v : Nat → Nat} {R : Nat → Nat → Nat} {S W : Nat → Nat} {se : T_SE} {rdd le so wh : Nat → Int32} {ht sn : Int32} (HD : DR v R S W se rdd le so wh ht sn) {bt : Nat → Nat} {l : Nat} {g buf : Nat → Int32} (H : TB bt l g buf) {p : Nat} (hp : p ≤ l) {N : Nat} (hN : 700 < N) (hk : f_X8_keyword N 600 (nI (tkE bt l (spn (isSp bt) l p))) (nI (spn (isSp bt) l p)) (tkK bt l (spn (isSp bt) l p)) g = some (6 : Int32)) (h0 : ¬ KW bt l (spn (isSp bt) l p) 0) (h1 : ¬ KW bt l (spn (isSp bt) l p) 1) (h2 : ¬ KW bt l (spn (isSp bt) l p) 2) (h3 : ¬ KW bt l (spn (isSp bt) l p) 3) (h4 : ¬ KW bt l (spn (isSp bt) l p) 4) (h5 : ¬ KW bt l (spn (isSp bt) l p) 5) (h6 : KW bt l (spn (isSp bt) l p) 6) : ∃ (pc sc tc ec : Int32) (se' : T_SE) (pm tm em ht' sn' : Int32) (rdd' le' so' wh' : Nat → Int32), f_X8_readStatement N 600 8 96 5 5 8 8 8 8 8 8 4 (nI p) (-1) (nI l) g se.1 se.2.1 se.2.2.1 se.2.2.2.1 se.2.2.2.2.1 se.2.2.2.2.2.1 se.2.2.2.2.2.2.1 se.2.2.2.2.2.2.2.1 se.2.2.2.2.2.2.2.2.1 se.2.2.2.2.2.2.2.2.2.1 se.2.2.2.2.2.2.2.2.2.2.1 se.2.2.2.2.2.2.2.2.2.2.2.1 se.2.2.2.2.2.2.2.2.2.2.2.2.1 se.2.2.2.2.2.2.2.2.2.2.2.2.2 = some (pc, sc, tc, ec, se') ∧ f_X11_readsStatement N 71 192 32 32 600 (nI l) (nI p) (-1) ht sn rdd le so wh buf = some (pm, tm, em, ht', sn', rdd', le', so', wh') ∧ OUT l pc ec se' pm em ht' sn' rdd' le' so' wh' ∧ PGo p l pc ec := by
  obtain ⟨a1, a2, a3, a4⟩ := spn_spec (f := isSp bt) hp
  have hl := H.1
  have hkw := KW_lt a2 (by decide) h6
  obtain ⟨b1, b2, b3, b4⟩ := spn_spec (f := isLe bt) a2
  have hte : tkE bt l (spn (isSp bt) l p) = (spn (isLe bt) l (spn (isSp bt) l p)) := by
    unfold tkE
    rw [if_neg (by omega), if_pos hkw.2]
  obtain ⟨D1, D2, D3, D4, D5, D6⟩ := id HD
  obtain ⟨a_, b_, c_, d1, d2, d3, d4, d5, d6, d7⟩ := D6
  have hcnt : se.2.2.2.1 6 = nI b_ := d6
  by_cases hf : b_ = 1
  · obtain ⟨a, b, sn', z⟩ := (S_window HD H b2 (s0 := (spn (isSp bt) l p)) a2 (nI (spn (isSp bt) l p)) (tkK bt l (spn (isSp bt) l p)) hN).1 (by rw [hcnt, hf]; rfl)
    refine ⟨nI (tkE bt l (spn (isSp bt) l p)), nI (spn (isSp bt) l p), tkK bt l (spn (isSp bt) l p), nI (spn (isSp bt) l p), se, a, b, nI (spn (isSp bt) l p), ht, sn', rdd, le, so, wh, C_stmt H hp hN hk (Or.inr ⟨6, b_, 1, by decide, rfl, hcnt, by decide +kernel, by omega, by omega⟩), ?_, Or.inl ⟨(spn (isSp bt) l p), a2, rfl, rfl⟩, PGo_err (by omega)⟩
    rw [M_stmt6 H hp hN h0 h1 h2 h3 h4 h5 h6, z]; rfl
  · obtain ⟨pc, sc, tc, ec, li', wi', gr', cs', nm', pm, tm, em, sn', rdd', z1, z2, z3⟩ := (S_window HD H b2 (s0 := (spn (isSp bt) l p)) a2 (nI (spn (isSp bt) l p)) (tkK bt l (spn (isSp bt) l p)) hN).2 (by rw [hcnt, show b_ = 0 by omega]; rfl)
    have hpg := period_PG H b2 hN z1
    refine ⟨pc, sc, tc, ec, (li', wi', gr', cs', nm', se.2.2.2.2.2.1, se.2.2.2.2.2.2.1, se.2.2.2.2.2.2.2.1, se.2.2.2.2.2.2.2.2.1, se.2.2.2.2.2.2.2.2.2.1, se.2.2.2.2.2.2.2.2.2.2.1, se.2.2.2.2.2.2.2.2.2.2.2.1, se.2.2.2.2.2.2.2.2.2.2.2.2.1, se.2.2.2.2.2.2.2.2.2.2.2.2.2), pm, tm, em, ht, sn', rdd', le, so, wh, ?_, ?_, z3, PGo_mono hpg (by omega)⟩
    · unfold f_X8_readStatement
      rw [C_readToken H hp hN, Option.bind_some]
      dsimp only
      rw [hk, Option.bind_some, if_neg (show ¬ (6 : Int32) = -1 by decide), show f_X7_count (6 : Int32) 8 se.2.2.2.1 = some (nI b_) from (cntX (i := 6) (by decide) _).trans (by rw [hcnt]), Option.bind_some, show f_X8_mostOf (6 : Int32) = some (1 : Int32) by decide +kernel, Option.bind_some, if_pos (show nI b_ < (1 : Int32) by rw [show b_ = 0 by omega]; decide), if_neg (show ¬ (6 : Int32) = 0 by decide), if_neg (show ¬ (6 : Int32) = 1 by decide), if_neg (show ¬ (6 : Int32) = 2 by decide), if_neg (show ¬ (6 : Int32) = 3 by decide), if_neg (show ¬ (6 : Int32) = 4 by decide), hte, z1, Option.bind_some]
    · rw [M_stmt6 H hp hN h0 h1 h2 h3 h4 h5 h6, z2]; rfl
theorem S_st7 {v : Nat → Nat} {R : Nat → Nat → Nat} {S W : Nat → Nat} {se : T_SE} {rdd le so wh : Nat → Int32} {ht sn : Int32} (HD : DR v R S W se rdd le so wh ht sn) {bt : Nat → Nat} {l : Nat} {g buf : Nat → Int32} (H : TB bt l g buf) {p : Nat} (hp : p ≤ l) {N : Nat} (hN : 700 < N) (hk : f_X8_keyword N 600 (nI (tkE bt l (spn (isSp bt) l p))) (nI (spn (isSp bt) l p)) (tkK bt l (spn (isSp bt) l p)) g = some (7 : Int32)) (h0 : ¬ KW bt l (spn (isSp bt) l p) 0) (h1 : ¬ KW bt l (spn (isSp bt) l p) 1) (h2 : ¬ KW bt l (spn (isSp bt) l p) 2) (h3 : ¬ KW bt l (spn (isSp bt) l p) 3) (h4 : ¬ KW bt l (spn (isSp bt) l p) 4) (h5 : ¬ KW bt l (spn (isSp bt) l p) 5) (h6 : ¬ KW bt l (spn (isSp bt) l p) 6) (h7 : KW bt l (spn (isSp bt) l p) 7) : ∃ (pc sc tc ec : Int32) (se' : T_SE) (pm tm em ht' sn' : Int32) (rdd' le' so' wh' : Nat → Int32), f_X8_readStatement N 600 8 96 5 5 8 8 8 8 8 8 4 (nI p) (-1) (nI l) g se.1 se.2.1 se.2.2.1 se.2.2.2.1 se.2.2.2.2.1 se.2.2.2.2.2.1 se.2.2.2.2.2.2.1 se.2.2.2.2.2.2.2.1 se.2.2.2.2.2.2.2.2.1 se.2.2.2.2.2.2.2.2.2.1 se.2.2.2.2.2.2.2.2.2.2.1 se.2.2.2.2.2.2.2.2.2.2.2.1 se.2.2.2.2.2.2.2.2.2.2.2.2.1 se.2.2.2.2.2.2.2.2.2.2.2.2.2 = some (pc, sc, tc, ec, se') ∧ f_X11_readsStatement N 71 192 32 32 600 (nI l) (nI p) (-1) ht sn rdd le so wh buf = some (pm, tm, em, ht', sn', rdd', le', so', wh') ∧ OUT l pc ec se' pm em ht' sn' rdd' le' so' wh' ∧ PGo p l pc ec := by
  obtain ⟨a1, a2, a3, a4⟩ := spn_spec (f := isSp bt) hp
  have hl := H.1
  have hkw := KW_lt a2 (by decide) h7
  obtain ⟨b1, b2, b3, b4⟩ := spn_spec (f := isLe bt) a2
  have hte : tkE bt l (spn (isSp bt) l p) = (spn (isLe bt) l (spn (isSp bt) l p)) := by
    unfold tkE
    rw [if_neg (by omega), if_pos hkw.2]
  obtain ⟨D1, D2, D3, D4, D5, D6⟩ := id HD
  obtain ⟨a_, b_, c_, d1, d2, d3, d4, d5, d6, d7⟩ := D6
  have hcnt : se.2.2.2.1 7 = nI c_ := d7
  by_cases hf : c_ = 1
  · obtain ⟨a, b, sn', z⟩ := (S_grace HD H b2 (s0 := (spn (isSp bt) l p)) a2 (nI (spn (isSp bt) l p)) (tkK bt l (spn (isSp bt) l p)) hN).1 (by rw [hcnt, hf]; rfl)
    refine ⟨nI (tkE bt l (spn (isSp bt) l p)), nI (spn (isSp bt) l p), tkK bt l (spn (isSp bt) l p), nI (spn (isSp bt) l p), se, a, b, nI (spn (isSp bt) l p), ht, sn', rdd, le, so, wh, C_stmt H hp hN hk (Or.inr ⟨7, c_, 1, by decide, rfl, hcnt, by decide +kernel, by omega, by omega⟩), ?_, Or.inl ⟨(spn (isSp bt) l p), a2, rfl, rfl⟩, PGo_err (by omega)⟩
    rw [M_stmt7 H hp hN h0 h1 h2 h3 h4 h5 h6 h7, z]; rfl
  · obtain ⟨pc, sc, tc, ec, li', wi', gr', cs', nm', pm, tm, em, sn', rdd', z1, z2, z3⟩ := (S_grace HD H b2 (s0 := (spn (isSp bt) l p)) a2 (nI (spn (isSp bt) l p)) (tkK bt l (spn (isSp bt) l p)) hN).2 (by rw [hcnt, show c_ = 0 by omega]; rfl)
    have hpg := period_PG H b2 hN z1
    refine ⟨pc, sc, tc, ec, (li', wi', gr', cs', nm', se.2.2.2.2.2.1, se.2.2.2.2.2.2.1, se.2.2.2.2.2.2.2.1, se.2.2.2.2.2.2.2.2.1, se.2.2.2.2.2.2.2.2.2.1, se.2.2.2.2.2.2.2.2.2.2.1, se.2.2.2.2.2.2.2.2.2.2.2.1, se.2.2.2.2.2.2.2.2.2.2.2.2.1, se.2.2.2.2.2.2.2.2.2.2.2.2.2), pm, tm, em, ht, sn', rdd', le, so, wh, ?_, ?_, z3, PGo_mono hpg (by omega)⟩
    · unfold f_X8_readStatement
      rw [C_readToken H hp hN, Option.bind_some]
      dsimp only
      rw [hk, Option.bind_some, if_neg (show ¬ (7 : Int32) = -1 by decide), show f_X7_count (7 : Int32) 8 se.2.2.2.1 = some (nI c_) from (cntX (i := 7) (by decide) _).trans (by rw [hcnt]), Option.bind_some, show f_X8_mostOf (7 : Int32) = some (1 : Int32) by decide +kernel, Option.bind_some, if_pos (show nI c_ < (1 : Int32) by rw [show c_ = 0 by omega]; decide), if_neg (show ¬ (7 : Int32) = 0 by decide), if_neg (show ¬ (7 : Int32) = 1 by decide), if_neg (show ¬ (7 : Int32) = 2 by decide), if_neg (show ¬ (7 : Int32) = 3 by decide), if_neg (show ¬ (7 : Int32) = 4 by decide), hte, z1, Option.bind_some]
    · rw [M_stmt7 H hp hN h0 h1 h2 h3 h4 h5 h6 h7, z2]; rfl
/-- A STATEMENT in both programs -/
theorem S_stmt {v : Nat → Nat} {R : Nat → Nat → Nat} {S W : Nat → Nat} {se : T_SE} {rdd le so wh : Nat → Int32} {ht sn : Int32} (HD : DR v R S W se rdd le so wh ht sn) {bt : Nat → Nat} {l : Nat} {g buf : Nat → Int32} (H : TB bt l g buf) {p : Nat} (hp : p ≤ l) {N : Nat} (hN : 700 < N) : ∃ (pc sc tc ec : Int32) (se' : T_SE) (pm tm em ht' sn' : Int32) (rdd' le' so' wh' : Nat → Int32), f_X8_readStatement N 600 8 96 5 5 8 8 8 8 8 8 4 (nI p) (-1) (nI l) g se.1 se.2.1 se.2.2.1 se.2.2.2.1 se.2.2.2.2.1 se.2.2.2.2.2.1 se.2.2.2.2.2.2.1 se.2.2.2.2.2.2.2.1 se.2.2.2.2.2.2.2.2.1 se.2.2.2.2.2.2.2.2.2.1 se.2.2.2.2.2.2.2.2.2.2.1 se.2.2.2.2.2.2.2.2.2.2.2.1 se.2.2.2.2.2.2.2.2.2.2.2.2.1 se.2.2.2.2.2.2.2.2.2.2.2.2.2 = some (pc, sc, tc, ec, se') ∧ f_X11_readsStatement N 71 192 32 32 600 (nI l) (nI p) (-1) ht sn rdd le so wh buf = some (pm, tm, em, ht', sn', rdd', le', so', wh') ∧ OUT l pc ec se' pm em ht' sn' rdd' le' so' wh' ∧ PGo p l pc ec := by
  obtain ⟨a1, a2, a3, a4⟩ := spn_spec (f := isSp bt) hp
  have hl := H.1
  obtain ⟨κ, hκ, hκ2⟩ := C_keyword H a2 (N := N) (by omega)
  cases hκ2 with
  | inl h =>
    obtain ⟨h1, h2⟩ := h
    exact ⟨nI (tkE bt l (spn (isSp bt) l p)), nI (spn (isSp bt) l p), tkK bt l (spn (isSp bt) l p), nI (spn (isSp bt) l p), se, nI (spn (isSp bt) l p), nI (spn (isSp bt) l p), nI (spn (isSp bt) l p), ht, sn, rdd, le, so, wh, C_stmt H hp hN hκ (Or.inl h1), M_stmt8 H hp hN (h2 0 (by decide)) (h2 1 (by decide)) (h2 2 (by decide)) (h2 3 (by decide)) (h2 4 (by decide)) (h2 5 (by decide)) (h2 6 (by decide)) (h2 7 (by decide)), Or.inl ⟨(spn (isSp bt) l p), a2, rfl, rfl⟩, PGo_err (by omega)⟩
  | inr h =>
    obtain ⟨k, k1, k2, k3, k4⟩ := h
    subst k2
    have hc : k = 0 ∨ k = 1 ∨ k = 2 ∨ k = 3 ∨ k = 4 ∨ k = 5 ∨ k = 6 ∨ k = 7 := by omega
    rcases hc with q | q | q | q | q | q | q | q <;> subst q
    · exact S_st0 HD H hp hN hκ  k3
    · exact S_st1 HD H hp hN hκ (k4 0 (by decide)) k3
    · exact S_st2 HD H hp hN hκ (k4 0 (by decide)) (k4 1 (by decide)) k3
    · exact S_st3 HD H hp hN hκ (k4 0 (by decide)) (k4 1 (by decide)) (k4 2 (by decide)) k3
    · exact S_st4 HD H hp hN hκ (k4 0 (by decide)) (k4 1 (by decide)) (k4 2 (by decide)) (k4 3 (by decide)) k3
    · exact S_st5 HD H hp hN hκ (k4 0 (by decide)) (k4 1 (by decide)) (k4 2 (by decide)) (k4 3 (by decide)) (k4 4 (by decide)) k3
    · exact S_st6 HD H hp hN hκ (k4 0 (by decide)) (k4 1 (by decide)) (k4 2 (by decide)) (k4 3 (by decide)) (k4 4 (by decide)) (k4 5 (by decide)) k3
    · exact S_st7 HD H hp hN hκ (k4 0 (by decide)) (k4 1 (by decide)) (k4 2 (by decide)) (k4 3 (by decide)) (k4 4 (by decide)) (k4 5 (by decide)) (k4 6 (by decide)) k3

