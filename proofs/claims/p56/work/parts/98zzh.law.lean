/-! the law's setup, loaded -/
theorem Z_chk2 {pf : Nat → Nat} (hL : pf 93 < 2 ^ 31) {N : Nat} (hN : 600000 < N) {g : Nat → Int32} (hg : TX (cfgT pf) (cfgT pf).length g) (se dr : T_SE) (rdr : T_RD) (b c : T_BK) (hb : Nat → T_BK) (ck : Int32) : ∃ v a s', f_L_chk2 N pf ((nI (cfgT pf).length, g), se, dr, rdr, b, c, (0, 0, hb), ck) = some s' ∧ RP pf v 0 a [] none s' := by
  have hlen := l_cfg pf
  have H := TX_TB (NZ_cfg pf) (by omega) hg
  obtain ⟨dr1, rdr1, z1, q1⟩ := D_cfg H (N := N) (by omega) dr rdr
  obtain ⟨dr2, rdr2, z2, q2⟩ := D_cfg H (N := N) (by omega) dr1 rdr1
  obtain ⟨ans, dr', rdr', pm, tm, em, ht', sn', rdd', le', so', wh', y1, y2, y3⟩ := R_read H (N := N) (by omega) dr1 rdr1 (fun _ => 0) (fun _ => 0) (fun _ => 0) (fun _ => 0)
  have hi := Option.some.inj (y1.symm.trans z2)
  have ha : ans = -1 := congrArg Prod.fst hi
  have hd : dr' = dr2 := congrArg (fun p => p.2.1) hi
  subst ha hd
  rcases y3 with ⟨q, qa, qb⟩ | ⟨-, v, w1, w2, w3, w4⟩
  · exact absurd qb.symm (nI_neg1 (by omega))
  · obtain ⟨g1, g2, g3, g4, g5⟩ := q2
    have t1 := b_tiers (pf := pf)
    have t2 := b_cats (pf := pf)
    have t3 := b_memb (pf := pf)
    have t4 := b_life (pf := pf)
    have s0 := w2.1
    have s5 := w2.2.1
    have v0 : v 0 = tiersN pf := (nI_eq (by omega) (by omega)).mp ((w3.2.1 0 (by decide)).symm.trans g2)
    have v1 : v 1 = catsN pf := (nI_eq (by omega) (by omega)).mp ((w3.2.1 1 (by decide)).symm.trans g3)
    have v3 : v 3 = membN pf := (nI_eq (by omega) (by omega)).mp ((w3.2.1 3 (by decide)).symm.trans g4)
    have v4 : v 4 = 1 := (nI_eq (by omega) (by omega)).mp ((w3.2.1 4 (by decide)).symm.trans g5)
    have v5 : v 5 = lifeN pf := (nI_eq (by omega) (by omega)).mp (w3.1.1.symm.trans g1)
    obtain ⟨x, x1, x2, x3⟩ := S_copy (s0 := se) w2 w3 w1 N
    obtain ⟨y, a, u1, u2, u3, u4, u5⟩ := Q_start w2 x2 w4 b (fun _ => 0) 0 (N := N) (by omega)
    have hcnt : F_S_count N x 3 = some (nI (v 3)) := cnt_in x2 (i := 3) (by decide) N
    refine ⟨v, a, ((0, g), x, dr', rdr2, y, c, (0, 0, hb), 0), ?_, w2, ⟨v3, v4, v5, v0, v1⟩, x2, ⟨_, u2⟩, ⟨0, by decide, Nat.zero_le _, rfl, rfl, fun j x hx => absurd hx (by simp)⟩, ⟨⟨u5, by omega⟩, fun x hx => absurd hx (by simp)⟩, fun x hx => by cases hx⟩
    unfold f_L_chk2 P_errorPosition
    dsimp only
    rw [z1, Option.bind_some, Option.bind_some]
    dsimp only
    rw [if_pos rfl]
    unfold H_loaded P_load F_forget F_I_shorten f_X3_shorten
    dsimp only
    rw [z2, Option.bind_some]
    dsimp only
    rw [if_pos rfl, x1, Option.bind_some, u1, Option.bind_some, Option.bind_some, Option.bind_some, Option.bind_some, hcnt, Option.bind_some, Option.bind_some]
    dsimp only
    rw [if_pos rfl, Option.bind_some, e_members hL, Option.bind_some]
    dsimp only
    rw [if_pos (by rw [v3]), show (0 : Int32) = nI 0 from rfl, Z_setup (v := v) (i := 0) x2 (by decide), Option.bind_some]
    dsimp only
    rw [if_neg (fun hh => hh rfl), e_tiers hL, Option.bind_some, if_pos (by rw [v0])]
