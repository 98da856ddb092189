/-! the law's text, read: the whole of it -/
def Qc (pf : Nat → Nat) (se : T_SE) : Prop := se.1 = nI (lifeN pf) ∧ se.2.2.2.1 0 = nI (tiersN pf) ∧ se.2.2.2.1 1 = nI (catsN pf) ∧ se.2.2.2.1 3 = nI (membN pf) ∧ se.2.2.2.1 4 = nI 1
theorem D_end {t : List Nat} {g buf : Nat → Int32} (H : TB (fun i => t.getD i 0) t.length g buf) {N : Nat} (hN : 700 < N) {pf : Nat → Nat} {x p' : Nat} {wi gr : Int32} {cs nm th bo ra ca a1 a2 a3 a4 sh : Nat → Int32} {c : Nat → Nat} {L : List (List Nat)} (S : SS pf c L cs nm th) (h : At t p' (endT pf)) (hx : x ≤ p') (h0 : c 0 = tiersN pf) (h1 : c 1 = catsN pf) (h2 : c 2 = 0) (h3 : c 3 = membN pf) (h4 : c 4 = 0) : Pn t g N 2 x p' (nI (lifeN pf), wi, gr, cs, nm, th, bo, ra, ca, a1, a2, a3, a4, sh) (Qc pf) := by
  have t1 := b_tiers (pf := pf)
  have t2 := b_cats (pf := pf)
  have t3 := b_to (pf := pf)
  have t4 := b_extra (pf := pf)
  have t5 := b_share (pf := pf)
  have hw : Wd [99, 97] := wd2 (by omega) (by omega)
  have hw1 : Wd [104] := ⟨fun c hc => by rw [List.mem_singleton.mp hc]; omega, by simp, by simp⟩
  unfold endT at h
  obtain ⟨⟨i, z1⟩, z2⟩ := D_promo H (At_semi h) (Or.inr (Or.inr rfl)) (by omega) t3.1 t4.1 t4.2 (li := nI (lifeN pf)) (wi := wi) (gr := gr) (th := th) (bo := bo) (ra := ra) (ca := ca) (a1 := a1) (a2 := a2) (a3 := a3) (a4 := a4) (sh := sh) S.1 hN hw (i0 := 0) (by omega) (by omega) (S.2.2.1 (by omega)) (by omega)
  refine Pn_semi (B := 1) H hN h hx z1 ?_
  have D2 := DD_0 S.1 2 (12 * 2 + c 2)
  obtain ⟨y1, y2⟩ := D_house H (At_semi z2) (Or.inl rfl) t5 (li := nI (lifeN pf)) (wi := wi) (gr := gr) (th := th) (bo := bo) (ra := ra) (ca := ca) (a1 := upd a1 (c 2) (nI i)) (a2 := upd a2 (c 2) (nI (fromP pf))) (a3 := upd a3 (c 2) (nI (toP pf))) (a4 := upd a4 (c 2) (nI (extraN pf))) (sh := sh) D2 hN hw1 (LL_wd S.2.1 S.2.2.2.2.1 S.2.2.2.2.2.1) (LL_h S.2.1) (by rw [inc_ne (by decide)]; omega)
  refine Pn_semi (B := 0) H hN z2 (by omega) y1 ?_
  have D3 := DD_0 D2 4 (12 * 4 + inc c 2 4)
  refine Pn_stop H hN y2 (by omega) ?_
  have g0 := (D3.1 0 (by decide)).trans (congrArg nI ((inc_ne (by decide)).trans ((inc_ne (by decide)).trans h0)))
  have g1 := (D3.1 1 (by decide)).trans (congrArg nI ((inc_ne (by decide)).trans ((inc_ne (by decide)).trans h1)))
  have g3 := (D3.1 3 (by decide)).trans (congrArg nI ((inc_ne (by decide)).trans ((inc_ne (by decide)).trans h3)))
  have e4 : inc (inc c 2) 4 4 = 1 := inc_at.trans (congrArg (· + 1) ((inc_ne (by decide)).trans h4))
  have g4 := (D3.1 4 (by decide)).trans (congrArg nI e4)
  unfold Qc finS
  dsimp only
  rw [if_neg (by rw [g0]; exact nI_ne0 (by omega) (by omega))]
  exact ⟨rfl, g0, g1, g3, g4⟩
theorem D_cfg {pf : Nat → Nat} {g buf : Nat → Int32} (H : TB (fun i => (cfgT pf).getD i 0) (cfgT pf).length g buf) {N : Nat} (hN : 700 < N) (dr : T_SE) (rdr : T_RD) : ∃ dr' rdr', F_R_read N (nI (cfgT pf).length, g) dr rdr = some (-1, dr', rdr') ∧ Qc pf dr' := by
  obtain ⟨d1, d2, d3, d4, d5, d6, d7, d8, d9, d10, d11, d12, d13, d14⟩ := dr
  obtain ⟨e1, e2, e3, e4⟩ := rdr
  obtain ⟨cs', nm', th', bo', c1, c2, c3, c4⟩ := C_clear (N := N) (by omega) d4 d5 d6 d7
  have t1 := b_tiers (pf := pf)
  have t2 := b_cats (pf := pf)
  have t3 := b_memb (pf := pf)
  have t4 := b_life (pf := pf)
  have t5 := b_win (pf := pf)
  have t6 := b_grace (pf := pf)
  have D0 : DD (fun _ => 0) [] cs' nm' := ⟨fun i hi => by rw [c2 i hi]; rfl, fun i hi => Or.inl (c3 i hi)⟩
  have hA : At (cfgT pf) 0 (tx 5 ++ (32 :: (dg (lifeN pf) ++ (59 :: (tx 6 ++ (32 :: (dg (winN pf) ++ (59 :: (tx 7 ++ (32 :: (dg (graceN pf) ++ (fl (tierR pf) 0 (tiersN pf) ++ (fl (catR pf) 0 (catsN pf) ++ (fl (memR pf) 0 (membN pf) ++ endT pf)))))))))))))) := ⟨Nat.zero_le _, cfg_eq pf⟩
  have F1 : Fol (endT pf) := Or.inr (Or.inr rfl)
  have F2 := fol_fl (f := memR pf) (fun k => ⟨_, rfl⟩) F1 (membN pf) 0
  have F3 := fol_fl (f := catR pf) (fun k => ⟨_, rfl⟩) F2 (catsN pf) 0
  have F4 := fol_fl (f := tierR pf) (fun k => ⟨_, rfl⟩) F3 (tiersN pf) 0
  obtain ⟨z1, z2⟩ := D_life H hA (Or.inr (Or.inr rfl)) t4.1 (by omega) (li := 365) (wi := 365) (gr := 0) (th := th') (bo := bo') (ra := d8) (ca := d9) (a1 := d10) (a2 := d11) (a3 := d12) (a4 := d13) (sh := d14) D0 hN (by decide)
  have D1 := DD_0 D0 5 (12 * 5 + 0)
  obtain ⟨y1, y2⟩ := D_window H (At_semi z2) (Or.inr (Or.inr rfl)) t5.1 (by omega) (li := nI (lifeN pf)) (wi := 365) (gr := 0) (th := th') (bo := bo') (ra := d8) (ca := d9) (a1 := d10) (a2 := d11) (a3 := d12) (a4 := d13) (sh := d14) D1 hN (by decide)
  have D2 := DD_0 D1 6 (12 * 6 + inc (fun _ => 0) 5 6)
  obtain ⟨x1, x2⟩ := D_grace H (At_semi y2) F4 (Nat.zero_le _) (by omega) (li := nI (lifeN pf)) (wi := nI (winN pf)) (gr := 0) (th := th') (bo := bo') (ra := d8) (ca := d9) (a1 := d10) (a2 := d11) (a3 := d12) (a4 := d13) (sh := d14) D2 hN (by decide)
  have D3 := DD_0 D2 7 (12 * 7 + inc (inc (fun _ => 0) 5) 6 7)
  have S : SS pf (inc (inc (inc (fun _ => 0) 5) 6) 7) [] _ _ th' := ⟨D3, fun u hu => absurd hu (by simp), fun hh => absurd hh (by decide), fun hh => absurd hh (by decide), by decide, by decide, by decide⟩
  have P3 : Pn (cfgT pf) g N (2 + membN pf + catsN pf + tiersN pf) 2 (0 + (tx 5).length + 1 + (dg (lifeN pf)).length + 1 + (tx 6).length + 1 + (dg (winN pf)).length + 1 + (tx 7).length + 1 + (dg (graceN pf)).length) (nI (lifeN pf), nI (winN pf), nI (graceN pf), (upd (upd (upd cs' 5 (nI (0 + 1))) 6 (nI (inc (fun _ => 0) 5 6 + 1))) 7 (nI (inc (inc (fun _ => 0) 5) 6 7 + 1))), (upd (upd (upd nm' (12 * 5 + 0) 0) (12 * 6 + inc (fun _ => 0) 5 6) 0) (12 * 7 + inc (inc (fun _ => 0) 5) 6 7) 0), th', bo', d8, d9, d10, d11, d12, d13, d14) (Qc pf) := by
    refine go_tier H hN F3 (tiersN pf) 0 2 _ _ _ _ _ _ th' bo' d8 d9 d10 d11 d12 d13 d14 _ [] S x2 (by omega) rfl (by omega) ?_
    intro q2 p2 k2 L2 cs2 nm2 th2 bo2 S2 A2 hx2 hc2 hi2
    refine go_cat H hN F2 (catsN pf) 0 q2 p2 _ _ _ cs2 nm2 th2 bo2 d8 d9 d10 d11 d12 d13 d14 k2 L2 S2 A2 hx2 (hi2 1 (by decide)) (by omega) ?_
    intro q3 p3 k3 L3 cs3 nm3 ra3 ca3 S3 A3 hx3 hc3 hi3
    refine go_mem H hN F1 (membN pf) 0 q3 p3 _ _ _ cs3 nm3 th2 bo2 ra3 ca3 d10 d11 d12 d13 d14 k3 L3 S3 A3 hx3 ((hi3 3 (by decide)).trans (hi2 3 (by decide))) (by omega) ?_
    intro q4 p4 k4 L4 cs4 nm4 S4 A4 hx4 hc4 hi4
    refine D_end H hN S4 A4 hx4 ?_ ?_ ?_ (by omega) ?_
    · rw [hi4 0 (by decide), hi3 0 (by decide), hc2, Nat.zero_add]
    · rw [hi4 1 (by decide), hc3, Nat.zero_add]
    · rw [hi4 2 (by decide), hi3 2 (by decide), hi2 2 (by decide)]; rfl
    · rw [hi4 4 (by decide), hi3 4 (by decide), hi2 4 (by decide)]; rfl
  have P2 := Pn_semi H hN y2 (x := 1) (by omega) x1 P3
  have P1 := Pn_semi H hN z2 (x := 0) (by omega) y1 P2
  obtain ⟨n, hn⟩ : ∃ n, N = n + 1 := ⟨N - 1, by omega⟩
  obtain ⟨b1, b2, b3, b4, se', w1, w2⟩ := P1 n (by omega) 0 e2 e3 _ _ _ _ _ _ _ _ _ _ _ _ _ _ _ _ z1
  rw [← hn, nI_0] at w1
  refine ⟨se', (b1, b2, b3, b4), ?_, w2⟩
  unfold F_R_read f_X8_read
  dsimp only
  rw [c1, Option.bind_some]
  dsimp only
  rw [w1]; rfl
