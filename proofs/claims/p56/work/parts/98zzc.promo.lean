/-! the law's text, read: the promo statement; from a statement to the next -/
theorem D_word {t : List Nat} {g buf : Nat → Int32} (H : TB (fun i => t.getD i 0) t.length g buf) {p : Nat} {w r : List Nat} (h : At t p (32 :: (w ++ r))) (hr : Fol r) (hw : Wd w) {N : Nat} (hN : 700 < N) : spn (isSp (fun i => t.getD i 0)) t.length p = p + 1 ∧ tkK (fun i => t.getD i 0) t.length (p + 1) = 256 ∧ tkE (fun i => t.getD i 0) t.length (p + 1) = p + 1 + w.length ∧ f_X3_nameCode N (nI (p + 1)) (nI (p + 1 + w.length)) 600 (nI t.length) g = some (nI (cw w)) ∧ At t (p + 1 + w.length) r := by
  obtain ⟨hw, h1, h3⟩ := hw
  have h32 : w ++ r = [] ∨ ¬ (w ++ r).getD 0 0 = 32 := by
    right
    rw [gD_app, if_pos (by omega)]
    have := hw _ (gD_mem (w := w) (i := 0) (by omega))
    omega
  obtain ⟨s1, s2⟩ := At_sp h h32
  obtain ⟨a, b, c, d⟩ := D_let s2 hr hw h1
  obtain ⟨e1, e2⟩ := D_tk H s2 hr hw h1
  have hl := At_len s2
  rw [List.length_append] at hl
  have hW : isW (fun i => t.getD i 0) (p + 1) w.length := ⟨h1, by omega, fun i hi => by
    show 97 ≤ t.getD (p + 1 + i) 0 ∧ t.getD (p + 1 + i) 0 ≤ 122
    rw [d i hi]; exact hw _ (gD_mem hi)⟩
  have hcod := (C_nameCode (bt := fun i => t.getD i 0) (s := p + 1) (len := w.length) (l := t.length) (g := g) H.1 (by omega) (fun i hi => ⟨(H.2 i hi).1, (H.2 i hi).2.1, (H.2 i hi).2.2.1⟩) (N := N) (by omega)).1 hW
  have hcw : lcode (wdN (fun i => t.getD i 0) (p + 1) w.length) = cw w := lcode_eq (fun j _ => by
    unfold wdN
    by_cases e : w.length ≤ j
    · rw [if_pos e, gD_out e]
    · rw [if_neg e]; exact d j (by omega))
  rw [hcw] at hcod
  exact ⟨s1, e1, e2, hcod, At_go s2⟩
theorem D_cat {t : List Nat} {g buf : Nat → Int32} (H : TB (fun i => t.getD i 0) t.length g buf) {p : Nat} {w r : List Nat} (h : At t p (32 :: (w ++ r))) (hr : Fol r) (hw : Wd w) {cs nm : Nat → Int32} {n i0 : Nat} (hc : cs 1 = nI n) (hn : n ≤ 12) (hi0 : i0 < n) (hnm : nm (12 * 1 + i0) = nI (cw w)) {N : Nat} (hN : 700 < N) : (∃ i, i < n ∧ f_X8_readCategoryName N 600 8 96 (nI p) (-1) (nI t.length) g cs nm = some (nI i, nI (p + 1 + w.length), nI (p + 1), 256, -1)) ∧ At t (p + 1 + w.length) r := by
  obtain ⟨s1, e1, e2, hcod, k5⟩ := D_word H h hr hw hN
  have hbd := cw_bd hw.1 hw.2.1 (by have := hw.2.2; omega)
  obtain ⟨ρ, r1, r2⟩ := C_numberOf (t := 1) (n := n) (c := nI (cw w)) (cs := cs) (nm := nm) (by decide) hn hc (N := N) (by omega)
  refine ⟨?_, k5⟩
  rcases r2 with r2 | r2
  · exact absurd ⟨fun hh => by have := (nI_eqz (n := cw w) (by omega)).mp hh; omega, hnm⟩ (r2.2 i0 hi0)
  · obtain ⟨i, i1, i2, -, -⟩ := r2
    refine ⟨i, i1, ?_⟩
    unfold f_X8_readCategoryName
    rw [C_readToken H h.1 hN, Option.bind_some, s1, e1, e2]
    dsimp only
    rw [if_pos rfl, hcod, Option.bind_some, show f_X7_numberOf N (1 : Int32) (nI (cw w)) 8 96 cs nm = some ρ from r1, Option.bind_some, i2]
    unfold f_X8_readCategoryName_b41
    rw [if_neg (nI_neg1 (by omega))]
theorem D_promo {t : List Nat} {g buf : Nat → Int32} (H : TB (fun i => t.getD i 0) t.length g buf) {p x y z : Nat} {w r : List Nat} (h : At t p (tx 2 ++ (32 :: (w ++ (32 :: (dg x ++ (32 :: (dg y ++ (32 :: (dg z ++ r)))))))))) (hr : Fol r) (hy : y ≤ 9999) (hxy : x ≤ y) (hz1 : 1 ≤ z) (hz : z ≤ 500) {li wi gr : Int32} {cs nm th bo ra ca a1 a2 a3 a4 sh : Nat → Int32} {c : Nat → Nat} {L : List (List Nat)} (D : DD c L cs nm) {N : Nat} (hN : 700 < N) (hw : Wd w) {i0 : Nat} (hn : c 1 ≤ 12) (hi0 : i0 < c 1) (hnm : nm (12 * 1 + i0) = nI (cw w)) (hc : c 2 < 8) : (∃ i, f_X8_readStatement N 600 8 96 5 5 8 8 8 8 8 8 4 (nI p) (-1) (nI t.length) g li wi gr cs nm th bo ra ca a1 a2 a3 a4 sh = some (nI (p + (tx 2).length + 1 + w.length + 1 + (dg x).length + 1 + (dg y).length + 1 + (dg z).length), nI (p + (tx 2).length + 1 + w.length + 1 + (dg x).length + 1 + (dg y).length + 1), 257, -1, li, wi, gr, upd cs 2 (nI (c 2 + 1)), upd nm (12 * 2 + c 2) 0, th, bo, ra, ca, upd a1 (c 2) (nI i), upd a2 (c 2) (nI x), upd a3 (c 2) (nI y), upd a4 (c 2) (nI z), sh)) ∧ At t (p + (tx 2).length + 1 + w.length + 1 + (dg x).length + 1 + (dg y).length + 1 + (dg z).length) r := by
  obtain ⟨k1, k2, k3, k4, k5⟩ := D_kw H (k := 2) (by decide) h (Or.inr (Or.inl rfl)) (N := N) (by omega)
  rw [k3, k4] at k2
  have hcs := D.1 2 (by decide)
  have hmo : f_X8_mostOf (2 : Int32) = some (nI 8) := by decide +kernel
  obtain ⟨⟨i, i1, m1⟩, m2⟩ := D_cat H k5 (Or.inr (Or.inl rfl)) hw (D.1 1 (by decide)) hn hi0 hnm hN
  obtain ⟨n1, n2⟩ := D_num H (lo := 0) (hi := 9999) m2 (Or.inr (Or.inl rfl)) (by omega) (Nat.zero_le _) (by omega) (by decide) (nI (p + (tx 2).length + 1)) 256 hN
  obtain ⟨u1, u2⟩ := D_num H (lo := x) (hi := 9999) n2 (Or.inr (Or.inl rfl)) (by omega) hxy hy (by decide) (nI (p + (tx 2).length + 1 + w.length + 1)) 257 hN
  obtain ⟨o1, o2⟩ := D_num H (lo := 1) (hi := 500) u2 hr (by omega) hz1 hz (by decide) (nI (p + (tx 2).length + 1 + w.length + 1 + (dg x).length + 1)) 257 hN
  refine ⟨⟨i, ?_⟩, o2⟩
  unfold f_X8_readStatement
  rw [C_readToken H h.1 hN, Option.bind_some, k1, k3, k4]
  dsimp only
  rw [k2, Option.bind_some, if_neg (show ¬ nI 2 = (-1 : Int32) by decide), cntX (i := 2) (by decide), Option.bind_some, show nI 2 = (2 : Int32) from rfl, hmo, Option.bind_some, hcs, if_pos ((nI_ltI (by omega) (by decide)).mpr hc), if_neg (show ¬ (2 : Int32) = 0 by decide), if_neg (show ¬ (2 : Int32) = 1 by decide), if_pos (show (2 : Int32) = 2 from rfl)]
  unfold f_X8_readPromo
  rw [m1, Option.bind_some]
  dsimp only
  rw [show f_X8_readNumber N (0 : Int32) (9999 : Int32) 600 (nI (p + (tx 2).length + 1 + w.length)) (nI (p + (tx 2).length + 1)) 256 (-1) (nI t.length) g = _ from n1, Option.bind_some]
  dsimp only
  rw [show f_X8_readNumber N (nI x) (9999 : Int32) 600 (nI (p + (tx 2).length + 1 + w.length + 1 + (dg x).length)) (nI (p + (tx 2).length + 1 + w.length + 1)) 257 (-1) (nI t.length) g = _ from u1, Option.bind_some]
  dsimp only
  rw [show f_X8_readNumber N (1 : Int32) (500 : Int32) 600 (nI (p + (tx 2).length + 1 + w.length + 1 + (dg x).length + 1 + (dg y).length)) (nI (p + (tx 2).length + 1 + w.length + 1 + (dg x).length + 1)) 257 (-1) (nI t.length) g = _ from o1, Option.bind_some]
  dsimp only
  unfold f_X7_addPromo
  rw [if_pos rfl, show f_X7_define (2 : Int32) 0 8 96 cs nm = _ from X7_def (k := 2) (by decide) (by omega) hcs _, Option.bind_some]
  dsimp only
  rw [X6_put_in _ _ (by decide) hc, Option.bind_some, X6_put_in _ _ (by decide) hc, Option.bind_some, X6_put_in _ _ (by decide) hc, Option.bind_some, X6_put_in _ _ (by decide) hc]; rfl
/-- from a statement to the next -/
theorem D_semi {t : List Nat} {g buf : Nat → Int32} (H : TB (fun i => t.getD i 0) t.length g buf) {N : Nat} (hN : 700 < N) {p p' x : Nat} {r : List Nat} {li wi gr : Int32} {cs nm th bo ra ca a1 a2 a3 a4 sh : Nat → Int32} {sc tc : Int32} {se : T_SE} (hs : f_X8_readStatement N 600 8 96 5 5 8 8 8 8 8 8 4 (nI p) (-1) (nI t.length) g li wi gr cs nm th bo ra ca a1 a2 a3 a4 sh = some (nI p', sc, tc, -1, se)) (h : At t p' (59 :: r)) (hx : x ≤ t.length) (st tk : Int32) (n : Nat) : f_X8_read_b19 N 600 8 96 5 5 8 8 8 8 8 8 4 (nI t.length) g (n + 1) (nI x) (nI p) st tk (-1) li wi gr cs nm th bo ra ca a1 a2 a3 a4 sh = f_X8_read_b19 N 600 8 96 5 5 8 8 8 8 8 8 4 (nI t.length) g n (nI (x + 1)) (nI (p' + 1)) (nI p') (nI 59) (-1) se.1 se.2.1 se.2.2.1 se.2.2.2.1 se.2.2.2.2.1 se.2.2.2.2.2.1 se.2.2.2.2.2.2.1 se.2.2.2.2.2.2.2.1 se.2.2.2.2.2.2.2.2.1 se.2.2.2.2.2.2.2.2.2.1 se.2.2.2.2.2.2.2.2.2.2.1 se.2.2.2.2.2.2.2.2.2.2.2.1 se.2.2.2.2.2.2.2.2.2.2.2.2.1 se.2.2.2.2.2.2.2.2.2.2.2.2.2 ∧ At t (p' + 1) r := by
  have hl := H.1
  have hp := At_len h
  rw [List.length_cons] at hp
  have h' : At t p' ([59] ++ r) := h
  have hb : t.getD p' 0 = 59 := by have := At_gD h 0; rw [Nat.add_zero] at this; exact this
  have s1 : spn (isSp (fun i => t.getD i 0)) t.length p' = p' := D_nosp h (by show ¬ (59 : Nat) = 32; decide)
  have q1 : isLe (fun i => t.getD i 0) p' = false := by unfold isLe; rw [show (fun i => t.getD i 0) p' = 59 from hb]; rfl
  have q2 : isDi (fun i => t.getD i 0) p' = false := by unfold isDi; rw [show (fun i => t.getD i 0) p' = 59 from hb]; rfl
  have e1 : tkK (fun i => t.getD i 0) t.length p' = nI 59 := by unfold tkK; rw [if_neg (by omega), if_neg (by rw [q1]; decide), if_neg (by rw [q2]; decide), show (fun i => t.getD i 0) p' = 59 from hb]
  have e2 : tkE (fun i => t.getD i 0) t.length p' = p' + 1 := by unfold tkE; rw [if_neg (by omega), if_neg (by rw [q1]; decide), if_neg (by rw [q2]; decide)]
  refine ⟨?_, At_go h'⟩
  rw [f_X8_read_b19]
  unfold f_X3_length
  rw [Option.bind_some, if_neg (fun hh => by have := (nI_ltI (by omega) (by omega)).mp hh; omega), hs, Option.bind_some]
  dsimp only
  rw [if_pos rfl, C_readToken H h.1 hN, Option.bind_some, s1, e1, e2]
  dsimp only
  rw [if_neg (show ¬ nI 59 = (258 : Int32) by decide), if_pos (show nI 59 = (59 : Int32) from rfl), nI_1, Option.bind_some]
theorem D_stop {t : List Nat} {g buf : Nat → Int32} (H : TB (fun i => t.getD i 0) t.length g buf) {N : Nat} (hN : 700 < N) {p p' x : Nat} {li wi gr : Int32} {cs nm th bo ra ca a1 a2 a3 a4 sh : Nat → Int32} {sc tc : Int32} {se : T_SE} (hs : f_X8_readStatement N 600 8 96 5 5 8 8 8 8 8 8 4 (nI p) (-1) (nI t.length) g li wi gr cs nm th bo ra ca a1 a2 a3 a4 sh = some (nI p', sc, tc, -1, se)) (h : At t p' []) (hx : x ≤ t.length) (st tk : Int32) (n : Nat) : ∃ b1 b2 b3 b4, f_X8_read_b19 N 600 8 96 5 5 8 8 8 8 8 8 4 (nI t.length) g (n + 1) (nI x) (nI p) st tk (-1) li wi gr cs nm th bo ra ca a1 a2 a3 a4 sh = some (-1, b1, b2, b3, b4, finS se) := by
  have hl := H.1
  have hp := At_len h
  have hp : t.length = p' := hp
  have s1 : spn (isSp (fun i => t.getD i 0)) t.length p' = p' := spn_ge (by omega)
  have e1 : tkK (fun i => t.getD i 0) t.length p' = 258 := by unfold tkK; rw [if_pos (by omega)]
  rw [f_X8_read_b19]
  unfold f_X3_length
  rw [Option.bind_some, if_neg (fun hh => by have := (nI_ltI (by omega) (by omega)).mp hh; omega), hs, Option.bind_some]
  dsimp only
  rw [if_pos rfl, C_readToken H h.1 hN, Option.bind_some, s1, e1]
  dsimp only
  rw [if_pos rfl, C_finish, Option.bind_some]
  exact ⟨_, _, _, _, rfl⟩
