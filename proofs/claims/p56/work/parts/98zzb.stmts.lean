/-! the law's text, read: statements -/
theorem X7_def {k n : Nat} (hk : k < 8) (hn : n < 12) {cs nm : Nat → Int32} (h : cs k = nI n) (x : Int32) : f_X7_define (nI k) x 8 96 cs nm = some (nI n, upd cs k (nI (n + 1)), upd nm (12 * k + n) x) := by
  unfold f_X7_define
  have e : nI k * (12 : Int32) = nI (12 * k) := by rw [show (12 : Int32) = nI 12 from rfl, nI_mul, Nat.mul_comm]
  rw [X6_at_in _ (by decide) hk, Option.bind_some, h, e, nI_add, X6_put_in _ _ (by decide) (by omega), Option.bind_some, nI_1, X6_put_in _ _ (by decide) hk, Option.bind_some]
/-- the draft: the counts, the names so far -/
def DD (c : Nat → Nat) (L : List (List Nat)) (cs nm : Nat → Int32) : Prop := (∀ i, i < 8 → cs i = nI (c i)) ∧ ∀ i, i < 96 → nm i = 0 ∨ ∃ w, w ∈ L ∧ nm i = nI (cw w)
def inc (c : Nat → Nat) (k : Nat) : Nat → Nat := fun i => if i = k then c k + 1 else c i
theorem DD_0 {c : Nat → Nat} {L : List (List Nat)} {cs nm : Nat → Int32} (H : DD c L cs nm) (k j : Nat) : DD (inc c k) L (upd cs k (nI (c k + 1))) (upd nm j 0) := by
  refine ⟨fun i hi => ?_, fun i hi => ?_⟩
  · unfold inc
    by_cases e : i = k
    · rw [if_pos e, e, upd_at]
    · rw [if_neg e, upd_ne _ _ e]; exact H.1 i hi
  · by_cases e : i = j
    · rw [e, upd_at]; exact Or.inl rfl
    · rw [upd_ne _ _ e]; exact H.2 i hi
theorem DD_1 {c : Nat → Nat} {L : List (List Nat)} {cs nm : Nat → Int32} (H : DD c L cs nm) (k j : Nat) (w : List Nat) : DD (inc c k) (w :: L) (upd cs k (nI (c k + 1))) (upd nm j (nI (cw w))) := by
  refine ⟨fun i hi => ?_, fun i hi => ?_⟩
  · unfold inc
    by_cases e : i = k
    · rw [if_pos e, e, upd_at]
    · rw [if_neg e, upd_ne _ _ e]; exact H.1 i hi
  · by_cases e : i = j
    · rw [e, upd_at]; exact Or.inr ⟨w, List.mem_cons_self, rfl⟩
    · rw [upd_ne _ _ e]
      rcases H.2 i hi with h | ⟨w', h1, h2⟩
      · exact Or.inl h
      · exact Or.inr ⟨w', List.mem_cons_of_mem _ h1, h2⟩
/-- a short word of letters -/
def Wd (w : List Nat) : Prop := (∀ c ∈ w, 97 ≤ c ∧ c ≤ 122) ∧ 1 ≤ w.length ∧ w.length ≤ 3
theorem DD_new {c : Nat → Nat} {L : List (List Nat)} {cs nm : Nat → Int32} (H : DD c L cs nm) {w : List Nat} (hw : Wd w) (hL : ∀ u, u ∈ L → Wd u) (hn : ∀ u, u ∈ L → ∃ i, i < 6 ∧ ¬ w.getD i 0 = u.getD i 0) : ∀ i, i < 96 → ¬ nm i = nI (cw w) := by
  intro i hi hh
  have b := cw_bd hw.1 hw.2.1 (by have := hw.2.2; omega)
  rcases H.2 i hi with h | ⟨u, h1, h2⟩
  · rw [h] at hh
    have := (nI_eqz (n := cw w) (by omega)).mp hh.symm
    omega
  · obtain ⟨j, j1, j2⟩ := hn u h1
    have hu := hL u h1
    have b' := cw_bd hu.1 hu.2.1 (by have := hu.2.2; omega)
    rw [h2] at hh
    exact cw_ne hw.1 hw.2.1 (by have := hw.2.2; omega) hu.1 hu.2.1 (by have := hu.2.2; omega) j1 j2 ((nI_eq (by omega) (by omega)).mp hh).symm
theorem D_life {t : List Nat} {g buf : Nat → Int32} (H : TB (fun i => t.getD i 0) t.length g buf) {p x : Nat} {r : List Nat} (h : At t p (tx 5 ++ (32 :: (dg x ++ r)))) (hr : Fol r) (h1 : 1 ≤ x) (h2 : x ≤ 1000) {li wi gr : Int32} {cs nm th bo ra ca a1 a2 a3 a4 sh : Nat → Int32} {c : Nat → Nat} {L : List (List Nat)} (D : DD c L cs nm) {N : Nat} (hN : 700 < N) (hc : c 5 < 1) : f_X8_readStatement N 600 8 96 5 5 8 8 8 8 8 8 4 (nI p) (-1) (nI t.length) g li wi gr cs nm th bo ra ca a1 a2 a3 a4 sh = some (nI (p + (tx 5).length + 1 + (dg x).length), nI (p + (tx 5).length + 1), 257, -1, (nI x), wi, gr, upd cs 5 (nI (c 5 + 1)), upd nm (12 * 5 + c 5) 0, th, bo, ra, ca, a1, a2, a3, a4, sh) ∧ At t (p + (tx 5).length + 1 + (dg x).length) r := by
  obtain ⟨k1, k2, k3, k4, k5⟩ := D_kw H (k := 5) (by decide) h (Or.inr (Or.inl rfl)) (N := N) (by omega)
  rw [k3, k4] at k2
  have hcs := D.1 5 (by decide)
  have hmo : f_X8_mostOf (5 : Int32) = some (nI 1) := by decide +kernel
  obtain ⟨n1, n2⟩ := D_num H (lo := 1) (hi := 1000) k5 hr (by omega) h1 h2 (by decide) (nI p) 256 hN
  refine ⟨?_, n2⟩
  unfold f_X8_readStatement
  rw [C_readToken H h.1 hN, Option.bind_some, k1, k3, k4]
  dsimp only
  rw [k2, Option.bind_some, if_neg (show ¬ nI 5 = (-1 : Int32) by decide), cntX (i := 5) (by decide), Option.bind_some, show nI 5 = (5 : Int32) from rfl, hmo, Option.bind_some, hcs, if_pos ((nI_ltI (by omega) (by decide)).mpr hc), if_neg (show ¬ (5 : Int32) = 0 by decide), if_neg (show ¬ (5 : Int32) = 1 by decide), if_neg (show ¬ (5 : Int32) = 2 by decide), if_neg (show ¬ (5 : Int32) = 3 by decide), if_neg (show ¬ (5 : Int32) = 4 by decide)]
  unfold f_X8_readPeriod
  rw [if_neg (show ¬ (5 : Int32) = 7 by decide), show f_X8_readNumber N (1 : Int32) (1000 : Int32) 600 (nI (p + (tx 5).length)) (nI p) 256 (-1) (nI t.length) g = _ from n1, Option.bind_some]
  dsimp only
  unfold f_X8_readPeriod_b25 f_X7_fixLife
  rw [if_pos rfl, if_pos rfl, show f_X7_define (5 : Int32) 0 8 96 cs nm = _ from X7_def (k := 5) (by decide) (by omega) hcs 0]; rfl
theorem D_window {t : List Nat} {g buf : Nat → Int32} (H : TB (fun i => t.getD i 0) t.length g buf) {p x : Nat} {r : List Nat} (h : At t p (tx 6 ++ (32 :: (dg x ++ r)))) (hr : Fol r) (h1 : 1 ≤ x) (h2 : x ≤ 1000) {li wi gr : Int32} {cs nm th bo ra ca a1 a2 a3 a4 sh : Nat → Int32} {c : Nat → Nat} {L : List (List Nat)} (D : DD c L cs nm) {N : Nat} (hN : 700 < N) (hc : c 6 < 1) : f_X8_readStatement N 600 8 96 5 5 8 8 8 8 8 8 4 (nI p) (-1) (nI t.length) g li wi gr cs nm th bo ra ca a1 a2 a3 a4 sh = some (nI (p + (tx 6).length + 1 + (dg x).length), nI (p + (tx 6).length + 1), 257, -1, li, (nI x), gr, upd cs 6 (nI (c 6 + 1)), upd nm (12 * 6 + c 6) 0, th, bo, ra, ca, a1, a2, a3, a4, sh) ∧ At t (p + (tx 6).length + 1 + (dg x).length) r := by
  obtain ⟨k1, k2, k3, k4, k5⟩ := D_kw H (k := 6) (by decide) h (Or.inr (Or.inl rfl)) (N := N) (by omega)
  rw [k3, k4] at k2
  have hcs := D.1 6 (by decide)
  have hmo : f_X8_mostOf (6 : Int32) = some (nI 1) := by decide +kernel
  obtain ⟨n1, n2⟩ := D_num H (lo := 1) (hi := 1000) k5 hr (by omega) h1 h2 (by decide) (nI p) 256 hN
  refine ⟨?_, n2⟩
  unfold f_X8_readStatement
  rw [C_readToken H h.1 hN, Option.bind_some, k1, k3, k4]
  dsimp only
  rw [k2, Option.bind_some, if_neg (show ¬ nI 6 = (-1 : Int32) by decide), cntX (i := 6) (by decide), Option.bind_some, show nI 6 = (6 : Int32) from rfl, hmo, Option.bind_some, hcs, if_pos ((nI_ltI (by omega) (by decide)).mpr hc), if_neg (show ¬ (6 : Int32) = 0 by decide), if_neg (show ¬ (6 : Int32) = 1 by decide), if_neg (show ¬ (6 : Int32) = 2 by decide), if_neg (show ¬ (6 : Int32) = 3 by decide), if_neg (show ¬ (6 : Int32) = 4 by decide)]
  unfold f_X8_readPeriod
  rw [if_neg (show ¬ (6 : Int32) = 7 by decide), show f_X8_readNumber N (1 : Int32) (1000 : Int32) 600 (nI (p + (tx 6).length)) (nI p) 256 (-1) (nI t.length) g = _ from n1, Option.bind_some]
  dsimp only
  unfold f_X8_readPeriod_b25 f_X7_fixWindow
  rw [if_pos rfl, if_neg (show ¬ (6 : Int32) = 5 by decide), if_pos rfl, show f_X7_define (6 : Int32) 0 8 96 cs nm = _ from X7_def (k := 6) (by decide) (by omega) hcs 0]; rfl
theorem D_grace {t : List Nat} {g buf : Nat → Int32} (H : TB (fun i => t.getD i 0) t.length g buf) {p x : Nat} {r : List Nat} (h : At t p (tx 7 ++ (32 :: (dg x ++ r)))) (hr : Fol r) (h1 : 0 ≤ x) (h2 : x ≤ 400) {li wi gr : Int32} {cs nm th bo ra ca a1 a2 a3 a4 sh : Nat → Int32} {c : Nat → Nat} {L : List (List Nat)} (D : DD c L cs nm) {N : Nat} (hN : 700 < N) (hc : c 7 < 1) : f_X8_readStatement N 600 8 96 5 5 8 8 8 8 8 8 4 (nI p) (-1) (nI t.length) g li wi gr cs nm th bo ra ca a1 a2 a3 a4 sh = some (nI (p + (tx 7).length + 1 + (dg x).length), nI (p + (tx 7).length + 1), 257, -1, li, wi, (nI x), upd cs 7 (nI (c 7 + 1)), upd nm (12 * 7 + c 7) 0, th, bo, ra, ca, a1, a2, a3, a4, sh) ∧ At t (p + (tx 7).length + 1 + (dg x).length) r := by
  obtain ⟨k1, k2, k3, k4, k5⟩ := D_kw H (k := 7) (by decide) h (Or.inr (Or.inl rfl)) (N := N) (by omega)
  rw [k3, k4] at k2
  have hcs := D.1 7 (by decide)
  have hmo : f_X8_mostOf (7 : Int32) = some (nI 1) := by decide +kernel
  obtain ⟨n1, n2⟩ := D_num H (lo := 0) (hi := 400) k5 hr (by omega) h1 h2 (by decide) (nI p) 256 hN
  refine ⟨?_, n2⟩
  unfold f_X8_readStatement
  rw [C_readToken H h.1 hN, Option.bind_some, k1, k3, k4]
  dsimp only
  rw [k2, Option.bind_some, if_neg (show ¬ nI 7 = (-1 : Int32) by decide), cntX (i := 7) (by decide), Option.bind_some, show nI 7 = (7 : Int32) from rfl, hmo, Option.bind_some, hcs, if_pos ((nI_ltI (by omega) (by decide)).mpr hc), if_neg (show ¬ (7 : Int32) = 0 by decide), if_neg (show ¬ (7 : Int32) = 1 by decide), if_neg (show ¬ (7 : Int32) = 2 by decide), if_neg (show ¬ (7 : Int32) = 3 by decide), if_neg (show ¬ (7 : Int32) = 4 by decide)]
  unfold f_X8_readPeriod
  rw [if_pos rfl, show f_X8_readNumber N (0 : Int32) (400 : Int32) 600 (nI (p + (tx 7).length)) (nI p) 256 (-1) (nI t.length) g = _ from n1, Option.bind_some]
  dsimp only
  unfold f_X8_readPeriod_b25 f_X7_fixGrace
  rw [if_pos rfl, if_neg (show ¬ (7 : Int32) = 5 by decide), if_neg (show ¬ (7 : Int32) = 6 by decide), show f_X7_define (7 : Int32) 0 8 96 cs nm = _ from X7_def (k := 7) (by decide) (by omega) hcs 0]; rfl
theorem D_member {t : List Nat} {g buf : Nat → Int32} (H : TB (fun i => t.getD i 0) t.length g buf) {p : Nat} {w r : List Nat} (h : At t p (tx 3 ++ (32 :: (w ++ r)))) (hr : Fol r) {li wi gr : Int32} {cs nm th bo ra ca a1 a2 a3 a4 sh : Nat → Int32} {c : Nat → Nat} {L : List (List Nat)} (D : DD c L cs nm) {N : Nat} (hN : 700 < N) (hw : Wd w) (hL : ∀ u, u ∈ L → Wd u) (hn : ∀ u, u ∈ L → ∃ i, i < 6 ∧ ¬ w.getD i 0 = u.getD i 0) (hc : c 3 < 12) : f_X8_readStatement N 600 8 96 5 5 8 8 8 8 8 8 4 (nI p) (-1) (nI t.length) g li wi gr cs nm th bo ra ca a1 a2 a3 a4 sh = some (nI (p + (tx 3).length + 1 + w.length), nI (p + (tx 3).length + 1), 256, -1, li, wi, gr, upd cs 3 (nI (c 3 + 1)), upd nm (12 * 3 + c 3) (nI (cw w)), th, bo, ra, ca, a1, a2, a3, a4, sh) ∧ At t (p + (tx 3).length + 1 + w.length) r := by
  obtain ⟨k1, k2, k3, k4, k5⟩ := D_kw H (k := 3) (by decide) h (Or.inr (Or.inl rfl)) (N := N) (by omega)
  rw [k3, k4] at k2
  have hcs := D.1 3 (by decide)
  have hmo : f_X8_mostOf (3 : Int32) = some (nI 12) := by decide +kernel
  obtain ⟨m1, m2⟩ := D_name H k5 hr hw.1 hw.2.1 hw.2.2 (DD_new D hw hL hn) hN
  refine ⟨?_, m2⟩
  unfold f_X8_readStatement
  rw [C_readToken H h.1 hN, Option.bind_some, k1, k3, k4]
  dsimp only
  rw [k2, Option.bind_some, if_neg (show ¬ nI 3 = (-1 : Int32) by decide), cntX (i := 3) (by decide), Option.bind_some, show nI 3 = (3 : Int32) from rfl, hmo, Option.bind_some, hcs, if_pos ((nI_ltI (by omega) (by decide)).mpr hc), if_neg (show ¬ (3 : Int32) = 0 by decide), if_neg (show ¬ (3 : Int32) = 1 by decide), if_neg (show ¬ (3 : Int32) = 2 by decide), if_pos (show (3 : Int32) = 3 from rfl)]
  unfold f_X8_readMember
  rw [m1, Option.bind_some]
  dsimp only
  unfold f_X7_addMember
  rw [if_pos rfl, show f_X7_define (3 : Int32) (nI (cw w)) 8 96 cs nm = _ from X7_def (k := 3) (by decide) hc hcs _]; rfl
theorem D_house {t : List Nat} {g buf : Nat → Int32} (H : TB (fun i => t.getD i 0) t.length g buf) {p x : Nat} {w r : List Nat} (h : At t p (tx 4 ++ (32 :: (w ++ (32 :: (dg x ++ r)))))) (hr : Fol r) (hx : x ≤ 100) {li wi gr : Int32} {cs nm th bo ra ca a1 a2 a3 a4 sh : Nat → Int32} {c : Nat → Nat} {L : List (List Nat)} (D : DD c L cs nm) {N : Nat} (hN : 700 < N) (hw : Wd w) (hL : ∀ u, u ∈ L → Wd u) (hn : ∀ u, u ∈ L → ∃ i, i < 6 ∧ ¬ w.getD i 0 = u.getD i 0) (hc : c 4 < 4) : f_X8_readStatement N 600 8 96 5 5 8 8 8 8 8 8 4 (nI p) (-1) (nI t.length) g li wi gr cs nm th bo ra ca a1 a2 a3 a4 sh = some (nI (p + (tx 4).length + 1 + w.length + 1 + (dg x).length), nI (p + (tx 4).length + 1 + w.length + 1), 257, -1, li, wi, gr, upd cs 4 (nI (c 4 + 1)), upd nm (12 * 4 + c 4) (nI (cw w)), th, bo, ra, ca, a1, a2, a3, a4, upd sh (c 4) (nI x)) ∧ At t (p + (tx 4).length + 1 + w.length + 1 + (dg x).length) r := by
  obtain ⟨k1, k2, k3, k4, k5⟩ := D_kw H (k := 4) (by decide) h (Or.inr (Or.inl rfl)) (N := N) (by omega)
  rw [k3, k4] at k2
  have hcs := D.1 4 (by decide)
  have hmo : f_X8_mostOf (4 : Int32) = some (nI 4) := by decide +kernel
  obtain ⟨m1, m2⟩ := D_name H k5 (Or.inr (Or.inl rfl)) hw.1 hw.2.1 hw.2.2 (DD_new D hw hL hn) hN
  obtain ⟨n1, n2⟩ := D_num H (lo := 0) (hi := 100) m2 hr (by omega) (Nat.zero_le _) hx (by decide) (nI (p + (tx 4).length + 1)) 256 hN
  refine ⟨?_, n2⟩
  unfold f_X8_readStatement
  rw [C_readToken H h.1 hN, Option.bind_some, k1, k3, k4]
  dsimp only
  rw [k2, Option.bind_some, if_neg (show ¬ nI 4 = (-1 : Int32) by decide), cntX (i := 4) (by decide), Option.bind_some, show nI 4 = (4 : Int32) from rfl, hmo, Option.bind_some, hcs, if_pos ((nI_ltI (by omega) (by decide)).mpr hc), if_neg (show ¬ (4 : Int32) = 0 by decide), if_neg (show ¬ (4 : Int32) = 1 by decide), if_neg (show ¬ (4 : Int32) = 2 by decide), if_neg (show ¬ (4 : Int32) = 3 by decide), if_pos (show (4 : Int32) = 4 from rfl)]
  unfold f_X8_readHouse
  rw [m1, Option.bind_some]
  dsimp only
  rw [show f_X8_readNumber N (0 : Int32) (100 : Int32) 600 (nI (p + (tx 4).length + 1 + w.length)) (nI (p + (tx 4).length + 1)) 256 (-1) (nI t.length) g = _ from n1, Option.bind_some]
  dsimp only
  unfold f_X7_addHouse
  rw [if_pos rfl, show f_X7_define (4 : Int32) (nI (cw w)) 8 96 cs nm = _ from X7_def (k := 4) (by decide) (by omega) hcs _, Option.bind_some]
  dsimp only
  rw [X6_put_in _ _ (by decide) hc]; rfl
theorem D_category {t : List Nat} {g buf : Nat → Int32} (H : TB (fun i => t.getD i 0) t.length g buf) {p x y : Nat} {w r : List Nat} (h : At t p (tx 1 ++ (32 :: (w ++ (32 :: (dg x ++ (32 :: (dg y ++ r)))))))) (hr : Fol r) (hx : x ≤ 50) (hy : y ≤ 9999) {li wi gr : Int32} {cs nm th bo ra ca a1 a2 a3 a4 sh : Nat → Int32} {c : Nat → Nat} {L : List (List Nat)} (D : DD c L cs nm) {N : Nat} (hN : 700 < N) (hw : Wd w) (hL : ∀ u, u ∈ L → Wd u) (hn : ∀ u, u ∈ L → ∃ i, i < 6 ∧ ¬ w.getD i 0 = u.getD i 0) (hc : c 1 < 8) : f_X8_readStatement N 600 8 96 5 5 8 8 8 8 8 8 4 (nI p) (-1) (nI t.length) g li wi gr cs nm th bo ra ca a1 a2 a3 a4 sh = some (nI (p + (tx 1).length + 1 + w.length + 1 + (dg x).length + 1 + (dg y).length), nI (p + (tx 1).length + 1 + w.length + 1 + (dg x).length + 1), 257, -1, li, wi, gr, upd cs 1 (nI (c 1 + 1)), upd nm (12 * 1 + c 1) (nI (cw w)), th, bo, upd ra (c 1) (nI x), upd ca (c 1) (nI y), a1, a2, a3, a4, sh) ∧ At t (p + (tx 1).length + 1 + w.length + 1 + (dg x).length + 1 + (dg y).length) r := by
  obtain ⟨k1, k2, k3, k4, k5⟩ := D_kw H (k := 1) (by decide) h (Or.inr (Or.inl rfl)) (N := N) (by omega)
  rw [k3, k4] at k2
  have hcs := D.1 1 (by decide)
  have hmo : f_X8_mostOf (1 : Int32) = some (nI 8) := by decide +kernel
  obtain ⟨m1, m2⟩ := D_name H k5 (Or.inr (Or.inl rfl)) hw.1 hw.2.1 hw.2.2 (DD_new D hw hL hn) hN
  obtain ⟨n1, n2⟩ := D_num H (lo := 0) (hi := 50) m2 (Or.inr (Or.inl rfl)) (by omega) (Nat.zero_le _) hx (by decide) (nI (p + (tx 1).length + 1)) 256 hN
  obtain ⟨u1, u2⟩ := D_num H (lo := 0) (hi := 100000) n2 hr (by omega) (Nat.zero_le _) (by omega) (by decide) (nI (p + (tx 1).length + 1 + w.length + 1)) 257 hN
  refine ⟨?_, u2⟩
  unfold f_X8_readStatement
  rw [C_readToken H h.1 hN, Option.bind_some, k1, k3, k4]
  dsimp only
  rw [k2, Option.bind_some, if_neg (show ¬ nI 1 = (-1 : Int32) by decide), cntX (i := 1) (by decide), Option.bind_some, show nI 1 = (1 : Int32) from rfl, hmo, Option.bind_some, hcs, if_pos ((nI_ltI (by omega) (by decide)).mpr hc), if_neg (show ¬ (1 : Int32) = 0 by decide), if_pos (show (1 : Int32) = 1 from rfl)]
  unfold f_X8_readCategory
  rw [m1, Option.bind_some]
  dsimp only
  rw [show f_X8_readNumber N (0 : Int32) (50 : Int32) 600 (nI (p + (tx 1).length + 1 + w.length)) (nI (p + (tx 1).length + 1)) 256 (-1) (nI t.length) g = _ from n1, Option.bind_some]
  dsimp only
  rw [show f_X8_readNumber N (0 : Int32) (100000 : Int32) 600 (nI (p + (tx 1).length + 1 + w.length + 1 + (dg x).length)) (nI (p + (tx 1).length + 1 + w.length + 1)) 257 (-1) (nI t.length) g = _ from u1, Option.bind_some]
  dsimp only
  unfold f_X7_addCategory
  rw [if_pos rfl, show f_X7_define (1 : Int32) (nI (cw w)) 8 96 cs nm = _ from X7_def (k := 1) (by decide) (by omega) hcs _, Option.bind_some]
  dsimp only
  rw [X6_put_in _ _ (by decide) hc, Option.bind_some, X6_put_in _ _ (by decide) hc]; rfl
theorem D_tier0 {t : List Nat} {g buf : Nat → Int32} (H : TB (fun i => t.getD i 0) t.length g buf) {p y : Nat} {w r : List Nat} (h : At t p (tx 0 ++ (32 :: (w ++ (32 :: (dg 0 ++ (32 :: (dg y ++ r)))))))) (hr : Fol r) (hy : y ≤ 300) {li wi gr : Int32} {cs nm th bo ra ca a1 a2 a3 a4 sh : Nat → Int32} {c : Nat → Nat} {L : List (List Nat)} (D : DD c L cs nm) {N : Nat} (hN : 700 < N) (hw : Wd w) (hL : ∀ u, u ∈ L → Wd u) (hn : ∀ u, u ∈ L → ∃ i, i < 6 ∧ ¬ w.getD i 0 = u.getD i 0) (hc0 : c 0 = 0) (hc : c 0 < 5) : f_X8_readStatement N 600 8 96 5 5 8 8 8 8 8 8 4 (nI p) (-1) (nI t.length) g li wi gr cs nm th bo ra ca a1 a2 a3 a4 sh = some (nI (p + (tx 0).length + 1 + w.length + 1 + (dg 0).length + 1 + (dg y).length), nI (p + (tx 0).length + 1 + w.length + 1 + (dg 0).length + 1), 257, -1, li, wi, gr, upd cs 0 (nI (c 0 + 1)), upd nm (12 * 0 + c 0) (nI (cw w)), upd th (c 0) (nI 0), upd bo (c 0) (nI y), ra, ca, a1, a2, a3, a4, sh) ∧ At t (p + (tx 0).length + 1 + w.length + 1 + (dg 0).length + 1 + (dg y).length) r := by
  obtain ⟨k1, k2, k3, k4, k5⟩ := D_kw H (k := 0) (by decide) h (Or.inr (Or.inl rfl)) (N := N) (by omega)
  rw [k3, k4] at k2
  have hcs := D.1 0 (by decide)
  have hmo : f_X8_mostOf (0 : Int32) = some (nI 5) := by decide +kernel
  obtain ⟨m1, m2⟩ := D_name H k5 (Or.inr (Or.inl rfl)) hw.1 hw.2.1 hw.2.2 (DD_new D hw hL hn) hN
  obtain ⟨n1, n2⟩ := D_num H (lo := 0) (hi := 0) m2 (Or.inr (Or.inl rfl)) (by omega) (by omega) (by omega) (by decide) (nI (p + (tx 0).length + 1)) 256 hN
  obtain ⟨u1, u2⟩ := D_num H (lo := 0) (hi := 300) n2 hr (by omega) (Nat.zero_le _) hy (by decide) (nI (p + (tx 0).length + 1 + w.length + 1)) 257 hN
  refine ⟨?_, u2⟩
  unfold f_X8_readStatement
  rw [C_readToken H h.1 hN, Option.bind_some, k1, k3, k4]
  dsimp only
  rw [k2, Option.bind_some, if_neg (show ¬ nI 0 = (-1 : Int32) by decide), cntX (i := 0) (by decide), Option.bind_some, show nI 0 = (0 : Int32) from rfl, hmo, Option.bind_some, hcs, if_pos ((nI_ltI (by omega) (by decide)).mpr hc), if_pos (show (0 : Int32) = 0 from rfl)]
  unfold f_X8_readTier
  rw [show f_X7_count (0 : Int32) 8 cs = some (cs 0) from cntX (i := 0) (by decide) cs, Option.bind_some, m1, Option.bind_some, hcs, if_pos (show nI (c 0) = 0 by rw [hc0]; rfl)]
  dsimp only
  rw [show f_X8_readNumber N (0 : Int32) (0 : Int32) 600 (nI (p + (tx 0).length + 1 + w.length)) (nI (p + (tx 0).length + 1)) 256 (-1) (nI t.length) g = _ from n1, Option.bind_some]
  dsimp only
  unfold f_X8_readTier_b45
  rw [show f_X8_readNumber N (0 : Int32) (300 : Int32) 600 (nI (p + (tx 0).length + 1 + w.length + 1 + (dg 0).length)) (nI (p + (tx 0).length + 1 + w.length + 1)) 257 (-1) (nI t.length) g = _ from u1, Option.bind_some]
  dsimp only
  unfold f_X7_addTier
  rw [if_pos rfl, show f_X7_define (0 : Int32) (nI (cw w)) 8 96 cs nm = _ from X7_def (k := 0) (by decide) (by omega) hcs _, Option.bind_some]
  dsimp only
  rw [X6_put_in _ _ (by decide) hc, Option.bind_some, X6_put_in _ _ (by decide) hc]; rfl
theorem D_tierS {t : List Nat} {g buf : Nat → Int32} (H : TB (fun i => t.getD i 0) t.length g buf) {p x y : Nat} {w r : List Nat} (h : At t p (tx 0 ++ (32 :: (w ++ (32 :: (dg x ++ (32 :: (dg y ++ r)))))))) (hr : Fol r) (hy : y ≤ 300) {li wi gr : Int32} {cs nm th bo ra ca a1 a2 a3 a4 sh : Nat → Int32} {c : Nat → Nat} {L : List (List Nat)} (D : DD c L cs nm) {N : Nat} (hN : 700 < N) (hw : Wd w) (hL : ∀ u, u ∈ L → Wd u) (hn : ∀ u, u ∈ L → ∃ i, i < 6 ∧ ¬ w.getD i 0 = u.getD i 0) {n T : Nat} (hc0 : c 0 = n + 1) (hT : th n = nI T) (hTx : T < x) (hx : x ≤ 9999) (hc : c 0 < 5) : f_X8_readStatement N 600 8 96 5 5 8 8 8 8 8 8 4 (nI p) (-1) (nI t.length) g li wi gr cs nm th bo ra ca a1 a2 a3 a4 sh = some (nI (p + (tx 0).length + 1 + w.length + 1 + (dg x).length + 1 + (dg y).length), nI (p + (tx 0).length + 1 + w.length + 1 + (dg x).length + 1), 257, -1, li, wi, gr, upd cs 0 (nI (c 0 + 1)), upd nm (12 * 0 + c 0) (nI (cw w)), upd th (c 0) (nI x), upd bo (c 0) (nI y), ra, ca, a1, a2, a3, a4, sh) ∧ At t (p + (tx 0).length + 1 + w.length + 1 + (dg x).length + 1 + (dg y).length) r := by
  obtain ⟨k1, k2, k3, k4, k5⟩ := D_kw H (k := 0) (by decide) h (Or.inr (Or.inl rfl)) (N := N) (by omega)
  rw [k3, k4] at k2
  have hcs := D.1 0 (by decide)
  have hmo : f_X8_mostOf (0 : Int32) = some (nI 5) := by decide +kernel
  obtain ⟨m1, m2⟩ := D_name H k5 (Or.inr (Or.inl rfl)) hw.1 hw.2.1 hw.2.2 (DD_new D hw hL hn) hN
  obtain ⟨n1, n2⟩ := D_num H (lo := T + 1) (hi := 1000000) m2 (Or.inr (Or.inl rfl)) (by omega) (by omega) (by omega) (by decide) (nI (p + (tx 0).length + 1)) 256 hN
  obtain ⟨u1, u2⟩ := D_num H (lo := 0) (hi := 300) n2 hr (by omega) (Nat.zero_le _) hy (by decide) (nI (p + (tx 0).length + 1 + w.length + 1)) 257 hN
  refine ⟨?_, u2⟩
  unfold f_X8_readStatement
  rw [C_readToken H h.1 hN, Option.bind_some, k1, k3, k4]
  dsimp only
  rw [k2, Option.bind_some, if_neg (show ¬ nI 0 = (-1 : Int32) by decide), cntX (i := 0) (by decide), Option.bind_some, show nI 0 = (0 : Int32) from rfl, hmo, Option.bind_some, hcs, if_pos ((nI_ltI (by omega) (by decide)).mpr hc), if_pos (show (0 : Int32) = 0 from rfl)]
  unfold f_X8_readTier
  rw [show f_X7_count (0 : Int32) 8 cs = some (cs 0) from cntX (i := 0) (by decide) cs, Option.bind_some, m1, Option.bind_some, hcs, if_neg (nI_ne0 (n := c 0) (by omega) (by omega))]
  have e1 : nI (c 0) - (1 : Int32) = nI n := by rw [show (1 : Int32) = nI 1 from rfl, nI_subI (by omega), hc0]; rfl
  have e2 : f_X7_thresholdOf (nI n) 5 th = some (nI T) := by unfold f_X7_thresholdOf; rw [X6_at_in _ (by decide) (by omega), hT]; rfl
  rw [e1, e2, Option.bind_some, nI_1]
  dsimp only
  rw [show f_X8_readNumber N (nI (T + 1)) (1000000 : Int32) 600 (nI (p + (tx 0).length + 1 + w.length)) (nI (p + (tx 0).length + 1)) 256 (-1) (nI t.length) g = _ from n1, Option.bind_some]
  dsimp only
  unfold f_X8_readTier_b45
  rw [show f_X8_readNumber N (0 : Int32) (300 : Int32) 600 (nI (p + (tx 0).length + 1 + w.length + 1 + (dg x).length)) (nI (p + (tx 0).length + 1 + w.length + 1)) 257 (-1) (nI t.length) g = _ from u1, Option.bind_some]
  dsimp only
  unfold f_X7_addTier
  rw [if_pos rfl, show f_X7_define (0 : Int32) (nI (cw w)) 8 96 cs nm = _ from X7_def (k := 0) (by decide) (by omega) hcs _, Option.bind_some]
  dsimp only
  rw [X6_put_in _ _ (by decide) hc, Option.bind_some, X6_put_in _ _ (by decide) hc]; rfl
