/-! the law's text, read: statements -/
theorem X7_def {k n : Nat} (hk : k < 8) (hn : n < 12) {cs nm : Nat → Int32} (h : cs k = nI n) (x : Int32) : f_X7_define (nI k) x 8 96 cs nm = some (nI n, upd cs k (nI (n + 1)), upd nm (12 * k + n) x) := by
  unfold f_X7_define
  have e : nI k * (12 : Int32) = nI (12 * k) := by rw [show (12 : Int32) = nI 12 from rfl, nI_mul, Nat.mul_comm]
  rw [X6_at_in _ (by decide) hk, Option.bind_some, h, e, nI_add, X6_put_in _ _ (by decide) (by omega), Option.bind_some, nI_1, X6_put_in _ _ (by decide) hk, Option.bind_some]
/-- the draft: the counts, the names so far -/
def DD (c : Nat → Nat) (L : List (List Nat)) (cs nm : Nat → Int32) : Prop := (∀ i, i < 8 → cs i = nI (c i)) ∧ ∀ i, i < 96 → nm i = 0 ∨ ∃ w, w ∈ L ∧ nm i = nI (cw w)
def inc (c : Nat → Nat) (k : Nat) : Nat → Nat := fun i => if i = k then c k + 1 else c i
theorem DD_0 {c : Nat → Nat} {L : List (List Nat)} {cs nm : Nat → Int32} (H : DD c L cs nm) (k j : Nat) : DD (inc c k) L (upd cs k (nI (c k + 1))) (upd nm j 0) := by
  refine ⟨fun i hi => ?_, fun i hi => ?_⟩
  · unfold inc
    by_cases e : i = k
    · rw [if_pos e, e, upd_at]
    · rw [if_neg e, upd_ne _ _ e]; exact H.1 i hi
  · by_cases e : i = j
    · rw [e, upd_at]; exact Or.inl rfl
    · rw [upd_ne _ _ e]; exact H.2 i hi
theorem DD_1 {c : Nat → Nat} {L : List (List Nat)} {cs nm : Nat → Int32} (H : DD c L cs nm) (k j : Nat) (w : List Nat) : DD (inc c k) (w :: L) (upd cs k (nI (c k + 1))) (upd nm j (nI (cw w))) := by
  refine ⟨fun i hi => ?_, fun i hi => ?_⟩
  · unfold inc
    by_cases e : i = k
    · rw [if_pos e, e, upd_at]
    · rw [if_neg e, upd_ne _ _ e]; exact H.1 i hi
  · by_cases e : i = j
    · rw [e, upd_at]; exact Or.inr ⟨w, List.mem_cons_self, rfl⟩
    · rw [upd_ne _ _ e]
      rcases H.2 i hi with h | ⟨w', h1, h2⟩
      · exact Or.inl h
      · exact Or.inr ⟨w', List.mem_cons_of_mem _ h1, h2⟩
/-- a short word of letters -/
def Wd (w : List Nat) : Prop := (∀ c ∈ w, 97 ≤ c ∧ c ≤ 122) ∧ 1 ≤ w.length ∧ w.length ≤ 3
theorem DD_new {c : Nat → Nat} {L : List (List Nat)} {cs nm : Nat → Int32} (H : DD c L cs nm) {w : List Nat} (hw : Wd w) (hL : ∀ u, u ∈ L → Wd u) (hn : ∀ u, u ∈ L → ∃ i, i < 6 ∧ ¬ w.getD i 0 = u.getD i 0) : ∀ i, i < 96 → ¬ nm i = nI (cw w) := by
  intro i hi hh
  have b := cw_bd hw.1 hw.2.1 (by have := hw.2.2; omega)
  rcases H.2 i hi with h | ⟨u, h1, h2⟩
  · rw [h] at hh
    have := (nI_eqz (n := cw w) (by omega)).mp hh.symm
    omega
  · obtain ⟨j, j1, j2⟩ := hn u h1
    have hu := hL u h1
    have b' := cw_bd hu.1 hu.2.1 (by have := hu.2.2; omega)
    rw [h2] at hh
    exact cw_ne hw.1 hw.2.1 (by have := hw.2.2; omega) hu.1 hu.2.1 (by have := hu.2.2; omega) j1 j2 ((nI_eq (by omega) (by omega)).mp hh).symm
theorem D_life {t : List Nat} {g buf : Nat → Int32} (H : TB (fun i => t.getD i 0) t.length g buf) {p x : Nat} {r : List Nat} (h : At t p (tx 5 ++ (32 :: (dg x ++ r)))) (hr : Fol r) (h1 : 1 ≤ x) (h2 : x ≤ 1000) {li wi gr : Int32} {cs nm th bo ra ca a1 a2 a3 a4 sh : Nat → Int32} {c : Nat → Nat} {L : List (List Nat)} (D : DD c L cs nm) {N : Nat} (hN : 700 < N) (hc : c 5 < 1) : f_X8_readStatement N 600 8 96 5 5 8 8 8 8 8 8 4 (nI p) (-1) (nI t.length) g li wi gr cs nm th bo ra ca a1 a2 a3 a4 sh = some (nI (p + (tx 5).length + 1 + (dg x).length), nI (p + (tx 5).length + 1), 257, -1, (nI x), wi, gr, upd cs 5 (nI (c 5 + 1)), upd nm (12 * 5 + c 5) 0, th, bo, ra, ca, a1, a2, a3, a4, sh) ∧ At t (p + (tx 5).length + 1 + (dg x).length) r := by
  obtain ⟨k1, k2, k3, k4, k5⟩ := D_kw H (k := 5) (by decide) h (Or.inr (Or.inl rfl)) (N := N) (by omega)
  rw [k3, k4] at k2
  have hcs := D.1 5 (by decide)
  have hmo : f_X8_mostOf (5 : Int32) = some (nI 1) := by decide +kernel
  obtain ⟨n1, n2⟩ := D_num H (lo := 1) (hi := 1000) k5 hr (by omega) h1 h2 (by decide) (nI p) 256 hN
  refine ⟨?_, n2⟩
  unfold f_X8_readStatement
  rw [C_readToken H h.1 hN, Option.bind_some, k1, k3, k4]
  dsimp only
  rw [k2, Option.bind_some, if_neg (show ¬ nI 5 = (-1 : Int32) by decide), cntX (i := 5) (by decide), Option.bind_some, show nI 5 = (5 : Int32) from rfl, hmo, Option.bind_some, hcs, if_pos ((nI_ltI (by omega) (by decide)).mpr hc), if_neg (show ¬ (5 : Int32) = 0 by decide), if_neg (show ¬ (5 : Int32) = 1 by decide), if_neg (show ¬ (5 : Int32) = 2 by decide), if_neg (show ¬ (5 : Int32) = 3 by decide), if_neg (show ¬ (5 : Int32) = 4 by decide)]
  unfold f_X8_readPeriod
  rw [if_neg (show ¬ (5 : Int32) = 7 by decide), show f_X8_readNumber N (1 : Int32) (1000 : Int32) 600 (nI (p + (tx 5).length)) (nI p) 256 (-1) (nI t.length) g = _ from n1, Option.bind_some]
  dsimp only
  unfold f_X8_readPeriod_b25 f_X7_fixLife
  rw [if_pos rfl, if_pos rfl, show f_X7_define (5 : Int32) 0 8 96 cs nm = _ from X7_def (k := 5) (by decide) (by omega) hcs 0]; rfl
theorem D_window {t : List Nat} {g buf : Nat → Int32} (H : TB (fun i => t.getD i 0) t.length g buf) {p x : Nat} {r : List Nat} (h : At t p (tx 6 ++ (32 :: (dg x ++ r)))) (hr : Fol r) (h1 : 1 ≤ x) (h2 : x ≤ 1000) {li wi gr : Int32} {cs nm th bo ra ca a1 a2 a3 a4 sh : Nat → Int32} {c : Nat → Nat} {L : List (List Nat)} (D : DD c L cs nm) {N : Nat} (hN : 700 < N) (hc : c 6 < 1) : f_X8_readStatement N 600 8 96 5 5 8 8 8 8 8 8 4 (nI p) (-1) (nI t.length) g li wi gr cs nm th bo ra ca a1 a2 a3 a4 sh = some (nI (p + (tx 6).length + 1 + (dg x).length), nI (p + (tx 6).length + 1), 257, -1, li, (nI x), gr, upd cs 6 (nI (c 6 + 1)), upd nm (12 * 6 + c 6) 0, th, bo, ra, ca, a1, a2, a3, a4, sh) ∧ At t (p + (tx 6).length + 1 + (dg x).length) r := by
  obtain ⟨k1, k2, k3, k4, k5⟩ := D_kw H (k := 6) (by decide) h (Or.inr (Or.inl rfl)) (N := N) (by omega)
  rw [k3, k4] at k2
  have hcs := D.1 6 (by decide)
  have hmo : f_X8_mostOf (6 : Int32) = some (nI 1) := by decide +kernel
  obtain ⟨n1, n2⟩ := D_num H (lo := 1) (hi := 1000) k5 hr (by omega) h1 h2 (by decide) (nI p) 256 hN
  refine ⟨?_, n2⟩
  unfold f_X8_readStatement
  rw [C_readToken H h.1 hN, Option.bind_some, k1, k3, k4]
  dsimp only
  rw [k2, Option.bind_some, if_neg (show ¬ nI 6 = (-1 : Int32) by decide), cntX (i := 6) (by decide), Option.bind_some, show nI 6 = (6 : Int32) from rfl, hmo, Option.bind_some, hcs, if_pos ((nI_ltI (by omega) (by decide)).mpr hc), if_neg (show ¬ (6 : Int32) = 0 by decide), if_neg (show ¬ (6 : Int32) = 1 by decide), if_neg (show ¬ (6 : Int32) = 2 by decide), if_neg (show ¬ (6 : Int32) = 3 by decide), if_neg (show ¬ (6 : Int32) = 4 by decide)]
  unfold f_X8_readPeriod
  rw [if_neg (show ¬ (6 : Int32) = 7 by decide), show f_X8_readNumber N (1 : Int32) (1000 : Int32) 600 (nI (p + (tx 6).length)) (nI p) 256 (-1) (nI t.length) g = _ from n1, Option.bind_some]
  dsimp only
  unfold f_X8_readPeriod_b25 f_X7_fixWindow
  rw [if_pos rfl, if_neg (show ¬ (6 : Int32) = 5 by decide), if_pos rfl, show f_X7_define (6 : Int32) 0 8 96 cs nm = _ from X7_def (k := 6) (by decide) (by omega) hcs 0]; rfl
theorem D_grace {t : List Nat} {g buf : Nat → Int32} (H : TB (fun i => t.getD i 0) t.length g buf) {p x : Nat} {r : List Nat} (h : At t p (tx 7 ++ (32 :: (dg x ++ r)))) (hr : Fol r) (h1 : 0 ≤ x) (h2 : x ≤ 400) {li wi gr : Int32} {cs nm th bo ra ca a1 a2 a3 a4 sh : Nat → Int32} {c : Nat → Nat} {L : List (List Nat)} (D : DD c L cs nm) {N : Nat} (hN : 700 < N) (hc : c 7 < 1) : f_X8_readStatement N 600 8 96 5 5 8 8 8 8 8 8 4 (nI p) (-1) (nI t.length) g li wi gr cs nm th bo ra ca a1 a2 a3 a4 sh = some (nI (p + (tx 7).length + 1 + (dg x).length), nI (p + (tx 7).length + 1), 257, -1, li, wi, (nI x), upd cs 7 (nI (c 7 + 1)), upd nm (12 * 7 + c 7) 0, th, bo, ra, ca, a1, a2, a3, a4, sh) ∧ At t (p + (tx 7).length + 1 + (dg x).length) r := by
  obtain ⟨k1, k2, k3, k4, k5⟩ := D_kw H (k := 7) (by decide) h (Or.inr (Or.inl rfl)) (N := N) (by omega)
  rw [k3, k4] at k2
  have hcs := D.1 7 (by decide)
  have hmo : f_X8_mostOf (7 : Int32) = some (nI 1) := by decide +kernel
  obtain ⟨n1, n2⟩ := D_num H (lo := 0) (hi := 400) k5 hr (by omega) h1 h2 (by decide) (nI p) 256 hN
  refine ⟨?_, n2⟩
  unfold f_X8_readStatement
  rw [C_readToken H h.1 hN, Option.bind_some, k1, k3, k4]
  dsimp only
  rw [k2, Option.bind_some, if_neg (show ¬ nI 7 = (-1 : Int32) by decide), cntX (i := 7) (by decide), Option.bind_some, show nI 7 = (7 : Int32) from rfl, hmo, Option.bind_some, hcs, if_pos ((nI_ltI (by omega) (by decide)).mpr hc), if_neg (show ¬ (7 : Int32) = 0 by decide), if_neg (show ¬ (7 : Int32) = 1 by decide), if_neg (show ¬ (7 : Int32) = 2 by decide), if_neg (show ¬ (7 : Int32) = 3 by decide), if_neg (show ¬ (7 : Int32) = 4 by decide)]
  unfold f_X8_readPeriod
  rw [if_pos rfl, show f_X8_readNumber N (0 : Int32) (400 : Int32) 600 (nI (p + (tx 7).length)) (nI p) 256 (-1) (nI t.length) g = _ from n1, Option.bind_some]
  dsimp only
  unfold f_X8_readPeriod_b25 f_X7_fixGrace
  rw [if_pos rfl, if_neg (show ¬ (7 : Int32) = 5 by decide), if_neg (show ¬ (7 : Int32) = 6 by decide), show f_X7_define (7 : Int32) 0 8 96 cs nm = _ from X7_def (k := 7) (by decide) (by omega) hcs 0]; rfl
