/-! the law's text, read: keywords and names -/
theorem kw_first : ∀ k, k < 8 → ∀ k', k' < 8 → sl_ch k 0 = sl_ch k' 0 → k = k' := by decide +kernel
theorem kw_long : ∀ k, k < 8 → 4 ≤ sl_len k := by decide +kernel
theorem kw_low : ∀ k, k < 8 → ∀ c ∈ tx k, 97 ≤ c ∧ c ≤ 122 := by decide +kernel
theorem gD_mem {w : List Nat} {i : Nat} (h : i < w.length) : w.getD i 0 ∈ w := by
  rw [List.getD_eq_getElem?_getD, List.getElem?_eq_getElem h]
  exact List.getElem_mem h
/-- letters from a place on -/
theorem D_let {t : List Nat} {p : Nat} {w r : List Nat} (h : At t p (w ++ r)) (hr : Fol r) (hw : ∀ c ∈ w, 97 ≤ c ∧ c ≤ 122) (h1 : 1 ≤ w.length) : spn (isLe (fun i => t.getD i 0)) t.length p = p + w.length ∧ isLe (fun i => t.getD i 0) p = true ∧ p < t.length ∧ (∀ i, i < w.length → t.getD (p + i) 0 = w.getD i 0) := by
  have s3 : spn (isLe (fun i => t.getD i 0)) t.length p = p + w.length := At_word (q := fun c => decide (97 ≤ c ∧ c ≤ 122)) h (qLe t) (fun c hc => decide_eq_true (hw c hc)) (Fol_q (q := fun c => decide (97 ≤ c ∧ c ≤ 122)) hr (by decide) (by decide))
  have hl := At_len h
  rw [List.length_append] at hl
  obtain ⟨_, _, c, _⟩ := spn_spec (f := isLe (fun i => t.getD i 0)) (l := t.length) (p := p) (by omega)
  exact ⟨s3, c p (Nat.le_refl _) (by omega), by omega, fun i hi => by rw [At_gD h, gD_app, if_pos hi]⟩
theorem D_tk {t : List Nat} {g buf : Nat → Int32} (H : TB (fun i => t.getD i 0) t.length g buf) {p : Nat} {w r : List Nat} (h : At t p (w ++ r)) (hr : Fol r) (hw : ∀ c ∈ w, 97 ≤ c ∧ c ≤ 122) (h1 : 1 ≤ w.length) : tkK (fun i => t.getD i 0) t.length p = 256 ∧ tkE (fun i => t.getD i 0) t.length p = p + w.length := by
  obtain ⟨a, b, c, d⟩ := D_let h hr hw h1
  refine ⟨(tkK_256 c (H.2 p c).2.2.1).mpr b, ?_⟩
  unfold tkE
  rw [if_neg (by omega), if_pos b, a]
/-- no space here -/
theorem D_nosp {t : List Nat} {p : Nat} {u : List Nat} (h : At t p u) (hu : ¬ u.getD 0 0 = 32) : spn (isSp (fun i => t.getD i 0)) t.length p = p := by
  refine spn_no (decide_eq_false ?_)
  have := At_gD h 0
  rw [Nat.add_zero] at this
  show ¬ t.getD p 0 = 32
  rw [this]; exact hu
/-- the class: a keyword of the text -/
theorem D_kw {t : List Nat} {g buf : Nat → Int32} (H : TB (fun i => t.getD i 0) t.length g buf) {p k : Nat} {r : List Nat} (hk : k < 8) (h : At t p (tx k ++ r)) (hr : Fol r) {N : Nat} (hN : 100 < N) : spn (isSp (fun i => t.getD i 0)) t.length p = p ∧ f_X8_keyword N 600 (nI (tkE (fun i => t.getD i 0) t.length p)) (nI p) (tkK (fun i => t.getD i 0) t.length p) g = some (nI k) ∧ tkE (fun i => t.getD i 0) t.length p = p + (tx k).length ∧ tkK (fun i => t.getD i 0) t.length p = 256 ∧ At t (p + (tx k).length) r := by
  have hb := sl_bd k hk
  have hlen := tx_len k (by omega)
  have hw := kw_low k hk
  obtain ⟨a, b, c, d⟩ := D_let h hr hw (by omega)
  obtain ⟨e1, e2⟩ := D_tk H h hr hw (by omega)
  have hW : KW (fun i => t.getD i 0) t.length p k := by
    refine ⟨by rw [a]; omega, fun i hi => ?_⟩
    show nI (t.getD (p + i) 0) = _
    rw [d i (by omega), tx_ch]; rfl
  have h32 : ¬ (tx k ++ r).getD 0 0 = 32 := by
    rw [gD_app, if_pos (by omega)]
    have := hw _ (gD_mem (w := tx k) (i := 0) (by omega))
    omega
  obtain ⟨κ, k1, k2⟩ := C_keyword H (s := p) (by omega) hN
  refine ⟨D_nosp h h32, ?_, e2, e1, At_go h⟩
  rw [k1]
  rcases k2 with k2 | k2
  · exact absurd hW (k2.2 k hk)
  · obtain ⟨k', q1, q2, q3, q4⟩ := k2
    have hb' := sl_bd k' q1
    have e := (hW.2 0 (by omega)).symm.trans (q3.2 0 (by omega))
    rw [q2, kw_first k hk k' q1 e]
/-- a short word is no keyword -/
theorem D_nokw {t : List Nat} {p : Nat} {w r : List Nat} (h : At t p (w ++ r)) (hr : Fol r) (hw : ∀ c ∈ w, 97 ≤ c ∧ c ≤ 122) (h1 : 1 ≤ w.length) (h2 : w.length ≤ 3) : ∀ k, k < 8 → ¬ KW (fun i => t.getD i 0) t.length p k := by
  intro k hk hh
  obtain ⟨a, b, c, d⟩ := D_let h hr hw h1
  have := kw_long k hk
  have := hh.1
  omega
/-- a word's code -/
def cw (w : List Nat) : Nat := lcode (fun i => w.getD i 0)
theorem cw_wd {w : List Nat} (hw : ∀ c ∈ w, 97 ≤ c ∧ c ≤ 122) (h1 : 1 ≤ w.length) (h6 : w.length ≤ 6) : WdN (wdN (fun i => w.getD i 0) 0 w.length) := isW_wd ⟨h1, h6, fun i hi => by
  have := hw _ (gD_mem hi)
  show 97 ≤ w.getD (0 + i) 0 ∧ w.getD (0 + i) 0 ≤ 122
  rw [Nat.zero_add]; exact this⟩
theorem cw_eq {w : List Nat} : lcode (wdN (fun i => w.getD i 0) 0 w.length) = cw w := lcode_eq (fun j _ => by
  unfold wdN
  by_cases e : w.length ≤ j
  · rw [if_pos e, gD_out e]
  · rw [if_neg e, Nat.zero_add])
theorem cw_bd {w : List Nat} (hw : ∀ c ∈ w, 97 ≤ c ∧ c ≤ 122) (h1 : 1 ≤ w.length) (h6 : w.length ≤ 6) : 1 ≤ cw w ∧ cw w < 2 ^ 30 := by
  have := cw_wd hw h1 h6
  rw [← cw_eq]
  exact ⟨lcode_pos this, lcode_bd this⟩
theorem cw_ne {w w' : List Nat} (hw : ∀ c ∈ w, 97 ≤ c ∧ c ≤ 122) (h1 : 1 ≤ w.length) (h6 : w.length ≤ 6) (hw' : ∀ c ∈ w', 97 ≤ c ∧ c ≤ 122) (h1' : 1 ≤ w'.length) (h6' : w'.length ≤ 6) {i : Nat} (hi : i < 6) (h : ¬ w.getD i 0 = w'.getD i 0) : ¬ cw w = cw w' := by
  intro e
  rw [← cw_eq, ← cw_eq] at e
  have h2 := lcode_inj (cw_wd hw h1 h6) (cw_wd hw' h1' h6') e i hi
  unfold wdN at h2
  refine h ?_
  by_cases a : w.length ≤ i
  · rw [if_pos a] at h2
    rw [gD_out a]
    by_cases b : w'.length ≤ i
    · rw [gD_out b]
    · rw [if_neg b, Nat.zero_add] at h2; exact h2
  · rw [if_neg a, Nat.zero_add] at h2
    by_cases b : w'.length ≤ i
    · rw [if_pos b] at h2
      rw [gD_out b]; exact h2
    · rw [if_neg b] at h2; exact h2
/-- the class: a new name of the text -/
theorem D_name {t : List Nat} {g buf : Nat → Int32} (H : TB (fun i => t.getD i 0) t.length g buf) {p : Nat} {w r : List Nat} (h : At t p (32 :: (w ++ r))) (hr : Fol r) (hw : ∀ c ∈ w, 97 ≤ c ∧ c ≤ 122) (h1 : 1 ≤ w.length) (h3 : w.length ≤ 3) {nm : Nat → Int32} (hn : ∀ i, i < 96 → ¬ nm i = nI (cw w)) {N : Nat} (hN : 700 < N) : f_X8_readNewName N 600 96 (nI p) (-1) (nI t.length) g nm = some (nI (cw w), nI (p + 1 + w.length), nI (p + 1), 256, -1) ∧ At t (p + 1 + w.length) r := by
  have h32 : w ++ r = [] ∨ ¬ (w ++ r).getD 0 0 = 32 := by
    right
    rw [gD_app, if_pos (by omega)]
    have := hw _ (gD_mem (w := w) (i := 0) (by omega))
    omega
  obtain ⟨s1, s2⟩ := At_sp h h32
  obtain ⟨a, b, c, d⟩ := D_let s2 hr hw h1
  obtain ⟨e1, e2⟩ := D_tk H s2 hr hw h1
  have hl := At_len s2
  rw [List.length_append] at hl
  obtain ⟨κ, k1, k2⟩ := C_keyword H (s := p + 1) (by omega) (N := N) (by omega)
  have hk : κ = -1 := by
    rcases k2 with k2 | k2
    · exact k2.1
    · obtain ⟨k', q1, q2, q3, q4⟩ := k2
      exact absurd q3 (D_nokw s2 hr hw h1 h3 k' q1)
  subst hk
  have hW : isW (fun i => t.getD i 0) (p + 1) w.length := ⟨h1, by omega, fun i hi => by
    show 97 ≤ t.getD (p + 1 + i) 0 ∧ t.getD (p + 1 + i) 0 ≤ 122
    rw [d i hi]; exact hw _ (gD_mem hi)⟩
  have hcod := (C_nameCode (bt := fun i => t.getD i 0) (s := p + 1) (len := w.length) (l := t.length) (g := g) H.1 (by omega) (fun i hi => ⟨(H.2 i hi).1, (H.2 i hi).2.1, (H.2 i hi).2.2.1⟩) (N := N) (by omega)).1 hW
  have hcw : lcode (wdN (fun i => t.getD i 0) (p + 1) w.length) = cw w := lcode_eq (fun j _ => by
    unfold wdN
    by_cases e : w.length ≤ j
    · rw [if_pos e, gD_out e]
    · rw [if_neg e]; exact d j (by omega))
  rw [hcw] at hcod
  have hbd := cw_bd hw h1 (by omega)
  refine ⟨?_, At_go s2⟩
  rw [e1, e2] at k1
  unfold f_X8_readNewName
  rw [C_readToken H h.1 hN, Option.bind_some, s1, e1, e2]
  dsimp only
  rw [hcod, Option.bind_some, if_pos rfl, if_neg (fun hh => by have := (nI_eqz (by omega)).mp hh; omega), k1, Option.bind_some, if_pos rfl, (C_taken (c := nI (cw w)) (nm := nm) (N := N) (by omega)).2 (fun ⟨i, i1, i2⟩ => hn i i1 i2), Option.bind_some, if_pos rfl]
