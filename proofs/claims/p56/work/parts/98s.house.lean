theorem dv_lt {bt : Nat → Nat} {s : Nat} : ∀ n, (∀ j, j < n → isDi bt (s + j) = true) → dvN bt s n < 10 ^ n
  | 0, _ => by show 0 < 1; omega
  | n + 1, h => by
    have ih := dv_lt n (fun j hj => h j (by omega))
    have hd := dig_ok (h n (by omega))
    rw [dvN, Nat.pow_succ]
    omega
/-- a number that is there: its bounds, as numbers -/
theorem numOK_bd {bt : Nat → Nat} {l s lo hi : Nat} (hs : s ≤ l) (hlo : lo < 2 ^ 31) (hhi : hi < 2 ^ 31) (h : numOK bt l s (nI lo) (nI hi)) : lo ≤ dvN bt s (spn (isDi bt) l s - s) ∧ dvN bt s (spn (isDi bt) l s - s) ≤ hi := by
  obtain ⟨⟨h1, h2, h3⟩, h4, h5⟩ := h
  obtain ⟨a, b, c, d⟩ := spn_spec (f := isDi bt) hs
  have h6 := dv_lt (bt := bt) (s := s) (spn (isDi bt) l s - s) (fun j hj => c (s + j) (by omega) (by omega))
  have h7 : 10 ^ (spn (isDi bt) l s - s) ≤ 10 ^ 7 := Nat.pow_le_pow_right (by decide) h3
  have h8 : dvN bt s (spn (isDi bt) l s - s) < 2 ^ 31 := by omega
  exact ⟨(nI_leI hlo h8).mp h4, (nI_leI h8 hhi).mp h5⟩
/-- the reference: a number into a cell -/
theorem M_reads {bt : Nat → Nat} {l : Nat} {g buf : Nat → Int32} (H : TB bt l g buf) {p i : Nat} (hp : p ≤ l) (hi71 : i < 71) (lo hi tk : Int32) (rdd : Nat → Int32) {N : Nat} (hN : 700 < N) : (numOK bt l (spn (isSp bt) l p) lo hi → f_X11_reads N (nI i) lo hi 71 600 (nI l) (nI p) tk (-1) rdd buf = some (nI (spn (isDi bt) l (spn (isSp bt) l p)), nI (spn (isSp bt) l p), -1, upd rdd i (nI (dvN bt (spn (isSp bt) l p) (spn (isDi bt) l (spn (isSp bt) l p) - spn (isSp bt) l p))))) ∧ (¬ numOK bt l (spn (isSp bt) l p) lo hi → ∃ q, f_X11_reads N (nI i) lo hi 71 600 (nI l) (nI p) tk (-1) rdd buf = some (q, nI (spn (isSp bt) l p), nI (spn (isSp bt) l p), rdd)) := by
  obtain ⟨m1, m2⟩ := M_number H hp lo hi tk hN
  obtain ⟨a1, a2, a3, a4⟩ := spn_spec (f := isSp bt) hp
  have hl := H.1
  have gi := grd (i := i) (n := 71) hi71 (by decide)
  unfold f_X11_reads
  constructor
  · intro h
    rw [m1 h, Option.bind_some]
    dsimp only
    rw [fine_yes, Option.bind_some, if_neg (show ¬ (1 : Int32) = 0 by decide), if_neg gi, nI_clamp (by omega), Option.bind_some]
  · intro h
    obtain ⟨y, q, e⟩ := m2 h
    rw [e, Option.bind_some]
    dsimp only
    rw [fine_no (by omega), Option.bind_some, if_pos rfl]
    exact ⟨q, rfl⟩
/-- the class: a number when an error stands -/
theorem C_num_err {q : Nat} (h : q < 2 ^ 31) (N : Nat) (lo hi ps st tk len : Int32) (g : Nat → Int32) : f_X8_readNumber N lo hi 600 ps st tk (nI q) len g = some (0, ps, st, tk, nI q) := by
  unfold f_X8_readNumber
  rw [if_neg (nI_neg1 h)]
