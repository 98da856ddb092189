theorem M_stmt0 {bt : Nat → Nat} {l p : Nat} {g buf : Nat → Int32} (H : TB bt l g buf) (hp : p ≤ l) {rdd le so wh : Nat → Int32} {ht sn : Int32} {N : Nat} (hN : 700 < N)  (h0 : KW bt l (spn (isSp bt) l p) 0) : f_X11_readsStatement N 71 192 32 32 600 (nI l) (nI p) (-1) ht sn rdd le so wh buf = (f_X11_readsTier N 71 192 32 32 600 (nI l) (nI (spn (isLe bt) l (spn (isSp bt) l p))) (nI (spn (isSp bt) l p)) (-1) ht rdd le so wh buf).bind fun r => some (r.1, r.2.1, r.2.2.1, r.2.2.2.1, sn, r.2.2.2.2.1, r.2.2.2.2.2.1, r.2.2.2.2.2.2.1, r.2.2.2.2.2.2.2) := by
  obtain ⟨a1, a2, a3, a4⟩ := spn_spec (f := isSp bt) hp
  have hid : spn (isSp bt) l (spn (isSp bt) l p) = (spn (isSp bt) l p) := spn_idem hp
  have tk : ∀ k, k < 8 → ∀ t : Int32, (KW bt l (spn (isSp bt) l p) k → f_X11_takes N k 600 (nI l) (nI (spn (isSp bt) l p)) t (-1) buf = some (1, nI (spn (isLe bt) l (spn (isSp bt) l p)), nI (spn (isSp bt) l p))) ∧ (¬ KW bt l (spn (isSp bt) l p) k → f_X11_takes N k 600 (nI l) (nI (spn (isSp bt) l p)) t (-1) buf = some (0, nI (spn (isSp bt) l p), nI (spn (isSp bt) l p))) := by
    intro k hk t
    have h := M_takes H a2 hk t hN
    rw [hid] at h
    exact h
  unfold f_X11_readsStatement
  rw [M_look H hp hN, Option.bind_some]
  dsimp only
  rw [(tk 0 (by omega) _).1 h0, Option.bind_some, if_neg (show ¬ (1 : Int32) = 0 by decide)]
theorem M_stmt1 {bt : Nat → Nat} {l p : Nat} {g buf : Nat → Int32} (H : TB bt l g buf) (hp : p ≤ l) {rdd le so wh : Nat → Int32} {ht sn : Int32} {N : Nat} (hN : 700 < N) (h0 : ¬ KW bt l (spn (isSp bt) l p) 0) (h1 : KW bt l (spn (isSp bt) l p) 1) : f_X11_readsStatement N 71 192 32 32 600 (nI l) (nI p) (-1) ht sn rdd le so wh buf = (f_X11_readsCategory N 71 192 32 32 600 (nI l) (nI (spn (isLe bt) l (spn (isSp bt) l p))) (nI (spn (isSp bt) l p)) (-1) rdd le so wh buf).bind fun r => some (r.1, r.2.1, r.2.2.1, ht, sn, r.2.2.2.1, r.2.2.2.2.1, r.2.2.2.2.2.1, r.2.2.2.2.2.2) := by
  obtain ⟨a1, a2, a3, a4⟩ := spn_spec (f := isSp bt) hp
  have hid : spn (isSp bt) l (spn (isSp bt) l p) = (spn (isSp bt) l p) := spn_idem hp
  have tk : ∀ k, k < 8 → ∀ t : Int32, (KW bt l (spn (isSp bt) l p) k → f_X11_takes N k 600 (nI l) (nI (spn (isSp bt) l p)) t (-1) buf = some (1, nI (spn (isLe bt) l (spn (isSp bt) l p)), nI (spn (isSp bt) l p))) ∧ (¬ KW bt l (spn (isSp bt) l p) k → f_X11_takes N k 600 (nI l) (nI (spn (isSp bt) l p)) t (-1) buf = some (0, nI (spn (isSp bt) l p), nI (spn (isSp bt) l p))) := by
    intro k hk t
    have h := M_takes H a2 hk t hN
    rw [hid] at h
    exact h
  unfold f_X11_readsStatement
  rw [M_look H hp hN, Option.bind_some]
  dsimp only
  rw [(tk 0 (by omega) _).2 h0, Option.bind_some, if_pos rfl, (tk 1 (by omega) _).1 h1, Option.bind_some, if_neg (show ¬ (1 : Int32) = 0 by decide)]
theorem M_stmt2 {bt : Nat → Nat} {l p : Nat} {g buf : Nat → Int32} (H : TB bt l g buf) (hp : p ≤ l) {rdd le so wh : Nat → Int32} {ht sn : Int32} {N : Nat} (hN : 700 < N) (h0 : ¬ KW bt l (spn (isSp bt) l p) 0) (h1 : ¬ KW bt l (spn (isSp bt) l p) 1) (h2 : KW bt l (spn (isSp bt) l p) 2) : f_X11_readsStatement N 71 192 32 32 600 (nI l) (nI p) (-1) ht sn rdd le so wh buf = (f_X11_readsPromo N 71 192 32 32 600 (nI l) (nI (spn (isLe bt) l (spn (isSp bt) l p))) (nI (spn (isSp bt) l p)) (-1) rdd le so wh buf).bind fun r => some (r.1, r.2.1, r.2.2.1, ht, sn, r.2.2.2, le, so, wh) := by
  obtain ⟨a1, a2, a3, a4⟩ := spn_spec (f := isSp bt) hp
  have hid : spn (isSp bt) l (spn (isSp bt) l p) = (spn (isSp bt) l p) := spn_idem hp
  have tk : ∀ k, k < 8 → ∀ t : Int32, (KW bt l (spn (isSp bt) l p) k → f_X11_takes N k 600 (nI l) (nI (spn (isSp bt) l p)) t (-1) buf = some (1, nI (spn (isLe bt) l (spn (isSp bt) l p)), nI (spn (isSp bt) l p))) ∧ (¬ KW bt l (spn (isSp bt) l p) k → f_X11_takes N k 600 (nI l) (nI (spn (isSp bt) l p)) t (-1) buf = some (0, nI (spn (isSp bt) l p), nI (spn (isSp bt) l p))) := by
    intro k hk t
    have h := M_takes H a2 hk t hN
    rw [hid] at h
    exact h
  unfold f_X11_readsStatement
  rw [M_look H hp hN, Option.bind_some]
  dsimp only
  rw [(tk 0 (by omega) _).2 h0, Option.bind_some, if_pos rfl, (tk 1 (by omega) _).2 h1, Option.bind_some, if_pos rfl, (tk 2 (by omega) _).1 h2, Option.bind_some, if_neg (show ¬ (1 : Int32) = 0 by decide)]
theorem M_stmt3 {bt : Nat → Nat} {l p : Nat} {g buf : Nat → Int32} (H : TB bt l g buf) (hp : p ≤ l) {rdd le so wh : Nat → Int32} {ht sn : Int32} {N : Nat} (hN : 700 < N) (h0 : ¬ KW bt l (spn (isSp bt) l p) 0) (h1 : ¬ KW bt l (spn (isSp bt) l p) 1) (h2 : ¬ KW bt l (spn (isSp bt) l p) 2) (h3 : KW bt l (spn (isSp bt) l p) 3) : f_X11_readsStatement N 71 192 32 32 600 (nI l) (nI p) (-1) ht sn rdd le so wh buf = (f_X11_readsMember N 71 192 32 32 600 (nI l) (nI (spn (isLe bt) l (spn (isSp bt) l p))) (nI (spn (isSp bt) l p)) (-1) rdd le so wh buf).bind fun r => some (r.1, r.2.1, r.2.2.1, ht, sn, r.2.2.2.1, r.2.2.2.2.1, r.2.2.2.2.2.1, r.2.2.2.2.2.2) := by
  obtain ⟨a1, a2, a3, a4⟩ := spn_spec (f := isSp bt) hp
  have hid : spn (isSp bt) l (spn (isSp bt) l p) = (spn (isSp bt) l p) := spn_idem hp
  have tk : ∀ k, k < 8 → ∀ t : Int32, (KW bt l (spn (isSp bt) l p) k → f_X11_takes N k 600 (nI l) (nI (spn (isSp bt) l p)) t (-1) buf = some (1, nI (spn (isLe bt) l (spn (isSp bt) l p)), nI (spn (isSp bt) l p))) ∧ (¬ KW bt l (spn (isSp bt) l p) k → f_X11_takes N k 600 (nI l) (nI (spn (isSp bt) l p)) t (-1) buf = some (0, nI (spn (isSp bt) l p), nI (spn (isSp bt) l p))) := by
    intro k hk t
    have h := M_takes H a2 hk t hN
    rw [hid] at h
    exact h
  unfold f_X11_readsStatement
  rw [M_look H hp hN, Option.bind_some]
  dsimp only
  rw [(tk 0 (by omega) _).2 h0, Option.bind_some, if_pos rfl, (tk 1 (by omega) _).2 h1, Option.bind_some, if_pos rfl, (tk 2 (by omega) _).2 h2, Option.bind_some, if_pos rfl, (tk 3 (by omega) _).1 h3, Option.bind_some, if_neg (show ¬ (1 : Int32) = 0 by decide)]
theorem M_stmt4 {bt : Nat → Nat} {l p : Nat} {g buf : Nat → Int32} (H : TB bt l g buf) (hp : p ≤ l) {rdd le so wh : Nat → Int32} {ht sn : Int32} {N : Nat} (hN : 700 < N) (h0 : ¬ KW bt l (spn (isSp bt) l p) 0) (h1 : ¬ KW bt l (spn (isSp bt) l p) 1) (h2 : ¬ KW bt l (spn (isSp bt) l p) 2) (h3 : ¬ KW bt l (spn (isSp bt) l p) 3) (h4 : KW bt l (spn (isSp bt) l p) 4) : f_X11_readsStatement N 71 192 32 32 600 (nI l) (nI p) (-1) ht sn rdd le so wh buf = (f_X11_readsHouse N 71 192 32 32 600 (nI l) (nI (spn (isLe bt) l (spn (isSp bt) l p))) (nI (spn (isSp bt) l p)) (-1) rdd le so wh buf).bind fun r => some (r.1, r.2.1, r.2.2.1, ht, sn, r.2.2.2.1, r.2.2.2.2.1, r.2.2.2.2.2.1, r.2.2.2.2.2.2) := by
  obtain ⟨a1, a2, a3, a4⟩ := spn_spec (f := isSp bt) hp
  have hid : spn (isSp bt) l (spn (isSp bt) l p) = (spn (isSp bt) l p) := spn_idem hp
  have tk : ∀ k, k < 8 → ∀ t : Int32, (KW bt l (spn (isSp bt) l p) k → f_X11_takes N k 600 (nI l) (nI (spn (isSp bt) l p)) t (-1) buf = some (1, nI (spn (isLe bt) l (spn (isSp bt) l p)), nI (spn (isSp bt) l p))) ∧ (¬ KW bt l (spn (isSp bt) l p) k → f_X11_takes N k 600 (nI l) (nI (spn (isSp bt) l p)) t (-1) buf = some (0, nI (spn (isSp bt) l p), nI (spn (isSp bt) l p))) := by
    intro k hk t
    have h := M_takes H a2 hk t hN
    rw [hid] at h
    exact h
  unfold f_X11_readsStatement
  rw [M_look H hp hN, Option.bind_some]
  dsimp only
  rw [(tk 0 (by omega) _).2 h0, Option.bind_some, if_pos rfl, (tk 1 (by omega) _).2 h1, Option.bind_some, if_pos rfl, (tk 2 (by omega) _).2 h2, Option.bind_some, if_pos rfl, (tk 3 (by omega) _).2 h3, Option.bind_some, if_pos rfl, (tk 4 (by omega) _).1 h4, Option.bind_some, if_neg (show ¬ (1 : Int32) = 0 by decide)]
theorem M_stmt5 {bt : Nat → Nat} {l p : Nat} {g buf : Nat → Int32} (H : TB bt l g buf) (hp : p ≤ l) {rdd le so wh : Nat → Int32} {ht sn : Int32} {N : Nat} (hN : 700 < N) (h0 : ¬ KW bt l (spn (isSp bt) l p) 0) (h1 : ¬ KW bt l (spn (isSp bt) l p) 1) (h2 : ¬ KW bt l (spn (isSp bt) l p) 2) (h3 : ¬ KW bt l (spn (isSp bt) l p) 3) (h4 : ¬ KW bt l (spn (isSp bt) l p) 4) (h5 : KW bt l (spn (isSp bt) l p) 5) : f_X11_readsStatement N 71 192 32 32 600 (nI l) (nI p) (-1) ht sn rdd le so wh buf = (f_X11_readsOnce N 5 1 1000 71 600 (nI l) (nI (spn (isLe bt) l (spn (isSp bt) l p))) (nI (spn (isSp bt) l p)) (-1) sn rdd buf).bind fun r => some (r.1, r.2.1, r.2.2.1, ht, r.2.2.2.1, r.2.2.2.2, le, so, wh) := by
  obtain ⟨a1, a2, a3, a4⟩ := spn_spec (f := isSp bt) hp
  have hid : spn (isSp bt) l (spn (isSp bt) l p) = (spn (isSp bt) l p) := spn_idem hp
  have tk : ∀ k, k < 8 → ∀ t : Int32, (KW bt l (spn (isSp bt) l p) k → f_X11_takes N k 600 (nI l) (nI (spn (isSp bt) l p)) t (-1) buf = some (1, nI (spn (isLe bt) l (spn (isSp bt) l p)), nI (spn (isSp bt) l p))) ∧ (¬ KW bt l (spn (isSp bt) l p) k → f_X11_takes N k 600 (nI l) (nI (spn (isSp bt) l p)) t (-1) buf = some (0, nI (spn (isSp bt) l p), nI (spn (isSp bt) l p))) := by
    intro k hk t
    have h := M_takes H a2 hk t hN
    rw [hid] at h
    exact h
  unfold f_X11_readsStatement
  rw [M_look H hp hN, Option.bind_some]
  dsimp only
  rw [(tk 0 (by omega) _).2 h0, Option.bind_some, if_pos rfl, (tk 1 (by omega) _).2 h1, Option.bind_some, if_pos rfl, (tk 2 (by omega) _).2 h2, Option.bind_some, if_pos rfl, (tk 3 (by omega) _).2 h3, Option.bind_some, if_pos rfl, (tk 4 (by omega) _).2 h4, Option.bind_some, if_pos rfl, (tk 5 (by omega) _).1 h5, Option.bind_some, if_neg (show ¬ (1 : Int32) = 0 by decide)]
theorem M_stmt6 {bt : Nat → Nat} {l p : Nat} {g buf : Nat → Int32} (H : TB bt l g buf) (hp : p ≤ l) {rdd le so wh : Nat → Int32} {ht sn : Int32} {N : Nat} (hN : 700 < N) (h0 : ¬ KW bt l (spn (isSp bt) l p) 0) (h1 : ¬ KW bt l (spn (isSp bt) l p) 1) (h2 : ¬ KW bt l (spn (isSp bt) l p) 2) (h3 : ¬ KW bt l (spn (isSp bt) l p) 3) (h4 : ¬ KW bt l (spn (isSp bt) l p) 4) (h5 : ¬ KW bt l (spn (isSp bt) l p) 5) (h6 : KW bt l (spn (isSp bt) l p) 6) : f_X11_readsStatement N 71 192 32 32 600 (nI l) (nI p) (-1) ht sn rdd le so wh buf = (f_X11_readsOnce N 6 1 1000 71 600 (nI l) (nI (spn (isLe bt) l (spn (isSp bt) l p))) (nI (spn (isSp bt) l p)) (-1) sn rdd buf).bind fun r => some (r.1, r.2.1, r.2.2.1, ht, r.2.2.2.1, r.2.2.2.2, le, so, wh) := by
  obtain ⟨a1, a2, a3, a4⟩ := spn_spec (f := isSp bt) hp
  have hid : spn (isSp bt) l (spn (isSp bt) l p) = (spn (isSp bt) l p) := spn_idem hp
  have tk : ∀ k, k < 8 → ∀ t : Int32, (KW bt l (spn (isSp bt) l p) k → f_X11_takes N k 600 (nI l) (nI (spn (isSp bt) l p)) t (-1) buf = some (1, nI (spn (isLe bt) l (spn (isSp bt) l p)), nI (spn (isSp bt) l p))) ∧ (¬ KW bt l (spn (isSp bt) l p) k → f_X11_takes N k 600 (nI l) (nI (spn (isSp bt) l p)) t (-1) buf = some (0, nI (spn (isSp bt) l p), nI (spn (isSp bt) l p))) := by
    intro k hk t
    have h := M_takes H a2 hk t hN
    rw [hid] at h
    exact h
  unfold f_X11_readsStatement
  rw [M_look H hp hN, Option.bind_some]
  dsimp only
  rw [(tk 0 (by omega) _).2 h0, Option.bind_some, if_pos rfl, (tk 1 (by omega) _).2 h1, Option.bind_some, if_pos rfl, (tk 2 (by omega) _).2 h2, Option.bind_some, if_pos rfl, (tk 3 (by omega) _).2 h3, Option.bind_some, if_pos rfl, (tk 4 (by omega) _).2 h4, Option.bind_some, if_pos rfl, (tk 5 (by omega) _).2 h5, Option.bind_some, if_pos rfl, (tk 6 (by omega) _).1 h6, Option.bind_some, if_neg (show ¬ (1 : Int32) = 0 by decide)]
theorem M_stmt7 {bt : Nat → Nat} {l p : Nat} {g buf : Nat → Int32} (H : TB bt l g buf) (hp : p ≤ l) {rdd le so wh : Nat → Int32} {ht sn : Int32} {N : Nat} (hN : 700 < N) (h0 : ¬ KW bt l (spn (isSp bt) l p) 0) (h1 : ¬ KW bt l (spn (isSp bt) l p) 1) (h2 : ¬ KW bt l (spn (isSp bt) l p) 2) (h3 : ¬ KW bt l (spn (isSp bt) l p) 3) (h4 : ¬ KW bt l (spn (isSp bt) l p) 4) (h5 : ¬ KW bt l (spn (isSp bt) l p) 5) (h6 : ¬ KW bt l (spn (isSp bt) l p) 6) (h7 : KW bt l (spn (isSp bt) l p) 7) : f_X11_readsStatement N 71 192 32 32 600 (nI l) (nI p) (-1) ht sn rdd le so wh buf = (f_X11_readsOnce N 7 0 400 71 600 (nI l) (nI (spn (isLe bt) l (spn (isSp bt) l p))) (nI (spn (isSp bt) l p)) (-1) sn rdd buf).bind fun r => some (r.1, r.2.1, r.2.2.1, ht, r.2.2.2.1, r.2.2.2.2, le, so, wh) := by
  obtain ⟨a1, a2, a3, a4⟩ := spn_spec (f := isSp bt) hp
  have hid : spn (isSp bt) l (spn (isSp bt) l p) = (spn (isSp bt) l p) := spn_idem hp
  have tk : ∀ k, k < 8 → ∀ t : Int32, (KW bt l (spn (isSp bt) l p) k → f_X11_takes N k 600 (nI l) (nI (spn (isSp bt) l p)) t (-1) buf = some (1, nI (spn (isLe bt) l (spn (isSp bt) l p)), nI (spn (isSp bt) l p))) ∧ (¬ KW bt l (spn (isSp bt) l p) k → f_X11_takes N k 600 (nI l) (nI (spn (isSp bt) l p)) t (-1) buf = some (0, nI (spn (isSp bt) l p), nI (spn (isSp bt) l p))) := by
    intro k hk t
    have h := M_takes H a2 hk t hN
    rw [hid] at h
    exact h
  unfold f_X11_readsStatement
  rw [M_look H hp hN, Option.bind_some]
  dsimp only
  rw [(tk 0 (by omega) _).2 h0, Option.bind_some, if_pos rfl, (tk 1 (by omega) _).2 h1, Option.bind_some, if_pos rfl, (tk 2 (by omega) _).2 h2, Option.bind_some, if_pos rfl, (tk 3 (by omega) _).2 h3, Option.bind_some, if_pos rfl, (tk 4 (by omega) _).2 h4, Option.bind_some, if_pos rfl, (tk 5 (by omega) _).2 h5, Option.bind_some, if_pos rfl, (tk 6 (by omega) _).2 h6, Option.bind_some, if_pos rfl, (tk 7 (by omega) _).1 h7, Option.bind_some, if_neg (show ¬ (1 : Int32) = 0 by decide)]
theorem M_stmt8 {bt : Nat → Nat} {l p : Nat} {g buf : Nat → Int32} (H : TB bt l g buf) (hp : p ≤ l) {rdd le so wh : Nat → Int32} {ht sn : Int32} {N : Nat} (hN : 700 < N) (h0 : ¬ KW bt l (spn (isSp bt) l p) 0) (h1 : ¬ KW bt l (spn (isSp bt) l p) 1) (h2 : ¬ KW bt l (spn (isSp bt) l p) 2) (h3 : ¬ KW bt l (spn (isSp bt) l p) 3) (h4 : ¬ KW bt l (spn (isSp bt) l p) 4) (h5 : ¬ KW bt l (spn (isSp bt) l p) 5) (h6 : ¬ KW bt l (spn (isSp bt) l p) 6) (h7 : ¬ KW bt l (spn (isSp bt) l p) 7) : f_X11_readsStatement N 71 192 32 32 600 (nI l) (nI p) (-1) ht sn rdd le so wh buf = some (nI (spn (isSp bt) l p), nI (spn (isSp bt) l p), nI (spn (isSp bt) l p), ht, sn, rdd, le, so, wh) := by
  obtain ⟨a1, a2, a3, a4⟩ := spn_spec (f := isSp bt) hp
  have hid : spn (isSp bt) l (spn (isSp bt) l p) = (spn (isSp bt) l p) := spn_idem hp
  have tk : ∀ k, k < 8 → ∀ t : Int32, (KW bt l (spn (isSp bt) l p) k → f_X11_takes N k 600 (nI l) (nI (spn (isSp bt) l p)) t (-1) buf = some (1, nI (spn (isLe bt) l (spn (isSp bt) l p)), nI (spn (isSp bt) l p))) ∧ (¬ KW bt l (spn (isSp bt) l p) k → f_X11_takes N k 600 (nI l) (nI (spn (isSp bt) l p)) t (-1) buf = some (0, nI (spn (isSp bt) l p), nI (spn (isSp bt) l p))) := by
    intro k hk t
    have h := M_takes H a2 hk t hN
    rw [hid] at h
    exact h
  unfold f_X11_readsStatement
  rw [M_look H hp hN, Option.bind_some]
  dsimp only
  rw [(tk 0 (by omega) _).2 h0, Option.bind_some, if_pos rfl, (tk 1 (by omega) _).2 h1, Option.bind_some, if_pos rfl, (tk 2 (by omega) _).2 h2, Option.bind_some, if_pos rfl, (tk 3 (by omega) _).2 h3, Option.bind_some, if_pos rfl, (tk 4 (by omega) _).2 h4, Option.bind_some, if_pos rfl, (tk 5 (by omega) _).2 h5, Option.bind_some, if_pos rfl, (tk 6 (by omega) _).2 h6, Option.bind_some, if_pos rfl, (tk 7 (by omega) _).2 h7, Option.bind_some, if_pos rfl]
  unfold f_X11_wrongAt
  rw [if_neg (show ¬ (0 : Int32) ≤ -1 by decide)]; rfl

