theorem seen_5 : ∀ a, a < 2 → ∀ b, b < 2 → ∀ c, c < 2 → (((nI (32 * a + 64 * b + 128 * c)) >>> ((5 : Int32) &&& 31)) &&& (1 : Int32)) = nI a ∧ nI (32 * 0 + 64 * b + 128 * c) ||| ((1 : Int32) <<< ((5 : Int32) &&& 31)) = nI (32 * 1 + 64 * b + 128 * c) := by decide +kernel
theorem seen_6 : ∀ a, a < 2 → ∀ b, b < 2 → ∀ c, c < 2 → (((nI (32 * a + 64 * b + 128 * c)) >>> ((6 : Int32) &&& 31)) &&& (1 : Int32)) = nI b ∧ nI (32 * a + 64 * 0 + 128 * c) ||| ((1 : Int32) <<< ((6 : Int32) &&& 31)) = nI (32 * a + 64 * 1 + 128 * c) := by decide +kernel
theorem seen_7 : ∀ a, a < 2 → ∀ b, b < 2 → ∀ c, c < 2 → (((nI (32 * a + 64 * b + 128 * c)) >>> ((7 : Int32) &&& 31)) &&& (1 : Int32)) = nI c ∧ nI (32 * a + 64 * b + 128 * 0) ||| ((1 : Int32) <<< ((7 : Int32) &&& 31)) = nI (32 * a + 64 * b + 128 * 1) := by decide +kernel
theorem NR_zero {v : Nat → Nat} {R : Nat → Nat → Nat} {S W : Nat → Nat} {nm le so wh : Nat → Int32} (H : NR v R S W nm le so wh) {c : Nat} (hc : 60 ≤ c) : NR v R S W (upd nm c 0) le so wh := by
  obtain ⟨a, b, c1, d, e⟩ := H
  refine ⟨a, fun r hr => ?_, c1, d, fun i hi => ?_⟩
  · obtain ⟨m1, m2, m3, m4, m5, m6, m7⟩ := b r hr
    refine ⟨m1, m2, m3, m4, m5, m6, ?_⟩
    rw [upd_ne _ _ (by rcases m5 with q | q | q | q <;> rw [q] at m6 ⊢ <;> omega)]
    exact m7
  · by_cases q : i = c
    · rw [q, upd_at]; exact Or.inl rfl
    · rw [upd_ne _ _ q]; exact e i hi

/-- the statement of a period -/
theorem S_life {v : Nat → Nat} {R : Nat → Nat → Nat} {S W : Nat → Nat} {se : T_SE} {rdd le so wh : Nat → Int32} {ht sn : Int32} (HD : DR v R S W se rdd le so wh ht sn) {bt : Nat → Nat} {l : Nat} {g buf : Nat → Int32} (H : TB bt l g buf) {p s0 : Nat} (hp : p ≤ l) (hs0 : s0 ≤ l) (st tk : Int32) {N : Nat} (hN : 700 < N) : (se.2.2.2.1 5 = 1 → ∃ a b sn', f_X11_readsOnce N 5 1 1000 71 600 (nI l) (nI p) (nI s0) (-1) sn rdd buf = some (a, b, nI s0, sn', rdd)) ∧ (se.2.2.2.1 5 = 0 → ∃ pc sc tc ec li' wi' gr' cs' nm' pm tm em sn' rdd', f_X8_readPeriod N 5 600 8 96 (nI p) st tk (-1) (nI l) g se.1 se.2.1 se.2.2.1 se.2.2.2.1 se.2.2.2.2.1 = some (pc, sc, tc, ec, li', wi', gr', cs', nm') ∧ f_X11_readsOnce N 5 1 1000 71 600 (nI l) (nI p) (nI s0) (-1) sn rdd buf = some (pm, tm, em, sn', rdd') ∧ OUT l pc ec (li', wi', gr', cs', nm', se.2.2.2.2.2.1, se.2.2.2.2.2.2.1, se.2.2.2.2.2.2.2.1, se.2.2.2.2.2.2.2.2.1, se.2.2.2.2.2.2.2.2.2.1, se.2.2.2.2.2.2.2.2.2.2.1, se.2.2.2.2.2.2.2.2.2.2.2.1, se.2.2.2.2.2.2.2.2.2.2.2.2.1, se.2.2.2.2.2.2.2.2.2.2.2.2.2) pm em ht sn' rdd' le so wh) := by
  obtain ⟨D1, D2, D3, D4, D5, a, b, c, q1, q2, q3, q4, s5, s6, s7⟩ := HD
  have hl := H.1
  obtain ⟨t1, t2⟩ := seen_5 a (by omega) b (by omega) c (by omega)
  obtain ⟨a1, a2, a3, a4⟩ := spn_spec (f := isSp bt) hp
  obtain ⟨j1, j2, j3, j4⟩ := spn_spec (f := isDi bt) a2
  constructor
  · intro hf
    rw [s5] at hf
    unfold f_X11_readsOnce f_X11_readsOnce_b20 f_X11_wrongAt
    rw [q4, t1, if_pos hf, if_neg (by decide), Option.bind_some, reads_err (by omega), Option.bind_some]
    exact ⟨_, _, _, rfl⟩
  · intro hf
    rw [s5] at hf
    have hz : a = 0 := (nI_eqz (by omega)).mp hf
    have hMo : ∀ (x y em : Int32) (rd' : Nat → Int32), f_X11_reads N (nI 5) (nI 1) (nI 1000) 71 600 (nI l) (nI p) (nI s0) (-1) rdd buf = some (x, y, em, rd') → f_X11_readsOnce N 5 1 1000 71 600 (nI l) (nI p) (nI s0) (-1) sn rdd buf = some (x, y, em, nI (32 * 1 + 64 * b + 128 * c), rd') := by
      intro x y em rd' hr
      unfold f_X11_readsOnce f_X11_readsOnce_b20
      rw [q4, t1, if_neg (by rw [hz]; decide), show f_X11_reads N 5 1 1000 71 600 (nI l) (nI p) (nI s0) (-1) rdd buf = _ from hr, Option.bind_some]
      rw [hz, t2]
    obtain ⟨n1, n2⟩ := C_readNumber H hp (nI 1) (nI 1000) st tk hN
    obtain ⟨r1, r2⟩ := M_reads H hp (i := 5) (by omega) (nI 1) (nI 1000) (nI s0) rdd hN
    by_cases hnum : numOK bt l (spn (isSp bt) l p) (nI 1) (nI 1000)
    · have hvb := numOK_bd a2 (by decide) (by decide) hnum
      have hN1 := n1 hnum
      have hR1 := hMo _ _ _ _ (r1 hnum)
      obtain ⟨X, hX⟩ : ∃ X, X = dvN bt (spn (isSp bt) l p) ((spn (isDi bt) l (spn (isSp bt) l p)) - (spn (isSp bt) l p)) := ⟨_, rfl⟩
      rw [← hX] at hvb hN1 hR1
      have hNR : NR (updN v 5 X) R S W (upd se.2.2.2.2.1 (12 * 5 + 0) 0) le so wh := NR_congr (NR_zero D1 (by omega)) (updN_ne _ _ (by decide)) (updN_ne _ _ (by decide)) (updN_ne _ _ (by decide)) (updN_ne _ _ (by decide)) (updN_ne _ _ (by decide))
      have hu : ∀ j, ¬ j = 5 → updN v 5 X j = v j := fun j hj => updN_ne _ _ hj
      have hSV : SVd (updN v 5 X) := by
        obtain ⟨w1, w2, w3, w4, w5, w6, w7⟩ := D2
        unfold SVd
        rw [updN_at, hu 0 (by decide), hu 1 (by decide), hu 2 (by decide), hu 3 (by decide), hu 4 (by decide), hu 6 (by decide), hu 7 (by decide), hu 8 (by decide)]
        refine ⟨w1, ⟨by omega, by omega, w2.2.2⟩, ⟨w3.1, fun t ht => ?_⟩, fun t ht => ?_, fun c hc => ?_, fun q hq => ?_, fun h hh => ?_⟩
        · rw [hu _ (by omega), hu _ (by omega)]; exact w3.2 t ht
        · rw [hu _ (by omega), hu _ (by omega)]; exact w4 t ht
        · rw [hu _ (by omega), hu _ (by omega)]; exact w5 c hc
        · rw [hu _ (by omega), hu _ (by omega), hu _ (by omega), hu _ (by omega)]; exact w6 q hq
        · rw [hu _ (by omega)]; exact w7 h hh
      have hSC : SC (updN v 5 X) (nI X, se.2.1, se.2.2.1, upd se.2.2.2.1 5 1, upd se.2.2.2.2.1 (12 * 5 + 0) 0, se.2.2.2.2.2.1, se.2.2.2.2.2.2.1, se.2.2.2.2.2.2.2.1, se.2.2.2.2.2.2.2.2.1, se.2.2.2.2.2.2.2.2.2.1, se.2.2.2.2.2.2.2.2.2.2.1, se.2.2.2.2.2.2.2.2.2.2.2.1, se.2.2.2.2.2.2.2.2.2.2.2.2.1, se.2.2.2.2.2.2.2.2.2.2.2.2.2) := by
        obtain ⟨w1, w2, w3, w4, w5, w6⟩ := D3
        unfold SC
        rw [updN_at, hu 0 (by decide), hu 1 (by decide), hu 2 (by decide), hu 4 (by decide), hu 6 (by decide), hu 7 (by decide)]
        refine ⟨⟨rfl, w1.2.1, w1.2.2⟩, fun i hi => ?_, fun t ht => ?_, fun c hc => ?_, fun q hq => ?_, fun h hh => ?_⟩
        · dsimp only
          rw [upd_ne _ _ (by omega), hu _ (by omega)]; exact w2 i hi
        · rw [hu _ (by omega), hu _ (by omega)]; exact w3 t ht
        · rw [hu _ (by omega), hu _ (by omega)]; exact w4 c hc
        · rw [hu _ (by omega), hu _ (by omega), hu _ (by omega), hu _ (by omega)]; exact w5 q hq
        · rw [hu _ (by omega)]; exact w6 h hh
      have hM4 : ∀ i, i < 71 → i ≠ 0 → (upd rdd 5 (nI X)) i = nI (updN v 5 X i) := by
        intro i h1 h2
        by_cases e : i = 5
        · rw [e, upd_at, updN_at]
        · rw [upd_ne _ _ e, hu _ e]; exact D4 i h1 h2
      have hDR : ∃ v' R' S' W', DR v' R' S' W' (nI X, se.2.1, se.2.2.1, upd se.2.2.2.1 5 1, upd se.2.2.2.2.1 (12 * 5 + 0) 0, se.2.2.2.2.2.1, se.2.2.2.2.2.2.1, se.2.2.2.2.2.2.2.1, se.2.2.2.2.2.2.2.2.1, se.2.2.2.2.2.2.2.2.2.1, se.2.2.2.2.2.2.2.2.2.2.1, se.2.2.2.2.2.2.2.2.2.2.2.1, se.2.2.2.2.2.2.2.2.2.2.2.2.1, se.2.2.2.2.2.2.2.2.2.2.2.2.2) (upd rdd 5 (nI X)) le so wh ht (nI (32 * 1 + 64 * b + 128 * c)) := by
        refine ⟨updN v 5 X, _, _, _, hNR, hSV, hSC, hM4, ?_, 1, b, c, Nat.le_refl 1, q2, q3, rfl, by dsimp only; exact upd_at _ _ _, by dsimp only; rw [upd_ne _ _ (by decide)]; exact s6, by dsimp only; rw [upd_ne _ _ (by decide)]; exact s7⟩
        rw [hu 0 (by decide), hu 13 (by decide), upd_ne _ _ (by decide)]
        exact D5
      refine ⟨nI (spn (isDi bt) l (spn (isSp bt) l p)), nI (spn (isSp bt) l p), 257, -1, nI X, se.2.1, se.2.2.1, upd se.2.2.2.1 5 1, upd se.2.2.2.2.1 (12 * 5 + 0) 0, nI (spn (isDi bt) l (spn (isSp bt) l p)), nI (spn (isSp bt) l p), -1, nI (32 * 1 + 64 * b + 128 * c), (upd rdd 5 (nI X)), ?_, hR1, Or.inr ⟨rfl, rfl, (spn (isDi bt) l (spn (isSp bt) l p)), j2, rfl, rfl, hDR⟩⟩
      unfold f_X8_readPeriod f_X8_readPeriod_b25
      rw [if_neg (by decide), show f_X8_readNumber N 1 1000 600 (nI p) st tk (-1) (nI l) g = _ from hN1, Option.bind_some]
      dsimp only
      rw [if_pos rfl, if_pos rfl]
      unfold f_X7_fixLife f_X7_define
      rw [show (5 : Int32) = nI 5 from rfl, X6_at_in _ (show 8 < 2 ^ 31 by decide) (show 5 < 8 by decide), s5, hz, Option.bind_some, show (12 : Int32) = nI 12 from rfl, nI_mul, nI_add, X6_put_in _ _ (show 96 < 2 ^ 31 by decide) (show 5 * 12 + 0 < 96 by decide), Option.bind_some, X6_put_in _ _ (show 8 < 2 ^ 31 by decide) (show 5 < 8 by decide)]; rfl
    · obtain ⟨y, n3⟩ := n2 hnum
      obtain ⟨q, r3⟩ := r2 hnum
      have hR1 := hMo _ _ _ _ r3
      refine ⟨nI (tkE bt l (spn (isSp bt) l p)), nI (spn (isSp bt) l p), tkK bt l (spn (isSp bt) l p), nI (spn (isSp bt) l p), se.1, se.2.1, se.2.2.1, se.2.2.2.1, se.2.2.2.2.1, q, nI (spn (isSp bt) l p), nI (spn (isSp bt) l p), nI (32 * 1 + 64 * b + 128 * c), rdd, ?_, hR1, Or.inl ⟨(spn (isSp bt) l p), a2, rfl, rfl⟩⟩
      unfold f_X8_readPeriod f_X8_readPeriod_b25
      rw [if_neg (by decide), show f_X8_readNumber N 1 1000 600 (nI p) st tk (-1) (nI l) g = _ from n3, Option.bind_some]
      dsimp only
      rw [if_neg (nI_neg1 (by omega))]

/-- the statement of a period -/
theorem S_window {v : Nat → Nat} {R : Nat → Nat → Nat} {S W : Nat → Nat} {se : T_SE} {rdd le so wh : Nat → Int32} {ht sn : Int32} (HD : DR v R S W se rdd le so wh ht sn) {bt : Nat → Nat} {l : Nat} {g buf : Nat → Int32} (H : TB bt l g buf) {p s0 : Nat} (hp : p ≤ l) (hs0 : s0 ≤ l) (st tk : Int32) {N : Nat} (hN : 700 < N) : (se.2.2.2.1 6 = 1 → ∃ a b sn', f_X11_readsOnce N 6 1 1000 71 600 (nI l) (nI p) (nI s0) (-1) sn rdd buf = some (a, b, nI s0, sn', rdd)) ∧ (se.2.2.2.1 6 = 0 → ∃ pc sc tc ec li' wi' gr' cs' nm' pm tm em sn' rdd', f_X8_readPeriod N 6 600 8 96 (nI p) st tk (-1) (nI l) g se.1 se.2.1 se.2.2.1 se.2.2.2.1 se.2.2.2.2.1 = some (pc, sc, tc, ec, li', wi', gr', cs', nm') ∧ f_X11_readsOnce N 6 1 1000 71 600 (nI l) (nI p) (nI s0) (-1) sn rdd buf = some (pm, tm, em, sn', rdd') ∧ OUT l pc ec (li', wi', gr', cs', nm', se.2.2.2.2.2.1, se.2.2.2.2.2.2.1, se.2.2.2.2.2.2.2.1, se.2.2.2.2.2.2.2.2.1, se.2.2.2.2.2.2.2.2.2.1, se.2.2.2.2.2.2.2.2.2.2.1, se.2.2.2.2.2.2.2.2.2.2.2.1, se.2.2.2.2.2.2.2.2.2.2.2.2.1, se.2.2.2.2.2.2.2.2.2.2.2.2.2) pm em ht sn' rdd' le so wh) := by
  obtain ⟨D1, D2, D3, D4, D5, a, b, c, q1, q2, q3, q4, s5, s6, s7⟩ := HD
  have hl := H.1
  obtain ⟨t1, t2⟩ := seen_6 a (by omega) b (by omega) c (by omega)
  obtain ⟨a1, a2, a3, a4⟩ := spn_spec (f := isSp bt) hp
  obtain ⟨j1, j2, j3, j4⟩ := spn_spec (f := isDi bt) a2
  constructor
  · intro hf
    rw [s6] at hf
    unfold f_X11_readsOnce f_X11_readsOnce_b20 f_X11_wrongAt
    rw [q4, t1, if_pos hf, if_neg (by decide), Option.bind_some, reads_err (by omega), Option.bind_some]
    exact ⟨_, _, _, rfl⟩
  · intro hf
    rw [s6] at hf
    have hz : b = 0 := (nI_eqz (by omega)).mp hf
    have hMo : ∀ (x y em : Int32) (rd' : Nat → Int32), f_X11_reads N (nI 6) (nI 1) (nI 1000) 71 600 (nI l) (nI p) (nI s0) (-1) rdd buf = some (x, y, em, rd') → f_X11_readsOnce N 6 1 1000 71 600 (nI l) (nI p) (nI s0) (-1) sn rdd buf = some (x, y, em, nI (32 * a + 64 * 1 + 128 * c), rd') := by
      intro x y em rd' hr
      unfold f_X11_readsOnce f_X11_readsOnce_b20
      rw [q4, t1, if_neg (by rw [hz]; decide), show f_X11_reads N 6 1 1000 71 600 (nI l) (nI p) (nI s0) (-1) rdd buf = _ from hr, Option.bind_some]
      rw [hz, t2]
    obtain ⟨n1, n2⟩ := C_readNumber H hp (nI 1) (nI 1000) st tk hN
    obtain ⟨r1, r2⟩ := M_reads H hp (i := 6) (by omega) (nI 1) (nI 1000) (nI s0) rdd hN
    by_cases hnum : numOK bt l (spn (isSp bt) l p) (nI 1) (nI 1000)
    · have hvb := numOK_bd a2 (by decide) (by decide) hnum
      have hN1 := n1 hnum
      have hR1 := hMo _ _ _ _ (r1 hnum)
      obtain ⟨X, hX⟩ : ∃ X, X = dvN bt (spn (isSp bt) l p) ((spn (isDi bt) l (spn (isSp bt) l p)) - (spn (isSp bt) l p)) := ⟨_, rfl⟩
      rw [← hX] at hvb hN1 hR1
      have hNR : NR (updN v 6 X) R S W (upd se.2.2.2.2.1 (12 * 6 + 0) 0) le so wh := NR_congr (NR_zero D1 (by omega)) (updN_ne _ _ (by decide)) (updN_ne _ _ (by decide)) (updN_ne _ _ (by decide)) (updN_ne _ _ (by decide)) (updN_ne _ _ (by decide))
      have hu : ∀ j, ¬ j = 6 → updN v 6 X j = v j := fun j hj => updN_ne _ _ hj
      have hSV : SVd (updN v 6 X) := by
        obtain ⟨w1, w2, w3, w4, w5, w6, w7⟩ := D2
        unfold SVd
        rw [updN_at, hu 0 (by decide), hu 1 (by decide), hu 2 (by decide), hu 3 (by decide), hu 4 (by decide), hu 5 (by decide), hu 7 (by decide), hu 8 (by decide)]
        refine ⟨w1, ⟨w2.1, w2.2.1, by omega, by omega, w2.2.2.2.2⟩, ⟨w3.1, fun t ht => ?_⟩, fun t ht => ?_, fun c hc => ?_, fun q hq => ?_, fun h hh => ?_⟩
        · rw [hu _ (by omega), hu _ (by omega)]; exact w3.2 t ht
        · rw [hu _ (by omega), hu _ (by omega)]; exact w4 t ht
        · rw [hu _ (by omega), hu _ (by omega)]; exact w5 c hc
        · rw [hu _ (by omega), hu _ (by omega), hu _ (by omega), hu _ (by omega)]; exact w6 q hq
        · rw [hu _ (by omega)]; exact w7 h hh
      have hSC : SC (updN v 6 X) (se.1, nI X, se.2.2.1, upd se.2.2.2.1 6 1, upd se.2.2.2.2.1 (12 * 6 + 0) 0, se.2.2.2.2.2.1, se.2.2.2.2.2.2.1, se.2.2.2.2.2.2.2.1, se.2.2.2.2.2.2.2.2.1, se.2.2.2.2.2.2.2.2.2.1, se.2.2.2.2.2.2.2.2.2.2.1, se.2.2.2.2.2.2.2.2.2.2.2.1, se.2.2.2.2.2.2.2.2.2.2.2.2.1, se.2.2.2.2.2.2.2.2.2.2.2.2.2) := by
        obtain ⟨w1, w2, w3, w4, w5, w6⟩ := D3
        unfold SC
        rw [updN_at, hu 0 (by decide), hu 1 (by decide), hu 2 (by decide), hu 4 (by decide), hu 5 (by decide), hu 7 (by decide)]
        refine ⟨⟨w1.1, rfl, w1.2.2⟩, fun i hi => ?_, fun t ht => ?_, fun c hc => ?_, fun q hq => ?_, fun h hh => ?_⟩
        · dsimp only
          rw [upd_ne _ _ (by omega), hu _ (by omega)]; exact w2 i hi
        · rw [hu _ (by omega), hu _ (by omega)]; exact w3 t ht
        · rw [hu _ (by omega), hu _ (by omega)]; exact w4 c hc
        · rw [hu _ (by omega), hu _ (by omega), hu _ (by omega), hu _ (by omega)]; exact w5 q hq
        · rw [hu _ (by omega)]; exact w6 h hh
      have hM4 : ∀ i, i < 71 → i ≠ 0 → (upd rdd 6 (nI X)) i = nI (updN v 6 X i) := by
        intro i h1 h2
        by_cases e : i = 6
        · rw [e, upd_at, updN_at]
        · rw [upd_ne _ _ e, hu _ e]; exact D4 i h1 h2
      have hDR : ∃ v' R' S' W', DR v' R' S' W' (se.1, nI X, se.2.2.1, upd se.2.2.2.1 6 1, upd se.2.2.2.2.1 (12 * 6 + 0) 0, se.2.2.2.2.2.1, se.2.2.2.2.2.2.1, se.2.2.2.2.2.2.2.1, se.2.2.2.2.2.2.2.2.1, se.2.2.2.2.2.2.2.2.2.1, se.2.2.2.2.2.2.2.2.2.2.1, se.2.2.2.2.2.2.2.2.2.2.2.1, se.2.2.2.2.2.2.2.2.2.2.2.2.1, se.2.2.2.2.2.2.2.2.2.2.2.2.2) (upd rdd 6 (nI X)) le so wh ht (nI (32 * a + 64 * 1 + 128 * c)) := by
        refine ⟨updN v 6 X, _, _, _, hNR, hSV, hSC, hM4, ?_, a, 1, c, q1, Nat.le_refl 1, q3, rfl, by dsimp only; rw [upd_ne _ _ (by decide)]; exact s5, by dsimp only; exact upd_at _ _ _, by dsimp only; rw [upd_ne _ _ (by decide)]; exact s7⟩
        rw [hu 0 (by decide), hu 13 (by decide), upd_ne _ _ (by decide)]
        exact D5
      refine ⟨nI (spn (isDi bt) l (spn (isSp bt) l p)), nI (spn (isSp bt) l p), 257, -1, se.1, nI X, se.2.2.1, upd se.2.2.2.1 6 1, upd se.2.2.2.2.1 (12 * 6 + 0) 0, nI (spn (isDi bt) l (spn (isSp bt) l p)), nI (spn (isSp bt) l p), -1, nI (32 * a + 64 * 1 + 128 * c), (upd rdd 6 (nI X)), ?_, hR1, Or.inr ⟨rfl, rfl, (spn (isDi bt) l (spn (isSp bt) l p)), j2, rfl, rfl, hDR⟩⟩
      unfold f_X8_readPeriod f_X8_readPeriod_b25
      rw [if_neg (by decide), show f_X8_readNumber N 1 1000 600 (nI p) st tk (-1) (nI l) g = _ from hN1, Option.bind_some]
      dsimp only
      rw [if_pos rfl, if_neg (by decide), if_pos rfl]
      unfold f_X7_fixWindow f_X7_define
      rw [show (6 : Int32) = nI 6 from rfl, X6_at_in _ (show 8 < 2 ^ 31 by decide) (show 6 < 8 by decide), s6, hz, Option.bind_some, show (12 : Int32) = nI 12 from rfl, nI_mul, nI_add, X6_put_in _ _ (show 96 < 2 ^ 31 by decide) (show 6 * 12 + 0 < 96 by decide), Option.bind_some, X6_put_in _ _ (show 8 < 2 ^ 31 by decide) (show 6 < 8 by decide)]; rfl
    · obtain ⟨y, n3⟩ := n2 hnum
      obtain ⟨q, r3⟩ := r2 hnum
      have hR1 := hMo _ _ _ _ r3
      refine ⟨nI (tkE bt l (spn (isSp bt) l p)), nI (spn (isSp bt) l p), tkK bt l (spn (isSp bt) l p), nI (spn (isSp bt) l p), se.1, se.2.1, se.2.2.1, se.2.2.2.1, se.2.2.2.2.1, q, nI (spn (isSp bt) l p), nI (spn (isSp bt) l p), nI (32 * a + 64 * 1 + 128 * c), rdd, ?_, hR1, Or.inl ⟨(spn (isSp bt) l p), a2, rfl, rfl⟩⟩
      unfold f_X8_readPeriod f_X8_readPeriod_b25
      rw [if_neg (by decide), show f_X8_readNumber N 1 1000 600 (nI p) st tk (-1) (nI l) g = _ from n3, Option.bind_some]
      dsimp only
      rw [if_neg (nI_neg1 (by omega))]

/-- the statement of a period -/
theorem S_grace {v : Nat → Nat} {R : Nat → Nat → Nat} {S W : Nat → Nat} {se : T_SE} {rdd le so wh : Nat → Int32} {ht sn : Int32} (HD : DR v R S W se rdd le so wh ht sn) {bt : Nat → Nat} {l : Nat} {g buf : Nat → Int32} (H : TB bt l g buf) {p s0 : Nat} (hp : p ≤ l) (hs0 : s0 ≤ l) (st tk : Int32) {N : Nat} (hN : 700 < N) : (se.2.2.2.1 7 = 1 → ∃ a b sn', f_X11_readsOnce N 7 0 400 71 600 (nI l) (nI p) (nI s0) (-1) sn rdd buf = some (a, b, nI s0, sn', rdd)) ∧ (se.2.2.2.1 7 = 0 → ∃ pc sc tc ec li' wi' gr' cs' nm' pm tm em sn' rdd', f_X8_readPeriod N 7 600 8 96 (nI p) st tk (-1) (nI l) g se.1 se.2.1 se.2.2.1 se.2.2.2.1 se.2.2.2.2.1 = some (pc, sc, tc, ec, li', wi', gr', cs', nm') ∧ f_X11_readsOnce N 7 0 400 71 600 (nI l) (nI p) (nI s0) (-1) sn rdd buf = some (pm, tm, em, sn', rdd') ∧ OUT l pc ec (li', wi', gr', cs', nm', se.2.2.2.2.2.1, se.2.2.2.2.2.2.1, se.2.2.2.2.2.2.2.1, se.2.2.2.2.2.2.2.2.1, se.2.2.2.2.2.2.2.2.2.1, se.2.2.2.2.2.2.2.2.2.2.1, se.2.2.2.2.2.2.2.2.2.2.2.1, se.2.2.2.2.2.2.2.2.2.2.2.2.1, se.2.2.2.2.2.2.2.2.2.2.2.2.2) pm em ht sn' rdd' le so wh) := by
  obtain ⟨D1, D2, D3, D4, D5, a, b, c, q1, q2, q3, q4, s5, s6, s7⟩ := HD
  have hl := H.1
  obtain ⟨t1, t2⟩ := seen_7 a (by omega) b (by omega) c (by omega)
  obtain ⟨a1, a2, a3, a4⟩ := spn_spec (f := isSp bt) hp
  obtain ⟨j1, j2, j3, j4⟩ := spn_spec (f := isDi bt) a2
  constructor
  · intro hf
    rw [s7] at hf
    unfold f_X11_readsOnce f_X11_readsOnce_b20 f_X11_wrongAt
    rw [q4, t1, if_pos hf, if_neg (by decide), Option.bind_some, reads_err (by omega), Option.bind_some]
    exact ⟨_, _, _, rfl⟩
  · intro hf
    rw [s7] at hf
    have hz : c = 0 := (nI_eqz (by omega)).mp hf
    have hMo : ∀ (x y em : Int32) (rd' : Nat → Int32), f_X11_reads N (nI 7) (nI 0) (nI 400) 71 600 (nI l) (nI p) (nI s0) (-1) rdd buf = some (x, y, em, rd') → f_X11_readsOnce N 7 0 400 71 600 (nI l) (nI p) (nI s0) (-1) sn rdd buf = some (x, y, em, nI (32 * a + 64 * b + 128 * 1), rd') := by
      intro x y em rd' hr
      unfold f_X11_readsOnce f_X11_readsOnce_b20
      rw [q4, t1, if_neg (by rw [hz]; decide), show f_X11_reads N 7 0 400 71 600 (nI l) (nI p) (nI s0) (-1) rdd buf = _ from hr, Option.bind_some]
      rw [hz, t2]
    obtain ⟨n1, n2⟩ := C_readNumber H hp (nI 0) (nI 400) st tk hN
    obtain ⟨r1, r2⟩ := M_reads H hp (i := 7) (by omega) (nI 0) (nI 400) (nI s0) rdd hN
    by_cases hnum : numOK bt l (spn (isSp bt) l p) (nI 0) (nI 400)
    · have hvb := numOK_bd a2 (by decide) (by decide) hnum
      have hN1 := n1 hnum
      have hR1 := hMo _ _ _ _ (r1 hnum)
      obtain ⟨X, hX⟩ : ∃ X, X = dvN bt (spn (isSp bt) l p) ((spn (isDi bt) l (spn (isSp bt) l p)) - (spn (isSp bt) l p)) := ⟨_, rfl⟩
      rw [← hX] at hvb hN1 hR1
      have hNR : NR (updN v 7 X) R S W (upd se.2.2.2.2.1 (12 * 7 + 0) 0) le so wh := NR_congr (NR_zero D1 (by omega)) (updN_ne _ _ (by decide)) (updN_ne _ _ (by decide)) (updN_ne _ _ (by decide)) (updN_ne _ _ (by decide)) (updN_ne _ _ (by decide))
      have hu : ∀ j, ¬ j = 7 → updN v 7 X j = v j := fun j hj => updN_ne _ _ hj
      have hSV : SVd (updN v 7 X) := by
        obtain ⟨w1, w2, w3, w4, w5, w6, w7⟩ := D2
        unfold SVd
        rw [updN_at, hu 0 (by decide), hu 1 (by decide), hu 2 (by decide), hu 3 (by decide), hu 4 (by decide), hu 5 (by decide), hu 6 (by decide), hu 8 (by decide)]
        refine ⟨w1, ⟨w2.1, w2.2.1, w2.2.2.1, w2.2.2.2.1, by omega⟩, ⟨w3.1, fun t ht => ?_⟩, fun t ht => ?_, fun c hc => ?_, fun q hq => ?_, fun h hh => ?_⟩
        · rw [hu _ (by omega), hu _ (by omega)]; exact w3.2 t ht
        · rw [hu _ (by omega), hu _ (by omega)]; exact w4 t ht
        · rw [hu _ (by omega), hu _ (by omega)]; exact w5 c hc
        · rw [hu _ (by omega), hu _ (by omega), hu _ (by omega), hu _ (by omega)]; exact w6 q hq
        · rw [hu _ (by omega)]; exact w7 h hh
      have hSC : SC (updN v 7 X) (se.1, se.2.1, nI X, upd se.2.2.2.1 7 1, upd se.2.2.2.2.1 (12 * 7 + 0) 0, se.2.2.2.2.2.1, se.2.2.2.2.2.2.1, se.2.2.2.2.2.2.2.1, se.2.2.2.2.2.2.2.2.1, se.2.2.2.2.2.2.2.2.2.1, se.2.2.2.2.2.2.2.2.2.2.1, se.2.2.2.2.2.2.2.2.2.2.2.1, se.2.2.2.2.2.2.2.2.2.2.2.2.1, se.2.2.2.2.2.2.2.2.2.2.2.2.2) := by
        obtain ⟨w1, w2, w3, w4, w5, w6⟩ := D3
        unfold SC
        rw [updN_at, hu 0 (by decide), hu 1 (by decide), hu 2 (by decide), hu 4 (by decide), hu 5 (by decide), hu 6 (by decide)]
        refine ⟨⟨w1.1, w1.2.1, rfl⟩, fun i hi => ?_, fun t ht => ?_, fun c hc => ?_, fun q hq => ?_, fun h hh => ?_⟩
        · dsimp only
          rw [upd_ne _ _ (by omega), hu _ (by omega)]; exact w2 i hi
        · rw [hu _ (by omega), hu _ (by omega)]; exact w3 t ht
        · rw [hu _ (by omega), hu _ (by omega)]; exact w4 c hc
        · rw [hu _ (by omega), hu _ (by omega), hu _ (by omega), hu _ (by omega)]; exact w5 q hq
        · rw [hu _ (by omega)]; exact w6 h hh
      have hM4 : ∀ i, i < 71 → i ≠ 0 → (upd rdd 7 (nI X)) i = nI (updN v 7 X i) := by
        intro i h1 h2
        by_cases e : i = 7
        · rw [e, upd_at, updN_at]
        · rw [upd_ne _ _ e, hu _ e]; exact D4 i h1 h2
      have hDR : ∃ v' R' S' W', DR v' R' S' W' (se.1, se.2.1, nI X, upd se.2.2.2.1 7 1, upd se.2.2.2.2.1 (12 * 7 + 0) 0, se.2.2.2.2.2.1, se.2.2.2.2.2.2.1, se.2.2.2.2.2.2.2.1, se.2.2.2.2.2.2.2.2.1, se.2.2.2.2.2.2.2.2.2.1, se.2.2.2.2.2.2.2.2.2.2.1, se.2.2.2.2.2.2.2.2.2.2.2.1, se.2.2.2.2.2.2.2.2.2.2.2.2.1, se.2.2.2.2.2.2.2.2.2.2.2.2.2) (upd rdd 7 (nI X)) le so wh ht (nI (32 * a + 64 * b + 128 * 1)) := by
        refine ⟨updN v 7 X, _, _, _, hNR, hSV, hSC, hM4, ?_, a, b, 1, q1, q2, Nat.le_refl 1, rfl, by dsimp only; rw [upd_ne _ _ (by decide)]; exact s5, by dsimp only; rw [upd_ne _ _ (by decide)]; exact s6, by dsimp only; exact upd_at _ _ _⟩
        rw [hu 0 (by decide), hu 13 (by decide), upd_ne _ _ (by decide)]
        exact D5
      refine ⟨nI (spn (isDi bt) l (spn (isSp bt) l p)), nI (spn (isSp bt) l p), 257, -1, se.1, se.2.1, nI X, upd se.2.2.2.1 7 1, upd se.2.2.2.2.1 (12 * 7 + 0) 0, nI (spn (isDi bt) l (spn (isSp bt) l p)), nI (spn (isSp bt) l p), -1, nI (32 * a + 64 * b + 128 * 1), (upd rdd 7 (nI X)), ?_, hR1, Or.inr ⟨rfl, rfl, (spn (isDi bt) l (spn (isSp bt) l p)), j2, rfl, rfl, hDR⟩⟩
      unfold f_X8_readPeriod f_X8_readPeriod_b25
      rw [if_pos rfl, show f_X8_readNumber N 0 400 600 (nI p) st tk (-1) (nI l) g = _ from hN1, Option.bind_some]
      dsimp only
      rw [if_pos rfl, if_neg (by decide), if_neg (by decide)]
      unfold f_X7_fixGrace f_X7_define
      rw [show (7 : Int32) = nI 7 from rfl, X6_at_in _ (show 8 < 2 ^ 31 by decide) (show 7 < 8 by decide), s7, hz, Option.bind_some, show (12 : Int32) = nI 12 from rfl, nI_mul, nI_add, X6_put_in _ _ (show 96 < 2 ^ 31 by decide) (show 7 * 12 + 0 < 96 by decide), Option.bind_some, X6_put_in _ _ (show 8 < 2 ^ 31 by decide) (show 7 < 8 by decide)]; rfl
    · obtain ⟨y, n3⟩ := n2 hnum
      obtain ⟨q, r3⟩ := r2 hnum
      have hR1 := hMo _ _ _ _ r3
      refine ⟨nI (tkE bt l (spn (isSp bt) l p)), nI (spn (isSp bt) l p), tkK bt l (spn (isSp bt) l p), nI (spn (isSp bt) l p), se.1, se.2.1, se.2.2.1, se.2.2.2.1, se.2.2.2.2.1, q, nI (spn (isSp bt) l p), nI (spn (isSp bt) l p), nI (32 * a + 64 * b + 128 * 1), rdd, ?_, hR1, Or.inl ⟨(spn (isSp bt) l p), a2, rfl, rfl⟩⟩
      unfold f_X8_readPeriod f_X8_readPeriod_b25
      rw [if_pos rfl, show f_X8_readNumber N 0 400 600 (nI p) st tk (-1) (nI l) g = _ from n3, Option.bind_some]
      dsimp only
      rw [if_neg (nI_neg1 (by omega))]


