/-- the category statement -/
theorem S_category {v : Nat → Nat} {R : Nat → Nat → Nat} {S W : Nat → Nat} {se : T_SE} {rdd le so wh : Nat → Int32} {ht sn : Int32} (HD : DR v R S W se rdd le so wh ht sn) {bt : Nat → Nat} {l : Nat} {g buf : Nat → Int32} (H : TB bt l g buf) {p s0 : Nat} (hp : p ≤ l) (hs0 : s0 ≤ l) {N : Nat} (hN : 700 < N) : (v 1 = 8 → ∃ a b, f_X11_readsCategory N 71 192 32 32 600 (nI l) (nI p) (nI s0) (-1) rdd le so wh buf = some (a, b, nI s0, rdd, le, so, wh)) ∧ (v 1 < 8 → ∃ pc sc tc ec cs' nm' ra' ca' pm tm em rdd' le' so' wh', f_X8_readCategory N 600 8 96 8 8 (nI p) (-1) (nI l) g se.2.2.2.1 se.2.2.2.2.1 se.2.2.2.2.2.2.2.1 se.2.2.2.2.2.2.2.2.1 = some (pc, sc, tc, ec, cs', nm', ra', ca') ∧ f_X11_readsCategory N 71 192 32 32 600 (nI l) (nI p) (nI s0) (-1) rdd le so wh buf = some (pm, tm, em, rdd', le', so', wh') ∧ OUT l pc ec (se.1, se.2.1, se.2.2.1, cs', nm', se.2.2.2.2.2.1, se.2.2.2.2.2.2.1, ra', ca', se.2.2.2.2.2.2.2.2.2.1, se.2.2.2.2.2.2.2.2.2.2.1, se.2.2.2.2.2.2.2.2.2.2.2.1, se.2.2.2.2.2.2.2.2.2.2.2.2.1, se.2.2.2.2.2.2.2.2.2.2.2.2.2) pm em ht sn rdd' le' so' wh') := by
  obtain ⟨D1, D2, D3, D4, D5, D6⟩ := HD
  have hl := H.1
  have h10 := D4 1 (by omega) (by decide)
  have h70 := D4 70 (by omega) (by decide)
  have hv1 := D2.1.2.1
  have hv70 : v 70 < 32 := by have := D1.1; omega
  have hroom := room_in (i := 1) (m := 8) (q := s0) (by omega) h10 (by omega) (by omega) (by omega)
  have g1 : ¬ ((1 : Int32) < 0 ∨ 71 ≤ (1 : Int32).toNatClampNeg) := by decide
  have g1' : ¬ ((1 : Int32) < 0 ∨ 71 ≤ 1) := by decide
  constructor
  · intro hf
    rw [if_pos hf] at hroom
    unfold f_X11_readsCategory
    rw [show f_X11_room (1 : Int32) (8 : Int32) 71 (nI s0) (-1) rdd = some (nI s0) from hroom, Option.bind_some, names_err (by omega), Option.bind_some]
    dsimp only
    rw [if_neg g1, Option.bind_some, fine_no (by omega), Option.bind_some, if_pos rfl]
    exact ⟨_, _, rfl⟩
  · intro hf
    rw [if_neg (by omega)] at hroom
    obtain ⟨c1, c2⟩ := C_newName D1 H hp hN
    obtain ⟨m1, m2⟩ := M_names D1 H hp (t := 1) (by omega) h70 hv70 (nI s0) hN
    obtain ⟨a1, a2, a3, a4⟩ := spn_spec (f := isSp bt) hp
    obtain ⟨b1, b2, b3, b4⟩ := spn_spec (f := isLe bt) a2
    obtain ⟨k1, k2, k3, k4⟩ := spn_spec (f := isSp bt) b2
    obtain ⟨j1, j2, j3, j4⟩ := spn_spec (f := isDi bt) k2
    obtain ⟨y1, y2, y3, y4⟩ := spn_spec (f := isSp bt) j2
    obtain ⟨x1, x2, x3, x4⟩ := spn_spec (f := isDi bt) y2
    by_cases hok : newN bt l (spn (isSp bt) l p) (v 70) le buf
    · obtain ⟨le', e1, e2, e3⟩ := m1 hok
      have hw := isW_wd ((spn_isW a2).mpr hok.1)
      have hnew : ∀ r, r < v 70 → ¬ lcode (R r) = lcode (wdN bt (spn (isSp bt) l p) (spn (isLe bt) l (spn (isSp bt) l p) - spn (isSp bt) l p)) := by
        intro r hr hh
        obtain ⟨q1, q2, _⟩ := D1.2.1 r hr
        refine hok.2.2 r hr ((isRow_wd q1 q2 (TB_row H a2)).mpr ⟨(spn_isW a2).mpr hok.1, lcode_inj q1 hw hh⟩)
      obtain ⟨n1, n2⟩ := C_readNumber H b2 (nI 0) (nI 50) (nI (spn (isSp bt) l p)) 256 hN
      obtain ⟨r1, r2⟩ := M_reads H b2 (i := 18 + v 1) (by omega) (nI 0) (nI 50) (nI (spn (isSp bt) l p)) (upd rdd 70 (nI (v 70 + 1))) hN
      have hMo : ∀ (a b em : Int32) (rd' : Nat → Int32) (a2 b2 em2 : Int32) (rd2 : Nat → Int32), f_X11_reads N (nI (18 + v 1)) (nI 0) (nI 50) 71 600 (nI l) (nI (spn (isLe bt) l (spn (isSp bt) l p))) (nI (spn (isSp bt) l p)) (-1) (upd rdd 70 (nI (v 70 + 1))) buf = some (a, b, em, rd') → f_X11_reads N (nI (26 + v 1)) (nI 0) (nI 100000) 71 600 (nI l) a b em rd' buf = some (a2, b2, em2, rd2) → f_X11_readsCategory N 71 192 32 32 600 (nI l) (nI p) (nI s0) (-1) rdd le so wh buf = some (a2, b2, em2, upd rd2 1 (rd2 1 + 1), le', upd so (v 70) (nI 1), upd wh (v 70) (rdd 1)) := by
        intro a b em rd' a2 b2 em2 rd2 hr hr2
        unfold f_X11_readsCategory
        rw [show f_X11_room (1 : Int32) (8 : Int32) 71 (nI s0) (-1) rdd = some (-1) from hroom, Option.bind_some, show f_X11_names N (1 : Int32) 71 192 32 32 600 (nI l) (nI p) (nI s0) (-1) rdd le so wh buf = _ from e1, Option.bind_some]
        dsimp only
        rw [if_neg g1, show (1 : Int32).toNatClampNeg = 1 from rfl, Option.bind_some, fine_yes, Option.bind_some, if_neg (show ¬ (1 : Int32) = 0 by decide), upd_ne _ _ (show ¬ 1 = 70 by decide), h10, show (18 : Int32) = nI 18 from rfl, nI_add, show f_X11_reads N (nI (18 + v 1)) 0 50 71 600 (nI l) (nI (spn (isLe bt) l (spn (isSp bt) l p))) (nI (spn (isSp bt) l p)) (-1) (upd rdd 70 (nI (v 70 + 1))) buf = _ from hr, Option.bind_some]
        dsimp only
        rw [show (26 : Int32) = nI 26 from rfl, nI_add, show f_X11_reads N (nI (26 + v 1)) 0 100000 71 600 (nI l) a b em rd' buf = _ from hr2, Option.bind_some]
        dsimp only
        rw [if_neg g1', if_neg g1', Option.bind_some]
      by_cases hnum : numOK bt l (spn (isSp bt) l (spn (isLe bt) l (spn (isSp bt) l p))) (nI 0) (nI 50)
      · have hvb := (numOK_bd k2 (by decide) (by decide) hnum).2
        have hN1 := n1 hnum
        have hR1 := r1 hnum
        obtain ⟨X, hX⟩ : ∃ X, X = dvN bt (spn (isSp bt) l (spn (isLe bt) l (spn (isSp bt) l p))) ((spn (isDi bt) l (spn (isSp bt) l (spn (isLe bt) l (spn (isSp bt) l p)))) - (spn (isSp bt) l (spn (isLe bt) l (spn (isSp bt) l p)))) := ⟨_, rfl⟩
        rw [← hX] at hvb hN1 hR1
        obtain ⟨n3, n4⟩ := C_readNumber H j2 (nI 0) (nI 100000) (nI (spn (isSp bt) l (spn (isLe bt) l (spn (isSp bt) l p)))) 257 hN
        obtain ⟨r3, r4⟩ := M_reads H j2 (i := 26 + v 1) (by omega) (nI 0) (nI 100000) (nI (spn (isSp bt) l (spn (isLe bt) l (spn (isSp bt) l p)))) (upd (upd rdd 70 (nI (v 70 + 1))) (18 + v 1) (nI X)) hN
        by_cases hnum2 : numOK bt l (spn (isSp bt) l (spn (isDi bt) l (spn (isSp bt) l (spn (isLe bt) l (spn (isSp bt) l p))))) (nI 0) (nI 100000)
        · have hvb2 := (numOK_bd y2 (by decide) (by decide) hnum2).2
          have hN2 := n3 hnum2
          have hR2 := hMo _ _ _ _ _ _ _ _ hR1 (r3 hnum2)
          obtain ⟨Y, hY⟩ : ∃ Y, Y = dvN bt (spn (isSp bt) l (spn (isDi bt) l (spn (isSp bt) l (spn (isLe bt) l (spn (isSp bt) l p))))) ((spn (isDi bt) l (spn (isSp bt) l (spn (isDi bt) l (spn (isSp bt) l (spn (isLe bt) l (spn (isSp bt) l p)))))) - (spn (isSp bt) l (spn (isDi bt) l (spn (isSp bt) l (spn (isLe bt) l (spn (isSp bt) l p)))))) := ⟨_, rfl⟩
          rw [← hY] at hvb2 hN2 hR2
          have hbase : NR (updN (updN v (18 + v 1) X) (26 + v 1) Y) R S W se.2.2.2.2.1 le so wh := NR_congr D1 (by rw [updN_ne _ _ (by omega), updN_ne _ _ (by omega)]) (by rw [updN_ne _ _ (by omega), updN_ne _ _ (by omega)]) (by rw [updN_ne _ _ (by omega), updN_ne _ _ (by omega)]) (by rw [updN_ne _ _ (by omega), updN_ne _ _ (by omega)]) (by rw [updN_ne _ _ (by omega), updN_ne _ _ (by omega)])
          have z1 : (updN (updN v (18 + v 1) X) (26 + v 1) Y) 1 = v 1 := by rw [updN_ne _ _ (by omega), updN_ne _ _ (by omega)]
          have z70 : (updN (updN v (18 + v 1) X) (26 + v 1) Y) 70 = v 70 := by rw [updN_ne _ _ (by omega), updN_ne _ _ (by omega)]
          have hN' := NR_add (le' := le') hbase (t := 1) (Or.inr (Or.inl rfl)) hw (by rw [z70]; exact hnew) (by rw [z70]; exact e2) (by rw [z70]; exact e3) ⟨fun h => absurd h (by decide), fun _ => by rw [z1]; exact hf, fun h => absurd h (by decide), fun h => absurd h (by decide)⟩
          rw [z1, z70] at hN'
          have hcs1 : se.2.2.2.1 1 = nI (v 1) := D3.2.1 1 (by omega)
          have hu : ∀ j, ¬ j = 1 → ¬ j = 70 → ¬ j = 18 + v 1 → ¬ j = 26 + v 1 → (updN (updN (updN (updN v (18 + v 1) X) (26 + v 1) Y) 1 (v 1 + 1)) 70 (v 70 + 1)) j = v j := fun j h1 h2 h3 h4 => by rw [updN_ne _ _ h2, updN_ne _ _ h1, updN_ne _ _ h4, updN_ne _ _ h3]
          have h1' : (updN (updN (updN (updN v (18 + v 1) X) (26 + v 1) Y) 1 (v 1 + 1)) 70 (v 70 + 1)) 1 = v 1 + 1 := by rw [updN_ne _ _ (by decide), updN_at]
          have h70' : (updN (updN (updN (updN v (18 + v 1) X) (26 + v 1) Y) 1 (v 1 + 1)) 70 (v 70 + 1)) 70 = v 70 + 1 := by rw [updN_at]
          have hx' : (updN (updN (updN (updN v (18 + v 1) X) (26 + v 1) Y) 1 (v 1 + 1)) 70 (v 70 + 1)) (18 + v 1) = X := by rw [updN_ne _ _ (by omega), updN_ne _ _ (by omega), updN_ne _ _ (by omega), updN_at]
          have hy' : (updN (updN (updN (updN v (18 + v 1) X) (26 + v 1) Y) 1 (v 1 + 1)) 70 (v 70 + 1)) (26 + v 1) = Y := by rw [updN_ne _ _ (by omega), updN_ne _ _ (by omega), updN_at]
          have hSV : SVd (updN (updN (updN (updN v (18 + v 1) X) (26 + v 1) Y) 1 (v 1 + 1)) 70 (v 70 + 1)) := by
            obtain ⟨w1, w2, w3, w4, w5, w6, w7⟩ := D2
            unfold SVd
            rw [h1', hu 0 (by decide) (by decide) (by omega) (by omega), hu 2 (by decide) (by decide) (by omega) (by omega), hu 3 (by decide) (by decide) (by omega) (by omega), hu 4 (by decide) (by decide) (by omega) (by omega), hu 5 (by decide) (by decide) (by omega) (by omega), hu 6 (by decide) (by decide) (by omega) (by omega), hu 7 (by decide) (by decide) (by omega) (by omega), hu 8 (by decide) (by decide) (by omega) (by omega)]
            refine ⟨⟨w1.1, by omega, w1.2.2.1, w1.2.2.2.1, w1.2.2.2.2⟩, w2, ⟨w3.1, fun t ht => ?_⟩, fun t ht => ?_, fun c hc => ?_, fun q hq => ?_, fun h hh => ?_⟩
            · rw [hu _ (by omega) (by omega) (by omega) (by omega), hu _ (by omega) (by omega) (by omega) (by omega)]; exact w3.2 t ht
            · rw [hu _ (by omega) (by omega) (by omega) (by omega), hu _ (by omega) (by omega) (by omega) (by omega)]; exact w4 t ht
            · by_cases e : c = v 1
              · rw [e, hx', hy']; exact ⟨hvb, hvb2⟩
              · rw [hu _ (by omega) (by omega) (by omega) (by omega), hu _ (by omega) (by omega) (by omega) (by omega)]; exact w5 c (by omega)
            · have := w6 q hq
              rw [hu _ (by omega) (by omega) (by omega) (by omega), hu _ (by omega) (by omega) (by omega) (by omega), hu _ (by omega) (by omega) (by omega) (by omega), hu _ (by omega) (by omega) (by omega) (by omega)]
              exact ⟨by omega, this.2⟩
            · rw [hu _ (by omega) (by omega) (by omega) (by omega)]; exact w7 h hh
          have hSC : SC (updN (updN (updN (updN v (18 + v 1) X) (26 + v 1) Y) 1 (v 1 + 1)) 70 (v 70 + 1)) (se.1, se.2.1, se.2.2.1, upd se.2.2.2.1 1 (nI (v 1 + 1)), upd se.2.2.2.2.1 (12 * 1 + v 1) (nI (lcode (wdN bt (spn (isSp bt) l p) (spn (isLe bt) l (spn (isSp bt) l p) - spn (isSp bt) l p)))), se.2.2.2.2.2.1, se.2.2.2.2.2.2.1, upd se.2.2.2.2.2.2.2.1 (v 1) (nI X), upd se.2.2.2.2.2.2.2.2.1 (v 1) (nI Y), se.2.2.2.2.2.2.2.2.2.1, se.2.2.2.2.2.2.2.2.2.2.1, se.2.2.2.2.2.2.2.2.2.2.2.1, se.2.2.2.2.2.2.2.2.2.2.2.2.1, se.2.2.2.2.2.2.2.2.2.2.2.2.2) := by
            obtain ⟨w1, w2, w3, w4, w5, w6⟩ := D3
            obtain ⟨z1, _⟩ := D2
            unfold SC
            rw [h1', hu 0 (by decide) (by decide) (by omega) (by omega), hu 2 (by decide) (by decide) (by omega) (by omega), hu 4 (by decide) (by decide) (by omega) (by omega), hu 5 (by decide) (by decide) (by omega) (by omega), hu 6 (by decide) (by decide) (by omega) (by omega), hu 7 (by decide) (by decide) (by omega) (by omega)]
            refine ⟨w1, fun i hi => ?_, fun t ht => ?_, fun c hc => ?_, fun q hq => ?_, fun h hh => ?_⟩
            · dsimp only
              by_cases e : i = 1
              · rw [e, upd_at, h1']
              · rw [upd_ne _ _ e, hu _ e (by omega) (by omega) (by omega)]; exact w2 i hi
            · rw [hu _ (by omega) (by omega) (by omega) (by omega), hu _ (by omega) (by omega) (by omega) (by omega)]; exact w3 t ht
            · dsimp only
              by_cases e : c = v 1
              · rw [e, hx', hy', upd_at, upd_at]; exact ⟨rfl, rfl⟩
              · rw [hu _ (by omega) (by omega) (by omega) (by omega), hu _ (by omega) (by omega) (by omega) (by omega), upd_ne _ _ e, upd_ne _ _ e]; exact w4 c (by omega)
            · rw [hu _ (by omega) (by omega) (by omega) (by omega), hu _ (by omega) (by omega) (by omega) (by omega), hu _ (by omega) (by omega) (by omega) (by omega), hu _ (by omega) (by omega) (by omega) (by omega)]; exact w5 q hq
            · rw [hu _ (by omega) (by omega) (by omega) (by omega)]; exact w6 h hh
          have hM4 : ∀ i, i < 71 → i ≠ 0 → (upd (upd (upd (upd rdd 70 (nI (v 70 + 1))) (18 + v 1) (nI X)) (26 + v 1) (nI Y)) 1 (nI (v 1 + 1))) i = nI ((updN (updN (updN (updN v (18 + v 1) X) (26 + v 1) Y) 1 (v 1 + 1)) 70 (v 70 + 1)) i) := by
            intro i h1 h2
            by_cases q1 : i = 1
            · rw [q1, upd_at, h1']
            · rw [upd_ne _ _ q1]
              by_cases q2 : i = 26 + v 1
              · rw [q2, upd_at, hy']
              · rw [upd_ne _ _ q2]
                by_cases q4 : i = 18 + v 1
                · rw [q4, upd_at, hx']
                · rw [upd_ne _ _ q4]
                  by_cases q3 : i = 70
                  · rw [q3, upd_at, h70']
                  · rw [upd_ne _ _ q3, hu _ q1 q3 q4 q2]; exact D4 i h1 h2
          have hDR : ∃ v' R' S' W', DR v' R' S' W' (se.1, se.2.1, se.2.2.1, upd se.2.2.2.1 1 (nI (v 1 + 1)), upd se.2.2.2.2.1 (12 * 1 + v 1) (nI (lcode (wdN bt (spn (isSp bt) l p) (spn (isLe bt) l (spn (isSp bt) l p) - spn (isSp bt) l p)))), se.2.2.2.2.2.1, se.2.2.2.2.2.2.1, upd se.2.2.2.2.2.2.2.1 (v 1) (nI X), upd se.2.2.2.2.2.2.2.2.1 (v 1) (nI Y), se.2.2.2.2.2.2.2.2.2.1, se.2.2.2.2.2.2.2.2.2.2.1, se.2.2.2.2.2.2.2.2.2.2.2.1, se.2.2.2.2.2.2.2.2.2.2.2.2.1, se.2.2.2.2.2.2.2.2.2.2.2.2.2) (upd (upd (upd (upd rdd 70 (nI (v 70 + 1))) (18 + v 1) (nI X)) (26 + v 1) (nI Y)) 1 (nI (v 1 + 1))) le' (upd so (v 70) (nI 1)) (upd wh (v 70) (nI (v 1))) ht sn := by
            refine ⟨(updN (updN (updN (updN v (18 + v 1) X) (26 + v 1) Y) 1 (v 1 + 1)) 70 (v 70 + 1)), _, _, _, hN', hSV, hSC, hM4, ?_, ?_⟩
            · rw [hu 0 (by decide) (by decide) (by omega) (by omega), hu 13 (by decide) (by decide) (by omega) (by omega), upd_ne _ _ (by decide), upd_ne _ _ (by omega), upd_ne _ _ (by omega), upd_ne _ _ (by decide)]
              exact D5
            · dsimp only
              rw [upd_ne _ _ (by decide), upd_ne _ _ (by decide), upd_ne _ _ (by decide)]
              exact D6
          refine ⟨nI (spn (isDi bt) l (spn (isSp bt) l (spn (isDi bt) l (spn (isSp bt) l (spn (isLe bt) l (spn (isSp bt) l p)))))), nI (spn (isSp bt) l (spn (isDi bt) l (spn (isSp bt) l (spn (isLe bt) l (spn (isSp bt) l p))))), 257, -1, upd se.2.2.2.1 1 (nI (v 1 + 1)), upd se.2.2.2.2.1 (12 * 1 + v 1) (nI (lcode (wdN bt (spn (isSp bt) l p) (spn (isLe bt) l (spn (isSp bt) l p) - spn (isSp bt) l p)))), upd se.2.2.2.2.2.2.2.1 (v 1) (nI X), upd se.2.2.2.2.2.2.2.2.1 (v 1) (nI Y), nI (spn (isDi bt) l (spn (isSp bt) l (spn (isDi bt) l (spn (isSp bt) l (spn (isLe bt) l (spn (isSp bt) l p)))))), nI (spn (isSp bt) l (spn (isDi bt) l (spn (isSp bt) l (spn (isLe bt) l (spn (isSp bt) l p))))), -1, (upd (upd (upd (upd rdd 70 (nI (v 70 + 1))) (18 + v 1) (nI X)) (26 + v 1) (nI Y)) 1 (nI (v 1 + 1))), le', upd so (v 70) (nI 1), upd wh (v 70) (nI (v 1)), ?_, ?_, Or.inr ⟨rfl, rfl, (spn (isDi bt) l (spn (isSp bt) l (spn (isDi bt) l (spn (isSp bt) l (spn (isLe bt) l (spn (isSp bt) l p)))))), x2, rfl, rfl, hDR⟩⟩
          · unfold f_X8_readCategory
            rw [c1 hok, Option.bind_some]
            dsimp only
            rw [show f_X8_readNumber N 0 50 600 (nI (spn (isLe bt) l (spn (isSp bt) l p))) (nI (spn (isSp bt) l p)) 256 (-1) (nI l) g = _ from hN1, Option.bind_some]
            dsimp only
            rw [show f_X8_readNumber N 0 100000 600 (nI (spn (isDi bt) l (spn (isSp bt) l (spn (isLe bt) l (spn (isSp bt) l p))))) (nI (spn (isSp bt) l (spn (isLe bt) l (spn (isSp bt) l p)))) 257 (-1) (nI l) g = _ from hN2, Option.bind_some]
            dsimp only
            rw [if_pos rfl]
            unfold f_X7_addCategory f_X7_define
            rw [show (1 : Int32) = nI 1 from rfl, X6_at_in _ (show 8 < 2 ^ 31 by decide) (show 1 < 8 by decide), hcs1, Option.bind_some, show (12 : Int32) = nI 12 from rfl, nI_mul, nI_add, nI_add, X6_put_in _ _ (show 96 < 2 ^ 31 by decide) (show 1 * 12 + v 1 < 96 by omega), Option.bind_some, X6_put_in _ _ (show 8 < 2 ^ 31 by decide) (show 1 < 8 by decide), Option.bind_some, Option.bind_some, X6_put_in _ _ (show 8 < 2 ^ 31 by decide) (show v 1 < 8 by omega), Option.bind_some, X6_put_in _ _ (show 8 < 2 ^ 31 by decide) (show v 1 < 8 by omega)]; rfl
          · rw [hR2, upd_ne _ _ (show ¬ 1 = 26 + v 1 by omega), upd_ne _ _ (show ¬ 1 = 18 + v 1 by omega), upd_ne _ _ (show ¬ 1 = 70 by decide), h10, nI_1]
        · obtain ⟨y, n5⟩ := n4 hnum2
          obtain ⟨q, r5⟩ := r4 hnum2
          have hR2 := hMo _ _ _ _ _ _ _ _ hR1 r5
          refine ⟨nI (tkE bt l (spn (isSp bt) l (spn (isDi bt) l (spn (isSp bt) l (spn (isLe bt) l (spn (isSp bt) l p)))))), nI (spn (isSp bt) l (spn (isDi bt) l (spn (isSp bt) l (spn (isLe bt) l (spn (isSp bt) l p))))), tkK bt l (spn (isSp bt) l (spn (isDi bt) l (spn (isSp bt) l (spn (isLe bt) l (spn (isSp bt) l p))))), nI (spn (isSp bt) l (spn (isDi bt) l (spn (isSp bt) l (spn (isLe bt) l (spn (isSp bt) l p))))), se.2.2.2.1, se.2.2.2.2.1, se.2.2.2.2.2.2.2.1, se.2.2.2.2.2.2.2.2.1, q, nI (spn (isSp bt) l (spn (isDi bt) l (spn (isSp bt) l (spn (isLe bt) l (spn (isSp bt) l p))))), nI (spn (isSp bt) l (spn (isDi bt) l (spn (isSp bt) l (spn (isLe bt) l (spn (isSp bt) l p))))), _, le', upd so (v 70) (nI 1), upd wh (v 70) (rdd 1), ?_, hR2, Or.inl ⟨(spn (isSp bt) l (spn (isDi bt) l (spn (isSp bt) l (spn (isLe bt) l (spn (isSp bt) l p))))), y2, rfl, rfl⟩⟩
          unfold f_X8_readCategory
          rw [c1 hok, Option.bind_some]
          dsimp only
          rw [show f_X8_readNumber N 0 50 600 (nI (spn (isLe bt) l (spn (isSp bt) l p))) (nI (spn (isSp bt) l p)) 256 (-1) (nI l) g = _ from hN1, Option.bind_some]
          dsimp only
          rw [show f_X8_readNumber N 0 100000 600 (nI (spn (isDi bt) l (spn (isSp bt) l (spn (isLe bt) l (spn (isSp bt) l p))))) (nI (spn (isSp bt) l (spn (isLe bt) l (spn (isSp bt) l p)))) 257 (-1) (nI l) g = _ from n5, Option.bind_some]
          dsimp only
          rw [if_neg (nI_neg1 (by omega))]
      · obtain ⟨y, n3⟩ := n2 hnum
        obtain ⟨q, r3⟩ := r2 hnum
        have hR1 := hMo _ _ _ _ _ _ _ _ r3 (reads_err (by omega) _ _ _ _ _ _ _ _ _)
        refine ⟨nI (tkE bt l (spn (isSp bt) l (spn (isLe bt) l (spn (isSp bt) l p)))), nI (spn (isSp bt) l (spn (isLe bt) l (spn (isSp bt) l p))), tkK bt l (spn (isSp bt) l (spn (isLe bt) l (spn (isSp bt) l p))), nI (spn (isSp bt) l (spn (isLe bt) l (spn (isSp bt) l p))), se.2.2.2.1, se.2.2.2.2.1, se.2.2.2.2.2.2.2.1, se.2.2.2.2.2.2.2.2.1, q, nI (spn (isSp bt) l (spn (isLe bt) l (spn (isSp bt) l p))), nI (spn (isSp bt) l (spn (isLe bt) l (spn (isSp bt) l p))), _, le', upd so (v 70) (nI 1), upd wh (v 70) (rdd 1), ?_, hR1, Or.inl ⟨(spn (isSp bt) l (spn (isLe bt) l (spn (isSp bt) l p))), k2, rfl, rfl⟩⟩
        unfold f_X8_readCategory
        rw [c1 hok, Option.bind_some]
        dsimp only
        rw [show f_X8_readNumber N 0 50 600 (nI (spn (isLe bt) l (spn (isSp bt) l p))) (nI (spn (isSp bt) l p)) 256 (-1) (nI l) g = _ from n3, Option.bind_some]
        dsimp only
        rw [C_num_err (by omega), Option.bind_some]
        dsimp only
        rw [if_neg (nI_neg1 (by omega))]
    · obtain ⟨y, c3⟩ := c2 hok
      obtain ⟨q, m3⟩ := m2 hok
      refine ⟨nI (tkE bt l (spn (isSp bt) l p)), nI (spn (isSp bt) l p), tkK bt l (spn (isSp bt) l p), nI (spn (isSp bt) l p), se.2.2.2.1, se.2.2.2.2.1, se.2.2.2.2.2.2.2.1, se.2.2.2.2.2.2.2.2.1, q, nI (spn (isSp bt) l p), nI (spn (isSp bt) l p), rdd, le, so, wh, ?_, ?_, Or.inl ⟨(spn (isSp bt) l p), a2, rfl, rfl⟩⟩
      · unfold f_X8_readCategory
        rw [c3, Option.bind_some]
        dsimp only
        rw [C_num_err (by omega), Option.bind_some]
        dsimp only
        rw [C_num_err (by omega), Option.bind_some]
        dsimp only
        rw [if_neg (nI_neg1 (by omega))]
      · unfold f_X11_readsCategory
        rw [show f_X11_room (1 : Int32) (8 : Int32) 71 (nI s0) (-1) rdd = some (-1) from hroom, Option.bind_some, show f_X11_names N (1 : Int32) 71 192 32 32 600 (nI l) (nI p) (nI s0) (-1) rdd le so wh buf = _ from m3, Option.bind_some]
        dsimp only
        rw [if_neg g1, Option.bind_some, fine_no (by omega), Option.bind_some, if_pos rfl]


