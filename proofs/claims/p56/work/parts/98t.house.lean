/-- the household statement -/
theorem S_house {v : Nat → Nat} {R : Nat → Nat → Nat} {S W : Nat → Nat} {se : T_SE} {rdd le so wh : Nat → Int32} {ht sn : Int32} (HD : DR v R S W se rdd le so wh ht sn) {bt : Nat → Nat} {l : Nat} {g buf : Nat → Int32} (H : TB bt l g buf) {p s0 : Nat} (hp : p ≤ l) (hs0 : s0 ≤ l) {N : Nat} (hN : 700 < N) : (v 4 = 4 → ∃ a b, f_X11_readsHouse N 71 192 32 32 600 (nI l) (nI p) (nI s0) (-1) rdd le so wh buf = some (a, b, nI s0, rdd, le, so, wh)) ∧ (v 4 < 4 → ∃ pc sc tc ec cs' nm' sh' pm tm em rdd' le' so' wh', f_X8_readHouse N 600 8 96 4 (nI p) (-1) (nI l) g se.2.2.2.1 se.2.2.2.2.1 se.2.2.2.2.2.2.2.2.2.2.2.2.2 = some (pc, sc, tc, ec, cs', nm', sh') ∧ f_X11_readsHouse N 71 192 32 32 600 (nI l) (nI p) (nI s0) (-1) rdd le so wh buf = some (pm, tm, em, rdd', le', so', wh') ∧ OUT l pc ec (se.1, se.2.1, se.2.2.1, cs', nm', se.2.2.2.2.2.1, se.2.2.2.2.2.2.1, se.2.2.2.2.2.2.2.1, se.2.2.2.2.2.2.2.2.1, se.2.2.2.2.2.2.2.2.2.1, se.2.2.2.2.2.2.2.2.2.2.1, se.2.2.2.2.2.2.2.2.2.2.2.1, se.2.2.2.2.2.2.2.2.2.2.2.2.1, sh') pm em ht sn rdd' le' so' wh') := by
  obtain ⟨D1, D2, D3, D4, D5, D6⟩ := HD
  have hl := H.1
  have h40 := D4 4 (by omega) (by decide)
  have h70 := D4 70 (by omega) (by decide)
  have hv4 := D2.1.2.2.2.2
  have hv70 : v 70 < 32 := by have := D1.1; omega
  have hroom := room_in (i := 4) (m := 4) (q := s0) (by omega) h40 (by omega) (by omega) (by omega)
  constructor
  · intro hf
    rw [if_pos hf] at hroom
    unfold f_X11_readsHouse
    rw [show f_X11_room (4 : Int32) (4 : Int32) 71 (nI s0) (-1) rdd = some (nI s0) from hroom, Option.bind_some, names_err (by omega), Option.bind_some]
    dsimp only
    rw [fine_no (by omega), Option.bind_some, if_pos rfl]
    exact ⟨_, _, rfl⟩
  · intro hf
    rw [if_neg (by omega)] at hroom
    obtain ⟨c1, c2⟩ := C_newName D1 H hp hN
    obtain ⟨m1, m2⟩ := M_names D1 H hp (t := 4) (by omega) h70 hv70 (nI s0) hN
    obtain ⟨a1, a2, a3, a4⟩ := spn_spec (f := isSp bt) hp
    obtain ⟨b1, b2, b3, b4⟩ := spn_spec (f := isLe bt) a2
    obtain ⟨k1, k2, k3, k4⟩ := spn_spec (f := isSp bt) b2
    obtain ⟨j1, j2, j3, j4⟩ := spn_spec (f := isDi bt) k2
    have g4 : ¬ ((4 : Int32) < 0 ∨ 71 ≤ (4 : Int32).toNatClampNeg) := by decide
    have g4' : ¬ ((4 : Int32) < 0 ∨ 71 ≤ 4) := by decide
    by_cases hok : newN bt l (spn (isSp bt) l p) (v 70) le buf
    · obtain ⟨le', e1, e2, e3⟩ := m1 hok
      have hw := isW_wd ((spn_isW a2).mpr hok.1)
      have hnew : ∀ r, r < v 70 → ¬ lcode (R r) = lcode (wdN bt (spn (isSp bt) l p) (spn (isLe bt) l (spn (isSp bt) l p) - spn (isSp bt) l p)) := by
        intro r hr hh
        obtain ⟨q1, q2, _⟩ := D1.2.1 r hr
        refine hok.2.2 r hr ((isRow_wd q1 q2 (TB_row H a2)).mpr ⟨(spn_isW a2).mpr hok.1, lcode_inj q1 hw hh⟩)
      obtain ⟨n1, n2⟩ := C_readNumber H b2 (nI 0) (nI 100) (nI (spn (isSp bt) l p)) 256 hN
      obtain ⟨r1, r2⟩ := M_reads H b2 (i := 66 + v 4) (by omega) (nI 0) (nI 100) (nI (spn (isSp bt) l p)) (upd rdd 70 (nI (v 70 + 1))) hN
      have hMo : ∀ (a b em : Int32) (rd' : Nat → Int32), f_X11_reads N (nI (66 + v 4)) (nI 0) (nI 100) 71 600 (nI l) (nI (spn (isLe bt) l (spn (isSp bt) l p))) (nI (spn (isSp bt) l p)) (-1) (upd rdd 70 (nI (v 70 + 1))) buf = some (a, b, em, rd') → f_X11_readsHouse N 71 192 32 32 600 (nI l) (nI p) (nI s0) (-1) rdd le so wh buf = some (a, b, em, upd rd' 4 (rd' 4 + 1), le', upd so (v 70) (nI 4), upd wh (v 70) (rdd 4)) := by
        intro a b em rd' hr
        unfold f_X11_readsHouse
        rw [show f_X11_room (4 : Int32) (4 : Int32) 71 (nI s0) (-1) rdd = some (-1) from hroom, Option.bind_some, show f_X11_names N (4 : Int32) 71 192 32 32 600 (nI l) (nI p) (nI s0) (-1) rdd le so wh buf = _ from e1, Option.bind_some]
        dsimp only
        rw [fine_yes, Option.bind_some, if_neg (show ¬ (1 : Int32) = 0 by decide), if_neg g4, show (4 : Int32).toNatClampNeg = 4 from rfl, upd_ne _ _ (show ¬ 4 = 70 by decide), h40, show (66 : Int32) = nI 66 from rfl, nI_add, show f_X11_reads N (nI (66 + v 4)) 0 100 71 600 (nI l) (nI (spn (isLe bt) l (spn (isSp bt) l p))) (nI (spn (isSp bt) l p)) (-1) (upd rdd 70 (nI (v 70 + 1))) buf = _ from hr, Option.bind_some]
        dsimp only
        rw [if_neg g4', if_neg g4', Option.bind_some]
      by_cases hnum : numOK bt l (spn (isSp bt) l (spn (isLe bt) l (spn (isSp bt) l p))) (nI 0) (nI 100)
      · have hvb := (numOK_bd k2 (by decide) (by decide) hnum).2
        have hN1 := n1 hnum
        have hR1 := hMo _ _ _ _ (r1 hnum)
        obtain ⟨X, hX⟩ : ∃ X, X = dvN bt (spn (isSp bt) l (spn (isLe bt) l (spn (isSp bt) l p))) ((spn (isDi bt) l (spn (isSp bt) l (spn (isLe bt) l (spn (isSp bt) l p)))) - (spn (isSp bt) l (spn (isLe bt) l (spn (isSp bt) l p)))) := ⟨_, rfl⟩
        rw [← hX] at hvb hN1 hR1
        have hbase : NR (updN v (66 + v 4) X) R S W se.2.2.2.2.1 le so wh := NR_congr D1 (updN_ne _ _ (by omega)) (updN_ne _ _ (by omega)) (updN_ne _ _ (by omega)) (updN_ne _ _ (by omega)) (updN_ne _ _ (by omega))
        have z4 : updN v (66 + v 4) X 4 = v 4 := updN_ne _ _ (by omega)
        have z70 : updN v (66 + v 4) X 70 = v 70 := updN_ne _ _ (by omega)
        have hN' := NR_add (le' := le') hbase (t := 4) (Or.inr (Or.inr (Or.inr rfl))) hw (by rw [z70]; exact hnew) (by rw [z70]; exact e2) (by rw [z70]; exact e3) ⟨fun h => absurd h (by decide), fun h => absurd h (by decide), fun h => absurd h (by decide), fun _ => by rw [z4]; exact hf⟩
        rw [z4, z70] at hN'
        have hcs4 : se.2.2.2.1 4 = nI (v 4) := D3.2.1 4 (by omega)
        have hu : ∀ j, ¬ j = 4 → ¬ j = 70 → ¬ j = 66 + v 4 → (updN (updN (updN v (66 + v 4) X) 4 (v 4 + 1)) 70 (v 70 + 1)) j = v j := fun j h1 h2 h3 => by rw [updN_ne _ _ h2, updN_ne _ _ h1, updN_ne _ _ h3]
        have h4' : (updN (updN (updN v (66 + v 4) X) 4 (v 4 + 1)) 70 (v 70 + 1)) 4 = v 4 + 1 := by rw [updN_ne _ _ (by decide), updN_at]
        have h70' : (updN (updN (updN v (66 + v 4) X) 4 (v 4 + 1)) 70 (v 70 + 1)) 70 = v 70 + 1 := by rw [updN_at]
        have hx' : (updN (updN (updN v (66 + v 4) X) 4 (v 4 + 1)) 70 (v 70 + 1)) (66 + v 4) = X := by rw [updN_ne _ _ (by omega), updN_ne _ _ (by omega), updN_at]
        have hSV : SVd (updN (updN (updN v (66 + v 4) X) 4 (v 4 + 1)) 70 (v 70 + 1)) := by
          obtain ⟨w1, w2, w3, w4, w5, w6, w7⟩ := D2
          unfold SVd
          rw [h4', hu 0 (by decide) (by decide) (by omega), hu 1 (by decide) (by decide) (by omega), hu 2 (by decide) (by decide) (by omega), hu 3 (by decide) (by decide) (by omega), hu 5 (by decide) (by decide) (by omega), hu 6 (by decide) (by decide) (by omega), hu 7 (by decide) (by decide) (by omega), hu 8 (by decide) (by decide) (by omega)]
          refine ⟨⟨w1.1, w1.2.1, w1.2.2.1, w1.2.2.2.1, by omega⟩, w2, ⟨w3.1, fun t ht => ?_⟩, fun t ht => ?_, fun c hc => ?_, fun q hq => ?_, fun h hh => ?_⟩
          · rw [hu _ (by omega) (by omega) (by omega), hu _ (by omega) (by omega) (by omega)]; exact w3.2 t ht
          · rw [hu _ (by omega) (by omega) (by omega), hu _ (by omega) (by omega) (by omega)]; exact w4 t ht
          · rw [hu _ (by omega) (by omega) (by omega), hu _ (by omega) (by omega) (by omega)]; exact w5 c hc
          · rw [hu _ (by omega) (by omega) (by omega), hu _ (by omega) (by omega) (by omega), hu _ (by omega) (by omega) (by omega), hu _ (by omega) (by omega) (by omega)]; exact w6 q hq
          · by_cases e : h = v 4
            · rw [e, hx']; exact hvb
            · rw [hu _ (by omega) (by omega) (by omega)]; exact w7 h (by omega)
        have hSC : SC (updN (updN (updN v (66 + v 4) X) 4 (v 4 + 1)) 70 (v 70 + 1)) (se.1, se.2.1, se.2.2.1, upd se.2.2.2.1 4 (nI (v 4 + 1)), upd se.2.2.2.2.1 (12 * 4 + v 4) (nI (lcode (wdN bt (spn (isSp bt) l p) (spn (isLe bt) l (spn (isSp bt) l p) - spn (isSp bt) l p)))), se.2.2.2.2.2.1, se.2.2.2.2.2.2.1, se.2.2.2.2.2.2.2.1, se.2.2.2.2.2.2.2.2.1, se.2.2.2.2.2.2.2.2.2.1, se.2.2.2.2.2.2.2.2.2.2.1, se.2.2.2.2.2.2.2.2.2.2.2.1, se.2.2.2.2.2.2.2.2.2.2.2.2.1, upd se.2.2.2.2.2.2.2.2.2.2.2.2.2 (v 4) (nI X)) := by
          obtain ⟨w1, w2, w3, w4, w5, w6⟩ := D3
          obtain ⟨z1, _⟩ := D2
          unfold SC
          rw [h4', hu 0 (by decide) (by decide) (by omega), hu 1 (by decide) (by decide) (by omega), hu 2 (by decide) (by decide) (by omega), hu 5 (by decide) (by decide) (by omega), hu 6 (by decide) (by decide) (by omega), hu 7 (by decide) (by decide) (by omega)]
          refine ⟨w1, fun i hi => ?_, fun t ht => ?_, fun c hc => ?_, fun q hq => ?_, fun h hh => ?_⟩
          · dsimp only
            by_cases e : i = 4
            · rw [e, upd_at, h4']
            · rw [upd_ne _ _ e, hu _ e (by omega) (by omega)]; exact w2 i hi
          · rw [hu _ (by omega) (by omega) (by omega), hu _ (by omega) (by omega) (by omega)]; exact w3 t ht
          · rw [hu _ (by omega) (by omega) (by omega), hu _ (by omega) (by omega) (by omega)]; exact w4 c hc
          · rw [hu _ (by omega) (by omega) (by omega), hu _ (by omega) (by omega) (by omega), hu _ (by omega) (by omega) (by omega), hu _ (by omega) (by omega) (by omega)]; exact w5 q hq
          · dsimp only
            by_cases e : h = v 4
            · rw [e, hx', upd_at]
            · rw [hu _ (by omega) (by omega) (by omega), upd_ne _ _ e]; exact w6 h (by omega)
        have hM4 : ∀ i, i < 71 → i ≠ 0 → (upd (upd (upd rdd 70 (nI (v 70 + 1))) (66 + v 4) (nI X)) 4 (nI (v 4 + 1))) i = nI ((updN (updN (updN v (66 + v 4) X) 4 (v 4 + 1)) 70 (v 70 + 1)) i) := by
          intro i h1 h2
          by_cases q1 : i = 4
          · rw [q1, upd_at, h4']
          · rw [upd_ne _ _ q1]
            by_cases q2 : i = 66 + v 4
            · rw [q2, upd_at, hx']
            · rw [upd_ne _ _ q2]
              by_cases q3 : i = 70
              · rw [q3, upd_at, h70']
              · rw [upd_ne _ _ q3, hu _ q1 q3 q2]; exact D4 i h1 h2
        have hDR : ∃ v' R' S' W', DR v' R' S' W' (se.1, se.2.1, se.2.2.1, upd se.2.2.2.1 4 (nI (v 4 + 1)), upd se.2.2.2.2.1 (12 * 4 + v 4) (nI (lcode (wdN bt (spn (isSp bt) l p) (spn (isLe bt) l (spn (isSp bt) l p) - spn (isSp bt) l p)))), se.2.2.2.2.2.1, se.2.2.2.2.2.2.1, se.2.2.2.2.2.2.2.1, se.2.2.2.2.2.2.2.2.1, se.2.2.2.2.2.2.2.2.2.1, se.2.2.2.2.2.2.2.2.2.2.1, se.2.2.2.2.2.2.2.2.2.2.2.1, se.2.2.2.2.2.2.2.2.2.2.2.2.1, upd se.2.2.2.2.2.2.2.2.2.2.2.2.2 (v 4) (nI X)) (upd (upd (upd rdd 70 (nI (v 70 + 1))) (66 + v 4) (nI X)) 4 (nI (v 4 + 1))) le' (upd so (v 70) (nI 4)) (upd wh (v 70) (nI (v 4))) ht sn := by
          refine ⟨(updN (updN (updN v (66 + v 4) X) 4 (v 4 + 1)) 70 (v 70 + 1)), _, _, _, hN', hSV, hSC, hM4, ?_, ?_⟩
          · rw [hu 0 (by decide) (by decide) (by omega), hu 13 (by decide) (by decide) (by omega), upd_ne _ _ (by decide), upd_ne _ _ (by omega), upd_ne _ _ (by decide)]
            exact D5
          · dsimp only
            rw [upd_ne _ _ (by decide), upd_ne _ _ (by decide), upd_ne _ _ (by decide)]
            exact D6
        refine ⟨nI (spn (isDi bt) l (spn (isSp bt) l (spn (isLe bt) l (spn (isSp bt) l p)))), nI (spn (isSp bt) l (spn (isLe bt) l (spn (isSp bt) l p))), 257, -1, upd se.2.2.2.1 4 (nI (v 4 + 1)), upd se.2.2.2.2.1 (12 * 4 + v 4) (nI (lcode (wdN bt (spn (isSp bt) l p) (spn (isLe bt) l (spn (isSp bt) l p) - spn (isSp bt) l p)))), upd se.2.2.2.2.2.2.2.2.2.2.2.2.2 (v 4) (nI X), nI (spn (isDi bt) l (spn (isSp bt) l (spn (isLe bt) l (spn (isSp bt) l p)))), nI (spn (isSp bt) l (spn (isLe bt) l (spn (isSp bt) l p))), -1, (upd (upd (upd rdd 70 (nI (v 70 + 1))) (66 + v 4) (nI X)) 4 (nI (v 4 + 1))), le', upd so (v 70) (nI 4), upd wh (v 70) (nI (v 4)), ?_, ?_, Or.inr ⟨rfl, rfl, (spn (isDi bt) l (spn (isSp bt) l (spn (isLe bt) l (spn (isSp bt) l p)))), j2, rfl, rfl, hDR⟩⟩
        · unfold f_X8_readHouse
          rw [c1 hok, Option.bind_some]
          dsimp only
          rw [show f_X8_readNumber N 0 100 600 (nI (spn (isLe bt) l (spn (isSp bt) l p))) (nI (spn (isSp bt) l p)) 256 (-1) (nI l) g = _ from hN1, Option.bind_some]
          dsimp only
          rw [if_pos rfl]
          unfold f_X7_addHouse f_X7_define
          rw [show (4 : Int32) = nI 4 from rfl, X6_at_in _ (show 8 < 2 ^ 31 by decide) (show 4 < 8 by decide), hcs4, Option.bind_some, show (12 : Int32) = nI 12 from rfl, nI_mul, nI_add, X6_put_in _ _ (show 96 < 2 ^ 31 by decide) (show 4 * 12 + v 4 < 96 by omega), Option.bind_some, nI_1, X6_put_in _ _ (show 8 < 2 ^ 31 by decide) (show 4 < 8 by decide), Option.bind_some, Option.bind_some, X6_put_in _ _ (show 4 < 2 ^ 31 by decide) (show v 4 < 4 by omega)]; rfl
        · rw [hR1, upd_ne _ _ (show ¬ 4 = 66 + v 4 by omega), upd_ne _ _ (show ¬ 4 = 70 by decide), h40, nI_1]
      · obtain ⟨y, n3⟩ := n2 hnum
        obtain ⟨q, r3⟩ := r2 hnum
        have hR1 := hMo _ _ _ _ r3
        refine ⟨nI (tkE bt l (spn (isSp bt) l (spn (isLe bt) l (spn (isSp bt) l p)))), nI (spn (isSp bt) l (spn (isLe bt) l (spn (isSp bt) l p))), tkK bt l (spn (isSp bt) l (spn (isLe bt) l (spn (isSp bt) l p))), nI (spn (isSp bt) l (spn (isLe bt) l (spn (isSp bt) l p))), se.2.2.2.1, se.2.2.2.2.1, se.2.2.2.2.2.2.2.2.2.2.2.2.2, q, nI (spn (isSp bt) l (spn (isLe bt) l (spn (isSp bt) l p))), nI (spn (isSp bt) l (spn (isLe bt) l (spn (isSp bt) l p))), _, le', upd so (v 70) (nI 4), upd wh (v 70) (rdd 4), ?_, hR1, Or.inl ⟨(spn (isSp bt) l (spn (isLe bt) l (spn (isSp bt) l p))), k2, rfl, rfl⟩⟩
        unfold f_X8_readHouse
        rw [c1 hok, Option.bind_some]
        dsimp only
        rw [show f_X8_readNumber N 0 100 600 (nI (spn (isLe bt) l (spn (isSp bt) l p))) (nI (spn (isSp bt) l p)) 256 (-1) (nI l) g = _ from n3, Option.bind_some]
        dsimp only
        rw [if_neg (nI_neg1 (by omega))]
    · obtain ⟨y, c3⟩ := c2 hok
      obtain ⟨q, m3⟩ := m2 hok
      refine ⟨nI (tkE bt l (spn (isSp bt) l p)), nI (spn (isSp bt) l p), tkK bt l (spn (isSp bt) l p), nI (spn (isSp bt) l p), se.2.2.2.1, se.2.2.2.2.1, se.2.2.2.2.2.2.2.2.2.2.2.2.2, q, nI (spn (isSp bt) l p), nI (spn (isSp bt) l p), rdd, le, so, wh, ?_, ?_, Or.inl ⟨(spn (isSp bt) l p), a2, rfl, rfl⟩⟩
      · unfold f_X8_readHouse
        rw [c3, Option.bind_some]
        dsimp only
        rw [C_num_err (by omega), Option.bind_some]
        dsimp only
        rw [if_neg (nI_neg1 (by omega))]
      · unfold f_X11_readsHouse
        rw [show f_X11_room (4 : Int32) (4 : Int32) 71 (nI s0) (-1) rdd = some (-1) from hroom, Option.bind_some, show f_X11_names N (4 : Int32) 71 192 32 32 600 (nI l) (nI p) (nI s0) (-1) rdd le so wh buf = _ from m3, Option.bind_some]
        dsimp only
        rw [fine_no (by omega), Option.bind_some, if_pos rfl]


