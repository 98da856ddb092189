/-- the tier statement, once a tier is being read -/
theorem S_tier0 {v : Nat → Nat} {R : Nat → Nat → Nat} {S W : Nat → Nat} {se : T_SE} {rd le so wh : Nat → Int32} {sn : Int32} (D1 : NR v R S W se.2.2.2.2.1 le so wh) (D2 : SVd v) (D3 : SC v se) (D4 : ∀ i, i < 71 → rd i = nI (v i)) (D6 : ∃ a b c, a ≤ 1 ∧ b ≤ 1 ∧ c ≤ 1 ∧ sn = nI (32 * a + 64 * b + 128 * c) ∧ se.2.2.2.1 5 = nI a ∧ se.2.2.2.1 6 = nI b ∧ se.2.2.2.1 7 = nI c) {bt : Nat → Nat} {l : Nat} {g buf : Nat → Int32} (H : TB bt l g buf) {p s0 : Nat} (hp : p ≤ l) (hs0 : s0 ≤ l) {N : Nat} (hN : 700 < N) : (v 0 = 5 → ∃ a b ht' r1 r2 r3 r4, f_X11_readsTier_b26 N 71 192 32 32 600 (nI l) (nI p) (nI s0) (-1) 1 rd le so wh buf = some (a, b, nI s0, ht', r1, r2, r3, r4)) ∧ (v 0 < 5 → ∃ pc sc tc ec cs' nm' th' bo' pm tm em ht' rdd' le' so' wh', f_X8_readTier N 600 8 96 5 5 (nI p) (-1) (nI l) g se.2.2.2.1 se.2.2.2.2.1 se.2.2.2.2.2.1 se.2.2.2.2.2.2.1 = some (pc, sc, tc, ec, cs', nm', th', bo') ∧ f_X11_readsTier_b26 N 71 192 32 32 600 (nI l) (nI p) (nI s0) (-1) 1 rd le so wh buf = some (pm, tm, em, ht', rdd', le', so', wh') ∧ OUT l pc ec (se.1, se.2.1, se.2.2.1, cs', nm', th', bo', se.2.2.2.2.2.2.2.1, se.2.2.2.2.2.2.2.2.1, se.2.2.2.2.2.2.2.2.2.1, se.2.2.2.2.2.2.2.2.2.2.1, se.2.2.2.2.2.2.2.2.2.2.2.1, se.2.2.2.2.2.2.2.2.2.2.2.2.1, se.2.2.2.2.2.2.2.2.2.2.2.2.2) pm em ht' sn rdd' le' so' wh') := by
  have hl := H.1
  have h00 := D4 0 (by omega)
  have h70 := D4 70 (by omega)
  have hv0 := D2.1.1
  have hv70 : v 70 < 32 := by have := D1.1; omega
  have hroom := room_in (i := 0) (m := 5) (q := s0) (by omega) h00 (by omega) (by omega) (by omega)
  have g0 : ¬ ((0 : Int32) < 0 ∨ 71 ≤ (0 : Int32).toNatClampNeg) := by decide
  have g0' : ¬ ((0 : Int32) < 0 ∨ 71 ≤ 0) := by decide
  constructor
  · intro hf
    rw [if_pos hf] at hroom
    unfold f_X11_readsTier_b26
    rw [show f_X11_room (0 : Int32) (5 : Int32) 71 (nI s0) (-1) rd = some (nI s0) from hroom, Option.bind_some, names_err (by omega), Option.bind_some]
    dsimp only
    rw [if_neg g0, Option.bind_some, fine_no (by omega), Option.bind_some, if_pos rfl]
    exact ⟨_, _, _, _, _, _, _, rfl⟩
  · intro hf
    rw [if_neg (by omega)] at hroom
    obtain ⟨c1, c2⟩ := C_newName D1 H hp hN
    obtain ⟨m1, m2⟩ := M_names D1 H hp (t := 0) (by omega) h70 hv70 (nI s0) hN
    obtain ⟨a1, a2, a3, a4⟩ := spn_spec (f := isSp bt) hp
    obtain ⟨b1, b2, b3, b4⟩ := spn_spec (f := isLe bt) a2
    obtain ⟨k1, k2, k3, k4⟩ := spn_spec (f := isSp bt) b2
    obtain ⟨j1, j2, j3, j4⟩ := spn_spec (f := isDi bt) k2
    obtain ⟨y1, y2, y3, y4⟩ := spn_spec (f := isSp bt) j2
    obtain ⟨x1, x2, x3, x4⟩ := spn_spec (f := isDi bt) y2
    have hcs0 : se.2.2.2.1 0 = nI (v 0) := D3.2.1 0 (by omega)
    have hthb : v 0 ≠ 0 → v (8 + v 0 - 1) ≤ 1000000 := fun h => by
      have := (D2.2.2.1.2 (v 0 - 1) (by omega)).1
      rw [show 8 + (v 0 - 1) = 8 + v 0 - 1 by omega] at this
      exact this
    have hCl : ∀ (nx : Int32 × Int32 × Int32 × Int32 × Int32) (q : Int32 × Int32 × Int32 × Int32 × Int32), f_X8_readNewName N 600 96 (nI p) (-1) (nI l) g se.2.2.2.2.1 = some nx → f_X8_readNumber N (nI (if v 0 = 0 then 0 else v (8 + v 0 - 1) + 1)) (nI (if v 0 = 0 then 0 else 1000000)) 600 nx.2.1 nx.2.2.1 nx.2.2.2.1 nx.2.2.2.2 (nI l) g = some q → f_X8_readTier N 600 8 96 5 5 (nI p) (-1) (nI l) g se.2.2.2.1 se.2.2.2.2.1 se.2.2.2.2.2.1 se.2.2.2.2.2.2.1 = f_X8_readTier_b45 N nx.1 q.1 600 8 96 5 5 q.2.1 q.2.2.1 q.2.2.2.1 q.2.2.2.2 (nI l) g se.2.2.2.1 se.2.2.2.2.1 se.2.2.2.2.2.1 se.2.2.2.2.2.2.1 := by
      intro nx q h1 h2
      unfold f_X8_readTier f_X7_count
      rw [show (0 : Int32) = nI 0 from rfl, X6_at_in _ (show 8 < 2 ^ 31 by decide) (show 0 < 8 by decide), hcs0, Option.bind_some, Option.bind_some, h1, Option.bind_some]
      by_cases e : v 0 = 0
      · rw [if_pos (by rw [e])]
        rw [if_pos e, if_pos e] at h2
        rw [h2]; rfl
      · rw [if_neg (fun hh => e ((nI_eq (by omega) (by decide)).mp hh))]
        rw [if_neg e, if_neg e] at h2
        unfold f_X7_thresholdOf
        have h3 := (D3.2.2.1 (v 0 - 1) (by omega)).1
        rw [show 8 + (v 0 - 1) = 8 + v 0 - 1 by omega] at h3
        rw [show (1 : Int32) = nI 1 from rfl, nI_subI (by omega), X6_at_in _ (show 5 < 2 ^ 31 by decide) (show v 0 - 1 < 5 by omega), h3, Option.bind_some, Option.bind_some, nI_add, show f_X8_readNumber N (nI (v (8 + v 0 - 1) + 1)) 1000000 600 nx.2.1 nx.2.2.1 nx.2.2.2.1 nx.2.2.2.2 (nI l) g = _ from h2]; rfl
    have hlo : (if v 0 = 0 then 0 else v (8 + v 0 - 1) + 1) < 2 ^ 31 := by
      by_cases h : v 0 = 0
      · rw [if_pos h]; omega
      · rw [if_neg h]; have := hthb h; omega
    have hhi : (if v 0 = 0 then 0 else 1000000) < 2 ^ 31 := by
      by_cases h : v 0 = 0
      · rw [if_pos h]; omega
      · rw [if_neg h]; omega
    by_cases hok : newN bt l (spn (isSp bt) l p) (v 70) le buf
    · obtain ⟨le', e1, e2, e3⟩ := m1 hok
      have hw := isW_wd ((spn_isW a2).mpr hok.1)
      have hnew : ∀ r, r < v 70 → ¬ lcode (R r) = lcode (wdN bt (spn (isSp bt) l p) (spn (isLe bt) l (spn (isSp bt) l p) - spn (isSp bt) l p)) := by
        intro r hr hh
        obtain ⟨q1, q2, _⟩ := D1.2.1 r hr
        refine hok.2.2 r hr ((isRow_wd q1 q2 (TB_row H a2)).mpr ⟨(spn_isW a2).mpr hok.1, lcode_inj q1 hw hh⟩)
      obtain ⟨n1, n2⟩ := C_readNumber H b2 (nI (if v 0 = 0 then 0 else v (8 + v 0 - 1) + 1)) (nI (if v 0 = 0 then 0 else 1000000)) (nI (spn (isSp bt) l p)) 256 hN
      obtain ⟨r1, r2⟩ := M_reads H b2 (i := 8 + v 0) (by omega) (nI (if v 0 = 0 then 0 else v (8 + v 0 - 1) + 1)) (nI (if v 0 = 0 then 0 else 1000000)) (nI (spn (isSp bt) l p)) (upd rd 70 (nI (v 70 + 1))) hN
      have hMo : ∀ (a b em : Int32) (rd' : Nat → Int32) (a2 b2 em2 : Int32) (rd2 : Nat → Int32), f_X11_reads N (nI (8 + v 0)) (nI (if v 0 = 0 then 0 else v (8 + v 0 - 1) + 1)) (nI (if v 0 = 0 then 0 else 1000000)) 71 600 (nI l) (nI (spn (isLe bt) l (spn (isSp bt) l p))) (nI (spn (isSp bt) l p)) (-1) (upd rd 70 (nI (v 70 + 1))) buf = some (a, b, em, rd') → f_X11_reads N (nI (13 + v 0)) (nI 0) (nI 300) 71 600 (nI l) a b em rd' buf = some (a2, b2, em2, rd2) → f_X11_readsTier_b26 N 71 192 32 32 600 (nI l) (nI p) (nI s0) (-1) 1 rd le so wh buf = some (a2, b2, em2, 1, upd rd2 0 (rd2 0 + 1), le', upd so (v 70) (nI 0), upd wh (v 70) (nI (v 0))) := by
        intro a b em rd' a2 b2 em2 rd2 hr hr2
        have hb88 : f_X11_readsTier_b88 N (nI (v 0)) (nI (8 + v 0)) (nI (if v 0 = 0 then 0 else v (8 + v 0 - 1) + 1)) (nI (if v 0 = 0 then 0 else 1000000)) 71 600 (nI l) (nI (spn (isLe bt) l (spn (isSp bt) l p))) (nI (spn (isSp bt) l p)) (-1) 1 (upd rd 70 (nI (v 70 + 1))) le' (upd so (v 70) (nI 0)) (upd wh (v 70) (nI (v 0))) buf = some (a2, b2, em2, 1, upd rd2 0 (rd2 0 + 1), le', upd so (v 70) (nI 0), upd wh (v 70) (nI (v 0))) := by
          unfold f_X11_readsTier_b88
          rw [hr, Option.bind_some]
          dsimp only
          rw [show (13 : Int32) = nI 13 from rfl, nI_add, show f_X11_reads N (nI (13 + v 0)) 0 300 71 600 (nI l) a b em rd' buf = _ from hr2, Option.bind_some]
          dsimp only
          rw [if_neg g0, if_neg g0, Option.bind_some]; rfl
        unfold f_X11_readsTier_b26
        rw [show f_X11_room (0 : Int32) (5 : Int32) 71 (nI s0) (-1) rd = some (-1) from hroom, Option.bind_some, show f_X11_names N (0 : Int32) 71 192 32 32 600 (nI l) (nI p) (nI s0) (-1) rd le so wh buf = _ from e1, Option.bind_some]
        dsimp only
        rw [if_neg g0, show (0 : Int32).toNatClampNeg = 0 from rfl, Option.bind_some, fine_yes, Option.bind_some, if_neg (show ¬ (1 : Int32) = 0 by decide), upd_ne _ _ (show ¬ 0 = 70 by decide), h00, show (8 : Int32) = nI 8 from rfl, nI_add]
        unfold f_X11_readsTier_b78
        by_cases q : v 0 = 0
        · have hz : nI (v 0) = (0 : Int32) := by rw [q]; rfl
          rw [if_pos q, if_pos q] at hb88
          rw [if_pos hz, if_pos hz]
          exact hb88
        · have hz : ¬ nI (v 0) = (0 : Int32) := fun hh => q ((nI_eqz (by omega)).mp hh)
          have gq := grd (i := 8 + v 0 - 1) (n := 71) (by omega) (by decide)
          rw [if_neg q, if_neg q] at hb88
          rw [if_neg hz, if_neg hz, show nI (8 + v 0) - (1 : Int32) = nI (8 + v 0 - 1) from nI_subI (b := 1) (by omega), if_neg gq, nI_clamp (by omega), upd_ne _ _ (show ¬ 8 + v 0 - 1 = 70 by omega), D4 _ (by omega), nI_1]
          exact hb88
      by_cases hnum : numOK bt l (spn (isSp bt) l (spn (isLe bt) l (spn (isSp bt) l p))) (nI (if v 0 = 0 then 0 else v (8 + v 0 - 1) + 1)) (nI (if v 0 = 0 then 0 else 1000000))
      · have hvb := numOK_bd k2 hlo hhi hnum
        have hN1 := n1 hnum
        have hR1 := r1 hnum
        obtain ⟨X, hX⟩ : ∃ X, X = dvN bt (spn (isSp bt) l (spn (isLe bt) l (spn (isSp bt) l p))) ((spn (isDi bt) l (spn (isSp bt) l (spn (isLe bt) l (spn (isSp bt) l p)))) - (spn (isSp bt) l (spn (isLe bt) l (spn (isSp bt) l p)))) := ⟨_, rfl⟩
        rw [← hX] at hvb hN1 hR1
        obtain ⟨n3, n4⟩ := C_readNumber H j2 (nI 0) (nI 300) (nI (spn (isSp bt) l (spn (isLe bt) l (spn (isSp bt) l p)))) 257 hN
        obtain ⟨r3, r4⟩ := M_reads H j2 (i := 13 + v 0) (by omega) (nI 0) (nI 300) (nI (spn (isSp bt) l (spn (isLe bt) l (spn (isSp bt) l p)))) (upd (upd rd 70 (nI (v 70 + 1))) (8 + v 0) (nI X)) hN
        by_cases hnum2 : numOK bt l (spn (isSp bt) l (spn (isDi bt) l (spn (isSp bt) l (spn (isLe bt) l (spn (isSp bt) l p))))) (nI 0) (nI 300)
        · have hvb2 := (numOK_bd y2 (by decide) (by decide) hnum2).2
          have hN2 := n3 hnum2
          have hR2 := hMo _ _ _ _ _ _ _ _ hR1 (r3 hnum2)
          obtain ⟨Y, hY⟩ : ∃ Y, Y = dvN bt (spn (isSp bt) l (spn (isDi bt) l (spn (isSp bt) l (spn (isLe bt) l (spn (isSp bt) l p))))) ((spn (isDi bt) l (spn (isSp bt) l (spn (isDi bt) l (spn (isSp bt) l (spn (isLe bt) l (spn (isSp bt) l p)))))) - (spn (isSp bt) l (spn (isDi bt) l (spn (isSp bt) l (spn (isLe bt) l (spn (isSp bt) l p)))))) := ⟨_, rfl⟩
          rw [← hY] at hvb2 hN2 hR2
          have hbase : NR (updN (updN v (8 + v 0) X) (13 + v 0) Y) R S W se.2.2.2.2.1 le so wh := NR_congr D1 (by rw [updN_ne _ _ (by omega), updN_ne _ _ (by omega)]) (by rw [updN_ne _ _ (by omega), updN_ne _ _ (by omega)]) (by rw [updN_ne _ _ (by omega), updN_ne _ _ (by omega)]) (by rw [updN_ne _ _ (by omega), updN_ne _ _ (by omega)]) (by rw [updN_ne _ _ (by omega), updN_ne _ _ (by omega)])
          have z1 : (updN (updN v (8 + v 0) X) (13 + v 0) Y) 0 = v 0 := by rw [updN_ne _ _ (by omega), updN_ne _ _ (by omega)]
          have z70 : (updN (updN v (8 + v 0) X) (13 + v 0) Y) 70 = v 70 := by rw [updN_ne _ _ (by omega), updN_ne _ _ (by omega)]
          have hN' := NR_add (le' := le') hbase (t := 0) (Or.inl rfl) hw (by rw [z70]; exact hnew) (by rw [z70]; exact e2) (by rw [z70]; exact e3) ⟨fun _ => by rw [z1]; exact hf, fun h => absurd h (by decide), fun h => absurd h (by decide), fun h => absurd h (by decide)⟩
          rw [z1, z70] at hN'
          have hu : ∀ j, ¬ j = 0 → ¬ j = 70 → ¬ j = 8 + v 0 → ¬ j = 13 + v 0 → (updN (updN (updN (updN v (8 + v 0) X) (13 + v 0) Y) 0 (v 0 + 1)) 70 (v 70 + 1)) j = v j := fun j h1 h2 h3 h4 => by rw [updN_ne _ _ h2, updN_ne _ _ h1, updN_ne _ _ h4, updN_ne _ _ h3]
          have h1' : (updN (updN (updN (updN v (8 + v 0) X) (13 + v 0) Y) 0 (v 0 + 1)) 70 (v 70 + 1)) 0 = v 0 + 1 := by rw [updN_ne _ _ (by decide), updN_at]
          have h70' : (updN (updN (updN (updN v (8 + v 0) X) (13 + v 0) Y) 0 (v 0 + 1)) 70 (v 70 + 1)) 70 = v 70 + 1 := by rw [updN_at]
          have hx' : (updN (updN (updN (updN v (8 + v 0) X) (13 + v 0) Y) 0 (v 0 + 1)) 70 (v 70 + 1)) (8 + v 0) = X := by rw [updN_ne _ _ (by omega), updN_ne _ _ (by omega), updN_ne _ _ (by omega), updN_at]
          have hy' : (updN (updN (updN (updN v (8 + v 0) X) (13 + v 0) Y) 0 (v 0 + 1)) 70 (v 70 + 1)) (13 + v 0) = Y := by rw [updN_ne _ _ (by omega), updN_ne _ _ (by omega), updN_at]
          have hX1 : X ≤ 1000000 := by
            by_cases q : v 0 = 0
            · rw [if_pos q, if_pos q] at hvb; omega
            · rw [if_neg q, if_neg q] at hvb; exact hvb.2
          have h8' : (updN (updN (updN (updN v (8 + v 0) X) (13 + v 0) Y) 0 (v 0 + 1)) 70 (v 70 + 1)) 8 = 0 := by
            by_cases q : v 0 = 0
            · rw [if_pos q, if_pos q] at hvb
              rw [q] at hx'
              rw [q]
              rw [Nat.add_zero] at hx'
              rw [hx']; omega
            · rw [hu _ (by omega) (by omega) (by omega) (by omega)]; exact D2.2.2.1.1
          have hSV : SVd (updN (updN (updN (updN v (8 + v 0) X) (13 + v 0) Y) 0 (v 0 + 1)) 70 (v 70 + 1)) := by
            obtain ⟨w1, w2, w3, w4, w5, w6, w7⟩ := D2
            unfold SVd
            rw [h1', h8', hu 1 (by decide) (by decide) (by omega) (by omega), hu 2 (by decide) (by decide) (by omega) (by omega), hu 3 (by decide) (by decide) (by omega) (by omega), hu 4 (by decide) (by decide) (by omega) (by omega), hu 5 (by decide) (by decide) (by omega) (by omega), hu 6 (by decide) (by decide) (by omega) (by omega), hu 7 (by decide) (by decide) (by omega) (by omega)]
            refine ⟨⟨by omega, w1.2.1, w1.2.2.1, w1.2.2.2.1, w1.2.2.2.2⟩, w2, ⟨rfl, fun t ht => ?_⟩, fun t ht => ?_, fun c hc => ?_, fun q hq => ?_, fun h hh => ?_⟩
            · by_cases e : t = v 0
              · rw [e, hx', hy']; exact ⟨hX1, hvb2⟩
              · rw [hu _ (by omega) (by omega) (by omega) (by omega), hu _ (by omega) (by omega) (by omega) (by omega)]; exact w3.2 t (by omega)
            · by_cases e : t + 1 = v 0
              · have q : ¬ v 0 = 0 := by omega
                rw [if_neg q] at hvb
                rw [e, hx', hu _ (by omega) (by omega) (by omega) (by omega), show 8 + t = 8 + v 0 - 1 by omega]
                omega
              · rw [hu _ (by omega) (by omega) (by omega) (by omega), hu _ (by omega) (by omega) (by omega) (by omega)]; exact w4 t (by omega)
            · rw [hu _ (by omega) (by omega) (by omega) (by omega), hu _ (by omega) (by omega) (by omega) (by omega)]; exact w5 c hc
            · rw [hu _ (by omega) (by omega) (by omega) (by omega), hu _ (by omega) (by omega) (by omega) (by omega), hu _ (by omega) (by omega) (by omega) (by omega), hu _ (by omega) (by omega) (by omega) (by omega)]; exact w6 q hq
            · rw [hu _ (by omega) (by omega) (by omega) (by omega)]; exact w7 h hh
          have hSC : SC (updN (updN (updN (updN v (8 + v 0) X) (13 + v 0) Y) 0 (v 0 + 1)) 70 (v 70 + 1)) (se.1, se.2.1, se.2.2.1, upd se.2.2.2.1 0 (nI (v 0 + 1)), upd se.2.2.2.2.1 (12 * 0 + v 0) (nI (lcode (wdN bt (spn (isSp bt) l p) (spn (isLe bt) l (spn (isSp bt) l p) - spn (isSp bt) l p)))), upd se.2.2.2.2.2.1 (v 0) (nI X), upd se.2.2.2.2.2.2.1 (v 0) (nI Y), se.2.2.2.2.2.2.2.1, se.2.2.2.2.2.2.2.2.1, se.2.2.2.2.2.2.2.2.2.1, se.2.2.2.2.2.2.2.2.2.2.1, se.2.2.2.2.2.2.2.2.2.2.2.1, se.2.2.2.2.2.2.2.2.2.2.2.2.1, se.2.2.2.2.2.2.2.2.2.2.2.2.2) := by
            obtain ⟨w1, w2, w3, w4, w5, w6⟩ := D3
            obtain ⟨z1, _⟩ := D2
            unfold SC
            rw [h1', hu 1 (by decide) (by decide) (by omega) (by omega), hu 2 (by decide) (by decide) (by omega) (by omega), hu 4 (by decide) (by decide) (by omega) (by omega), hu 5 (by decide) (by decide) (by omega) (by omega), hu 6 (by decide) (by decide) (by omega) (by omega), hu 7 (by decide) (by decide) (by omega) (by omega)]
            refine ⟨w1, fun i hi => ?_, fun t ht => ?_, fun c hc => ?_, fun q hq => ?_, fun h hh => ?_⟩
            · dsimp only
              by_cases e : i = 0
              · rw [e, upd_at, h1']
              · rw [upd_ne _ _ e, hu _ e (by omega) (by omega) (by omega)]; exact w2 i hi
            · dsimp only
              by_cases e : t = v 0
              · rw [e, hx', hy', upd_at, upd_at]; exact ⟨rfl, rfl⟩
              · rw [hu _ (by omega) (by omega) (by omega) (by omega), hu _ (by omega) (by omega) (by omega) (by omega), upd_ne _ _ e, upd_ne _ _ e]; exact w3 t (by omega)
            · rw [hu _ (by omega) (by omega) (by omega) (by omega), hu _ (by omega) (by omega) (by omega) (by omega)]; exact w4 c hc
            · rw [hu _ (by omega) (by omega) (by omega) (by omega), hu _ (by omega) (by omega) (by omega) (by omega), hu _ (by omega) (by omega) (by omega) (by omega), hu _ (by omega) (by omega) (by omega) (by omega)]; exact w5 q hq
            · rw [hu _ (by omega) (by omega) (by omega) (by omega)]; exact w6 h hh
          have hM4 : ∀ i, i < 71 → i ≠ 0 → (upd (upd (upd (upd rd 70 (nI (v 70 + 1))) (8 + v 0) (nI X)) (13 + v 0) (nI Y)) 0 (nI (v 0 + 1))) i = nI ((updN (updN (updN (updN v (8 + v 0) X) (13 + v 0) Y) 0 (v 0 + 1)) 70 (v 70 + 1)) i) := by
            intro i h1 h2
            rw [upd_ne _ _ h2]
            by_cases q2 : i = 13 + v 0
            · rw [q2, upd_at, hy']
            · rw [upd_ne _ _ q2]
              by_cases q4 : i = 8 + v 0
              · rw [q4, upd_at, hx']
              · rw [upd_ne _ _ q4]
                by_cases q3 : i = 70
                · rw [q3, upd_at, h70']
                · rw [upd_ne _ _ q3, hu _ h2 q3 q4 q2]; exact D4 i h1
          have hDR : ∃ v' R' S' W', DR v' R' S' W' (se.1, se.2.1, se.2.2.1, upd se.2.2.2.1 0 (nI (v 0 + 1)), upd se.2.2.2.2.1 (12 * 0 + v 0) (nI (lcode (wdN bt (spn (isSp bt) l p) (spn (isLe bt) l (spn (isSp bt) l p) - spn (isSp bt) l p)))), upd se.2.2.2.2.2.1 (v 0) (nI X), upd se.2.2.2.2.2.2.1 (v 0) (nI Y), se.2.2.2.2.2.2.2.1, se.2.2.2.2.2.2.2.2.1, se.2.2.2.2.2.2.2.2.2.1, se.2.2.2.2.2.2.2.2.2.2.1, se.2.2.2.2.2.2.2.2.2.2.2.1, se.2.2.2.2.2.2.2.2.2.2.2.2.1, se.2.2.2.2.2.2.2.2.2.2.2.2.2) (upd (upd (upd (upd rd 70 (nI (v 70 + 1))) (8 + v 0) (nI X)) (13 + v 0) (nI Y)) 0 (nI (v 0 + 1))) le' (upd so (v 70) (nI 0)) (upd wh (v 70) (nI (v 0))) 1 sn := by
            refine ⟨(updN (updN (updN (updN v (8 + v 0) X) (13 + v 0) Y) 0 (v 0 + 1)) 70 (v 70 + 1)), _, _, _, hN', hSV, hSC, hM4, Or.inr ⟨rfl, by rw [h1']; omega, by rw [h1', upd_at]⟩, ?_⟩
            dsimp only
            rw [upd_ne _ _ (by decide), upd_ne _ _ (by decide), upd_ne _ _ (by decide)]
            exact D6
          refine ⟨nI (spn (isDi bt) l (spn (isSp bt) l (spn (isDi bt) l (spn (isSp bt) l (spn (isLe bt) l (spn (isSp bt) l p)))))), nI (spn (isSp bt) l (spn (isDi bt) l (spn (isSp bt) l (spn (isLe bt) l (spn (isSp bt) l p))))), 257, -1, upd se.2.2.2.1 0 (nI (v 0 + 1)), upd se.2.2.2.2.1 (12 * 0 + v 0) (nI (lcode (wdN bt (spn (isSp bt) l p) (spn (isLe bt) l (spn (isSp bt) l p) - spn (isSp bt) l p)))), upd se.2.2.2.2.2.1 (v 0) (nI X), upd se.2.2.2.2.2.2.1 (v 0) (nI Y), nI (spn (isDi bt) l (spn (isSp bt) l (spn (isDi bt) l (spn (isSp bt) l (spn (isLe bt) l (spn (isSp bt) l p)))))), nI (spn (isSp bt) l (spn (isDi bt) l (spn (isSp bt) l (spn (isLe bt) l (spn (isSp bt) l p))))), -1, 1, (upd (upd (upd (upd rd 70 (nI (v 70 + 1))) (8 + v 0) (nI X)) (13 + v 0) (nI Y)) 0 (nI (v 0 + 1))), le', upd so (v 70) (nI 0), upd wh (v 70) (nI (v 0)), ?_, ?_, Or.inr ⟨rfl, rfl, (spn (isDi bt) l (spn (isSp bt) l (spn (isDi bt) l (spn (isSp bt) l (spn (isLe bt) l (spn (isSp bt) l p)))))), x2, rfl, rfl, hDR⟩⟩
          · rw [hCl _ _ (c1 hok) hN1]
            unfold f_X8_readTier_b45
            dsimp only
            rw [show f_X8_readNumber N 0 300 600 (nI (spn (isDi bt) l (spn (isSp bt) l (spn (isLe bt) l (spn (isSp bt) l p))))) (nI (spn (isSp bt) l (spn (isLe bt) l (spn (isSp bt) l p)))) 257 (-1) (nI l) g = _ from hN2, Option.bind_some]
            dsimp only
            rw [if_pos rfl]
            unfold f_X7_addTier f_X7_define
            rw [show (0 : Int32) = nI 0 from rfl, X6_at_in _ (show 8 < 2 ^ 31 by decide) (show 0 < 8 by decide), hcs0, Option.bind_some, show (12 : Int32) = nI 12 from rfl, nI_mul, nI_add, nI_1, X6_put_in _ _ (show 96 < 2 ^ 31 by decide) (show 0 * 12 + v 0 < 96 by omega), Option.bind_some, X6_put_in _ _ (show 8 < 2 ^ 31 by decide) (show 0 < 8 by decide), Option.bind_some, Option.bind_some, X6_put_in _ _ (show 5 < 2 ^ 31 by decide) (show v 0 < 5 by omega), Option.bind_some, X6_put_in _ _ (show 5 < 2 ^ 31 by decide) (show v 0 < 5 by omega)]; rfl
          · rw [hR2, upd_ne _ _ (show ¬ 0 = 13 + v 0 by omega), upd_ne _ _ (show ¬ 0 = 8 + v 0 by omega), upd_ne _ _ (show ¬ 0 = 70 by decide), h00, nI_1]
        · obtain ⟨y, n5⟩ := n4 hnum2
          obtain ⟨q, r5⟩ := r4 hnum2
          have hR2 := hMo _ _ _ _ _ _ _ _ hR1 r5
          refine ⟨nI (tkE bt l (spn (isSp bt) l (spn (isDi bt) l (spn (isSp bt) l (spn (isLe bt) l (spn (isSp bt) l p)))))), nI (spn (isSp bt) l (spn (isDi bt) l (spn (isSp bt) l (spn (isLe bt) l (spn (isSp bt) l p))))), tkK bt l (spn (isSp bt) l (spn (isDi bt) l (spn (isSp bt) l (spn (isLe bt) l (spn (isSp bt) l p))))), nI (spn (isSp bt) l (spn (isDi bt) l (spn (isSp bt) l (spn (isLe bt) l (spn (isSp bt) l p))))), se.2.2.2.1, se.2.2.2.2.1, se.2.2.2.2.2.1, se.2.2.2.2.2.2.1, q, nI (spn (isSp bt) l (spn (isDi bt) l (spn (isSp bt) l (spn (isLe bt) l (spn (isSp bt) l p))))), nI (spn (isSp bt) l (spn (isDi bt) l (spn (isSp bt) l (spn (isLe bt) l (spn (isSp bt) l p))))), 1, _, le', upd so (v 70) (nI 0), upd wh (v 70) (nI (v 0)), ?_, hR2, Or.inl ⟨(spn (isSp bt) l (spn (isDi bt) l (spn (isSp bt) l (spn (isLe bt) l (spn (isSp bt) l p))))), y2, rfl, rfl⟩⟩
          rw [hCl _ _ (c1 hok) hN1]
          unfold f_X8_readTier_b45
          dsimp only
          rw [show f_X8_readNumber N 0 300 600 (nI (spn (isDi bt) l (spn (isSp bt) l (spn (isLe bt) l (spn (isSp bt) l p))))) (nI (spn (isSp bt) l (spn (isLe bt) l (spn (isSp bt) l p)))) 257 (-1) (nI l) g = _ from n5, Option.bind_some]
          dsimp only
          rw [if_neg (nI_neg1 (by omega))]
      · obtain ⟨y, n3⟩ := n2 hnum
        obtain ⟨q, r3⟩ := r2 hnum
        have hR1 := hMo _ _ _ _ _ _ _ _ r3 (reads_err (by omega) _ _ _ _ _ _ _ _ _)
        refine ⟨nI (tkE bt l (spn (isSp bt) l (spn (isLe bt) l (spn (isSp bt) l p)))), nI (spn (isSp bt) l (spn (isLe bt) l (spn (isSp bt) l p))), tkK bt l (spn (isSp bt) l (spn (isLe bt) l (spn (isSp bt) l p))), nI (spn (isSp bt) l (spn (isLe bt) l (spn (isSp bt) l p))), se.2.2.2.1, se.2.2.2.2.1, se.2.2.2.2.2.1, se.2.2.2.2.2.2.1, q, nI (spn (isSp bt) l (spn (isLe bt) l (spn (isSp bt) l p))), nI (spn (isSp bt) l (spn (isLe bt) l (spn (isSp bt) l p))), 1, _, le', upd so (v 70) (nI 0), upd wh (v 70) (nI (v 0)), ?_, hR1, Or.inl ⟨(spn (isSp bt) l (spn (isLe bt) l (spn (isSp bt) l p))), k2, rfl, rfl⟩⟩
        rw [hCl _ _ (c1 hok) n3]
        unfold f_X8_readTier_b45
        dsimp only
        rw [C_num_err (by omega), Option.bind_some]
        dsimp only
        rw [if_neg (nI_neg1 (by omega))]
    · obtain ⟨y, c3⟩ := c2 hok
      obtain ⟨q, m3⟩ := m2 hok
      refine ⟨nI (tkE bt l (spn (isSp bt) l p)), nI (spn (isSp bt) l p), tkK bt l (spn (isSp bt) l p), nI (spn (isSp bt) l p), se.2.2.2.1, se.2.2.2.2.1, se.2.2.2.2.2.1, se.2.2.2.2.2.2.1, q, nI (spn (isSp bt) l p), nI (spn (isSp bt) l p), 1, rd, le, so, wh, ?_, ?_, Or.inl ⟨(spn (isSp bt) l p), a2, rfl, rfl⟩⟩
      · rw [hCl _ _ c3 (C_num_err (by omega) _ _ _ _ _ _ _ _)]
        unfold f_X8_readTier_b45
        dsimp only
        rw [C_num_err (by omega), Option.bind_some]
        dsimp only
        rw [if_neg (nI_neg1 (by omega))]
      · unfold f_X11_readsTier_b26
        rw [show f_X11_room (0 : Int32) (5 : Int32) 71 (nI s0) (-1) rd = some (-1) from hroom, Option.bind_some, show f_X11_names N (0 : Int32) 71 192 32 32 600 (nI l) (nI p) (nI s0) (-1) rd le so wh buf = _ from m3, Option.bind_some]
        dsimp only
        rw [if_neg g0, Option.bind_some, fine_no (by omega), Option.bind_some, if_pos rfl]

