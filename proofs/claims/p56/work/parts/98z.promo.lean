theorem NR_zero2 {v : Nat → Nat} {R : Nat → Nat → Nat} {S W : Nat → Nat} {nm le so wh : Nat → Int32} (H : NR v R S W nm le so wh) {c : Nat} (hc : 24 ≤ c) (hc2 : c < 36) : NR v R S W (upd nm c 0) le so wh := by
  obtain ⟨a, b, c1, d, e⟩ := H
  refine ⟨a, fun r hr => ?_, c1, d, fun i hi => ?_⟩
  · obtain ⟨m1, m2, m3, m4, m5, m6, m7⟩ := b r hr
    refine ⟨m1, m2, m3, m4, m5, m6, ?_⟩
    rw [upd_ne _ _ (by rcases m5 with q | q | q | q <;> rw [q] at m6 ⊢ <;> omega)]
    exact m7
  · by_cases q : i = c
    · rw [q, upd_at]; exact Or.inl rfl
    · rw [upd_ne _ _ q]; exact e i hi
/-- the promotion statement -/
theorem S_promo {v : Nat → Nat} {R : Nat → Nat → Nat} {S W : Nat → Nat} {se : T_SE} {rdd le so wh : Nat → Int32} {ht sn : Int32} (HD : DR v R S W se rdd le so wh ht sn) {bt : Nat → Nat} {l : Nat} {g buf : Nat → Int32} (H : TB bt l g buf) {p s0 : Nat} (hp : p ≤ l) (hs0 : s0 ≤ l) {N : Nat} (hN : 700 < N) : (v 2 = 8 → ∃ a b, f_X11_readsPromo N 71 192 32 32 600 (nI l) (nI p) (nI s0) (-1) rdd le so wh buf = some (a, b, nI s0, rdd)) ∧ (v 2 < 8 → ∃ pc sc tc ec cs' nm' A1 A2 A3 A4 pm tm em rdd', f_X8_readPromo N 600 8 96 8 8 8 8 (nI p) (-1) (nI l) g se.2.2.2.1 se.2.2.2.2.1 se.2.2.2.2.2.2.2.2.2.1 se.2.2.2.2.2.2.2.2.2.2.1 se.2.2.2.2.2.2.2.2.2.2.2.1 se.2.2.2.2.2.2.2.2.2.2.2.2.1 = some (pc, sc, tc, ec, cs', nm', A1, A2, A3, A4) ∧ f_X11_readsPromo N 71 192 32 32 600 (nI l) (nI p) (nI s0) (-1) rdd le so wh buf = some (pm, tm, em, rdd') ∧ OUT l pc ec (se.1, se.2.1, se.2.2.1, cs', nm', se.2.2.2.2.2.1, se.2.2.2.2.2.2.1, se.2.2.2.2.2.2.2.1, se.2.2.2.2.2.2.2.2.1, A1, A2, A3, A4, se.2.2.2.2.2.2.2.2.2.2.2.2.2) pm em ht sn rdd' le so wh) := by
  obtain ⟨D1, D2, D3, D4, D5, D6⟩ := HD
  have hl := H.1
  have h20 := D4 2 (by omega) (by decide)
  have h70 := D4 70 (by omega) (by decide)
  have hv2 := D2.1.2.2.1
  have hv1 := D2.1.2.1
  have hroom := room_in (i := 2) (m := 8) (q := s0) (by omega) h20 (by omega) (by omega) (by omega)
  have g2 : ¬ ((2 : Int32) < 0 ∨ 71 ≤ (2 : Int32).toNatClampNeg) := by decide
  constructor
  · intro hf
    rw [if_pos hf] at hroom
    unfold f_X11_readsPromo f_X11_categoryName
    rw [show f_X11_room (2 : Int32) (8 : Int32) 71 (nI s0) (-1) rdd = some (nI s0) from hroom, Option.bind_some, fine_no (by omega), Option.bind_some, if_pos rfl, Option.bind_some]
    dsimp only
    rw [fine_no (by omega), Option.bind_some, if_pos rfl]
    exact ⟨_, _, rfl⟩
  · intro hf
    rw [if_neg (by omega)] at hroom
    obtain ⟨a1, a2, a3, a4⟩ := spn_spec (f := isSp bt) hp
    obtain ⟨b1, b2, b3, b4⟩ := spn_spec (f := isLe bt) a2
    obtain ⟨k1, k2, k3, k4⟩ := spn_spec (f := isSp bt) b2
    obtain ⟨j1, j2, j3, j4⟩ := spn_spec (f := isDi bt) k2
    obtain ⟨y1, y2, y3, y4⟩ := spn_spec (f := isSp bt) j2
    obtain ⟨x1, x2, x3, x4⟩ := spn_spec (f := isDi bt) y2
    obtain ⟨u1, u2, u3, u4⟩ := spn_spec (f := isSp bt) x2
    obtain ⟨o1, o2, o3, o4⟩ := spn_spec (f := isDi bt) u2
    have hcs2 : se.2.2.2.1 2 = nI (v 2) := D3.2.1 2 (by omega)
    cases S_catName D1 (D3.2.1 1 (by omega)) h70 H hp (nI s0) hN with
    | inr h =>
      obtain ⟨h1, q, h2⟩ := h
      refine ⟨nI (tkE bt l (spn (isSp bt) l p)), nI (spn (isSp bt) l p), tkK bt l (spn (isSp bt) l p), nI (spn (isSp bt) l p), se.2.2.2.1, se.2.2.2.2.1, se.2.2.2.2.2.2.2.2.2.1, se.2.2.2.2.2.2.2.2.2.2.1, se.2.2.2.2.2.2.2.2.2.2.2.1, se.2.2.2.2.2.2.2.2.2.2.2.2.1, q, nI (spn (isSp bt) l p), nI (spn (isSp bt) l p), rdd, ?_, ?_, Or.inl ⟨(spn (isSp bt) l p), a2, rfl, rfl⟩⟩
      · unfold f_X8_readPromo
        rw [h1, Option.bind_some]
        dsimp only
        rw [C_num_err (by omega), Option.bind_some]
        dsimp only
        rw [C_num_err (by omega), Option.bind_some]
        dsimp only
        rw [C_num_err (by omega), Option.bind_some]
        dsimp only
        rw [if_neg (nI_neg1 (by omega))]
      · unfold f_X11_readsPromo
        rw [show f_X11_room (2 : Int32) (8 : Int32) 71 (nI s0) (-1) rdd = some (-1) from hroom, Option.bind_some, h2, Option.bind_some]
        dsimp only
        rw [fine_no (by omega), Option.bind_some, if_pos rfl]
    | inl h =>
      obtain ⟨ci, hci, h1, h2⟩ := h
      have hMo : ∀ (q1 q2 q3 : Int32) (f1 : Nat → Int32) (w1 w2 w3 : Int32) (f2 : Nat → Int32) (z1 z2 z3 : Int32) (f3 : Nat → Int32), f_X11_reads N (nI (42 + v 2)) (nI 0) (nI 9999) 71 600 (nI l) (nI (spn (isLe bt) l (spn (isSp bt) l p))) (nI (spn (isSp bt) l p)) (-1) (upd rdd (34 + v 2) (nI ci)) buf = some (q1, q2, q3, f1) → f_X11_reads N (nI (50 + v 2)) (f1 (42 + v 2)) (nI 9999) 71 600 (nI l) q1 q2 q3 f1 buf = some (w1, w2, w3, f2) → f_X11_reads N (nI (58 + v 2)) (nI 1) (nI 500) 71 600 (nI l) w1 w2 w3 f2 buf = some (z1, z2, z3, f3) → f_X11_readsPromo N 71 192 32 32 600 (nI l) (nI p) (nI s0) (-1) rdd le so wh buf = some (z1, z2, z3, upd f3 2 (f3 2 + 1)) := by
        intro q1 q2 q3 f1 w1 w2 w3 f2 z1 z2 z3 f3 c1 c2 c3
        have ga := grd (i := 34 + v 2) (n := 71) (by omega) (by decide)
        have gb := grd (i := 42 + v 2) (n := 71) (by omega) (by decide)
        unfold f_X11_readsPromo
        rw [show f_X11_room (2 : Int32) (8 : Int32) 71 (nI s0) (-1) rdd = some (-1) from hroom, Option.bind_some, h2, Option.bind_some]
        dsimp only
        rw [fine_yes, Option.bind_some, if_neg (show ¬ (1 : Int32) = 0 by decide), if_neg g2, show (2 : Int32).toNatClampNeg = 2 from rfl, h20, Option.bind_some, show (34 : Int32) = nI 34 from rfl, nI_add, if_neg ga, nI_clamp (show 34 + v 2 < 2 ^ 31 by omega), Option.bind_some, show (42 : Int32) = nI 42 from rfl, nI_add, show f_X11_reads N (nI (42 + v 2)) 0 9999 71 600 (nI l) (nI (spn (isLe bt) l (spn (isSp bt) l p))) (nI (spn (isSp bt) l p)) (-1) (upd rdd (34 + v 2) (nI ci)) buf = _ from c1, Option.bind_some]
        dsimp only
        rw [if_neg gb, nI_clamp (show 42 + v 2 < 2 ^ 31 by omega), show (50 : Int32) = nI 50 from rfl, nI_add, show f_X11_reads N (nI (50 + v 2)) (f1 (42 + v 2)) 9999 71 600 (nI l) q1 q2 q3 f1 buf = _ from c2, Option.bind_some]
        dsimp only
        rw [show (58 : Int32) = nI 58 from rfl, nI_add, show f_X11_reads N (nI (58 + v 2)) 1 500 71 600 (nI l) w1 w2 w3 f2 buf = _ from c3, Option.bind_some]
        dsimp only
        rw [if_neg (show ¬ ((2 : Int32) < 0 ∨ 71 ≤ 2) by decide), if_neg (show ¬ ((2 : Int32) < 0 ∨ 71 ≤ 2) by decide), Option.bind_some]
      have hCl : ∀ (q w z : Int32 × Int32 × Int32 × Int32 × Int32), f_X8_readNumber N (nI 0) (nI 9999) 600 (nI (spn (isLe bt) l (spn (isSp bt) l p))) (nI (spn (isSp bt) l p)) 256 (-1) (nI l) g = some q → f_X8_readNumber N q.1 (nI 9999) 600 q.2.1 q.2.2.1 q.2.2.2.1 q.2.2.2.2 (nI l) g = some w → f_X8_readNumber N (nI 1) (nI 500) 600 w.2.1 w.2.2.1 w.2.2.2.1 w.2.2.2.2 (nI l) g = some z → f_X8_readPromo N 600 8 96 8 8 8 8 (nI p) (-1) (nI l) g se.2.2.2.1 se.2.2.2.2.1 se.2.2.2.2.2.2.2.2.2.1 se.2.2.2.2.2.2.2.2.2.2.1 se.2.2.2.2.2.2.2.2.2.2.2.1 se.2.2.2.2.2.2.2.2.2.2.2.2.1 = if z.2.2.2.2 = (-1 : Int32) then ((f_X7_addPromo (nI ci) q.1 w.1 z.1 8 96 8 8 8 8 se.2.2.2.1 se.2.2.2.2.1 se.2.2.2.2.2.2.2.2.2.1 se.2.2.2.2.2.2.2.2.2.2.1 se.2.2.2.2.2.2.2.2.2.2.2.1 se.2.2.2.2.2.2.2.2.2.2.2.2.1).bind fun r50 => some (z.2.1, z.2.2.1, z.2.2.2.1, z.2.2.2.2, r50.1, r50.2.1, r50.2.2.1, r50.2.2.2.1, r50.2.2.2.2.1, r50.2.2.2.2.2)) else some (z.2.1, z.2.2.1, z.2.2.2.1, z.2.2.2.2, se.2.2.2.1, se.2.2.2.2.1, se.2.2.2.2.2.2.2.2.2.1, se.2.2.2.2.2.2.2.2.2.2.1, se.2.2.2.2.2.2.2.2.2.2.2.1, se.2.2.2.2.2.2.2.2.2.2.2.2.1) := by
        intro q w z c1 c2 c3
        unfold f_X8_readPromo
        rw [h1, Option.bind_some]
        dsimp only
        rw [show f_X8_readNumber N 0 9999 600 (nI (spn (isLe bt) l (spn (isSp bt) l p))) (nI (spn (isSp bt) l p)) 256 (-1) (nI l) g = _ from c1, Option.bind_some, show f_X8_readNumber N q.1 9999 600 q.2.1 q.2.2.1 q.2.2.2.1 q.2.2.2.2 (nI l) g = _ from c2, Option.bind_some, show f_X8_readNumber N 1 500 600 w.2.1 w.2.2.1 w.2.2.2.1 w.2.2.2.2 (nI l) g = _ from c3, Option.bind_some]
      have hbad : ∀ (q w z : Int32 × Int32 × Int32 × Int32 × Int32) (st : Nat), st ≤ l → z.2.2.2.2 = nI st → f_X8_readNumber N (nI 0) (nI 9999) 600 (nI (spn (isLe bt) l (spn (isSp bt) l p))) (nI (spn (isSp bt) l p)) 256 (-1) (nI l) g = some q → f_X8_readNumber N q.1 (nI 9999) 600 q.2.1 q.2.2.1 q.2.2.2.1 q.2.2.2.2 (nI l) g = some w → f_X8_readNumber N (nI 1) (nI 500) 600 w.2.1 w.2.2.1 w.2.2.2.1 w.2.2.2.2 (nI l) g = some z → ∀ (z1 z2 : Int32) (f3 : Nat → Int32), f_X11_readsPromo N 71 192 32 32 600 (nI l) (nI p) (nI s0) (-1) rdd le so wh buf = some (z1, z2, nI st, f3) → ∃ pc sc tc ec cs' nm' A1 A2 A3 A4 pm tm em rdd', f_X8_readPromo N 600 8 96 8 8 8 8 (nI p) (-1) (nI l) g se.2.2.2.1 se.2.2.2.2.1 se.2.2.2.2.2.2.2.2.2.1 se.2.2.2.2.2.2.2.2.2.2.1 se.2.2.2.2.2.2.2.2.2.2.2.1 se.2.2.2.2.2.2.2.2.2.2.2.2.1 = some (pc, sc, tc, ec, cs', nm', A1, A2, A3, A4) ∧ f_X11_readsPromo N 71 192 32 32 600 (nI l) (nI p) (nI s0) (-1) rdd le so wh buf = some (pm, tm, em, rdd') ∧ OUT l pc ec (se.1, se.2.1, se.2.2.1, cs', nm', se.2.2.2.2.2.1, se.2.2.2.2.2.2.1, se.2.2.2.2.2.2.2.1, se.2.2.2.2.2.2.2.2.1, A1, A2, A3, A4, se.2.2.2.2.2.2.2.2.2.2.2.2.2) pm em ht sn rdd' le so wh := by
        intro q w z st hst hz c1 c2 c3 z1 z2 f3 hm
        refine ⟨z.2.1, z.2.2.1, z.2.2.2.1, z.2.2.2.2, se.2.2.2.1, se.2.2.2.2.1, se.2.2.2.2.2.2.2.2.2.1, se.2.2.2.2.2.2.2.2.2.2.1, se.2.2.2.2.2.2.2.2.2.2.2.1, se.2.2.2.2.2.2.2.2.2.2.2.2.1, z1, z2, nI st, f3, ?_, hm, Or.inl ⟨st, hst, hz, rfl⟩⟩
        rw [hCl q w z c1 c2 c3, if_neg (by rw [hz]; exact nI_neg1 (by omega))]
      obtain ⟨n1, n2⟩ := C_readNumber H b2 (nI 0) (nI 9999) (nI (spn (isSp bt) l p)) 256 hN
      obtain ⟨r1, r2⟩ := M_reads H b2 (i := 42 + v 2) (by omega) (nI 0) (nI 9999) (nI (spn (isSp bt) l p)) (upd rdd (34 + v 2) (nI ci)) hN
      by_cases hnum : numOK bt l (spn (isSp bt) l (spn (isLe bt) l (spn (isSp bt) l p))) (nI 0) (nI 9999)
      · have hvb := (numOK_bd k2 (by decide) (by decide) hnum).2
        have hN1 := n1 hnum
        have hR1 := r1 hnum
        obtain ⟨X, hX⟩ : ∃ X, X = dvN bt (spn (isSp bt) l (spn (isLe bt) l (spn (isSp bt) l p))) ((spn (isDi bt) l (spn (isSp bt) l (spn (isLe bt) l (spn (isSp bt) l p)))) - (spn (isSp bt) l (spn (isLe bt) l (spn (isSp bt) l p)))) := ⟨_, rfl⟩
        rw [← hX] at hvb hN1 hR1
        obtain ⟨n3, n4⟩ := C_readNumber H j2 (nI X) (nI 9999) (nI (spn (isSp bt) l (spn (isLe bt) l (spn (isSp bt) l p)))) 257 hN
        obtain ⟨r3, r4⟩ := M_reads H j2 (i := 50 + v 2) (by omega) (nI X) (nI 9999) (nI (spn (isSp bt) l (spn (isLe bt) l (spn (isSp bt) l p)))) (upd (upd rdd (34 + v 2) (nI ci)) (42 + v 2) (nI X)) hN
        have hf1 : (upd (upd rdd (34 + v 2) (nI ci)) (42 + v 2) (nI X)) (42 + v 2) = nI X := upd_at _ _ _
        by_cases hnum2 : numOK bt l (spn (isSp bt) l (spn (isDi bt) l (spn (isSp bt) l (spn (isLe bt) l (spn (isSp bt) l p))))) (nI X) (nI 9999)
        · have hvb2 := (numOK_bd y2 (by omega) (by decide) hnum2).2
          have hN2 := n3 hnum2
          have hR2 := r3 hnum2
          obtain ⟨Y, hY⟩ : ∃ Y, Y = dvN bt (spn (isSp bt) l (spn (isDi bt) l (spn (isSp bt) l (spn (isLe bt) l (spn (isSp bt) l p))))) ((spn (isDi bt) l (spn (isSp bt) l (spn (isDi bt) l (spn (isSp bt) l (spn (isLe bt) l (spn (isSp bt) l p)))))) - (spn (isSp bt) l (spn (isDi bt) l (spn (isSp bt) l (spn (isLe bt) l (spn (isSp bt) l p)))))) := ⟨_, rfl⟩
          rw [← hY] at hvb2 hN2 hR2
          obtain ⟨n5, n6⟩ := C_readNumber H x2 (nI 1) (nI 500) (nI (spn (isSp bt) l (spn (isDi bt) l (spn (isSp bt) l (spn (isLe bt) l (spn (isSp bt) l p)))))) 257 hN
          obtain ⟨r5, r6⟩ := M_reads H x2 (i := 58 + v 2) (by omega) (nI 1) (nI 500) (nI (spn (isSp bt) l (spn (isDi bt) l (spn (isSp bt) l (spn (isLe bt) l (spn (isSp bt) l p)))))) (upd (upd (upd rdd (34 + v 2) (nI ci)) (42 + v 2) (nI X)) (50 + v 2) (nI Y)) hN
          by_cases hnum3 : numOK bt l (spn (isSp bt) l (spn (isDi bt) l (spn (isSp bt) l (spn (isDi bt) l (spn (isSp bt) l (spn (isLe bt) l (spn (isSp bt) l p))))))) (nI 1) (nI 500)
          · have hvb3 := (numOK_bd u2 (by decide) (by decide) hnum3).2
            have hN3 := n5 hnum3
            have hR3 := hMo _ _ _ _ _ _ _ _ _ _ _ _ hR1 (by rw [hf1]; exact hR2) (r5 hnum3)
            obtain ⟨Z, hZ⟩ : ∃ Z, Z = dvN bt (spn (isSp bt) l (spn (isDi bt) l (spn (isSp bt) l (spn (isDi bt) l (spn (isSp bt) l (spn (isLe bt) l (spn (isSp bt) l p))))))) ((spn (isDi bt) l (spn (isSp bt) l (spn (isDi bt) l (spn (isSp bt) l (spn (isDi bt) l (spn (isSp bt) l (spn (isLe bt) l (spn (isSp bt) l p)))))))) - (spn (isSp bt) l (spn (isDi bt) l (spn (isSp bt) l (spn (isDi bt) l (spn (isSp bt) l (spn (isLe bt) l (spn (isSp bt) l p)))))))) := ⟨_, rfl⟩
            rw [← hZ] at hvb3 hN3 hR3
            have hu : ∀ j, ¬ j = 2 → ¬ j = 34 + v 2 → ¬ j = 42 + v 2 → ¬ j = 50 + v 2 → ¬ j = 58 + v 2 → (updN (updN (updN (updN (updN v (34 + v 2) ci) (42 + v 2) X) (50 + v 2) Y) (58 + v 2) Z) 2 (v 2 + 1)) j = v j := fun j h1 h2 h3 h4 h5 => by rw [updN_ne _ _ h1, updN_ne _ _ h5, updN_ne _ _ h4, updN_ne _ _ h3, updN_ne _ _ h2]
            have h2' : (updN (updN (updN (updN (updN v (34 + v 2) ci) (42 + v 2) X) (50 + v 2) Y) (58 + v 2) Z) 2 (v 2 + 1)) 2 = v 2 + 1 := updN_at _ _ _
            have t1 : (updN (updN (updN (updN (updN v (34 + v 2) ci) (42 + v 2) X) (50 + v 2) Y) (58 + v 2) Z) 2 (v 2 + 1)) (34 + v 2) = ci := by rw [updN_ne _ _ (by omega), updN_ne _ _ (by omega), updN_ne _ _ (by omega), updN_ne _ _ (by omega), updN_at]
            have t2 : (updN (updN (updN (updN (updN v (34 + v 2) ci) (42 + v 2) X) (50 + v 2) Y) (58 + v 2) Z) 2 (v 2 + 1)) (42 + v 2) = X := by rw [updN_ne _ _ (by omega), updN_ne _ _ (by omega), updN_ne _ _ (by omega), updN_at]
            have t3 : (updN (updN (updN (updN (updN v (34 + v 2) ci) (42 + v 2) X) (50 + v 2) Y) (58 + v 2) Z) 2 (v 2 + 1)) (50 + v 2) = Y := by rw [updN_ne _ _ (by omega), updN_ne _ _ (by omega), updN_at]
            have t4 : (updN (updN (updN (updN (updN v (34 + v 2) ci) (42 + v 2) X) (50 + v 2) Y) (58 + v 2) Z) 2 (v 2 + 1)) (58 + v 2) = Z := by rw [updN_ne _ _ (by omega), updN_at]
            have hNR : NR (updN (updN (updN (updN (updN v (34 + v 2) ci) (42 + v 2) X) (50 + v 2) Y) (58 + v 2) Z) 2 (v 2 + 1)) R S W (upd se.2.2.2.2.1 (12 * 2 + v 2) 0) le so wh := NR_congr (NR_zero2 D1 (by omega) (by omega)) (hu 0 (by omega) (by omega) (by omega) (by omega) (by omega)) (hu 1 (by omega) (by omega) (by omega) (by omega) (by omega)) (hu 3 (by omega) (by omega) (by omega) (by omega) (by omega)) (hu 4 (by omega) (by omega) (by omega) (by omega) (by omega)) (hu 70 (by omega) (by omega) (by omega) (by omega) (by omega))
            have hSV : SVd (updN (updN (updN (updN (updN v (34 + v 2) ci) (42 + v 2) X) (50 + v 2) Y) (58 + v 2) Z) 2 (v 2 + 1)) := by
              obtain ⟨w1, w2, w3, w4, w5, w6, w7⟩ := D2
              unfold SVd
              rw [h2', hu 0 (by decide) (by omega) (by omega) (by omega) (by omega), hu 1 (by decide) (by omega) (by omega) (by omega) (by omega), hu 3 (by decide) (by omega) (by omega) (by omega) (by omega), hu 4 (by decide) (by omega) (by omega) (by omega) (by omega), hu 5 (by decide) (by omega) (by omega) (by omega) (by omega), hu 6 (by decide) (by omega) (by omega) (by omega) (by omega), hu 7 (by decide) (by omega) (by omega) (by omega) (by omega), hu 8 (by decide) (by omega) (by omega) (by omega) (by omega)]
              refine ⟨⟨w1.1, w1.2.1, by omega, w1.2.2.2.1, w1.2.2.2.2⟩, w2, ⟨w3.1, fun t ht => ?_⟩, fun t ht => ?_, fun c hc => ?_, fun q hq => ?_, fun h hh => ?_⟩
              · rw [hu _ (by omega) (by omega) (by omega) (by omega) (by omega), hu _ (by omega) (by omega) (by omega) (by omega) (by omega)]; exact w3.2 t ht
              · rw [hu _ (by omega) (by omega) (by omega) (by omega) (by omega), hu _ (by omega) (by omega) (by omega) (by omega) (by omega)]; exact w4 t ht
              · rw [hu _ (by omega) (by omega) (by omega) (by omega) (by omega), hu _ (by omega) (by omega) (by omega) (by omega) (by omega)]; exact w5 c hc
              · by_cases e : q = v 2
                · rw [e, t1, t2, t3, t4]; exact ⟨hci, hvb, hvb2, hvb3⟩
                · rw [hu _ (by omega) (by omega) (by omega) (by omega) (by omega), hu _ (by omega) (by omega) (by omega) (by omega) (by omega), hu _ (by omega) (by omega) (by omega) (by omega) (by omega), hu _ (by omega) (by omega) (by omega) (by omega) (by omega)]; exact w6 q (by omega)
              · rw [hu _ (by omega) (by omega) (by omega) (by omega) (by omega)]; exact w7 h hh
            have hSC : SC (updN (updN (updN (updN (updN v (34 + v 2) ci) (42 + v 2) X) (50 + v 2) Y) (58 + v 2) Z) 2 (v 2 + 1)) (se.1, se.2.1, se.2.2.1, upd se.2.2.2.1 2 (nI (v 2 + 1)), upd se.2.2.2.2.1 (12 * 2 + v 2) 0, se.2.2.2.2.2.1, se.2.2.2.2.2.2.1, se.2.2.2.2.2.2.2.1, se.2.2.2.2.2.2.2.2.1, upd se.2.2.2.2.2.2.2.2.2.1 (v 2) (nI ci), upd se.2.2.2.2.2.2.2.2.2.2.1 (v 2) (nI X), upd se.2.2.2.2.2.2.2.2.2.2.2.1 (v 2) (nI Y), upd se.2.2.2.2.2.2.2.2.2.2.2.2.1 (v 2) (nI Z), se.2.2.2.2.2.2.2.2.2.2.2.2.2) := by
              obtain ⟨w1, w2, w3, w4, w5, w6⟩ := D3
              obtain ⟨z1, _⟩ := D2
              unfold SC
              rw [h2', hu 0 (by decide) (by omega) (by omega) (by omega) (by omega), hu 1 (by decide) (by omega) (by omega) (by omega) (by omega), hu 4 (by decide) (by omega) (by omega) (by omega) (by omega), hu 5 (by decide) (by omega) (by omega) (by omega) (by omega), hu 6 (by decide) (by omega) (by omega) (by omega) (by omega), hu 7 (by decide) (by omega) (by omega) (by omega) (by omega)]
              refine ⟨w1, fun i hi => ?_, fun t ht => ?_, fun c hc => ?_, fun q hq => ?_, fun h hh => ?_⟩
              · dsimp only
                by_cases e : i = 2
                · rw [e, upd_at, h2']
                · rw [upd_ne _ _ e, hu _ e (by omega) (by omega) (by omega) (by omega)]; exact w2 i hi
              · rw [hu _ (by omega) (by omega) (by omega) (by omega) (by omega), hu _ (by omega) (by omega) (by omega) (by omega) (by omega)]; exact w3 t ht
              · rw [hu _ (by omega) (by omega) (by omega) (by omega) (by omega), hu _ (by omega) (by omega) (by omega) (by omega) (by omega)]; exact w4 c hc
              · dsimp only
                by_cases e : q = v 2
                · rw [e, t1, t2, t3, t4, upd_at, upd_at, upd_at, upd_at]; exact ⟨rfl, rfl, rfl, rfl⟩
                · rw [hu _ (by omega) (by omega) (by omega) (by omega) (by omega), hu _ (by omega) (by omega) (by omega) (by omega) (by omega), hu _ (by omega) (by omega) (by omega) (by omega) (by omega), hu _ (by omega) (by omega) (by omega) (by omega) (by omega), upd_ne _ _ e, upd_ne _ _ e, upd_ne _ _ e, upd_ne _ _ e]; exact w5 q (by omega)
              · rw [hu _ (by omega) (by omega) (by omega) (by omega) (by omega)]; exact w6 h hh
            have hM4 : ∀ i, i < 71 → i ≠ 0 → (upd (upd (upd (upd (upd rdd (34 + v 2) (nI ci)) (42 + v 2) (nI X)) (50 + v 2) (nI Y)) (58 + v 2) (nI Z)) 2 (nI (v 2 + 1))) i = nI ((updN (updN (updN (updN (updN v (34 + v 2) ci) (42 + v 2) X) (50 + v 2) Y) (58 + v 2) Z) 2 (v 2 + 1)) i) := by
              intro i h1 h2
              by_cases q1 : i = 2
              · rw [q1, upd_at, h2']
              · rw [upd_ne _ _ q1]
                by_cases q2 : i = 58 + v 2
                · rw [q2, upd_at, t4]
                · rw [upd_ne _ _ q2]
                  by_cases q3 : i = 50 + v 2
                  · rw [q3, upd_at, t3]
                  · rw [upd_ne _ _ q3]
                    by_cases q4 : i = 42 + v 2
                    · rw [q4, upd_at, t2]
                    · rw [upd_ne _ _ q4]
                      by_cases q5 : i = 34 + v 2
                      · rw [q5, upd_at, t1]
                      · rw [upd_ne _ _ q5, hu _ q1 q5 q4 q3 q2]; exact D4 i h1 h2
            have hDR : ∃ v' R' S' W', DR v' R' S' W' (se.1, se.2.1, se.2.2.1, upd se.2.2.2.1 2 (nI (v 2 + 1)), upd se.2.2.2.2.1 (12 * 2 + v 2) 0, se.2.2.2.2.2.1, se.2.2.2.2.2.2.1, se.2.2.2.2.2.2.2.1, se.2.2.2.2.2.2.2.2.1, upd se.2.2.2.2.2.2.2.2.2.1 (v 2) (nI ci), upd se.2.2.2.2.2.2.2.2.2.2.1 (v 2) (nI X), upd se.2.2.2.2.2.2.2.2.2.2.2.1 (v 2) (nI Y), upd se.2.2.2.2.2.2.2.2.2.2.2.2.1 (v 2) (nI Z), se.2.2.2.2.2.2.2.2.2.2.2.2.2) (upd (upd (upd (upd (upd rdd (34 + v 2) (nI ci)) (42 + v 2) (nI X)) (50 + v 2) (nI Y)) (58 + v 2) (nI Z)) 2 (nI (v 2 + 1))) le so wh ht sn := by
              refine ⟨(updN (updN (updN (updN (updN v (34 + v 2) ci) (42 + v 2) X) (50 + v 2) Y) (58 + v 2) Z) 2 (v 2 + 1)), _, _, _, hNR, hSV, hSC, hM4, ?_, ?_⟩
              · rw [hu 0 (by decide) (by omega) (by omega) (by omega) (by omega), hu 13 (by decide) (by omega) (by omega) (by omega) (by omega), upd_ne _ _ (by decide), upd_ne _ _ (by omega), upd_ne _ _ (by omega), upd_ne _ _ (by omega), upd_ne _ _ (by omega)]
                exact D5
              · dsimp only
                rw [upd_ne _ _ (by decide), upd_ne _ _ (by decide), upd_ne _ _ (by decide)]
                exact D6
            refine ⟨nI (spn (isDi bt) l (spn (isSp bt) l (spn (isDi bt) l (spn (isSp bt) l (spn (isDi bt) l (spn (isSp bt) l (spn (isLe bt) l (spn (isSp bt) l p)))))))), nI (spn (isSp bt) l (spn (isDi bt) l (spn (isSp bt) l (spn (isDi bt) l (spn (isSp bt) l (spn (isLe bt) l (spn (isSp bt) l p))))))), 257, -1, upd se.2.2.2.1 2 (nI (v 2 + 1)), upd se.2.2.2.2.1 (12 * 2 + v 2) 0, upd se.2.2.2.2.2.2.2.2.2.1 (v 2) (nI ci), upd se.2.2.2.2.2.2.2.2.2.2.1 (v 2) (nI X), upd se.2.2.2.2.2.2.2.2.2.2.2.1 (v 2) (nI Y), upd se.2.2.2.2.2.2.2.2.2.2.2.2.1 (v 2) (nI Z), nI (spn (isDi bt) l (spn (isSp bt) l (spn (isDi bt) l (spn (isSp bt) l (spn (isDi bt) l (spn (isSp bt) l (spn (isLe bt) l (spn (isSp bt) l p)))))))), nI (spn (isSp bt) l (spn (isDi bt) l (spn (isSp bt) l (spn (isDi bt) l (spn (isSp bt) l (spn (isLe bt) l (spn (isSp bt) l p))))))), -1, (upd (upd (upd (upd (upd rdd (34 + v 2) (nI ci)) (42 + v 2) (nI X)) (50 + v 2) (nI Y)) (58 + v 2) (nI Z)) 2 (nI (v 2 + 1))), ?_, ?_, Or.inr ⟨rfl, rfl, (spn (isDi bt) l (spn (isSp bt) l (spn (isDi bt) l (spn (isSp bt) l (spn (isDi bt) l (spn (isSp bt) l (spn (isLe bt) l (spn (isSp bt) l p)))))))), o2, rfl, rfl, hDR⟩⟩
            · rw [hCl _ _ _ hN1 hN2 hN3]
              dsimp only
              rw [if_pos rfl]
              unfold f_X7_addPromo f_X7_define
              rw [show (2 : Int32) = nI 2 from rfl, X6_at_in _ (show 8 < 2 ^ 31 by decide) (show 2 < 8 by decide), hcs2, Option.bind_some, show (12 : Int32) = nI 12 from rfl, nI_mul, nI_add, nI_1, X6_put_in _ _ (show 96 < 2 ^ 31 by decide) (show 2 * 12 + v 2 < 96 by omega), Option.bind_some, X6_put_in _ _ (show 8 < 2 ^ 31 by decide) (show 2 < 8 by decide), Option.bind_some, Option.bind_some]
              dsimp only
              rw [X6_put_in _ _ (show 8 < 2 ^ 31 by decide) hf, Option.bind_some, X6_put_in _ _ (show 8 < 2 ^ 31 by decide) hf, Option.bind_some, X6_put_in _ _ (show 8 < 2 ^ 31 by decide) hf, Option.bind_some, X6_put_in _ _ (show 8 < 2 ^ 31 by decide) hf]; rfl
            · rw [hR3, upd_ne _ _ (show ¬ 2 = 58 + v 2 by omega), upd_ne _ _ (show ¬ 2 = 50 + v 2 by omega), upd_ne _ _ (show ¬ 2 = 42 + v 2 by omega), upd_ne _ _ (show ¬ 2 = 34 + v 2 by omega), h20, nI_1]
          · obtain ⟨y, n7⟩ := n6 hnum3
            obtain ⟨q, r7⟩ := r6 hnum3
            exact hbad _ _ _ (spn (isSp bt) l (spn (isDi bt) l (spn (isSp bt) l (spn (isDi bt) l (spn (isSp bt) l (spn (isLe bt) l (spn (isSp bt) l p))))))) u2 rfl hN1 hN2 n7 _ _ _ (hMo _ _ _ _ _ _ _ _ _ _ _ _ hR1 (by rw [hf1]; exact hR2) r7)
        · obtain ⟨y, n7⟩ := n4 hnum2
          obtain ⟨q, r7⟩ := r4 hnum2
          exact hbad _ _ _ (spn (isSp bt) l (spn (isDi bt) l (spn (isSp bt) l (spn (isLe bt) l (spn (isSp bt) l p))))) y2 rfl hN1 n7 (C_num_err (by omega) _ _ _ _ _ _ _ _) _ _ _ (hMo _ _ _ _ _ _ _ _ _ _ _ _ hR1 (by rw [hf1]; exact r7) (reads_err (by omega) _ _ _ _ _ _ _ _ _))
      · obtain ⟨y, n3⟩ := n2 hnum
        obtain ⟨q, r3⟩ := r2 hnum
        exact hbad _ _ _ (spn (isSp bt) l (spn (isLe bt) l (spn (isSp bt) l p))) k2 rfl n3 (C_num_err (by omega) _ _ _ _ _ _ _ _) (C_num_err (by omega) _ _ _ _ _ _ _ _) _ _ _ (hMo _ _ _ _ _ _ _ _ _ _ _ _ r3 (reads_err (by omega) _ _ _ _ _ _ _ _ _) (reads_err (by omega) _ _ _ _ _ _ _ _ _))


