theorem C_finish (cs : Nat → Int32) : f_X7_finish 8 cs = some (if cs 0 = 0 then upd cs 0 1 else cs) := by
  unfold f_X7_finish
  rw [show (0 : Int32) = nI 0 from rfl, X6_at_in _ (by decide) (by decide), Option.bind_some, X6_put_in _ _ (by decide) (by decide), Option.bind_some]
  by_cases h : cs 0 = nI 0
  · rw [if_pos h, if_pos h]
  · rw [if_neg h, if_neg h]
/-- a draft that is finished -/
def finS (se : T_SE) : T_SE := (se.1, se.2.1, se.2.2.1, (if se.2.2.2.1 0 = 0 then upd se.2.2.2.1 0 1 else se.2.2.2.1), se.2.2.2.2)
/-- how a reading ends: an error at the same place, or none and the same setup -/
def FIN (l : Nat) (ans : Int32) (se : T_SE) (rdd le so wh : Nat → Int32) : Prop := (∃ q, q ≤ l ∧ ans = nI q) ∨ (ans = -1 ∧ ∃ v, NM v se.2.2.2.2.1 le so wh ∧ SV v ∧ SC v se ∧ SM v rdd)
theorem NR_NM {v v' : Nat → Nat} {R : Nat → Nat → Nat} {S W : Nat → Nat} {nm le so wh : Nat → Int32} (H : NR v R S W nm le so wh) (h0 : v 0 ≤ v' 0) (h : ∀ i, ¬ i = 0 → v' i = v i) : NM v' nm le so wh := by
  obtain ⟨a, b, c, d, e⟩ := H
  refine ⟨R, S, W, ?_, fun r hr => ?_, fun r r' h1 h2 => c r r' h1 (by rw [h 70 (by decide)] at h2; exact h2), fun m hm => ?_⟩
  · rw [h 70 (by decide)]; omega
  · rw [h 70 (by decide)] at hr
    obtain ⟨m1, m2, m3, m4, m5, m6, m7⟩ := b r hr
    refine ⟨m1, m2, m3, m4, m5, ?_, m7⟩
    by_cases e0 : S r = 0
    · rw [e0] at m6 ⊢; omega
    · rw [h _ e0]; exact m6
  · rw [h 3 (by decide)] at hm
    obtain ⟨r, r1, r2, r3⟩ := d 3 m (Or.inr rfl) hm
    exact ⟨r, by rw [h 70 (by decide)]; exact r1, r2, r3⟩
theorem DR_fin {v : Nat → Nat} {R : Nat → Nat → Nat} {S W : Nat → Nat} {se : T_SE} {rdd le so wh : Nat → Int32} {ht sn : Int32} (HD : DR v R S W se rdd le so wh ht sn) : ∃ v', NM v' (finS se).2.2.2.2.1 le so wh ∧ SV v' ∧ SC v' (finS se) ∧ SM v' rdd := by
  obtain ⟨D1, D2, D3, D4, D5, D6⟩ := HD
  obtain ⟨w1, w2, w3, w4, w5, w6, w7⟩ := D2
  obtain ⟨x1, x2, x3, x4, x5, x6⟩ := D3
  have hc0 : se.2.2.2.1 0 = nI (v 0) := x2 0 (by decide)
  cases D5 with
  | inr h =>
    obtain ⟨_, h2, h3⟩ := h
    have hne : ¬ se.2.2.2.1 0 = 0 := by
      rw [hc0]
      intro hh
      have := (nI_eqz (by omega)).mp hh
      omega
    have hfs : finS se = se := by
      unfold finS
      rw [if_neg hne]
    rw [hfs]
    refine ⟨v, NR_NM D1 (Nat.le_refl _) (fun _ _ => rfl), ⟨⟨h2, w1⟩, w2, w3, w4, w5, w6, w7⟩, ⟨x1, x2, x3, x4, x5, x6⟩, fun i hi => ?_⟩
    by_cases e : i = 0
    · rw [e]; exact h3
    · exact D4 i hi e
  | inl h =>
    obtain ⟨_, h0, h2, h3, h4, h5⟩ := h
    have hz : se.2.2.2.1 0 = 0 := by rw [hc0, h0]; rfl
    have hu : ∀ i, ¬ i = 0 → updN v 0 1 i = v i := fun i hi => updN_ne v 1 hi
    have hu0 : updN v 0 1 0 = 1 := updN_at v 0 1
    have hfs : finS se = (se.1, se.2.1, se.2.2.1, upd se.2.2.2.1 0 1, se.2.2.2.2) := by
      unfold finS
      rw [if_pos hz]
    rw [hfs]
    refine ⟨updN v 0 1, NR_NM D1 (by rw [hu0]; omega) hu, ?_, ?_, ?_⟩
    · unfold SV
      rw [hu0, hu 1 (by decide), hu 2 (by decide), hu 3 (by decide), hu 4 (by decide), hu 5 (by decide), hu 6 (by decide), hu 7 (by decide), hu 8 (by decide)]
      refine ⟨⟨by omega, by omega, w1.2.1, w1.2.2.1, w1.2.2.2.1, w1.2.2.2.2⟩, w2, ⟨w3.1, fun t ht => ?_⟩, fun t ht => by omega, fun c hc => ?_, fun q hq => ?_, fun h hh => ?_⟩
      · have e : t = 0 := by omega
        subst e
        rw [hu _ (by decide), hu _ (by decide)]
        have := w3.1
        constructor
        · rw [show 8 + 0 = 8 from rfl, this]; omega
        · rw [show 13 + 0 = 13 from rfl, h5]; omega
      · rw [hu _ (by omega), hu _ (by omega)]; exact w5 c hc
      · rw [hu _ (by omega), hu _ (by omega), hu _ (by omega), hu _ (by omega)]; exact w6 q hq
      · rw [hu _ (by omega)]; exact w7 h hh
    · unfold SC
      rw [hu0, hu 1 (by decide), hu 2 (by decide), hu 4 (by decide), hu 5 (by decide), hu 6 (by decide), hu 7 (by decide)]
      refine ⟨x1, fun i hi => ?_, fun t ht => ?_, fun c hc => ?_, fun q hq => ?_, fun h hh => ?_⟩
      · dsimp only
        by_cases e : i = 0
        · rw [e, upd_at, hu0]; rfl
        · rw [upd_ne _ _ e, hu _ e]; exact x2 i hi
      · have e : t = 0 := by omega
        subst e
        rw [hu _ (by decide), hu _ (by decide)]
        constructor
        · exact h3.trans (by rw [show 8 + 0 = 8 from rfl, w3.1]; rfl)
        · exact h4.trans (by rw [show 13 + 0 = 13 from rfl, h5]; rfl)
      · rw [hu _ (by omega), hu _ (by omega)]; exact x4 c hc
      · rw [hu _ (by omega), hu _ (by omega), hu _ (by omega), hu _ (by omega)]; exact x5 q hq
      · rw [hu _ (by omega)]; exact x6 h hh
    · intro i hi
      by_cases e : i = 0
      · rw [e, hu0]; exact h2
      · rw [hu i e]; exact D4 i hi e
theorem M_end {N : Nat} {l : Nat} {buf : Nat → Int32} {at' tk ht sn : Int32} {q : Nat} (hq : q < 2 ^ 31) {rdd le so wh : Nat → Int32} (n : Nat) : f_X11_readsText_b31 N 71 192 32 32 600 (nI l) buf (n + 1) at' tk (nI q) ht sn rdd le so wh = some (nI q, at', tk, nI q, ht, sn, rdd, le, so, wh) := by
  unfold f_X11_readsText_b31
  rw [fine_no hq, Option.bind_some, if_pos rfl]
  unfold f_X11_readsText_b64
  rw [fine_no hq, Option.bind_some, if_pos rfl]
  unfold f_X11_readsText_b86
  rw [if_pos (nI_pos' hq)]
/-- what is read behind a statement -/
theorem tail_tok {bt : Nat → Nat} {l : Nat} {g buf : Nat → Int32} (H : TB bt l g buf) {q : Nat} (hq : q ≤ l) : (l ≤ spn (isSp bt) l q ∧ tkK bt l (spn (isSp bt) l q) = 258 ∧ heN bt l (spn (isSp bt) l q) = -1) ∨ (spn (isSp bt) l q < l ∧ ¬ tkK bt l (spn (isSp bt) l q) = 258 ∧ heN bt l (spn (isSp bt) l q) = nI (bt (spn (isSp bt) l q)) ∧ bt (spn (isSp bt) l q) ≤ 255 ∧ ((bt (spn (isSp bt) l q) = 59 ∧ tkK bt l (spn (isSp bt) l q) = 59 ∧ tkE bt l (spn (isSp bt) l q) = spn (isSp bt) l q + 1) ∨ (¬ bt (spn (isSp bt) l q) = 59 ∧ ¬ tkK bt l (spn (isSp bt) l q) = 59))) := by
  generalize hs : spn (isSp bt) l q = s
  by_cases h : l ≤ s
  · refine Or.inl ⟨h, ?_, ?_⟩
    · unfold tkK; rw [if_pos h]
    · unfold heN; rw [if_pos h]
  · obtain ⟨t1, t2, t3, t4⟩ := H.2 s (by omega)
    refine Or.inr ⟨by omega, ?_, ?_, t3, ?_⟩
    · intro hh
      exact h ((tkK_258 (fun _ => t3)).mp hh)
    · unfold heN; rw [if_neg h]
    · by_cases h9 : bt s = 59
      · refine Or.inl ⟨h9, ?_, ?_⟩
        · unfold tkK isLe isDi
          rw [if_neg h, h9, if_neg (by decide), if_neg (by decide)]; rfl
        · unfold tkE isLe isDi
          rw [if_neg h, h9, if_neg (by decide), if_neg (by decide)]
      · refine Or.inr ⟨h9, ?_⟩
        unfold tkK
        rw [if_neg h]
        by_cases hl : isLe bt s = true
        · rw [if_pos hl]; decide
        · rw [if_neg hl]
          by_cases hd : isDi bt s = true
          · rw [if_pos hd]; decide
          · rw [if_neg hd]
            intro hh
            exact h9 ((nI_eq (b := 59) (by omega) (by decide)).mp hh)
/-- THE LOOP over the statements in both programs -/
theorem R_loop {bt : Nat → Nat} {l : Nat} {g buf : Nat → Int32} (H : TB bt l g buf) {N : Nat} (hN : 700 < N) : ∀ (d p x n n2 : Nat) (v : Nat → Nat) (R : Nat → Nat → Nat) (S W : Nat → Nat) (se : T_SE) (rdd le so wh : Nat → Int32) (ht sn st tk : Int32), l < p + d → p ≤ l → x ≤ p → d < n → d < n2 → DR v R S W se rdd le so wh ht sn → ∃ (ans pc sc tc ec : Int32) (se' : T_SE) (pm tm em ht' sn' : Int32) (rdd' le' so' wh' : Nat → Int32), f_X8_read_b19 N 600 8 96 5 5 8 8 8 8 8 8 4 (nI l) g n (nI x) (nI p) st tk (-1) se.1 se.2.1 se.2.2.1 se.2.2.2.1 se.2.2.2.2.1 se.2.2.2.2.2.1 se.2.2.2.2.2.2.1 se.2.2.2.2.2.2.2.1 se.2.2.2.2.2.2.2.2.1 se.2.2.2.2.2.2.2.2.2.1 se.2.2.2.2.2.2.2.2.2.2.1 se.2.2.2.2.2.2.2.2.2.2.2.1 se.2.2.2.2.2.2.2.2.2.2.2.2.1 se.2.2.2.2.2.2.2.2.2.2.2.2.2 = some (ans, pc, sc, tc, ec, se') ∧ ((f_X11_readsStatement N 71 192 32 32 600 (nI l) (nI p) (-1) ht sn rdd le so wh buf).bind fun r => f_X11_readsText_b31 N 71 192 32 32 600 (nI l) buf n2 r.1 r.2.1 r.2.2.1 r.2.2.2.1 r.2.2.2.2.1 r.2.2.2.2.2.1 r.2.2.2.2.2.2.1 r.2.2.2.2.2.2.2.1 r.2.2.2.2.2.2.2.2) = some (ans, pm, tm, em, ht', sn', rdd', le', so', wh') ∧ FIN l ans se' rdd' le' so' wh'
  | 0, p, x, n, n2, v, R, S, W, se, rdd, le, so, wh, ht, sn, st, tk, h1, h2, h3, h4, h5, HD => by omega
  | d + 1, p, x, 0, n2, v, R, S, W, se, rdd, le, so, wh, ht, sn, st, tk, h1, h2, h3, h4, h5, HD => by omega
  | d + 1, p, x, n + 1, 0, v, R, S, W, se, rdd, le, so, wh, ht, sn, st, tk, h1, h2, h3, h4, h5, HD => by omega
  | d + 1, p, x, n + 1, n2 + 1, v, R, S, W, se, rdd, le, so, wh, ht, sn, st, tk, h1, h2, h3, h4, h5, HD => by
    have hl := H.1
    obtain ⟨pc, sc, tc, ec, se1, pm, tm, em, ht1, sn1, rd1, le1, so1, wh1, z1, z2, z3, z4⟩ := S_stmt HD H h2 hN
    have hlen : ¬ nI l < nI x := fun hh => by have := (nI_ltI (by omega) (by omega)).mp hh; omega
    rw [z2, Option.bind_some]
    dsimp only
    unfold f_X8_read_b19 f_X3_length
    rw [Option.bind_some, if_neg hlen, z1, Option.bind_some]
    dsimp only
    rcases z3 with z3 | z3
    · obtain ⟨q, q1, q2, q3⟩ := z3
      subst q2 q3
      rw [if_neg (nI_neg1 (by omega)), M_end (by omega)]
      exact ⟨nI q, pc, sc, tc, nI q, se1, pm, tm, nI q, ht1, sn1, rd1, le1, so1, wh1, rfl, rfl, Or.inl ⟨q, q1, rfl⟩⟩
    · obtain ⟨q2, q3, q, q1, q4, q5, v1, R1, S1, W1, HD1⟩ := z3
      obtain ⟨q', q6, q7, q8⟩ := z4 q2
      subst q2 q3 q5
      rw [q4] at q8
      have hqq := (nI_eq (by omega) (by omega)).mp q8
      subst hqq q4
      obtain ⟨a1, a2, a3, a4⟩ := spn_spec (f := isSp bt) q1
      rw [if_pos rfl, C_readToken H q1 hN, Option.bind_some]
      dsimp only
      rw [Option.bind_some]
      unfold f_X11_readsText_b31
      rw [fine_yes, Option.bind_some, if_neg (show ¬ (1 : Int32) = 0 by decide), M_look H q1 hN, Option.bind_some]
      dsimp only
      have hid : spn (isSp bt) l (spn (isSp bt) l q) = spn (isSp bt) l q := spn_idem q1
      have hlook := M_look H a2 hN
      rw [hid] at hlook
      have h64 : f_X11_readsText_b64 N 600 (nI l) (nI (spn (isSp bt) l q)) (nI (spn (isSp bt) l q)) (-1) ht1 sn1 rd1 le1 so1 wh1 buf = if heN bt l (spn (isSp bt) l q) < 0 then some (-1, nI (spn (isSp bt) l q), nI (spn (isSp bt) l q), -1, ht1, sn1, rd1, le1, so1, wh1) else some (nI (spn (isSp bt) l q), nI (spn (isSp bt) l q), nI (spn (isSp bt) l q), nI (spn (isSp bt) l q), ht1, sn1, rd1, le1, so1, wh1) := by
        unfold f_X11_readsText_b64
        rw [fine_yes, Option.bind_some, if_neg (show ¬ (1 : Int32) = 0 by decide), hlook, Option.bind_some]
        dsimp only
        by_cases hh : heN bt l (spn (isSp bt) l q) < 0
        · rw [if_pos hh, if_pos hh]
          unfold f_X11_readsText_b86
          rw [if_neg (show ¬ (0 : Int32) ≤ -1 by decide)]
        · rw [if_neg hh, if_neg hh]
          unfold f_X11_wrongAt
          rw [if_neg (show ¬ (0 : Int32) ≤ -1 by decide), Option.bind_some]
          unfold f_X11_readsText_b86
          rw [if_pos (nI_pos' (by omega))]
      rcases tail_tok H q1 with k | k
      · obtain ⟨k1, k2, k3⟩ := k
        rw [if_pos k2, C_finish, Option.bind_some, k3, if_neg (show ¬ (-1 : Int32) = 59 by decide)]
        rw [k3, if_pos (show (-1 : Int32) < 0 by decide)] at h64
        rw [h64]
        exact ⟨-1, _, _, _, _, finS se1, _, _, _, ht1, sn1, rd1, le1, so1, wh1, rfl, rfl, Or.inr ⟨rfl, DR_fin HD1⟩⟩
      · obtain ⟨k1, k2, k3, k4, k5⟩ := k
        rw [if_neg k2]
        rcases k5 with k5 | k5
        · obtain ⟨k6, k7, k8⟩ := k5
          rw [if_pos k7, k8, nI_1, k3, k6, if_pos (show nI 59 = (59 : Int32) from rfl), nI_1]
          exact R_loop H hN d (spn (isSp bt) l q + 1) (x + 1) n n2 v1 R1 S1 W1 se1 rd1 le1 so1 wh1 ht1 sn1 _ _ (by omega) (by omega) (by omega) (by omega) (by omega) HD1
        · obtain ⟨k6, k7⟩ := k5
          have hb : ¬ nI (bt (spn (isSp bt) l q)) = (59 : Int32) := fun hh => k6 ((nI_eq (b := 59) (by omega) (by decide)).mp hh)
          rw [if_neg k7, k3, if_neg hb]
          rw [k3, if_neg (nI_pos (by omega))] at h64
          rw [h64]
          exact ⟨nI (spn (isSp bt) l q), _, _, _, _, se1, _, _, _, ht1, sn1, rd1, le1, so1, wh1, rfl, rfl, Or.inl ⟨_, a2, rfl⟩⟩

