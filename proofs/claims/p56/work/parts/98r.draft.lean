/-- the bounds of a setup that is being read -/
def SVd (v : Nat → Nat) : Prop := (v 0 ≤ 5 ∧ v 1 ≤ 8 ∧ v 2 ≤ 8 ∧ v 3 ≤ 12 ∧ v 4 ≤ 4) ∧ (1 ≤ v 5 ∧ v 5 ≤ 1000 ∧ 1 ≤ v 6 ∧ v 6 ≤ 1000 ∧ v 7 ≤ 400) ∧ (v 8 = 0 ∧ ∀ t, t < v 0 → v (8 + t) ≤ 1000000 ∧ v (13 + t) ≤ 300) ∧ (∀ t, t + 1 < v 0 → v (8 + t) < v (8 + (t + 1))) ∧ (∀ c, c < v 1 → v (18 + c) ≤ 50 ∧ v (26 + c) ≤ 100000) ∧ (∀ p, p < v 2 → v (34 + p) < v 1 ∧ v (42 + p) ≤ 9999 ∧ v (50 + p) ≤ 9999 ∧ v (58 + p) ≤ 500) ∧ ∀ h, h < v 4 → v (66 + h) ≤ 100
/-- the draft of the class and what the reference has read -/
def DR (v : Nat → Nat) (R : Nat → Nat → Nat) (S W : Nat → Nat) (se : T_SE) (rdd le so wh : Nat → Int32) (ht sn : Int32) : Prop := NR v R S W se.2.2.2.2.1 le so wh ∧ SVd v ∧ SC v se ∧ (∀ i, i < 71 → i ≠ 0 → rdd i = nI (v i)) ∧ ((ht = 0 ∧ v 0 = 0 ∧ rdd 0 = 1 ∧ se.2.2.2.2.2.1 0 = 0 ∧ se.2.2.2.2.2.2.1 0 = 0 ∧ v 13 = 0) ∨ (ht = 1 ∧ 1 ≤ v 0 ∧ rdd 0 = nI (v 0))) ∧ ∃ a b c, a ≤ 1 ∧ b ≤ 1 ∧ c ≤ 1 ∧ sn = nI (32 * a + 64 * b + 128 * c) ∧ se.2.2.2.1 5 = nI a ∧ se.2.2.2.1 6 = nI b ∧ se.2.2.2.1 7 = nI c
theorem fine_no {q : Nat} (h : q < 2 ^ 31) : f_X11_isFine (nI q) = some 0 := by
  unfold f_X11_isFine
  rw [if_pos (show 0 ≤ nI q by rw [← nI_0, nI_leI (by omega) h]; omega)]
theorem fine_yes : f_X11_isFine (-1) = some 1 := by
  unfold f_X11_isFine
  rw [if_neg (by decide)]
theorem names_err {q : Nat} (h : q < 2 ^ 31) (N : Nat) (t at' tk len : Int32) (rdd le so wh buf : Nat → Int32) : f_X11_names N t 71 192 32 32 600 len at' tk (nI q) rdd le so wh buf = some (at', tk, nI q, rdd, le, so, wh) := by
  unfold f_X11_names
  rw [fine_no h, Option.bind_some, if_pos rfl]
theorem number_err {q : Nat} (h : q < 2 ^ 31) (N : Nat) (lo hi at' tk len : Int32) (buf : Nat → Int32) : f_X11_number N lo hi 600 len at' tk (nI q) buf = some (0, at', tk, nI q) := by
  unfold f_X11_number
  rw [fine_no h, Option.bind_some, if_pos rfl]
theorem reads_err {q : Nat} (h : q < 2 ^ 31) (N : Nat) (x lo hi at' tk len : Int32) (rdd buf : Nat → Int32) : f_X11_reads N x lo hi 71 600 len at' tk (nI q) rdd buf = some (at', tk, nI q, rdd) := by
  unfold f_X11_reads
  rw [number_err h, Option.bind_some]
  dsimp only
  rw [fine_no h, Option.bind_some, if_pos rfl]
theorem room_in {x i m q : Nat} {rdd : Nat → Int32} (hi : i < 71) (hr : rdd i = nI x) (hx : x < 2 ^ 31) (hm : m < 2 ^ 31) (hq : q < 2 ^ 31) : f_X11_room (nI i) (nI m) 71 (nI q) (-1) rdd = some (if x = m then nI q else -1) := by
  have gi := grd (i := i) (n := 71) hi (by decide)
  unfold f_X11_room f_X11_wrongAt
  rw [if_neg gi, nI_clamp (by omega), hr]
  by_cases e : x = m
  · rw [if_pos (by rw [e]), if_pos e, if_neg (by decide)]; rfl
  · rw [if_neg (fun hh => e ((nI_eq hx hm).mp hh)), if_neg e]
/-- what a statement leaves: an error at the same place, or both fine and the draft goes on -/
def OUT (l : Nat) (pc ec : Int32) (se : T_SE) (pm em ht sn : Int32) (rdd le so wh : Nat → Int32) : Prop := (∃ q, q ≤ l ∧ ec = nI q ∧ em = nI q) ∨ (ec = -1 ∧ em = -1 ∧ ∃ q, q ≤ l ∧ pc = nI q ∧ pm = nI q ∧ ∃ v R S W, DR v R S W se rdd le so wh ht sn)
theorem NR_congr {v v' : Nat → Nat} {R : Nat → Nat → Nat} {S W : Nat → Nat} {nm le so wh : Nat → Int32} (H : NR v R S W nm le so wh) (h0 : v' 0 = v 0) (h1 : v' 1 = v 1) (h3 : v' 3 = v 3) (h4 : v' 4 = v 4) (h70 : v' 70 = v 70) : NR v' R S W nm le so wh := by
  obtain ⟨a, b, c, d, e⟩ := H
  unfold NR
  rw [h0, h1, h3, h4, h70]
  refine ⟨a, fun r hr => ?_, c, fun t m ht hm => d t m ht ?_, e⟩
  · obtain ⟨m1, m2, m3, m4, m5, m6, m7⟩ := b r hr
    refine ⟨m1, m2, m3, m4, m5, ?_, m7⟩
    rcases m5 with q | q | q | q <;> rw [q] at m6 ⊢ <;> omega
  · rcases ht with q | q <;> rw [q] at hm ⊢ <;> omega
/-- the member statement -/
theorem S_member {v : Nat → Nat} {R : Nat → Nat → Nat} {S W : Nat → Nat} {se : T_SE} {rdd le so wh : Nat → Int32} {ht sn : Int32} (HD : DR v R S W se rdd le so wh ht sn) {bt : Nat → Nat} {l : Nat} {g buf : Nat → Int32} (H : TB bt l g buf) {p s0 : Nat} (hp : p ≤ l) (hs0 : s0 ≤ l) {N : Nat} (hN : 700 < N) : (v 3 = 12 → ∃ a b, f_X11_readsMember N 71 192 32 32 600 (nI l) (nI p) (nI s0) (-1) rdd le so wh buf = some (a, b, nI s0, rdd, le, so, wh)) ∧ (v 3 < 12 → ∃ pc sc tc ec cs' nm' pm tm em rdd' le' so' wh', f_X8_readMember N 600 8 96 (nI p) (-1) (nI l) g se.2.2.2.1 se.2.2.2.2.1 = some (pc, sc, tc, ec, cs', nm') ∧ f_X11_readsMember N 71 192 32 32 600 (nI l) (nI p) (nI s0) (-1) rdd le so wh buf = some (pm, tm, em, rdd', le', so', wh') ∧ OUT l pc ec (se.1, se.2.1, se.2.2.1, cs', nm', se.2.2.2.2.2) pm em ht sn rdd' le' so' wh') := by
  obtain ⟨D1, D2, D3, D4, D5, D6⟩ := HD
  have hl := H.1
  have h30 := D4 3 (by omega) (by decide)
  have h70 := D4 70 (by omega) (by decide)
  have hv3 := D2.1.2.2.2.1
  have hv70 : v 70 < 32 := by have := D1.1; omega
  have hroom := room_in (i := 3) (m := 12) (q := s0) (by omega) h30 (by omega) (by omega) (by omega)
  constructor
  · intro hf
    rw [if_pos hf] at hroom
    unfold f_X11_readsMember
    rw [show (3 : Int32) = nI 3 from rfl, show (12 : Int32) = nI 12 from rfl, hroom, Option.bind_some, names_err (by omega), Option.bind_some]
    dsimp only
    rw [fine_no (by omega), Option.bind_some, if_pos rfl]
    exact ⟨_, _, rfl⟩
  · intro hf
    rw [if_neg (by omega)] at hroom
    obtain ⟨c1, c2⟩ := C_newName D1 H hp hN
    obtain ⟨m1, m2⟩ := M_names D1 H hp (t := 3) (by omega) h70 hv70 (nI s0) hN
    obtain ⟨a1, a2, a3, a4⟩ := spn_spec (f := isSp bt) hp
    obtain ⟨b1, b2, b3, b4⟩ := spn_spec (f := isLe bt) a2
    by_cases hok : newN bt l (spn (isSp bt) l p) (v 70) le buf
    · obtain ⟨le', e1, e2, e3⟩ := m1 hok
      have hw := isW_wd ((spn_isW a2).mpr hok.1)
      have hnew : ∀ r, r < v 70 → ¬ lcode (R r) = lcode (wdN bt (spn (isSp bt) l p) (spn (isLe bt) l (spn (isSp bt) l p) - spn (isSp bt) l p)) := by
        intro r hr hh
        obtain ⟨q1, q2, _⟩ := D1.2.1 r hr
        refine hok.2.2 r hr ((isRow_wd q1 q2 (TB_row H a2)).mpr ⟨(spn_isW a2).mpr hok.1, lcode_inj q1 hw hh⟩)
      have hN' := NR_add D1 (t := 3) (Or.inr (Or.inr (Or.inl rfl))) hw hnew e2 e3 ⟨fun h => absurd h (by decide), fun h => absurd h (by decide), fun _ => hf, fun h => absurd h (by decide)⟩
      have hcs3 : se.2.2.2.1 3 = nI (v 3) := D3.2.1 3 (by omega)
      have hu : ∀ j, ¬ j = 3 → ¬ j = 70 → updN (updN v 3 (v 3 + 1)) 70 (v 70 + 1) j = v j := fun j h1 h2 => by unfold updN; rw [if_neg h2, if_neg h1]
      have h3' : updN (updN v 3 (v 3 + 1)) 70 (v 70 + 1) 3 = v 3 + 1 := by unfold updN; rw [if_neg (by decide), if_pos rfl]
      have h70' : updN (updN v 3 (v 3 + 1)) 70 (v 70 + 1) 70 = v 70 + 1 := by unfold updN; rw [if_pos rfl]
      have hSV : SVd (updN (updN v 3 (v 3 + 1)) 70 (v 70 + 1)) := by
        obtain ⟨w1, w2, w3, w4, w5, w6, w7⟩ := D2
        unfold SVd
        rw [h3', hu 0 (by decide) (by decide), hu 1 (by decide) (by decide), hu 2 (by decide) (by decide), hu 4 (by decide) (by decide), hu 5 (by decide) (by decide), hu 6 (by decide) (by decide), hu 7 (by decide) (by decide), hu 8 (by decide) (by decide)]
        refine ⟨⟨w1.1, w1.2.1, w1.2.2.1, by omega, w1.2.2.2.2⟩, w2, ⟨w3.1, fun t ht => ?_⟩, fun t ht => ?_, fun c hc => ?_, fun q hq => ?_, fun h hh => ?_⟩
        · rw [hu _ (by omega) (by omega), hu _ (by omega) (by omega)]; exact w3.2 t ht
        · rw [hu _ (by omega) (by omega), hu _ (by omega) (by omega)]; exact w4 t ht
        · rw [hu _ (by omega) (by omega), hu _ (by omega) (by omega)]; exact w5 c hc
        · rw [hu _ (by omega) (by omega), hu _ (by omega) (by omega), hu _ (by omega) (by omega), hu _ (by omega) (by omega)]; exact w6 q hq
        · rw [hu _ (by omega) (by omega)]; exact w7 h hh
      have hSC : SC (updN (updN v 3 (v 3 + 1)) 70 (v 70 + 1)) (se.1, se.2.1, se.2.2.1, upd se.2.2.2.1 3 (nI (v 3 + 1)), upd se.2.2.2.2.1 (12 * 3 + v 3) (nI (lcode (wdN bt (spn (isSp bt) l p) (spn (isLe bt) l (spn (isSp bt) l p) - spn (isSp bt) l p)))), se.2.2.2.2.2) := by
        obtain ⟨w1, w2, w3, w4, w5, w6⟩ := D3
        obtain ⟨z1, _⟩ := D2
        unfold SC
        rw [hu 0 (by decide) (by decide), hu 1 (by decide) (by decide), hu 2 (by decide) (by decide), hu 4 (by decide) (by decide), hu 5 (by decide) (by decide), hu 6 (by decide) (by decide), hu 7 (by decide) (by decide)]
        refine ⟨w1, fun i hi => ?_, fun t ht => ?_, fun c hc => ?_, fun q hq => ?_, fun h hh => ?_⟩
        · dsimp only
          by_cases e : i = 3
          · rw [e, upd_at, h3']
          · rw [upd_ne _ _ e, hu _ e (by omega)]; exact w2 i hi
        · rw [hu _ (by omega) (by omega), hu _ (by omega) (by omega)]; exact w3 t ht
        · rw [hu _ (by omega) (by omega), hu _ (by omega) (by omega)]; exact w4 c hc
        · rw [hu _ (by omega) (by omega), hu _ (by omega) (by omega), hu _ (by omega) (by omega), hu _ (by omega) (by omega)]; exact w5 q hq
        · rw [hu _ (by omega) (by omega)]; exact w6 h hh
      have hM4 : ∀ i, i < 71 → i ≠ 0 → (upd (upd rdd 70 (nI (v 70 + 1))) 3 (nI (v 3 + 1))) i = nI (updN (updN v 3 (v 3 + 1)) 70 (v 70 + 1) i) := by
        intro i h1 h2
        by_cases e : i = 3
        · rw [e, upd_at, h3']
        · rw [upd_ne _ _ e]
          by_cases e2 : i = 70
          · rw [e2, upd_at, h70']
          · rw [upd_ne _ _ e2, hu _ e e2]; exact D4 i h1 h2
      have hDR : ∃ v' R' S' W', DR v' R' S' W' (se.1, se.2.1, se.2.2.1, upd se.2.2.2.1 3 (nI (v 3 + 1)), upd se.2.2.2.2.1 (12 * 3 + v 3) (nI (lcode (wdN bt (spn (isSp bt) l p) (spn (isLe bt) l (spn (isSp bt) l p) - spn (isSp bt) l p)))), se.2.2.2.2.2) (upd (upd rdd 70 (nI (v 70 + 1))) 3 (nI (v 3 + 1))) le' (upd so (v 70) (nI 3)) (upd wh (v 70) (nI (v 3))) ht sn := by
        refine ⟨updN (updN v 3 (v 3 + 1)) 70 (v 70 + 1), _, _, _, hN', hSV, hSC, hM4, ?_, ?_⟩
        · rw [hu 0 (by decide) (by decide), hu 13 (by decide) (by decide), upd_ne _ _ (by decide), upd_ne _ _ (by decide)]
          exact D5
        · dsimp only
          rw [upd_ne _ _ (by decide), upd_ne _ _ (by decide), upd_ne _ _ (by decide)]
          exact D6
      refine ⟨nI (spn (isLe bt) l (spn (isSp bt) l p)), nI (spn (isSp bt) l p), 256, -1, upd se.2.2.2.1 3 (nI (v 3 + 1)), upd se.2.2.2.2.1 (12 * 3 + v 3) (nI (lcode (wdN bt (spn (isSp bt) l p) (spn (isLe bt) l (spn (isSp bt) l p) - spn (isSp bt) l p)))), nI (spn (isLe bt) l (spn (isSp bt) l p)), nI (spn (isSp bt) l p), -1, upd (upd rdd 70 (nI (v 70 + 1))) 3 (nI (v 3 + 1)), le', upd so (v 70) (nI 3), upd wh (v 70) (nI (v 3)), ?_, ?_, Or.inr ⟨rfl, rfl, (spn (isLe bt) l (spn (isSp bt) l p)), b2, rfl, rfl, hDR⟩⟩
      · unfold f_X8_readMember
        rw [c1 hok, Option.bind_some]
        dsimp only
        rw [if_pos rfl]
        unfold f_X7_addMember f_X7_define
        rw [show (3 : Int32) = nI 3 from rfl, X6_at_in _ (show 8 < 2 ^ 31 by decide) (show 3 < 8 by decide), hcs3, Option.bind_some, show (12 : Int32) = nI 12 from rfl, nI_mul, nI_add, X6_put_in _ _ (show 96 < 2 ^ 31 by decide) (show 3 * 12 + v 3 < 96 by omega), Option.bind_some, nI_1, X6_put_in _ _ (show 8 < 2 ^ 31 by decide) (show 3 < 8 by decide)]; rfl
      · have g3 : ¬ ((3 : Int32) < 0 ∨ 71 ≤ (3 : Int32).toNatClampNeg) := by decide
        unfold f_X11_readsMember
        rw [show f_X11_room (3 : Int32) (12 : Int32) 71 (nI s0) (-1) rdd = some (-1) from hroom, Option.bind_some, show f_X11_names N (3 : Int32) 71 192 32 32 600 (nI l) (nI p) (nI s0) (-1) rdd le so wh buf = _ from e1, Option.bind_some]
        dsimp only
        rw [fine_yes, Option.bind_some, if_neg (show ¬ (1 : Int32) = 0 by decide), if_neg g3, show (3 : Int32).toNatClampNeg = 3 from rfl, if_neg (show ¬ ((3 : Int32) < 0 ∨ 71 ≤ 3) by decide), upd_ne _ _ (show ¬ 3 = 70 by decide), h30, nI_1, Option.bind_some]
    · obtain ⟨y, c3⟩ := c2 hok
      obtain ⟨q, m3⟩ := m2 hok
      refine ⟨nI (tkE bt l (spn (isSp bt) l p)), nI (spn (isSp bt) l p), tkK bt l (spn (isSp bt) l p), nI (spn (isSp bt) l p), se.2.2.2.1, se.2.2.2.2.1, q, nI (spn (isSp bt) l p), nI (spn (isSp bt) l p), rdd, le, so, wh, ?_, ?_, Or.inl ⟨spn (isSp bt) l p, a2, rfl, rfl⟩⟩
      · unfold f_X8_readMember
        rw [c3, Option.bind_some]
        dsimp only
        rw [if_neg (nI_neg1 (by omega))]
      · unfold f_X11_readsMember
        rw [show f_X11_room (3 : Int32) (12 : Int32) 71 (nI s0) (-1) rdd = some (-1) from hroom, Option.bind_some, show f_X11_names N (3 : Int32) 71 192 32 32 600 (nI l) (nI p) (nI s0) (-1) rdd le so wh buf = _ from m3, Option.bind_some]
        dsimp only
        rw [fine_no (by omega), Option.bind_some, if_pos rfl]


