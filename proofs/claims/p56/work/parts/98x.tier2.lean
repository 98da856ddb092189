/-- the tier statement -/
theorem S_tier {v : Nat → Nat} {R : Nat → Nat → Nat} {S W : Nat → Nat} {se : T_SE} {rdd le so wh : Nat → Int32} {ht sn : Int32} (HD : DR v R S W se rdd le so wh ht sn) {bt : Nat → Nat} {l : Nat} {g buf : Nat → Int32} (H : TB bt l g buf) {p s0 : Nat} (hp : p ≤ l) (hs0 : s0 ≤ l) {N : Nat} (hN : 700 < N) : (v 0 = 5 → ∃ a b ht' r1 r2 r3 r4, f_X11_readsTier N 71 192 32 32 600 (nI l) (nI p) (nI s0) (-1) ht rdd le so wh buf = some (a, b, nI s0, ht', r1, r2, r3, r4)) ∧ (v 0 < 5 → ∃ pc sc tc ec cs' nm' th' bo' pm tm em ht' rdd' le' so' wh', f_X8_readTier N 600 8 96 5 5 (nI p) (-1) (nI l) g se.2.2.2.1 se.2.2.2.2.1 se.2.2.2.2.2.1 se.2.2.2.2.2.2.1 = some (pc, sc, tc, ec, cs', nm', th', bo') ∧ f_X11_readsTier N 71 192 32 32 600 (nI l) (nI p) (nI s0) (-1) ht rdd le so wh buf = some (pm, tm, em, ht', rdd', le', so', wh') ∧ OUT l pc ec (se.1, se.2.1, se.2.2.1, cs', nm', th', bo', se.2.2.2.2.2.2.2.1, se.2.2.2.2.2.2.2.2.1, se.2.2.2.2.2.2.2.2.2.1, se.2.2.2.2.2.2.2.2.2.2.1, se.2.2.2.2.2.2.2.2.2.2.2.1, se.2.2.2.2.2.2.2.2.2.2.2.2.1, se.2.2.2.2.2.2.2.2.2.2.2.2.2) pm em ht' sn rdd' le' so' wh') := by
  obtain ⟨D1, D2, D3, D4, D5, D6⟩ := HD
  have g0 : ¬ ((0 : Int32) < 0 ∨ 71 ≤ (0 : Int32).toNatClampNeg) := by decide
  obtain ⟨rd, h1, h2⟩ : ∃ rd : Nat → Int32, f_X11_readsTier N 71 192 32 32 600 (nI l) (nI p) (nI s0) (-1) ht rdd le so wh buf = f_X11_readsTier_b26 N 71 192 32 32 600 (nI l) (nI p) (nI s0) (-1) 1 rd le so wh buf ∧ ∀ i, i < 71 → rd i = nI (v i) := by
    cases D5 with
    | inl h =>
      refine ⟨upd rdd 0 0, ?_, fun i hi => ?_⟩
      · unfold f_X11_readsTier
        rw [if_pos h.1, fine_yes, Option.bind_some, if_neg (by decide), if_neg g0, Option.bind_some]; rfl
      · by_cases e : i = 0
        · rw [e, upd_at, h.2.1]; rfl
        · rw [upd_ne _ _ e]; exact D4 i hi e
    | inr h =>
      refine ⟨rdd, ?_, fun i hi => ?_⟩
      · unfold f_X11_readsTier
        rw [h.1, if_neg (by decide)]
      · by_cases e : i = 0
        · rw [e]; exact h.2.2
        · exact D4 i hi e
  have hS := S_tier0 D1 D2 D3 h2 D6 H hp hs0 hN
  rw [h1]
  exact hS
