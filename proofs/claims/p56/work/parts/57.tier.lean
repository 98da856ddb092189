/-- a check of a tier: the present one, the day since when it is above the earned one -/
def ckI (earned day grace rank below : Int32) : Int32 × Int32 := if earned < rank then (if day - (if below = -1 then day else below) < grace then (rank, if below = -1 then day else below) else (earned, -1)) else (earned, -1)
theorem C_check (earned day grace rank below : Int32) : f_X9_check earned day grace rank below = some (ckI earned day grace rank below) := by
  unfold f_X9_check f_X9_check_b32 ckI
  by_cases h1 : earned < rank
  · rw [if_pos h1, if_pos h1]
    by_cases h2 : below = -1
    · rw [if_pos h2, if_pos h2]
      by_cases h3 : day - day < grace
      · rw [if_pos h3, if_pos h3]
      · rw [if_neg h3, if_neg h3]
    · rw [if_neg h2, if_neg h2]
      by_cases h3 : day - below < grace
      · rw [if_pos h3, if_pos h3]
      · rw [if_neg h3, if_neg h3]
  · rw [if_neg h1, if_neg h1]
theorem M_checks (earned day rank below : Int32) (fx : Nat → Int32) : f_X11_checks earned day 71 rank below fx = some (ckI earned day (fx 7) rank below) := by
  unfold f_X11_checks f_X11_checks_b36 ckI
  have g1 : ¬ ((7 : Int32) < 0 ∨ 71 ≤ (7 : Int32).toNatClampNeg) := by decide
  by_cases h1 : earned < rank
  · rw [if_pos h1, if_pos h1]
    by_cases h2 : below = -1
    · rw [if_pos h2, if_pos h2, if_neg g1, show (7 : Int32).toNatClampNeg = 7 from rfl]
      by_cases h3 : day - day < fx 7
      · rw [if_pos h3, if_pos h3]
      · rw [if_neg h3, if_neg h3]
    · rw [if_neg h2, if_neg h2, if_neg g1, show (7 : Int32).toNatClampNeg = 7 from rfl]
      by_cases h3 : day - below < fx 7
      · rw [if_pos h3, if_pos h3]
      · rw [if_neg h3, if_neg h3]
  · rw [if_neg h1, if_neg h1]
/-- the rank after a check is the one before or the earned one -/
theorem ckI_rank (earned day grace rank below : Int32) : (ckI earned day grace rank below).1 = rank ∨ (ckI earned day grace rank below).1 = earned := by
  unfold ckI
  by_cases h1 : earned < rank
  · rw [if_pos h1]
    by_cases h3 : day - (if below = -1 then day else below) < grace
    · rw [if_pos h3]; exact Or.inl rfl
    · rw [if_neg h3]; exact Or.inr rfl
  · rw [if_neg h1]; exact Or.inr rfl
/-- the log after a check -/
def ckLog (m d : Nat) (ck : Int32 × Int32) (rank : Int32) (Lg : List Co) : List Co := if ck.1 = rank then Lg else logAdd (6, nI d, nI m, ck.1) Lg
theorem C_checkTier {v : Nat → Nat} {m d : Nat} {Lg : List Co} {next size gr : Int32} {p cs th tr be qu : Nat → Int32} (H : LogC Lg next size p) (hm : m < 12) (h0 : cs 0 = nI (v 0)) (h1 : 1 ≤ v 0) (hn : v 0 ≤ 5) (ht : ∀ t, t < v 0 → th t = nI (v (8 + t))) {N : Nat} (hN : 10 < N) : ∃ o : Int32 × Int32 × (Nat → Int32), f_X0_checkTier N (nI m) 8 5 120 12 12 12 (nI d) gr cs th next size p tr be qu = some (o.1, o.2.1, o.2.2, upd tr m (ckI (nI (tierT v (qu m) (v 0 - 1))) (nI d) gr (tr m) (be m)).1, upd be m (ckI (nI (tierT v (qu m) (v 0 - 1))) (nI d) gr (tr m) (be m)).2, (ckI (nI (tierT v (qu m) (v 0 - 1))) (nI d) gr (tr m) (be m)).1, (ckI (nI (tierT v (qu m) (v 0 - 1))) (nI d) gr (tr m) (be m)).2) ∧ LogC (ckLog m d (ckI (nI (tierT v (qu m) (v 0 - 1))) (nI d) gr (tr m) (be m)) (tr m) Lg) o.1 o.2.1 o.2.2 := by
  generalize hck : ckI (nI (tierT v (qu m) (v 0 - 1))) (nI d) gr (tr m) (be m) = ck
  unfold f_X0_checkTier f_X9_start f_X7_grace f_X9_presentTier f_X9_belowDay ckLog
  simp only [X6_at_in tr h12 hm, X6_at_in be h12 hm, X6_at_in qu h12 hm, C_tierFor (qu m) h0 h1 hn ht hN, C_check, Option.bind_some, hck, X6_put_in tr ck.1 h12 hm, X6_put_in be ck.2 h12 hm]
  by_cases h : ck.1 = tr m
  · rw [if_pos h, if_pos h]
    exact ⟨(next, size, p), rfl, H⟩
  · rw [if_neg h, if_neg h]
    obtain ⟨o, ho, hR⟩ := C_log_add H 6 (nI d) (nI m) ck.1
    rw [ho]
    exact ⟨o, rfl, hR⟩
theorem M_checksTier {v : Nat → Nat} {m d : Nat} {Lg : List Co} {q : Int32} {fx g : Nat → Int32} (H : LogM Lg g) (hV : SV v) (hM : SM v fx) (hm : m < 12) (h0 : g 0 = nI d) {N : Nat} (hN : 2000 < N) (hq : f_X11_sumUpTo N (nI m) (nI d) 71 72470 fx g = some q) : ∃ g', f_X11_checksTier N (nI m) 71 72470 fx g = some ((ckI (nI (tierT v q (v 0 - 1))) (nI d) (fx 7) (g (42 + m)) (g (54 + m))).1, (ckI (nI (tierT v q (v 0 - 1))) (nI d) (fx 7) (g (42 + m)) (g (54 + m))).2, g') ∧ LogM (ckLog m d (ckI (nI (tierT v q (v 0 - 1))) (nI d) (fx 7) (g (42 + m)) (g (54 + m))) (g (42 + m)) Lg) g' ∧ g' (42 + m) = (ckI (nI (tierT v q (v 0 - 1))) (nI d) (fx 7) (g (42 + m)) (g (54 + m))).1 ∧ g' (54 + m) = (ckI (nI (tierT v q (v 0 - 1))) (nI d) (fx 7) (g (42 + m)) (g (54 + m))).2 ∧ ∀ i, ¬ i = 42 + m → ¬ i = 54 + m → ¬ i = 2 → i < 350 ∨ 470 ≤ i → g' i = g i := by
  generalize hck : ckI (nI (tierT v q (v 0 - 1))) (nI d) (fx 7) (g (42 + m)) (g (54 + m)) = ck
  have e1 : (42 : Int32) + nI m = nI (42 + m) := nI_add 42 m
  have e2 : (54 : Int32) + nI m = nI (54 + m) := nI_add 54 m
  have g1 := grd2 (i := 42 + m) (n := 72470) (by omega) (by decide)
  have g2 := grd2 (i := 54 + m) (n := 72470) (by omega) (by decide)
  have H2 : LogM Lg (upd (upd g (42 + m) ck.1) (54 + m) ck.2) := LogM_same H (by rw [upd_ne _ _ (by omega), upd_ne _ _ (by omega)]) (fun i a b => by rw [upd_ne _ _ (by omega), upd_ne _ _ (by omega)])
  unfold f_X11_checksTier f_X11_checksTier_b68 ckLog
  rw [e1, e2, nI_clamp (show 42 + m < 2 ^ 31 by omega), nI_clamp (show 54 + m < 2 ^ 31 by omega), if_neg g1, if_neg g2, M_today, Option.bind_some, h0, hq, Option.bind_some, M_tierBy q hV hM (by omega), Option.bind_some, Option.bind_some, M_checks, Option.bind_some, hck, if_neg g1]
  by_cases h : ck.1 = g (42 + m)
  · rw [if_pos h, if_pos h, if_neg g1, Option.bind_some, if_neg g2, Option.bind_some, if_pos rfl]
    refine ⟨_, rfl, H2, ?_, ?_, ?_⟩
    · rw [upd_ne _ _ (by omega), upd_at]
    · rw [upd_at]
    · intro i a b _ _
      rw [upd_ne _ _ b, upd_ne _ _ a]
  · rw [if_neg h, if_neg h, if_neg g1, Option.bind_some, if_neg g2, Option.bind_some, if_neg (by decide)]
    obtain ⟨g', a, b, c⟩ := M_logs H2 6 (nI m) ck.1 (N := N) (by omega)
    rw [upd_ne _ _ (by omega), upd_ne _ _ (by omega), h0] at b
    rw [a, Option.bind_some]
    refine ⟨g', rfl, b, ?_, ?_, ?_⟩
    · rw [c _ (by omega) (by omega), upd_ne _ _ (by omega), upd_at]
    · rw [c _ (by omega) (by omega), upd_at]
    · intro i a1 a2 a3 a4
      rw [c i a3 a4, upd_ne _ _ a2, upd_ne _ _ a1]

