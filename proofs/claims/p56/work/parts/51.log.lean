/-- the class's log holds these entries, the newest first -/
def LogC (Lg : List Co) (next size : Int32) (p : Nat → Int32) : Prop := ∃ n0, n0 < 30 ∧ next = nI n0 ∧ size = nI Lg.length ∧ Lg.length ≤ 30 ∧ ∀ (i : Nat) (e : Co), Lg[i]? = some e → p (4 * ((n0 + 29 - i) % 30)) = e.1 ∧ p (4 * ((n0 + 29 - i) % 30) + 1) = e.2.1 ∧ p (4 * ((n0 + 29 - i) % 30) + 2) = e.2.2.1 ∧ p (4 * ((n0 + 29 - i) % 30) + 3) = e.2.2.2
/-- the reference's log holds them -/
def LogM (Lg : List Co) (g : Nat → Int32) : Prop := g 2 = nI Lg.length ∧ Lg.length ≤ 30 ∧ ∀ (i : Nat) (e : Co), Lg[i]? = some e → g (350 + 4 * (Lg.length - 1 - i)) = e.1 ∧ g (350 + 4 * (Lg.length - 1 - i) + 1) = e.2.1 ∧ g (350 + 4 * (Lg.length - 1 - i) + 2) = e.2.2.1 ∧ g (350 + 4 * (Lg.length - 1 - i) + 3) = e.2.2.2
theorem upd_at (g : Nat → Int32) (i : Nat) (x : Int32) : upd g i x i = x := by unfold upd; rw [if_pos rfl]
theorem upd_ne (g : Nat → Int32) {i j : Nat} (x : Int32) (h : ¬ j = i) : upd g i x j = g j := by unfold upd; rw [if_neg h]
/-- the log with one entry more -/
def logAdd (e : Co) (Lg : List Co) : List Co := e :: Lg.take 29
theorem logAdd_length (e : Co) (Lg : List Co) (h : Lg.length ≤ 30) : (logAdd e Lg).length = min (Lg.length + 1) 30 := by
  unfold logAdd
  rw [List.length_cons, List.length_take]; omega
theorem logAdd_get (e : Co) (Lg : List Co) {i : Nat} {e' : Co} (h : (logAdd e Lg)[i]? = some e') : (i = 0 ∧ e' = e) ∨ ∃ j, i = j + 1 ∧ j < 29 ∧ Lg[j]? = some e' := by
  unfold logAdd at h
  cases i with
  | zero => rw [List.getElem?_cons_zero] at h; cases h; exact Or.inl ⟨rfl, rfl⟩
  | succ i =>
    rw [List.getElem?_cons_succ, List.getElem?_take] at h
    by_cases hi : i < 29
    · rw [if_pos hi] at h; exact Or.inr ⟨i, rfl, hi, h⟩
    · rw [if_neg hi] at h; cases h
theorem C_log_add {Lg : List Co} {next size : Int32} {p : Nat → Int32} (H : LogC Lg next size p) (x1 x2 x3 x4 : Int32) : ∃ o, f_X4_add x1 x2 x3 x4 120 next size p = some o ∧ LogC (logAdd (x1, x2, x3, x4) Lg) o.1 o.2.1 o.2.2 := by
  obtain ⟨n0, h1, h2, h3, h4, h5⟩ := H
  have h120 : (120 : Nat) < 2 ^ 31 := by decide
  subst h2 h3
  have hr : ∀ w g x, w < 4 → f_X6_put (nI (n0 * 4) + nI w) x 120 g = some (upd g (4 * n0 + w) x) := by
    intro w g x hw
    rw [nI_add, X6_put_in g x h120 (by omega), Nat.mul_comm]
  have hr0 : ∀ g x, f_X6_put (nI (n0 * 4)) x 120 g = some (upd g (4 * n0) x) := by
    intro g x
    rw [X6_put_in g x h120 (by omega), Nat.mul_comm]
  have hsz : (if (30 : Int32) < nI Lg.length + 1 then (30 : Int32) else nI Lg.length + 1) = nI (min (Lg.length + 1) 30) := by
    rw [nI_1, show (30 : Int32) = nI 30 from rfl]
    by_cases h : 30 < Lg.length + 1
    · rw [if_pos ((nI_ltI (by omega) (by omega)).mpr h), Nat.min_eq_right (by omega)]
    · rw [if_neg (fun hh => h ((nI_ltI (by omega) (by omega)).mp hh)), Nat.min_eq_left (by omega)]
  have hn : ∃ n1, n1 < 30 ∧ n1 = (n0 + 1) % 30 := ⟨(n0 + 1) % 30, by omega, rfl⟩
  obtain ⟨n1, hn1, hn2⟩ := hn
  have hfin : LogC (logAdd (x1, x2, x3, x4) Lg) (nI n1) (nI (min (Lg.length + 1) 30)) (upd (upd (upd (upd p (4 * n0) x1) (4 * n0 + 1) x2) (4 * n0 + 2) x3) (4 * n0 + 3) x4) := by
    refine ⟨n1, hn1, rfl, by rw [logAdd_length _ _ h4], by rw [logAdd_length _ _ h4]; omega, ?_⟩
    intro i e hi
    cases logAdd_get _ _ hi with
    | inl h =>
      have h6 : (n1 + 29 - i) % 30 = n0 := by omega
      rw [h6, h.2]
      refine ⟨?_, ?_, ?_, ?_⟩
      · rw [upd_ne _ _ (by omega), upd_ne _ _ (by omega), upd_ne _ _ (by omega), upd_at]
      · rw [upd_ne _ _ (by omega), upd_ne _ _ (by omega), upd_at]
      · rw [upd_ne _ _ (by omega), upd_at]
      · rw [upd_at]
    | inr h =>
      obtain ⟨j, a, b, c⟩ := h
      have hj : j < Lg.length := (List.getElem?_eq_some_iff.mp c).1
      have h6 : (n1 + 29 - i) % 30 = (n0 + 29 - j) % 30 := by omega
      have h7 : ¬ (n0 + 29 - j) % 30 = n0 := by omega
      rw [h6]
      obtain ⟨c1, c2, c3, c4⟩ := h5 j e c
      refine ⟨?_, ?_, ?_, ?_⟩
      · rw [upd_ne _ _ (by omega), upd_ne _ _ (by omega), upd_ne _ _ (by omega), upd_ne _ _ (by omega), c1]
      · rw [upd_ne _ _ (by omega), upd_ne _ _ (by omega), upd_ne _ _ (by omega), upd_ne _ _ (by omega), c2]
      · rw [upd_ne _ _ (by omega), upd_ne _ _ (by omega), upd_ne _ _ (by omega), upd_ne _ _ (by omega), c3]
      · rw [upd_ne _ _ (by omega), upd_ne _ _ (by omega), upd_ne _ _ (by omega), upd_ne _ _ (by omega), c4]
  refine ⟨(nI n1, nI (min (Lg.length + 1) 30), upd (upd (upd (upd p (4 * n0) x1) (4 * n0 + 1) x2) (4 * n0 + 2) x3) (4 * n0 + 3) x4), ?_, hfin⟩
  unfold f_X4_add f_X4_add_b77
  rw [show (4 : Int32) = nI 4 from rfl, nI_mul]
  simp only [Option.bind_some]
  rw [hr0]
  simp only [Option.bind_some]
  rw [show (1 : Int32) = nI 1 from rfl, hr 1 _ _ (by omega)]
  simp only [Option.bind_some]
  rw [show (2 : Int32) = nI 2 from rfl, hr 2 _ _ (by omega)]
  simp only [Option.bind_some]
  rw [show (3 : Int32) = nI 3 from rfl, hr 3 _ _ (by omega)]
  simp only [Option.bind_some]
  rw [show nI Lg.length + nI 1 = nI Lg.length + 1 from rfl, hsz, nI_add, show (30 : Int32) = nI 30 from rfl]
  by_cases h : 30 ≤ n0 + 1
  · rw [if_pos ((nI_leI (by omega) (by omega)).mpr h), show n1 = 0 by omega]; rfl
  · rw [if_neg (fun hh => h ((nI_leI (by omega) (by omega)).mp hh)), show n1 = n0 + 1 by omega]
theorem M_logs_shift {N : Nat} (x1 x2 x3 : Int32) : ∀ (n t : Nat) (g0 g : Nat → Int32), t ≤ 116 → 116 < n + t → (∀ j, g j = if 350 ≤ j ∧ j < 350 + t then g0 (j + 4) else g0 j) → f_X11_logs_b16 x1 x2 x3 72470 n (nI (350 + t)) g = f_X11_logs_b56 x1 x2 x3 72470 (upd (fun j => if 350 ≤ j ∧ j < 466 then g0 (j + 4) else g0 j) 2 (g0 2 - 1)) := by
  intro n
  induction n with
  | zero => intro t g0 g h1 h2; omega
  | succ n ih =>
    intro t g0 g h1 h2 h3
    rw [f_X11_logs_b16, show (466 : Int32) = nI 466 from rfl]
    by_cases h : t = 116
    · rw [if_pos ((nI_leI (by omega) (by omega)).mpr (by omega))]
      have h5 : ¬ ((2 : Int32) < 0 ∨ 72470 ≤ (2 : Int32).toNatClampNeg) := by decide
      have h6 : g = fun j => if 350 ≤ j ∧ j < 466 then g0 (j + 4) else g0 j := by
        funext j
        rw [h3]
        by_cases c : 350 ≤ j ∧ j < 466
        · rw [if_pos c, if_pos (by omega)]
        · rw [if_neg c, if_neg (by omega)]
      rw [if_neg h5, if_neg h5, Option.bind_some]
      have h7 : (fun j => if 350 ≤ j ∧ j < 466 then g0 (j + 4) else g0 j) 2 = g0 2 := if_neg (by omega)
      rw [show (2 : Int32).toNatClampNeg = 2 from rfl, h6, h7]
    · rw [if_neg (fun hh => by have := (nI_leI (by omega) (by omega)).mp hh; omega), show (4 : Int32) = nI 4 from rfl, nI_add]
      have h5 := grd2 (i := 350 + t + 4) (n := 72470) (by omega) (by decide)
      have h6 := grd2 (i := 350 + t) (n := 72470) (by omega) (by decide)
      simp only [nI_clamp (show 350 + t + 4 < 2 ^ 31 by omega), nI_clamp (show 350 + t < 2 ^ 31 by omega), if_neg h5, if_neg h6, Option.bind_some, nI_1]
      rw [show 350 + t + 1 = 350 + (t + 1) by omega]
      refine ih (t + 1) g0 _ (by omega) (by omega) (fun j => ?_)
      by_cases hj : j = 350 + t
      · rw [hj, upd_at, h3, if_neg (by omega), if_pos (by omega)]
      · rw [upd_ne _ _ hj, h3]
        by_cases h7 : 350 ≤ j ∧ j < 350 + t
        · rw [if_pos h7, if_pos (by omega)]
        · rw [if_neg h7, if_neg (by omega)]
theorem M_logs_row {Lg : List Co} {g : Nat → Int32} (H : LogM Lg g) (hl : Lg.length < 30) (x1 x2 x3 : Int32) : ∃ g', f_X11_logs_b56 x1 x2 x3 72470 g = some g' ∧ LogM (logAdd (x1, g 0, x2, x3) Lg) g' ∧ ∀ i, ¬ i = 2 → i < 350 ∨ 470 ≤ i → g' i = g i := by
  obtain ⟨h1, h2, h3⟩ := H
  refine ⟨upd (upd (upd (upd (upd g (350 + 4 * Lg.length) x1) (350 + 4 * Lg.length + 1) (g 0)) (350 + 4 * Lg.length + 2) x2) (350 + 4 * Lg.length + 3) x3) 2 (nI (Lg.length + 1)), ?_, ?_, ?_⟩
  · unfold f_X11_logs_b56 f_X11_today0
    have h5 : ¬ ((2 : Int32) < 0 ∨ 72470 ≤ (2 : Int32).toNatClampNeg) := by decide
    have h6 : ¬ ((0 : Int32) < 0 ∨ 72470 ≤ (0 : Int32).toNatClampNeg) := by decide
    rw [if_neg h5, show (2 : Int32).toNatClampNeg = 2 from rfl, h1, show (4 : Int32) = nI 4 from rfl, nI_mul, show (350 : Int32) = nI 350 from rfl, nI_add]
    have g0 := grd2 (i := 350 + 4 * Lg.length) (n := 72470) (by omega) (by decide)
    have g1 := grd2 (i := 350 + 4 * Lg.length + 1) (n := 72470) (by omega) (by decide)
    have g2 := grd2 (i := 350 + 4 * Lg.length + 2) (n := 72470) (by omega) (by decide)
    have g3 := grd2 (i := 350 + 4 * Lg.length + 3) (n := 72470) (by omega) (by decide)
    have e2 : nI (350 + 4 * Lg.length) + (2 : Int32) = nI (350 + 4 * Lg.length + 2) := nI_add _ 2
    have e3 : nI (350 + 4 * Lg.length) + (3 : Int32) = nI (350 + 4 * Lg.length + 3) := nI_add _ 3
    have h7 : (0 : Int32).toNatClampNeg = 0 := rfl
    have h9 : ¬ ((2 : Int32) < 0 ∨ 72470 ≤ 2) := by decide
    have h10 : ¬ ((0 : Int32) < 0 ∨ 72470 ≤ 0) := by decide
    simp only [nI_1, e2, e3, nI_clamp (show 350 + 4 * Lg.length < 2 ^ 31 by omega), nI_clamp (show 350 + 4 * Lg.length + 1 < 2 ^ 31 by omega), nI_clamp (show 350 + 4 * Lg.length + 2 < 2 ^ 31 by omega), nI_clamp (show 350 + 4 * Lg.length + 3 < 2 ^ 31 by omega), if_neg g0, if_neg g1, if_neg g2, if_neg g3, if_neg h9, if_neg h10, Option.bind_some, h7]
    congr 1
    rw [upd_ne _ _ (show ¬ 2 = 350 + 4 * Lg.length + 3 by omega), upd_ne _ _ (show ¬ 2 = 350 + 4 * Lg.length + 2 by omega), upd_ne _ _ (show ¬ 2 = 350 + 4 * Lg.length + 1 by omega), upd_ne _ _ (show ¬ 2 = 350 + 4 * Lg.length by omega), h1, nI_1, upd_ne _ _ (show ¬ 0 = 350 + 4 * Lg.length by omega)]
  · have h8 : (logAdd (x1, g 0, x2, x3) Lg).length = Lg.length + 1 := by rw [logAdd_length _ _ h2]; omega
    refine ⟨by rw [upd_at, h8], by omega, ?_⟩
    intro i e hi
    rw [h8]
    cases logAdd_get _ _ hi with
    | inl h =>
      have h6 : 4 * (Lg.length + 1 - 1 - i) = 4 * Lg.length := by omega
      rw [h6, h.2]
      refine ⟨?_, ?_, ?_, ?_⟩
      · rw [upd_ne _ _ (by omega), upd_ne _ _ (by omega), upd_ne _ _ (by omega), upd_ne _ _ (by omega), upd_at]
      · rw [upd_ne _ _ (by omega), upd_ne _ _ (by omega), upd_ne _ _ (by omega), upd_at]
      · rw [upd_ne _ _ (by omega), upd_ne _ _ (by omega), upd_at]
      · rw [upd_ne _ _ (by omega), upd_at]
    | inr h =>
      obtain ⟨j, a, b, c⟩ := h
      have hj : j < Lg.length := (List.getElem?_eq_some_iff.mp c).1
      have h6 : 4 * (Lg.length + 1 - 1 - i) = 4 * (Lg.length - 1 - j) := by omega
      rw [h6]
      obtain ⟨c1, c2, c3, c4⟩ := h3 j e c
      refine ⟨?_, ?_, ?_, ?_⟩
      · rw [upd_ne _ _ (by omega), upd_ne _ _ (by omega), upd_ne _ _ (by omega), upd_ne _ _ (by omega), upd_ne _ _ (by omega), c1]
      · rw [upd_ne _ _ (by omega), upd_ne _ _ (by omega), upd_ne _ _ (by omega), upd_ne _ _ (by omega), upd_ne _ _ (by omega), c2]
      · rw [upd_ne _ _ (by omega), upd_ne _ _ (by omega), upd_ne _ _ (by omega), upd_ne _ _ (by omega), upd_ne _ _ (by omega), c3]
      · rw [upd_ne _ _ (by omega), upd_ne _ _ (by omega), upd_ne _ _ (by omega), upd_ne _ _ (by omega), upd_ne _ _ (by omega), c4]
  · intro i hi1 hi2
    rw [upd_ne _ _ (by omega), upd_ne _ _ (by omega), upd_ne _ _ (by omega), upd_ne _ _ (by omega), upd_ne _ _ (by omega)]
theorem M_logs {Lg : List Co} {g : Nat → Int32} (H : LogM Lg g) (x1 x2 x3 : Int32) {N : Nat} (hN : 200 < N) : ∃ g', f_X11_logs N x1 x2 x3 72470 g = some g' ∧ LogM (logAdd (x1, g 0, x2, x3) Lg) g' ∧ ∀ i, ¬ i = 2 → i < 350 ∨ 470 ≤ i → g' i = g i := by
  have h5 : ¬ ((2 : Int32) < 0 ∨ 72470 ≤ (2 : Int32).toNatClampNeg) := by decide
  unfold f_X11_logs
  rw [if_neg h5, show (2 : Int32).toNatClampNeg = 2 from rfl, H.1, show (30 : Int32) = nI 30 from rfl]
  have h2 := H.2.1
  by_cases h : Lg.length = 30
  · rw [if_pos (by rw [h])]
    have hs := M_logs_shift (N := N) x1 x2 x3 N 0 g g (by omega) (by omega) (fun j => by rw [if_neg (by omega)])
    rw [show (350 : Int32) = nI (350 + 0) from rfl, hs, H.1, h, show nI 30 - 1 = nI 29 from by decide]
    have h29 : (Lg.take 29).length = 29 := by rw [List.length_take]; omega
    have H2 : LogM (Lg.take 29) (upd (fun j => if 350 ≤ j ∧ j < 466 then g (j + 4) else g j) 2 (nI 29)) := by
      refine ⟨by rw [upd_at, h29], by omega, ?_⟩
      intro i e hi
      rw [List.getElem?_take] at hi
      by_cases hi2 : i < 29
      · rw [if_pos hi2] at hi
        obtain ⟨c1, c2, c3, c4⟩ := H.2.2 i e hi
        rw [h] at c1 c2 c3 c4
        rw [h29]
        refine ⟨?_, ?_, ?_, ?_⟩
        · rw [upd_ne _ _ (by omega), if_pos (by omega), ← c1]; congr 1; omega
        · rw [upd_ne _ _ (by omega), if_pos (by omega), ← c2]; congr 1; omega
        · rw [upd_ne _ _ (by omega), if_pos (by omega), ← c3]; congr 1; omega
        · rw [upd_ne _ _ (by omega), if_pos (by omega), ← c4]; congr 1; omega
      · rw [if_neg hi2] at hi; cases hi
    obtain ⟨g', a, b, c⟩ := M_logs_row H2 (by omega) x1 x2 x3
    refine ⟨g', a, ?_, fun i hi1 hi2 => ?_⟩
    · rw [upd_ne _ _ (by omega), if_neg (by omega)] at b
      unfold logAdd at b ⊢
      rw [List.take_take] at b
      exact b
    · rw [c i hi1 hi2, upd_ne _ _ hi1, if_neg (by omega)]
  · rw [if_neg (fun hh => h ((nI_eq (by omega) (by omega)).mp hh))]
    exact M_logs_row H (by omega) x1 x2 x3
theorem LogM_same {Lg : List Co} {g g' : Nat → Int32} (H : LogM Lg g) (h2 : g' 2 = g 2) (h : ∀ i, 350 ≤ i → i < 470 → g' i = g i) : LogM Lg g' := by
  refine ⟨by rw [h2]; exact H.1, H.2.1, fun i e hi => ?_⟩
  have := H.2.1
  have hj : i < Lg.length := (List.getElem?_eq_some_iff.mp hi).1
  obtain ⟨c1, c2, c3, c4⟩ := H.2.2 i e hi
  exact ⟨by rw [h _ (by omega) (by omega), c1], by rw [h _ (by omega) (by omega), c2], by rw [h _ (by omega) (by omega), c3], by rw [h _ (by omega) (by omega), c4]⟩

