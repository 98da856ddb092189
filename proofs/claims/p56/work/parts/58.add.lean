/-- the purchases: the class's parts, the reference's last forty -/
def B4 (v : Nat → Nat) (d c : Nat) (dy : Nat → Nat) (cnt : Int32) (pr : Nat → Int32) (g : Nat → Int32) : Prop := cnt = nI c ∧ c ≤ 512 ∧ g 1 = nI c ∧ (∀ i w, i < c → c ≤ i + 40 → w < 7 → g (70 + 7 * (i % 40) + w) = pr (7 * i + w)) ∧ (∀ i, i < c → (∃ m, m < v 3 ∧ pr (7 * i) = nI m) ∧ (pr (7 * i + 5) = nI (dy i) ∧ dy i ≤ d) ∧ (∃ p, p ≤ 2200000 ∧ pr (7 * i + 4) = nI p) ∧ (pr (7 * i + 6) = 0 ∨ pr (7 * i + 6) = 1)) ∧ ∀ i j, i ≤ j → j < c → dy i ≤ dy j
/-- the qualifying sums: the class's window, the reference's days -/
def B5 (v : Nat → Nat) (d c : Nat) (dy : Nat → Nat) (ws : Int32) (pr qu : Nat → Int32) (g : Nat → Int32) : Prop := (∃ a, ws = nI a ∧ a ≤ c ∧ (∀ i, i < a → dy i + v 6 ≤ d) ∧ ∀ i, a ≤ i → i < c → d < dy i + v 6) ∧ (∀ m, m < v 3 → qu m = qT pr dy c (v 6) m d) ∧ BaM (v 3) d (bD pr dy c) g
/-- a function changed in one place -/
def updN (f : Nat → Nat) (k x : Nat) : Nat → Nat := fun j => if j = k then x else f j
theorem updN_at (f : Nat → Nat) (k x : Nat) : updN f k x k = x := by unfold updN; rw [if_pos rfl]
theorem updN_ne (f : Nat → Nat) {k j : Nat} (x : Nat) (h : ¬ j = k) : updN f k x j = f j := by unfold updN; rw [if_neg h]
/-- seven numbers put in a row -/
def upd7 (g : Nat → Int32) (a : Nat) (x0 x1 x2 x3 x4 x5 x6 : Int32) : Nat → Int32 := upd (upd (upd (upd (upd (upd (upd g a x0) (a + 1) x1) (a + 2) x2) (a + 3) x3) (a + 4) x4) (a + 5) x5) (a + 6) x6
theorem upd7_0 (g : Nat → Int32) (a : Nat) (x0 x1 x2 x3 x4 x5 x6 : Int32) : upd7 g a x0 x1 x2 x3 x4 x5 x6 a = x0 := by
  unfold upd7
  rw [upd_ne _ _ (by omega), upd_ne _ _ (by omega), upd_ne _ _ (by omega), upd_ne _ _ (by omega), upd_ne _ _ (by omega), upd_ne _ _ (by omega), upd_at]
theorem upd7_3 (g : Nat → Int32) (a : Nat) (x0 x1 x2 x3 x4 x5 x6 : Int32) : upd7 g a x0 x1 x2 x3 x4 x5 x6 (a + 3) = x3 := by
  unfold upd7
  rw [upd_ne _ _ (by omega), upd_ne _ _ (by omega), upd_ne _ _ (by omega), upd_at]
theorem upd7_4 (g : Nat → Int32) (a : Nat) (x0 x1 x2 x3 x4 x5 x6 : Int32) : upd7 g a x0 x1 x2 x3 x4 x5 x6 (a + 4) = x4 := by
  unfold upd7
  rw [upd_ne _ _ (by omega), upd_ne _ _ (by omega), upd_at]
theorem upd7_5 (g : Nat → Int32) (a : Nat) (x0 x1 x2 x3 x4 x5 x6 : Int32) : upd7 g a x0 x1 x2 x3 x4 x5 x6 (a + 5) = x5 := by
  unfold upd7
  rw [upd_ne _ _ (by omega), upd_at]
theorem upd7_6 (g : Nat → Int32) (a : Nat) (x0 x1 x2 x3 x4 x5 x6 : Int32) : upd7 g a x0 x1 x2 x3 x4 x5 x6 (a + 6) = x6 := by
  unfold upd7
  rw [upd_at]
theorem upd7_ne (g : Nat → Int32) {a j : Nat} (x0 x1 x2 x3 x4 x5 x6 : Int32) (h : j < a ∨ a + 7 ≤ j) : upd7 g a x0 x1 x2 x3 x4 x5 x6 j = g j := by
  unfold upd7
  rw [upd_ne _ _ (by omega), upd_ne _ _ (by omega), upd_ne _ _ (by omega), upd_ne _ _ (by omega), upd_ne _ _ (by omega), upd_ne _ _ (by omega), upd_ne _ _ (by omega)]
theorem upd7_eq (g h : Nat → Int32) {a b w : Nat} (x0 x1 x2 x3 x4 x5 x6 : Int32) (hw : w < 7) : upd7 g a x0 x1 x2 x3 x4 x5 x6 (a + w) = upd7 h b x0 x1 x2 x3 x4 x5 x6 (b + w) := by
  unfold upd7 upd
  have e : ∀ k, (a + w = a + k) = (b + w = b + k) := fun k => propext ⟨fun hh => by omega, fun hh => by omega⟩
  have e0 : (a + w = a) = (b + w = b) := propext ⟨fun hh => by omega, fun hh => by omega⟩
  simp only [e, e0]
  by_cases h6 : b + w = b + 6
  · rw [if_pos h6, if_pos h6]
  · by_cases h5 : b + w = b + 5
    · rw [if_neg h6, if_neg h6, if_pos h5, if_pos h5]
    · by_cases h4 : b + w = b + 4
      · rw [if_neg h6, if_neg h6, if_neg h5, if_neg h5, if_pos h4, if_pos h4]
      · by_cases h3 : b + w = b + 3
        · rw [if_neg h6, if_neg h6, if_neg h5, if_neg h5, if_neg h4, if_neg h4, if_pos h3, if_pos h3]
        · by_cases h2 : b + w = b + 2
          · rw [if_neg h6, if_neg h6, if_neg h5, if_neg h5, if_neg h4, if_neg h4, if_neg h3, if_neg h3, if_pos h2, if_pos h2]
          · by_cases h1 : b + w = b + 1
            · rw [if_neg h6, if_neg h6, if_neg h5, if_neg h5, if_neg h4, if_neg h4, if_neg h3, if_neg h3, if_neg h2, if_neg h2, if_pos h1, if_pos h1]
            · rw [if_neg h6, if_neg h6, if_neg h5, if_neg h5, if_neg h4, if_neg h4, if_neg h3, if_neg h3, if_neg h2, if_neg h2, if_neg h1, if_neg h1, if_pos (by omega), if_pos (by omega)]
theorem C_add {c : Nat} (hc : c < 512) (pr : Nat → Int32) (x1 x2 x3 x4 x5 x6 : Int32) : f_X5_add x1 x2 x3 x4 x5 x6 3584 (nI c) pr = some (nI (c + 1), upd7 pr (7 * c) x1 x2 x3 x4 x5 x6 0) := by
  unfold f_X5_add
  have e : ∀ (w : Nat) (g : Nat → Int32) (x : Int32), w < 7 → f_X6_put (nI c * nI 7 + nI w) x 3584 g = some (upd g (7 * c + w) x) := by
    intro w g x hw
    rw [nI_mul, nI_add, X6_put_in g x h3584 (by omega), Nat.mul_comm]
  rw [show (7 : Int32) = nI 7 from rfl, Option.bind_some, show (0 : Int32) = nI 0 from rfl, e 0 _ _ (by omega), Option.bind_some, show (1 : Int32) = nI 1 from rfl, e 1 _ _ (by omega), Option.bind_some, show (2 : Int32) = nI 2 from rfl, e 2 _ _ (by omega), Option.bind_some, show (3 : Int32) = nI 3 from rfl, e 3 _ _ (by omega), Option.bind_some, show (4 : Int32) = nI 4 from rfl, e 4 _ _ (by omega), Option.bind_some, show (5 : Int32) = nI 5 from rfl, e 5 _ _ (by omega), Option.bind_some, show (6 : Int32) = nI 6 from rfl, e 6 _ _ (by omega), Option.bind_some, nI_add]
  rfl
theorem nI_mod40 {e : Nat} (he : e < 2 ^ 31) : nI e - nI e / (40 : Int32) * (40 : Int32) = nI (e % 40) := by
  rw [show (40 : Int32) = nI 40 from rfl, nI_div he (by decide), nI_mul, nI_subI (Nat.div_mul_le_self e 40)]
  congr 1; omega
theorem M_writes {v : Nat → Nat} {c ct x : Nat} {fx g : Nat → Int32} (hV : SV v) (hM : SM v fx) (hc : ct < v 1) (hx : x ≤ 100000) (h1 : g 1 = nI c) (hc2 : c < 512) (x1 x4 : Int32) : f_X11_writes x1 (nI ct) (nI x) x4 71 72470 fx g = some (upd (upd7 g (70 + 7 * (c % 40)) x1 (nI ct) (nI x) (nI (baseN v ct x)) x4 (g 0) 0) 1 (nI (c + 1))) := by
  have gd1 : ¬ ((1 : Int32) < 0 ∨ 72470 ≤ (1 : Int32).toNatClampNeg) := by decide
  have g0 := grd (i := 70 + 7 * (c % 40) + 0) (n := 72470) (by omega) (by decide)
  have g1 := grd (i := 70 + 7 * (c % 40) + 1) (n := 72470) (by omega) (by decide)
  have g2 := grd (i := 70 + 7 * (c % 40) + 2) (n := 72470) (by omega) (by decide)
  have g3 := grd (i := 70 + 7 * (c % 40) + 3) (n := 72470) (by omega) (by decide)
  have g4 := grd (i := 70 + 7 * (c % 40) + 4) (n := 72470) (by omega) (by decide)
  have g5 := grd (i := 70 + 7 * (c % 40) + 5) (n := 72470) (by omega) (by decide)
  have g6 := grd (i := 70 + 7 * (c % 40) + 6) (n := 72470) (by omega) (by decide)
  have e0 : nI (70 + 7 * (c % 40)) + (0 : Int32) = nI (70 + 7 * (c % 40) + 0) := nI_add _ 0
  have e1 : nI (70 + 7 * (c % 40)) + (1 : Int32) = nI (70 + 7 * (c % 40) + 1) := nI_add _ 1
  have e2 : nI (70 + 7 * (c % 40)) + (2 : Int32) = nI (70 + 7 * (c % 40) + 2) := nI_add _ 2
  have e3 : nI (70 + 7 * (c % 40)) + (3 : Int32) = nI (70 + 7 * (c % 40) + 3) := nI_add _ 3
  have e4 : nI (70 + 7 * (c % 40)) + (4 : Int32) = nI (70 + 7 * (c % 40) + 4) := nI_add _ 4
  have e5 : nI (70 + 7 * (c % 40)) + (5 : Int32) = nI (70 + 7 * (c % 40) + 5) := nI_add _ 5
  have e6 : nI (70 + 7 * (c % 40)) + (6 : Int32) = nI (70 + 7 * (c % 40) + 6) := nI_add _ 6
  unfold f_X11_writes
  rw [if_neg gd1, if_neg (by decide), show (1 : Int32).toNatClampNeg = 1 from rfl, h1, nI_mod40 (by omega), show (7 : Int32) = nI 7 from rfl, show (70 : Int32) = nI 70 from rfl, nI_mul, nI_add, Option.bind_some, e0, if_neg g0, nI_clamp (by omega), Option.bind_some, e1, if_neg g1, nI_clamp (by omega), Option.bind_some, e2, if_neg g2, nI_clamp (by omega), Option.bind_some, M_baseOf hV hM hc hx, Option.bind_some, e3, if_neg g3, nI_clamp (by omega), Option.bind_some, e4, if_neg g4, nI_clamp (by omega), Option.bind_some, M_today, Option.bind_some, e5, if_neg g5, nI_clamp (by omega), Option.bind_some, e6, if_neg g6, nI_clamp (by omega), Option.bind_some, if_neg (show ¬ ((1 : Int32) < 0 ∨ 72470 ≤ 1) by decide), if_neg (show ¬ ((1 : Int32) < 0 ∨ 72470 ≤ 1) by decide), Option.bind_some, Nat.add_zero]
  congr 1
  unfold upd7
  rw [upd_ne _ _ (show ¬ 1 = _ by omega), upd_ne _ _ (show ¬ 1 = _ by omega), upd_ne _ _ (show ¬ 1 = _ by omega), upd_ne _ _ (show ¬ 1 = _ by omega), upd_ne _ _ (show ¬ 1 = _ by omega), upd_ne _ _ (show ¬ 1 = _ by omega), upd_ne _ _ (show ¬ 1 = _ by omega), h1, nI_1, upd_ne _ _ (show ¬ 0 = _ by omega), upd_ne _ _ (show ¬ 0 = _ by omega), upd_ne _ _ (show ¬ 0 = _ by omega), upd_ne _ _ (show ¬ 0 = _ by omega), upd_ne _ _ (show ¬ 0 = _ by omega)]
/-- the purchases with one more -/
theorem B4_add {v : Nat → Nat} {d c : Nat} {dy : Nat → Nat} {cnt : Int32} {pr g g' : Nat → Int32} (H : B4 v d c dy cnt pr g) (hc : c < 512) {m p : Nat} (hm : m < v 3) (hp : p ≤ 2200000) (x2 x3 x4 : Int32) (h1 : g' 1 = nI (c + 1)) (hg : ∀ i, 70 ≤ i → i < 350 → g' i = upd7 g (70 + 7 * (c % 40)) (nI m) x2 x3 x4 (nI p) (nI d) 0 i) : B4 v d (c + 1) (updN dy c d) (nI (c + 1)) (upd7 pr (7 * c) (nI m) x2 x3 x4 (nI p) (nI d) 0) g' := by
  obtain ⟨a1, a2, a3, a4, a5, a6⟩ := H
  refine ⟨rfl, by omega, h1, ?_, ?_, ?_⟩
  · intro i w hi hi2 hw
    rw [hg _ (by omega) (by omega)]
    by_cases h : i = c
    · subst h
      exact upd7_eq g pr _ _ _ _ _ _ _ hw
    · rw [upd7_ne _ _ _ _ _ _ _ _ (by omega), upd7_ne _ _ _ _ _ _ _ _ (by omega)]
      exact a4 i w (by omega) (by omega) hw
  · intro i hi
    by_cases h : i = c
    · subst h
      rw [upd7_0, upd7_5, upd7_4, upd7_6, updN_at]
      exact ⟨⟨m, hm, rfl⟩, ⟨rfl, Nat.le_refl _⟩, ⟨p, hp, rfl⟩, Or.inl rfl⟩
    · rw [updN_ne _ _ h, upd7_ne _ _ _ _ _ _ _ _ (by omega), upd7_ne _ _ _ _ _ _ _ _ (by omega), upd7_ne _ _ _ _ _ _ _ _ (by omega), upd7_ne _ _ _ _ _ _ _ _ (by omega)]
      exact a5 i (by omega)
  · intro i j hij hj
    by_cases h : j = c
    · rw [h, updN_at]
      by_cases h2 : i = c
      · rw [h2, updN_at]; exact Nat.le_refl _
      · rw [updN_ne _ _ h2]; exact (a5 i (by omega)).2.1.2
    · rw [updN_ne _ _ h, updN_ne _ _ (show ¬ i = c by omega)]
      exact a6 i j hij (by omega)
/-- what a new purchase adds -/
theorem bW_add {pr : Nat → Int32} {c m m' b : Nat} (hm : m < 12) (hm' : m' < 12) (x2 x3 x5 x6 : Int32) : ∀ i, i ≤ c → bW (upd7 pr (7 * c) (nI m) x2 x3 (nI b) x5 x6 0) m' i = if i = c then (if m = m' then nI b else 0) else bW pr m' i := by
  intro i hi
  unfold bW
  by_cases h : i = c
  · subst h
    rw [if_pos rfl, upd7_0, upd7_6, upd7_3, if_pos rfl]
    by_cases h2 : m = m'
    · rw [if_pos h2, if_pos (by rw [h2])]
    · rw [if_neg h2, if_neg (fun hh => h2 ((nI_eq (by omega) (by omega)).mp hh))]
  · rw [if_neg h, upd7_ne _ _ _ _ _ _ _ _ (by omega), upd7_ne _ _ _ _ _ _ _ _ (by omega), upd7_ne _ _ _ _ _ _ _ _ (by omega)]
theorem B5_add {v : Nat → Nat} {d c : Nat} {dy : Nat → Nat} {ws : Int32} {pr qu g g' : Nat → Int32} (H : B5 v d c dy ws pr qu g) (hV : SV v) (hd : ∀ i, i < c → dy i ≤ d) {m b : Nat} (hm : m < v 3) (x2 x3 x5 x6 : Int32) (hg : ∀ i, 470 ≤ i → i < 12470 → g' i = if i = 470 + 1000 * m + d % 1000 then g i + nI b else g i) : B5 v d (c + 1) (updN dy c d) ws (upd7 pr (7 * c) (nI m) x2 x3 (nI b) x5 x6 0) (upd qu m (qu m + nI b)) g' := by
  obtain ⟨⟨a, a1, a2, a3, a4⟩, a5, a6⟩ := H
  have hv3 := hV.1.2.2.2.2.1
  have hv6 := hV.2.1.2.2.1
  refine ⟨⟨a, a1, by omega, fun i hi => ?_, fun i h1 h2 => ?_⟩, fun m' hm' => ?_, fun m' e hm' he1 he2 => ?_⟩
  · rw [updN_ne _ _ (by omega)]; exact a3 i hi
  · by_cases h : i = c
    · rw [h, updN_at]; omega
    · rw [updN_ne _ _ h]; exact a4 i h1 (by omega)
  · have hq : qT (upd7 pr (7 * c) (nI m) x2 x3 (nI b) x5 x6 0) (updN dy c d) (c + 1) (v 6) m' d = qT pr dy c (v 6) m' d + (if m = m' then nI b else 0) := by
      unfold qT
      rw [sumF]
      congr 1
      · refine sumF_congr (fun i hi => ?_)
        rw [bW_add (by omega) (by omega) _ _ _ _ i (by omega), if_neg (show ¬ i = c by omega), updN_ne _ _ (show ¬ i = c by omega)]
      · rw [bW_add (by omega) (by omega) _ _ _ _ c (Nat.le_refl _), if_pos rfl, updN_at, if_pos (by omega)]
    rw [hq, ← a5 m' hm']
    by_cases h : m' = m
    · subst h; rw [upd_at, if_pos rfl]
    · rw [upd_ne _ _ h, if_neg (fun hh => h hh.symm), Int32.add_zero]
  · have hq : bD (upd7 pr (7 * c) (nI m) x2 x3 (nI b) x5 x6 0) (updN dy c d) (c + 1) m' e = bD pr dy c m' e + (if d = e then (if m = m' then nI b else 0) else 0) := by
      unfold bD
      rw [sumF]
      congr 1
      · refine sumF_congr (fun i hi => ?_)
        rw [bW_add (by omega) (by omega) _ _ _ _ i (by omega), if_neg (show ¬ i = c by omega), updN_ne _ _ (show ¬ i = c by omega)]
      · rw [bW_add (by omega) (by omega) _ _ _ _ c (Nat.le_refl _), if_pos rfl, updN_at]
    rw [hq, hg _ (by omega) (by omega), a6 m' e hm' he1 he2]
    by_cases h : d = e
    · rw [if_pos h]
      by_cases h2 : m = m'
      · rw [if_pos h2, if_pos (by rw [h, h2])]
      · rw [if_neg h2, if_neg (by omega), Int32.add_zero]
    · rw [if_neg h, if_neg (by omega), Int32.add_zero]

