/-- the points that an amount counts for the tiers, and is worth -/
def baseN (v : Nat → Nat) (c x : Nat) : Nat := if v (26 + c) = 0 then x * v (18 + c) / 100 else min (x * v (18 + c) / 100) (v (26 + c))
def worthN (v : Nat → Nat) (t c x e : Nat) : Nat := baseN v c x * (100 + v (13 + t) + exP v c e (v 2)) / 100
theorem baseN_le {v : Nat → Nat} {c x : Nat} (hr : v (18 + c) ≤ 50) (hx : x ≤ 100000) : x * v (18 + c) ≤ 5000000 ∧ baseN v c x ≤ 50000 := by
  have h1 : x * v (18 + c) ≤ 100000 * 50 := Nat.mul_le_mul hx hr
  refine ⟨h1, ?_⟩
  unfold baseN
  by_cases h : v (26 + c) = 0
  · rw [if_pos h]; omega
  · rw [if_neg h]; omega
theorem worthN_le {v : Nat → Nat} {t c x e : Nat} (hV : SV v) (ht : t < v 0) (hc : c < v 1) (hx : x ≤ 100000) : 100 + v (13 + t) + exP v c e (v 2) ≤ 4400 ∧ baseN v c x * (100 + v (13 + t) + exP v c e (v 2)) ≤ 220000000 ∧ worthN v t c x e ≤ 2200000 := by
  have h1 := (hV.2.2.1.2 t ht).2
  have h2 := exP_le (v := v) (c := c) (e := e) (n := v 2) (fun p hp => (hV.2.2.2.2.2.1 p hp).2.2.2)
  have h3 := hV.1.2.2.2.1
  have h4 := (baseN_le (c := c) (x := x) (hV.2.2.2.2.1 c hc).1 hx).2
  have h5 : 100 + v (13 + t) + exP v c e (v 2) ≤ 4400 := by omega
  have h6 : baseN v c x * (100 + v (13 + t) + exP v c e (v 2)) ≤ 50000 * 4400 := Nat.mul_le_mul h4 h5
  refine ⟨h5, h6, ?_⟩
  unfold worthN
  omega
theorem C_baseOf {v : Nat → Nat} {c x : Nat} {ra ca : Nat → Int32} (hr : ra c = nI (v (18 + c))) (hc : ca c = nI (v (26 + c))) (hr2 : v (18 + c) ≤ 50) (hc2 : v (26 + c) ≤ 100000) (hc8 : c < 8) (hx : x ≤ 100000) : f_X7_baseOf (nI c) (nI x) 8 8 ra ca = some (nI (baseN v c x)) := by
  have h1 := (baseN_le hr2 hx).1
  unfold f_X7_baseOf baseN
  rw [X6_at_in ra h8 hc8, Option.bind_some, if_neg (by decide), hr, X6_at_in ca h8 hc8, Option.bind_some, hc, nI_mul, show (100 : Int32) = nI 100 from rfl, nI_div (by omega) (by decide), Option.bind_some]
  by_cases h : v (26 + c) = 0
  · rw [if_pos (by rw [h]; rfl), if_pos h]
  · rw [if_neg (fun hh => h ((nI_eq (by omega) (by omega)).mp (by rw [hh]; rfl))), if_neg h, minD (by omega) (by omega)]
theorem M_baseOf {v : Nat → Nat} {c x : Nat} {fx : Nat → Int32} (hV : SV v) (hM : SM v fx) (hc : c < v 1) (hx : x ≤ 100000) : f_X11_baseOf (nI c) (nI x) 71 fx = some (nI (baseN v c x)) := by
  obtain ⟨hr2, hc2⟩ := hV.2.2.2.2.1 c hc
  have h1 := (baseN_le hr2 hx).1
  have h8' := hV.1.2.2.1
  have e1 : (18 : Int32) + nI c = nI (18 + c) := nI_add 18 c
  have e2 : (26 : Int32) + nI c = nI (26 + c) := nI_add 26 c
  have g1 := grd (i := 18 + c) (n := 71) (by omega) (by decide)
  have g2 := grd (i := 26 + c) (n := 71) (by omega) (by decide)
  unfold f_X11_baseOf baseN
  rw [e1, e2, if_neg g1, if_neg (by decide), Option.bind_some, if_neg g2, Option.bind_some, nI_clamp (by omega), nI_clamp (by omega), hM _ (by omega), hM _ (by omega), nI_mul, show (100 : Int32) = nI 100 from rfl, nI_div (by omega) (by decide)]
  by_cases h : v (26 + c) = 0
  · rw [if_pos (by rw [h]; decide), if_pos h]
  · rw [if_neg (fun hh => h ((nI_le0 (by omega)).mp hh)), if_neg h]
    by_cases h2 : x * v (18 + c) / 100 ≤ v (26 + c)
    · rw [if_pos ((nI_leI (by omega) (by omega)).mpr h2), Nat.min_eq_left h2]
    · rw [if_neg (fun hh => h2 ((nI_leI (by omega) (by omega)).mp hh)), Nat.min_eq_right (by omega)]
theorem C_worth {v : Nat → Nat} {m t c x d : Nat} {cs bo ra ca pc pf pl px tr : Nat → Int32} (hV : SV v) (hm : m < 12) (ht : tr m = nI t) (ht2 : t < v 0) (hc : c < v 1) (hx : x ≤ 100000) (hd : d < 2 ^ 20) (h2 : cs 2 = nI (v 2)) (hb : ∀ t, t < v 0 → bo t = nI (v (13 + t))) (hra : ∀ c, c < v 1 → ra c = nI (v (18 + c)) ∧ ca c = nI (v (26 + c))) (hp : ∀ p, p < v 2 → pc p = nI (v (34 + p)) ∧ pf p = nI (v (42 + p)) ∧ pl p = nI (v (50 + p)) ∧ px p = nI (v (58 + p))) {N : Nat} (hN : 10 < N) : f_X0_worth N (nI m) (nI c) (nI x) 8 5 8 8 8 8 8 8 12 (nI d) cs bo ra ca pc pf pl px tr = some (nI (worthN v t c x d)) := by
  obtain ⟨q1, q2, q3⟩ := worthN_le (e := d) hV ht2 hc hx
  have h8' := hV.1.2.2.1
  have h5'' := hV.1.2.1
  obtain ⟨r1, r2⟩ := hV.2.2.2.2.1 c hc
  obtain ⟨r3, r4⟩ := hra c hc
  unfold f_X0_worth f_X7_bonusOf
  rw [X6_at_in tr h12 hm, Option.bind_some, ht, X6_at_in bo h5' (by omega), Option.bind_some, Option.bind_some, hb t ht2, C_extras hV h2 hp (by omega) hd hN, Option.bind_some, Option.bind_some, C_baseOf r3 r4 r1 r2 (by omega) hx, Option.bind_some, if_neg (by decide), show (100 : Int32) = nI 100 from rfl, nI_add, nI_add, nI_mul, nI_div (by omega) (by decide)]
  rfl
theorem M_pointsOf {v : Nat → Nat} {m t c x d : Nat} {fx g : Nat → Int32} (hV : SV v) (hM : SM v fx) (hm : m < 12) (ht : g (42 + m) = nI t) (h0 : g 0 = nI d) (ht2 : t < v 0) (hc : c < v 1) (hx : x ≤ 100000) (hd : d < 2 ^ 20) {N : Nat} (hN : 10 < N) : f_X11_pointsOf N (nI m) (nI c) (nI x) 71 72470 fx g = some (nI (worthN v t c x d)) := by
  obtain ⟨q1, q2, q3⟩ := worthN_le (e := d) hV ht2 hc hx
  have h8' := hV.1.2.2.1
  have h5'' := hV.1.2.1
  have e1 : (42 : Int32) + nI m = nI (42 + m) := nI_add 42 m
  have e2 : (13 : Int32) + nI t = nI (13 + t) := nI_add 13 t
  have g1 := grd (i := 42 + m) (n := 72470) (by omega) (by decide)
  have g2 := grd (i := 13 + t) (n := 71) (by omega) (by decide)
  unfold f_X11_pointsOf
  rw [M_baseOf hV hM hc hx, Option.bind_some, e1, if_neg g1, nI_clamp (show 42 + m < 2 ^ 31 by omega), ht, e2, if_neg g2, nI_clamp (by omega), M_today, Option.bind_some, h0, M_extras hV hM (by omega) hd hN, Option.bind_some, if_neg (by decide), hM _ (by omega), show (100 : Int32) = nI 100 from rfl, nI_add, nI_add, nI_mul, nI_div (by omega) (by decide)]
  rfl
/-- the tenth of its life that a point has reached -/
def partN (v : Nat → Nat) (d e : Nat) : Nat := (d + v 5 - e) * 10 / v 5
theorem partN_le {v : Nat → Nat} {d e : Nat} (hV : SV v) (h1 : d < e) : partN v d e ≤ 9 := by
  have h := hV.2.1.1
  unfold partN
  have : (d + v 5 - e) * 10 / v 5 < 10 := by
    rw [Nat.div_lt_iff_lt_mul (by omega)]
    omega
  omega
theorem partI {v : Nat → Nat} {d e : Nat} (hV : SV v) (hd : d ≤ 9999) (h1 : d < e) (h2 : e ≤ d + v 5) : (nI d - (nI e - nI (v 5))) * (10 : Int32) / nI (v 5) = nI (partN v d e) := by
  have h := hV.2.1.2.1
  have h3 : nI d - (nI e - nI (v 5)) = nI (d + v 5 - e) := by
    apply Int32.toInt_inj.mp
    rw [Int32.toInt_sub, subI_toInt (by omega) (by omega), nI_toInt (by omega), nI_toInt (by omega), Int.bmod_eq_of_le (by omega) (by omega)]
    omega
  rw [h3, show (10 : Int32) = nI 10 from rfl, nI_mul, nI_div (by omega) (by omega)]
  rfl
theorem C_partOf {v : Nat → Nat} {d e : Nat} (hV : SV v) (hd : d ≤ 9999) (h1 : d < e) (h2 : e ≤ d + v 5) : f_X7_partOfLife (nI e) (nI d) (nI (v 5)) = some (nI (partN v d e)) := by
  have h := hV.2.1.1
  have h' := hV.2.1.2.1
  have h9 := partN_le hV h1
  unfold f_X7_partOfLife
  rw [show (1 : Int32) = nI 1 from rfl, if_pos ((nI_leI (by omega) (by omega)).mpr h), if_neg (fun hh => by rw [← nI_0, nI_eq (by omega) (by omega)] at hh; omega), partI hV hd h1 h2, show (9 : Int32) = nI 9 from rfl, if_neg (fun hh => by rw [nI_ltI (by omega) (by omega)] at hh; omega)]
theorem M_partOf {v : Nat → Nat} {d e : Nat} {fx g : Nat → Int32} (hV : SV v) (hM : SM v fx) (h0 : g 0 = nI d) (hd : d ≤ 9999) (h1 : d < e) (h2 : e ≤ d + v 5) : f_X11_partOf (nI e) 71 72470 fx g = some (nI (partN v d e)) := by
  have h := hV.2.1.1
  have h' := hV.2.1.2.1
  have h9 := partN_le hV h1
  unfold f_X11_partOf
  rw [M_today, Option.bind_some, if_neg (by decide), if_neg (by decide), show (5 : Int32).toNatClampNeg = 5 from rfl, hM 5 (by omega), if_neg (fun hh => by rw [← nI_0, nI_eq (by omega) (by omega)] at hh; omega), h0, partI hV hd h1 h2, Option.bind_some, show (9 : Int32) = nI 9 from rfl, if_pos ((nI_leI (by omega) (by omega)).mpr h9)]

