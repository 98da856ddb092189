/-- the class's cohorts' five fields -/
abbrev T_CO : Type := Int32 × (Nat → Int32) × (Nat → Int32) × (Nat → Int32) × (Nat → Int32)
theorem h12 : (12 : Nat) < 2 ^ 31 := by decide
theorem h5' : (5 : Nat) < 2 ^ 31 := by decide
theorem minD {n D : Nat} (hn : n < 2 ^ 31) (hD : D < 2 ^ 31) : (if nI D < nI n then nI D else nI n) = nI (min n D) := by
  by_cases h : D < n
  · rw [if_pos ((nI_ltI hD hn).mpr h), Nat.min_eq_right (by omega)]
  · rw [if_neg (fun hh => h ((nI_ltI hD hn).mp hh)), Nat.min_eq_left (by omega)]
theorem nI_negadd {a b : Nat} (h : b ≤ a) : nI a + -nI b = nI (a - b) := by rw [← Int32.sub_eq_add_neg, nI_subI h]
theorem VK_ac {m e : Nat} (hm : m < 12) (he : e < 16384) : VK (mkK m e 0) := by
  refine ⟨?_, ?_, fun _ => ?_, fun h => ?_⟩
  · rw [kL_mk he (by omega)]; omega
  · rw [kC_mk (by omega)]; omega
  · rw [kC_mk (by omega)]
  · rw [kL_mk he (by omega)] at h; omega
theorem VK_po {h m e : Nat} (hh : h < 4) (hm : m < 12) (he : e < 16384) : VK (mkK (12 + h) e (m + 1)) := by
  refine ⟨?_, ?_, fun h1 => ?_, fun _ => ?_⟩
  · rw [kL_mk he (by omega)]; omega
  · rw [kC_mk (by omega)]; omega
  · rw [kL_mk he (by omega)] at h1; omega
  · rw [kC_mk (by omega)]; omega
/-- the class credits -/
theorem C_credit {E : List En} {z : Int32} {gl gd gc gp : Nat → Int32} (H : CoE E z gl gd gc gp) {m e n D : Nat} (hm : m < 12) (he : e < 16384) {db tt : Nat → Int32} (hD : db m = nI D) (hD2 : D < 2 ^ 31) (hn : n < 2 ^ 31) (hs : sumP E + n < 2 ^ 31) (hl : E.length < 1024) {N : Nat} (hN : 1024 < N) : ∃ o : T_CO, f_X0_credit N (nI m) (nI e) (nI n) 1024 1024 1024 1024 12 5 z gl gd gc gp db tt = some (nI (min n D), o.1, o.2.1, o.2.2.1, o.2.2.2.1, o.2.2.2.2, upd db m (nI (D - min n D)), upd tt 4 (tt 4 + nI (min n D))) ∧ CoE (addE (mkK m e 0) (n - min n D) E) o.1 o.2.1 o.2.2.1 o.2.2.2.1 o.2.2.2.2 := by
  obtain ⟨o, ho, hR⟩ := E_put H (a := m) (e := e) (c := 0) (p := n - min n D) he (VK_ac hm he) (by omega) (by omega) hl hN
  refine ⟨o, ?_, hR⟩
  unfold f_X0_credit
  rw [X6_at_in db h12 hm, Option.bind_some, hD, minD hn hD2, Option.bind_some, X6_increase_in db _ h12 hm, Option.bind_some, hD, nI_negadd (Nat.min_le_right n D), show (4 : Int32) = nI 4 from rfl, X6_increase_in tt _ h5' (by omega), Option.bind_some, nI_subI (Nat.min_le_left n D), show (-1 : Int32) = cI 0 from rfl, ho, Option.bind_some]
/-- the reference credits -/
theorem M_credits {d : Nat} {E : List En} {g : Nat → Int32} (H : MC d E g) (hs : Sor E) (hd : d ≤ 9999) {m e n D : Nat} (hm : m < 12) (h1 : d < e) (h2 : e ≤ d + 1000) (hD : g (18 + m) = nI D) (hD2 : D < 2 ^ 31) (hn : n < 2 ^ 31) : ∃ g', f_X11_credits (nI m) (nI n) (nI e) 72470 g = some (nI (min n D), g') ∧ MC d (addE (mkK m e 0) (n - min n D) E) g' ∧ g' (18 + m) = nI (D - min n D) ∧ g' 7 = g 7 + nI (min n D) ∧ ∀ i, i < 12470 → ¬ i = 18 + m → ¬ i = 7 → g' i = g i := by
  have e1 : (18 : Int32) + nI m = nI (18 + m) := nI_add 18 m
  have g1 := grd (i := 18 + m) (n := 72470) (by omega) (by decide)
  have g2 : ¬ ((7 : Int32) < 0 ∨ 72470 ≤ (7 : Int32).toNatClampNeg) := by decide
  have g3 := grd (i := acI m e) (n := 72470) (by unfold acI; omega) (by decide)
  have hac : 12470 ≤ acI m e := by unfold acI; omega
  refine ⟨upd (upd (upd g (18 + m) (nI (D - min n D))) 7 (g 7 + nI (min n D))) (acI m e) (nI (pt E (mkK m e 0) + (n - min n D))), ?_, ?_, ?_, ?_, ?_⟩
  · unfold f_X11_credits
    rw [e1, if_neg g1, nI_clamp (by omega), hD, minD hn hD2, Option.bind_some]
    rw [nI_clamp (by omega)] at g1
    rw [if_neg g1, if_neg g1, Option.bind_some, if_neg g2, if_neg g2, show (7 : Int32).toNatClampNeg = 7 from rfl, Option.bind_some, M_accountAt (by omega), Option.bind_some, if_neg g3, if_neg g3, nI_clamp (by unfold acI; omega), Option.bind_some, nI_subI (Nat.min_le_right n D), nI_subI (Nat.min_le_left n D), upd_ne _ _ (show ¬ 7 = 18 + m by omega), upd_ne _ _ (show ¬ acI m e = 7 by omega), upd_ne _ _ (show ¬ acI m e = 18 + m by omega), H.1 m e hm h1 h2, nI_add]
  · refine MC_ac (E := E) hd (MC_same H (fun i a b => ?_)) hm h1 h2 (fun j => addE_pt hs)
    rw [upd_ne _ _ (by omega), upd_ne _ _ (by omega)]
  · rw [upd_ne _ _ (by omega), upd_ne _ _ (by omega), upd_at]
  · rw [upd_ne _ _ (by omega), upd_at]
  · intro i a b c
    rw [upd_ne _ _ (by omega), upd_ne _ _ c, upd_ne _ _ b]
/-- nothing is put -/
theorem put_zero (x1 x2 x3 : Int32) (N : Nat) (z : Int32) (gl gd gc gp : Nat → Int32) : f_X1_put N x1 x2 x3 0 1024 1024 1024 1024 z gl gd gc gp = some (z, gl, gd, gc, gp) := by
  unfold f_X1_put
  rw [if_neg (by decide)]

