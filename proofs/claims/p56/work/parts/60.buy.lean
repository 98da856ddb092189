theorem C_poolList {h : Nat} (hh : h ≤ 4) : f_X10_poolList (cI h) = some (if h = 0 then -1 else nI (11 + h)) := by
  unfold f_X10_poolList
  cases h with
  | zero => rw [show cI 0 = (-1 : Int32) from rfl, if_pos rfl, if_pos rfl]
  | succ h =>
    rw [if_neg (fun hx => by have := (cI_none (c := h + 1) (by omega)).mp hx; omega), if_neg (by omega)]
    show some ((12 : Int32) + nI h) = _
    rw [show (12 : Int32) = nI 12 from rfl, nI_add, show 12 + h = 11 + (h + 1) by omega]
/-- a pool, or none, gets points -/
theorem C_poolPut {v : Nat → Nat} {E : List En} {z : Int32} {gl gd gc gp : Nat → Int32} (H : CoE E z gl gd gc gp) {h e m p : Nat} (hh : h ≤ 4) (h0 : h = 0 → p = 0) (hm : m < 12) (he : e < 16384) (hs : sumP E + p < 2 ^ 31) (hl : E.length < 1024) {N : Nat} (hN : 1024 < N) : ∃ o, f_X1_put N (if h = 0 then -1 else nI (11 + h)) (nI e) (nI m) (nI p) 1024 1024 1024 1024 z gl gd gc gp = some o ∧ CoE (addE (mkK (11 + h) e (m + 1)) p E) o.1 o.2.1 o.2.2.1 o.2.2.2.1 o.2.2.2.2 := by
  by_cases hz : h = 0
  · refine ⟨(z, gl, gd, gc, gp), ?_, ?_⟩
    · rw [h0 hz, nI_0, put_zero]
    · unfold addE
      rw [if_pos (h0 hz)]; exact H
  · rw [if_neg hz]
    have hk : VK (mkK (11 + h) e (m + 1)) := by
      have := VK_po (h := h - 1) (m := m) (e := e) (by omega) hm he
      rw [show 12 + (h - 1) = 11 + h by omega] at this
      exact this
    exact E_put H (a := 11 + h) (e := e) (c := m + 1) (p := p) he hk (by omega) hs hl hN
theorem M_poolPut {d : Nat} {E : List En} {g : Nat → Int32} (H : MC d E g) (hs : Sor E) (hd : d ≤ 9999) {h e m p : Nat} (hh : h ≤ 4) (h0 : h = 0 → p = 0) (hm : m < 12) (h1 : d < e) (h2 : e ≤ d + 1000) (hp : p < 2 ^ 31) (N : Nat) (x2 x3 x4 t ch : Int32) (fx pa : Nat → Int32) : ∃ g1, f_X11_purchase_b87 N (nI m) x2 x3 x4 (nI e) (cI h) (nI p) 71 72470 t ch fx g pa = f_X11_purchase_b112 N (nI m) x2 x3 x4 (nI e) (nI p) 71 72470 t ch fx g1 pa ∧ MC d (addE (mkK (11 + h) e (m + 1)) p E) g1 ∧ ∀ i, i < 12470 → g1 i = g i := by
  unfold f_X11_purchase_b87
  by_cases hz : p = 0
  · refine ⟨g, ?_, ?_, fun i _ => rfl⟩
    · rw [hz, nI_0, if_pos (Int32.le_refl 0)]
    · unfold addE
      rw [if_pos hz]; exact H
  · obtain ⟨q, hq⟩ : ∃ q, h = q + 1 := ⟨h - 1, by have : ¬ h = 0 := fun a => hz (h0 a); omega⟩
    subst hq
    have g1 := grd (i := poI q e m) (n := 72470) (by unfold poI; omega) (by decide)
    have g2 := grd2 (i := poI q e m) (n := 72470) (by unfold poI; omega) (by decide)
    have e1 : 11 + (q + 1) = 12 + q := by omega
    refine ⟨upd g (poI q e m) (nI (pt E (mkK (12 + q) e (m + 1)) + p)), ?_, ?_, ?_⟩
    · rw [if_neg (fun hx => hz ((nI_le0 hp).mp hx)), show cI (q + 1) = nI q from rfl, M_poolAt (by omega), Option.bind_some, if_neg g1, nI_clamp (by unfold poI; omega), if_neg g2, Option.bind_some, H.2 q e m (by omega) h1 h2 hm, nI_add]
    · rw [e1]
      exact MC_po hd H (by omega) hm h1 h2 (fun j => addE_pt hs)
    · intro i hi
      rw [upd_ne _ _ (by unfold poI; omega)]
theorem nI_toInt64_mul {a b : Nat} (ha : a < 2 ^ 31) (hb : b < 2 ^ 31) (hab : a * b < 2 ^ 31) : (((nI a).toInt64 * (nI b).toInt64) / (100 : Int64)).toInt32 = nI (a * b / 100) := by
  have h1 : (nI a).toInt64 * (nI b).toInt64 = lN (a * b) := by
    apply Int64.toInt_inj.mp
    rw [nI_l ha, nI_l hb, Int64.toInt_mul, lN_toInt ha, lN_toInt hb, lN_toInt hab, Int.bmod_eq_of_le]
    · push_cast; rfl
    · have : (0 : Int) ≤ (a : Int) * b := Int.mul_nonneg (Int.natCast_nonneg _) (Int.natCast_nonneg _)
      omega
    · have : ((a * b : Nat) : Int) = (a : Int) * b := by push_cast; rfl
      omega
  have h2 : lN (a * b) / (100 : Int64) = lN (a * b / 100) := by
    have h3 : a * b / 100 ≤ a * b := Nat.div_le_self _ _
    apply Int64.toInt_inj.mp
    rw [Int64.toInt_div_of_ne_left _ _ (by
      intro hh
      have := lN_toInt hab
      rw [hh] at this
      have h2 : Int64.minValue.toInt < 0 := by decide
      omega), lN_toInt hab, lN_toInt (by omega)]
    rfl
  rw [h1, h2, lN_i]

