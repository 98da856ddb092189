theorem sumN_mono {f : Nat → Nat} {i : Nat} : ∀ {n : Nat}, sumN f i ≤ sumN f (i + n)
  | 0 => Nat.le_refl _
  | n + 1 => by
    have := sumN_mono (f := f) (i := i) (n := n)
    rw [show i + (n + 1) = (i + n) + 1 by omega, sumN]
    omega
/-- what won't be redeemed of some points -/
def estI (a s p : Nat) : Int32 := if a + s = 0 then 0 else (((nI p).toInt64 * lN a) / lN (a + s)).toInt32
/-- the points redeemed from a part of life on -/
def fromN (rd : Nat → Nat) (i : Nat) : Nat := sumN rd 10 - sumN rd i
theorem fromN_le {rd : Nat → Nat} {i : Nat} : fromN rd i ≤ sumN rd 10 := Nat.sub_le _ _
theorem lN_pos {n : Nat} (h : n < 2 ^ 31) : (0 < lg_cmp (lN n) (0 : Int64) ↔ ¬ n = 0) ∧ (lg_cmp (lN n) (0 : Int64) = 0 ↔ n = 0) ∧ (lN n = (0 : Int64) ↔ n = 0) := by
  have h1 := lN_toInt h
  by_cases h0 : n = 0
  · subst h0
    exact ⟨⟨fun hh => absurd hh (by decide), fun hh => absurd rfl hh⟩, ⟨fun _ => rfl, fun _ => rfl⟩, ⟨fun _ => rfl, fun _ => rfl⟩⟩
  · have h2 : lN n > (0 : Int64) := by
      show (0 : Int64) < lN n
      rw [Int64.lt_iff_toInt_lt, h1]
      show (0 : Int) < _
      omega
    have h3 : lg_cmp (lN n) (0 : Int64) = 1 := by
      unfold lg_cmp
      rw [if_pos h2]
    rw [h3]
    refine ⟨⟨fun _ => h0, fun _ => by decide⟩, ⟨fun hh => absurd hh (by decide), fun hh => absurd hh h0⟩, ⟨fun hh => ?_, fun hh => absurd hh h0⟩⟩
    rw [hh] at h1
    have h4 : (0 : Int64).toInt = 0 := rfl
    omega
theorem C_est {v : Nat → Nat} {d e p ex : Nat} {rd : Nat → Nat} {re tt : Nat → Int32} (hV : SV v) (hd : d ≤ 9999) (h1 : d < e) (h2 : e ≤ d + v 5) (ht : tt 2 = nI ex) (hre : ∀ i, i < 10 → re i = nI (rd i)) (hb : ex + sumN rd 10 < 2 ^ 31) {N : Nat} (hN : 20 < N) : f_X0_estimate N (nI p) (nI e) 10 5 (nI d) (nI (v 5)) re tt = some (estI ex (fromN rd (partN v d e)) p) := by
  have h9 := partN_le hV h1
  have hf := fromN_le (rd := rd) (i := partN v d e)
  have hs := sumI_N hre (10 - partN v d e) (partN v d e) (by omega)
  rw [show partN v d e + (10 - partN v d e) = 10 by omega] at hs
  have hs2 : sumI re (partN v d e) (10 - partN v d e) = nI (fromN rd (partN v d e)) := by
    have hm := sumN_mono (f := rd) (i := partN v d e) (n := 10 - partN v d e)
    rw [show partN v d e + (10 - partN v d e) = 10 by omega] at hm
    unfold fromN
    rw [← nI_subI hm, ← hs, Int32.add_comm, Int32.add_sub_cancel]
  obtain ⟨q1, q2, q3⟩ := lN_pos (n := ex + fromN rd (partN v d e)) (by omega)
  unfold f_X0_estimate estI
  rw [show (2 : Int32) = nI 2 from rfl, X6_at_in tt (show 5 < 2 ^ 31 by decide) (by decide), ht, Option.bind_some, C_partOf hV hd h1 h2, Option.bind_some, X6_sumFrom_in re (show 10 < 2 ^ 31 by decide) (by omega) (by omega), hs2, Option.bind_some, nI_l (show ex < 2 ^ 31 by omega), nI_l (show fromN rd (partN v d e) < 2 ^ 31 by omega), lN_add]
  by_cases h0 : ex + fromN rd (partN v d e) = 0
  · rw [if_neg (fun hh => q1.mp hh h0), if_pos h0]
  · rw [if_pos (q1.mpr h0), if_neg (fun hh => h0 (q3.mp hh)), if_neg h0]
theorem M_est {v : Nat → Nat} {d e p ex : Nat} {rd : Nat → Nat} {fx g : Nat → Int32} (hV : SV v) (hM : SM v fx) (h0 : g 0 = nI d) (hd : d ≤ 9999) (h1 : d < e) (h2 : e ≤ d + v 5) (ht : g 5 = nI ex) (hre : ∀ i, i < 10 → g (8 + i) = nI (rd i)) (hb : ex + sumN rd 10 < 2 ^ 31) {N : Nat} (hN : 20 < N) : f_X11_estimate N (nI p) (nI e) 71 72470 fx g = some (estI ex (fromN rd (partN v d e)) p) := by
  have h9 := partN_le hV h1
  have hf := fromN_le (rd := rd) (i := partN v d e)
  obtain ⟨q1, q2, q3⟩ := lN_pos (n := ex + fromN rd (partN v d e)) (by omega)
  have hloop : ∀ (n j : Nat), j ≤ 10 → 10 < n + j → partN v d e ≤ j → f_X11_estimate_b18 (nI p) (lN ex) 72470 g n (lN (sumN rd j - sumN rd (partN v d e))) (nI j) = some (estI ex (fromN rd (partN v d e)) p) := by
    intro n
    induction n with
    | zero => intro j a1 a2; omega
    | succ n ih =>
      intro j a1 a2 a3
      rw [f_X11_estimate_b18]
      by_cases h4 : j = 10
      · subst h4
        rw [if_pos (show (10 : Int32) ≤ nI 10 from Int32.le_refl _), lN_add, show sumN rd 10 - sumN rd (partN v d e) = fromN rd (partN v d e) from rfl]
        unfold estI
        by_cases h0 : ex + fromN rd (partN v d e) = 0
        · rw [if_pos (q2.mpr h0), if_pos h0]
        · rw [if_neg (fun hh => h0 (q2.mp hh)), if_neg (fun hh => h0 (q3.mp hh)), if_neg h0]
      · have g1 := grd (i := 8 + j) (n := 72470) (by omega) (by decide)
        have hm := sumN_mono (f := rd) (i := partN v d e) (n := j - partN v d e)
        rw [show partN v d e + (j - partN v d e) = j by omega] at hm
        have hm2 := sumN_mono (f := rd) (i := j + 1) (n := 9 - j)
        rw [show j + 1 + (9 - j) = 10 by omega, sumN] at hm2
        rw [if_neg (show ¬ (10 : Int32) ≤ nI j from fun hh => by have := (nI_leI (a := 10) (by decide) (by omega)).mp hh; omega), show (8 : Int32) + nI j = nI (8 + j) from nI_add 8 j, if_neg g1, nI_clamp (by omega), hre j (by omega), nI_l (by omega), lN_add, nI_1, Option.bind_some, show sumN rd j - sumN rd (partN v d e) + rd j = sumN rd (j + 1) - sumN rd (partN v d e) by rw [sumN]; omega]
        exact ih (j + 1) (by omega) (by omega) (by omega)
  unfold f_X11_estimate
  rw [if_neg (by decide), M_partOf hV hM h0 hd h1 h2, Option.bind_some, show (5 : Int32).toNatClampNeg = 5 from rfl, ht, nI_l (by omega)]
  have h3 := hloop N (partN v d e) (by omega) (by omega) (Nat.le_refl _)
  rw [Nat.sub_self] at h3
  exact h3
/-- what a key's points will lose -/
def wE (v : Nat → Nat) (d ex : Nat) (rd : Nat → Nat) (k p : Nat) : Int32 := estI ex (fromN rd (partN v d (kD k))) p
/-- the class: over the entries of a question -/
theorem C_brk {v : Nat → Nat} {d ex : Nat} {rd : Nat → Nat} {re tt : Nat → Int32} {E : List En} {z : Int32} {gl gd gc gp : Nat → Int32} (H : CoE E z gl gd gc gp) (hE : EV v d E) (hV : SV v) (hd : d ≤ 9999) (ht : tt 2 = nI ex) (hre : ∀ i, i < 10 → re i = nI (rd i)) (hb : ex + sumN rd 10 < 2 ^ 31) (x1 : Int32) {N : Nat} (hN : 1024 < N) : f_X0_breakageOf N x1 1024 1024 1024 10 5 (nI d) (nI (v 5)) z gl gd gp re tt = some (sumW (wE v d ex rd) (fun k => anyI x1 (nI (kL k))) E) := by
  have hl : E.length ≤ 1024 := by
    have := H.1.1
    rw [List.length_map] at this
    exact this
  have hz : z = nI E.length := by
    have := H.1.2.1
    rw [List.length_map] at this
    exact this
  have h1024 : (1024 : Nat) < 2 ^ 31 := by decide
  have hloop : ∀ (n i : Nat) (a : Int32), i ≤ E.length → E.length < n + i → f_X0_breakageOf_b4 N x1 1024 1024 1024 10 5 (nI d) (nI (v 5)) z gl gd gp re tt n a (nI i) = some (a + sumW (wE v d ex rd) (fun k => anyI x1 (nI (kL k))) (E.drop i)) := by
    intro n
    induction n with
    | zero => intro i a h1 h2; omega
    | succ n ih =>
      intro i a h1 h2
      rw [f_X0_breakageOf_b4]
      unfold f_X1_size
      rw [Option.bind_some, hz]
      by_cases h3 : i = E.length
      · rw [if_pos (by rw [h3]; exact Int32.le_refl _), List.drop_eq_nil_of_le (by omega), sumW, Int32.add_zero]
      · obtain ⟨x, hx, hdr⟩ := drop_cons' (L := E) (i := i) (by omega)
        have hxm : x ∈ E := List.mem_of_getElem? hx
        obtain ⟨e1, e2, e3, e4⟩ := H.1.2.2 i (co x) (map_get hx)
        have hdx := (hE x hxm).1
        have hn := fun a => ih (i + 1) a (by omega) (by omega)
        rw [hz] at hn
        rw [if_neg (fun hh => by have := (nI_leI (by omega) (by omega)).mp hh; omega), X1_isIn_in x1 (by omega), e1, hdr, sumW, Option.bind_some]
        show (if (if anyI x1 (nI (kL x.1)) = true then (1 : Int32) else 0) = 0 then _ else _) = _
        by_cases h4 : anyI x1 (nI (kL x.1)) = true
        · rw [if_pos h4, if_neg (by decide), if_pos h4]
          unfold f_X1_pointsOf f_X1_dayOf
          rw [X6_at_in gp h1024 (by omega), X6_at_in gd h1024 (by omega), e2, e4, Option.bind_some, Option.bind_some, Option.bind_some, Option.bind_some]
          show ((f_X0_estimate N (nI x.2) (nI (kD x.1)) 10 5 (nI d) (nI (v 5)) re tt).bind _) = _
          rw [C_est hV hd hdx.1 hdx.2 ht hre hb (by omega), Option.bind_some, Option.bind_some, nI_1, Option.bind_some, hn, Int32.add_assoc]; rfl
        · rw [if_neg h4, if_pos rfl, if_neg h4, nI_1, Option.bind_some, hn]
  unfold f_X0_breakageOf
  have h3 := hloop N 0 0 (Nat.zero_le _) (by omega)
  rw [Int32.zero_add, List.drop_zero] at h3
  exact h3
theorem sumW_QB {W : Nat → Nat → Int32} {a κ κ' : Nat} {E : List En} (hs : Sor E) (hv : ∀ x ∈ E, 1 ≤ x.2) (h1 : kL κ = a) (h : ∀ x ∈ E, kL x.1 = a → (x.1 < κ' ↔ (x.1 < κ ∨ x.1 = κ))) : sumW W (QB a κ') E = sumW W (QB a κ) E + (if pt E κ = 0 then 0 else W κ (pt E κ)) := by
  refine sumW_or (QB_f.mpr (fun hh => Nat.lt_irrefl _ hh.2)) hs hv (fun x hx => ?_)
  unfold QB
  by_cases h2 : kL x.1 = a
  · have h3 := h x hx h2
    rw [decide_eq_true h2, Bool.true_and, Bool.true_and, ← Bool.decide_or]
    exact decide_eq_decide.mpr h3
  · rw [decide_eq_false h2, Bool.false_and, Bool.false_and, decide_eq_false (fun hh => h2 (by rw [hh]; exact h1))]; rfl
/-- before the first day none, after the last all -/
theorem QB_first {v : Nat → Nat} {d a c : Nat} {E : List En} (hE : EV v d E) (hc : c ≤ 1) (hv : ∀ x ∈ E, kL x.1 = a → c ≤ kC x.1) : ∀ x ∈ E, QB a (mkK a (d + 1) c) x.1 = false := fun x hx => QB_f.mpr (fun hh => by
  have h8 := (hE x hx).1
  have h9 := mk_k x.1
  have h11 := hv x hx hh.1
  rw [hh.1] at h9
  have h10 := hh.2
  unfold mkK at h9 h10
  omega)
theorem QB_last {v : Nat → Nat} {d a c e : Nat} {E : List En} (hE : EV v d E) (he : d + v 5 < e) : ∀ x ∈ E, QB a (mkK a e c) x.1 = decide (kL x.1 = a) := by
  intro x hx
  by_cases h : kL x.1 = a
  · rw [decide_eq_true h]
    refine QB_t.mpr ⟨h, ?_⟩
    have h8 := (hE x hx).1
    have h9 := mk_k x.1
    have h10 := kC_lt x.1
    rw [h] at h9
    unfold mkK at h9 ⊢
    omega
  · rw [decide_eq_false h]
    exact QB_f.mpr (fun hh => h hh.1)
theorem M_brkAcc {v : Nat → Nat} {d m ex : Nat} {rd : Nat → Nat} {E : List En} {fx g : Nat → Int32} (hV : SV v) (hM : SM v fx) (H : MC d E g) (hs : Sor E) (hv : ∀ x ∈ E, VK x.1 ∧ 1 ≤ x.2) (hP : sumP E < 2 ^ 31) (hE : EV v d E) (hd : d ≤ 9999) (h0 : g 0 = nI d) (hm : m < 12) (ht : g 5 = nI ex) (hre : ∀ i, i < 10 → g (8 + i) = nI (rd i)) (hb : ex + sumN rd 10 < 2 ^ 31) {N : Nat} (hN : 2000 < N) : f_X11_breakageOf N (nI m) 71 72470 fx g = some (sumW (wE v d ex rd) (fun k => decide (kL k = m)) E) := by
  have hv5 := hV.2.1.2.1
  have hloop : ∀ (n j : Nat), j ≤ 1000 → 1000 < n + j → f_X11_breakageOf_b9 N (nI m) 71 72470 fx g n (sumW (wE v d ex rd) (QB m (mkK m (d + 1 + j) 0)) E) (nI (d + 1 + j)) = some (sumW (wE v d ex rd) (fun k => decide (kL k = m)) E) := by
    intro n
    induction n with
    | zero => intro j h1 h2; omega
    | succ n ih =>
      intro j h1 h2
      rw [f_X11_breakageOf_b9, M_last h0 hd, Option.bind_some]
      by_cases h4 : j = 1000
      · rw [if_pos ((nI_ltI (by omega) (by omega)).mpr (by omega)), sumW_congr (q' := fun k => decide (kL k = m)) (QB_last (a := m) (c := 0) (e := d + 1 + j) hE (by omega))]
      · have g1 := grd (i := acI m (d + 1 + j)) (n := 72470) (by unfold acI; omega) (by decide)
        have hkl : kL (mkK m (d + 1 + j) 0) = m := kL_mk (by omega) (by omega)
        have hpl := pt_le_sum (k := mkK m (d + 1 + j) 0) (E := E)
        have hst := sumW_QB (W := wE v d ex rd) (a := m) (κ := mkK m (d + 1 + j) 0) (κ' := mkK m (d + 1 + (j + 1)) 0) hs (fun x hx => (hv x hx).2) hkl (fun x hx h7 => by
          have h8 := (hv x hx).1.2.2.1 (by omega)
          have h9 := mk_k x.1
          rw [h7, h8] at h9
          unfold mkK at h9 ⊢
          omega)
        have hn := ih (j + 1) (by omega) (by omega)
        rw [hst] at hn
        rw [if_neg (fun hh => by have := (nI_ltI (by omega) (by omega)).mp hh; omega), M_accountAt (by omega), Option.bind_some, if_neg g1, nI_clamp (by unfold acI; omega), H.1 m _ hm (by omega) (by omega), Option.bind_some]
        by_cases h5 : pt E (mkK m (d + 1 + j) 0) = 0
        · rw [if_pos ((nI_le0 (by omega)).mpr h5), Option.bind_some, nI_1, Option.bind_some]
          rw [if_pos h5] at hn
          exact hn
        · obtain ⟨y, y1, y2, y3⟩ := pt_pos h5
          have hdy := (hE y y1).1
          rw [y2, kD_mk (by omega) (by omega)] at hdy
          rw [if_neg (fun hh => h5 ((nI_le0 (by omega)).mp hh)), M_est hV hM h0 hd hdy.1 hdy.2 ht hre hb (by omega), Option.bind_some, Option.bind_some, nI_1, Option.bind_some]
          rw [if_neg h5] at hn
          unfold wE at hn ⊢
          rw [kD_mk (by omega) (by omega)] at hn
          exact hn
  unfold f_X11_breakageOf
  rw [M_today, Option.bind_some, h0, nI_1, Option.bind_some]
  have h3 := hloop N 0 (by omega) (by omega)
  rw [sumW_none (QB_first hE (by omega) (fun _ _ _ => Nat.zero_le _))] at h3
  exact h3
theorem M_brkPool {v : Nat → Nat} {d h ex : Nat} {rd : Nat → Nat} {E : List En} {fx g : Nat → Int32} (hV : SV v) (hM : SM v fx) (H : MC d E g) (hs : Sor E) (hv : ∀ x ∈ E, VK x.1 ∧ 1 ≤ x.2) (hP : sumP E < 2 ^ 31) (hE : EV v d E) (hd : d ≤ 9999) (h0 : g 0 = nI d) (hh : h < 4) (ht : g 5 = nI ex) (hre : ∀ i, i < 10 → g (8 + i) = nI (rd i)) (hb : ex + sumN rd 10 < 2 ^ 31) {N : Nat} (hN : 2000 < N) : f_X11_poolBreakageOf N (nI h) 71 72470 fx g = some (sumW (wE v d ex rd) (fun k => decide (kL k = 12 + h)) E) := by
  have hv5 := hV.2.1.2.1
  have hv3 := hV.1.2.2.2.2.1
  have hrow : ∀ (kk : Int32 → Int32 → Option Int32) (e : Nat), d < e → e ≤ d + 1000 → ∀ (n m : Nat), m ≤ v 3 → v 3 < n + m → f_X11_poolBreakageOf_b20 N kk (nI h) (nI e) 71 72470 fx g n (sumW (wE v d ex rd) (QB (12 + h) (mkK (12 + h) e (m + 1))) E) (nI m) = kk (sumW (wE v d ex rd) (QB (12 + h) (mkK (12 + h) (e + 1) 1)) E) (nI (e + 1)) := by
    intro kk e h1 h2 n
    induction n with
    | zero => intro m h3 h4; omega
    | succ n ih =>
      intro m h3 h4
      rw [f_X11_poolBreakageOf_b20, if_neg (by decide), show (3 : Int32).toNatClampNeg = 3 from rfl, hM 3 (by omega)]
      by_cases h5 : m = v 3
      · have hsum : sumW (wE v d ex rd) (QB (12 + h) (mkK (12 + h) e (m + 1))) E = sumW (wE v d ex rd) (QB (12 + h) (mkK (12 + h) (e + 1) 1)) E := by
          refine sumW_congr (fun x hx => ?_)
          unfold QB
          by_cases h6 : kL x.1 = 12 + h
          · have h7 := (hv x hx).1.2.2.2 (by omega)
            have h8 := (hE x hx).2.2 (by omega)
            have h9 := mk_k x.1
            rw [h6] at h9
            have h10 : x.1 < mkK (12 + h) e (m + 1) ↔ x.1 < mkK (12 + h) (e + 1) 1 := by
              unfold mkK at h9 ⊢
              omega
            rw [decide_eq_decide.mpr h10]
          · rw [decide_eq_false h6, Bool.false_and, Bool.false_and]
        rw [if_pos ((nI_leI (by omega) (by omega)).mpr (by omega)), Option.bind_some, nI_1, hsum]
      · have gp := grd (i := poI h e m) (n := 72470) (by unfold poI; omega) (by decide)
        have hkl : kL (mkK (12 + h) e (m + 1)) = 12 + h := kL_mk (by omega) (by omega)
        have hpl := pt_le_sum (k := mkK (12 + h) e (m + 1)) (E := E)
        have hst := sumW_QB (W := wE v d ex rd) (a := 12 + h) (κ := mkK (12 + h) e (m + 1)) (κ' := mkK (12 + h) e (m + 1 + 1)) hs (fun x hx => (hv x hx).2) hkl (fun x hx h7 => by
          unfold mkK
          omega)
        have hn := ih (m + 1) (by omega) (by omega)
        rw [hst] at hn
        rw [if_neg (fun hh => by have := (nI_leI (by omega) (by omega)).mp hh; omega), M_poolAt (by omega), Option.bind_some, if_neg gp, nI_clamp (by unfold poI; omega), H.2 h e m hh h1 h2 (by omega), Option.bind_some]
        by_cases h6 : pt E (mkK (12 + h) e (m + 1)) = 0
        · rw [if_pos ((nI_le0 (by omega)).mpr h6), Option.bind_some, nI_1, Option.bind_some]
          rw [if_pos h6] at hn
          exact hn
        · obtain ⟨y, y1, y2, y3⟩ := pt_pos h6
          have hdy := (hE y y1).1
          rw [y2, kD_mk (by omega) (by omega)] at hdy
          rw [if_neg (fun hh => h6 ((nI_le0 (by omega)).mp hh)), M_est hV hM h0 hd hdy.1 hdy.2 ht hre hb (by omega), Option.bind_some, Option.bind_some, nI_1, Option.bind_some]
          rw [if_neg h6] at hn
          unfold wE at hn ⊢
          rw [kD_mk (by omega) (by omega)] at hn
          exact hn
  have hloop : ∀ (n j : Nat), j ≤ 1000 → 1000 < n + j → f_X11_poolBreakageOf_b9 N (nI h) 71 72470 fx g n (sumW (wE v d ex rd) (QB (12 + h) (mkK (12 + h) (d + 1 + j) 1)) E) (nI (d + 1 + j)) = some (sumW (wE v d ex rd) (fun k => decide (kL k = 12 + h)) E) := by
    intro n
    induction n with
    | zero => intro j h1 h2; omega
    | succ n ih =>
      intro j h1 h2
      rw [f_X11_poolBreakageOf_b9, M_last h0 hd, Option.bind_some]
      by_cases h4 : j = 1000
      · rw [if_pos ((nI_ltI (by omega) (by omega)).mpr (by omega)), sumW_congr (q' := fun k => decide (kL k = 12 + h)) (QB_last (a := 12 + h) (c := 1) (e := d + 1 + j) hE (by omega))]
      · rw [if_neg (fun hh => by have := (nI_ltI (by omega) (by omega)).mp hh; omega)]
        have hr := hrow (f_X11_poolBreakageOf_b9 N (nI h) 71 72470 fx g n) (d + 1 + j) (by omega) (by omega) N 0 (Nat.zero_le _) (by omega)
        rw [nI_0] at hr
        rw [hr]
        exact ih (j + 1) (by omega) (by omega)
  unfold f_X11_poolBreakageOf
  rw [M_today, Option.bind_some, h0, nI_1, Option.bind_some]
  have h3 := hloop N 0 (by omega) (by omega)
  rw [sumW_none (QB_first hE (by omega) (fun x hx hk => (hv x hx).1.2.2.2 (by omega)))] at h3
  exact h3
theorem sumW_add {W : Nat → Nat → Int32} {q q' p : Nat → Bool} : ∀ {E : List En}, (∀ x ∈ E, p x.1 = (q x.1 || q' x.1)) → (∀ x ∈ E, q x.1 = true → q' x.1 = false) → sumW W p E = sumW W q E + sumW W q' E
  | [], _, _ => rfl
  | x :: E, h1, h2 => by
    have ih := sumW_add (W := W) (E := E) (fun y hy => h1 y (List.mem_cons_of_mem _ hy)) (fun y hy => h2 y (List.mem_cons_of_mem _ hy))
    have a := h1 x List.mem_cons_self
    have b := h2 x List.mem_cons_self
    rw [sumW, sumW, sumW, a, ih]
    cases hq : q x.1 with
    | true => rw [b hq]; simp only [Bool.or_false, if_true, Bool.false_eq_true, if_false]; rw [Int32.add_assoc]
    | false =>
      cases hq' : q' x.1 with
      | true => simp only [Bool.or_true, if_true, Bool.false_eq_true, if_false]; rw [← Int32.add_assoc, ← Int32.add_assoc, Int32.add_comm (W x.1 x.2)]
      | false => simp only [Bool.or_false, Bool.false_eq_true, if_false]
theorem sumW_lt {W : Nat → Nat → Int32} {E : List En} (n : Nat) : sumW W (fun k => decide (kL k < n + 1)) E = sumW W (fun k => decide (kL k < n)) E + sumW W (fun k => decide (kL k = n)) E := by
  refine sumW_add (fun x _ => ?_) (fun x _ h => ?_)
  · rw [← Bool.decide_or]
    exact decide_eq_decide.mpr (by omega)
  · have := of_decide_eq_true h
    exact decide_eq_false (show ¬ kL x.1 = n by omega)


