/-- the bits and the number of the members of a household -/
def bitsN (hm : Nat → Int32) (x : Int32) : Nat → Nat
  | 0 => 0
  | m + 1 => bitsN hm x m + (if hm m = x then 2 ^ m else 0)
def livN (hm : Nat → Int32) (x : Int32) : Nat → Nat
  | 0 => 0
  | m + 1 => livN hm x m + (if hm m = x then 1 else 0)
theorem bitsN_lt (hm : Nat → Int32) (x : Int32) : ∀ m, bitsN hm x m < 2 ^ m
  | 0 => Nat.one_pos
  | m + 1 => by
    rw [bitsN, Nat.pow_succ]
    have := bitsN_lt hm x m
    by_cases h : hm m = x
    · rw [if_pos h]; omega
    · rw [if_neg h]; omega
theorem pow12 {m : Nat} (h : m ≤ 12) : 2 ^ m ≤ 4096 := by
  have : 2 ^ m ≤ 2 ^ 12 := Nat.pow_le_pow_right (by decide) h
  have h2 : 2 ^ 12 = 4096 := rfl
  omega
theorem pop_liv (hm : Nat → Int32) (x : Int32) : ∀ m, m ≤ 12 → popN 12 (bitsN hm x m) = livN hm x m
  | 0, _ => by
    show popN 12 0 = 0
    decide
  | m + 1, h => by
    rw [bitsN, livN, ← pop_liv hm x m (by omega)]
    have h1 := bitsN_lt hm x m
    have h2 := pow12 (m := m) (by omega)
    by_cases e : hm m = x
    · rw [if_pos e, if_pos e]
      have h3 := pop_add m (by omega) (bitsN hm x m / 64) (by omega) (bitsN hm x m % 64) (by omega) (by omega)
      rw [show bitsN hm x m / 64 * 64 + bitsN hm x m % 64 = bitsN hm x m by omega] at h3
      exact h3
    · rw [if_neg e, if_neg e, Nat.add_zero, Nat.add_zero]
theorem or_bits (hm : Nat → Int32) (x : Int32) {m : Nat} (h : m < 12) : nI (bitsN hm x m) ||| ((1 : Int32) <<< (nI m &&& 31)) = nI (bitsN hm x m + 2 ^ m) := by
  have h1 := bitsN_lt hm x m
  have h2 := pow12 (m := m) (by omega)
  have h3 := bit_or m h (bitsN hm x m / 64) (by omega) (bitsN hm x m % 64) (by omega) (by omega)
  rw [show bitsN hm x m / 64 * 64 + bitsN hm x m % 64 = bitsN hm x m by omega] at h3
  exact h3
theorem C_bits_from {v : Nat → Nat} {cs hm : Nat → Int32} (x : Int32) (h3 : cs 3 = nI (v 3)) (hv : v 3 ≤ 12) : ∀ (n m : Nat), m ≤ v 3 → v 3 < n + m → f_X0_memberBits_b4 x 8 12 cs hm n (nI (bitsN hm x m)) (nI m) = some (nI (bitsN hm x (v 3))) := by
  intro n
  induction n with
  | zero => intro m h1 h2; omega
  | succ n ih =>
    intro m h1 h2
    rw [f_X0_memberBits_b4]
    unfold f_X7_count
    rw [show (3 : Int32) = nI 3 from rfl, X6_at_in cs h8 (by omega), Option.bind_some, Option.bind_some, h3]
    by_cases h : v 3 = m
    · rw [if_pos (by rw [h]; exact Int32.le_refl _), h]
    · have hn := ih (m + 1) (by omega) (by omega)
      rw [bitsN] at hn
      rw [if_neg (fun hh => by have := (nI_leI (by omega) (by omega)).mp hh; omega), X6_at_in hm h12 (by omega), Option.bind_some]
      by_cases e : hm m = x
      · rw [if_pos e] at hn ⊢
        rw [or_bits hm x (by omega), Option.bind_some, nI_1, Option.bind_some, hn]
      · rw [if_neg e, Nat.add_zero] at hn
        rw [if_neg e, nI_1, Option.bind_some, hn]
theorem C_memberBits {v : Nat → Nat} {cs hm : Nat → Int32} (x : Int32) (h3 : cs 3 = nI (v 3)) (hv : v 3 ≤ 12) {N : Nat} (hN : 20 < N) : f_X0_memberBits N x 8 12 cs hm = some (nI (bitsN hm x (v 3))) := by
  unfold f_X0_memberBits
  exact C_bits_from x h3 hv N 0 (Nat.zero_le _) (by omega)
theorem C_peopleIn {v : Nat → Nat} {cs hm : Nat → Int32} (x : Int32) (h3 : cs 3 = nI (v 3)) (hv : v 3 ≤ 12) {N : Nat} (hN : 20 < N) : f_X0_peopleIn N x 8 12 cs hm = some (nI (livN hm x (v 3))) := by
  have h1 := bitsN_lt hm x (v 3)
  have h2 := pow12 (m := v 3) hv
  have hp := bit_pop (bitsN hm x (v 3) / 64) (by omega) (bitsN hm x (v 3) % 64) (by omega)
  rw [show bitsN hm x (v 3) / 64 * 64 + bitsN hm x (v 3) % 64 = bitsN hm x (v 3) by omega, pop_liv hm x _ hv] at hp
  unfold f_X0_peopleIn
  rw [C_memberBits x h3 hv hN, Option.bind_some, hp, Option.bind_some]
theorem M_liv_from {v : Nat → Nat} {fx g hm : Nat → Int32} (x : Int32) (hM : SM v fx) (hv : v 3 ≤ 12) (hg : ∀ m, m < 12 → g (30 + m) = hm m) : ∀ (n m : Nat), m ≤ v 3 → v 3 < n + m → f_X11_living_b4 x 71 72470 fx g n (nI (livN hm x m)) (nI m) = some (nI (livN hm x (v 3))) := by
  intro n
  induction n with
  | zero => intro m h1 h2; omega
  | succ n ih =>
    intro m h1 h2
    rw [f_X11_living_b4, if_neg (by decide), show (3 : Int32).toNatClampNeg = 3 from rfl, hM 3 (by omega)]
    by_cases h : v 3 = m
    · rw [if_pos (by rw [h]; exact Int32.le_refl _), h]
    · have hn := ih (m + 1) (by omega) (by omega)
      have g1 := grd (i := 30 + m) (n := 72470) (by omega) (by decide)
      rw [livN] at hn
      rw [if_neg (fun hh => by have := (nI_leI (by omega) (by omega)).mp hh; omega), show (30 : Int32) + nI m = nI (30 + m) from nI_add 30 m, if_neg g1, nI_clamp (by omega), hg m (by omega)]
      by_cases e : hm m = x
      · rw [if_pos e] at hn ⊢
        rw [nI_1, Option.bind_some, nI_1, Option.bind_some, hn]
      · rw [if_neg e, Nat.add_zero] at hn
        rw [if_neg e, Int32.add_zero, Option.bind_some, nI_1, Option.bind_some, hn]
theorem M_living {v : Nat → Nat} {fx g hm : Nat → Int32} (x : Int32) (hM : SM v fx) (hv : v 3 ≤ 12) (hg : ∀ m, m < 12 → g (30 + m) = hm m) {N : Nat} (hN : 20 < N) : f_X11_living N x 71 72470 fx g = some (nI (livN hm x (v 3))) := by
  unfold f_X11_living
  exact M_liv_from x hM hv hg N 0 (Nat.zero_le _) (by omega)
theorem M_mem_from {v : Nat → Nat} {fx g hm : Nat → Int32} (x t : Int32) (hM : SM v fx) (hv : v 3 ≤ 12) (hg : ∀ m, m < 12 → g (30 + m) = hm m) : ∀ (n m : Nat), m ≤ v 3 → v 3 < n + m → f_X11_members_b14 x 71 72470 t fx g n (nI (bitsN hm x m)) (nI m) = some (nI (bitsN hm x (v 3)), t) := by
  intro n
  induction n with
  | zero => intro m h1 h2; omega
  | succ n ih =>
    intro m h1 h2
    rw [f_X11_members_b14, if_neg (by decide), show (3 : Int32).toNatClampNeg = 3 from rfl, hM 3 (by omega)]
    by_cases h : v 3 = m
    · rw [if_pos (by rw [h]; exact Int32.le_refl _), h]
    · have hn := ih (m + 1) (by omega) (by omega)
      have g1 := grd (i := 30 + m) (n := 72470) (by omega) (by decide)
      rw [bitsN] at hn
      rw [if_neg (fun hh => by have := (nI_leI (by omega) (by omega)).mp hh; omega), show (30 : Int32) + nI m = nI (30 + m) from nI_add 30 m, if_neg g1, nI_clamp (by omega), hg m (by omega)]
      by_cases e : hm m = x
      · rw [if_pos e] at hn ⊢
        rw [or_bits hm x (by omega), Option.bind_some, nI_1, Option.bind_some, hn]
      · rw [if_neg e, Nat.add_zero] at hn
        rw [if_neg e, Int32.or_zero, Option.bind_some, nI_1, Option.bind_some, hn]
/-- no household is too full -/
def Liv (v : Nat → Nat) (hm : Nat → Int32) : Prop := ∀ h, h < v 4 → livN hm (nI h) (v 3) ≤ 4
theorem livN_upd {hm : Nat → Int32} {x y : Int32} {m : Nat} : ∀ {n : Nat}, livN (upd hm m y) x n ≤ livN hm x n + (if m < n ∧ y = x then 1 else 0)
  | 0 => Nat.zero_le _
  | n + 1 => by
    have ih := livN_upd (hm := hm) (x := x) (y := y) (m := m) (n := n)
    rw [livN, livN]
    by_cases h : n = m
    · subst h
      rw [upd_at]
      rw [if_neg (show ¬ (n < n ∧ y = x) by omega)] at ih
      by_cases e : y = x
      · rw [if_pos e, if_pos (show n < n + 1 ∧ y = x from ⟨Nat.lt_succ_self n, e⟩)]
        by_cases e2 : hm n = x
        · rw [if_pos e2]; omega
        · rw [if_neg e2]; omega
      · rw [if_neg e, if_neg (show ¬ (n < n + 1 ∧ y = x) from fun hh => e hh.2)]
        by_cases e2 : hm n = x
        · rw [if_pos e2]; omega
        · rw [if_neg e2]; omega
    · rw [upd_ne _ _ h]
      by_cases e : m < n ∧ y = x
      · rw [if_pos e] at ih
        rw [if_pos (show m < n + 1 ∧ y = x from ⟨by omega, e.2⟩)]; omega
      · rw [if_neg e] at ih; omega
theorem S_join {v : Nat → Nat} {k : Nat} {s : T_SE} {b : T_BK} {fx g pa : Nat → Int32} {ch : Int32} (hV : SV v) (hM : SM v fx) (hS : SC v s) (H : BR v k b g) (hL : Liv v b.2.2.2.2.2.2.2.2.2.2.2.2.2.2.2.1) {m h : Nat} (hm3 : m < v 3) (hh4 : h < v 4) {N : Nat} (hN : 2000 < N) : ∃ ho c, F_B_homeOf N b (nI m) = some ho ∧ F_B_peopleIn N s b (nI h) = some c ∧ ((¬ ho = -1 ∨ ¬ c < 4) → f_X11_join N (nI m) (nI h) 71 72470 579760 ch fx g pa = some (0, 2, ch, g, pa)) ∧ (ho = -1 → c < 4 → ∀ ch' pa', f_X11_remembers N 72470 579760 ch g pa = some (ch', pa') → ∃ b' g' p, F_B_enter N b (nI m) (nI h) = some b' ∧ F_B_peopleIn N s b' (nI h) = some p ∧ f_X11_join N (nI m) (nI h) 71 72470 579760 ch fx g pa = some (p, 0, ch', g', pa') ∧ BR v (k + 1) b' g' ∧ Liv v b'.2.2.2.2.2.2.2.2.2.2.2.2.2.2.2.1) := by
  obtain ⟨day, ws, z, gl, gd, gc, gp, cnt, pr, nx, sz, dp, ti, be, de, hm, qu, sh, re, tt, ls, ba, st, si⟩ := b
  have H : BRc v k day ws z gl gd gc gp cnt pr nx sz dp ti be de hm qu sh re tt g := H
  have hLv : Liv v hm := hL
  obtain ⟨d, E, Lg, c, dy, db, rd, ⟨a1, a2⟩, ⟨a3, a4, a5⟩, ⟨H1, H2, H3⟩, ⟨HL, HLm⟩, H4, H5, H6, H7⟩ := H
  have hv3 := hV.1.2.2.2.2.1
  have hv4 := hV.1.2.2.2.2.2
  have hm12 : m < 12 := by omega
  have hs3 := hS.2.1 3 (by omega)
  have hg30 : ∀ m, m < 12 → g (30 + m) = hm m := fun m hm' => (H6.1 m hm').2.2.1.symm
  have hl4 := hLv h hh4
  have e1 : (30 : Int32) + nI m = nI (30 + m) := nI_add 30 m
  have gm := grd (i := 30 + m) (n := 72470) (by omega) (by decide)
  have gm2 := grd2 (i := 30 + m) (n := 72470) (by omega) (by decide)
  have hlt : nI (livN hm (nI h) (v 3)) < (4 : Int32) ↔ livN hm (nI h) (v 3) < 4 := by rw [show (4 : Int32) = nI 4 from rfl, nI_ltI (by omega) (by omega)]
  have heq : nI (livN hm (nI h) (v 3)) = (4 : Int32) ↔ livN hm (nI h) (v 3) = 4 := by rw [show (4 : Int32) = nI 4 from rfl, nI_eq (by omega) (by omega)]
  refine ⟨hm m, nI (livN hm (nI h) (v 3)), ?_, ?_, fun hor => ?_, fun hho hc ch' pa' hr => ?_⟩
  · unfold F_B_homeOf f_X0_homeOf
    dsimp only
    rw [X6_at_in hm h12 hm12]; rfl
  · unfold F_B_peopleIn
    dsimp only
    rw [C_peopleIn (v := v) (nI h) hs3 hv3 (by omega), Option.bind_some]
  · unfold f_X11_join
    rw [M_isMember (nI m) (n := v 3) (by omega) (hM 3 (by omega)), Option.bind_some, if_neg (outN_in (by omega) hm3), if_neg (by decide), M_isHouse (nI h) (n := v 4) (by omega) (hM 4 (by omega)), Option.bind_some, if_neg (outN_in (by omega) hh4), if_neg (by decide), e1, if_neg gm, nI_clamp (by omega), hg30 m hm12]
    by_cases h1 : hm m = -1
    · rw [if_pos h1, M_living (nI h) hM hv3 hg30 (by omega), Option.bind_some, if_pos (heq.mpr (by
        cases hor with
        | inl a => exact absurd h1 a
        | inr a => rw [hlt] at a; omega))]
      rfl
    · rw [if_neg h1]; rfl
  · have hlt4 := hlt.mp hc
    subst a3
    refine ⟨(nI d, ws, z, gl, gd, gc, gp, cnt, pr, nx, sz, dp, ti, be, de, upd hm m (nI h), qu, sh, re, tt, ls, ba, st, si), upd g (30 + m) (nI h), nI (livN (upd hm m (nI h)) (nI h) (v 3)), ?_, ?_, ?_, ?_, ?_⟩
    · unfold F_B_enter f_X0_enter
      dsimp only
      rw [X6_put_in hm _ h12 hm12]; rfl
    · unfold F_B_peopleIn
      dsimp only
      rw [C_peopleIn (v := v) (nI h) hs3 hv3 (by omega), Option.bind_some]
    · unfold f_X11_join
      rw [M_isMember (nI m) (n := v 3) (by omega) (hM 3 (by omega)), Option.bind_some, if_neg (outN_in (by omega) hm3), if_neg (by decide), M_isHouse (nI h) (n := v 4) (by omega) (hM 4 (by omega)), Option.bind_some, if_neg (outN_in (by omega) hh4), if_neg (by decide), e1, if_neg gm, nI_clamp (by omega), hg30 m hm12, if_pos hho, M_living (nI h) hM hv3 hg30 (by omega), Option.bind_some, if_neg (fun hx => by have := heq.mp hx; omega), hr, Option.bind_some, if_neg gm2, Option.bind_some, M_living (hm := upd hm m (nI h)) (nI h) hM hv3 (fun m' hm' => by
        by_cases e : m' = m
        · rw [e, upd_at, upd_at]
        · rw [upd_ne _ _ e, upd_ne _ _ (show ¬ 30 + m' = 30 + m by omega), hg30 m' hm']) (by omega), Option.bind_some]
    · unfold BR
      dsimp only
      refine ⟨d, E, Lg, c, dy, db, rd, ⟨by omega, by omega⟩, ⟨rfl, by rw [upd_ne _ _ (by omega), a4], a5⟩, ⟨H1, MC_same H2 (fun i p q => by rw [upd_ne _ _ (by omega)]), H3⟩, ⟨HL, LogM_same HLm (by rw [upd_ne _ _ (by omega)]) (fun i p q => by rw [upd_ne _ _ (by omega)])⟩, B4_same H4 (by rw [upd_ne _ _ (by omega)]) (fun i p q => by rw [upd_ne _ _ (by omega)]), B5_same hV H5 (fun i p q => by rw [upd_ne _ _ (by omega)]), ⟨fun m' hm' => ?_, fun q hq => ?_⟩, B7_same H7 (by omega) (fun i p q => by rw [upd_ne _ _ (by omega)])⟩
      · obtain ⟨z1, z2, z3, z4, z5⟩ := H6.1 m' hm'
        rw [upd_ne _ _ (show ¬ 42 + m' = 30 + m by omega), upd_ne _ _ (show ¬ 54 + m' = 30 + m by omega)]
        by_cases e : m' = m
        · rw [e, upd_at, upd_at]
          rw [e] at z1 z2 z4
          exact ⟨z1, z2, rfl, z4, h + 1, by omega, rfl⟩
        · rw [upd_ne _ _ e, upd_ne _ _ (show ¬ 30 + m' = 30 + m by omega)]
          exact ⟨z1, z2, z3, z4, z5⟩
      · rw [upd_ne _ _ (by omega)]
        exact H6.2 q hq
    · intro q hq
      show livN (upd hm m (nI h)) (nI q) (v 3) ≤ 4
      have h1 := livN_upd (hm := hm) (x := nI q) (y := nI h) (m := m) (n := v 3)
      have h2 := hLv q hq
      by_cases e : nI h = nI q
      · rw [← e] at h1 h2 ⊢
        rw [if_pos ⟨hm3, rfl⟩] at h1
        omega
      · rw [if_neg (fun hx => e hx.2)] at h1
        omega
/-- a new share, on both sides -/
theorem S_setShare {v : Nat → Nat} {k : Nat} {b : T_BK} {fx g pa pa' : Nat → Int32} {ch ch' : Int32} (hV : SV v) (hM : SM v fx) (H : BR v k b g) {h p : Nat} (hh4 : h < v 4) (hp : p ≤ 100) {N : Nat} (hr : f_X11_remembers N 72470 579760 ch g pa = some (ch', pa')) : ∃ b' g' q, F_B_replaceShare N b (nI h) (nI p) = some (q, b') ∧ f_X11_setShare N (nI h) (nI p) 71 72470 579760 ch fx g pa = some (q, 0, ch', g', pa') ∧ BR v (k + 1) b' g' := by
  obtain ⟨day, ws, z, gl, gd, gc, gp, cnt, pr, nx, sz, dp, ti, be, de, hm, qu, sh, re, tt, ls, ba, st, si⟩ := b
  have H : BRc v k day ws z gl gd gc gp cnt pr nx sz dp ti be de hm qu sh re tt g := H
  obtain ⟨d, E, Lg, c, dy, db, rd, ⟨a1, a2⟩, ⟨a3, a4, a5⟩, ⟨H1, H2, H3⟩, ⟨HL, HLm⟩, H4, H5, H6, H7⟩ := H
  have hv3 := hV.1.2.2.2.2.1
  have hv4 := hV.1.2.2.2.2.2
  obtain ⟨y1, y2⟩ := H6.2 h hh4
  have e1 : (66 : Int32) + nI h = nI (66 + h) := nI_add 66 h
  have gm := grd (i := 66 + h) (n := 72470) (by omega) (by decide)
  have gm2 := grd2 (i := 66 + h) (n := 72470) (by omega) (by decide)
  have h4 : (4 : Nat) < 2 ^ 31 := by decide
  subst a3
  refine ⟨(nI d, ws, z, gl, gd, gc, gp, cnt, pr, nx, sz, dp, ti, be, de, hm, qu, upd sh h (nI p), re, tt, ls, ba, st, si), upd g (66 + h) (nI p), sh h, ?_, ?_, ?_⟩
  · unfold F_B_replaceShare f_X0_replaceShare
    dsimp only
    rw [X6_at_in sh h4 (by omega), Option.bind_some, X6_put_in sh _ h4 (by omega)]; rfl
  · unfold f_X11_setShare
    rw [M_isHouse (nI h) (n := v 4) (by omega) (hM 4 (by omega)), Option.bind_some, if_neg (outN_in (by omega) hh4), if_neg (by decide), show (0 : Int64) = (0 : Int32).toInt64 from rfl, show (100 : Int64) = (100 : Int32).toInt64 from rfl, M_isIn, Option.bind_some, if_neg (show ¬ (nI p < (0 : Int32) ∨ (100 : Int32) < nI p) from notout (a := 0) (b := 100) (by omega) (by decide) (Nat.zero_le _) hp), if_neg (by decide), hr, Option.bind_some, e1, if_neg gm, nI_clamp (by omega), Option.bind_some, if_neg gm2, Option.bind_some, y1]
  · unfold BR
    dsimp only
    refine ⟨d, E, Lg, c, dy, db, rd, ⟨by omega, by omega⟩, ⟨rfl, by rw [upd_ne _ _ (by omega), a4], a5⟩, ⟨H1, MC_same H2 (fun i p q => by rw [upd_ne _ _ (by omega)]), H3⟩, ⟨HL, LogM_same HLm (by rw [upd_ne _ _ (by omega)]) (fun i p q => by rw [upd_ne _ _ (by omega)])⟩, B4_same H4 (by rw [upd_ne _ _ (by omega)]) (fun i p q => by rw [upd_ne _ _ (by omega)]), B5_same hV H5 (fun i p q => by rw [upd_ne _ _ (by omega)]), ⟨fun m' hm' => ?_, fun q hq => ?_⟩, B7_same H7 (by omega) (fun i p q => by rw [upd_ne _ _ (by omega)])⟩
    · rw [upd_ne _ _ (show ¬ 42 + m' = 66 + h by omega), upd_ne _ _ (show ¬ 54 + m' = 66 + h by omega), upd_ne _ _ (show ¬ 30 + m' = 66 + h by omega)]
      exact H6.1 m' hm'
    · by_cases e : q = h
      · rw [e, upd_at, upd_at]
        exact ⟨rfl, p, hp, rfl⟩
      · rw [upd_ne _ _ e, upd_ne _ _ (show ¬ 66 + q = 66 + h by omega)]
        exact H6.2 q hq

