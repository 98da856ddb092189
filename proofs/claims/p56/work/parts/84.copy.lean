/-- only the reference's own numbers count -/
theorem BRc_congr {v : Nat → Nat} {k : Nat} {day ws z cnt nx sz : Int32} {gl gd gc gp pr dp ti be de hm qu sh re tt g g' : Nat → Int32} (hV : SV v) (H : BRc v k day ws z gl gd gc gp cnt pr nx sz dp ti be de hm qu sh re tt g) (h : ∀ i, i < 72470 → g' i = g i) : BRc v k day ws z gl gd gc gp cnt pr nx sz dp ti be de hm qu sh re tt g' := by
  obtain ⟨d, E, Lg, c, dy, db, rd, a1, ⟨a2, a3, a4⟩, a5, ⟨a6, a7⟩, a8, a9, a10, a11⟩ := H
  exact ⟨d, E, Lg, c, dy, db, rd, a1, ⟨a2, by rw [h 0 (by omega), a3], a4⟩, B2_same a5 (fun i _ b => h i b), ⟨a6, LogM_same a7 (h 2 (by omega)) (fun i _ _ => h i (by omega))⟩, B4_same a8 (h 1 (by omega)) (fun i _ _ => h i (by omega)), B5_same hV a9 (fun i _ _ => h i (by omega)), B6_same hV a10 (fun i _ _ => h i (by omega)), B7_same a11 (Nat.le_refl k) (fun i _ _ => h i (by omega))⟩
/-- the relation, with what the class alone keeps -/
def BRL (v : Nat → Nat) (k : Nat) (b : T_BK) (g : Nat → Int32) : Prop := BR v k b g ∧ Liv v b.2.2.2.2.2.2.2.2.2.2.2.2.2.2.2.1
theorem BRL_congr {v : Nat → Nat} {k : Nat} {b : T_BK} {g g' : Nat → Int32} (hV : SV v) (H : BRL v k b g) (h : ∀ i, i < 72470 → g' i = g i) : BRL v k b g' := ⟨BRc_congr hV H.1 h, H.2⟩
theorem BRL_mono {v : Nat → Nat} {k k' : Nat} {b : T_BK} {g : Nat → Int32} (H : BRL v k b g) (hk : k ≤ k') : BRL v k' b g := ⟨BR_mono H.1 hk, H.2⟩
theorem bW_congr {pr pr' : Nat → Int32} {c m i : Nat} (h : ∀ j, j < 7 * c → pr' j = pr j) (hi : i < c) : bW pr' m i = bW pr m i := by
  unfold bW
  rw [h (7 * i) (by omega), h (7 * i + 6) (by omega), h (7 * i + 3) (by omega)]
theorem B4_pr {v : Nat → Nat} {d c : Nat} {dy : Nat → Nat} {cnt : Int32} {pr pr' g : Nat → Int32} (H : B4 v d c dy cnt pr g) (h : ∀ j, j < 7 * c → pr' j = pr j) : B4 v d c dy cnt pr' g := by
  refine ⟨H.1, H.2.1, H.2.2.1, fun i w a b c => ?_, fun i hi => ?_, H.2.2.2.2.2⟩
  · rw [h _ (by omega)]; exact H.2.2.2.1 i w a b c
  · rw [h (7 * i) (by omega), h (7 * i + 5) (by omega), h (7 * i + 4) (by omega), h (7 * i + 6) (by omega)]
    exact H.2.2.2.2.1 i hi
theorem B5_pr {v : Nat → Nat} {d c : Nat} {dy : Nat → Nat} {ws : Int32} {pr pr' qu qu' g : Nat → Int32} (H : B5 v d c dy ws pr qu g) (hv : v 3 ≤ 12) (h : ∀ j, j < 7 * c → pr' j = pr j) (hq : ∀ m, m < 12 → qu' m = qu m) : B5 v d c dy ws pr' qu' g := by
  refine ⟨H.1, fun m hm => ?_, fun m e a b c' => ?_⟩
  · rw [hq m (by omega), H.2.1 m hm]
    unfold qT
    exact sumF_congr (fun i hi => by rw [bW_congr h hi])
  · rw [H.2.2 m e a b c']
    unfold bD
    exact sumF_congr (fun i hi => by rw [bW_congr h hi])
theorem livN_congr {hm hm' : Nat → Int32} {x : Int32} : ∀ {n : Nat}, (∀ m, m < n → hm' m = hm m) → livN hm' x n = livN hm x n
  | 0, _ => rfl
  | n + 1, h => by rw [livN, livN, livN_congr (fun m hm => h m (by omega)), h n (by omega)]
/-- the books copied -/
theorem B_copy {v : Nat → Nat} {k : Nat} {s0 s1 : T_BK} {g : Nat → Int32} (hV : SV v) (H : BRL v k s1 g) (N : Nat) : ∃ x, F_B_copyFrom N s0 s1 = some x ∧ BRL v k x g ∧ x.1 = s1.1 := by
  obtain ⟨day, ws, z, gl, gd, gc, gp, cnt, pr, nx, sz, dp, ti, be, de, hm, qu, sh, re, tt, ls, ba, st, si⟩ := s1
  obtain ⟨day', ws', z', gl', gd', gc', gp', cnt', pr', nx', sz', dp', ti', be', de', hm', qu', sh', re', tt', ls', ba', st', si'⟩ := s0
  have hL : Liv v hm := H.2
  have H : BRc v k day ws z gl gd gc gp cnt pr nx sz dp ti be de hm qu sh re tt g := H.1
  obtain ⟨d, E, Lg, c, dy, db, rd, a1, a2, ⟨H1, H2, H3⟩, ⟨HL, HLm⟩, H4, H5, H6, H7⟩ := H
  have hv3 := hV.1.2.2.2.2.1
  have hv4 := hV.1.2.2.2.2.2
  have h4 : (4 : Nat) < 2 ^ 31 := by decide
  have h120 : (120 : Nat) < 2 ^ 31 := by decide
  obtain ⟨o, o1, o2⟩ := E_copy (gl := gl') (gd := gd') (gc := gc') (gp := gp') H1
  obtain ⟨n0, l1, l2, l3, l4, l5⟩ := HL
  refine ⟨(day, ws, o.1, o.2.1, o.2.2.1, o.2.2.2.1, o.2.2.2.2, cnt, (fun j => if j < c * 7 then pr j else pr' j), nx, sz, (fun j => if j < 120 then dp j else dp' j), (fun j => if j < 12 then ti j else ti' j), (fun j => if j < 12 then be j else be' j), (fun j => if j < 12 then de j else de' j), (fun j => if j < 12 then hm j else hm' j), (fun j => if j < 12 then qu j else qu' j), (fun j => if j < 4 then sh j else sh' j), (fun j => if j < 10 then re j else re' j), (fun j => if j < 5 then tt j else tt' j), ls', ba', st', si'), ?_, ⟨?_, ?_⟩, rfl⟩
  · unfold F_B_copyFrom f_X0_copyFrom f_X5_copyFrom f_X4_copyFrom
    dsimp only
    rw [o1, Option.bind_some, H4.1, show (7 : Int32) = nI 7 from rfl, nI_mul, X6_copyFirst_in pr' pr h3584 (by have := H4.2.1; omega), Option.bind_some, Option.bind_some, X6_copyAll_in dp' dp h120, Option.bind_some, Option.bind_some, X6_copyAll_in ti' ti h12, Option.bind_some, X6_copyAll_in be' be h12, Option.bind_some, X6_copyAll_in de' de h12, Option.bind_some, X6_copyAll_in hm' hm h12, Option.bind_some, X6_copyAll_in qu' qu h12, Option.bind_some, X6_copyAll_in sh' sh h4, Option.bind_some, X6_copyAll_in re' re h10, Option.bind_some, X6_copyAll_in tt' tt h5', Option.bind_some, Option.bind_some]
  · unfold BR
    dsimp only
    refine ⟨d, E, Lg, c, dy, db, rd, a1, a2, ⟨o2, H2, H3⟩, ⟨⟨n0, l1, l2, l3, l4, fun i e hi => ?_⟩, HLm⟩, B4_pr H4 (fun j hj => if_pos (by omega)), B5_pr H5 hv3 (fun j hj => if_pos (by omega)) (fun m hm => if_pos hm), ⟨fun m hm => ?_, fun q hq => ?_⟩, fun m hm => ?_, fun i hi => ?_, fun i hi => ?_, ?_⟩
    · have := l5 i e hi
      dsimp only
      rw [if_pos (by omega), if_pos (by omega), if_pos (by omega), if_pos (by omega)]
      exact this
    · dsimp only
      rw [if_pos hm, if_pos hm, if_pos hm]; exact H6.1 m hm
    · dsimp only
      rw [if_pos (show q < 4 by omega)]; exact H6.2 q hq
    · dsimp only
      rw [if_pos hm]; exact H7.1 m hm
    · dsimp only
      rw [if_pos hi]; exact H7.2.1 i hi
    · dsimp only
      rw [if_pos hi]; exact H7.2.2.1 i hi
    · dsimp only
      rw [if_pos (by decide)]; exact H7.2.2.2
  · intro h hh
    show livN (fun j => if j < 12 then hm j else hm' j) (nI h) (v 3) ≤ 4
    rw [livN_congr (hm := hm) (fun m hm => if_pos (by omega))]
    exact hL h hh
/-- the history: the class's ring, the reference's slices -/
def HIS (v : Nat → Nat) (k : Nat) (h : T_HI) (ch : Int32) (pa : Nat → Int32) : Prop := ∃ n0 c, n0 < 8 ∧ c ≤ 8 ∧ h.1 = nI n0 ∧ h.2.1 = nI c ∧ ch = nI c ∧ ∀ j, j < c → BRL v k (h.2.2 ((n0 + 8 - j) % 8)) (fun i => pa (72470 * (c - 1 - j) + i))
theorem HIS_mono {v : Nat → Nat} {k k' : Nat} {h : T_HI} {ch : Int32} {pa : Nat → Int32} (H : HIS v k h ch pa) (hk : k ≤ k') : HIS v k' h ch pa := by
  obtain ⟨n0, c, a1, a2, a3, a4, a5, a6⟩ := H
  exact ⟨n0, c, a1, a2, a3, a4, a5, fun j hj => BRL_mono (a6 j hj) hk⟩
theorem M_rem_copy {c : Nat} {g : Nat → Int32} (hc : c < 8) : ∀ (n i : Nat) (pa : Nat → Int32), i ≤ 72470 → 72470 < n + i → ∃ pa', f_X11_remembers_b50 72470 579760 (nI c) g n (nI i) pa = some (nI (c + 1), pa') ∧ ∀ j, pa' j = if 72470 * c + i ≤ j ∧ j < 72470 * c + 72470 then g (j - 72470 * c) else pa j := by
  intro n
  induction n with
  | zero => intro i pa h1 h2; omega
  | succ n ih =>
    intro i pa h1 h2
    rw [f_X11_remembers_b50]
    by_cases h : i = 72470
    · rw [if_pos (by rw [h]; exact Int32.le_refl _), nI_1]
      exact ⟨pa, rfl, fun j => by rw [if_neg (by omega)]⟩
    · have g1 := grd (i := i) (n := 72470) (by omega) (by decide)
      have g2 := grd (i := 72470 * c + i) (n := 579760) (by omega) (by decide)
      rw [if_neg (fun hh => by rw [show (72470 : Int32) = nI 72470 from rfl, nI_leI (by decide) (by omega)] at hh; omega), if_neg g1, show (72470 : Int32) = nI 72470 from rfl, nI_mul, nI_add, if_neg g2, nI_clamp (by omega), nI_clamp (by omega), Option.bind_some, nI_1, Option.bind_some]
      obtain ⟨pa', a, b⟩ := ih (i + 1) (upd pa (72470 * c + i) (g i)) (by omega) (by omega)
      refine ⟨pa', a, fun j => ?_⟩
      rw [b j]
      by_cases h3 : j = 72470 * c + i
      · rw [if_neg (by omega), h3, upd_at, if_pos (by omega)]
        congr 1; omega
      · rw [upd_ne _ _ h3]
        by_cases h4 : 72470 * c + (i + 1) ≤ j ∧ j < 72470 * c + 72470
        · rw [if_pos h4, if_pos (by omega)]
        · rw [if_neg h4, if_neg (by omega)]
theorem M_rem_shift {N : Nat} {g pa0 : Nat → Int32} : ∀ (n i : Nat) (pa : Nat → Int32), i ≤ 507290 → 507290 < n + i → (∀ j, pa j = if j < i then pa0 (j + 72470) else pa0 j) → ∃ pa', f_X11_remembers_b11 N 72470 579760 (nI 8) g n (nI i) pa = f_X11_remembers_b50 72470 579760 (nI 7) g N 0 pa' ∧ ∀ j, pa' j = if j < 507290 then pa0 (j + 72470) else pa0 j := by
  intro n
  induction n with
  | zero => intro i pa h1 h2; omega
  | succ n ih =>
    intro i pa h1 h2 h3
    rw [f_X11_remembers_b11]
    by_cases h : i = 507290
    · rw [if_pos (by rw [h]; exact Int32.le_refl _), show nI 8 - (1 : Int32) = nI 7 from rfl]
      rw [h] at h3
      exact ⟨pa, rfl, h3⟩
    · have g1 := grd (i := i) (n := 579760) (by omega) (by decide)
      have g2 := grd (i := i + 72470) (n := 579760) (by omega) (by decide)
      rw [if_neg (fun hh => by rw [show (507290 : Int32) = nI 507290 from rfl, nI_leI (by decide) (by omega)] at hh; omega), show (72470 : Int32) = nI 72470 from rfl, nI_add, if_neg g2, if_neg g1, nI_clamp (by omega), nI_clamp (by omega), Option.bind_some, nI_1, Option.bind_some]
      refine ih (i + 1) _ (by omega) (by omega) (fun j => ?_)
      by_cases h4 : j = i
      · rw [h4, upd_at, h3, if_neg (by omega), if_pos (by omega)]
      · rw [upd_ne _ _ h4, h3]
        by_cases h5 : j < i
        · rw [if_pos h5, if_pos (by omega)]
        · rw [if_neg h5, if_neg (by omega)]
/-- the reference remembers -/
theorem M_remembers {c : Nat} {g pa : Nat → Int32} (hc : c ≤ 8) {N : Nat} (hN : 600000 < N) : ∃ c' pa', ((c = 8 ∧ c' = 8) ∨ (c < 8 ∧ c' = c + 1)) ∧ f_X11_remembers N 72470 579760 (nI c) g pa = some (nI c', pa') ∧ (∀ i, i < 72470 → pa' (72470 * (c' - 1) + i) = g i) ∧ ∀ j i, i < 72470 → j + 1 < c' → pa' (72470 * j + i) = pa (72470 * (if c = 8 then j + 1 else j) + i) := by
  unfold f_X11_remembers
  by_cases h : c = 8
  · subst h
    obtain ⟨p1, a1, a2⟩ := M_rem_shift (N := N) (g := g) (pa0 := pa) N 0 pa (by omega) (by omega) (fun j => by rw [if_neg (by omega)])
    obtain ⟨p2, b1, b2⟩ := M_rem_copy (c := 7) (g := g) (by omega) N 0 p1 (by omega) (by omega)
    refine ⟨8, p2, Or.inl ⟨rfl, rfl⟩, ?_, fun i hi => ?_, fun j i hi hj => ?_⟩
    · have a1' : f_X11_remembers_b11 N 72470 579760 (nI 8) g N 0 pa = f_X11_remembers_b50 72470 579760 (nI 7) g N 0 p1 := a1
      have b1' : f_X11_remembers_b50 72470 579760 (nI 7) g N 0 p1 = some (nI (7 + 1), p2) := b1
      rw [if_pos (show nI 8 = (8 : Int32) from rfl), a1', b1']
    · have h7 : (8 : Nat) - 1 = 7 := rfl
      rw [h7, b2, if_pos (by omega), Nat.add_sub_cancel_left]
    · rw [b2, if_neg (by omega), a2, if_pos (by omega), if_pos rfl]
      congr 1; omega
  · obtain ⟨p2, b1, b2⟩ := M_rem_copy (c := c) (g := g) (by omega) N 0 pa (by omega) (by omega)
    refine ⟨c + 1, p2, Or.inr ⟨by omega, rfl⟩, ?_, fun i hi => ?_, fun j i hi hj => ?_⟩
    · have b1' : f_X11_remembers_b50 72470 579760 (nI c) g N 0 pa = some (nI (c + 1), p2) := b1
      rw [if_neg (show ¬ nI c = (8 : Int32) from fun hh => h ((nI_eq (by omega) (by decide)).mp (show nI c = nI 8 from hh))), b1']
    · rw [Nat.add_sub_cancel, b2, if_pos (by omega), Nat.add_sub_cancel_left]
    · rw [b2, if_neg (by omega), if_neg h]
/-- a change is remembered, on both sides -/
theorem S_keep {v : Nat → Nat} {k : Nat} {h : T_HI} {b : T_BK} {ch : Int32} {g pa : Nat → Int32} (hV : SV v) (H : HIS v k h ch pa) (HB : BRL v k b g) {N : Nat} (hN : 600000 < N) : ∃ h' ch' pa', F_keep N h b = some h' ∧ f_X11_remembers N 72470 579760 ch g pa = some (ch', pa') ∧ HIS v k h' ch' pa' := by
  obtain ⟨n0, c, a1, a2, a3, a4, a5, a6⟩ := H
  obtain ⟨c', pa', r0, r1, r2, r3⟩ := M_remembers (g := g) (pa := pa) a2 hN
  obtain ⟨n1, hn1, hn2⟩ : ∃ n1, n1 < 8 ∧ n1 = (n0 + 1) % 8 := ⟨(n0 + 1) % 8, by omega, rfl⟩
  obtain ⟨x, c1, c2, c3⟩ := B_copy (s0 := h.2.2 n1) hV HB N
  have hcnt : (if nI 8 < h.2.1 + 1 then nI 8 else h.2.1 + 1) = nI c' := by
    rw [a4, nI_1]
    by_cases e : 8 < c + 1
    · rw [if_pos ((nI_ltI (by omega) (by omega)).mpr e)]; congr 1; omega
    · rw [if_neg (fun hh => e ((nI_ltI (by omega) (by omega)).mp hh))]; congr 1; omega
  have hc' : 1 ≤ c' ∧ c' ≤ 8 := by omega
  refine ⟨(nI n1, nI c', updS h.2.2 n1 x), nI c', pa', ?_, by rw [a5]; exact r1, n1, c', hn1, hc'.2, rfl, rfl, rfl, fun j hj => ?_⟩
  · have hT : F_keepT N h b (nI n1) = some (nI n1, nI c', updS h.2.2 n1 x) := by
      unfold F_keepT
      rw [if_neg (fun hh => by
        rw [nI_clamp (by omega), nI_leI (by omega) (by omega)] at hh
        rcases hh with a | a | a
        · exact nI_pos (by omega) a
        · omega
        · omega), nI_clamp (by omega), c1, Option.bind_some, hcnt]
    unfold F_keep
    rw [a3, nI_1]
    by_cases e : 8 ≤ n0 + 1
    · rw [if_pos ((nI_leI (by omega) (by omega)).mpr e), show (0 : Int32) = nI n1 by rw [show n1 = 0 by omega]; rfl, hT]
    · rw [if_neg (fun hh => e ((nI_leI (by omega) (by omega)).mp hh)), show n0 + 1 = n1 by omega, hT]
  · show BRL v k (updS h.2.2 n1 x ((n1 + 8 - j) % 8)) (fun i => pa' (72470 * (c' - 1 - j) + i))
    by_cases e : j = 0
    · subst e
      have h1 : updS h.2.2 n1 x ((n1 + 8 - 0) % 8) = x := by
        unfold updS
        rw [if_pos (by omega)]
      rw [h1]
      exact BRL_congr hV c2 (fun i hi => r2 i hi)
    · have h1 : updS h.2.2 n1 x ((n1 + 8 - j) % 8) = h.2.2 ((n0 + 8 - (j - 1)) % 8) := by
        unfold updS
        rw [if_neg (by omega), show (n1 + 8 - j) % 8 = (n0 + 8 - (j - 1)) % 8 by omega]
      rw [h1]
      have hjc : j - 1 < c := by omega
      refine BRL_congr hV (a6 (j - 1) hjc) (fun i hi => ?_)
      rw [r3 (c' - 1 - j) i hi (by omega)]
      congr 2
      by_cases e8 : c = 8
      · rw [if_pos e8]; omega
      · rw [if_neg e8]; omega

