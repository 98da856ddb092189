theorem Q_copy {v : Nat → Nat} {k : Nat} {a : BA} {s0 s1 : T_BK} {g : Nat → Int32} (hV : SV v) (H : BQ v k a s1 g) (N : Nat) : ∃ x, F_B_copyFrom N s0 s1 = some x ∧ BQ v k a x g ∧ x.1 = s1.1 := by
  obtain ⟨day, ws, z, gl, gd, gc, gp, cnt, pr, nx, sz, dp, ti, be, de, hm, qu, sh, re, tt, ls, ba, st, si⟩ := s1
  obtain ⟨day', ws', z', gl', gd', gc', gp', cnt', pr', nx', sz', dp', ti', be', de', hm', qu', sh', re', tt', ls', ba', st', si'⟩ := s0
  have H : BQ v k a (day, ws, z, gl, gd, gc, gp, cnt, pr, nx, sz, dp, ti, be, de, hm, qu, sh, re, tt, ls, ba, st, si) g := H
  obtain ⟨a1, a2, ⟨H1, H2, H3⟩, ⟨HL, HLm⟩, H4, H5, H6, H7, hL, ⟨T1, T2, T3, T4⟩⟩ := H
  dsimp only at a1 a2 H1 H2 H3 HL HLm H4 H5 H6 H7 hL T1 T2 T3 T4
  have hv3 := hV.1.2.2.2.2.1
  have hv4 := hV.1.2.2.2.2.2
  have h4 : (4 : Nat) < 2 ^ 31 := by decide
  have h120 : (120 : Nat) < 2 ^ 31 := by decide
  obtain ⟨o, o1, o2⟩ := E_copy (gl := gl') (gd := gd') (gc := gc') (gp := gp') H1
  obtain ⟨n0, l1, l2, l3, l4, l5⟩ := HL
  refine ⟨(day, ws, o.1, o.2.1, o.2.2.1, o.2.2.2.1, o.2.2.2.2, cnt, (fun j => if j < a.c * 7 then pr j else pr' j), nx, sz, (fun j => if j < 120 then dp j else dp' j), (fun j => if j < 12 then ti j else ti' j), (fun j => if j < 12 then be j else be' j), (fun j => if j < 12 then de j else de' j), (fun j => if j < 12 then hm j else hm' j), (fun j => if j < 12 then qu j else qu' j), (fun j => if j < 4 then sh j else sh' j), (fun j => if j < 10 then re j else re' j), (fun j => if j < 5 then tt j else tt' j), ls', ba', st', si'), ?_, ?_, rfl⟩
  · unfold F_B_copyFrom f_X0_copyFrom f_X5_copyFrom f_X4_copyFrom
    dsimp only
    rw [o1, Option.bind_some, H4.1, show (7 : Int32) = nI 7 from rfl, nI_mul, X6_copyFirst_in pr' pr h3584 (by have := H4.2.1; omega), Option.bind_some, Option.bind_some, X6_copyAll_in dp' dp h120, Option.bind_some, Option.bind_some, X6_copyAll_in ti' ti h12, Option.bind_some, X6_copyAll_in be' be h12, Option.bind_some, X6_copyAll_in de' de h12, Option.bind_some, X6_copyAll_in hm' hm h12, Option.bind_some, X6_copyAll_in qu' qu h12, Option.bind_some, X6_copyAll_in sh' sh h4, Option.bind_some, X6_copyAll_in re' re h10, Option.bind_some, X6_copyAll_in tt' tt h5', Option.bind_some, Option.bind_some]
  · unfold BQ
    dsimp only
    refine ⟨a1, a2, ⟨o2, H2, H3⟩, ⟨⟨n0, l1, l2, l3, l4, fun i e hi => ?_⟩, HLm⟩, B4_pr H4 (fun j hj => if_pos (by omega)), B5_pr H5 hv3 (fun j hj => if_pos (by omega)) (fun m hm => if_pos hm), ⟨fun m hm => ?_, fun q hq => ?_⟩, ⟨fun m hm => ?_, fun i hi => ?_, fun i hi => ?_, ?_⟩, ?_, ⟨fun m hm => ?_, fun h hh => ?_, fun i hi => ?_, fun j hj => ?_⟩⟩
    · have := l5 i e hi
      dsimp only
      rw [if_pos (by omega), if_pos (by omega), if_pos (by omega), if_pos (by omega)]
      exact this
    · dsimp only
      rw [if_pos hm, if_pos hm, if_pos hm]; exact H6.1 m hm
    · dsimp only
      rw [if_pos (show q < 4 by omega)]; exact H6.2 q hq
    · dsimp only
      rw [if_pos hm]; exact H7.1 m hm
    · dsimp only
      rw [if_pos hi]; exact H7.2.1 i hi
    · dsimp only
      rw [if_pos hi]; exact H7.2.2.1 i hi
    · dsimp only
      rw [if_pos (by decide)]; exact H7.2.2.2
    · intro h hh
      show livN (fun j => if j < 12 then hm j else hm' j) (nI h) (v 3) ≤ 4
      rw [livN_congr (hm := hm) (fun m hm => if_pos (by omega))]
      exact hL h hh
    · dsimp only
      rw [if_pos hm, if_pos hm, if_pos hm, if_pos hm]; exact T1 m hm
    · dsimp only
      rw [if_pos hh]; exact T2 h hh
    · dsimp only
      rw [if_pos hi]; exact T3 i hi
    · dsimp only
      rw [if_pos (by omega)]; exact T4 j hj
theorem BQ_mono {v : Nat → Nat} {k k' : Nat} {a : BA} {b : T_BK} {g : Nat → Int32} (H : BQ v k a b g) (h : k ≤ k') : BQ v k' a b g := by
  obtain ⟨⟨a1, a2⟩, H1, H2, H3, H4, H5, H6, H7, H8⟩ := H
  exact ⟨⟨by omega, by omega⟩, H1, H2, H3, H4, H5, H6, B7_same H7 h (fun i _ _ => rfl), H8⟩
/-- the ring: its copies, the newest first -/
def HX (v : Nat → Nat) (k : Nat) (h : T_HI) (l : List BA) : Prop := ∃ n0, n0 < 8 ∧ l.length ≤ 8 ∧ h.1 = nI n0 ∧ h.2.1 = nI l.length ∧ ∀ (j : Nat) (x : BA), l[j]? = some x → ∃ g, BQ v k x (h.2.2 ((n0 + 8 - j) % 8)) g
theorem HX_mono {v : Nat → Nat} {k k' : Nat} {h : T_HI} {l : List BA} (H : HX v k h l) (hk : k ≤ k') : HX v k' h l := by
  obtain ⟨n0, a1, a2, a3, a4, a5⟩ := H
  exact ⟨n0, a1, a2, a3, a4, fun j x hx => (a5 j x hx).imp fun g hg => BQ_mono hg hk⟩
theorem X_keep {v : Nat → Nat} {k : Nat} {h : T_HI} {l : List BA} {a : BA} {b : T_BK} {g : Nat → Int32} (hV : SV v) (H : HX v k h l) (HB : BQ v k a b g) {N : Nat} : ∃ h', F_keep N h b = some h' ∧ HX v k h' ((a :: l).take 8) := by
  obtain ⟨n0, a1, a2, a3, a4, a5⟩ := H
  obtain ⟨n1, hn1, hn2⟩ : ∃ n1, n1 < 8 ∧ n1 = (n0 + 1) % 8 := ⟨(n0 + 1) % 8, by omega, rfl⟩
  obtain ⟨x, c1, c2, c3⟩ := Q_copy (s0 := h.2.2 n1) hV HB N
  have hlen : ((a :: l).take 8).length = min 8 (l.length + 1) := by rw [List.length_take, List.length_cons]
  have hcnt : (if nI 8 < h.2.1 + 1 then nI 8 else h.2.1 + 1) = nI ((a :: l).take 8).length := by
    rw [a4, nI_1, hlen]
    by_cases e : 8 < l.length + 1
    · rw [if_pos ((nI_ltI (by omega) (by omega)).mpr e)]; congr 1; omega
    · rw [if_neg (fun hh => e ((nI_ltI (by omega) (by omega)).mp hh))]; congr 1; omega
  refine ⟨(nI n1, nI ((a :: l).take 8).length, updS h.2.2 n1 x), ?_, n1, hn1, by omega, rfl, rfl, fun j y hy => ?_⟩
  · have hT : F_keepT N h b (nI n1) = some (nI n1, nI ((a :: l).take 8).length, updS h.2.2 n1 x) := by
      unfold F_keepT
      rw [if_neg (fun hh => by
        rw [nI_clamp (by omega), nI_leI (by omega) (by omega)] at hh
        rcases hh with q | q | q
        · exact nI_pos (by omega) q
        · omega
        · omega), nI_clamp (by omega), c1, Option.bind_some, hcnt]
    unfold F_keep
    rw [a3, nI_1]
    by_cases e : 8 ≤ n0 + 1
    · rw [if_pos ((nI_leI (by omega) (by omega)).mpr e), show (0 : Int32) = nI n1 by rw [show n1 = 0 by omega]; rfl, hT]
    · rw [if_neg (fun hh => e ((nI_leI (by omega) (by omega)).mp hh)), show n0 + 1 = n1 by omega, hT]
  · show ∃ g, BQ v k y (updS h.2.2 n1 x ((n1 + 8 - j) % 8)) g
    rw [List.getElem?_take] at hy
    by_cases hj : j < 8
    case neg => rw [if_neg hj] at hy; cases hy
    rw [if_pos hj] at hy
    by_cases e : j = 0
    · subst e
      have h1 : updS h.2.2 n1 x ((n1 + 8 - 0) % 8) = x := by
        unfold updS
        rw [if_pos (by omega)]
      rw [h1]
      rw [List.getElem?_cons_zero] at hy
      have hy := Option.some.inj hy
      subst hy
      exact ⟨g, c2⟩
    · have h1 : updS h.2.2 n1 x ((n1 + 8 - j) % 8) = h.2.2 ((n0 + 8 - (j - 1)) % 8) := by
        unfold updS
        rw [if_neg (by omega), show (n1 + 8 - j) % 8 = (n0 + 8 - (j - 1)) % 8 by omega]
      rw [h1]
      obtain ⟨i, rfl⟩ : ∃ i, j = i + 1 := ⟨j - 1, by omega⟩
      rw [List.getElem?_cons_succ] at hy
      exact a5 i y hy
theorem X_back {v : Nat → Nat} {k : Nat} {h : T_HI} {l : List BA} {a : BA} {b : T_BK} (hV : SV v) (H : HX v k h (a :: l)) {N : Nat} : ∃ h' x, F_giveBack N h b = some (h', x) ∧ HX v k h' l ∧ ∃ g, BQ v k a x g := by
  obtain ⟨n0, a1, a2, a3, a4, a5⟩ := H
  rw [List.length_cons] at a2 a4
  obtain ⟨g, hg⟩ := a5 0 a rfl
  rw [show (n0 + 8 - 0) % 8 = n0 by omega] at hg
  obtain ⟨x, x1, x2, x3⟩ := Q_copy (s0 := b) hV hg N
  have h7 : nI (l.length + 1) - 1 = nI l.length := nI_subI (a := l.length + 1) (b := 1) (by omega)
  have hnx : ∀ n1, n1 < 8 → n1 = (n0 + 7) % 8 → HX v k (nI n1, nI l.length, h.2.2) l := fun n1 h1 h2 => ⟨n1, h1, by omega, rfl, rfl, fun j y hy => by
    have h8 := a5 (j + 1) y hy
    have hj := (List.getElem?_eq_some_iff.mp hy).1
    rw [show (n0 + 8 - (j + 1)) % 8 = (n1 + 8 - j) % 8 by omega] at h8
    exact h8⟩
  unfold F_giveBack
  rw [a3, if_neg (fun hh => by
    rw [nI_clamp (by omega), nI_leI (by omega) (by omega)] at hh
    rcases hh with q | q | q
    · exact nI_pos (by omega) q
    · omega
    · omega), a4, if_neg (fun hh => by have := (nI_le0 (by omega)).mp hh; omega), nI_clamp (by omega), x1, Option.bind_some]
  by_cases e : n0 = 0
  · rw [if_pos (by rw [e]; exact Int32.le_refl 0), h7]
    exact ⟨_, _, rfl, hnx 7 (by decide) (by omega), g, x2⟩
  · rw [if_neg (fun hh => e ((nI_le0 (by omega)).mp hh)), h7, show nI n0 - (1 : Int32) = nI (n0 - 1) from nI_subI (a := n0) (b := 1) (by omega)]
    exact ⟨_, _, rfl, hnx (n0 - 1) (by omega) (by omega), g, x2⟩
theorem X_none {v : Nat → Nat} {k : Nat} {h : T_HI} {l : List BA} (H : HX v k h l) : HX v k (h.1, 0, h.2.2) [] := by
  obtain ⟨n0, a1, a2, a3, a4, a5⟩ := H
  exact ⟨n0, a1, Nat.zero_le _, a3, rfl, fun j x hx => by cases hx⟩
/-- one set of books, one set of entries -/
theorem co_inj {x y : En} (hx : VK x.1 ∧ 1 ≤ x.2) (hy : VK y.1 ∧ 1 ≤ y.2) (h1 : x.2 < 2 ^ 31) (h2 : y.2 < 2 ^ 31) (h : co x = co y) : x = y := by
  have e1 : nI (kL x.1) = nI (kL y.1) := congrArg (fun z : Co => z.1) h
  have e2 : nI (kD x.1) = nI (kD y.1) := congrArg (fun z : Co => z.2.1) h
  have e3 : cI (kC x.1) = cI (kC y.1) := congrArg (fun z : Co => z.2.2.1) h
  have e4 : nI x.2 = nI y.2 := congrArg (fun z : Co => z.2.2.2) h
  have l1 := hx.1.1
  have l2 := hy.1.1
  have d1 := kD_lt x.1
  have d2 := kD_lt y.1
  have f1 := (nI_eq (by omega) (by omega)).mp e1
  have f2 := (nI_eq (by omega) (by omega)).mp e2
  have f3 := (cI_eq (kC_lt y.1) (kC_lt x.1)).mp e3
  have f4 := (nI_eq h1 h2).mp e4
  refine Prod.ext ?_ f4
  rw [← mk_k x.1, ← mk_k y.1, f1, f2, f3]
theorem CoE_uniq {E E' : List En} {z : Int32} {gl gd gc gp : Nat → Int32} (H : CoE E z gl gd gc gp) (H' : CoE E' z gl gd gc gp) : E = E' := by
  obtain ⟨⟨l1, l2, l3⟩, s1, v1, p1⟩ := H
  obtain ⟨⟨m1, m2, m3⟩, s2, v2, p2⟩ := H'
  rw [List.length_map] at l1 l2 m1 m2
  have hl : E.length = E'.length := (nI_eq (by omega) (by omega)).mp (l2.symm.trans m2)
  refine List.ext_getElem hl (fun i h1 h2 => ?_)
  have a1 := l3 i (co E[i]) (by rw [List.getElem?_map, List.getElem?_eq_getElem h1]; rfl)
  have a2 := m3 i (co E'[i]) (by rw [List.getElem?_map, List.getElem?_eq_getElem h2]; rfl)
  have m1 := List.getElem_mem h1
  have m2 := List.getElem_mem h2
  refine co_inj (v1 _ m1) (v2 _ m2) (Nat.lt_of_le_of_lt (mem_le_sum m1) p1) (Nat.lt_of_le_of_lt (mem_le_sum m2) p2) ?_
  exact Prod.ext (a1.1.symm.trans a2.1) (Prod.ext (a1.2.1.symm.trans a2.2.1) (Prod.ext (a1.2.2.1.symm.trans a2.2.2.1) (a1.2.2.2.symm.trans a2.2.2.2)))
