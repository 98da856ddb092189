/-- the class buys -/
theorem C_purchase {v : Nat → Nat} {s : T_SE} {m ct x d c t ho shr D : Nat} {E : List En} {Lg : List Co} {z nx sz : Int32} {gl gd gc gp pr dp ti be de hm qu sh tt : Nat → Int32} (hV : SV v) (hS : SC v s) (H : CoE E z gl gd gc gp) (HL : LogC Lg nx sz dp) (hm3 : m < v 3) (hct : ct < v 1) (hx : x ≤ 100000) (hd : d ≤ 9999) (hc : c < 512) (ht : ti m = nI t) (ht2 : t < v 0) (hho : hm m = cI ho) (hho2 : ho ≤ v 4) (hsh : ¬ ho = 0 → sh (ho - 1) = nI shr ∧ shr ≤ 100) (hD : de m = nI D) (hD2 : D < 2 ^ 31) (hs : sumP E + 2200000 < 2 ^ 31) (hl : E.length + 1 < 1024) {N : Nat} (hN : 2000 < N) {p pooled : Nat} (hp : p = worthN v t ct x d) (hpo : pooled = if ho = 0 then 0 else p * shr / 100) :
    ∃ (o : T_CO) (lo : Int32 × Int32 × (Nat → Int32)), f_X0_recordPurchase N (nI m) (nI ct) (nI x) 8 5 5 8 8 8 8 8 8 1024 1024 1024 1024 3584 120 12 12 12 12 12 4 5 (nI d) s.1 s.2.2.1 s.2.2.2.1 s.2.2.2.2.2.1 s.2.2.2.2.2.2.1 s.2.2.2.2.2.2.2.1 s.2.2.2.2.2.2.2.2.1 s.2.2.2.2.2.2.2.2.2.1 s.2.2.2.2.2.2.2.2.2.2.1 s.2.2.2.2.2.2.2.2.2.2.2.1 s.2.2.2.2.2.2.2.2.2.2.2.2.1 z gl gd gc gp (nI c) pr nx sz dp ti be de hm qu sh tt = some (nI p, o.1, o.2.1, o.2.2.1, o.2.2.2.1, o.2.2.2.2, nI (c + 1), upd7 pr (7 * c) (nI m) (nI ct) (nI x) (nI (baseN v ct x)) (nI p) (nI d) 0, lo.1, lo.2.1, lo.2.2, upd ti m (ckI (nI (tierT v (qu m + nI (baseN v ct x)) (v 0 - 1))) (nI d) s.2.2.1 (ti m) (be m)).1, upd be m (ckI (nI (tierT v (qu m + nI (baseN v ct x)) (v 0 - 1))) (nI d) s.2.2.1 (ti m) (be m)).2, upd de m (nI (D - min (p - pooled) D)), upd qu m (qu m + nI (baseN v ct x)), upd (upd tt 0 (tt 0 + nI p)) 4 (tt 4 + nI (min (p - pooled) D)), (ckI (nI (tierT v (qu m + nI (baseN v ct x)) (v 0 - 1))) (nI d) s.2.2.1 (ti m) (be m)).1, (ckI (nI (tierT v (qu m + nI (baseN v ct x)) (v 0 - 1))) (nI d) s.2.2.1 (ti m) (be m)).2)
      ∧ CoE (addE (mkK m (d + v 5) 0) (p - pooled - min (p - pooled) D) (addE (mkK (11 + ho) (d + v 5) (m + 1)) pooled E)) o.1 o.2.1 o.2.2.1 o.2.2.2.1 o.2.2.2.2
      ∧ LogC (ckLog m d (ckI (nI (tierT v (qu m + nI (baseN v ct x)) (v 0 - 1))) (nI d) s.2.2.1 (ti m) (be m)) (ti m) (logAdd (0, nI d, nI m, nI p) Lg)) lo.1 lo.2.1 lo.2.2 := by
  obtain ⟨⟨s1, s2, s3⟩, s4, s5, s6, s7, s8⟩ := hS
  have hv3 := hV.1.2.2.2.2.1
  have hv4 := hV.1.2.2.2.2.2
  have hv1 := hV.1.2.2.1
  have hv5 := hV.2.1.2.1
  have hm12 : m < 12 := by omega
  obtain ⟨q1, q2, q3⟩ := worthN_le (e := d) hV ht2 hct hx
  rw [← hp] at q3
  have hpl : pooled ≤ p := by
    rw [hpo]
    by_cases h : ho = 0
    · rw [if_pos h]; omega
    · rw [if_neg h]
      obtain ⟨_, h2⟩ := hsh h
      have h3 : p * shr ≤ p * 100 := Nat.mul_le_mul_left p h2
      omega
  have hb := C_baseOf (x := x) (s6 ct hct).1 (s6 ct hct).2 (hV.2.2.2.2.1 ct hct).1 (hV.2.2.2.2.1 ct hct).2 (by omega) hx
  have hw := C_worth (N := N) hV hm12 ht ht2 hct hx (d := d) (by omega) (s4 2 (by omega)) (fun t h => (s5 t h).2) s6 s7 (by omega)
  rw [← hp] at hw
  have hpos : (addE (mkK (11 + ho) (d + v 5) (m + 1)) pooled E).length < 1024 := by
    have := addE_length (k := mkK (11 + ho) (d + v 5) (m + 1)) (p := pooled) (E := E); omega
  have hsum := addE_sum (k := mkK (11 + ho) (d + v 5) (m + 1)) (p := pooled) (E := E)
  obtain ⟨o1, ho1, hR1⟩ := C_poolPut (v := v) H (h := ho) (e := d + v 5) (m := m) (p := pooled) (by omega) (fun h => by rw [hpo, if_pos h]) hm12 (by omega) (by omega) (by omega) (N := N) (by omega)
  obtain ⟨o2, ho2, hR2⟩ := C_credit hR1 (e := d + v 5) (n := p - pooled) (tt := upd tt 0 (tt 0 + nI p)) hm12 (by omega) hD hD2 (by omega) (by omega) hpos (N := N) (by omega)
  obtain ⟨lo1, hl1, hL1⟩ := C_log_add HL 0 (nI d) (nI m) (nI p)
  obtain ⟨lo2, hl2, hL2⟩ := C_checkTier (v := v) (m := m) (d := d) (gr := s.2.2.1) (cs := s.2.2.2.1) (th := s.2.2.2.2.2.1) (tr := ti) (be := be) (qu := upd qu m (qu m + nI (baseN v ct x))) hL1 hm12 (s4 0 (by omega)) hV.1.1 hV.1.2.1 (fun t h => (s5 t h).1) (N := N) (by omega)
  rw [upd_at] at hl2 hL2
  rw [upd_ne _ _ (show ¬ 4 = 0 by decide)] at ho2
  have htail : f_X0_recordPurchase_b93 N (nI m) (nI p) (cI ho) (nI pooled) 8 5 1024 1024 1024 1024 120 12 12 12 12 5 (nI d) s.1 s.2.2.1 s.2.2.2.1 s.2.2.2.2.2.1 z gl gd gc gp (nI (c + 1)) (upd7 pr (7 * c) (nI m) (nI ct) (nI x) (nI (baseN v ct x)) (nI p) (nI d) 0) nx sz dp ti be de (upd qu m (qu m + nI (baseN v ct x))) (upd tt 0 (tt 0 + nI p)) = some (nI p, o2.1, o2.2.1, o2.2.2.1, o2.2.2.2.1, o2.2.2.2.2, nI (c + 1), upd7 pr (7 * c) (nI m) (nI ct) (nI x) (nI (baseN v ct x)) (nI p) (nI d) 0, lo2.1, lo2.2.1, lo2.2.2, upd ti m (ckI (nI (tierT v (qu m + nI (baseN v ct x)) (v 0 - 1))) (nI d) s.2.2.1 (ti m) (be m)).1, upd be m (ckI (nI (tierT v (qu m + nI (baseN v ct x)) (v 0 - 1))) (nI d) s.2.2.1 (ti m) (be m)).2, upd de m (nI (D - min (p - pooled) D)), upd qu m (qu m + nI (baseN v ct x)), upd (upd tt 0 (tt 0 + nI p)) 4 (tt 4 + nI (min (p - pooled) D)), (ckI (nI (tierT v (qu m + nI (baseN v ct x)) (v 0 - 1))) (nI d) s.2.2.1 (ti m) (be m)).1, (ckI (nI (tierT v (qu m + nI (baseN v ct x)) (v 0 - 1))) (nI d) s.2.2.1 (ti m) (be m)).2) := by
    unfold f_X0_recordPurchase_b93 f_X7_life
    rw [Option.bind_some, Option.bind_some, s1, nI_add, C_poolList (by omega), Option.bind_some, ho1, Option.bind_some, nI_subI hpl, ho2, Option.bind_some, hl1, Option.bind_some, hl2, Option.bind_some]
  refine ⟨o2, lo2, ?_, hR2, hL2⟩
  unfold f_X0_recordPurchase
  rw [hb, Option.bind_some, hw, Option.bind_some, C_add hc, Option.bind_some, X6_increase_in qu _ h12 hm12, Option.bind_some, show (0 : Int32) = nI 0 from rfl, X6_increase_in tt _ h5' (by omega), Option.bind_some, X6_at_in hm h12 hm12, Option.bind_some, hho]
  by_cases h : ho = 0
  · rw [if_pos (by rw [h]; rfl)]
    rw [hpo, if_pos h] at htail ⊢
    rw [← nI_0] at htail
    exact htail
  · obtain ⟨h1, h2⟩ := hsh h
    have h3 : cI ho = nI (ho - 1) := by
      obtain ⟨q, hq⟩ : ∃ q, ho = q + 1 := ⟨ho - 1, by omega⟩
      rw [hq]; rfl
    have h4 : p * shr ≤ p * 100 := Nat.mul_le_mul_left p h2
    rw [if_neg (fun hh => h ((cI_none (by omega)).mp hh)), h3, X6_at_in sh (by decide) (show ho - 1 < 4 by omega), Option.bind_some, if_neg (by decide), h1, nI_mul, show (100 : Int32) = nI 100 from rfl, nI_div (by omega) (by decide)]
    rw [hpo, if_neg h] at htail ⊢
    rw [h3] at htail
    rw [← nI_0] at htail
    exact htail

