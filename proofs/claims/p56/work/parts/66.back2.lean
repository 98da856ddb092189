/-- the class takes back -/
theorem C_takeBack {v : Nat → Nat} {s : T_SE} {m d c i p a ho D : Nat} {dy : Nat → Nat} {E : List En} {Lg : List Co} {z nx sz : Int32} {gl gd gc gp pr dp ti be de hm qu tt : Nat → Int32} (hV : SV v) (hS : SC v s) (H : CoE E z gl gd gc gp) (HE : EV v d E) (HL : LogC Lg nx sz dp) (hm3 : m < v 3) (hd : d ≤ 9999) (hc : c ≤ 512) (hi : i < c) (h0 : pr (7 * i) = nI m) (h4 : pr (7 * i + 4) = nI p) (hp : p ≤ 2200000) (h5 : pr (7 * i + 5) = nI (dy i)) (hdi : dy i ≤ d) (ha : ∀ j, j < a → dy j + v 6 ≤ d) (ha2 : ∀ j, a ≤ j → j < c → d < dy j + v 6) (hac : a ≤ c) (hho : hm m = cI ho) (hho2 : ho ≤ v 4) (hD : de m = nI D) {N : Nat} (hN : 2000 < N) {F : Nat × (List En × Unit)} (hF : F = four (qK (nI m) (nI (dy i + v 5)) (-2)) (qK (if ho = 0 then -1 else nI (11 + ho)) (nI (dy i + v 5)) (nI m)) (qK (nI m) (-2) (-2)) (qK (if ho = 0 then -1 else nI (11 + ho)) (-2) (nI m)) p E) {qu' : Nat → Int32} (hq' : qu' = if d < dy i + v 6 then upd qu m (qu m + -pr (7 * i + 3)) else qu) :
    ∃ (o : T_CO) (lo : Int32 × Int32 × (Nat → Int32)), f_X0_takeBack N (nI i) 8 5 1024 1024 1024 1024 3584 120 12 12 12 12 12 5 (nI d) (nI a) s.1 s.2.2.1 s.2.2.2.1 s.2.2.2.2.2.1 z gl gd gc gp pr nx sz dp ti be de hm qu tt = some (nI F.1, o.1, o.2.1, o.2.2.1, o.2.2.2.1, o.2.2.2.2, upd pr (7 * i + 6) 1, lo.1, lo.2.1, lo.2.2, upd ti m (ckI (nI (tierT v (qu' m) (v 0 - 1))) (nI d) s.2.2.1 (ti m) (be m)).1, upd be m (ckI (nI (tierT v (qu' m) (v 0 - 1))) (nI d) s.2.2.1 (ti m) (be m)).2, upd de m (nI (D + F.1)), qu', upd tt 3 (tt 3 + nI (p - F.1)), (ckI (nI (tierT v (qu' m) (v 0 - 1))) (nI d) s.2.2.1 (ti m) (be m)).1, (ckI (nI (tierT v (qu' m) (v 0 - 1))) (nI d) s.2.2.1 (ti m) (be m)).2)
      ∧ CoE F.2.1 o.1 o.2.1 o.2.2.1 o.2.2.2.1 o.2.2.2.2
      ∧ LogC (ckLog m d (ckI (nI (tierT v (qu' m) (v 0 - 1))) (nI d) s.2.2.1 (ti m) (be m)) (ti m) (logAdd (1, nI d, nI m, nI (p - F.1)) Lg)) lo.1 lo.2.1 lo.2.2
      ∧ EV v d F.2.1 ∧ sumP F.2.1 + p = sumP E + F.1 ∧ F.1 ≤ p ∧ F.2.1.length ≤ E.length := by
  obtain ⟨⟨s1, s2, s3⟩, s4, s5, s6, s7, s8⟩ := hS
  have hv3 := hV.1.2.2.2.2.1
  have hv4 := hV.1.2.2.2.2.2
  have hm12 : m < 12 := by omega
  have hsum := H.2.2.2
  obtain ⟨x0, hx0⟩ : ∃ x0 : Nat × (List En × Unit), x0 = (p, (E, ())) := ⟨_, rfl⟩
  have HS0 : CoE x0.2.1 z gl gd gc gp := by rw [hx0]; exact H
  have HE0 : EV v d x0.2.1 := by rw [hx0]; exact HE
  have hw0 : x0.1 = p := by rw [hx0]
  obtain ⟨o1, a1, b1⟩ := C_stage HS0 (nI m) (nI (dy i + v 5)) (-2) (by omega) (N := N) (by omega)
  obtain ⟨c1, c2, c3, c4, c5, c6⟩ := stg_ok (qK (nI m) (nI (dy i + v 5)) (-2)) HS0.2.1 HS0.2.2.1 HE0
  obtain ⟨x1, hx1⟩ : ∃ x1, x1 = stg (qK (nI m) (nI (dy i + v 5)) (-2)) x0 := ⟨_, rfl⟩
  rw [← hx1] at a1 b1 c1 c2 c3 c4 c5 c6
  obtain ⟨o2, a2, b2⟩ := C_stage b1 (if ho = 0 then -1 else nI (11 + ho)) (nI (dy i + v 5)) (nI m) (by omega) (N := N) (by omega)
  obtain ⟨d1, d2, d3, d4, d5, d6⟩ := stg_ok (qK (if ho = 0 then -1 else nI (11 + ho)) (nI (dy i + v 5)) (nI m)) c1 c2 c3
  obtain ⟨x2, hx2⟩ : ∃ x2, x2 = stg (qK (if ho = 0 then -1 else nI (11 + ho)) (nI (dy i + v 5)) (nI m)) x1 := ⟨_, rfl⟩
  rw [← hx2] at a2 b2 d1 d2 d3 d4 d5 d6
  obtain ⟨o3, a3, b3⟩ := C_stage b2 (nI m) (-2) (-2) (by omega) (N := N) (by omega)
  obtain ⟨e1, e2, e3, e4, e5, e6⟩ := stg_ok (qK (nI m) (-2) (-2)) d1 d2 d3
  obtain ⟨x3, hx3⟩ : ∃ x3, x3 = stg (qK (nI m) (-2) (-2)) x2 := ⟨_, rfl⟩
  rw [← hx3] at a3 b3 e1 e2 e3 e4 e5 e6
  obtain ⟨o4, a4, b4⟩ := C_stage b3 (if ho = 0 then -1 else nI (11 + ho)) (-2) (nI m) (by omega) (N := N) (by omega)
  obtain ⟨f1, f2, f3, f4, f5, f6⟩ := stg_ok (qK (if ho = 0 then -1 else nI (11 + ho)) (-2) (nI m)) e1 e2 e3
  have hx4 : stg (qK (if ho = 0 then -1 else nI (11 + ho)) (-2) (nI m)) x3 = F := by
    rw [hF, hx3, hx2, hx1, hx0]
    unfold four
    rfl
  rw [hx4] at a4 b4 f1 f2 f3 f4 f5 f6
  rw [hx0] at c4 c5 c6
  rw [hw0] at a1
  dsimp only at c4 c5 c6
  obtain ⟨lo1, hl1, hL1⟩ := C_log_add HL 1 (nI d) (nI m) (nI (p - F.1))
  obtain ⟨lo2, hl2, hL2⟩ := C_checkTier (v := v) (m := m) (d := d) (gr := s.2.2.1) (cs := s.2.2.2.1) (th := s.2.2.2.2.2.1) (tr := ti) (be := be) (qu := qu') hL1 hm12 (s4 0 (by omega)) hV.1.1 hV.1.2.1 (fun t h => (s5 t h).1) (N := N) (by omega)
  have htail : f_X0_takeBack_b173 N (nI i) (nI m) (nI p) (nI F.1) 8 5 3584 120 12 12 12 (nI d) s.2.2.1 s.2.2.2.1 s.2.2.2.2.2.1 o4.1 o4.2.1 o4.2.2.1 o4.2.2.2.1 o4.2.2.2.2 pr nx sz dp ti be (upd de m (nI (D + F.1))) qu' (upd tt 3 (tt 3 + nI (p - F.1))) = some (nI F.1, o4.1, o4.2.1, o4.2.2.1, o4.2.2.2.1, o4.2.2.2.2, upd pr (7 * i + 6) 1, lo2.1, lo2.2.1, lo2.2.2, upd ti m (ckI (nI (tierT v (qu' m) (v 0 - 1))) (nI d) s.2.2.1 (ti m) (be m)).1, upd be m (ckI (nI (tierT v (qu' m) (v 0 - 1))) (nI d) s.2.2.1 (ti m) (be m)).2, upd de m (nI (D + F.1)), qu', upd tt 3 (tt 3 + nI (p - F.1)), (ckI (nI (tierT v (qu' m) (v 0 - 1))) (nI d) s.2.2.1 (ti m) (be m)).1, (ckI (nI (tierT v (qu' m) (v 0 - 1))) (nI d) s.2.2.1 (ti m) (be m)).2) := by
    unfold f_X0_takeBack_b173 f_X5_markRefunded
    rw [show (7 : Int32) = nI 7 from rfl, nI_mul, show (6 : Int32) = nI 6 from rfl, nI_add, X6_put_in pr _ h3584 (by omega), Option.bind_some, Option.bind_some, nI_subI (by omega), hl1, Option.bind_some, hl2, Option.bind_some, Nat.mul_comm i 7]
  refine ⟨o4, lo2, ?_, b4, hL2, f3, by omega, by omega, by omega⟩
  have p0 : f_X5_part (nI i) 0 3584 pr = some (pr (7 * i)) := C_part (w := 0) (by omega) (by omega)
  have p4 : f_X5_part (nI i) 4 3584 pr = some (pr (7 * i + 4)) := C_part (w := 4) (by omega) (by omega)
  have p5 : f_X5_part (nI i) 5 3584 pr = some (pr (7 * i + 5)) := C_part (w := 5) (by omega) (by omega)
  have p3 : f_X5_part (nI i) 3 3584 pr = some (pr (7 * i + 3)) := C_part (w := 3) (by omega) (by omega)
  have hsub : ∀ {x y : Nat}, y ≤ x → nI x - nI (x - y) = nI y := fun {x y} h => by rw [nI_subI (by omega)]; congr 1; omega
  unfold f_X0_takeBack f_X7_life f_X0_poolOf
  rw [p0, Option.bind_some, p4, Option.bind_some, p5, Option.bind_some, Option.bind_some, h0, h4, h5, s1, nI_add, Option.bind_some, X6_at_in hm h12 hm12, Option.bind_some, hho, C_poolList (by omega), Option.bind_some, Option.bind_some, a1, Option.bind_some, hsub c5, Option.bind_some, a2, Option.bind_some, hsub d5, Option.bind_some, a3, Option.bind_some, hsub e5, Option.bind_some, a4, Option.bind_some, hsub f5, Option.bind_some, X6_increase_in de _ h12 hm12, Option.bind_some, hD, nI_add, show (3 : Int32) = nI 3 from rfl, X6_increase_in tt _ h5' (by omega), Option.bind_some, nI_subI (by omega)]
  by_cases hw : d < dy i + v 6
  · rw [if_pos hw] at hq'
    have hia : ¬ i < a := fun hh => by have := ha i hh; omega
    have p3' : f_X5_part (nI i) (nI 3) 3584 pr = some (pr (7 * i + 3)) := p3
    rw [if_neg (fun hh => hia ((nI_ltI (by omega) (by omega)).mp hh)), p3', Option.bind_some, X6_increase_in qu _ h12 hm12, Option.bind_some, ← hq']
    exact htail
  · rw [if_neg hw] at hq'
    have hia : i < a := by
      by_cases hh : i < a
      · exact hh
      · have := ha2 i (by omega) hi; omega
    rw [if_pos ((nI_ltI (by omega) (by omega)).mpr hia), ← hq']
    exact htail

