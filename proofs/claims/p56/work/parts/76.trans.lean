theorem add_subI' (a b : Int32) : a + b - a = b := by rw [Int32.add_comm, add_subI]
/-- a transfer, on both sides -/
theorem S_transfer {v : Nat → Nat} {k : Nat} {b : T_BK} {fx g pa : Nat → Int32} {ch : Int32} (hV : SV v) (hM : SM v fx) (H : BR v k b g) (hk : k < 512) {m m2 w : Nat} (hm3 : m < v 3) (hm23 : m2 < v 3) (hne : ¬ m = m2) (hw1 : 1 ≤ w) (hw : w < 2 ^ 31) {N : Nat} (hN : 2000 < N) : ∃ T, T < 2 ^ 31 ∧ F_H_sum N b (nI m) (-2) = some (nI T) ∧ (¬ w ≤ T → f_X11_transfer N (nI m) (nI m2) (nI w) 71 72470 579760 ch fx g pa = some (0, 3, ch, g, pa)) ∧ (w ≤ T → ∀ ch' pa', f_X11_remembers N 72470 579760 ch g pa = some (ch', pa') → ∃ b' g' p, F_B_give N b (nI m) (nI m2) (nI w) = some (p, b') ∧ f_X11_transfer N (nI m) (nI m2) (nI w) 71 72470 579760 ch fx g pa = some (p, 0, ch', g', pa') ∧ BR v (k + 1) b' g') := by
  obtain ⟨day, ws, z, gl, gd, gc, gp, cnt, pr, nx, sz, dp, ti, be, de, hm, qu, sh, re, tt, ls, ba, st, si⟩ := b
  have H : BRc v k day ws z gl gd gc gp cnt pr nx sz dp ti be de hm qu sh re tt g := H
  obtain ⟨d, E, Lg, c, dy, db, rd, ⟨a1, a2⟩, ⟨a3, a4, a5⟩, ⟨H1, H2, H3⟩, ⟨HL, HLm⟩, H4, H5, H6, H7⟩ := H
  have hv3 := hV.1.2.2.2.2.1
  have hm12 : m < 12 := by omega
  have hm212 : m2 < 12 := by omega
  obtain ⟨ex, x1, x2⟩ := H7.2.2.2
  have hbd := bd_512 (k := k) (by omega)
  have hbs := bd_succ k
  have hle := sumQ_le (q := fun k => decide (kL k = m)) (E := E)
  have hsm := H1.2.2.2
  obtain ⟨u1, u2, u3, u4⟩ := H7.1 m2 hm212
  have hpre : f_X11_transfer N (nI m) (nI m2) (nI w) 71 72470 579760 ch fx g pa = (if nI w ≤ nI (sumQ (fun k => decide (kL k = m)) E) then ((f_X11_remembers N 72470 579760 ch g pa).bind fun r59 => (f_X11_transfer_b76 N (nI m) (nI m2) (nI w) 72470 (0 : Int32) r59.1 r59.2 N (nI w) (0 : Int32) (nI (d + 1)) g)) else some (0, 3, ch, g, pa)) := by
    unfold f_X11_transfer
    rw [M_isMember (nI m) (n := v 3) (by omega) (hM 3 (by omega)), Option.bind_some, if_neg (outN_in (by omega) hm3), if_neg (by decide), M_isMember (nI m2) (n := v 3) (by omega) (hM 3 (by omega)), Option.bind_some, if_neg (outN_in (by omega) hm23), if_neg (by decide), if_neg (fun hh => hne ((nI_eq (by omega) (by omega)).mp hh)), if_pos (by rw [show (1 : Int32) = nI 1 from rfl, nI_leI (by omega) hw]; exact hw1), M_inAccount hV H2 H1.2.1 H1.2.2.1 H3 a5 hm12 hN, Option.bind_some, M_today, a4]
    simp only [Option.bind_some, nI_1]
    rfl
  refine ⟨sumQ (fun k => decide (kL k = m)) E, by omega, ?_, fun hn => ?_, fun hwa ch' pa' hr => ?_⟩
  · unfold F_H_sum
    dsimp only
    rw [C_balance H1 (by omega) (by omega), Option.bind_some]
  · rw [hpre, if_neg (fun hh => hn ((nI_leI (by omega) (by omega)).mp hh))]
  · have hqo : QOut (qK (nI m) (-2) (-2)) m2 := fun e he => by
      rw [qK_list (by omega) (by rw [kL_mk he (by omega)]; omega), kL_mk he (by omega), decide_eq_false (fun hh => hne hh.symm)]
    have hlen : E.length ≤ 1024 := by omega
    obtain ⟨T, hT⟩ : ∃ T, T = itG (qK (nI m) (-2) (-2)) (actC m2) E.length w (E, (db, 0)) := ⟨_, rfl⟩
    obtain ⟨o, de', tt', C1, C2, C3, C4⟩ := C_give_from (d := d) hm23 hm212 (nI m) (nI w) (N := N) (by omega) hqo nx sz dp tt N E.length w (E, (db, 0)) z gl gd gc gp de tt H1 H3 (fun j hj => (H7.1 j hj).1) (by show db m2 < _; omega) (fun j => by
      by_cases e : j = 4
      · rw [if_pos e, e, nI_0, Int32.add_zero]
      · rw [if_neg e]) hw (by omega) hlen (Or.inr (by show E.length < 1024; omega))
    obtain ⟨b1, b2, b3, b4, b5, b6, b7, b8⟩ := itC_ok (q := qK (nI m) (-2) (-2)) (d := d) hm23 hm212 E.length w (E, (db, 0)) H1.2.1 H1.2.2.1 H3
    have HR : RC v d m2 g (E, (db, 0)) g := ⟨H2, H1.2.2.1, H3, by show sumP E + 0 < _; omega, ⟨u2, by show db m2 < _; omega⟩, by rw [nI_0, Int32.add_zero], fun _ _ _ _ => rfl⟩
    obtain ⟨g1, K1, K2⟩ := M_transfer_loop (pa := pa') hV HR H1.2.1 a5 a4 hm12 hm23 hm212 hne hw (nI w) 0 ch' hN
    rw [← hT] at C1 C2 C3 C4 b4 b5 b6 b7
    have K2 : RC v d m2 g T.2 g1 := by rw [hT]; exact K2
    dsimp only at b4 b5 b6 b7
    obtain ⟨k1, k2, k3, k4, ⟨k5, k6⟩, k7, k8⟩ := K2
    have hLg : LogM Lg g1 := LogM_same HLm (k8 2 (by omega) (by omega) (by omega)) (fun i a b => k8 i (by omega) (by omega) (by omega))
    obtain ⟨g', l1, l2, l3⟩ := M_logs hLg 3 (nI m) (nI w) (N := N) (by omega)
    rw [k8 0 (by omega) (by omega) (by omega), a4] at l2
    obtain ⟨lo, C5, C6⟩ := C_log_add HL 3 (nI d) (nI m) (nI w)
    have hz := H1.1.2.1
    rw [List.length_map] at hz
    subst a3
    refine ⟨(nI d, ws, o.1, o.2.1, o.2.2.1, o.2.2.2.1, o.2.2.2.2, cnt, pr, lo.1, lo.2.1, lo.2.2, ti, be, de', hm, qu, sh, re, tt', ls, ba, st, si), g', nI T.2.2.2, ?_, ?_, ?_⟩
    · unfold F_B_give f_X0_give f_X1_size
      dsimp only
      rw [Option.bind_some]
      have C1' : f_X0_give_b15 N (nI m) (nI m2) (nI w) 1024 1024 1024 1024 120 12 5 (nI d) nx sz dp N 0 (nI w) z z gl gd gc gp de tt = f_X0_give_b99 (nI m) (nI w) (nI T.2.2.2) 120 (nI d) o.1 o.2.1 o.2.2.1 o.2.2.2.1 o.2.2.2.2 nx sz dp de' tt' := by
        have h := C1
        rw [← hz] at h
        exact h
      rw [C1']
      unfold f_X0_give_b99
      rw [C5, Option.bind_some, Option.bind_some]
    · have h77 : g 7 - g 7 = 0 := Int32.sub_self _
      rw [h77] at K1
      rw [hpre, if_pos ((nI_leI (by omega) (by omega)).mpr hwa), hr, Option.bind_some, K1]
      unfold f_X11_transfer_b131
      rw [l1, Option.bind_some, k7, add_subI']
    · unfold BR
      dsimp only
      refine ⟨d, T.2.1, logAdd (3, nI d, nI m, nI w) Lg, c, dy, T.2.2.1, rd, ⟨by omega, by omega⟩, ⟨rfl, ?_, a5⟩, ⟨C2, MC_same k1 (fun i p q => l3 i (by omega) (by omega)), k3⟩, ⟨C6, l2⟩, B4_same H4 (by rw [l3 1 (by omega) (by omega), k8 1 (by omega) (by omega) (by omega)]) (fun i p q => by rw [l3 i (by omega) (by omega), k8 i (by omega) (by omega) (by omega)]), B5_same hV H5 (fun i p q => by rw [l3 i (by omega) (by omega), k8 i (by omega) (by omega) (by omega)]), B6_same hV H6 (fun i p q => by rw [l3 i (by omega) (by omega), k8 i (by omega) (by omega) (by omega)]), fun m' hm' => ?_, fun i hi => ?_, fun i hi => ?_, ex, ?_, by omega⟩
      · rw [l3 0 (by omega) (by omega), k8 0 (by omega) (by omega) (by omega), a4]
      · obtain ⟨z1, z2, z3, z4⟩ := H7.1 m' hm'
        rw [C3 m' hm', l3 _ (by omega) (by omega)]
        by_cases e : m' = m2
        · subst e
          exact ⟨rfl, k5, by omega, fun hh => by omega⟩
        · rw [k8 _ (by omega) (by omega) (by omega), b6 m' e]
          exact ⟨rfl, z2, by omega, z4⟩
      · rw [l3 _ (by omega) (by omega), k8 _ (by omega) (by omega) (by omega)]
        exact H7.2.1 i hi
      · rw [C4 i, l3 _ (by omega) (by omega)]
        by_cases e : i = 4
        · rw [if_pos e, e]
          show _ = g1 7
          rw [k7, H7.2.2.1 4 (by omega)]
        · rw [if_neg e, k8 _ (by omega) (by omega) (by omega)]
          exact H7.2.2.1 i hi
      · rw [C4 2, if_neg (by decide), x1]

