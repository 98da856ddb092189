theorem T_totalBreakage {N : Nat} (hN : 600000 < N) : StB RlW (fun s => P_totalBreakage N s) (fun m => F_M_totalBreakage N m) := by
  intro k s m hk HR
  obtain ⟨inp, se, dr, rdr, b, c, hi, ck⟩ := s
  obtain ⟨th, ch, ik, len, pa_, tok, err, hti, see, rk, bl, fx, rdd, le, ler, so, sor, wh, whr, now, kept, past, buf⟩ := m
  obtain ⟨v, R⟩ := HR
  have R : RlC v k inp se b c hi ck ch ik len fx le so wh now kept past buf := R
  have HR0 : RlW k (inp, se, dr, rdr, b, c, hi, ck) (th, ch, ik, len, pa_, tok, err, hti, see, rk, bl, fx, rdd, le, ler, so, sor, wh, whr, now, kept, past, buf) := ⟨v, R⟩
  obtain ⟨hV, hM, hS, hNM, hIN, hB, hK, hH⟩ := R
  have hv3 := hV.1.2.2.2.2.1
  have hv4 := hV.1.2.2.2.2.2
  have hv1 := hV.1.2.2.1
  have hSs : SC v (inp, se, dr, rdr, b, c, hi, ck).2.1 := hS
  have hK' : (ck = 0 ∧ ik = 0) ∨ (ck = 1 ∧ ik = 1 ∧ BRL v (k + 1) c kept) := hK.imp id (fun x => ⟨x.1, x.2.1, BRL_mono x.2.2 (Nat.le_succ k)⟩)
  obtain ⟨d, E, Lg, c0, dy, db, rd, ⟨a1, a2⟩, ⟨a3, a4, a5⟩, ⟨H1, H2, H3⟩, ⟨HL, HLm⟩, H4, H5, H6, H7⟩ := hB.1
  obtain ⟨ex, x1e, x2e⟩ := H7.2.2.2
  have hbk : bd k < 2 ^ 31 := by unfold bd; omega
  have hre := fun i hi => (H7.2.1 i hi).1
  have hrm := fun i hi => (H7.2.1 i hi).2
  have hg5 : now 5 = nI ex := by rw [← x1e, H7.2.2.1 2 (by omega)]
  have hbb : ex + sumN rd 10 < 2 ^ 31 := by omega
  have hcb : ∀ q, F_B_breakageOf N se b q = some (sumW (wE v d ex rd) (fun k => anyI q (nI (kL k))) E) := by
    intro q
    unfold F_B_breakageOf
    rw [a3, hS.1.1, C_brk H1 H3 hV a5 x1e hre hbb q (by omega)]; rfl
  have hempty : ∀ a b : Nat, a ≤ b → (∀ x ∈ E, kL x.1 < b → kL x.1 < a) → sumW (wE v d ex rd) (fun k => decide (kL k < a)) E = sumW (wE v d ex rd) (fun k => decide (kL k < b)) E := fun a b hab h => sumW_congr (fun x hx => decide_eq_decide.mpr ⟨fun e => Nat.lt_of_lt_of_le e hab, h x hx⟩)
  have h312 := hempty (v 3) 12 (by omega) (fun x hx hh => (H3 x hx).2.1 hh)
  have hall : sumW (wE v d ex rd) (fun k => decide (kL k < 12 + v 4)) E = sumW (wE v d ex rd) (fun k => anyI (-2) (nI (kL k))) E := sumW_congr (fun x hx => by
    rw [anyI_any rfl]
    have h5 := (H3 x hx).2
    refine decide_eq_true ?_
    by_cases h6 : kL x.1 < 12
    · omega
    · have := (h5.2 (by omega)).1
      omega)
  have gd3 : ¬ ((3 : Int32) < 0 ∨ 71 ≤ (3 : Int32).toNatClampNeg) := by decide
  have gd4 : ¬ ((4 : Int32) < 0 ∨ 71 ≤ (4 : Int32).toNatClampNeg) := by decide
  have hpools : ∀ (n h : Nat), h ≤ v 4 → v 4 < n + h → f_X11_totalBreakage_b35 N 71 72470 0 fx now n (sumW (wE v d ex rd) (fun k => decide (kL k < 12 + h)) E) (nI h) = some (sumW (wE v d ex rd) (fun k => anyI (-2) (nI (kL k))) E, 0) := by
    intro n
    induction n with
    | zero => intro h q1 q2; omega
    | succ n ih =>
      intro h q1 q2
      rw [f_X11_totalBreakage_b35, if_neg gd4, show (4 : Int32).toNatClampNeg = 4 from rfl, hM 4 (by omega)]
      by_cases q3 : h = v 4
      · rw [if_pos ((nI_leI (by omega) (by omega)).mpr (by omega)), q3, hall]
      · rw [if_neg (fun hh => by have := (nI_leI (by omega) (by omega)).mp hh; omega), M_brkPool hV hM H2 H1.2.1 H1.2.2.1 H1.2.2.2 H3 a5 a4 (show h < 4 by omega) hg5 hrm hbb (by omega), Option.bind_some, nI_1, Option.bind_some, Option.bind_some, ← sumW_lt (12 + h)]
        exact ih (h + 1) (by omega) (by omega)
  have haccs : ∀ (n m : Nat), m ≤ v 3 → v 3 < n + m → f_X11_totalBreakage_b9 N 71 72470 0 fx now n (sumW (wE v d ex rd) (fun k => decide (kL k < m)) E) (nI m) = some (sumW (wE v d ex rd) (fun k => anyI (-2) (nI (kL k))) E, 0) := by
    intro n
    induction n with
    | zero => intro m q1 q2; omega
    | succ n ih =>
      intro m q1 q2
      rw [f_X11_totalBreakage_b9, if_neg gd3, show (3 : Int32).toNatClampNeg = 3 from rfl, hM 3 (by omega)]
      by_cases q3 : m = v 3
      · rw [if_pos ((nI_leI (by omega) (by omega)).mpr (by omega)), q3, h312]
        exact hpools N 0 (Nat.zero_le _) (by omega)
      · rw [if_neg (fun hh => by have := (nI_leI (by omega) (by omega)).mp hh; omega), M_brkAcc hV hM H2 H1.2.1 H1.2.2.1 H1.2.2.2 H3 a5 a4 (show m < 12 by omega) hg5 hrm hbb (by omega), Option.bind_some, nI_1, Option.bind_some, Option.bind_some, ← sumW_lt m]
        exact ih (m + 1) (by omega) (by omega)
  have h00 := haccs N 0 (Nat.zero_le _) (by omega)
  rw [sumW_none (fun x _ => decide_eq_false (Nat.not_lt_zero _))] at h00
  have hP : P_totalBreakage N (inp, se, dr, rdr, b, c, hi, ck) = some (sumW (wE v d ex rd) (fun k => anyI (-2) (nI (kL k))) E, (inp, se, dr, rdr, b, c, hi, ck)) := by
    unfold P_totalBreakage
    dsimp only
    rw [hcb]; rfl
  have hG : F_M_totalBreakage N (th, ch, ik, len, pa_, tok, err, hti, see, rk, bl, fx, rdd, le, ler, so, sor, wh, whr, now, kept, past, buf) = some (sumW (wE v d ex rd) (fun k => anyI (-2) (nI (kL k))) E, ((0 : Int32), ch, ik, len, pa_, tok, err, hti, see, rk, bl, fx, rdd, le, ler, so, sor, wh, whr, now, kept, past, buf)) := by
    unfold F_M_totalBreakage
    dsimp only
    unfold f_X11_totalBreakage
    rw [show f_X11_totalBreakage_b9 N 71 72470 0 fx now N 0 0 = _ from h00]; rfl
  exact ⟨(sumW (wE v d ex rd) (fun k => anyI (-2) (nI (kL k))) E, (inp, se, dr, rdr, b, c, hi, ck)), (sumW (wE v d ex rd) (fun k => anyI (-2) (nI (kL k))) E, ((0 : Int32), ch, ik, len, pa_, tok, err, hti, see, rk, bl, fx, rdd, le, ler, so, sor, wh, whr, now, kept, past, buf)), hP, hG, rfl, RlW_thrown HR0 0⟩

