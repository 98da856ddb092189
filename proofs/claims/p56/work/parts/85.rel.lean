/-- a name's letters as the class's number -/
def cdN (x : Nat) : Nat := x - 96
def lcode (w : Nat → Nat) : Nat := ((((cdN (w 0) * 32 + cdN (w 1)) * 32 + cdN (w 2)) * 32 + cdN (w 3)) * 32 + cdN (w 4)) * 32 + cdN (w 5)
/-- a name's letters -/
def WdN (w : Nat → Nat) : Prop := ¬ w 0 = 0 ∧ (∀ i, i < 6 → w i = 0 ∨ (97 ≤ w i ∧ w i ≤ 122)) ∧ ∀ i, i < 5 → w i = 0 → w (i + 1) = 0
/-- the names: the class's numbers, the reference's rows -/
def NM (v : Nat → Nat) (nm le so wh : Nat → Int32) : Prop := ∃ (R : Nat → Nat → Nat) (S W : Nat → Nat), v 70 ≤ 29 ∧ (∀ r, r < v 70 → WdN (R r) ∧ (∀ i, i < 6 → le (6 * r + i) = nI (R r i)) ∧ so r = nI (S r) ∧ wh r = nI (W r) ∧ (S r = 0 ∨ S r = 1 ∨ S r = 3 ∨ S r = 4) ∧ W r < v (S r) ∧ nm (12 * S r + W r) = nI (lcode (R r))) ∧ (∀ r r', r < r' → r' < v 70 → ¬ lcode (R r) = lcode (R r')) ∧ ∀ m, m < v 3 → ∃ r, r < v 70 ∧ S r = 3 ∧ W r = m
/-- the input: the class's bytes, the reference's -/
def IN (inp : T_IN) (len : Int32) (buf : Nat → Int32) : Prop := ∃ l, l ≤ 600 ∧ inp.1 = nI l ∧ len = nI l ∧ ∀ i, i < l → ∃ b, 1 ≤ b ∧ b ≤ 255 ∧ inp.2 i = nI b ∧ buf i = vp_nar .byte (nI b)
/-- the class's object and the reference's, after so many calls -/
def RlC (v : Nat → Nat) (k : Nat) (inp : T_IN) (se : T_SE) (b c : T_BK) (h : T_HI) (ck ch ik len : Int32) (fx le so wh now kept past buf : Nat → Int32) : Prop := SV v ∧ SM v fx ∧ SC v se ∧ NM v se.2.2.2.2.1 le so wh ∧ IN inp len buf ∧ BRL v k b now ∧ ((ck = 0 ∧ ik = 0) ∨ (ck = 1 ∧ ik = 1 ∧ BRL v k c kept)) ∧ HIS v k h ch past
def RlW (k : Nat) (s : T_PL) (m : T_MO) : Prop := ∃ v, RlC v k s.1 s.2.1 s.2.2.2.2.1 s.2.2.2.2.2.1 s.2.2.2.2.2.2.1 s.2.2.2.2.2.2.2 m.2.1 m.2.2.1 m.2.2.2.1 m.2.2.2.2.2.2.2.2.2.2.2.1 m.2.2.2.2.2.2.2.2.2.2.2.2.2.1 m.2.2.2.2.2.2.2.2.2.2.2.2.2.2.2.1 m.2.2.2.2.2.2.2.2.2.2.2.2.2.2.2.2.2.1 m.2.2.2.2.2.2.2.2.2.2.2.2.2.2.2.2.2.2.2.1 m.2.2.2.2.2.2.2.2.2.2.2.2.2.2.2.2.2.2.2.2.1 m.2.2.2.2.2.2.2.2.2.2.2.2.2.2.2.2.2.2.2.2.2.1 m.2.2.2.2.2.2.2.2.2.2.2.2.2.2.2.2.2.2.2.2.2.2
theorem RlC_mono {v : Nat → Nat} {k k' : Nat} {inp : T_IN} {se : T_SE} {b c : T_BK} {h : T_HI} {ck ch ik len : Int32} {fx le so wh now kept past buf : Nat → Int32} (H : RlC v k inp se b c h ck ch ik len fx le so wh now kept past buf) (hk : k ≤ k') : RlC v k' inp se b c h ck ch ik len fx le so wh now kept past buf := by
  obtain ⟨a1, a2, a3, a4, a5, a6, a7, a8⟩ := H
  exact ⟨a1, a2, a3, a4, a5, BRL_mono a6 hk, a7.imp id (fun x => ⟨x.1, x.2.1, BRL_mono x.2.2 hk⟩), HIS_mono a8 hk⟩
/-- what was thrown last does not count -/
theorem RlW_thrown {k : Nat} {s : T_PL} {m : T_MO} (H : RlW k s m) (t : Int32) : RlW (k + 1) s (t, m.2) := by
  obtain ⟨v, h⟩ := H
  exact ⟨v, RlC_mono h (Nat.le_succ k)⟩
theorem fin_ok {k : Nat} {s' : T_PL} {m' : T_MO} {f : Nat → Int64} {p : Int32} {w : Option (Int32 × T_PL × (Nat → Int64))} {g : Option (Int32 × T_MO)} (hW : w = some (0, s', vp_updL f 0 p.toInt64)) (hG : g = some (p, m')) (ht : m'.1 = 0) (hR : RlW (k + 1) s' m') : ∃ (o : Int32 × T_PL × (Nat → Int64)) (o2 : Int32 × T_MO), w = some o ∧ g = some o2 ∧ o2.2.1 = o.1 ∧ (o.1 = 0 → o.2.2 0 = o2.1.toInt64) ∧ RlW (k + 1) o.2.1 o2.2 := ⟨_, _, hW, hG, ht, fun _ => (show vp_updL f 0 p.toInt64 0 = p.toInt64 by unfold vp_updL; rw [if_pos rfl]), hR⟩
theorem fin_no {k : Nat} {s' : T_PL} {m' : T_MO} {f : Nat → Int64} {c p : Int32} {w : Option (Int32 × T_PL × (Nat → Int64))} {g : Option (Int32 × T_MO)} (hW : w = some (c, s', f)) (hc : ¬ c = 0) (hG : g = some (p, m')) (ht : m'.1 = c) (hR : RlW (k + 1) s' m') : ∃ (o : Int32 × T_PL × (Nat → Int64)) (o2 : Int32 × T_MO), w = some o ∧ g = some o2 ∧ o2.2.1 = o.1 ∧ (o.1 = 0 → o.2.2 0 = o2.1.toInt64) ∧ RlW (k + 1) o.2.1 o2.2 := ⟨_, _, hW, hG, ht, fun h => absurd h hc, hR⟩
/-- what a call needs -/
theorem cnt_in {v : Nat → Nat} {se : T_SE} (hS : SC v se) {i : Nat} (hi : i < 5) (N : Nat) : F_S_count N se (nI i) = some (nI (v i)) := by
  unfold F_S_count f_X7_count
  rw [X6_at_in _ h8 (by omega), Option.bind_some, Option.bind_some, hS.2.1 i hi]
theorem need_out {x : Int32} {n : Nat} (h : outN x n) (r : Option Int32) (hr : r = some (nI n)) : (if x < 0 then some 4 else (r.bind fun r10 => (if x < r10 then some 0 else some 4))) = some 4 := by
  by_cases h1 : x < 0
  · rw [if_pos h1]
  · rw [if_neg h1, hr, Option.bind_some, if_neg (fun hh => h.elim h1 (fun h2 => Int32.not_lt.mpr h2 hh))]
theorem need_in {x : Int32} {n : Nat} (h : ¬ outN x n) (r : Option Int32) (hr : r = some (nI n)) : (if x < 0 then some 4 else (r.bind fun r10 => (if x < r10 then some 0 else some 4))) = some 0 := by
  rw [if_neg (fun h1 => h (Or.inl h1)), hr, Option.bind_some, if_pos (Int32.not_le.mp (fun h2 => h (Or.inr h2)))]
theorem mem_out {v : Nat → Nat} {s : T_PL} (hS : SC v s.2.1) {x : Int32} (h : outN x (v 3)) (N : Nat) : P_needMember N s x = some 4 := need_out h _ (cnt_in hS (i := 3) (by omega) N)
theorem mem_in {v : Nat → Nat} {s : T_PL} (hS : SC v s.2.1) {x : Int32} (h : ¬ outN x (v 3)) (N : Nat) : P_needMember N s x = some 0 := need_in h _ (cnt_in hS (i := 3) (by omega) N)
theorem cat_out {v : Nat → Nat} {s : T_PL} (hS : SC v s.2.1) {x : Int32} (h : outN x (v 1)) (N : Nat) : P_needCategory N s x = some 4 := need_out h _ (cnt_in hS (i := 1) (by omega) N)
theorem cat_in {v : Nat → Nat} {s : T_PL} (hS : SC v s.2.1) {x : Int32} (h : ¬ outN x (v 1)) (N : Nat) : P_needCategory N s x = some 0 := need_in h _ (cnt_in hS (i := 1) (by omega) N)
theorem hou_out {v : Nat → Nat} {s : T_PL} (hS : SC v s.2.1) {x : Int32} (h : outN x (v 4)) (N : Nat) : P_needHousehold N s x = some 4 := need_out h _ (cnt_in hS (i := 4) (by omega) N)
theorem hou_in {v : Nat → Nat} {s : T_PL} (hS : SC v s.2.1) {x : Int32} (h : ¬ outN x (v 4)) (N : Nat) : P_needHousehold N s x = some 0 := need_in h _ (cnt_in hS (i := 4) (by omega) N)
/-- a number out of its range, both ends given -/
abbrev outR (x a b : Int32) : Prop := x < a ∨ b < x
theorem btw_out {x a b : Int32} (h : outR x a b) (N : Nat) (s : T_PL) : P_needBetween N s x a b = some 2 := by
  unfold P_needBetween
  by_cases h1 : x < a
  · rw [if_pos h1]
  · rw [if_neg h1, if_neg (fun hh => h.elim h1 (fun h2 => Int32.not_lt.mpr hh h2))]
theorem btw_in {x a b : Int32} (h : ¬ outR x a b) (N : Nat) (s : T_PL) : P_needBetween N s x a b = some 0 := by
  unfold P_needBetween
  rw [if_neg (fun h1 => h (Or.inl h1)), if_pos (Int32.not_lt.mp (fun h2 => h (Or.inr h2)))]
theorem outR_not {x : Int32} {a b : Nat} (hb : b < 2 ^ 31) (h : ¬ outR x (nI a) (nI b)) (ha : a < 2 ^ 31) : ∃ n, a ≤ n ∧ n ≤ b ∧ x = nI n := by
  have h1 : ¬ x < 0 := fun hh => h (Or.inl (Int32.lt_of_lt_of_le hh (by rw [← nI_0, nI_leI (by omega) ha]; omega)))
  obtain ⟨j, h2, h3⟩ := nI_of h1
  subst h3
  refine ⟨j, ?_, ?_, rfl⟩
  · by_cases e : a ≤ j
    · exact e
    · exact absurd (Or.inl ((nI_ltI h2 ha).mpr (by omega))) h
  · by_cases e : j ≤ b
    · exact e
    · exact absurd (Or.inr ((nI_ltI hb h2).mpr (by omega))) h
theorem isIn_out {x a b : Int32} (h : outR x a b) : f_X11_isIn x.toInt64 a.toInt64 b.toInt64 = some 0 := by rw [M_isIn, if_pos h]
theorem isIn_in {x a b : Int32} (h : ¬ outR x a b) : f_X11_isIn x.toInt64 a.toInt64 b.toInt64 = some 1 := by rw [M_isIn, if_neg h]
theorem one_out {x : Int32} (h : ¬ (1 : Int32) ≤ x) (N : Nat) (s : T_PL) : P_needAtLeastOne N s x = some 2 := by unfold P_needAtLeastOne; rw [if_neg h]
theorem one_in {x : Int32} (h : (1 : Int32) ≤ x) (N : Nat) (s : T_PL) : P_needAtLeastOne N s x = some 0 := by unfold P_needAtLeastOne; rw [if_pos h]
theorem one_nat {x : Int32} (h : (1 : Int32) ≤ x) : ∃ n, 1 ≤ n ∧ n < 2 ^ 31 ∧ x = nI n := by
  have h1 : ¬ x < 0 := Int32.not_lt.mpr (Int32.le_trans (by decide) h)
  obtain ⟨j, h2, h3⟩ := nI_of h1
  subst h3
  refine ⟨j, ?_, h2, rfl⟩
  have := (nI_leI (by decide) h2).mp (show nI 1 ≤ nI j from h)
  exact this

