/-- a byte of a number -/
def bytN (x : Int32) (k : Nat) : Nat := x.toUInt32.toNat / 2 ^ (8 * k) % 256
theorem bytN_lt (x : Int32) (k : Nat) : bytN x k < 256 := Nat.mod_lt _ (by decide)
theorem toInt_nat (x : Int32) : x.toInt = (x.toUInt32.toNat : Int) ∨ x.toInt = (x.toUInt32.toNat : Int) - 2 ^ 32 := by
  have h : x.toInt = x.toBitVec.toInt := rfl
  have h2 : x.toUInt32.toNat = x.toBitVec.toNat := rfl
  rw [h, h2, BitVec.toInt_eq_toNat_cond]
  by_cases h3 : 2 * x.toBitVec.toNat < 2 ^ 32
  · rw [if_pos h3]; exact Or.inl rfl
  · rw [if_neg h3]; exact Or.inr rfl
theorem u_lt (x : Int32) : x.toUInt32.toNat < 2 ^ 32 := x.toUInt32.toNat_lt

theorem mB0 (x : Int32) : (x >>> ((0 : Int32) &&& 31)) &&& (255 : Int32) = nI (bytN x 0) := by
  have h0 := bytN_lt x 0
  have h1 := u_lt x
  apply Int32.toInt_inj.mp
  rw [Jvm.Kit.i32_mask _ _ (k := 8) (by decide) (by decide), Jvm.Kit.i32_shr _ _ (k := 0) (by decide), nI_toInt (by omega)]
  unfold bytN
  cases toInt_nat x with
  | inl h => rw [h]; omega
  | inr h => rw [h]; omega
theorem cB0 (x : Int32) : ((x.toUInt32 >>> ((0 : Int32).toUInt32 &&& Int32.toUInt32 31)).toInt32) &&& (255 : Int32) = nI (bytN x 0) := by
  have h0 := bytN_lt x 0
  have h1 := u_lt x
  apply Int32.toInt_inj.mp
  rw [Jvm.Kit.i32_mask _ _ (k := 8) (by decide) (by decide), nI_toInt (by omega)]
  have h2 : ((x.toUInt32 >>> ((0 : Int32).toUInt32 &&& Int32.toUInt32 31)).toInt32).toUInt32.toNat = x.toUInt32.toNat / 2 ^ 0 := by
    show (x.toUInt32 >>> ((0 : Int32).toUInt32 &&& Int32.toUInt32 31)).toNat = _
    rw [UInt32.toNat_shiftRight, show ((0 : Int32).toUInt32 &&& Int32.toUInt32 31).toNat % 32 = 0 by decide, Nat.shiftRight_eq_div_pow]
  unfold bytN
  cases toInt_nat ((x.toUInt32 >>> ((0 : Int32).toUInt32 &&& Int32.toUInt32 31)).toInt32) with
  | inl h => rw [h, h2]; omega
  | inr h => rw [h, h2]; omega

theorem mB1 (x : Int32) : (x >>> ((8 : Int32) &&& 31)) &&& (255 : Int32) = nI (bytN x 1) := by
  have h0 := bytN_lt x 1
  have h1 := u_lt x
  apply Int32.toInt_inj.mp
  rw [Jvm.Kit.i32_mask _ _ (k := 8) (by decide) (by decide), Jvm.Kit.i32_shr _ _ (k := 8) (by decide), nI_toInt (by omega)]
  unfold bytN
  cases toInt_nat x with
  | inl h => rw [h]; omega
  | inr h => rw [h]; omega
theorem cB1 (x : Int32) : ((x.toUInt32 >>> ((8 : Int32).toUInt32 &&& Int32.toUInt32 31)).toInt32) &&& (255 : Int32) = nI (bytN x 1) := by
  have h0 := bytN_lt x 1
  have h1 := u_lt x
  apply Int32.toInt_inj.mp
  rw [Jvm.Kit.i32_mask _ _ (k := 8) (by decide) (by decide), nI_toInt (by omega)]
  have h2 : ((x.toUInt32 >>> ((8 : Int32).toUInt32 &&& Int32.toUInt32 31)).toInt32).toUInt32.toNat = x.toUInt32.toNat / 2 ^ 8 := by
    show (x.toUInt32 >>> ((8 : Int32).toUInt32 &&& Int32.toUInt32 31)).toNat = _
    rw [UInt32.toNat_shiftRight, show ((8 : Int32).toUInt32 &&& Int32.toUInt32 31).toNat % 32 = 8 by decide, Nat.shiftRight_eq_div_pow]
  unfold bytN
  cases toInt_nat ((x.toUInt32 >>> ((8 : Int32).toUInt32 &&& Int32.toUInt32 31)).toInt32) with
  | inl h => rw [h, h2]; omega
  | inr h => rw [h, h2]; omega

theorem mB2 (x : Int32) : (x >>> ((16 : Int32) &&& 31)) &&& (255 : Int32) = nI (bytN x 2) := by
  have h0 := bytN_lt x 2
  have h1 := u_lt x
  apply Int32.toInt_inj.mp
  rw [Jvm.Kit.i32_mask _ _ (k := 8) (by decide) (by decide), Jvm.Kit.i32_shr _ _ (k := 16) (by decide), nI_toInt (by omega)]
  unfold bytN
  cases toInt_nat x with
  | inl h => rw [h]; omega
  | inr h => rw [h]; omega
theorem cB2 (x : Int32) : ((x.toUInt32 >>> ((16 : Int32).toUInt32 &&& Int32.toUInt32 31)).toInt32) &&& (255 : Int32) = nI (bytN x 2) := by
  have h0 := bytN_lt x 2
  have h1 := u_lt x
  apply Int32.toInt_inj.mp
  rw [Jvm.Kit.i32_mask _ _ (k := 8) (by decide) (by decide), nI_toInt (by omega)]
  have h2 : ((x.toUInt32 >>> ((16 : Int32).toUInt32 &&& Int32.toUInt32 31)).toInt32).toUInt32.toNat = x.toUInt32.toNat / 2 ^ 16 := by
    show (x.toUInt32 >>> ((16 : Int32).toUInt32 &&& Int32.toUInt32 31)).toNat = _
    rw [UInt32.toNat_shiftRight, show ((16 : Int32).toUInt32 &&& Int32.toUInt32 31).toNat % 32 = 16 by decide, Nat.shiftRight_eq_div_pow]
  unfold bytN
  cases toInt_nat ((x.toUInt32 >>> ((16 : Int32).toUInt32 &&& Int32.toUInt32 31)).toInt32) with
  | inl h => rw [h, h2]; omega
  | inr h => rw [h, h2]; omega

theorem mB3 (x : Int32) : (x >>> ((24 : Int32) &&& 31)) &&& (255 : Int32) = nI (bytN x 3) := by
  have h0 := bytN_lt x 3
  have h1 := u_lt x
  apply Int32.toInt_inj.mp
  rw [Jvm.Kit.i32_mask _ _ (k := 8) (by decide) (by decide), Jvm.Kit.i32_shr _ _ (k := 24) (by decide), nI_toInt (by omega)]
  unfold bytN
  cases toInt_nat x with
  | inl h => rw [h]; omega
  | inr h => rw [h]; omega
theorem cB3 (x : Int32) : ((x.toUInt32 >>> ((24 : Int32).toUInt32 &&& Int32.toUInt32 31)).toInt32) &&& (255 : Int32) = nI (bytN x 3) := by
  have h0 := bytN_lt x 3
  have h1 := u_lt x
  apply Int32.toInt_inj.mp
  rw [Jvm.Kit.i32_mask _ _ (k := 8) (by decide) (by decide), nI_toInt (by omega)]
  have h2 : ((x.toUInt32 >>> ((24 : Int32).toUInt32 &&& Int32.toUInt32 31)).toInt32).toUInt32.toNat = x.toUInt32.toNat / 2 ^ 24 := by
    show (x.toUInt32 >>> ((24 : Int32).toUInt32 &&& Int32.toUInt32 31)).toNat = _
    rw [UInt32.toNat_shiftRight, show ((24 : Int32).toUInt32 &&& Int32.toUInt32 31).toNat % 32 = 24 by decide, Nat.shiftRight_eq_div_pow]
  unfold bytN
  cases toInt_nat ((x.toUInt32 >>> ((24 : Int32).toUInt32 &&& Int32.toUInt32 31)).toInt32) with
  | inl h => rw [h, h2]; omega
  | inr h => rw [h, h2]; omega

/-- the bytes of a number, last first: the class and the reference write the same -/
def bytL (x : Int32) : List Nat := [bytN x 3, bytN x 2, bytN x 1, bytN x 0].filter (fun b => decide (¬ b = 0))
theorem bytL_ok (x : Int32) : ∀ b ∈ bytL x, 1 ≤ b ∧ b ≤ 255 := by
  intro b hb
  unfold bytL at hb
  rw [List.mem_filter] at hb
  have h1 := of_decide_eq_true hb.2
  have a0 := bytN_lt x 0
  have a1 := bytN_lt x 1
  have a2 := bytN_lt x 2
  have a3 := bytN_lt x 3
  have h2 : b = bytN x 3 ∨ b = bytN x 2 ∨ b = bytN x 1 ∨ b = bytN x 0 := by simpa using hb.1
  omega
theorem bytL_len (x : Int32) : (bytL x).length ≤ 4 := by
  unfold bytL
  exact Nat.le_trans (List.length_filter_le _ _) (by simp)
/-- bytes put after a place -/
def putB (F : Nat → Int32) : Nat → List Nat → (Nat → Int32) → Nat → Int32
  | _, [], g => g
  | l, b :: bs, g => putB F (l + 1) bs (upd g l (F b))
theorem nar_ok : ∀ b, b < 256 → vp_nar .byte ((nI b).toInt8.toInt32) = vp_nar .byte (nI b) := by decide +kernel

theorem C_bytesIn (x : Int32) {N : Nat} (hN : 10 < N) : f_X3_bytesIn N x = some (nI (bytL x).length) := by
  obtain ⟨n, rfl⟩ : ∃ n, N = n + 5 := ⟨N - 5, by omega⟩
  unfold f_X3_bytesIn
  have st : ∀ (n : Nat) (a : Nat) (s t : Int32) (k : Nat), ¬ s < 0 → s + (-8 : Int32) = t → ((x.toUInt32 >>> (s.toUInt32 &&& Int32.toUInt32 31)).toInt32) &&& (255 : Int32) = nI (bytN x k) → f_X3_bytesIn_b5 x (n + 1) (nI a) s = f_X3_bytesIn_b5 x n (nI (a + if bytN x k = 0 then 0 else 1)) t := by
    intro n a s t k h1 h2 h3
    have h4 := bytN_lt x k
    rw [f_X3_bytesIn_b5, if_neg h1, h3, h2]
    by_cases h5 : bytN x k = 0
    · rw [if_pos ((nI_eqz (by omega)).mpr h5), if_pos h5, Option.bind_some]; rfl
    · rw [if_neg (fun hh => h5 ((nI_eqz (by omega)).mp hh)), if_neg h5, Option.bind_some, nI_1, Option.bind_some]
  rw [show (0 : Int32) = nI 0 from rfl, st (n + 4) 0 24 16 3 (by decide) (by decide) (cB3 x), st (n + 3) _ 16 8 2 (by decide) (by decide) (cB2 x), st (n + 2) _ 8 0 1 (by decide) (by decide) (cB1 x), st (n + 1) _ 0 (-8) 0 (by decide) (by decide) (cB0 x), f_X3_bytesIn_b5, if_pos (by decide)]
  congr 2
  unfold bytL
  by_cases a3 : bytN x 3 = 0 <;> by_cases a2 : bytN x 2 = 0 <;> by_cases a1 : bytN x 1 = 0 <;> by_cases a0 : bytN x 0 = 0 <;> simp [a0, a1, a2, a3]
theorem M_bytesOf (x : Int32) {N : Nat} (hN : 10 < N) : f_X11_bytesOf N x = some (nI (bytL x).length) := by
  obtain ⟨n, rfl⟩ : ∃ n, N = n + 5 := ⟨N - 5, by omega⟩
  unfold f_X11_bytesOf
  have st : ∀ (n : Nat) (a : Nat) (s t : Int32) (k : Nat), ¬ (4 : Int32) ≤ s → s + (1 : Int32) = t → (x >>> (((8 : Int32) * s) &&& 31)) &&& (255 : Int32) = nI (bytN x k) → f_X11_bytesOf_b4 x (n + 1) (nI a) s = f_X11_bytesOf_b4 x n (nI (a + if bytN x k = 0 then 0 else 1)) t := by
    intro n a s t k h1 h2 h3
    have h4 := bytN_lt x k
    rw [f_X11_bytesOf_b4, if_neg h1, h3, h2]
    by_cases h5 : bytN x k = 0
    · rw [if_pos ((nI_eqz (by omega)).mpr h5), if_pos h5, Option.bind_some, Int32.add_zero]; rfl
    · rw [if_neg (fun hh => h5 ((nI_eqz (by omega)).mp hh)), if_neg h5, nI_1, Option.bind_some, Option.bind_some]
  rw [show f_X11_bytesOf_b4 x (n + 5) 0 0 = f_X11_bytesOf_b4 x (n + 4 + 1) (nI 0) 0 from rfl, st (n + 4) 0 0 1 0 (by decide) (by decide) (mB0 x), st (n + 3) _ 1 2 1 (by decide) (by decide) (mB1 x), st (n + 2) _ 2 3 2 (by decide) (by decide) (mB2 x), st (n + 1) _ 3 4 3 (by decide) (by decide) (mB3 x), f_X11_bytesOf_b4, if_pos (by decide)]
  congr 2
  unfold bytL
  by_cases a3 : bytN x 3 = 0 <;> by_cases a2 : bytN x 2 = 0 <;> by_cases a1 : bytN x 1 = 0 <;> by_cases a0 : bytN x 0 = 0 <;> simp [a0, a1, a2, a3]
theorem putB_app (F : Nat → Int32) : ∀ (as bs : List Nat) (l : Nat) (g : Nat → Int32), putB F l (as ++ bs) g = putB F (l + as.length) bs (putB F l as g)
  | [], bs, l, g => rfl
  | a :: as, bs, l, g => by rw [List.cons_append, putB, putB_app F as bs, putB, List.length_cons, show l + 1 + as.length = l + (as.length + 1) by omega]
/-- one of the four -/
def oneL (b : Nat) : List Nat := if b = 0 then [] else [b]
theorem bytL_one (x : Int32) : bytL x = oneL (bytN x 3) ++ (oneL (bytN x 2) ++ (oneL (bytN x 1) ++ oneL (bytN x 0))) := by
  unfold bytL oneL
  by_cases a3 : bytN x 3 = 0 <;> by_cases a2 : bytN x 2 = 0 <;> by_cases a1 : bytN x 1 = 0 <;> by_cases a0 : bytN x 0 = 0 <;> simp [a0, a1, a2, a3]
theorem C_addBytes (x : Int32) {l : Nat} {g : Nat → Int32} (hl : l + (bytL x).length ≤ 600) {N : Nat} (hN : 10 < N) : f_X3_addBytes N x 600 (nI l) g = some (nI (l + (bytL x).length), putB (fun b => nI b) l (bytL x) g) := by
  obtain ⟨n, rfl⟩ : ∃ n, N = n + 5 := ⟨N - 5, by omega⟩
  unfold f_X3_addBytes
  have st : ∀ (n : Nat) (s t : Int32) (k l : Nat) (g : Nat → Int32), ¬ s < 0 → s + (-8 : Int32) = t → ((x.toUInt32 >>> (s.toUInt32 &&& Int32.toUInt32 31)).toInt32) &&& (255 : Int32) = nI (bytN x k) → l + (oneL (bytN x k)).length ≤ 600 → f_X3_addBytes_b3 x 600 (n + 1) s (nI l) g = f_X3_addBytes_b3 x 600 n t (nI (l + (oneL (bytN x k)).length)) (putB (fun b => nI b) l (oneL (bytN x k)) g) := by
    intro n s t k l g h1 h2 h3 h6
    have h4 := bytN_lt x k
    unfold oneL at h6 ⊢
    rw [f_X3_addBytes_b3, if_neg h1, h3, h2, Option.bind_some]
    by_cases h5 : bytN x k = 0
    · rw [if_pos ((nI_eqz (by omega)).mpr h5), if_pos h5, Option.bind_some]; rfl
    · rw [if_neg h5] at h6
      have h7 : l + 1 ≤ 600 := h6
      have gl := grd (i := l) (n := 600) (by omega) (by decide)
      rw [if_neg (fun hh => h5 ((nI_eqz (by omega)).mp hh)), if_neg h5, if_neg (nI_pos (by omega)), if_neg (fun hh => by have := (nI_leI (by omega) (by omega)).mp hh; omega), if_neg gl, nI_clamp (by omega), Option.bind_some, nI_1, Option.bind_some]; rfl
  have hb := bytL_one x
  rw [hb] at hl ⊢
  simp only [List.length_append] at hl ⊢
  simp only [putB_app]
  rw [st (n + 4) 24 16 3 l g (by decide) (by decide) (cB3 x) (by omega), st (n + 3) 16 8 2 _ _ (by decide) (by decide) (cB2 x) (by omega), st (n + 2) 8 0 1 _ _ (by decide) (by decide) (cB1 x) (by omega), st (n + 1) 0 (-8) 0 _ _ (by decide) (by decide) (cB0 x) (by omega), f_X3_addBytes_b3, if_pos (by decide)]
  simp only [Nat.add_assoc]
theorem M_brings (x : Int32) {l : Nat} {g : Nat → Int32} (hl : l + (bytL x).length ≤ 600) {N : Nat} (hN : 10 < N) : f_X11_brings N x 600 (nI l) g = some (nI (l + (bytL x).length), putB (fun b => vp_nar .byte (nI b)) l (bytL x) g) := by
  obtain ⟨n, rfl⟩ : ∃ n, N = n + 5 := ⟨N - 5, by omega⟩
  unfold f_X11_brings
  have st : ∀ (n : Nat) (s t : Int32) (k l : Nat) (g : Nat → Int32), ¬ s < 0 → s + (-8 : Int32) = t → (x >>> (s &&& 31)) &&& (255 : Int32) = nI (bytN x k) → l + (oneL (bytN x k)).length ≤ 600 → f_X11_brings_b3 x 600 (n + 1) s (nI l) g = f_X11_brings_b3 x 600 n t (nI (l + (oneL (bytN x k)).length)) (putB (fun b => vp_nar .byte (nI b)) l (oneL (bytN x k)) g) := by
    intro n s t k l g h1 h2 h3 h6
    have h4 := bytN_lt x k
    unfold oneL at h6 ⊢
    rw [f_X11_brings_b3, if_neg h1, h3, h2, Option.bind_some]
    by_cases h5 : bytN x k = 0
    · rw [if_pos ((nI_eqz (by omega)).mpr h5), if_pos h5, Option.bind_some]; rfl
    · rw [if_neg h5] at h6
      have h7 : l + 1 ≤ 600 := h6
      have gl := grd (i := l) (n := 600) (by omega) (by decide)
      rw [if_neg (fun hh => h5 ((nI_eqz (by omega)).mp hh)), if_neg h5, if_neg gl, nI_clamp (by omega), Option.bind_some, nI_1, Option.bind_some, nar_ok _ h4]; rfl
  have hb := bytL_one x
  rw [hb] at hl ⊢
  simp only [List.length_append] at hl ⊢
  simp only [putB_app]
  rw [st (n + 4) 24 16 3 l g (by decide) (by decide) (mB3 x) (by omega), st (n + 3) 16 8 2 _ _ (by decide) (by decide) (mB2 x) (by omega), st (n + 2) 8 0 1 _ _ (by decide) (by decide) (mB1 x) (by omega), st (n + 1) 0 (-8) 0 _ _ (by decide) (by decide) (mB0 x) (by omega), f_X11_brings_b3, if_pos (by decide)]
  simp only [Nat.add_assoc]
/-- the input after some bytes -/
theorem IN_put : ∀ (bs : List Nat) (l : Nat) (g h : Nat → Int32), (∀ b ∈ bs, 1 ≤ b ∧ b ≤ 255) → (∀ i, i < l → ∃ b, 1 ≤ b ∧ b ≤ 255 ∧ g i = nI b ∧ h i = vp_nar .byte (nI b)) → ∀ i, i < l + bs.length → ∃ b, 1 ≤ b ∧ b ≤ 255 ∧ putB (fun b => nI b) l bs g i = nI b ∧ putB (fun b => vp_nar .byte (nI b)) l bs h i = vp_nar .byte (nI b)
  | [], l, g, h, _, H, i, hi => H i hi
  | b :: bs, l, g, h, hb, H, i, hi => by
    rw [List.length_cons] at hi
    rw [putB, putB]
    refine IN_put bs (l + 1) _ _ (fun b' hb' => hb b' (List.mem_cons_of_mem _ hb')) (fun j hj => ?_) i (by omega)
    by_cases e : j = l
    · subst e
      obtain ⟨h1, h2⟩ := hb b List.mem_cons_self
      exact ⟨b, h1, h2, upd_at _ _ _, upd_at _ _ _⟩
    · rw [upd_ne _ _ e, upd_ne _ _ e]
      exact H j (by omega)

