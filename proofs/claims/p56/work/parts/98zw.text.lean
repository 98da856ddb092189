/-! the law's text, sent: twenty characters a call -/
theorem sh8 (x : Int32) {b : Nat} (hb : b < 256) : (x <<< ((8 : Int32) &&& 31) ||| nI b).toUInt32.toNat = x.toUInt32.toNat * 256 % 2 ^ 32 + b := by
  have h1 : (x <<< ((8 : Int32) &&& 31) ||| nI b).toUInt32 = (x.toUInt32 <<< (8 : UInt32)) ||| (nI b).toUInt32 := rfl
  have h2 : (nI b).toUInt32.toNat = b := by
    show (BitVec.ofNat 32 b).toNat = b
    rw [BitVec.toNat_ofNat]
    omega
  rw [h1, UInt32.toNat_or, h2, UInt32.toNat_shiftLeft, show (8 : UInt32).toNat % 32 = 8 by decide]
  have h3 : x.toUInt32.toNat <<< 8 % 2 ^ 32 = (x.toUInt32.toNat % 2 ^ 24) <<< 8 := by
    rw [Nat.shiftLeft_eq, Nat.shiftLeft_eq]
    omega
  rw [h3, ← Nat.shiftLeft_add_eq_or_of_lt (by omega), Nat.shiftLeft_eq]
  omega
/-- four characters in a number -/
def w4 (a b c d : Nat) : Int32 := ((((0 : Int32) <<< ((8 : Int32) &&& 31) ||| nI a) <<< ((8 : Int32) &&& 31) ||| nI b) <<< ((8 : Int32) &&& 31) ||| nI c) <<< ((8 : Int32) &&& 31) ||| nI d
theorem w4_val {a b c d : Nat} (ha : a < 256) (hb : b < 256) (hc : c < 256) (hd : d < 256) : (w4 a b c d).toUInt32.toNat = ((a * 256 + b) * 256 + c) * 256 + d := by
  unfold w4
  rw [sh8 _ hd, sh8 _ hc, sh8 _ hb, sh8 _ ha, show (0 : Int32).toUInt32.toNat = 0 from rfl]
  omega
theorem w4_bytL {a b c d : Nat} (ha : a < 256) (hb : b < 256) (hc : c < 256) (hd : d < 256) : bytL (w4 a b c d) = oneL a ++ (oneL b ++ (oneL c ++ oneL d)) := by
  have h := w4_val ha hb hc hd
  have h3 : bytN (w4 a b c d) 3 = a := by unfold bytN; rw [h, show 2 ^ (8 * 3) = 16777216 from rfl]; omega
  have h2 : bytN (w4 a b c d) 2 = b := by unfold bytN; rw [h, show 2 ^ (8 * 2) = 65536 from rfl]; omega
  have h1 : bytN (w4 a b c d) 1 = c := by unfold bytN; rw [h, show 2 ^ (8 * 1) = 256 from rfl]; omega
  have h0 : bytN (w4 a b c d) 0 = d := by unfold bytN; rw [h, show 2 ^ (8 * 0) = 1 from rfl]; omega
  rw [bytL_one, h3, h2, h1, h0]
theorem pkW_q (t : List Nat) (i : Nat) : pkW t i 20 0 = w4 (t.getD i 0) (t.getD (i + 1) 0) (t.getD (i + 2) 0) (t.getD (i + 3) 0) ∧ pkW t i 20 1 = w4 (t.getD (i + 4) 0) (t.getD (i + 5) 0) (t.getD (i + 6) 0) (t.getD (i + 7) 0) ∧ pkW t i 20 2 = w4 (t.getD (i + 8) 0) (t.getD (i + 9) 0) (t.getD (i + 10) 0) (t.getD (i + 11) 0) ∧ pkW t i 20 3 = w4 (t.getD (i + 12) 0) (t.getD (i + 13) 0) (t.getD (i + 14) 0) (t.getD (i + 15) 0) ∧ pkW t i 20 4 = w4 (t.getD (i + 16) 0) (t.getD (i + 17) 0) (t.getD (i + 18) 0) (t.getD (i + 19) 0) := by
  refine ⟨?_, ?_, ?_, ?_, ?_⟩ <;> (unfold w4; simp [pkW, upd])
/-- no character is 0, none is beyond 127 -/
def NZ (t : List Nat) : Prop := ∀ c ∈ t, 1 ≤ c ∧ c < 128
theorem NZ_app {a b : List Nat} (h : NZ a) (h2 : NZ b) : NZ (a ++ b) := fun c hc => by
  cases List.mem_append.mp hc with
  | inl x => exact h c x
  | inr x => exact h2 c x
theorem NZ_one {c : Nat} (h : 1 ≤ c) (h2 : c < 128) : NZ [c] := fun d hd => by rw [List.mem_singleton.mp hd]; exact ⟨h, h2⟩
theorem NZ_two {c d : Nat} (h : 1 ≤ c) (h2 : c < 128) (h3 : 1 ≤ d) (h4 : d < 128) : NZ [c, d] := NZ_app (NZ_one h h2) (NZ_one h3 h4)
theorem NZ_tx0 : ∀ i : Nat, i < 20 → ∀ c ∈ tx i, 1 ≤ c ∧ c < 128 := by decide +kernel
theorem NZ_tx {i : Nat} (h : i < 20) : NZ (tx i) := NZ_tx0 i h
theorem NZ_dg {x : Nat} (h : x < 10000) : NZ (dg x) := fun c hc => by
  unfold dg at hc
  split at hc
  · simp only [List.mem_cons, List.not_mem_nil, or_false] at hc; omega
  · split at hc
    · simp only [List.mem_cons, List.not_mem_nil, or_false] at hc; omega
    · split at hc
      · simp only [List.mem_cons, List.not_mem_nil, or_false] at hc; omega
      · simp only [List.mem_cons, List.not_mem_nil, or_false] at hc; omega
theorem NZ_cat {f : Nat → List Nat} {l : List Nat} (hl : NZ l) : ∀ k, (∀ j, j < k → NZ (f j)) → NZ (cat_of f l k)
  | 0, _ => hl
  | k + 1, h => NZ_app (NZ_cat hl k fun j hj => h j (by omega)) (h k (by omega))
theorem NZ_cfg (pf : Nat → Nat) : NZ (cfgT pf) := by
  have h1 := b_from (pf := pf)
  have h2 := (b_to (pf := pf)).2
  have h3 := (b_extra (pf := pf)).2
  have h4 := b_share (pf := pf)
  have h5 := b_tiers (pf := pf)
  have h6 := b_cats (pf := pf)
  have h7 := (b_life (pf := pf)).2
  have h8 := (b_win (pf := pf)).2
  have h9 := b_grace (pf := pf)
  have hs := (b_step (pf := pf)).2
  have c0 : NZ (cfg0 pf) := NZ_app (NZ_app (NZ_app (NZ_app (NZ_app (NZ_tx (by decide)) (NZ_dg (by omega))) (NZ_tx (by decide))) (NZ_dg (by omega))) (NZ_tx (by decide))) (NZ_dg (by omega))
  have c1 : NZ (cfg1 pf (tiersN pf)) := NZ_cat c0 _ fun j hj => by
    have hb := b_bonus (pf := pf) j
    have hm : j * stepN pf ≤ 3 * 449 := Nat.mul_le_mul (by omega) hs
    exact NZ_app (NZ_app (NZ_app (NZ_app (NZ_app (NZ_tx (by decide)) (NZ_one (by omega) (by omega))) (NZ_tx (by decide))) (NZ_dg (by omega))) (NZ_tx (by decide))) (NZ_dg (by omega))
  have c2 : NZ (cfg2 pf (catsN pf)) := NZ_cat c1 _ fun j hj => by
    have hr := b_rate (pf := pf) j
    have hc := b_cap (pf := pf) j
    exact NZ_app (NZ_app (NZ_app (NZ_app (NZ_app (NZ_tx (by decide)) (NZ_one (by omega) (by omega))) (NZ_tx (by decide))) (NZ_dg (by omega))) (NZ_tx (by decide))) (NZ_dg (by omega))
  have c3 : NZ (cfg3 pf (membN pf)) := NZ_cat c2 _ fun j hj => by
    have hn := b_name (pf := pf) j
    exact NZ_app (NZ_tx (by decide)) (NZ_two (by omega) (by omega) (by omega) (by omega))
  exact NZ_app (NZ_app (NZ_app (NZ_app (NZ_app (NZ_app (NZ_app (NZ_app c3 (NZ_tx (by decide))) (NZ_dg (by omega))) (NZ_tx (by decide))) (NZ_dg (by omega))) (NZ_tx (by decide))) (NZ_dg (by omega))) (NZ_tx (by decide))) (NZ_dg (by omega))
theorem ch_nz : ∀ i : Nat, i < 5 → 1 ≤ (tx 19).getD i 0 := by decide +kernel
theorem NZ_sp (pf : Nat → Nat) : NZ (spT pf) := by
  have h := NZ_cfg pf
  exact NZ_app (NZ_app (fun c hc => h c (List.mem_of_mem_take hc)) (NZ_one (ch_nz _ (inN_lt _ (by decide))) (ch_lt pf))) (fun c hc => h c (List.mem_of_mem_drop hc))
theorem one_4 : ∀ {u : List Nat}, NZ u → oneL (u.getD 0 0) ++ (oneL (u.getD 1 0) ++ (oneL (u.getD 2 0) ++ oneL (u.getD 3 0))) = u.take 4
  | [], _ => rfl
  | [a], h => by
    have ha := (h a (by simp)).1
    show oneL a ++ ([] ++ ([] ++ [])) = [a]
    unfold oneL; rw [if_neg (by omega)]; rfl
  | [a, b], h => by
    have ha := (h a (by simp)).1
    have hb := (h b (by simp)).1
    show oneL a ++ (oneL b ++ ([] ++ [])) = [a, b]
    unfold oneL; rw [if_neg (by omega), if_neg (by omega)]; rfl
  | [a, b, c], h => by
    have ha := (h a (by simp)).1
    have hb := (h b (by simp)).1
    have hc := (h c (by simp)).1
    show oneL a ++ (oneL b ++ (oneL c ++ [])) = [a, b, c]
    unfold oneL; rw [if_neg (by omega), if_neg (by omega), if_neg (by omega)]; rfl
  | a :: b :: c :: d :: r, h => by
    have ha := (h a (by simp)).1
    have hb := (h b (by simp)).1
    have hc := (h c (by simp)).1
    have hd := (h d (by simp)).1
    show oneL a ++ (oneL b ++ (oneL c ++ oneL d)) = [a, b, c, d]
    unfold oneL; rw [if_neg (by omega), if_neg (by omega), if_neg (by omega), if_neg (by omega)]; rfl
theorem gD_drop (t : List Nat) (i j : Nat) : (t.drop i).getD j 0 = t.getD (i + j) 0 := by
  rw [List.getD_eq_getElem?_getD, List.getElem?_drop, ← List.getD_eq_getElem?_getD]
theorem gD_lt {t : List Nat} (h : NZ t) (i : Nat) : t.getD i 0 < 256 := by
  rw [List.getD_eq_getElem?_getD]
  cases hi : t[i]? with
  | none => decide
  | some c => have := (h c (List.mem_of_getElem? hi)).2; show c < 256; omega
theorem bytL_w4 {t : List Nat} (h : NZ t) (i : Nat) : bytL (w4 (t.getD i 0) (t.getD (i + 1) 0) (t.getD (i + 2) 0) (t.getD (i + 3) 0)) = (t.drop i).take 4 := by
  rw [w4_bytL (gD_lt h _) (gD_lt h _) (gD_lt h _) (gD_lt h _), ← one_4 (u := t.drop i) (fun c hc => h c (List.mem_of_mem_drop hc)), gD_drop, gD_drop, gD_drop, gD_drop]
  rfl
/-- the buffer holds the first n characters -/
def TX (t : List Nat) (n : Nat) (g : Nat → Int32) : Prop := ∀ j, j < n → g j = nI (t.getD j 0)
theorem putB_TX {t : List Nat} : ∀ (bs : List Nat) (l : Nat) (g : Nat → Int32), TX t l g → (∀ j, j < bs.length → bs.getD j 0 = t.getD (l + j) 0) → TX t (l + bs.length) (putB (fun b => nI b) l bs g)
  | [], l, g, h, _ => h
  | b :: bs, l, g, h, h2 => by
    have e : l + (b :: bs).length = l + 1 + bs.length := by rw [List.length_cons]; omega
    rw [e]
    refine putB_TX bs (l + 1) _ ?_ ?_
    · intro j hj
      by_cases h3 : j = l
      · subst h3
        rw [upd_at]
        exact congrArg nI (h2 0 (by simp))
      · rw [upd_ne _ _ h3]
        exact h j (by omega)
    · intro j hj
      have := h2 (j + 1) (by rw [List.length_cons]; omega)
      rw [show l + 1 + j = l + (j + 1) by omega, ← this]; rfl
theorem putB_w {t : List Nat} (h : NZ t) {i l : Nat} {g : Nat → Int32} (hg : TX t l g) (hl : l = min i t.length) : l + (bytL (w4 (t.getD i 0) (t.getD (i + 1) 0) (t.getD (i + 2) 0) (t.getD (i + 3) 0))).length = min (i + 4) t.length ∧ TX t (min (i + 4) t.length) (putB (fun b => nI b) l (bytL (w4 (t.getD i 0) (t.getD (i + 1) 0) (t.getD (i + 2) 0) (t.getD (i + 3) 0))) g) := by
  have e := bytL_w4 h i
  have hn : ((t.drop i).take 4).length = min 4 (t.length - i) := by rw [List.length_take, List.length_drop]
  have q : l + (bytL (w4 (t.getD i 0) (t.getD (i + 1) 0) (t.getD (i + 2) 0) (t.getD (i + 3) 0))).length = min (i + 4) t.length := by
    rw [e, hn]; omega
  refine ⟨q, ?_⟩
  rw [← q]
  refine putB_TX _ l g hg ?_
  intro j hj
  rw [e] at hj ⊢
  rw [hn] at hj
  have h5 : l = i := by omega
  rw [h5, List.getD_eq_getElem?_getD, List.getElem?_take, if_pos (by omega), ← List.getD_eq_getElem?_getD, gD_drop]
theorem P_app {N : Nat} (hN : 10 < N) {x1 x2 x3 x4 x5 : Int32} {l l1 l2 l3 l4 l5 : Nat} (g : Nat → Int32) (se dr : T_SE) (rdr : T_RD) (b c : T_BK) (hi : T_HI) (ck : Int32) (a1 : l + (bytL x1).length = l1) (a2 : l1 + (bytL x2).length = l2) (a3 : l2 + (bytL x3).length = l3) (a4 : l3 + (bytL x4).length = l4) (a5 : l4 + (bytL x5).length = l5) (h5 : l5 ≤ 600) : H_appended N ((nI l, g), se, dr, rdr, b, c, hi, ck) x1 x2 x3 x4 x5 = some (nI l5, ((nI l5, putB (fun b => nI b) l4 (bytL x5) (putB (fun b => nI b) l3 (bytL x4) (putB (fun b => nI b) l2 (bytL x3) (putB (fun b => nI b) l1 (bytL x2) (putB (fun b => nI b) l (bytL x1) g))))), se, dr, rdr, b, c, hi, ck)) := by
  have hadd : ∀ (l : Nat) (g : Nat → Int32) (x : Int32), l + (bytL x).length ≤ 600 → F_I_addBytes N (nI l, g) x = some (nI (l + (bytL x).length), putB (fun b => nI b) l (bytL x) g) := by
    intro l g x h
    unfold F_I_addBytes
    rw [C_addBytes x h (by omega)]; rfl
  have hlen : ∀ (l : Nat) (g : Nat → Int32), F_I_length N (nI l, g) = some (nI l) := fun l g => rfl
  have hbi : ∀ x, f_X3_bytesIn N x = some (nI (bytL x).length) := fun x => C_bytesIn x (by omega)
  unfold H_appended P_append
  dsimp only
  rw [hbi, hbi, hbi, hbi, hbi, hlen]
  simp only [Option.bind_some, nI_add]
  rw [if_pos (show nI (l + ((bytL x1).length + (bytL x2).length + (bytL x3).length + (bytL x4).length + (bytL x5).length)) ≤ (600 : Int32) from (nI_leI (b := 600) (by omega) (by decide)).mpr (by omega)), hadd l g x1 (by omega), Option.bind_some, a1, hadd _ _ x2 (by omega), Option.bind_some, a2, hadd _ _ x3 (by omega), Option.bind_some, a3, hadd _ _ x4 (by omega), Option.bind_some, a4, hadd _ _ x5 (by omega), Option.bind_some, a5, hlen, Option.bind_some, Option.bind_some, if_pos rfl]
theorem X_appended {t : List Nat} (h : NZ t) (ht : t.length ≤ 600) {N : Nat} (hN : 10 < N) {i l : Nat} {g : Nat → Int32} (hg : TX t l g) (hl : l = min i t.length) (se dr : T_SE) (rdr : T_RD) (b c : T_BK) (hi : T_HI) (ck : Int32) : ∃ g', H_appended N ((nI l, g), se, dr, rdr, b, c, hi, ck) (pkW t i 20 0) (pkW t i 20 1) (pkW t i 20 2) (pkW t i 20 3) (pkW t i 20 4) = some (nI (min (i + 20) t.length), ((nI (min (i + 20) t.length), g'), se, dr, rdr, b, c, hi, ck)) ∧ TX t (min (i + 20) t.length) g' := by
  obtain ⟨p0, p1, p2, p3, p4⟩ := pkW_q t i
  rw [p0, p1, p2, p3, p4]
  obtain ⟨a1, a2⟩ := putB_w h hg hl
  obtain ⟨b1, b2⟩ := putB_w (i := i + 4) h a2 rfl
  obtain ⟨c1, c2⟩ := putB_w (i := i + 4 + 4) h b2 rfl
  obtain ⟨d1, d2⟩ := putB_w (i := i + 4 + 4 + 4) h c2 rfl
  obtain ⟨e1, e2⟩ := putB_w (i := i + 4 + 4 + 4 + 4) h d2 rfl
  refine ⟨_, ?_, e2⟩
  exact P_app hN g se dr rdr b c hi ck a1 b1 c1 d1 e1 (by omega)
theorem X_sendL {t : List Nat} (h : NZ t) (ht : t.length ≤ 600) {N : Nat} (hN : 10 < N) (se dr : T_SE) (rdr : T_RD) (b c : T_BK) (hi : T_HI) (ck : Int32) : ∀ (f i l : Nat) (g : Nat → Int32), TX t l g → l = min i t.length → i ≤ t.length + 20 → t.length + 20 < i + f → ∃ g', H_sendL N t f i (nI l) ((nI l, g), se, dr, rdr, b, c, hi, ck) = some ((nI t.length, g'), se, dr, rdr, b, c, hi, ck) ∧ TX t t.length g'
  | 0, i, l, g, hg, hl, h0, hf => absurd hf (by omega)
  | f + 1, i, l, g, hg, hl, h0, hf => by
    unfold H_sendL
    by_cases h1 : t.length ≤ i
    · have hl2 : l = t.length := by omega
      subst hl2
      rw [if_pos h1, if_pos rfl]
      exact ⟨g, rfl, hg⟩
    · obtain ⟨g', e1, e2⟩ := X_appended h ht hN hg hl se dr rdr b c hi ck
      rw [if_neg h1, e1, Option.bind_some, if_neg (show ¬ nI (min (i + 20) t.length) < 0 from nI_pos (by omega))]
      exact X_sendL h ht hN se dr rdr b c hi ck f (i + 20) _ g' e2 rfl (by omega) (by omega)
theorem X_send {t : List Nat} (h : NZ t) (ht : t.length ≤ 600) {N : Nat} (hN : 700 < N) {l : Nat} (hl : l < 2 ^ 31) (g : Nat → Int32) (se dr : T_SE) (rdr : T_RD) (b c : T_BK) (hi : T_HI) (ck : Int32) : ∃ g', H_send N t ((nI l, g), se, dr, rdr, b, c, hi, ck) = some ((nI t.length, g'), se, dr, rdr, b, c, hi, ck) ∧ TX t t.length g' := by
  have hP : P_truncate N ((nI l, g), se, dr, rdr, b, c, hi, ck) 0 = some (0, 0, ((nI 0, g), se, dr, rdr, b, c, hi, ck)) := by
    unfold P_truncate
    dsimp only
    rw [show F_I_length N (nI l, g) = some (nI l) from rfl, Option.bind_some, btw_in (by
      intro hh
      cases hh with
      | inl x => exact absurd x (by decide)
      | inr x => exact absurd ((nI_ltI (a := l) (b := 0) hl (by decide)).mp x) (by omega))]
    rfl
  unfold H_send
  rw [hP, Option.bind_some, if_pos rfl, if_pos rfl]
  exact X_sendL h ht (by omega) se dr rdr b c hi ck N 0 0 g (fun j hj => absurd hj (by omega)) (by omega) (by omega) (by omega)
