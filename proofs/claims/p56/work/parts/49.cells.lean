theorem nI_mul (a b : Nat) : nI a * nI b = nI (a * b) := (Int32.ofNat_mul a b).symm
theorem nI_div {a b : Nat} (ha : a < 2 ^ 31) (hb : b < 2 ^ 31) : nI a / nI b = nI (a / b) := by
  have h1 : a / b ≤ a := Nat.div_le_self a b
  apply Int32.toInt_inj.mp
  rw [Int32.toInt_div_of_ne_left _ _ (by
    intro hh
    have := nI_toInt ha
    rw [hh] at this
    have h2 : Int32.minValue.toInt < 0 := by decide
    omega), nI_toInt ha, nI_toInt hb, nI_toInt (by omega)]
  rfl
/-- the rest of a division by 1000 -/
theorem nI_mod {e : Nat} (he : e < 2 ^ 31) : nI e - nI e / (1000 : Int32) * (1000 : Int32) = nI (e % 1000) := by
  rw [show (1000 : Int32) = nI 1000 from rfl, nI_div he (by decide), nI_mul, nI_subI (Nat.div_mul_le_self e 1000)]
  congr 1; omega
/-- a guard that an index passes -/
theorem grd {i n : Nat} (h : i < n) (hn : n < 2 ^ 31) : ¬ (nI i < 0 ∨ n ≤ (nI i).toNatClampNeg) := by
  rw [nI_clamp (by omega)]
  intro hh
  cases hh with
  | inl a => exact nI_pos (by omega) a
  | inr a => omega
theorem grd2 {i n : Nat} (h : i < n) (hn : n < 2 ^ 31) : ¬ (nI i < 0 ∨ n ≤ i) := by
  intro hh
  cases hh with
  | inl a => exact nI_pos (by omega) a
  | inr a => omega
/-- the cells of an account, of a pool -/
def acI (m e : Nat) : Nat := 12470 + 1000 * m + e % 1000
def poI (h e m : Nat) : Nat := 24470 + (h * 1000 + e % 1000) * 12 + m
theorem M_accountAt {m e : Nat} (he : e < 2 ^ 31) : f_X11_accountAt (nI m) (nI e) = some (nI (acI m e)) := by
  unfold f_X11_accountAt acI
  rw [if_neg (by decide), nI_mod he, show (12470 : Int32) = nI 12470 from rfl, show (1000 : Int32) = nI 1000 from rfl, nI_mul, nI_add, nI_add]
theorem M_poolAt {h e m : Nat} (he : e < 2 ^ 31) : f_X11_poolAt (nI h) (nI e) (nI m) = some (nI (poI h e m)) := by
  unfold f_X11_poolAt poI
  rw [if_neg (by decide), nI_mod he, show (24470 : Int32) = nI 24470 from rfl, show (1000 : Int32) = nI 1000 from rfl, show (12 : Int32) = nI 12 from rfl, nI_mul, nI_add, nI_mul, nI_add, nI_add]
theorem M_takesAt {g : Nat → Int32} {i p w : Nat} (hi : i < 72470) (hg : g i = nI p) (hp : p < 2 ^ 31) (hw : w < 2 ^ 31) : f_X11_takesAt (nI i) (nI w) 72470 g = some (nI (min p w), upd g i (nI (p - min p w))) := by
  unfold f_X11_takesAt
  have h1 := grd2 hi (show 72470 < 2 ^ 31 by decide)
  have h2 : (if nI w < nI p then nI w else nI p) = nI (min p w) := by
    by_cases h : w < p
    · rw [if_pos ((nI_ltI hw hp).mpr h), Nat.min_eq_right (by omega)]
    · rw [if_neg (fun hh => h ((nI_ltI hw hp).mp hh)), Nat.min_eq_left (by omega)]
  simp only [if_neg h1, nI_clamp (show i < 2 ^ 31 by omega), hg, h2, Option.bind_some, nI_subI (Nat.min_le_left p w)]
/-- the reference's cells are the entries -/
def MC (d : Nat) (E : List En) (g : Nat → Int32) : Prop := (∀ m e, m < 12 → d < e → e ≤ d + 1000 → g (acI m e) = nI (pt E (mkK m e 0))) ∧ ∀ h e m, h < 4 → d < e → e ≤ d + 1000 → m < 12 → g (poI h e m) = nI (pt E (mkK (12 + h) e (m + 1)))
theorem mkK_eq {a e c a' e' c' : Nat} (he : e < 16384) (hc : c < 16) (he' : e' < 16384) (hc' : c' < 16) : mkK a e c = mkK a' e' c' ↔ a = a' ∧ e = e' ∧ c = c' := by unfold mkK; omega
theorem MC_ac {d : Nat} {E E' : List En} {g : Nat → Int32} (hd : d ≤ 9999) (H : MC d E g) {m e v : Nat} (hm : m < 12) (h1 : d < e) (h2 : e ≤ d + 1000) (hE : ∀ j, pt E' j = if j = mkK m e 0 then v else pt E j) : MC d E' (upd g (acI m e) (nI v)) := by
  refine ⟨fun m' e' a b c => ?_, fun h e' m' a b c d' => ?_⟩
  · unfold upd
    rw [hE]
    by_cases hh : acI m' e' = acI m e
    · have hk : mkK m' e' 0 = mkK m e 0 := by rw [mkK_eq (by omega) (by omega) (by omega) (by omega)]; unfold acI at hh; omega
      rw [if_pos hh, if_pos hk]
    · have hk : ¬ mkK m' e' 0 = mkK m e 0 := by
        rw [mkK_eq (by omega) (by omega) (by omega) (by omega)]
        intro h3
        rw [h3.1, h3.2.1] at hh
        exact hh rfl
      rw [if_neg hh, if_neg hk]
      exact H.1 m' e' a b c
  · unfold upd
    rw [hE, if_neg (by unfold acI poI; omega), if_neg (by rw [mkK_eq (by omega) (by omega) (by omega) (by omega)]; omega)]
    exact H.2 h e' m' a b c d'
theorem MC_po {d : Nat} {E E' : List En} {g : Nat → Int32} (hd : d ≤ 9999) (H : MC d E g) {h e m v : Nat} (hh : h < 4) (hm : m < 12) (h1 : d < e) (h2 : e ≤ d + 1000) (hE : ∀ j, pt E' j = if j = mkK (12 + h) e (m + 1) then v else pt E j) : MC d E' (upd g (poI h e m) (nI v)) := by
  refine ⟨fun m' e' a b c => ?_, fun h' e' m' a b c d' => ?_⟩
  · unfold upd
    rw [hE, if_neg (by unfold acI poI; omega), if_neg (by rw [mkK_eq (by omega) (by omega) (by omega) (by omega)]; omega)]
    exact H.1 m' e' a b c
  · unfold upd
    rw [hE]
    by_cases hc : poI h' e' m' = poI h e m
    · have hk : mkK (12 + h') e' (m' + 1) = mkK (12 + h) e (m + 1) := by rw [mkK_eq (by omega) (by omega) (by omega) (by omega)]; unfold poI at hc; omega
      rw [if_pos hc, if_pos hk]
    · have hk : ¬ mkK (12 + h') e' (m' + 1) = mkK (12 + h) e (m + 1) := by
        rw [mkK_eq (by omega) (by omega) (by omega) (by omega)]
        intro h3
        have h4 : h' = h := by omega
        have h5 : m' = m := by omega
        rw [h4, h5, h3.2.1] at hc
        exact hc rfl
      rw [if_neg hc, if_neg hk]
      exact H.2 h' e' m' a b c d'
theorem MC_same {d : Nat} {E : List En} {g g' : Nat → Int32} (H : MC d E g) (h : ∀ i, 12470 ≤ i → i < 72470 → g' i = g i) : MC d E g' := by
  refine ⟨fun m e a b c => ?_, fun h' e m a b c d' => ?_⟩
  · rw [h _ (by unfold acI; omega) (by unfold acI; omega)]; exact H.1 m e a b c
  · rw [h _ (by unfold poI; omega) (by unfold poI; omega)]; exact H.2 h' e m a b c d'
/-- the days of expiry are to come, and within 1000 days -/
def DE (d : Nat) (E : List En) : Prop := ∀ x ∈ E, d < kD x.1 ∧ kD x.1 ≤ d + 1000
/-- the reference's cells and the rest of its numbers -/
def RN (d : Nat) (g0 : Nat → Int32) (S : List En × Unit) (g : Nat → Int32) : Prop := MC d S.1 g ∧ (∀ x ∈ S.1, VK x.1 ∧ 1 ≤ x.2) ∧ DE d S.1 ∧ sumP S.1 < 2 ^ 31 ∧ ∀ i, i < 12470 → g i = g0 i
theorem RN_take {d : Nat} {g0 : Nat → Int32} {S : List En × Unit} {g g' : Nat → Int32} (H : RN d g0 S g) {q : Nat → Bool} {w : Nat} (h : MC d (takeE q w S.1) g') (hg : ∀ i, i < 12470 → g' i = g i) : RN d g0 (takeE q w S.1, S.2) g' := by
  refine ⟨h, fun y hy => ?_, fun y hy => ?_, ?_, fun i hi => by rw [hg i hi]; exact H.2.2.2.2 i hi⟩
  · obtain ⟨t, b1, b2, b3, b4⟩ := takeE_mem hy
    have := H.2.1 t b1
    exact ⟨b2 ▸ this.1, b4 this.2⟩
  · obtain ⟨t, b1, b2, _⟩ := takeE_mem hy
    rw [← b2]
    exact H.2.2.1 t b1
  · have := H.2.2.2.1
    cases hf : fstE q S.1 with
    | none =>
      have hh : ∀ E : List En, fstE q E = none → takeE q w E = E := by
        intro E
        induction E with
        | nil => intro _; rfl
        | cons x E ih =>
          intro hf
          rw [fstE] at hf
          rw [takeE]
          by_cases hx : q x.1 = true
          · rw [if_pos hx] at hf; cases hf
          · rw [if_neg hx] at hf ⊢
            rw [ih hf]
      dsimp only
      rw [hh S.1 hf]; exact this
    | some x => have := takeE_sum (w := w) hf; dsimp only; omega
theorem actN_ok (q : Nat → Bool) : ActOk q actN := fun x n S => ⟨id, rfl, fun y _ => Iff.rfl⟩
/-- the keys of an account -/
def qA (m : Nat) (k : Nat) : Bool := decide (kL k = m)
/-- a member's keys of a pool -/
def qP (h m : Nat) (k : Nat) : Bool := decide (kL k = 12 + h) && decide (kC k = m + 1)
/-- the days to come -/
theorem M_last {g : Nat → Int32} {d : Nat} (hg : g 0 = nI d) (hd : d ≤ 9999) : f_X11_lastExpiry 72470 g = some (nI (d + 1000)) := by
  unfold f_X11_lastExpiry f_X11_today0
  have h1 : ¬ ((0 : Int32) < 0 ∨ 72470 ≤ (0 : Int32).toNatClampNeg) := by decide
  simp only [if_neg h1, Option.bind_some]
  rw [show (0 : Int32).toNatClampNeg = 0 from rfl, hg, show (1000 : Int32) = nI 1000 from rfl, nI_add]

