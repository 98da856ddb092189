/-- a reading that goes on: it is fine and stands not before where it began -/
def PGo (p l : Nat) (pos err : Int32) : Prop := err = -1 → ∃ q, p ≤ q ∧ q ≤ l ∧ pos = nI q
theorem bind_inv {α β : Type} {x : Option α} {f : α → Option β} {o : β} (h : x.bind f = some o) : ∃ a, x = some a ∧ f a = some o := by
  cases x with
  | none => simp at h
  | some a => exact ⟨a, rfl, h⟩
theorem PGo_mono {p p' l : Nat} {pos err : Int32} (h : PGo p' l pos err) (hp : p ≤ p') : PGo p l pos err := by
  intro he
  obtain ⟨q, q1, q2, q3⟩ := h he
  exact ⟨q, Nat.le_trans hp q1, q2, q3⟩
theorem PGo_err {p l : Nat} {pos : Int32} {q : Nat} (hq : q < 2 ^ 31) : PGo p l pos (nI q) := fun h => absurd h (nI_neg1 hq)
theorem num_PG {bt : Nat → Nat} {l : Nat} {g buf : Nat → Int32} (H : TB bt l g buf) {p : Nat} {N : Nat} (hN : 700 < N) {lo hi pos st tk e : Int32} (h0 : PGo p l pos e) {o : Int32 × Int32 × Int32 × Int32 × Int32} (h : f_X8_readNumber N lo hi 600 pos st tk e (nI l) g = some o) : PGo p l o.2.1 o.2.2.2.2 := by
  by_cases he : e = -1
  · subst he
    obtain ⟨q, q1, q2, q3⟩ := h0 rfl
    subst q3
    obtain ⟨c1, c2⟩ := C_readNumber H q2 lo hi st tk hN
    obtain ⟨a1, a2, a3, a4⟩ := spn_spec (f := isSp bt) q2
    obtain ⟨b1, b2, b3, b4⟩ := spn_spec (f := isDi bt) a2
    have hl := H.1
    by_cases hn : numOK bt l (spn (isSp bt) l q) lo hi
    · rw [c1 hn] at h
      obtain rfl := Option.some.inj h
      exact fun _ => ⟨_, by omega, b2, rfl⟩
    · obtain ⟨y, hy⟩ := c2 hn
      rw [hy] at h
      obtain rfl := Option.some.inj h
      exact PGo_err (by omega)
  · unfold f_X8_readNumber at h
    rw [if_neg he] at h
    obtain rfl := Option.some.inj h
    exact fun hh => absurd hh he
theorem name_PG {v : Nat → Nat} {R : Nat → Nat → Nat} {S W : Nat → Nat} {nm le so wh : Nat → Int32} (HN : NR v R S W nm le so wh) {bt : Nat → Nat} {l : Nat} {g buf : Nat → Int32} (H : TB bt l g buf) {p : Nat} (hp : p ≤ l) {N : Nat} (hN : 700 < N) {o : Int32 × Int32 × Int32 × Int32 × Int32} (h : f_X8_readNewName N 600 96 (nI p) (-1) (nI l) g nm = some o) : PGo p l o.2.1 o.2.2.2.2 := by
  obtain ⟨c1, c2⟩ := C_newName HN H hp hN
  obtain ⟨a1, a2, a3, a4⟩ := spn_spec (f := isSp bt) hp
  obtain ⟨b1, b2, b3, b4⟩ := spn_spec (f := isLe bt) a2
  have hl := H.1
  by_cases hn : newN bt l (spn (isSp bt) l p) (v 70) le buf
  · rw [c1 hn] at h
    obtain rfl := Option.some.inj h
    exact fun _ => ⟨_, by omega, b2, rfl⟩
  · obtain ⟨y, hy⟩ := c2 hn
    rw [hy] at h
    obtain rfl := Option.some.inj h
    exact PGo_err (by omega)
theorem cat_PG {v : Nat → Nat} {R : Nat → Nat → Nat} {S W : Nat → Nat} {nm le so wh cs rdd : Nat → Int32} (HN : NR v R S W nm le so wh) (hcs : cs 1 = nI (v 1)) (h70 : rdd 70 = nI (v 70)) {bt : Nat → Nat} {l : Nat} {g buf : Nat → Int32} (H : TB bt l g buf) {p : Nat} (hp : p ≤ l) {N : Nat} (hN : 700 < N) {o : Int32 × Int32 × Int32 × Int32 × Int32} (h : f_X8_readCategoryName N 600 8 96 (nI p) (-1) (nI l) g cs nm = some o) : PGo p l o.2.1 o.2.2.2.2 := by
  obtain ⟨a1, a2, a3, a4⟩ := spn_spec (f := isSp bt) hp
  obtain ⟨b1, b2, b3, b4⟩ := spn_spec (f := isLe bt) a2
  have hl := H.1
  cases S_catName HN hcs h70 H hp 0 hN with
  | inl hh =>
    obtain ⟨i, i1, i2, i3⟩ := hh
    rw [i2] at h
    obtain rfl := Option.some.inj h
    exact fun _ => ⟨_, by omega, b2, rfl⟩
  | inr hh =>
    rw [hh.1] at h
    obtain rfl := Option.some.inj h
    exact PGo_err (by omega)
theorem tier45_PG {bt : Nat → Nat} {l : Nat} {g buf : Nat → Int32} (H : TB bt l g buf) {p : Nat} {N : Nat} (hN : 700 < N) {x2 s0 pos st tk e : Int32} (h0 : PGo p l pos e) {cs nm th bo : Nat → Int32} {o : Int32 × Int32 × Int32 × Int32 × (Nat → Int32) × (Nat → Int32) × (Nat → Int32) × (Nat → Int32)} (h : f_X8_readTier_b45 N x2 s0 600 8 96 5 5 pos st tk e (nI l) g cs nm th bo = some o) : PGo p l o.1 o.2.2.2.1 := by
  unfold f_X8_readTier_b45 at h
  obtain ⟨r, r1, r2⟩ := bind_inv h
  have hr := num_PG H hN h0 r1
  by_cases hh : r.2.2.2.2 = -1
  · rw [if_pos hh] at r2
    obtain ⟨a, a1, a2⟩ := bind_inv r2
    obtain rfl := Option.some.inj a2
    exact hr
  · rw [if_neg hh] at r2
    obtain rfl := Option.some.inj r2
    exact hr
theorem tier_PG {v : Nat → Nat} {R : Nat → Nat → Nat} {S W : Nat → Nat} {cs nm th bo le so wh : Nat → Int32} (HN : NR v R S W nm le so wh) {bt : Nat → Nat} {l : Nat} {g buf : Nat → Int32} (H : TB bt l g buf) {p : Nat} (hp : p ≤ l) {N : Nat} (hN : 700 < N) {o : Int32 × Int32 × Int32 × Int32 × (Nat → Int32) × (Nat → Int32) × (Nat → Int32) × (Nat → Int32)} (h : f_X8_readTier N 600 8 96 5 5 (nI p) (-1) (nI l) g cs nm th bo = some o) : PGo p l o.1 o.2.2.2.1 := by
  unfold f_X8_readTier at h
  obtain ⟨r5, _, h⟩ := bind_inv h
  obtain ⟨r, r1, h⟩ := bind_inv h
  have hr := name_PG HN H hp hN r1
  by_cases hh : r5 = 0
  · rw [if_pos hh] at h
    obtain ⟨q, q1, h⟩ := bind_inv h
    exact tier45_PG H hN (num_PG H hN hr q1) h
  · rw [if_neg hh] at h
    obtain ⟨a, _, h⟩ := bind_inv h
    obtain ⟨q, q1, h⟩ := bind_inv h
    exact tier45_PG H hN (num_PG H hN hr q1) h
theorem category_PG {v : Nat → Nat} {R : Nat → Nat → Nat} {S W : Nat → Nat} {cs nm ra ca le so wh : Nat → Int32} (HN : NR v R S W nm le so wh) {bt : Nat → Nat} {l : Nat} {g buf : Nat → Int32} (H : TB bt l g buf) {p : Nat} (hp : p ≤ l) {N : Nat} (hN : 700 < N) {o : Int32 × Int32 × Int32 × Int32 × (Nat → Int32) × (Nat → Int32) × (Nat → Int32) × (Nat → Int32)} (h : f_X8_readCategory N 600 8 96 8 8 (nI p) (-1) (nI l) g cs nm ra ca = some o) : PGo p l o.1 o.2.2.2.1 := by
  unfold f_X8_readCategory at h
  obtain ⟨r, r1, h⟩ := bind_inv h
  obtain ⟨q, q1, h⟩ := bind_inv h
  obtain ⟨t, t1, h⟩ := bind_inv h
  have hr := num_PG H hN (num_PG H hN (name_PG HN H hp hN r1) q1) t1
  by_cases hh : t.2.2.2.2 = -1
  · rw [if_pos hh] at h
    obtain ⟨a, a1, a2⟩ := bind_inv h
    obtain rfl := Option.some.inj a2
    exact hr
  · rw [if_neg hh] at h
    obtain rfl := Option.some.inj h
    exact hr
theorem promo_PG {v : Nat → Nat} {R : Nat → Nat → Nat} {S W : Nat → Nat} {cs nm A1 A2 A3 A4 le so wh rdd : Nat → Int32} (HN : NR v R S W nm le so wh) (hcs : cs 1 = nI (v 1)) (h70 : rdd 70 = nI (v 70)) {bt : Nat → Nat} {l : Nat} {g buf : Nat → Int32} (H : TB bt l g buf) {p : Nat} (hp : p ≤ l) {N : Nat} (hN : 700 < N) {o : Int32 × Int32 × Int32 × Int32 × (Nat → Int32) × (Nat → Int32) × (Nat → Int32) × (Nat → Int32) × (Nat → Int32) × (Nat → Int32)} (h : f_X8_readPromo N 600 8 96 8 8 8 8 (nI p) (-1) (nI l) g cs nm A1 A2 A3 A4 = some o) : PGo p l o.1 o.2.2.2.1 := by
  unfold f_X8_readPromo at h
  obtain ⟨r, r1, h⟩ := bind_inv h
  obtain ⟨q, q1, h⟩ := bind_inv h
  obtain ⟨t, t1, h⟩ := bind_inv h
  obtain ⟨u, u1, h⟩ := bind_inv h
  have hr := num_PG H hN (num_PG H hN (num_PG H hN (cat_PG HN hcs h70 H hp hN r1) q1) t1) u1
  by_cases hh : u.2.2.2.2 = -1
  · rw [if_pos hh] at h
    obtain ⟨a, a1, a2⟩ := bind_inv h
    obtain rfl := Option.some.inj a2
    exact hr
  · rw [if_neg hh] at h
    obtain rfl := Option.some.inj h
    exact hr
theorem member_PG {v : Nat → Nat} {R : Nat → Nat → Nat} {S W : Nat → Nat} {cs nm le so wh : Nat → Int32} (HN : NR v R S W nm le so wh) {bt : Nat → Nat} {l : Nat} {g buf : Nat → Int32} (H : TB bt l g buf) {p : Nat} (hp : p ≤ l) {N : Nat} (hN : 700 < N) {o : Int32 × Int32 × Int32 × Int32 × (Nat → Int32) × (Nat → Int32)} (h : f_X8_readMember N 600 8 96 (nI p) (-1) (nI l) g cs nm = some o) : PGo p l o.1 o.2.2.2.1 := by
  unfold f_X8_readMember at h
  obtain ⟨r, r1, h⟩ := bind_inv h
  have hr := name_PG HN H hp hN r1
  by_cases hh : r.2.2.2.2 = -1
  · rw [if_pos hh] at h
    obtain ⟨a, a1, a2⟩ := bind_inv h
    obtain rfl := Option.some.inj a2
    exact hr
  · rw [if_neg hh] at h
    obtain rfl := Option.some.inj h
    exact hr
theorem house_PG {v : Nat → Nat} {R : Nat → Nat → Nat} {S W : Nat → Nat} {cs nm sh le so wh : Nat → Int32} (HN : NR v R S W nm le so wh) {bt : Nat → Nat} {l : Nat} {g buf : Nat → Int32} (H : TB bt l g buf) {p : Nat} (hp : p ≤ l) {N : Nat} (hN : 700 < N) {o : Int32 × Int32 × Int32 × Int32 × (Nat → Int32) × (Nat → Int32) × (Nat → Int32)} (h : f_X8_readHouse N 600 8 96 4 (nI p) (-1) (nI l) g cs nm sh = some o) : PGo p l o.1 o.2.2.2.1 := by
  unfold f_X8_readHouse at h
  obtain ⟨r, r1, h⟩ := bind_inv h
  obtain ⟨q, q1, h⟩ := bind_inv h
  have hr := num_PG H hN (name_PG HN H hp hN r1) q1
  by_cases hh : q.2.2.2.2 = -1
  · rw [if_pos hh] at h
    obtain ⟨a, a1, a2⟩ := bind_inv h
    obtain rfl := Option.some.inj a2
    exact hr
  · rw [if_neg hh] at h
    obtain rfl := Option.some.inj h
    exact hr
theorem period25_PG {p l : Nat} {x1 s0 pos st tk e li wi gr : Int32} (h0 : PGo p l pos e) {cs nm : Nat → Int32} {o : Int32 × Int32 × Int32 × Int32 × Int32 × Int32 × Int32 × (Nat → Int32) × (Nat → Int32)} (h : f_X8_readPeriod_b25 x1 s0 8 96 pos st tk e li wi gr cs nm = some o) : PGo p l o.1 o.2.2.2.1 := by
  unfold f_X8_readPeriod_b25 at h
  by_cases hh : e = -1
  · rw [if_pos hh] at h
    by_cases h5 : x1 = 5
    · rw [if_pos h5] at h
      obtain ⟨a, a1, a2⟩ := bind_inv h
      obtain rfl := Option.some.inj a2
      exact h0
    · rw [if_neg h5] at h
      by_cases h6 : x1 = 6
      · rw [if_pos h6] at h
        obtain ⟨a, a1, a2⟩ := bind_inv h
        obtain rfl := Option.some.inj a2
        exact h0
      · rw [if_neg h6] at h
        obtain ⟨a, a1, a2⟩ := bind_inv h
        obtain rfl := Option.some.inj a2
        exact h0
  · rw [if_neg hh] at h
    obtain rfl := Option.some.inj h
    exact h0
theorem period_PG {bt : Nat → Nat} {l : Nat} {g buf : Nat → Int32} (H : TB bt l g buf) {p : Nat} (hp : p ≤ l) {N : Nat} (hN : 700 < N) {x1 st tk li wi gr : Int32} {cs nm : Nat → Int32} {o : Int32 × Int32 × Int32 × Int32 × Int32 × Int32 × Int32 × (Nat → Int32) × (Nat → Int32)} (h : f_X8_readPeriod N x1 600 8 96 (nI p) st tk (-1) (nI l) g li wi gr cs nm = some o) : PGo p l o.1 o.2.2.2.1 := by
  have h0 : PGo p l (nI p) (-1) := fun _ => ⟨p, Nat.le_refl p, hp, rfl⟩
  unfold f_X8_readPeriod at h
  by_cases hh : x1 = 7
  · rw [if_pos hh] at h
    obtain ⟨r, r1, h⟩ := bind_inv h
    exact period25_PG (num_PG H hN h0 r1) h
  · rw [if_neg hh] at h
    obtain ⟨r, r1, h⟩ := bind_inv h
    exact period25_PG (num_PG H hN h0 r1) h

