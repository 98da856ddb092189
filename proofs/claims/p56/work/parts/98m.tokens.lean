/-- on while a question holds -/
def spanN (f : Nat → Bool) : Nat → Nat → Nat
  | 0, p => p
  | n + 1, p => if f p = true then spanN f n (p + 1) else p
def spn (f : Nat → Bool) (l p : Nat) : Nat := spanN f (l - p) p
theorem spn_ge {f : Nat → Bool} {l p : Nat} (h : l ≤ p) : spn f l p = p := by
  unfold spn
  rw [show l - p = 0 by omega, spanN]
theorem spn_yes {f : Nat → Bool} {l p : Nat} (h : p < l) (h2 : f p = true) : spn f l p = spn f l (p + 1) := by
  unfold spn
  obtain ⟨n, hn⟩ : ∃ n, l - p = n + 1 := ⟨l - p - 1, by omega⟩
  rw [hn, spanN, if_pos h2, show l - (p + 1) = n by omega]
theorem spn_no {f : Nat → Bool} {l p : Nat} (h2 : f p = false) : spn f l p = p := by
  unfold spn
  cases hn : l - p with
  | zero => rw [spanN]
  | succ n => rw [spanN, h2, if_neg Bool.false_ne_true]
theorem spanN_spec {f : Nat → Bool} : ∀ (n p : Nat), p ≤ spanN f n p ∧ spanN f n p ≤ p + n ∧ (∀ i, p ≤ i → i < spanN f n p → f i = true) ∧ (spanN f n p < p + n → f (spanN f n p) = false)
  | 0, p => by
    rw [spanN]
    exact ⟨Nat.le_refl _, Nat.le_refl _, fun i h1 h2 => by omega, fun h => by omega⟩
  | n + 1, p => by
    rw [spanN]
    cases h : f p with
    | false =>
      rw [if_neg Bool.false_ne_true]
      exact ⟨Nat.le_refl _, by omega, fun i h1 h2 => by omega, fun _ => h⟩
    | true =>
      rw [if_pos rfl]
      obtain ⟨a, b, c, d⟩ := spanN_spec (f := f) n (p + 1)
      refine ⟨by omega, by omega, fun i h1 h2 => ?_, fun hh => d (by omega)⟩
      by_cases e : i = p
      · rw [e]; exact h
      · exact c i (by omega) h2
theorem spn_spec {f : Nat → Bool} {l p : Nat} (h : p ≤ l) : p ≤ spn f l p ∧ spn f l p ≤ l ∧ (∀ i, p ≤ i → i < spn f l p → f i = true) ∧ (spn f l p < l → f (spn f l p) = false) := by
  obtain ⟨a, b, c, d⟩ := spanN_spec (f := f) (l - p) p
  unfold spn
  exact ⟨a, by omega, c, fun hh => d (by omega)⟩
/-- a space, a letter, a digit -/
def isSp (bt : Nat → Nat) (i : Nat) : Bool := decide (bt i = 32)
def isLe (bt : Nat → Nat) (i : Nat) : Bool := decide (97 ≤ bt i ∧ bt i ≤ 122)
def isDi (bt : Nat → Nat) (i : Nat) : Bool := decide (48 ≤ bt i ∧ bt i ≤ 57)
/-- a token's kind and end -/
def tkK (bt : Nat → Nat) (l s : Nat) : Int32 := if l ≤ s then 258 else if isLe bt s = true then 256 else if isDi bt s = true then 257 else nI (bt s)
def tkE (bt : Nat → Nat) (l s : Nat) : Nat := if l ≤ s then s else if isLe bt s = true then spn (isLe bt) l s else if isDi bt s = true then spn (isDi bt) l s else s + 1
/-- the text of both -/
def TB (bt : Nat → Nat) (l : Nat) (g buf : Nat → Int32) : Prop := l ≤ 600 ∧ ∀ i, i < l → g i = nI (bt i) ∧ 1 ≤ bt i ∧ bt i ≤ 255 ∧ buf i = vp_nar .byte (nI (bt i))
theorem C_tok {bt : Nat → Nat} {l : Nat} {g buf : Nat → Int32} (H : TB bt l g buf) {i : Nat} (hi : i ≤ l) : f_X3_tokenAt (nI i) 600 (nI l) g = some (tkK bt l i) := by
  obtain ⟨h1, h2⟩ := H
  unfold tkK isLe isDi
  by_cases e : i = l
  · rw [if_pos (by omega), e]
    unfold f_X3_tokenAt
    rw [if_neg (nI_pos (by omega)), if_pos (Int32.le_refl _)]
  · obtain ⟨b1, b2, b3, _⟩ := h2 i (by omega)
    rw [if_neg (by omega), C_tokenAt h1 (by omega) b1 b3]
    by_cases a : 97 ≤ bt i ∧ bt i ≤ 122
    · rw [if_pos a, if_pos (decide_eq_true a)]
    · rw [if_neg a, if_neg (fun hh => a (of_decide_eq_true hh))]
      by_cases c : 48 ≤ bt i ∧ bt i ≤ 57
      · rw [if_pos c, if_pos (decide_eq_true c)]
      · rw [if_neg c, if_neg (fun hh => c (of_decide_eq_true hh))]
theorem C_byte {bt : Nat → Nat} {l : Nat} {g buf : Nat → Int32} (H : TB bt l g buf) {i : Nat} (hi : i < l) : f_X3_byteAt (nI i) 600 (nI l) g = some (nI (bt i)) := by
  obtain ⟨h1, h2⟩ := H
  have gi := grd (i := i) (n := 600) (by omega) (by decide)
  unfold f_X3_byteAt
  rw [if_neg (nI_pos (by omega)), if_neg (fun hh => by have := (nI_leI (by omega) (by omega)).mp hh; omega), if_neg (fun hh => by have := (nI_leI (by omega) (by omega)).mp hh; omega), if_neg gi, nI_clamp (by omega), (h2 i hi).1]
/-- which kind a byte is -/
theorem tkK_256 {bt : Nat → Nat} {l s : Nat} (h : s < l) (hb : bt s ≤ 255) : tkK bt l s = 256 ↔ isLe bt s = true := by
  unfold tkK
  rw [if_neg (by omega)]
  by_cases a : isLe bt s = true
  · rw [if_pos a]; exact ⟨fun _ => a, fun _ => rfl⟩
  · rw [if_neg a]
    refine ⟨fun hh => ?_, fun hh => absurd hh a⟩
    exfalso
    by_cases c : isDi bt s = true
    · rw [if_pos c] at hh; exact absurd hh (by decide)
    · rw [if_neg c] at hh
      have := (nI_eq (b := 256) (by omega) (by decide)).mp hh
      omega
theorem tkK_257 {bt : Nat → Nat} {l s : Nat} (h : s < l) (hb : bt s ≤ 255) : tkK bt l s = 257 ↔ isDi bt s = true := by
  unfold tkK
  rw [if_neg (by omega)]
  by_cases a : isLe bt s = true
  · have c : ¬ isDi bt s = true := by
      unfold isLe at a
      unfold isDi
      rw [decide_eq_true_iff] at a ⊢
      omega
    rw [if_pos a]; exact ⟨fun hh => absurd hh (by decide), fun hh => absurd hh c⟩
  · rw [if_neg a]
    by_cases c : isDi bt s = true
    · rw [if_pos c]; exact ⟨fun _ => c, fun _ => rfl⟩
    · rw [if_neg c]
      refine ⟨fun hh => ?_, fun hh => absurd hh c⟩
      have := (nI_eq (b := 257) (by omega) (by decide)).mp hh
      omega
theorem tkK_258 {bt : Nat → Nat} {l s : Nat} (hb : s < l → bt s ≤ 255) : tkK bt l s = 258 ↔ l ≤ s := by
  unfold tkK
  by_cases e : l ≤ s
  · rw [if_pos e]; exact ⟨fun _ => e, fun _ => rfl⟩
  · rw [if_neg e]
    refine ⟨fun hh => ?_, fun hh => absurd hh e⟩
    exfalso
    by_cases a : isLe bt s = true
    · rw [if_pos a] at hh; exact absurd hh (by decide)
    · rw [if_neg a] at hh
      by_cases c : isDi bt s = true
      · rw [if_pos c] at hh; exact absurd hh (by decide)
      · rw [if_neg c] at hh
        have := hb (by omega)
        have := (nI_eq (b := 258) (by omega) (by decide)).mp hh
        omega
/-- the class: a token -/
theorem C_readToken {bt : Nat → Nat} {l : Nat} {g buf : Nat → Int32} (H : TB bt l g buf) {p : Nat} (hp : p ≤ l) {N : Nat} (hN : 700 < N) : f_X8_readToken N 600 (nI p) (nI l) g = some (nI (tkE bt l (spn (isSp bt) l p)), nI (spn (isSp bt) l p), tkK bt l (spn (isSp bt) l p)) := by
  have hl := H.1
  have hrun : ∀ (f : Nat → Bool) (k : Int32) (s : Int32), (∀ i, i < l → (tkK bt l i = k ↔ f i = true)) → ∀ (n i : Nat), i ≤ l → l < n + i → f_X8_readToken_b88 (nI l) 600 s k (nI l) g n (nI i) = some (nI (spn f l i), s, k) := by
    intro f k s hf n
    induction n with
    | zero => intro i h1 h2; omega
    | succ n ih =>
      intro i h1 h2
      rw [f_X8_readToken_b88]
      by_cases e : i = l
      · rw [if_pos (by rw [e]; exact Int32.le_refl _), spn_ge (by omega)]
      · rw [if_neg (fun hh => by have := (nI_leI (by omega) (by omega)).mp hh; omega), C_tok H h1, Option.bind_some]
        cases hfi : f i with
        | true => rw [if_pos ((hf i (by omega)).mpr hfi), nI_1, spn_yes (by omega) hfi]; exact ih (i + 1) (by omega) (by omega)
        | false => rw [if_neg (fun hh => by rw [(hf i (by omega)).mp hh] at hfi; cases hfi), spn_no hfi]
  have hat : ∀ s, s ≤ l → f_X8_readToken_b45 N (nI l) 600 (nI s) (nI l) g = some (nI (tkE bt l s), nI s, tkK bt l s) := by
    intro s hs
    have h256 : tkK bt l s = 256 → s < l ∧ isLe bt s = true := by
      intro hh
      have hlt : s < l := by
        by_cases e : s < l
        · exact e
        · have h8 := (tkK_258 (bt := bt) (l := l) (s := s) (fun h => absurd h e)).mpr (by omega)
          rw [h8] at hh; exact absurd hh (by decide)
      exact ⟨hlt, (tkK_256 hlt (H.2 s hlt).2.2.1).mp hh⟩
    have h257 : tkK bt l s = 257 → s < l ∧ isDi bt s = true := by
      intro hh
      have hlt : s < l := by
        by_cases e : s < l
        · exact e
        · have h8 := (tkK_258 (bt := bt) (l := l) (s := s) (fun h => absurd h e)).mpr (by omega)
          rw [h8] at hh; exact absurd hh (by decide)
      exact ⟨hlt, (tkK_257 hlt (H.2 s hlt).2.2.1).mp hh⟩
    unfold f_X8_readToken_b45
    rw [C_tok H hs, Option.bind_some]
    by_cases a : tkK bt l s = 256
    · obtain ⟨a1, a2⟩ := h256 a
      rw [if_pos a, a, hrun (isLe bt) 256 (nI s) (fun i hi => tkK_256 hi (H.2 i hi).2.2.1) N s hs (by omega)]
      unfold tkE
      rw [if_neg (by omega), if_pos a2]
    · rw [if_neg a]
      by_cases c : tkK bt l s = 257
      · obtain ⟨a1, a2⟩ := h257 c
        have a3 : ¬ isLe bt s = true := fun hh => a ((tkK_256 a1 (H.2 s a1).2.2.1).mpr hh)
        rw [if_pos c, c, hrun (isDi bt) 257 (nI s) (fun i hi => tkK_257 hi (H.2 i hi).2.2.1) N s hs (by omega)]
        unfold tkE
        rw [if_neg (by omega), if_neg a3, if_pos a2]
      · rw [if_neg c]
        by_cases e : tkK bt l s = 258
        · rw [if_pos e]
          have h8 := (tkK_258 (fun h => (H.2 s h).2.2.1)).mp e
          unfold tkE
          rw [if_pos h8]
        · have hlt : s < l := by
            by_cases e2 : s < l
            · exact e2
            · exact absurd ((tkK_258 (fun h => absurd h e2)).mpr (by omega)) e
          rw [if_neg e, nI_1]
          unfold tkE
          rw [if_neg (by omega), if_neg (fun hh => a ((tkK_256 hlt (H.2 s hlt).2.2.1).mpr hh)), if_neg (fun hh => c ((tkK_257 hlt (H.2 s hlt).2.2.1).mpr hh))]
  have hskip : ∀ (n i : Nat), i ≤ l → l < n + i → f_X8_readToken_b8 N (nI l) 600 (nI l) g n (nI i) = some (nI (tkE bt l (spn (isSp bt) l i)), nI (spn (isSp bt) l i), tkK bt l (spn (isSp bt) l i)) := by
    intro n
    induction n with
    | zero => intro i h1 h2; omega
    | succ n ih =>
      intro i h1 h2
      rw [f_X8_readToken_b8]
      by_cases e : i = l
      · rw [if_pos (by rw [e]; exact Int32.le_refl _), spn_ge (by omega)]
        exact hat i h1
      · have hb := (H.2 i (by omega)).2.2.1
        have h32 : nI (bt i) = (32 : Int32) ↔ bt i = 32 := nI_eq (b := 32) (by omega) (by decide)
        rw [if_neg (fun hh => by have := (nI_leI (by omega) (by omega)).mp hh; omega), C_byte H (by omega), Option.bind_some]
        by_cases c : bt i = 32
        · rw [if_pos (h32.mpr c), nI_1, spn_yes (f := isSp bt) (by omega) (decide_eq_true c)]
          exact ih (i + 1) (by omega) (by omega)
        · rw [if_neg (fun hh => c (h32.mp hh)), spn_no (f := isSp bt) (decide_eq_false c)]
          exact hat i h1
  unfold f_X8_readToken f_X3_length
  rw [Option.bind_some]
  exact hskip N p hp (by omega)
theorem nar_and : ∀ b, b < 256 → (vp_nar .byte (nI b)) &&& (255 : Int32) = nI b := by decide +kernel
theorem nar_let : ∀ b, b < 256 → f_X11_isLetter (vp_nar .byte (nI b)) = some (if 97 ≤ b ∧ b ≤ 122 then 1 else 0) := by decide +kernel
theorem nI_dig : ∀ b, b < 256 → f_X11_isDigit (nI b) = some (if 48 ≤ b ∧ b ≤ 57 then 1 else 0) := by decide +kernel
/-- what stands at a place, in the reference -/
def heN (bt : Nat → Nat) (l s : Nat) : Int32 := if l ≤ s then -1 else nI (bt s)
theorem M_here {bt : Nat → Nat} {l : Nat} {g buf : Nat → Int32} (H : TB bt l g buf) {i : Nat} (hi : i ≤ l) : f_X11_here 600 (nI l) (nI i) buf = some (heN bt l i) := by
  have hl := H.1
  unfold f_X11_here heN
  by_cases e : i = l
  · rw [if_pos (by rw [e]; exact Int32.le_refl _), if_pos (by omega)]
  · have gi := grd (i := i) (n := 600) (by omega) (by decide)
    obtain ⟨_, _, b3, b4⟩ := H.2 i (by omega)
    rw [if_neg (fun hh => by have := (nI_leI (by omega) (by omega)).mp hh; omega), if_neg gi, nI_clamp (by omega), b4, nar_and _ (by omega), if_neg (by omega)]
theorem M_look {bt : Nat → Nat} {l : Nat} {g buf : Nat → Int32} (H : TB bt l g buf) {p : Nat} (hp : p ≤ l) {N : Nat} (hN : 700 < N) : f_X11_look N 600 (nI l) (nI p) buf = some (heN bt l (spn (isSp bt) l p), nI (spn (isSp bt) l p), nI (spn (isSp bt) l p)) := by
  have hl := H.1
  have hloop : ∀ (n i : Nat), i ≤ l → l < n + i → f_X11_look_b0 600 (nI l) buf n (nI i) = some (heN bt l (spn (isSp bt) l i), nI (spn (isSp bt) l i), nI (spn (isSp bt) l i)) := by
    intro n
    induction n with
    | zero => intro i h1 h2; omega
    | succ n ih =>
      intro i h1 h2
      rw [f_X11_look_b0, M_here H h1, Option.bind_some, Option.bind_some]
      by_cases e : i = l
      · rw [if_neg (by unfold heN; rw [if_pos (by omega)]; decide), spn_ge (by omega)]
      · have hb := (H.2 i (by omega)).2.2.1
        have h32 : heN bt l i = (32 : Int32) ↔ bt i = 32 := by
          unfold heN
          rw [if_neg (by omega)]
          exact nI_eq (b := 32) (by omega) (by decide)
        by_cases c : bt i = 32
        · rw [if_pos (h32.mpr c), nI_1, spn_yes (f := isSp bt) (by omega) (decide_eq_true c)]
          exact ih (i + 1) (by omega) (by omega)
        · rw [if_neg (fun hh => c (h32.mp hh)), spn_no (f := isSp bt) (decide_eq_false c)]
  unfold f_X11_look
  exact hloop N p hp (by omega)
/-- the letters that follow, in the reference -/
theorem M_wordLength {bt : Nat → Nat} {l : Nat} {g buf : Nat → Int32} (H : TB bt l g buf) {p : Nat} (hp : p ≤ l) {N : Nat} (hN : 700 < N) : f_X11_wordLength N 600 (nI l) (nI p) buf = some (nI (spn (isLe bt) l (spn (isSp bt) l p) - spn (isSp bt) l p), nI (spn (isSp bt) l p), nI (spn (isSp bt) l p)) := by
  have hl := H.1
  obtain ⟨a1, a2, a3, a4⟩ := spn_spec (f := isSp bt) hp
  obtain ⟨s, hs⟩ : ∃ s, s = spn (isSp bt) l p := ⟨_, rfl⟩
  have hloop : ∀ (n i : Nat), s ≤ i → i ≤ l → l < n + i → f_X11_wordLength_b10 600 (nI l) (nI s) (nI s) buf n (nI i) = some (nI (spn (isLe bt) l i - s), nI s, nI s) := by
    intro n
    induction n with
    | zero => intro i h0 h1 h2; omega
    | succ n ih =>
      intro i h0 h1 h2
      rw [f_X11_wordLength_b10]
      by_cases e : i = l
      · rw [if_pos (by rw [e]; exact Int32.le_refl _), spn_ge (by omega), nI_subI h0]
      · have gi := grd (i := i) (n := 600) (by omega) (by decide)
        obtain ⟨_, _, b3, b4⟩ := H.2 i (by omega)
        rw [if_neg (fun hh => by have := (nI_leI (by omega) (by omega)).mp hh; omega), if_neg gi, nI_clamp (by omega), b4, nar_let _ (by omega), Option.bind_some]
        by_cases c : 97 ≤ bt i ∧ bt i ≤ 122
        · rw [if_pos c, if_neg (by decide), nI_1, Option.bind_some, spn_yes (f := isLe bt) (by omega) (decide_eq_true c)]
          exact ih (i + 1) (by omega) (by omega) (by omega)
        · rw [if_neg c, if_pos rfl, spn_no (f := isLe bt) (decide_eq_false c), nI_subI h0]
  unfold f_X11_wordLength
  rw [M_look H hp hN, Option.bind_some, ← hs]
  exact hloop N s (Nat.le_refl _) (by omega) (by omega)


