/-! the law's text, read: the chain of its statements -/
def Pn (t : List Nat) (g : Nat → Int32) (N B x p' : Nat) (se : T_SE) (Q : T_SE → Prop) : Prop := ∀ n, B ≤ n → ∀ (p : Nat) (st tk li wi gr : Int32) (cs nm th bo ra ca a1 a2 a3 a4 sh : Nat → Int32) (sc tc : Int32), f_X8_readStatement N 600 8 96 5 5 8 8 8 8 8 8 4 (nI p) (-1) (nI t.length) g li wi gr cs nm th bo ra ca a1 a2 a3 a4 sh = some (nI p', sc, tc, -1, se) → ∃ b1 b2 b3 b4 se', f_X8_read_b19 N 600 8 96 5 5 8 8 8 8 8 8 4 (nI t.length) g (n + 1) (nI x) (nI p) st tk (-1) li wi gr cs nm th bo ra ca a1 a2 a3 a4 sh = some (-1, b1, b2, b3, b4, se') ∧ Q se'
theorem Pn_stop {t : List Nat} {g buf : Nat → Int32} (H : TB (fun i => t.getD i 0) t.length g buf) {N : Nat} (hN : 700 < N) {x p' : Nat} {se : T_SE} {Q : T_SE → Prop} (h : At t p' []) (hx : x ≤ p') (hQ : Q (finS se)) : Pn t g N 0 x p' se Q := by
  intro n _ p st tk li wi gr cs nm th bo ra ca a1 a2 a3 a4 sh sc tc hs
  have hp : t.length = p' := At_len h
  obtain ⟨b1, b2, b3, b4, e⟩ := D_stop H hN hs h (x := x) (by omega) st tk n
  exact ⟨b1, b2, b3, b4, _, e, hQ⟩
theorem Pn_semi {t : List Nat} {g buf : Nat → Int32} (H : TB (fun i => t.getD i 0) t.length g buf) {N : Nat} (hN : 700 < N) {B x p' p2 : Nat} {r : List Nat} {li wi gr : Int32} {cs nm th bo ra ca a1 a2 a3 a4 sh : Nat → Int32} {sc tc : Int32} {se2 : T_SE} {Q : T_SE → Prop} (h : At t p' (59 :: r)) (hx : x ≤ p') (hs : f_X8_readStatement N 600 8 96 5 5 8 8 8 8 8 8 4 (nI (p' + 1)) (-1) (nI t.length) g li wi gr cs nm th bo ra ca a1 a2 a3 a4 sh = some (nI p2, sc, tc, -1, se2)) (hP : Pn t g N B (x + 1) p2 se2 Q) : Pn t g N (B + 1) x p' (li, wi, gr, cs, nm, th, bo, ra, ca, a1, a2, a3, a4, sh) Q := by
  intro n hn p st tk li0 wi0 gr0 cs0 nm0 th0 bo0 ra0 ca0 b1 b2 b3 b4 sh0 sc0 tc0 hs0
  obtain ⟨m, hm⟩ : ∃ m, n = m + 1 := ⟨n - 1, by omega⟩
  have hp := h.1
  obtain ⟨e1, e2⟩ := D_semi H hN hs0 h (x := x) (by omega) st tk n
  rw [e1, hm]
  exact hP m (by omega) (p' + 1) (nI p') (nI 59) li wi gr cs nm th bo ra ca a1 a2 a3 a4 sh sc tc hs
theorem At_semi {t : List Nat} {p : Nat} {r : List Nat} (h : At t p (59 :: r)) : At t (p + 1) r := At_go (w := [59]) h
/-- pieces one after another -/
def fl (f : Nat → List Nat) : Nat → Nat → List Nat
  | _, 0 => []
  | j, n + 1 => f j ++ fl f (j + 1) n
theorem fl_snoc {f : Nat → List Nat} : ∀ (n j : Nat), fl f j (n + 1) = fl f j n ++ f (j + n)
  | 0, j => by show f j ++ [] = [] ++ f j; rw [List.append_nil]; rfl
  | n + 1, j => by
    show f j ++ fl f (j + 1) (n + 1) = (f j ++ fl f (j + 1) n) ++ f (j + (n + 1))
    rw [fl_snoc n (j + 1), List.append_assoc, show j + 1 + n = j + (n + 1) by omega]
theorem cat_fl {f : Nat → List Nat} {l : List Nat} : ∀ k, cat_of f l k = l ++ fl f 0 k
  | 0 => by show l = l ++ []; rw [List.append_nil]
  | k + 1 => by
    show cat_of f l k ++ f k = _
    rw [cat_fl k, fl_snoc, List.append_assoc, Nat.zero_add]
theorem tx_8 : tx 8 = tx 5 ++ [32] := rfl
theorem tx_9 : tx 9 = 59 :: (tx 6 ++ [32]) := rfl
theorem tx_10 : tx 10 = 59 :: (tx 7 ++ [32]) := rfl
theorem tx_11 : tx 11 = 59 :: (tx 0 ++ [32, 116]) := rfl
theorem tx_12 : tx 12 = [32] := rfl
theorem tx_13 : tx 13 = 59 :: (tx 1 ++ [32, 99]) := rfl
theorem tx_14 : tx 14 = 59 :: (tx 3 ++ [32]) := rfl
theorem tx_16 : tx 16 = 59 :: (tx 2 ++ [32, 99, 97, 32]) := rfl
theorem tx_17 : tx 17 = 59 :: (tx 4 ++ [32, 104, 32]) := rfl
/-- the end of the text, the members', the categories', the tiers' -/
def endT (pf : Nat → Nat) : List Nat := 59 :: (tx 2 ++ (32 :: ([99, 97] ++ (32 :: (dg (fromP pf) ++ (32 :: (dg (toP pf) ++ (32 :: (dg (extraN pf) ++ (59 :: (tx 4 ++ (32 :: ([104] ++ (32 :: (dg (shareN pf) ++ [])))))))))))))))
def tierR (pf : Nat → Nat) (k : Nat) : List Nat := 59 :: (tx 0 ++ (32 :: ([116, 97 + k] ++ (32 :: (dg (k * stepN pf) ++ (32 :: dg (bonusN pf k)))))))
def catR (pf : Nat → Nat) (k : Nat) : List Nat := 59 :: (tx 1 ++ (32 :: ([99, 97 + k] ++ (32 :: (dg (rateN pf k) ++ (32 :: dg (capN pf k)))))))
def memR (pf : Nat → Nat) (k : Nat) : List Nat := 59 :: (tx 3 ++ (32 :: [109, nameN pf k]))
theorem e_tierR (pf : Nat → Nat) : tierT' pf = tierR pf := funext fun k => by
  unfold tierT' tierR
  rw [tx_11, tx_12]
  simp only [List.append_assoc, List.cons_append, List.nil_append]
theorem e_catR (pf : Nat → Nat) : catT pf = catR pf := funext fun k => by
  unfold catT catR
  rw [tx_13, tx_12]
  simp only [List.append_assoc, List.cons_append, List.nil_append]
theorem e_memR (pf : Nat → Nat) : memT pf = memR pf := funext fun k => by
  unfold memT memR
  rw [tx_14]
  simp only [List.append_assoc, List.cons_append, List.nil_append]
theorem cfg_eq (pf : Nat → Nat) : cfgT pf = tx 5 ++ (32 :: (dg (lifeN pf) ++ (59 :: (tx 6 ++ (32 :: (dg (winN pf) ++ (59 :: (tx 7 ++ (32 :: (dg (graceN pf) ++ (fl (tierR pf) 0 (tiersN pf) ++ (fl (catR pf) 0 (catsN pf) ++ (fl (memR pf) 0 (membN pf) ++ endT pf))))))))))))) := by
  unfold cfgT cfg3 cfg2 cfg1 cfg0 endT
  rw [cat_fl, cat_fl, cat_fl, e_tierR, e_catR, e_memR, tx_8, tx_9, tx_10, tx_12, tx_16, tx_17]
  simp only [List.append_assoc, List.cons_append, List.nil_append, List.append_nil]
