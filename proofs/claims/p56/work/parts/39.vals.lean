/-! what the law's own small methods say, as numbers -/
def scI (pf : Nat → Nat) (k : Nat) : Int32 := if k < pf 93 then nI (pf (1000 + k)) else 0
def inN (x : Int32) (m : Nat) : Nat := (x.toBitVec.toNat % 2147483648) % m
theorem inN_lt (x : Int32) {m : Nat} (h : 0 < m) : inN x m < m := Nat.mod_lt _ h
theorem in_and (x : Int32) : x &&& (2147483647 : Int32) = nI (x.toBitVec.toNat % 2147483648) := by
  apply Int32.toBitVec_inj.mp
  apply BitVec.eq_of_toNat_eq
  have h1 : (x &&& (2147483647 : Int32)).toBitVec.toNat = x.toBitVec.toNat &&& 2147483647 := rfl
  rw [h1, show (2147483647 : Nat) = 2 ^ 31 - 1 from rfl, Nat.and_two_pow_sub_one_eq_mod]
  show _ = (BitVec.ofNat 32 (x.toBitVec.toNat % 2147483648)).toNat
  rw [BitVec.toNat_ofNat]
  omega
theorem div_nI {a b : Nat} (ha : a < 2 ^ 31) (hb : b < 2 ^ 31) (h0 : 0 < b) : nI a / nI b = nI (a / b) := by
  apply Int32.toInt_inj.mp
  rw [Int32.toInt_div_of_ne_left _ _ (by
    intro h
    have := congrArg Int32.toInt h
    rw [nI_toInt ha] at this
    have h2 : (Int32.minValue).toInt = -2147483648 := by decide
    omega), nI_toInt ha, nI_toInt hb, nI_toInt (Nat.lt_of_le_of_lt (Nat.div_le_self _ _) ha)]
  exact (Int.ofNat_tdiv a b).symm
theorem in_val (x : Int32) {m : Nat} (hm : 0 < m) (hm2 : m < 2 ^ 31) : f_L_in x (nI m) = some (nI (inN x m)) := by
  unfold f_L_in
  have hx : x.toBitVec.toNat % 2147483648 < 2 ^ 31 := Nat.mod_lt _ (by decide)
  rw [if_neg (nI_ne0 hm hm2), in_and, div_nI hx hm2 hm]
  congr 1
  show nI _ - nI _ * nI _ = _
  rw [show nI (x.toBitVec.toNat % 2147483648 / m) * nI m = nI (x.toBitVec.toNat % 2147483648 / m * m) from (Int32.ofNat_mul _ _).symm, pk_sub (Nat.div_mul_le_self _ _)]
  congr 1
  have := Nat.div_add_mod' (x.toBitVec.toNat % 2147483648) m
  unfold inN
  omega
theorem cell_val {pf : Nat → Nat} (hL : pf 93 < 2 ^ 31) {k : Nat} (hk : k < 1000) : f_cell pf (nI k) = some (scI pf k) := by
  unfold f_cell scI
  by_cases h : k < pf 93
  · rw [if_neg (nI_ge h hL), if_neg (nI_in h hL), if_pos h, nI_clamp (by omega)]
  · rw [if_pos (nI_le (Nat.not_lt.mp h) (by omega)), if_neg h]
def tiersN (pf : Nat → Nat) : Nat := 1 + inN (scI pf 0) 4
def stepN (pf : Nat → Nat) : Nat := 50 + inN (scI pf 1) 400
def bonusN (pf : Nat → Nat) (t : Nat) : Nat := inN (scI pf 1 >>> ((nI (9 + 3 * t)) &&& 31)) 301
def catsN (pf : Nat → Nat) : Nat := 1 + inN (scI pf 0 >>> ((2 : Int32) &&& 31)) 3
def rateN (pf : Nat → Nat) (c : Nat) : Nat := inN (scI pf 2 >>> ((nI (6 * c)) &&& 31)) 51
def capN (pf : Nat → Nat) (c : Nat) : Nat := if inN (scI pf 2 >>> ((20 : Int32) &&& 31)) 2 = 0 then 0 else inN (scI pf 3 >>> ((nI (5 * c)) &&& 31)) 3000
def membN (pf : Nat → Nat) : Nat := 2 + inN (scI pf 0 >>> ((5 : Int32) &&& 31)) 3
def shareN (pf : Nat → Nat) : Nat := inN (scI pf 3 >>> ((16 : Int32) &&& 31)) 101
def lifeN (pf : Nat → Nat) : Nat := 1 + inN (scI pf 4) 60
def winN (pf : Nat → Nat) : Nat := 1 + inN (scI pf 4 >>> ((8 : Int32) &&& 31)) 40
def graceN (pf : Nat → Nat) : Nat := inN (scI pf 4 >>> ((16 : Int32) &&& 31)) 12
def fromP (pf : Nat → Nat) : Nat := inN (scI pf 5) 30
def toP (pf : Nat → Nat) : Nat := fromP pf + inN (scI pf 5 >>> ((8 : Int32) &&& 31)) 30
def extraN (pf : Nat → Nat) : Nat := 1 + inN (scI pf 5 >>> ((16 : Int32) &&& 31)) 500
def nameN (pf : Nat → Nat) (m : Nat) : Nat := 97 + (m * 7 + inN (scI pf 5 >>> ((24 : Int32) &&& 31)) 26) % 26
section VAL
variable {pf : Nat → Nat}
theorem e_tiers (hL : pf 93 < 2 ^ 31) : f_L_tiers pf = some (nI (tiersN pf)) := by
  unfold f_L_tiers
  rw [show (0 : Int32) = nI 0 from rfl, cell_val hL (by decide), Option.bind_some, show (4 : Int32) = nI 4 from rfl, in_val _ (by decide) (by decide), Option.bind_some]
  exact congrArg some (nI_add 1 _)
theorem e_threshold (hL : pf 93 < 2 ^ 31) {t : Nat} (ht : t < 10) : f_L_threshold pf (nI t) = some (nI (t * stepN pf)) := by
  unfold f_L_threshold
  by_cases h : t = 0
  · subst h
    rw [if_pos (show nI 0 = 0 from rfl), Nat.zero_mul]; rfl
  · rw [if_neg (nI_ne0 (by omega) (by omega)), show (1 : Int32) = nI 1 from rfl, cell_val hL (by decide), Option.bind_some, show (400 : Int32) = nI 400 from rfl, in_val _ (by decide) (by decide), Option.bind_some, show (50 : Int32) = nI 50 from rfl, nI_add]
    exact congrArg some (Int32.ofNat_mul _ _).symm
theorem e_bonus (hL : pf 93 < 2 ^ 31) (t : Nat) : f_L_bonus pf (nI t) = some (nI (bonusN pf t)) := by
  unfold f_L_bonus
  rw [show (1 : Int32) = nI 1 from rfl, cell_val hL (by decide), Option.bind_some, show (301 : Int32) = nI 301 from rfl, in_val _ (by decide) (by decide), Option.bind_some]
  have e : (9 : Int32) + (3 : Int32) * nI t = nI (9 + 3 * t) := by
    rw [show (3 : Int32) * nI t = nI (3 * t) from (Int32.ofNat_mul 3 t).symm]
    exact nI_add 9 _
  rw [e]; rfl
theorem e_categories (hL : pf 93 < 2 ^ 31) : f_L_categories pf = some (nI (catsN pf)) := by
  unfold f_L_categories
  rw [show (0 : Int32) = nI 0 from rfl, cell_val hL (by decide), Option.bind_some, show (3 : Int32) = nI 3 from rfl, in_val _ (by decide) (by decide), Option.bind_some]
  exact congrArg some (nI_add 1 _)
theorem e_rate (hL : pf 93 < 2 ^ 31) (c : Nat) : f_L_rate pf (nI c) = some (nI (rateN pf c)) := by
  unfold f_L_rate
  have e : (6 : Int32) * nI c = nI (6 * c) := (Int32.ofNat_mul 6 c).symm
  rw [show (2 : Int32) = nI 2 from rfl, cell_val hL (by decide), Option.bind_some, show (51 : Int32) = nI 51 from rfl, in_val _ (by decide) (by decide), Option.bind_some, e]; rfl
theorem e_cap (hL : pf 93 < 2 ^ 31) (c : Nat) : f_L_cap pf (nI c) = some (nI (capN pf c)) := by
  unfold f_L_cap
  have e : (5 : Int32) * nI c = nI (5 * c) := (Int32.ofNat_mul 5 c).symm
  have h2 : inN (scI pf 2 >>> ((20 : Int32) &&& 31)) 2 < 2 := inN_lt _ (by decide)
  rw [show f_cell pf (2 : Int32) = some (scI pf 2) from cell_val hL (by decide), Option.bind_some, show f_L_in (scI pf 2 >>> ((20 : Int32) &&& 31)) (2 : Int32) = some (nI (inN (scI pf 2 >>> ((20 : Int32) &&& 31)) 2)) from in_val _ (by decide) (by decide), Option.bind_some]
  unfold capN
  by_cases h : inN (scI pf 2 >>> ((20 : Int32) &&& 31)) 2 = 0
  · rw [h, if_pos (show nI 0 = 0 from rfl), if_pos rfl]; rfl
  · rw [if_neg (nI_ne0 (by omega) (by omega)), if_neg h, show f_cell pf (3 : Int32) = some (scI pf 3) from cell_val hL (by decide), Option.bind_some, e, show f_L_in (scI pf 3 >>> (nI (5 * c) &&& 31)) (3000 : Int32) = some (nI (inN (scI pf 3 >>> (nI (5 * c) &&& 31)) 3000)) from in_val _ (by decide) (by decide), Option.bind_some]
theorem e_members (hL : pf 93 < 2 ^ 31) : f_L_members pf = some (nI (membN pf)) := by
  unfold f_L_members
  rw [show (0 : Int32) = nI 0 from rfl, cell_val hL (by decide), Option.bind_some, show (3 : Int32) = nI 3 from rfl, in_val _ (by decide) (by decide), Option.bind_some]
  exact congrArg some (nI_add 2 _)
theorem e_share (hL : pf 93 < 2 ^ 31) : f_L_share pf = some (nI (shareN pf)) := by
  unfold f_L_share
  rw [show (3 : Int32) = nI 3 from rfl, cell_val hL (by decide), Option.bind_some, show (101 : Int32) = nI 101 from rfl, in_val _ (by decide) (by decide), Option.bind_some]; rfl
theorem e_life (hL : pf 93 < 2 ^ 31) : f_L_life pf = some (nI (lifeN pf)) := by
  unfold f_L_life
  rw [show (4 : Int32) = nI 4 from rfl, cell_val hL (by decide), Option.bind_some, show (60 : Int32) = nI 60 from rfl, in_val _ (by decide) (by decide), Option.bind_some]
  exact congrArg some (nI_add 1 _)
theorem e_window (hL : pf 93 < 2 ^ 31) : f_L_window pf = some (nI (winN pf)) := by
  unfold f_L_window
  rw [show (4 : Int32) = nI 4 from rfl, cell_val hL (by decide), Option.bind_some, show (40 : Int32) = nI 40 from rfl, in_val _ (by decide) (by decide), Option.bind_some]
  exact congrArg some (nI_add 1 _)
theorem e_grace (hL : pf 93 < 2 ^ 31) : f_L_grace pf = some (nI (graceN pf)) := by
  unfold f_L_grace
  rw [show (4 : Int32) = nI 4 from rfl, cell_val hL (by decide), Option.bind_some, show (12 : Int32) = nI 12 from rfl, in_val _ (by decide) (by decide), Option.bind_some]; rfl
theorem e_from (hL : pf 93 < 2 ^ 31) : f_L_from pf = some (nI (fromP pf)) := by
  unfold f_L_from
  rw [show (5 : Int32) = nI 5 from rfl, cell_val hL (by decide), Option.bind_some, show (30 : Int32) = nI 30 from rfl, in_val _ (by decide) (by decide), Option.bind_some]; rfl
theorem e_to (hL : pf 93 < 2 ^ 31) : f_L_to pf = some (nI (toP pf)) := by
  unfold f_L_to
  rw [e_from hL, Option.bind_some, show (5 : Int32) = nI 5 from rfl, cell_val hL (by decide), Option.bind_some, show (30 : Int32) = nI 30 from rfl, in_val _ (by decide) (by decide), Option.bind_some, nI_add]; rfl
theorem e_extra (hL : pf 93 < 2 ^ 31) : f_L_extra pf = some (nI (extraN pf)) := by
  unfold f_L_extra
  rw [show (5 : Int32) = nI 5 from rfl, cell_val hL (by decide), Option.bind_some, show (500 : Int32) = nI 500 from rfl, in_val _ (by decide) (by decide), Option.bind_some]
  exact congrArg some (nI_add 1 _)
theorem b_tiers : 1 ≤ tiersN pf ∧ tiersN pf ≤ 4 := by have := inN_lt (scI pf 0) (m := 4) (by decide); unfold tiersN; omega
theorem b_step : 50 ≤ stepN pf ∧ stepN pf ≤ 449 := by have := inN_lt (scI pf 1) (m := 400) (by decide); unfold stepN; omega
theorem b_bonus (t : Nat) : bonusN pf t ≤ 300 := by have := inN_lt (scI pf 1 >>> ((nI (9 + 3 * t)) &&& 31)) (m := 301) (by decide); unfold bonusN; omega
theorem b_cats : 1 ≤ catsN pf ∧ catsN pf ≤ 3 := by have := inN_lt (scI pf 0 >>> ((2 : Int32) &&& 31)) (m := 3) (by decide); unfold catsN; omega
theorem b_rate (c : Nat) : rateN pf c ≤ 50 := by have := inN_lt (scI pf 2 >>> ((nI (6 * c)) &&& 31)) (m := 51) (by decide); unfold rateN; omega
theorem b_cap (c : Nat) : capN pf c ≤ 2999 := by
  have := inN_lt (scI pf 3 >>> ((nI (5 * c)) &&& 31)) (m := 3000) (by decide)
  unfold capN
  split <;> omega
theorem b_memb : 2 ≤ membN pf ∧ membN pf ≤ 4 := by have := inN_lt (scI pf 0 >>> ((5 : Int32) &&& 31)) (m := 3) (by decide); unfold membN; omega
theorem b_share : shareN pf ≤ 100 := by have := inN_lt (scI pf 3 >>> ((16 : Int32) &&& 31)) (m := 101) (by decide); unfold shareN; omega
theorem b_life : 1 ≤ lifeN pf ∧ lifeN pf ≤ 60 := by have := inN_lt (scI pf 4) (m := 60) (by decide); unfold lifeN; omega
theorem b_win : 1 ≤ winN pf ∧ winN pf ≤ 40 := by have := inN_lt (scI pf 4 >>> ((8 : Int32) &&& 31)) (m := 40) (by decide); unfold winN; omega
theorem b_grace : graceN pf ≤ 11 := by have := inN_lt (scI pf 4 >>> ((16 : Int32) &&& 31)) (m := 12) (by decide); unfold graceN; omega
theorem b_from : fromP pf ≤ 29 := by have := inN_lt (scI pf 5) (m := 30) (by decide); unfold fromP; omega
theorem b_to : fromP pf ≤ toP pf ∧ toP pf ≤ 58 := by have := inN_lt (scI pf 5 >>> ((8 : Int32) &&& 31)) (m := 30) (by decide); have := b_from (pf := pf); unfold toP; omega
theorem b_extra : 1 ≤ extraN pf ∧ extraN pf ≤ 500 := by have := inN_lt (scI pf 5 >>> ((16 : Int32) &&& 31)) (m := 500) (by decide); unfold extraN; omega
theorem b_name (m : Nat) : 97 ≤ nameN pf m ∧ nameN pf m ≤ 122 := by unfold nameN; omega
end VAL
/-- the law's text -/
def tierT' (pf : Nat → Nat) (k : Nat) : List Nat := tx 11 ++ [97 + k] ++ tx 12 ++ dg (k * stepN pf) ++ tx 12 ++ dg (bonusN pf k)
def catT (pf : Nat → Nat) (c : Nat) : List Nat := tx 13 ++ [97 + c] ++ tx 12 ++ dg (rateN pf c) ++ tx 12 ++ dg (capN pf c)
def memT (pf : Nat → Nat) (m : Nat) : List Nat := tx 14 ++ [109, nameN pf m]
def cat_of (f : Nat → List Nat) (l : List Nat) : Nat → List Nat
  | 0 => l
  | k + 1 => cat_of f l k ++ f k
def cfg0 (pf : Nat → Nat) : List Nat := tx 8 ++ dg (lifeN pf) ++ tx 9 ++ dg (winN pf) ++ tx 10 ++ dg (graceN pf)
def cfg1 (pf : Nat → Nat) (k : Nat) : List Nat := cat_of (tierT' pf) (cfg0 pf) k
def cfg2 (pf : Nat → Nat) (k : Nat) : List Nat := cat_of (catT pf) (cfg1 pf (tiersN pf)) k
def cfg3 (pf : Nat → Nat) (k : Nat) : List Nat := cat_of (memT pf) (cfg2 pf (catsN pf)) k
def cfgT (pf : Nat → Nat) : List Nat := cfg3 pf (membN pf) ++ tx 16 ++ dg (fromP pf) ++ tx 12 ++ dg (toP pf) ++ tx 12 ++ dg (extraN pf) ++ tx 17 ++ dg (shareN pf)
theorem cat_len {f : Nat → List Nat} {l : List Nat} {n : Nat} (h : ∀ k, (f k).length ≤ n) : ∀ k, (cat_of f l k).length ≤ l.length + n * k
  | 0 => Nat.le_refl _
  | k + 1 => by
    have h1 := cat_len (l := l) h k
    have h2 := h k
    show (cat_of f l k ++ f k).length ≤ _
    rw [List.length_append, Nat.mul_succ]
    omega
theorem cat_AS {f : Nat → List Nat} {l : List Nat} (hl : AS l) : ∀ k, (∀ j, j < k → AS (f j)) → AS (cat_of f l k)
  | 0, _ => hl
  | k + 1, h => AS_app (cat_AS hl k fun j hj => h j (by omega)) (h k (by omega))
theorem l_tier (pf : Nat → Nat) (k : Nat) : (tierT' pf k).length ≤ 18 := by
  have h1 := dg_len (k * stepN pf)
  have h2 := dg_len (bonusN pf k)
  have e1 : (tx 11).length = 7 := by decide
  have e2 : (tx 12).length = 1 := by decide
  unfold tierT'
  simp only [List.length_append, List.length_cons, List.length_nil]
  omega
theorem l_cat (pf : Nat → Nat) (k : Nat) : (catT pf k).length ≤ 22 := by
  have h1 := dg_len (rateN pf k)
  have h2 := dg_len (capN pf k)
  have e1 : (tx 13).length = 11 := by decide
  have e2 : (tx 12).length = 1 := by decide
  unfold catT
  simp only [List.length_append, List.length_cons, List.length_nil]
  omega
theorem l_mem (pf : Nat → Nat) (k : Nat) : (memT pf k).length ≤ 10 := by
  have e1 : (tx 14).length = 8 := by decide
  unfold memT
  simp only [List.length_append, List.length_cons, List.length_nil]
  omega
theorem l_cfg0 (pf : Nat → Nat) : (cfg0 pf).length ≤ 32 := by
  have h1 := dg_len (lifeN pf)
  have h2 := dg_len (winN pf)
  have h3 := dg_len (graceN pf)
  have e1 : (tx 8).length = 5 := by decide
  have e2 : (tx 9).length = 8 := by decide
  have e3 : (tx 10).length = 7 := by decide
  unfold cfg0
  simp only [List.length_append]
  omega
theorem l_cfg1 (pf : Nat → Nat) {k : Nat} (h : k ≤ 4) : (cfg1 pf k).length ≤ 104 := by
  have h1 := cat_len (l := cfg0 pf) (l_tier pf) k
  have h2 := l_cfg0 pf
  unfold cfg1
  omega
theorem l_cfg2 (pf : Nat → Nat) {k : Nat} (h : k ≤ 3) : (cfg2 pf k).length ≤ 170 := by
  have h1 := cat_len (l := cfg1 pf (tiersN pf)) (l_cat pf) k
  have h2 := l_cfg1 pf (k := tiersN pf) b_tiers.2
  unfold cfg2
  omega
theorem l_cfg3 (pf : Nat → Nat) {k : Nat} (h : k ≤ 4) : (cfg3 pf k).length ≤ 210 := by
  have h1 := cat_len (l := cfg2 pf (catsN pf)) (l_mem pf) k
  have h2 := l_cfg2 pf (k := catsN pf) b_cats.2
  unfold cfg3
  omega
theorem l_cfg (pf : Nat → Nat) : (cfgT pf).length ≤ 300 := by
  have h0 := l_cfg3 pf (k := membN pf) b_memb.2
  have h1 := dg_len (fromP pf)
  have h2 := dg_len (toP pf)
  have h3 := dg_len (extraN pf)
  have h4 := dg_len (shareN pf)
  have e1 : (tx 16).length = 10 := by decide
  have e2 : (tx 12).length = 1 := by decide
  have e3 : (tx 17).length = 9 := by decide
  unfold cfgT
  simp only [List.length_append]
  omega
theorem a_tier (pf : Nat → Nat) {k : Nat} (h : k < 4) : AS (tierT' pf k) := by
  have := (b_step (pf := pf)).2
  have h2 : k * stepN pf ≤ 3 * 449 := Nat.mul_le_mul (by omega) this
  have h3 := b_bonus (pf := pf) k
  exact AS_app (AS_app (AS_app (AS_app (AS_app (tx_AS (by decide)) (AS_one (by omega))) (tx_AS (by decide))) (dg_AS (by omega))) (tx_AS (by decide))) (dg_AS (by omega))
theorem a_cat (pf : Nat → Nat) {k : Nat} (h : k < 4) : AS (catT pf k) := by
  have h2 := b_rate (pf := pf) k
  have h3 := b_cap (pf := pf) k
  exact AS_app (AS_app (AS_app (AS_app (AS_app (tx_AS (by decide)) (AS_one (by omega))) (tx_AS (by decide))) (dg_AS (by omega))) (tx_AS (by decide))) (dg_AS (by omega))
theorem a_mem (pf : Nat → Nat) (k : Nat) : AS (memT pf k) := by
  have h2 := b_name (pf := pf) k
  exact AS_app (tx_AS (by decide)) (AS_of (fun c hc => by simp only [List.mem_cons, List.not_mem_nil, or_false] at hc; omega))
theorem a_cfg0 (pf : Nat → Nat) : AS (cfg0 pf) := by
  have h1 := b_life (pf := pf)
  have h2 := b_win (pf := pf)
  have h3 := b_grace (pf := pf)
  exact AS_app (AS_app (AS_app (AS_app (AS_app (tx_AS (by decide)) (dg_AS (by omega))) (tx_AS (by decide))) (dg_AS (by omega))) (tx_AS (by decide))) (dg_AS (by omega))
theorem a_cfg1 (pf : Nat → Nat) {k : Nat} (h : k ≤ 4) : AS (cfg1 pf k) := cat_AS (a_cfg0 pf) k fun j hj => a_tier pf (by omega)
theorem a_cfg2 (pf : Nat → Nat) {k : Nat} (h : k ≤ 4) : AS (cfg2 pf k) := cat_AS (a_cfg1 pf b_tiers.2) k fun j hj => a_cat pf (by omega)
theorem a_cfg3 (pf : Nat → Nat) (k : Nat) : AS (cfg3 pf k) := cat_AS (a_cfg2 pf (Nat.le_trans b_cats.2 (by decide))) k fun j _ => a_mem pf j
theorem a_cfg (pf : Nat → Nat) : AS (cfgT pf) := by
  have h1 := b_from (pf := pf)
  have h2 := (b_to (pf := pf)).2
  have h3 := (b_extra (pf := pf)).2
  have h4 := b_share (pf := pf)
  exact AS_app (AS_app (AS_app (AS_app (AS_app (AS_app (AS_app (AS_app (a_cfg3 pf _) (tx_AS (by decide))) (dg_AS (by omega))) (tx_AS (by decide))) (dg_AS (by omega))) (tx_AS (by decide))) (dg_AS (by omega))) (tx_AS (by decide))) (dg_AS (by omega))
