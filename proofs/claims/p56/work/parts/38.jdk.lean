/-! texts as lists of small numbers; what the JDK's builders and texts do to them -/
def pf_txt : List (List Nat) := [[116, 105, 101, 114], [99, 97, 116, 101, 103, 111, 114, 121], [112, 114, 111, 109, 111], [109, 101, 109, 98, 101, 114], [104, 111, 117, 115, 101], [108, 105, 102, 101], [119, 105, 110, 100, 111, 119], [103, 114, 97, 99, 101], [108, 105, 102, 101, 32], [59, 119, 105, 110, 100, 111, 119, 32], [59, 103, 114, 97, 99, 101, 32], [59, 116, 105, 101, 114, 32, 116], [32], [59, 99, 97, 116, 101, 103, 111, 114, 121, 32, 99], [59, 109, 101, 109, 98, 101, 114, 32], [109], [59, 112, 114, 111, 109, 111, 32, 99, 97, 32], [59, 104, 111, 117, 115, 101, 32, 104, 32], [], [120, 59, 32, 57, 45]]
def tx (i : Nat) : List Nat := pf_txt.getD i []
def bN (l : List Nat) : Nat → Int32 := fun i => nI (l.getD i 0)
def AS (l : List Nat) : Prop := ∀ i, l.getD i 0 < 128
theorem gD_app (l s : List Nat) (i : Nat) : (l ++ s).getD i 0 = if i < l.length then l.getD i 0 else s.getD (i - l.length) 0 := by
  rw [List.getD_eq_getElem?_getD, List.getD_eq_getElem?_getD, List.getD_eq_getElem?_getD, List.getElem?_append]
  split <;> rfl
theorem gD_out {l : List Nat} {i : Nat} (h : l.length ≤ i) : l.getD i 0 = 0 := by
  rw [List.getD_eq_getElem?_getD, List.getElem?_eq_none h]; rfl
theorem AS_app {l s : List Nat} (h : AS l) (h2 : AS s) : AS (l ++ s) := fun i => by
  rw [gD_app]
  split
  · exact h i
  · exact h2 _
theorem AS_of {l : List Nat} (h : ∀ c ∈ l, c < 128) : AS l := fun i => by
  rw [List.getD_eq_getElem?_getD]
  cases hi : l[i]? with
  | none => decide
  | some c => exact h c (List.mem_of_getElem? hi)
theorem AS_nil : AS [] := AS_of (fun c h => by cases h)
theorem AS_one {c : Nat} (h : c < 128) : AS [c] := AS_of (fun d hd => by rw [List.mem_singleton.mp hd]; exact h)
theorem fit_b0 : ∀ n : Nat, n < 128 → fits .byte (.int (nI n)) = true := by decide +kernel
theorem fit_b {n : Nat} (h : n < 128) : fits .byte (.int (nI n)) = true := fit_b0 n h
theorem i2b_0 : ∀ n : Nat, n < 128 → (nI n).toInt8.toInt32 = nI n := by decide +kernel
theorem nar_b0 : ∀ n : Nat, n < 128 → vp_nar .byte (nI n) = nI n := by decide +kernel
theorem bN_cat (l s : List Nat) : va_cpy (bN s) (bN l) 0 l.length s.length = bN (l ++ s) := by
  funext i
  unfold bN
  rw [gD_app]
  by_cases h1 : i < l.length
  · rw [pk_cpy_out (Or.inl h1), if_pos h1]
  · rw [if_neg h1]
    by_cases h2 : i < l.length + s.length
    · rw [pk_cpy_in (by omega) h2, Nat.zero_add]
    · rw [pk_cpy_out (Or.inr (by omega)), gD_out (by omega), gD_out (by omega)]
theorem bN_nil : bN [] = fun _ => 0 := by
  funext i
  unfold bN
  rw [gD_out (Nat.zero_le _)]; rfl
theorem bN_grow {l : List Nat} {n : Nat} (h : l.length ≤ n) : va_cpy (bN l) (fun _ => 0) 0 0 n = bN l := by
  funext i
  by_cases h1 : i < n
  · rw [pk_cpy_in (Nat.zero_le _) (by omega), Nat.zero_add, Nat.sub_zero]
  · rw [pk_cpy_out (Or.inr (by omega))]
    unfold bN
    rw [gD_out (by omega)]; rfl
theorem bN_push (l : List Nat) (c : Nat) : upd (bN l) l.length (nI c) = bN (l ++ [c]) := by
  funext i
  unfold bN
  rw [gD_app]
  by_cases h1 : i = l.length
  · subst h1
    rw [pk_us, if_neg (Nat.lt_irrefl _), Nat.sub_self]; rfl
  · rw [pk_un h1]
    by_cases h2 : i < l.length
    · rw [if_pos h2]
    · rw [if_neg h2, gD_out (by omega), gD_out (by show 1 ≤ _; omega)]
theorem gD_sub (l : List Nat) (b n i : Nat) : ((l.drop b).take n).getD i 0 = if i < n then l.getD (b + i) 0 else 0 := by
  rw [List.getD_eq_getElem?_getD, List.getD_eq_getElem?_getD, List.getElem?_take, List.getElem?_drop]
  split <;> rfl
theorem AS_sub {l : List Nat} (h : AS l) (b n : Nat) : AS ((l.drop b).take n) := fun i => by
  rw [gD_sub]
  split
  · exact h _
  · decide
theorem bN_sub (l : List Nat) (b n : Nat) : va_cpy (bN l) (fun _ => 0) b 0 n = bN ((l.drop b).take n) := by
  funext i
  show _ = nI (((l.drop b).take n).getD i 0)
  rw [gD_sub]
  by_cases h1 : i < n
  · rw [pk_cpy_in (Nat.zero_le _) (by omega), if_pos h1, Nat.sub_zero]; rfl
  · rw [pk_cpy_out (Or.inr (by omega)), if_neg h1]; rfl
theorem tx_len : ∀ i : Nat, i < 20 → sl_len i = (tx i).length := by decide +kernel
theorem tx_AS0 : ∀ i : Nat, i < 20 → ∀ c ∈ tx i, c < 128 := by decide +kernel
theorem tx_AS {i : Nat} (h : i < 20) : AS (tx i) := AS_of (tx_AS0 i h)
theorem tx_byt : pf_byt = pf_txt.map (fun l => l.map nI) := by decide +kernel
theorem tx_ch (i : Nat) : sl_ch i = bN (tx i) := by
  funext k
  unfold sl_ch bN tx
  rw [tx_byt, List.getD_eq_getElem?_getD, List.getD_eq_getElem?_getD, List.getD_eq_getElem?_getD, List.getD_eq_getElem?_getD, List.getElem?_map]
  cases h : pf_txt[i]? with
  | none => rfl
  | some l =>
    show ((l.map nI)[k]?).getD 0 = nI ((l[k]?).getD 0)
    rw [List.getElem?_map]
    cases l[k]? <;> rfl
theorem bN_catS {i : Nat} (hi : i < 20) (l : List Nat) : va_cpy (sl_ch i) (bN l) 0 l.length (sl_len i) = bN (l ++ tx i) := by
  rw [tx_ch, tx_len i hi, bN_cat]
theorem mx_max {a b : Nat} (ha : a < 2 ^ 31) (hb : b < 2 ^ 31) : (if nI a < nI b then nI b else nI a) = nI (max a b) := by
  by_cases h : a < b
  · rw [if_pos ((nI_ltI ha hb).mpr h), show max a b = b by omega]
  · rw [if_neg (fun z => h ((nI_ltI ha hb).mp z)), show max a b = a by omega]
theorem sub_le0 {x n : Nat} (h : x ≤ n) (hn : n < 2 ^ 30) : nI x - nI n ≤ 0 := by
  rw [Int32.le_iff_toInt_le, pk_sub_toInt (by omega) (by omega), Int32.toInt_zero]; omega
theorem clamp0 : (0 : Int32).toNatClampNeg = 0 := rfl
/-- the decimal digits of a number below 10000 -/
def dg (x : Nat) : List Nat := if x < 10 then [48 + x % 10] else if x < 100 then [48 + x / 10, 48 + x % 10] else if x < 1000 then [48 + x / 100 % 10, 48 + x % 100 / 10, 48 + x % 100 % 10] else [48 + x / 100 / 10, 48 + x / 100 % 10, 48 + x % 100 / 10, 48 + x % 100 % 10]
theorem dg_AS {x : Nat} (h : x < 10000) : AS (dg x) := AS_of (fun c hc => by
  unfold dg at hc
  split at hc
  · simp only [List.mem_cons, List.not_mem_nil, or_false] at hc; omega
  · split at hc
    · simp only [List.mem_cons, List.not_mem_nil, or_false] at hc; omega
    · split at hc <;> (simp only [List.mem_cons, List.not_mem_nil, or_false] at hc; omega))
theorem dg_len (x : Nat) : (dg x).length ≤ 4 := by
  unfold dg
  split
  · exact Nat.le_of_ble_eq_true rfl
  · split
    · exact Nat.le_of_ble_eq_true rfl
    · split <;> exact Nat.le_of_ble_eq_true rfl
theorem dg_1 {x : Nat} (h : x < 10) : dg x = [48 + x % 10] := if_pos h
theorem dg_2 {x : Nat} (h : ¬ x < 10) (h2 : x < 100) : dg x = [48 + x / 10, 48 + x % 10] := (if_neg h).trans (if_pos h2)
theorem dg_3 {x : Nat} (h : ¬ x < 100) (h2 : x < 1000) : dg x = [48 + x / 100 % 10, 48 + x % 100 / 10, 48 + x % 100 % 10] := (if_neg (by omega)).trans ((if_neg h).trans (if_pos h2))
theorem dg_4 {x : Nat} (h : ¬ x < 1000) : dg x = [48 + x / 100 / 10, 48 + x / 100 % 10, 48 + x % 100 / 10, 48 + x % 100 % 10] := (if_neg (by omega)).trans ((if_neg (by omega)).trans (if_neg h))
theorem neg_toInt {x : Nat} (h : x < 2 ^ 31) : (-nI x).toInt = -(x : Int) := sb_negT h
theorem neg_le {x n : Nat} {m : Int32} (hx : x < 2 ^ 31) (hm : m.toInt = -(n : Int)) : -nI x ≤ m ↔ n ≤ x := by
  rw [Int32.le_iff_toInt_le, neg_toInt hx, hm]; omega
theorem neg_gt {x n : Nat} {m : Int32} (hx : x < 2 ^ 31) (hm : m.toInt = -(n : Int)) : m < -nI x ↔ x < n := by
  rw [Int32.lt_iff_toInt_lt, neg_toInt hx, hm]; omega
theorem neg_ge {x n : Nat} {m : Int32} (hx : x < 2 ^ 31) (hm : m.toInt = -(n : Int)) : m ≤ -nI x ↔ x ≤ n := by
  rw [Int32.le_iff_toInt_le, neg_toInt hx, hm]; omega
theorem neg_neg' (x : Int32) : - -x = x := by simp
theorem neg_div0 {x : Nat} (h : x < 10000) : (-nI x) / (100 : Int32) = -nI (x / 100) := by
  apply Int32.toInt_inj.mp
  rw [Int32.toInt_div_of_ne_left _ _ (by
    intro h2
    have := congrArg Int32.toInt h2
    rw [neg_toInt (by omega)] at this
    have h3 : (Int32.minValue).toInt = -2147483648 := by decide
    omega), neg_toInt (by omega), neg_toInt (Nat.lt_of_le_of_lt (Nat.div_le_self _ _) (by omega)), show (100 : Int32).toInt = 100 from rfl, Int.neg_tdiv]
  exact congrArg _ (Int.ofNat_tdiv x 100).symm
theorem neg_rem0 {x : Nat} (h : x < 10000) : (-nI (x / 100)) * (100 : Int32) - (-nI x) = nI (x % 100) := by
  rw [Int32.sub_eq_add_neg, Int32.neg_neg, Int32.neg_mul, Int32.add_comm, ← Int32.sub_eq_add_neg, show nI (x / 100) * (100 : Int32) = nI (x / 100 * 100) from (Int32.ofNat_mul _ _).symm, pk_sub (Nat.div_mul_le_self _ _)]
  congr 1
  omega
theorem dec1 (n : Nat) : nI (n + 1) + (-1 : Int32) = nI n := by
  rw [nI_succ, Int32.add_assoc, show (1 : Int32) + (-1) = 0 by decide, Int32.add_zero]
theorem up2 (l : List Nat) (a b : Nat) : upd (upd (bN l) (l.length + 1) (nI b)) l.length (nI a) = bN (l ++ [a, b]) := by
  funext i
  unfold bN
  rw [gD_app]
  by_cases h1 : i = l.length
  · subst h1; rw [pk_us, if_neg (Nat.lt_irrefl _), Nat.sub_self]; rfl
  · rw [pk_un h1]
    by_cases h2 : i = l.length + 1
    · subst h2; rw [pk_us, if_neg (by omega), Nat.add_sub_cancel_left]; rfl
    · rw [pk_un h2]
      by_cases h3 : i < l.length
      · rw [if_pos h3]
      · rw [if_neg h3, gD_out (by omega), gD_out (by show 2 ≤ _; omega)]
theorem up3 (l : List Nat) (a b c : Nat) : upd (upd (upd (bN l) (l.length + 2) (nI c)) (l.length + 1) (nI b)) l.length (nI a) = bN (l ++ [a, b, c]) := by
  funext i
  unfold bN
  rw [gD_app]
  by_cases h1 : i = l.length
  · subst h1; rw [pk_us, if_neg (Nat.lt_irrefl _), Nat.sub_self]; rfl
  · rw [pk_un h1]
    by_cases h2 : i = l.length + 1
    · subst h2; rw [pk_us, if_neg (by omega), Nat.add_sub_cancel_left]; rfl
    · rw [pk_un h2]
      by_cases h4 : i = l.length + 2
      · subst h4; rw [pk_us, if_neg (by omega), Nat.add_sub_cancel_left]; rfl
      · rw [pk_un h4]
        by_cases h3 : i < l.length
        · rw [if_pos h3]
        · rw [if_neg h3, gD_out (by omega), gD_out (by show 3 ≤ _; omega)]
theorem up4 (l : List Nat) (a b c d : Nat) : upd (upd (upd (upd (bN l) (l.length + 3) (nI d)) (l.length + 2) (nI c)) (l.length + 1) (nI b)) l.length (nI a) = bN (l ++ [a, b, c, d]) := by
  funext i
  unfold bN
  rw [gD_app]
  by_cases h1 : i = l.length
  · subst h1; rw [pk_us, if_neg (Nat.lt_irrefl _), Nat.sub_self]; rfl
  · rw [pk_un h1]
    by_cases h2 : i = l.length + 1
    · subst h2; rw [pk_us, if_neg (by omega), Nat.add_sub_cancel_left]; rfl
    · rw [pk_un h2]
      by_cases h4 : i = l.length + 2
      · subst h4; rw [pk_us, if_neg (by omega), Nat.add_sub_cancel_left]; rfl
      · rw [pk_un h4]
        by_cases h5 : i = l.length + 3
        · subst h5; rw [pk_us, if_neg (by omega), Nat.add_sub_cancel_left]; rfl
        · rw [pk_un h5]
          by_cases h3 : i < l.length
          · rw [if_pos h3]
          · rw [if_neg h3, gD_out (by omega), gD_out (by show 4 ≤ _; omega)]
/-- a digit stored at a place -/
theorem st_dig {f : Nat → Int32} {n q : Nat} (hn : n < 2 ^ 31) (hq : q < 128) : upd f (nI n).toNatClampNeg (vp_nar .byte (nI q)) = upd f n (nI q) := by
  rw [nI_clamp hn, nar_b0 q hq]
theorem in_row {n cap : Nat} (h : n < cap) (hc : cap ≤ 4096) : ¬ (nI n < 0 ∨ cap ≤ (nI n).toNatClampNeg) := vp_in_nI h (by omega)
theorem set0 {α : Type} {a b : α} {l : List α} (h : a = b) : (a :: l) = (b :: l) := by rw [h]

theorem dJ8_newLength_cabcc_0 : decode cJ8_newLength_cabcc 0 = .ok (.iload_n 0, 1) := by decide +kernel
theorem dJ8_newLength_cabcc_1 : decode cJ8_newLength_cabcc 1 = .ok (.iload_n 1, 1) := by decide +kernel
theorem dJ8_newLength_cabcc_2 : decode cJ8_newLength_cabcc 2 = .ok (.iload_n 2, 1) := by decide +kernel
theorem dJ8_newLength_cabcc_3 : decode cJ8_newLength_cabcc 3 = .ok (.invokestatic 194, 3) := by decide +kernel
theorem dJ8_newLength_cabcc_6 : decode cJ8_newLength_cabcc 6 = .ok (.iadd, 1) := by decide +kernel
theorem dJ8_newLength_cabcc_7 : decode cJ8_newLength_cabcc 7 = .ok (.istore_n 3, 1) := by decide +kernel
theorem dJ8_newLength_cabcc_8 : decode cJ8_newLength_cabcc 8 = .ok (.iconst 0, 1) := by decide +kernel
theorem dJ8_newLength_cabcc_9 : decode cJ8_newLength_cabcc 9 = .ok (.iload_n 3, 1) := by decide +kernel
theorem dJ8_newLength_cabcc_10 : decode cJ8_newLength_cabcc 10 = .ok (.if_icmp .ge 11, 3) := by decide +kernel
theorem dJ8_newLength_cabcc_13 : decode cJ8_newLength_cabcc 13 = .ok (.iload_n 3, 1) := by decide +kernel
theorem dJ8_newLength_cabcc_14 : decode cJ8_newLength_cabcc 14 = .ok (.ldc 200, 2) := by decide +kernel
theorem dJ8_newLength_cabcc_16 : decode cJ8_newLength_cabcc 16 = .ok (.if_icmp .gt 5, 3) := by decide +kernel
theorem dJ8_newLength_cabcc_19 : decode cJ8_newLength_cabcc 19 = .ok (.iload_n 3, 1) := by decide +kernel
theorem dJ8_newLength_cabcc_20 : decode cJ8_newLength_cabcc 20 = .ok (.ireturn, 1) := by decide +kernel
theorem dJ8_newLength_cabcc_21 : decode cJ8_newLength_cabcc 21 = .ok (.iload_n 0, 1) := by decide +kernel
theorem dJ8_newLength_cabcc_22 : decode cJ8_newLength_cabcc 22 = .ok (.iload_n 1, 1) := by decide +kernel
theorem dJ8_newLength_cabcc_23 : decode cJ8_newLength_cabcc 23 = .ok (.invokestatic 201, 3) := by decide +kernel
theorem dJ8_newLength_cabcc_26 : decode cJ8_newLength_cabcc 26 = .ok (.ireturn, 1) := by decide +kernel

set_option maxHeartbeats 4000000 in
set_option maxRecDepth 100000 in
theorem c_newLen (l : Launch) (D : va_G) (cI cB cL cO : ClassId) (pf : Nat → Nat) (o g p : Nat) (h : o + g + p < 2 ^ 30) (h0 : 0 < p) : Ct l D [(cI, .int), (cB, .byte), (cL, .byte), (cO, .object RX0)] pf yJ8_newLength_cabcc cJ8_newLength_cabcc 4 (some FieldType.int) { frames := 1, cells := 0, slots := 0, locals := 24 } [.int (nI o), .int (nI g), .int (nI p)] [] (is1 (some (.int (nI (o + max g p)))) []) := by
  refine Ct_of (own := RJ8) (lv0 := [(0, .int (nI o)), (1, .int (nI g)), (2, .int (nI p))]) (by decide) rfl rfl (Nat.le_of_ble_eq_true rfl) ?_
  intro pZ eZ sZ mZ argsZ belowZ methZ cZ C hr hnm
  refine J_iload_n (pc := 0) C dJ8_newLength_cabcc_0 0 rfl ?_
  refine J_iload_n (pc := 1) C dJ8_newLength_cabcc_1 1 rfl ?_
  refine J_iload_n (pc := 2) C dJ8_newLength_cabcc_2 2 rfl ?_
  refine J_mmax (pc := 3) C dJ8_newLength_cabcc_3 ml_RJ8_194 w_max (Nat.le_of_ble_eq_true rfl) (Nat.le_of_ble_eq_true rfl) ⟨(by first | exact Nat.le_of_ble_eq_true rfl | omega | (dsimp only; omega)), (by first | exact Nat.le_of_ble_eq_true rfl | omega | (dsimp only; omega))⟩ ?_
  refine J_top (α := Unit) (X := none) (nI (max g p)) (mx_max (by omega) (by omega)) ?_
  refine J_iadd (pc := 6) C dJ8_newLength_cabcc_6 ?_
  refine J_top (α := Unit) (X := none) (nI (o + max g p)) (nI_add _ _) ?_
  refine J_istore_n (lv2 := [(3, .int (nI (o + max g p))), (0, .int (nI o)), (1, .int (nI g)), (2, .int (nI p))]) (pc := 7) C dJ8_newLength_cabcc_7 (by decide) rfl ?_
  refine J_iconst (v := (0 : Int32)) (pc := 8) C dJ8_newLength_cabcc_8 (by decide) ?_
  refine J_iload_n (pc := 9) C dJ8_newLength_cabcc_9 0 rfl ?_
  refine J_ic_ge (α := Unit) (o := ()) (X := none) (Y := some ()) (pc := 10) (tgt := 21) C dJ8_newLength_cabcc_10 (by decide) (if_neg (nI_nle (by omega) (by omega))) (fun h => by cases h) (fun _ => ?_)
  refine J_iload_n (pc := 13) C dJ8_newLength_cabcc_13 0 rfl ?_
  refine J_ldc (pc := 14) C dJ8_newLength_cabcc_14 cw_RJ8_200 ?_
  refine J_ic_gt (α := Unit) (o := ()) (X := none) (Y := some ()) (pc := 16) (tgt := 21) C dJ8_newLength_cabcc_16 (by decide) (if_neg (show ¬ nI 2147483639 < nI (o + max g p) from nI_nlt (by omega) (by decide))) (fun h => by cases h) (fun _ => ?_)
  refine J_iload_n (pc := 19) C dJ8_newLength_cabcc_19 0 rfl ?_
  refine J_widen (k2 := 0) (n2 := 0) (by first | exact Nat.le_of_ble_eq_true rfl | omega | (dsimp only; omega)) (by first | exact Nat.le_of_ble_eq_true rfl | omega | (dsimp only; omega)) ?_
  exact J_iret (pc := 20) C dJ8_newLength_cabcc_20 hr ⟨rfl, rfl⟩

theorem dJ5_newCapacity_0f7a4_0 : decode cJ5_newCapacity_0f7a4 0 = .ok (.aload_n 0, 1) := by decide +kernel
theorem dJ5_newCapacity_0f7a4_1 : decode cJ5_newCapacity_0f7a4 1 = .ok (.getfield 15, 3) := by decide +kernel
theorem dJ5_newCapacity_0f7a4_4 : decode cJ5_newCapacity_0f7a4 4 = .ok (.arraylength, 1) := by decide +kernel
theorem dJ5_newCapacity_0f7a4_5 : decode cJ5_newCapacity_0f7a4 5 = .ok (.istore_n 2, 1) := by decide +kernel
theorem dJ5_newCapacity_0f7a4_6 : decode cJ5_newCapacity_0f7a4 6 = .ok (.iload_n 1, 1) := by decide +kernel
theorem dJ5_newCapacity_0f7a4_7 : decode cJ5_newCapacity_0f7a4 7 = .ok (.aload_n 0, 1) := by decide +kernel
theorem dJ5_newCapacity_0f7a4_8 : decode cJ5_newCapacity_0f7a4 8 = .ok (.getfield 22, 3) := by decide +kernel
theorem dJ5_newCapacity_0f7a4_11 : decode cJ5_newCapacity_0f7a4 11 = .ok (.ishl, 1) := by decide +kernel
theorem dJ5_newCapacity_0f7a4_12 : decode cJ5_newCapacity_0f7a4 12 = .ok (.istore_n 3, 1) := by decide +kernel
theorem dJ5_newCapacity_0f7a4_13 : decode cJ5_newCapacity_0f7a4 13 = .ok (.iload_n 3, 1) := by decide +kernel
theorem dJ5_newCapacity_0f7a4_14 : decode cJ5_newCapacity_0f7a4 14 = .ok (.iload_n 2, 1) := by decide +kernel
theorem dJ5_newCapacity_0f7a4_15 : decode cJ5_newCapacity_0f7a4 15 = .ok (.isub, 1) := by decide +kernel
theorem dJ5_newCapacity_0f7a4_16 : decode cJ5_newCapacity_0f7a4 16 = .ok (.istore 4, 2) := by decide +kernel
theorem dJ5_newCapacity_0f7a4_18 : decode cJ5_newCapacity_0f7a4 18 = .ok (.iload_n 2, 1) := by decide +kernel
theorem dJ5_newCapacity_0f7a4_19 : decode cJ5_newCapacity_0f7a4 19 = .ok (.iload 4, 2) := by decide +kernel
theorem dJ5_newCapacity_0f7a4_21 : decode cJ5_newCapacity_0f7a4 21 = .ok (.iload_n 2, 1) := by decide +kernel
theorem dJ5_newCapacity_0f7a4_22 : decode cJ5_newCapacity_0f7a4 22 = .ok (.iconst 2, 1) := by decide +kernel
theorem dJ5_newCapacity_0f7a4_23 : decode cJ5_newCapacity_0f7a4 23 = .ok (.aload_n 0, 1) := by decide +kernel
theorem dJ5_newCapacity_0f7a4_24 : decode cJ5_newCapacity_0f7a4 24 = .ok (.getfield 22, 3) := by decide +kernel
theorem dJ5_newCapacity_0f7a4_27 : decode cJ5_newCapacity_0f7a4 27 = .ok (.ishl, 1) := by decide +kernel
theorem dJ5_newCapacity_0f7a4_28 : decode cJ5_newCapacity_0f7a4 28 = .ok (.iadd, 1) := by decide +kernel
theorem dJ5_newCapacity_0f7a4_29 : decode cJ5_newCapacity_0f7a4 29 = .ok (.invokestatic 114, 3) := by decide +kernel
theorem dJ5_newCapacity_0f7a4_32 : decode cJ5_newCapacity_0f7a4 32 = .ok (.istore 5, 2) := by decide +kernel
theorem dJ5_newCapacity_0f7a4_34 : decode cJ5_newCapacity_0f7a4 34 = .ok (.iload 5, 2) := by decide +kernel
theorem dJ5_newCapacity_0f7a4_36 : decode cJ5_newCapacity_0f7a4 36 = .ok (.ldc 39, 2) := by decide +kernel
theorem dJ5_newCapacity_0f7a4_38 : decode cJ5_newCapacity_0f7a4 38 = .ok (.if_icmp .ne 13, 3) := by decide +kernel
theorem dJ5_newCapacity_0f7a4_41 : decode cJ5_newCapacity_0f7a4 41 = .ok (.new 120, 3) := by decide +kernel
theorem dJ5_newCapacity_0f7a4_44 : decode cJ5_newCapacity_0f7a4 44 = .ok (.dup, 1) := by decide +kernel
theorem dJ5_newCapacity_0f7a4_45 : decode cJ5_newCapacity_0f7a4 45 = .ok (.ldc 122, 2) := by decide +kernel
theorem dJ5_newCapacity_0f7a4_47 : decode cJ5_newCapacity_0f7a4 47 = .ok (.invokespecial 124, 3) := by decide +kernel
theorem dJ5_newCapacity_0f7a4_50 : decode cJ5_newCapacity_0f7a4 50 = .ok (.athrow, 1) := by decide +kernel
theorem dJ5_newCapacity_0f7a4_51 : decode cJ5_newCapacity_0f7a4 51 = .ok (.iload 5, 2) := by decide +kernel
theorem dJ5_newCapacity_0f7a4_53 : decode cJ5_newCapacity_0f7a4 53 = .ok (.aload_n 0, 1) := by decide +kernel
theorem dJ5_newCapacity_0f7a4_54 : decode cJ5_newCapacity_0f7a4 54 = .ok (.getfield 22, 3) := by decide +kernel
theorem dJ5_newCapacity_0f7a4_57 : decode cJ5_newCapacity_0f7a4 57 = .ok (.ishr, 1) := by decide +kernel
theorem dJ5_newCapacity_0f7a4_58 : decode cJ5_newCapacity_0f7a4 58 = .ok (.ireturn, 1) := by decide +kernel

set_option maxHeartbeats 4000000 in
set_option maxRecDepth 100000 in
theorem c_newCap (l : Launch) (D : va_G) (cI cB cL cO : ClassId) (pf : Nat → Nat) (a v cap x : Nat) (cnt : Int32) (g : Nat → Int32) (h1 : cap < x) (h2 : x ≤ 1000) : Ct l D [(cI, .int), (cB, .byte), (cL, .byte), (cO, .object RX0)] pf yJ5_newCapacity_0f7a4 cJ5_newCapacity_0f7a4 6 (some FieldType.int) { frames := 2, cells := 0, slots := 0, locals := 47 } [.ref a, .int (nI x)] [(a, .inr (12, [.ref v, .int 0, .int 0, .int cnt])), (v, .inl (cB, cap, .inl g))] (is1 (some (.int (nI (cap + max (x - cap) (cap + 2))))) [(a, .inr (12, [.ref v, .int 0, .int 0, .int cnt])), (v, .inl (cB, cap, .inl g))]) := by
  refine Ct_of (own := RJ5) (lv0 := [(0, .ref a), (1, .int (nI x))]) (by decide) rfl rfl (Nat.le_of_ble_eq_true rfl) ?_
  intro pZ eZ sZ mZ argsZ belowZ methZ cZ C hr hnm
  refine J_aload_n (pc := 0) C dJ5_newCapacity_0f7a4_0 0 rfl ?_
  refine J_getA (pc := 1) C dJ5_newCapacity_0f7a4_1 jf_J4 0 rfl rfl 0 (by decide) fl_RJ5_15 rfl ?_
  refine J_alen (pc := 4) C dJ5_newCapacity_0f7a4_4 1 1 rfl rfl ?_
  refine J_istore_n (lv2 := [(2, .int (nI cap)), (0, .ref a), (1, .int (nI x))]) (pc := 5) C dJ5_newCapacity_0f7a4_5 (by decide) rfl ?_
  refine J_iload_n (pc := 6) C dJ5_newCapacity_0f7a4_6 2 rfl ?_
  refine J_aload_n (pc := 7) C dJ5_newCapacity_0f7a4_7 1 rfl ?_
  refine J_getA (pc := 8) C dJ5_newCapacity_0f7a4_8 jf_J4 0 rfl rfl 1 (by decide) fl_RJ5_22 rfl ?_
  refine J_ishl (pc := 11) C dJ5_newCapacity_0f7a4_11 ?_
  refine J_top (α := Unit) (X := none) (nI x) (sb_shl0 _) ?_
  refine J_istore_n (lv2 := [(3, .int (nI x)), (2, .int (nI cap)), (0, .ref a), (1, .int (nI x))]) (pc := 12) C dJ5_newCapacity_0f7a4_12 (by decide) rfl ?_
  refine J_iload_n (pc := 13) C dJ5_newCapacity_0f7a4_13 0 rfl ?_
  refine J_iload_n (pc := 14) C dJ5_newCapacity_0f7a4_14 1 rfl ?_
  refine J_isub (pc := 15) C dJ5_newCapacity_0f7a4_15 ?_
  refine J_top (α := Unit) (X := none) (nI (x - cap)) (pk_sub (by omega)) ?_
  refine J_istore (lv2 := [(4, .int (nI (x - cap))), (3, .int (nI x)), (2, .int (nI cap)), (0, .ref a), (1, .int (nI x))]) (pc := 16) C dJ5_newCapacity_0f7a4_16 (by decide) rfl ?_
  refine J_iload_n (pc := 18) C dJ5_newCapacity_0f7a4_18 2 rfl ?_
  refine J_iload (pc := 19) C dJ5_newCapacity_0f7a4_19 0 rfl ?_
  refine J_iload_n (pc := 21) C dJ5_newCapacity_0f7a4_21 2 rfl ?_
  refine J_iconst (v := (2 : Int32)) (pc := 22) C dJ5_newCapacity_0f7a4_22 (by decide) ?_
  refine J_aload_n (pc := 23) C dJ5_newCapacity_0f7a4_23 3 rfl ?_
  refine J_getA (pc := 24) C dJ5_newCapacity_0f7a4_24 jf_J4 0 rfl rfl 1 (by decide) fl_RJ5_22 rfl ?_
  refine J_ishl (pc := 27) C dJ5_newCapacity_0f7a4_27 ?_
  refine J_top (α := Unit) (X := none) ((2 : Int32)) (sb_shl0 _) ?_
  refine J_iadd (pc := 28) C dJ5_newCapacity_0f7a4_28 ?_
  refine J_top (α := Unit) (X := none) (nI (cap + 2)) (nI_add cap 2) ?_
  refine J_csF (b := 0) (As := [.int (nI cap), .int (nI (x - cap)), .int (nI (cap + 2))]) (st := []) (pc := 29) C dJ5_newCapacity_0f7a4_29 ml_RJ5_114 mi_yJ8_newLength_cabcc (c_newLen l D cI cB cL cO pf cap (x - cap) (cap + 2) (by omega) (by omega)) [(a, .inr (12, [.ref v, .int 0, .int 0, .int cnt])), (v, .inl (cB, cap, .inl g))] (permN [] [0, 1] 2 rfl rfl rfl (by decide)) rfl ⟨(Nat.le_of_ble_eq_true rfl), (Nat.le_of_ble_eq_true rfl)⟩ ⟨(by first | exact Nat.le_of_ble_eq_true rfl | omega | (dsimp only; omega)), (by first | exact Nat.le_of_ble_eq_true rfl | omega | (dsimp only; omega))⟩ (Nat.le_of_ble_eq_true rfl) ?_
  rintro v w1 ⟨rfl, rfl⟩
  refine J_ws (ws2 := [(a, .inr (12, [.ref v, .int 0, .int 0, .int cnt])), (v, .inl (cB, cap, .inl g))]) rfl ?_
  refine J_istore (lv2 := [(5, .int (nI (cap + max (x - cap) (cap + 2)))), (4, .int (nI (x - cap))), (3, .int (nI x)), (2, .int (nI cap)), (0, .ref a), (1, .int (nI x))]) (pc := 32) C dJ5_newCapacity_0f7a4_32 (by decide) rfl ?_
  refine J_iload (pc := 34) C dJ5_newCapacity_0f7a4_34 0 rfl ?_
  refine J_ldc (pc := 36) C dJ5_newCapacity_0f7a4_36 cw_RJ5_39 ?_
  refine J_ic_ne (α := Unit) (o := ()) (X := none) (Y := some ()) (pc := 38) (tgt := 51) C dJ5_newCapacity_0f7a4_38 (by decide) (if_neg (fun z => by have := (nI_eq (by omega) (by decide)).mp (show nI (cap + max (x - cap) (cap + 2)) = nI 2147483647 from z); omega)) (fun _ => ?_) (fun h => by cases h)
  refine J_iload (pc := 51) C dJ5_newCapacity_0f7a4_51 0 rfl ?_
  refine J_aload_n (pc := 53) C dJ5_newCapacity_0f7a4_53 4 rfl ?_
  refine J_getA (pc := 54) C dJ5_newCapacity_0f7a4_54 jf_J4 0 rfl rfl 1 (by decide) fl_RJ5_22 rfl ?_
  refine J_ishr (pc := 57) C dJ5_newCapacity_0f7a4_57 ?_
  refine J_top (α := Unit) (X := none) (nI (cap + max (x - cap) (cap + 2))) (sb_shr0 _) ?_
  refine J_widen (k2 := 0) (n2 := 0) (by first | exact Nat.le_of_ble_eq_true rfl | omega | (dsimp only; omega)) (by first | exact Nat.le_of_ble_eq_true rfl | omega | (dsimp only; omega)) ?_
  exact J_iret (pc := 58) C dJ5_newCapacity_0f7a4_58 hr ⟨rfl, rfl⟩

theorem dJ7_copyOf_9075b_0 : decode cJ7_copyOf_9075b 0 = .ok (.iload_n 1, 1) := by decide +kernel
theorem dJ7_copyOf_9075b_1 : decode cJ7_copyOf_9075b 1 = .ok (.aload_n 0, 1) := by decide +kernel
theorem dJ7_copyOf_9075b_2 : decode cJ7_copyOf_9075b 2 = .ok (.arraylength, 1) := by decide +kernel
theorem dJ7_copyOf_9075b_3 : decode cJ7_copyOf_9075b 3 = .ok (.if_icmp .ne 11, 3) := by decide +kernel
theorem dJ7_copyOf_9075b_6 : decode cJ7_copyOf_9075b 6 = .ok (.aload_n 0, 1) := by decide +kernel
theorem dJ7_copyOf_9075b_7 : decode cJ7_copyOf_9075b 7 = .ok (.invokevirtual 310, 3) := by decide +kernel
theorem dJ7_copyOf_9075b_10 : decode cJ7_copyOf_9075b 10 = .ok (.checkcast 311, 3) := by decide +kernel
theorem dJ7_copyOf_9075b_13 : decode cJ7_copyOf_9075b 13 = .ok (.areturn, 1) := by decide +kernel
theorem dJ7_copyOf_9075b_14 : decode cJ7_copyOf_9075b 14 = .ok (.iload_n 1, 1) := by decide +kernel
theorem dJ7_copyOf_9075b_15 : decode cJ7_copyOf_9075b 15 = .ok (.newarray .byte, 2) := by decide +kernel
theorem dJ7_copyOf_9075b_17 : decode cJ7_copyOf_9075b 17 = .ok (.astore_n 2, 1) := by decide +kernel
theorem dJ7_copyOf_9075b_18 : decode cJ7_copyOf_9075b 18 = .ok (.aload_n 0, 1) := by decide +kernel
theorem dJ7_copyOf_9075b_19 : decode cJ7_copyOf_9075b 19 = .ok (.iconst 0, 1) := by decide +kernel
theorem dJ7_copyOf_9075b_20 : decode cJ7_copyOf_9075b 20 = .ok (.aload_n 2, 1) := by decide +kernel
theorem dJ7_copyOf_9075b_21 : decode cJ7_copyOf_9075b 21 = .ok (.iconst 0, 1) := by decide +kernel
theorem dJ7_copyOf_9075b_22 : decode cJ7_copyOf_9075b 22 = .ok (.aload_n 0, 1) := by decide +kernel
theorem dJ7_copyOf_9075b_23 : decode cJ7_copyOf_9075b 23 = .ok (.arraylength, 1) := by decide +kernel
theorem dJ7_copyOf_9075b_24 : decode cJ7_copyOf_9075b 24 = .ok (.iload_n 1, 1) := by decide +kernel
theorem dJ7_copyOf_9075b_25 : decode cJ7_copyOf_9075b 25 = .ok (.invokestatic 304, 3) := by decide +kernel
theorem dJ7_copyOf_9075b_28 : decode cJ7_copyOf_9075b 28 = .ok (.invokestatic 150, 3) := by decide +kernel
theorem dJ7_copyOf_9075b_31 : decode cJ7_copyOf_9075b 31 = .ok (.aload_n 2, 1) := by decide +kernel
theorem dJ7_copyOf_9075b_32 : decode cJ7_copyOf_9075b 32 = .ok (.areturn, 1) := by decide +kernel

set_option maxHeartbeats 4000000 in
set_option maxRecDepth 100000 in
theorem c_copyOf (l : Launch) (D : va_G) (cI cB cL cO : ClassId) (pf : Nat → Nat) (v n x : Nat) (t : List Nat) (ht : AS t) (hl : t.length ≤ n) (h1 : n < x) (h2 : x ≤ 4096) : Ct l D [(cI, .int), (cB, .byte), (cL, .byte), (cO, .object RX0)] pf yJ7_copyOf_9075b cJ7_copyOf_9075b 3 (some (FieldType.array FieldType.byte)) { frames := 1, cells := 1, slots := 4096, locals := 60 } [.ref v, .int (nI x)] [(v, .inl (cB, n, .inl (bN t)))] (fun V w => ∃ r, V = some (.ref r) ∧ w = [(v, .inl (cB, n, .inl (bN t))), (r, .inl (cB, x, .inl (bN t)))]) := by
  refine Ct_of (own := RJ7) (lv0 := [(0, .ref v), (1, .int (nI x))]) (by decide) rfl rfl (Nat.le_of_ble_eq_true rfl) ?_
  intro pZ eZ sZ mZ argsZ belowZ methZ cZ C hr hnm
  refine J_iload_n (pc := 0) C dJ7_copyOf_9075b_0 1 rfl ?_
  refine J_aload_n (pc := 1) C dJ7_copyOf_9075b_1 0 rfl ?_
  refine J_alen (pc := 2) C dJ7_copyOf_9075b_2 0 1 rfl rfl ?_
  refine J_ic_ne (α := Unit) (o := ()) (X := none) (Y := some ()) (pc := 3) (tgt := 14) C dJ7_copyOf_9075b_3 (by decide) (if_neg (fun z => by have := (nI_eq (by omega) (by omega)).mp z; omega)) (fun _ => ?_) (fun h => by cases h)
  refine J_iload_n (pc := 14) C dJ7_copyOf_9075b_14 1 rfl ?_
  refine J_newa (atype := .byte) (a0 := (x, .inl (fun _ => 0))) (N := x) (pc := 15) C dJ7_copyOf_9075b_15 w_arB rfl 1 rfl (by intro C h; cases h) (fun _ => rfl) (nI_pos (by omega)) (nI_clamp (by omega)) (by show x * 1 ≤ _; omega) ⟨(by first | exact Nat.le_of_ble_eq_true rfl | omega | (dsimp only; omega)), (by first | exact Nat.le_of_ble_eq_true rfl | omega | (dsimp only; omega))⟩ (fun r => ?_)
  refine J_ws (ws2 := [(v, .inl (cB, n, .inl (bN t))), (r, .inl (cB, x, .inl (fun _ => 0)))]) rfl ?_
  refine J_astore_n (lv2 := [(2, .ref r), (0, .ref v), (1, .int (nI x))]) (pc := 17) C dJ7_copyOf_9075b_17 (by decide) rfl ?_
  refine J_aload_n (pc := 18) C dJ7_copyOf_9075b_18 1 rfl ?_
  refine J_iconst (v := (0 : Int32)) (pc := 19) C dJ7_copyOf_9075b_19 (by decide) ?_
  refine J_aload_n (pc := 20) C dJ7_copyOf_9075b_20 0 rfl ?_
  refine J_iconst (v := (0 : Int32)) (pc := 21) C dJ7_copyOf_9075b_21 (by decide) ?_
  refine J_aload_n (pc := 22) C dJ7_copyOf_9075b_22 1 rfl ?_
  refine J_alen (pc := 23) C dJ7_copyOf_9075b_23 0 1 rfl rfl ?_
  refine J_iload_n (pc := 24) C dJ7_copyOf_9075b_24 2 rfl ?_
  refine J_mmin (pc := 25) C dJ7_copyOf_9075b_25 ml_RJ7_304 w_min (Nat.le_of_ble_eq_true rfl) (Nat.le_of_ble_eq_true rfl) ⟨(by first | exact Nat.le_of_ble_eq_true rfl | omega | (dsimp only; omega)), (by first | exact Nat.le_of_ble_eq_true rfl | omega | (dsimp only; omega))⟩ ?_
  refine J_top (α := Unit) (X := none) (nI n) (if_neg (nI_nlt (by omega) (by omega))) ?_
  refine J_copyB (ws2 := [(v, .inl (cB, n, .inl (bN t))), (r, .inl (cB, x, .inl (bN t)))]) (pc := 28) C dJ7_copyOf_9075b_28 ml_RJ7_150 0 1 1 1 rfl rfl rfl rfl ⟨by decide, by decide, nI_pos (by omega), by rw [nI_clamp (by omega), clamp0]; omega, by rw [nI_clamp (by omega), clamp0]; omega⟩ (fun i _ => fit_b (ht _)) (Nat.le_of_ble_eq_true rfl) (Nat.le_of_ble_eq_true rfl) (by rw [nI_clamp (by omega : n < 2 ^ 31), clamp0, bN_grow hl]; rfl) ?_
  refine J_aload_n (pc := 31) C dJ7_copyOf_9075b_31 0 rfl ?_
  refine J_widen (k2 := 1) (n2 := 4096) (by first | exact Nat.le_of_ble_eq_true rfl | omega | (dsimp only; omega)) (by first | exact Nat.le_of_ble_eq_true rfl | omega | (dsimp only; omega)) ?_
  exact J_aret (pc := 32) C dJ7_copyOf_9075b_32 hr (by first | exact Or.inl ⟨_, rfl⟩ | exact Or.inr ⟨_, rfl⟩) (Or.inr ⟨_, rfl⟩) ⟨r, rfl, rfl⟩

theorem dJ5_ensureCapacityInternal_d00df_0 : decode cJ5_ensureCapacityInternal_d00df 0 = .ok (.aload_n 0, 1) := by decide +kernel
theorem dJ5_ensureCapacityInternal_d00df_1 : decode cJ5_ensureCapacityInternal_d00df 1 = .ok (.getfield 15, 3) := by decide +kernel
theorem dJ5_ensureCapacityInternal_d00df_4 : decode cJ5_ensureCapacityInternal_d00df 4 = .ok (.arraylength, 1) := by decide +kernel
theorem dJ5_ensureCapacityInternal_d00df_5 : decode cJ5_ensureCapacityInternal_d00df 5 = .ok (.aload_n 0, 1) := by decide +kernel
theorem dJ5_ensureCapacityInternal_d00df_6 : decode cJ5_ensureCapacityInternal_d00df 6 = .ok (.getfield 22, 3) := by decide +kernel
theorem dJ5_ensureCapacityInternal_d00df_9 : decode cJ5_ensureCapacityInternal_d00df 9 = .ok (.ishr, 1) := by decide +kernel
theorem dJ5_ensureCapacityInternal_d00df_10 : decode cJ5_ensureCapacityInternal_d00df 10 = .ok (.istore_n 2, 1) := by decide +kernel
theorem dJ5_ensureCapacityInternal_d00df_11 : decode cJ5_ensureCapacityInternal_d00df 11 = .ok (.iload_n 1, 1) := by decide +kernel
theorem dJ5_ensureCapacityInternal_d00df_12 : decode cJ5_ensureCapacityInternal_d00df 12 = .ok (.iload_n 2, 1) := by decide +kernel
theorem dJ5_ensureCapacityInternal_d00df_13 : decode cJ5_ensureCapacityInternal_d00df 13 = .ok (.isub, 1) := by decide +kernel
theorem dJ5_ensureCapacityInternal_d00df_14 : decode cJ5_ensureCapacityInternal_d00df 14 = .ok (.ifCond .le 24, 3) := by decide +kernel
theorem dJ5_ensureCapacityInternal_d00df_17 : decode cJ5_ensureCapacityInternal_d00df 17 = .ok (.aload_n 0, 1) := by decide +kernel
theorem dJ5_ensureCapacityInternal_d00df_18 : decode cJ5_ensureCapacityInternal_d00df 18 = .ok (.aload_n 0, 1) := by decide +kernel
theorem dJ5_ensureCapacityInternal_d00df_19 : decode cJ5_ensureCapacityInternal_d00df 19 = .ok (.getfield 15, 3) := by decide +kernel
theorem dJ5_ensureCapacityInternal_d00df_22 : decode cJ5_ensureCapacityInternal_d00df 22 = .ok (.aload_n 0, 1) := by decide +kernel
theorem dJ5_ensureCapacityInternal_d00df_23 : decode cJ5_ensureCapacityInternal_d00df 23 = .ok (.iload_n 1, 1) := by decide +kernel
theorem dJ5_ensureCapacityInternal_d00df_24 : decode cJ5_ensureCapacityInternal_d00df 24 = .ok (.invokevirtual 104, 3) := by decide +kernel
theorem dJ5_ensureCapacityInternal_d00df_27 : decode cJ5_ensureCapacityInternal_d00df 27 = .ok (.aload_n 0, 1) := by decide +kernel
theorem dJ5_ensureCapacityInternal_d00df_28 : decode cJ5_ensureCapacityInternal_d00df 28 = .ok (.getfield 22, 3) := by decide +kernel
theorem dJ5_ensureCapacityInternal_d00df_31 : decode cJ5_ensureCapacityInternal_d00df 31 = .ok (.ishl, 1) := by decide +kernel
theorem dJ5_ensureCapacityInternal_d00df_32 : decode cJ5_ensureCapacityInternal_d00df 32 = .ok (.invokestatic 108, 3) := by decide +kernel
theorem dJ5_ensureCapacityInternal_d00df_35 : decode cJ5_ensureCapacityInternal_d00df 35 = .ok (.putfield 15, 3) := by decide +kernel
theorem dJ5_ensureCapacityInternal_d00df_38 : decode cJ5_ensureCapacityInternal_d00df 38 = .ok (.return_, 1) := by decide +kernel

set_option maxHeartbeats 4000000 in
set_option maxRecDepth 100000 in
theorem c_ens (l : Launch) (D : va_G) (cI cB cL cO : ClassId) (pf : Nat → Nat) (a v cap x : Nat) (cnt : Int32) (t : List Nat) (ht : AS t) (hl : t.length ≤ cap) (hc : cap ≤ 4096) (hx : x ≤ 1000) : Ct l D [(cI, .int), (cB, .byte), (cL, .byte), (cO, .object RX0)] pf yJ5_ensureCapacityInternal_d00df cJ5_ensureCapacityInternal_d00df 3 (none : Option FieldType) { frames := 3, cells := 1, slots := 4096, locals := 82 } [.ref a, .int (nI x)] [(a, .inr (12, [.ref v, .int 0, .int 0, .int cnt])), (v, .inl (cB, cap, .inl (bN t)))] (fun V w => V = none ∧ ∃ v1 cap1, w = [(a, .inr (12, [.ref v1, .int 0, .int 0, .int cnt])), (v1, .inl (cB, cap1, .inl (bN t)))] ∧ x ≤ cap1 ∧ cap ≤ cap1 ∧ cap1 ≤ 4096) := by
  refine Ct_of (own := RJ5) (lv0 := [(0, .ref a), (1, .int (nI x))]) (by decide) rfl rfl (Nat.le_of_ble_eq_true rfl) ?_
  intro pZ eZ sZ mZ argsZ belowZ methZ cZ C hr hnm
  rcases Nat.lt_or_ge cap x with h1 | h1
  · refine J_aload_n (pc := 0) C dJ5_ensureCapacityInternal_d00df_0 0 rfl ?_
    refine J_getA (pc := 1) C dJ5_ensureCapacityInternal_d00df_1 jf_J4 0 rfl rfl 0 (by decide) fl_RJ5_15 rfl ?_
    refine J_alen (pc := 4) C dJ5_ensureCapacityInternal_d00df_4 1 1 rfl rfl ?_
    refine J_aload_n (pc := 5) C dJ5_ensureCapacityInternal_d00df_5 0 rfl ?_
    refine J_getA (pc := 6) C dJ5_ensureCapacityInternal_d00df_6 jf_J4 0 rfl rfl 1 (by decide) fl_RJ5_22 rfl ?_
    refine J_ishr (pc := 9) C dJ5_ensureCapacityInternal_d00df_9 ?_
    refine J_top (α := Unit) (X := none) (nI cap) (sb_shr0 _) ?_
    refine J_istore_n (lv2 := [(2, .int (nI cap)), (0, .ref a), (1, .int (nI x))]) (pc := 10) C dJ5_ensureCapacityInternal_d00df_10 (by decide) rfl ?_
    refine J_iload_n (pc := 11) C dJ5_ensureCapacityInternal_d00df_11 2 rfl ?_
    refine J_iload_n (pc := 12) C dJ5_ensureCapacityInternal_d00df_12 0 rfl ?_
    refine J_isub (pc := 13) C dJ5_ensureCapacityInternal_d00df_13 ?_
    refine J_top (α := Unit) (X := none) (nI (x - cap)) (pk_sub (by omega)) ?_
    refine J_if_le (α := Unit) (o := ()) (X := none) (Y := some ()) (pc := 14) (tgt := 38) C dJ5_ensureCapacityInternal_d00df_14 (by decide) (if_neg (nI_nle (by omega) (by omega))) (fun h => by cases h) (fun _ => ?_)
    refine J_aload_n (pc := 17) C dJ5_ensureCapacityInternal_d00df_17 1 rfl ?_
    refine J_aload_n (pc := 18) C dJ5_ensureCapacityInternal_d00df_18 1 rfl ?_
    refine J_getA (pc := 19) C dJ5_ensureCapacityInternal_d00df_19 jf_J4 0 rfl rfl 0 (by decide) fl_RJ5_15 rfl ?_
    refine J_aload_n (pc := 22) C dJ5_ensureCapacityInternal_d00df_22 1 rfl ?_
    refine J_iload_n (pc := 23) C dJ5_ensureCapacityInternal_d00df_23 2 rfl ?_
    refine J_cuF (C2 := RJ4) (As := [.int (nI x)]) (st := [.ref v, .ref a]) (pc := 24) C dJ5_ensureCapacityInternal_d00df_24 ml_RJ5_104 se_yJ5_newCapacity_0f7a4 mu_yJ5_newCapacity_0f7a4 (c_newCap l D cI cB cL cO pf a v cap x cnt (bN t) h1 hx) [] (permN [0, 1] [] 2 rfl rfl rfl (by decide)) (q0 := 0) rfl rfl rfl ⟨(Nat.le_of_ble_eq_true rfl), (Nat.le_of_ble_eq_true rfl)⟩ ⟨(by first | exact Nat.le_of_ble_eq_true rfl | omega | (dsimp only; omega)), (by first | exact Nat.le_of_ble_eq_true rfl | omega | (dsimp only; omega))⟩ (Nat.le_of_ble_eq_true rfl) ?_
    rintro v w1 ⟨rfl, rfl⟩
    refine J_ws (ws2 := [(a, .inr (12, [.ref v, .int 0, .int 0, .int cnt])), (v, .inl (cB, cap, .inl (bN t)))]) rfl ?_
    refine J_aload_n (pc := 27) C dJ5_ensureCapacityInternal_d00df_27 1 rfl ?_
    refine J_getA (pc := 28) C dJ5_ensureCapacityInternal_d00df_28 jf_J4 0 rfl rfl 1 (by decide) fl_RJ5_22 rfl ?_
    refine J_ishl (pc := 31) C dJ5_ensureCapacityInternal_d00df_31 ?_
    refine J_top (α := Unit) (X := none) (nI (cap + max (x - cap) (cap + 2))) (sb_shl0 _) ?_
    refine J_csF (b := 0) (As := [.ref v, .int (nI (cap + max (x - cap) (cap + 2)))]) (st := [.ref a]) (pc := 32) C dJ5_ensureCapacityInternal_d00df_32 ml_RJ5_108 mi_yJ7_copyOf_9075b (c_copyOf l D cI cB cL cO pf v cap (cap + max (x - cap) (cap + 2)) t ht hl (by omega) (by omega)) [(a, .inr (12, [.ref v, .int 0, .int 0, .int cnt]))] (permN [1] [0] 2 rfl rfl rfl (by decide)) rfl ⟨(Nat.le_of_ble_eq_true rfl), (Nat.le_of_ble_eq_true rfl)⟩ ⟨(by first | exact Nat.le_of_ble_eq_true rfl | omega | (dsimp only; omega)), (by first | exact Nat.le_of_ble_eq_true rfl | omega | (dsimp only; omega))⟩ (Nat.le_of_ble_eq_true rfl) ?_
    rintro v w1 ⟨r, rfl, rfl⟩
    refine J_ws (ws2 := [(v, .inl (cB, cap, .inl (bN t))), (r, .inl (cB, (cap + max (x - cap) (cap + 2)), .inl (bN t))), (a, .inr (12, [.ref v, .int 0, .int 0, .int cnt]))]) rfl ?_
    refine J_putA (tt := .array .byte) (pc := 35) C dJ5_ensureCapacityInternal_d00df_35 jf_J4 2 rfl rfl 0 (by decide) fl_RJ5_15 rfl (by decide +kernel) rfl rfl (Nat.le_of_ble_eq_true rfl) ?_
    refine J_ws (ws2 := [(v, .inl (cB, cap, .inl (bN t))), (r, .inl (cB, (cap + max (x - cap) (cap + 2)), .inl (bN t))), (a, .inr (12, [.ref r, .int 0, .int 0, .int cnt]))]) rfl ?_
    refine J_drop (ws2 := [(a, .inr (12, [.ref r, .int 0, .int 0, .int cnt])), (r, .inl (cB, (cap + max (x - cap) (cap + 2)), .inl (bN t)))]) (Wr := [(v, .inl (cB, cap, .inl (bN t)))]) (permN [2, 1] [0] 3 rfl rfl rfl (by decide)) ?_
    refine J_widen (k2 := 1) (n2 := 4096) (by first | exact Nat.le_of_ble_eq_true rfl | omega | (dsimp only; omega)) (by first | exact Nat.le_of_ble_eq_true rfl | omega | (dsimp only; omega)) ?_
    exact J_vret (pc := 38) C dJ5_ensureCapacityInternal_d00df_38 hr ⟨rfl, r, (cap + max (x - cap) (cap + 2)), rfl, by omega, by omega, by omega⟩
  · refine J_aload_n (pc := 0) C dJ5_ensureCapacityInternal_d00df_0 0 rfl ?_
    refine J_getA (pc := 1) C dJ5_ensureCapacityInternal_d00df_1 jf_J4 0 rfl rfl 0 (by decide) fl_RJ5_15 rfl ?_
    refine J_alen (pc := 4) C dJ5_ensureCapacityInternal_d00df_4 1 1 rfl rfl ?_
    refine J_aload_n (pc := 5) C dJ5_ensureCapacityInternal_d00df_5 0 rfl ?_
    refine J_getA (pc := 6) C dJ5_ensureCapacityInternal_d00df_6 jf_J4 0 rfl rfl 1 (by decide) fl_RJ5_22 rfl ?_
    refine J_ishr (pc := 9) C dJ5_ensureCapacityInternal_d00df_9 ?_
    refine J_top (α := Unit) (X := none) (nI cap) (sb_shr0 _) ?_
    refine J_istore_n (lv2 := [(2, .int (nI cap)), (0, .ref a), (1, .int (nI x))]) (pc := 10) C dJ5_ensureCapacityInternal_d00df_10 (by decide) rfl ?_
    refine J_iload_n (pc := 11) C dJ5_ensureCapacityInternal_d00df_11 2 rfl ?_
    refine J_iload_n (pc := 12) C dJ5_ensureCapacityInternal_d00df_12 0 rfl ?_
    refine J_isub (pc := 13) C dJ5_ensureCapacityInternal_d00df_13 ?_
    refine J_if_le (α := Unit) (o := ()) (X := some ()) (Y := none) (pc := 14) (tgt := 38) C dJ5_ensureCapacityInternal_d00df_14 (by decide) (if_pos (sub_le0 h1 (by omega))) (fun _ => ?_) (fun h => by cases h)
    refine J_widen (k2 := 1) (n2 := 4096) (by first | exact Nat.le_of_ble_eq_true rfl | omega | (dsimp only; omega)) (by first | exact Nat.le_of_ble_eq_true rfl | omega | (dsimp only; omega)) ?_
    exact J_vret (pc := 38) C dJ5_ensureCapacityInternal_d00df_38 hr ⟨rfl, v, cap, rfl, h1, Nat.le_refl _, hc⟩

theorem dJ5_isLatin1_aae02_0 : decode cJ5_isLatin1_aae02 0 = .ok (.getstatic 18, 3) := by decide +kernel
theorem dJ5_isLatin1_aae02_3 : decode cJ5_isLatin1_aae02 3 = .ok (.ifCond .eq 14, 3) := by decide +kernel
theorem dJ5_isLatin1_aae02_6 : decode cJ5_isLatin1_aae02 6 = .ok (.aload_n 0, 1) := by decide +kernel
theorem dJ5_isLatin1_aae02_7 : decode cJ5_isLatin1_aae02 7 = .ok (.getfield 22, 3) := by decide +kernel
theorem dJ5_isLatin1_aae02_10 : decode cJ5_isLatin1_aae02 10 = .ok (.ifCond .ne 7, 3) := by decide +kernel
theorem dJ5_isLatin1_aae02_13 : decode cJ5_isLatin1_aae02 13 = .ok (.iconst 1, 1) := by decide +kernel
theorem dJ5_isLatin1_aae02_14 : decode cJ5_isLatin1_aae02 14 = .ok (.goto 4, 3) := by decide +kernel
theorem dJ5_isLatin1_aae02_17 : decode cJ5_isLatin1_aae02 17 = .ok (.iconst 0, 1) := by decide +kernel
theorem dJ5_isLatin1_aae02_18 : decode cJ5_isLatin1_aae02 18 = .ok (.ireturn, 1) := by decide +kernel

set_option maxHeartbeats 4000000 in
set_option maxRecDepth 100000 in
theorem c_isL (l : Launch) (D : va_G) (cI cB cL cO : ClassId) (pf : Nat → Nat) (a v : Nat) (cnt : Int32) : Ct l D [(cI, .int), (cB, .byte), (cL, .byte), (cO, .object RX0)] pf yJ5_isLatin1_aae02 cJ5_isLatin1_aae02 1 (some FieldType.boolean) { frames := 0, cells := 0, slots := 0, locals := 0 } [.ref a] [(a, .inr (12, [.ref v, .int 0, .int 0, .int cnt]))] (is1 (some (.int 1)) [(a, .inr (12, [.ref v, .int 0, .int 0, .int cnt]))]) := by
  refine Ct_of (own := RJ5) (lv0 := [(0, .ref a)]) (by decide) rfl rfl (Nat.le_of_ble_eq_true rfl) ?_
  intro pZ eZ sZ mZ argsZ belowZ methZ cZ C hr hnm
  refine J_gcs (pc := 0) C dJ5_isLatin1_aae02_0 fl_RJ5_18 ?_
  refine J_if_eq (α := Unit) (o := ()) (X := none) (Y := some ()) (pc := 3) (tgt := 17) C dJ5_isLatin1_aae02_3 (by decide) (if_neg (by decide)) (fun h => by cases h) (fun _ => ?_)
  refine J_aload_n (pc := 6) C dJ5_isLatin1_aae02_6 0 rfl ?_
  refine J_getA (pc := 7) C dJ5_isLatin1_aae02_7 jf_J4 0 rfl rfl 1 (by decide) fl_RJ5_22 rfl ?_
  refine J_if_ne (α := Unit) (o := ()) (X := some ()) (Y := none) (pc := 10) (tgt := 17) C dJ5_isLatin1_aae02_10 (by decide) (if_pos rfl) (fun h => by cases h) (fun _ => ?_)
  refine J_iconst (v := (1 : Int32)) (pc := 13) C dJ5_isLatin1_aae02_13 (by decide) ?_
  refine J_goto (tgt := 18) (pc := 14) C dJ5_isLatin1_aae02_14 (by decide) ?_
  refine J_widen (k2 := 0) (n2 := 0) (by first | exact Nat.le_of_ble_eq_true rfl | omega | (dsimp only; omega)) (by first | exact Nat.le_of_ble_eq_true rfl | omega | (dsimp only; omega)) ?_
  exact J_zret (pc := 18) C dJ5_isLatin1_aae02_18 hr rfl ⟨rfl, rfl⟩

theorem dJ1_canEncode_fc78d_0 : decode cJ1_canEncode_fc78d 0 = .ok (.iload_n 0, 1) := by decide +kernel
theorem dJ1_canEncode_fc78d_1 : decode cJ1_canEncode_fc78d 1 = .ok (.sipush 255, 3) := by decide +kernel
theorem dJ1_canEncode_fc78d_4 : decode cJ1_canEncode_fc78d 4 = .ok (.if_icmp .gt 7, 3) := by decide +kernel
theorem dJ1_canEncode_fc78d_7 : decode cJ1_canEncode_fc78d 7 = .ok (.iconst 1, 1) := by decide +kernel
theorem dJ1_canEncode_fc78d_8 : decode cJ1_canEncode_fc78d 8 = .ok (.goto 4, 3) := by decide +kernel
theorem dJ1_canEncode_fc78d_11 : decode cJ1_canEncode_fc78d 11 = .ok (.iconst 0, 1) := by decide +kernel
theorem dJ1_canEncode_fc78d_12 : decode cJ1_canEncode_fc78d 12 = .ok (.ireturn, 1) := by decide +kernel

set_option maxHeartbeats 4000000 in
set_option maxRecDepth 100000 in
theorem c_canE (l : Launch) (D : va_G) (cI cB cL cO : ClassId) (pf : Nat → Nat) (c : Nat) (hc : c < 128) : Ct l D [(cI, .int), (cB, .byte), (cL, .byte), (cO, .object RX0)] pf yJ1_canEncode_fc78d cJ1_canEncode_fc78d 1 (some FieldType.boolean) { frames := 0, cells := 0, slots := 0, locals := 0 } [.int (nI c)] [] (is1 (some (.int 1)) []) := by
  refine Ct_of (own := RJ1) (lv0 := [(0, .int (nI c))]) (by decide) rfl rfl (Nat.le_of_ble_eq_true rfl) ?_
  intro pZ eZ sZ mZ argsZ belowZ methZ cZ C hr hnm
  refine J_iload_n (pc := 0) C dJ1_canEncode_fc78d_0 0 rfl ?_
  refine J_sipush (v := (255 : Int32)) (pc := 1) C dJ1_canEncode_fc78d_1 (by decide) ?_
  refine J_ic_gt (α := Unit) (o := ()) (X := none) (Y := some ()) (pc := 4) (tgt := 11) C dJ1_canEncode_fc78d_4 (by decide) (if_neg (show ¬ nI 255 < nI c from nI_nlt (by omega) (by decide))) (fun h => by cases h) (fun _ => ?_)
  refine J_iconst (v := (1 : Int32)) (pc := 7) C dJ1_canEncode_fc78d_7 (by decide) ?_
  refine J_goto (tgt := 12) (pc := 8) C dJ1_canEncode_fc78d_8 (by decide) ?_
  refine J_widen (k2 := 0) (n2 := 0) (by first | exact Nat.le_of_ble_eq_true rfl | omega | (dsimp only; omega)) (by first | exact Nat.le_of_ble_eq_true rfl | omega | (dsimp only; omega)) ?_
  exact J_zret (pc := 12) C dJ1_canEncode_fc78d_12 hr rfl ⟨rfl, rfl⟩


set_option maxHeartbeats 4000000 in
set_option maxRecDepth 100000 in
theorem c_mcoder (l : Launch) (D : va_G) (cI cB cL cO : ClassId) (pf : Nat → Nat) (b u : Nat) : Ct l D [(cI, .int), (cB, .byte), (cL, .byte), (cO, .object RX0)] pf yJ0_coder_7d493 cJ0_coder_7d493 1 (some FieldType.byte) { frames := 0, cells := 0, slots := 0, locals := 0 } [.ref b] [(b, .inr (11, [.ref u, .int 0, .int 0, .int 0]))] (is1 (some (.int 0)) [(b, .inr (11, [.ref u, .int 0, .int 0, .int 0]))]) := by
  refine Ct_of (own := RJ0) (lv0 := [(0, .ref b)]) (by decide) rfl rfl (Nat.le_of_ble_eq_true rfl) ?_
  intro pZ eZ sZ mZ argsZ belowZ methZ cZ C hr hnm
  refine J_gcs (pc := 0) C dJ0_coder_7d493_0 fl_RJ0_38 ?_
  refine J_if_eq (α := Unit) (o := ()) (X := none) (Y := some ()) (pc := 3) (tgt := 13) C dJ0_coder_7d493_3 (by decide) (if_neg (by decide)) (fun h => by cases h) (fun _ => ?_)
  refine J_aload_n (pc := 6) C dJ0_coder_7d493_6 0 rfl ?_
  refine J_getA (pc := 7) C dJ0_coder_7d493_7 jf_J0 0 rfl rfl 1 (by decide) fl_RJ0_15 rfl ?_
  refine J_goto (tgt := 14) (pc := 10) C dJ0_coder_7d493_10 (by decide) ?_
  refine J_widen (k2 := 0) (n2 := 0) (by first | exact Nat.le_of_ble_eq_true rfl | omega | (dsimp only; omega)) (by first | exact Nat.le_of_ble_eq_true rfl | omega | (dsimp only; omega)) ?_
  exact J_zret (pc := 14) C dJ0_coder_7d493_14 hr rfl ⟨rfl, rfl⟩


set_option maxHeartbeats 4000000 in
set_option maxRecDepth 100000 in
theorem c_mlen (l : Launch) (D : va_G) (cI cB cL cO : ClassId) (pf : Nat → Nat) (b u : Nat) (t : List Nat) : Ct l D [(cI, .int), (cB, .byte), (cL, .byte), (cO, .object RX0)] pf yJ0_length_8abf5 cJ0_length_8abf5 1 (some FieldType.int) { frames := 1, cells := 0, slots := 0, locals := 20 } [.ref b] [(b, .inr (11, [.ref u, .int 0, .int 0, .int 0])), (u, .inl (cB, t.length, .inl (bN t)))] (is1 (some (.int (nI t.length))) [(b, .inr (11, [.ref u, .int 0, .int 0, .int 0])), (u, .inl (cB, t.length, .inl (bN t)))]) := by
  refine Ct_of (own := RJ0) (lv0 := [(0, .ref b)]) (by decide) rfl rfl (Nat.le_of_ble_eq_true rfl) ?_
  intro pZ eZ sZ mZ argsZ belowZ methZ cZ C hr hnm
  refine J_aload_n (pc := 0) C dJ0_length_8abf5_0 0 rfl ?_
  refine J_getA (pc := 1) C dJ0_length_8abf5_1 jf_J0 0 rfl rfl 0 (by decide) fl_RJ0_9 rfl ?_
  refine J_alen (pc := 4) C dJ0_length_8abf5_4 1 1 rfl rfl ?_
  refine J_aload_n (pc := 5) C dJ0_length_8abf5_5 0 rfl ?_
  refine J_cvF (As := []) (st := [.int (nI t.length)]) (pc := 6) C dJ0_length_8abf5_6 ml_RJ0_335 mi_yJ0_coder_7d493 (c_mcoder l D cI cB cL cO pf b u) [(u, .inl (cB, t.length, .inl (bN t)))] (permN [0] [1] 2 rfl rfl rfl (by decide)) (q0 := 0) rfl rfl rfl ⟨(Nat.le_of_ble_eq_true rfl), (Nat.le_of_ble_eq_true rfl)⟩ ⟨(by first | exact Nat.le_of_ble_eq_true rfl | omega | (dsimp only; omega)), (by first | exact Nat.le_of_ble_eq_true rfl | omega | (dsimp only; omega))⟩ (Nat.le_of_ble_eq_true rfl) ?_
  rintro v w1 ⟨rfl, rfl⟩
  refine J_ws (ws2 := [(b, .inr (11, [.ref u, .int 0, .int 0, .int 0])), (u, .inl (cB, t.length, .inl (bN t)))]) rfl ?_
  refine J_ishr (pc := 9) C dJ0_length_8abf5_9 ?_
  refine J_top (α := Unit) (X := none) (nI t.length) (sb_shr0 _) ?_
  refine J_drop (ws2 := [(b, .inr (11, [.ref u, .int 0, .int 0, .int 0])), (u, .inl (cB, t.length, .inl (bN t)))]) (Wr := []) (permN [0, 1] [] 2 rfl rfl rfl (by decide)) ?_
  refine J_widen (k2 := 0) (n2 := 0) (by first | exact Nat.le_of_ble_eq_true rfl | omega | (dsimp only; omega)) (by first | exact Nat.le_of_ble_eq_true rfl | omega | (dsimp only; omega)) ?_
  exact J_iret (pc := 10) C dJ0_length_8abf5_10 hr ⟨rfl, rfl⟩

theorem dJ5_inflateIfNeededFor_a7421_0 : decode cJ5_inflateIfNeededFor_a7421 0 = .ok (.getstatic 18, 3) := by decide +kernel
theorem dJ5_inflateIfNeededFor_a7421_3 : decode cJ5_inflateIfNeededFor_a7421 3 = .ok (.ifCond .eq 18, 3) := by decide +kernel
theorem dJ5_inflateIfNeededFor_a7421_6 : decode cJ5_inflateIfNeededFor_a7421 6 = .ok (.aload_n 0, 1) := by decide +kernel
theorem dJ5_inflateIfNeededFor_a7421_7 : decode cJ5_inflateIfNeededFor_a7421 7 = .ok (.getfield 22, 3) := by decide +kernel
theorem dJ5_inflateIfNeededFor_a7421_10 : decode cJ5_inflateIfNeededFor_a7421 10 = .ok (.aload_n 1, 1) := by decide +kernel
theorem dJ5_inflateIfNeededFor_a7421_11 : decode cJ5_inflateIfNeededFor_a7421 11 = .ok (.invokevirtual 40, 3) := by decide +kernel
theorem dJ5_inflateIfNeededFor_a7421_14 : decode cJ5_inflateIfNeededFor_a7421 14 = .ok (.if_icmp .eq 7, 3) := by decide +kernel
theorem dJ5_inflateIfNeededFor_a7421_17 : decode cJ5_inflateIfNeededFor_a7421 17 = .ok (.aload_n 0, 1) := by decide +kernel
theorem dJ5_inflateIfNeededFor_a7421_18 : decode cJ5_inflateIfNeededFor_a7421 18 = .ok (.invokevirtual 195, 3) := by decide +kernel
theorem dJ5_inflateIfNeededFor_a7421_21 : decode cJ5_inflateIfNeededFor_a7421 21 = .ok (.return_, 1) := by decide +kernel

set_option maxHeartbeats 4000000 in
set_option maxRecDepth 100000 in
theorem c_inflM (l : Launch) (D : va_G) (cI cB cL cO : ClassId) (pf : Nat → Nat) (a v : Nat) (cnt : Int32) (b u : Nat) : Ct l D [(cI, .int), (cB, .byte), (cL, .byte), (cO, .object RX0)] pf yJ5_inflateIfNeededFor_a7421 cJ5_inflateIfNeededFor_a7421 2 (none : Option FieldType) { frames := 1, cells := 0, slots := 0, locals := 20 } [.ref a, .ref b] [(a, .inr (12, [.ref v, .int 0, .int 0, .int cnt])), (b, .inr (11, [.ref u, .int 0, .int 0, .int 0]))] (is1 none [(a, .inr (12, [.ref v, .int 0, .int 0, .int cnt])), (b, .inr (11, [.ref u, .int 0, .int 0, .int 0]))]) := by
  refine Ct_of (own := RJ5) (lv0 := [(0, .ref a), (1, .ref b)]) (by decide) rfl rfl (Nat.le_of_ble_eq_true rfl) ?_
  intro pZ eZ sZ mZ argsZ belowZ methZ cZ C hr hnm
  refine J_gcs (pc := 0) C dJ5_inflateIfNeededFor_a7421_0 fl_RJ5_18 ?_
  refine J_if_eq (α := Unit) (o := ()) (X := none) (Y := some ()) (pc := 3) (tgt := 21) C dJ5_inflateIfNeededFor_a7421_3 (by decide) (if_neg (by decide)) (fun h => by cases h) (fun _ => ?_)
  refine J_aload_n (pc := 6) C dJ5_inflateIfNeededFor_a7421_6 0 rfl ?_
  refine J_getA (pc := 7) C dJ5_inflateIfNeededFor_a7421_7 jf_J4 0 rfl rfl 1 (by decide) fl_RJ5_22 rfl ?_
  refine J_aload_n (pc := 10) C dJ5_inflateIfNeededFor_a7421_10 1 rfl ?_
  refine J_cvF (As := []) (st := [.int 0]) (pc := 11) C dJ5_inflateIfNeededFor_a7421_11 ml_RJ5_40 mi_yJ0_coder_7d493 (c_mcoder l D cI cB cL cO pf b u) [(a, .inr (12, [.ref v, .int 0, .int 0, .int cnt]))] (permN [1] [0] 2 rfl rfl rfl (by decide)) (q0 := 0) rfl rfl rfl ⟨(Nat.le_of_ble_eq_true rfl), (Nat.le_of_ble_eq_true rfl)⟩ ⟨(by first | exact Nat.le_of_ble_eq_true rfl | omega | (dsimp only; omega)), (by first | exact Nat.le_of_ble_eq_true rfl | omega | (dsimp only; omega))⟩ (Nat.le_of_ble_eq_true rfl) ?_
  rintro v w1 ⟨rfl, rfl⟩
  refine J_ws (ws2 := [(b, .inr (11, [.ref u, .int 0, .int 0, .int 0])), (a, .inr (12, [.ref v, .int 0, .int 0, .int cnt]))]) rfl ?_
  refine J_drop (ws2 := [(a, .inr (12, [.ref v, .int 0, .int 0, .int cnt])), (b, .inr (11, [.ref u, .int 0, .int 0, .int 0]))]) (Wr := []) (permN [1, 0] [] 2 rfl rfl rfl (by decide)) ?_
  refine J_ic_eq (α := Unit) (o := ()) (X := some ()) (Y := none) (pc := 14) (tgt := 21) C dJ5_inflateIfNeededFor_a7421_14 (by decide) (if_pos rfl) (fun _ => ?_) (fun h => by cases h)
  refine J_widen (k2 := 0) (n2 := 0) (by first | exact Nat.le_of_ble_eq_true rfl | omega | (dsimp only; omega)) (by first | exact Nat.le_of_ble_eq_true rfl | omega | (dsimp only; omega)) ?_
  exact J_vret (pc := 21) C dJ5_inflateIfNeededFor_a7421_21 hr ⟨rfl, rfl⟩

theorem dJ0_getBytes_840e7_0 : decode cJ0_getBytes_840e7 0 = .ok (.aload_n 0, 1) := by decide +kernel
theorem dJ0_getBytes_840e7_1 : decode cJ0_getBytes_840e7 1 = .ok (.invokevirtual 335, 3) := by decide +kernel
theorem dJ0_getBytes_840e7_4 : decode cJ0_getBytes_840e7 4 = .ok (.iload_n 3, 1) := by decide +kernel
theorem dJ0_getBytes_840e7_5 : decode cJ0_getBytes_840e7 5 = .ok (.if_icmp .ne 23, 3) := by decide +kernel
theorem dJ0_getBytes_840e7_8 : decode cJ0_getBytes_840e7 8 = .ok (.aload_n 0, 1) := by decide +kernel
theorem dJ0_getBytes_840e7_9 : decode cJ0_getBytes_840e7 9 = .ok (.getfield 9, 3) := by decide +kernel
theorem dJ0_getBytes_840e7_12 : decode cJ0_getBytes_840e7 12 = .ok (.iconst 0, 1) := by decide +kernel
theorem dJ0_getBytes_840e7_13 : decode cJ0_getBytes_840e7 13 = .ok (.aload_n 1, 1) := by decide +kernel
theorem dJ0_getBytes_840e7_14 : decode cJ0_getBytes_840e7 14 = .ok (.iload_n 2, 1) := by decide +kernel
theorem dJ0_getBytes_840e7_15 : decode cJ0_getBytes_840e7 15 = .ok (.iload_n 3, 1) := by decide +kernel
theorem dJ0_getBytes_840e7_16 : decode cJ0_getBytes_840e7 16 = .ok (.ishl, 1) := by decide +kernel
theorem dJ0_getBytes_840e7_17 : decode cJ0_getBytes_840e7 17 = .ok (.aload_n 0, 1) := by decide +kernel
theorem dJ0_getBytes_840e7_18 : decode cJ0_getBytes_840e7 18 = .ok (.getfield 9, 3) := by decide +kernel
theorem dJ0_getBytes_840e7_21 : decode cJ0_getBytes_840e7 21 = .ok (.arraylength, 1) := by decide +kernel
theorem dJ0_getBytes_840e7_22 : decode cJ0_getBytes_840e7 22 = .ok (.invokestatic 212, 3) := by decide +kernel
theorem dJ0_getBytes_840e7_25 : decode cJ0_getBytes_840e7 25 = .ok (.goto 18, 3) := by decide +kernel
theorem dJ0_getBytes_840e7_28 : decode cJ0_getBytes_840e7 28 = .ok (.aload_n 0, 1) := by decide +kernel
theorem dJ0_getBytes_840e7_29 : decode cJ0_getBytes_840e7 29 = .ok (.getfield 9, 3) := by decide +kernel
theorem dJ0_getBytes_840e7_32 : decode cJ0_getBytes_840e7 32 = .ok (.iconst 0, 1) := by decide +kernel
theorem dJ0_getBytes_840e7_33 : decode cJ0_getBytes_840e7 33 = .ok (.aload_n 1, 1) := by decide +kernel
theorem dJ0_getBytes_840e7_34 : decode cJ0_getBytes_840e7 34 = .ok (.iload_n 2, 1) := by decide +kernel
theorem dJ0_getBytes_840e7_35 : decode cJ0_getBytes_840e7 35 = .ok (.aload_n 0, 1) := by decide +kernel
theorem dJ0_getBytes_840e7_36 : decode cJ0_getBytes_840e7 36 = .ok (.getfield 9, 3) := by decide +kernel
theorem dJ0_getBytes_840e7_39 : decode cJ0_getBytes_840e7 39 = .ok (.arraylength, 1) := by decide +kernel
theorem dJ0_getBytes_840e7_40 : decode cJ0_getBytes_840e7 40 = .ok (.invokestatic 106, 3) := by decide +kernel
theorem dJ0_getBytes_840e7_43 : decode cJ0_getBytes_840e7 43 = .ok (.return_, 1) := by decide +kernel

set_option maxHeartbeats 4000000 in
set_option maxRecDepth 100000 in
theorem c_getBM (l : Launch) (D : va_G) (cI cB cL cO : ClassId) (pf : Nat → Nat) (b u : Nat) (s : List Nat) (hs : AS s) (v cap : Nat) (t : List Nat) (hf : t.length + s.length ≤ cap) (hc : cap ≤ 4096) : Ct l D [(cI, .int), (cB, .byte), (cL, .byte), (cO, .object RX0)] pf yJ0_getBytes_840e7 cJ0_getBytes_840e7 4 (none : Option FieldType) { frames := 1, cells := 0, slots := 0, locals := 60 } [.ref b, .ref v, .int (nI t.length), .int 0] [(b, .inr (11, [.ref u, .int 0, .int 0, .int 0])), (u, .inl (cB, s.length, .inl (bN s))), (v, .inl (cB, cap, .inl (bN t)))] (is1 none [(b, .inr (11, [.ref u, .int 0, .int 0, .int 0])), (u, .inl (cB, s.length, .inl (bN s))), (v, .inl (cB, cap, .inl (bN (t ++ s))))]) := by
  refine Ct_of (own := RJ0) (lv0 := [(0, .ref b), (1, .ref v), (2, .int (nI t.length)), (3, .int 0)]) (by decide) rfl rfl (Nat.le_of_ble_eq_true rfl) ?_
  intro pZ eZ sZ mZ argsZ belowZ methZ cZ C hr hnm
  refine J_aload_n (pc := 0) C dJ0_getBytes_840e7_0 0 rfl ?_
  refine J_cvF (As := []) (st := []) (pc := 1) C dJ0_getBytes_840e7_1 ml_RJ0_335 mi_yJ0_coder_7d493 (c_mcoder l D cI cB cL cO pf b u) [(u, .inl (cB, s.length, .inl (bN s))), (v, .inl (cB, cap, .inl (bN t)))] (permN [0] [1, 2] 3 rfl rfl rfl (by decide)) (q0 := 0) rfl rfl rfl ⟨(Nat.le_of_ble_eq_true rfl), (Nat.le_of_ble_eq_true rfl)⟩ ⟨(by first | exact Nat.le_of_ble_eq_true rfl | omega | (dsimp only; omega)), (by first | exact Nat.le_of_ble_eq_true rfl | omega | (dsimp only; omega))⟩ (Nat.le_of_ble_eq_true rfl) ?_
  rintro v w1 ⟨rfl, rfl⟩
  refine J_ws (ws2 := [(b, .inr (11, [.ref u, .int 0, .int 0, .int 0])), (u, .inl (cB, s.length, .inl (bN s))), (v, .inl (cB, cap, .inl (bN t)))]) rfl ?_
  refine J_drop (ws2 := [(b, .inr (11, [.ref u, .int 0, .int 0, .int 0])), (u, .inl (cB, s.length, .inl (bN s))), (v, .inl (cB, cap, .inl (bN t)))]) (Wr := []) (permN [0, 1, 2] [] 3 rfl rfl rfl (by decide)) ?_
  refine J_iload_n (pc := 4) C dJ0_getBytes_840e7_4 3 rfl ?_
  refine J_ic_ne (α := Unit) (o := ()) (X := some ()) (Y := none) (pc := 5) (tgt := 28) C dJ0_getBytes_840e7_5 (by decide) (if_pos rfl) (fun h => by cases h) (fun _ => ?_)
  refine J_aload_n (pc := 8) C dJ0_getBytes_840e7_8 0 rfl ?_
  refine J_getA (pc := 9) C dJ0_getBytes_840e7_9 jf_J0 0 rfl rfl 0 (by decide) fl_RJ0_9 rfl ?_
  refine J_iconst (v := (0 : Int32)) (pc := 12) C dJ0_getBytes_840e7_12 (by decide) ?_
  refine J_aload_n (pc := 13) C dJ0_getBytes_840e7_13 1 rfl ?_
  refine J_iload_n (pc := 14) C dJ0_getBytes_840e7_14 2 rfl ?_
  refine J_iload_n (pc := 15) C dJ0_getBytes_840e7_15 3 rfl ?_
  refine J_ishl (pc := 16) C dJ0_getBytes_840e7_16 ?_
  refine J_top (α := Unit) (X := none) (nI t.length) (sb_shl0 _) ?_
  refine J_aload_n (pc := 17) C dJ0_getBytes_840e7_17 0 rfl ?_
  refine J_getA (pc := 18) C dJ0_getBytes_840e7_18 jf_J0 0 rfl rfl 0 (by decide) fl_RJ0_9 rfl ?_
  refine J_alen (pc := 21) C dJ0_getBytes_840e7_21 1 1 rfl rfl ?_
  refine J_copyB (ws2 := [(b, .inr (11, [.ref u, .int 0, .int 0, .int 0])), (u, .inl (cB, s.length, .inl (bN s))), (v, .inl (cB, cap, .inl (bN (t ++ s))))]) (pc := 22) C dJ0_getBytes_840e7_22 ml_RJ0_212 1 2 1 1 rfl rfl rfl rfl ⟨by decide, nI_pos (by omega), nI_pos (by omega), by rw [nI_clamp (by omega), clamp0]; omega, by rw [nI_clamp (by omega), nI_clamp (by omega)]; omega⟩ (fun i _ => fit_b (hs _)) (Nat.le_of_ble_eq_true rfl) (Nat.le_of_ble_eq_true rfl) (by rw [nI_clamp (by omega : s.length < 2 ^ 31), nI_clamp (by omega : t.length < 2 ^ 31), clamp0, bN_cat]; rfl) ?_
  refine J_goto (tgt := 43) (pc := 25) C dJ0_getBytes_840e7_25 (by decide) ?_
  refine J_widen (k2 := 0) (n2 := 0) (by first | exact Nat.le_of_ble_eq_true rfl | omega | (dsimp only; omega)) (by first | exact Nat.le_of_ble_eq_true rfl | omega | (dsimp only; omega)) ?_
  exact J_vret (pc := 43) C dJ0_getBytes_840e7_43 hr ⟨rfl, rfl⟩

theorem dJ5_putStringAt_47b60_0 : decode cJ5_putStringAt_47b60 0 = .ok (.aload_n 0, 1) := by decide +kernel
theorem dJ5_putStringAt_47b60_1 : decode cJ5_putStringAt_47b60 1 = .ok (.aload_n 2, 1) := by decide +kernel
theorem dJ5_putStringAt_47b60_2 : decode cJ5_putStringAt_47b60 2 = .ok (.invokevirtual 397, 3) := by decide +kernel
theorem dJ5_putStringAt_47b60_5 : decode cJ5_putStringAt_47b60 5 = .ok (.aload_n 2, 1) := by decide +kernel
theorem dJ5_putStringAt_47b60_6 : decode cJ5_putStringAt_47b60 6 = .ok (.aload_n 0, 1) := by decide +kernel
theorem dJ5_putStringAt_47b60_7 : decode cJ5_putStringAt_47b60 7 = .ok (.getfield 15, 3) := by decide +kernel
theorem dJ5_putStringAt_47b60_10 : decode cJ5_putStringAt_47b60 10 = .ok (.iload_n 1, 1) := by decide +kernel
theorem dJ5_putStringAt_47b60_11 : decode cJ5_putStringAt_47b60 11 = .ok (.aload_n 0, 1) := by decide +kernel
theorem dJ5_putStringAt_47b60_12 : decode cJ5_putStringAt_47b60 12 = .ok (.getfield 22, 3) := by decide +kernel
theorem dJ5_putStringAt_47b60_15 : decode cJ5_putStringAt_47b60 15 = .ok (.invokevirtual 399, 3) := by decide +kernel
theorem dJ5_putStringAt_47b60_18 : decode cJ5_putStringAt_47b60 18 = .ok (.return_, 1) := by decide +kernel

set_option maxHeartbeats 4000000 in
set_option maxRecDepth 100000 in
theorem c_putSM (l : Launch) (D : va_G) (cI cB cL cO : ClassId) (pf : Nat → Nat) (a : Nat) (cnt : Int32) (b u : Nat) (s : List Nat) (hs : AS s) (v cap : Nat) (t : List Nat) (hf : t.length + s.length ≤ cap) (hc : cap ≤ 4096) : Ct l D [(cI, .int), (cB, .byte), (cL, .byte), (cO, .object RX0)] pf yJ5_putStringAt_47b60 cJ5_putStringAt_47b60 3 (none : Option FieldType) { frames := 2, cells := 0, slots := 0, locals := 83 } [.ref a, .int (nI t.length), .ref b] [(a, .inr (12, [.ref v, .int 0, .int 0, .int cnt])), (v, .inl (cB, cap, .inl (bN t))), (b, .inr (11, [.ref u, .int 0, .int 0, .int 0])), (u, .inl (cB, s.length, .inl (bN s)))] (is1 none [(a, .inr (12, [.ref v, .int 0, .int 0, .int cnt])), (v, .inl (cB, cap, .inl (bN (t ++ s)))), (b, .inr (11, [.ref u, .int 0, .int 0, .int 0])), (u, .inl (cB, s.length, .inl (bN s)))]) := by
  refine Ct_of (own := RJ5) (lv0 := [(0, .ref a), (1, .int (nI t.length)), (2, .ref b)]) (by decide) rfl rfl (Nat.le_of_ble_eq_true rfl) ?_
  intro pZ eZ sZ mZ argsZ belowZ methZ cZ C hr hnm
  refine J_aload_n (pc := 0) C dJ5_putStringAt_47b60_0 0 rfl ?_
  refine J_aload_n (pc := 1) C dJ5_putStringAt_47b60_1 2 rfl ?_
  refine J_cuF (C2 := RJ4) (As := [.ref b]) (st := []) (pc := 2) C dJ5_putStringAt_47b60_2 ml_RJ5_397 se_yJ5_inflateIfNeededFor_a7421 mu_yJ5_inflateIfNeededFor_a7421 (c_inflM l D cI cB cL cO pf a v cnt b u) [(v, .inl (cB, cap, .inl (bN t))), (u, .inl (cB, s.length, .inl (bN s)))] (permN [0, 2] [1, 3] 4 rfl rfl rfl (by decide)) (q0 := 0) rfl rfl rfl ⟨(Nat.le_of_ble_eq_true rfl), (Nat.le_of_ble_eq_true rfl)⟩ ⟨(by first | exact Nat.le_of_ble_eq_true rfl | omega | (dsimp only; omega)), (by first | exact Nat.le_of_ble_eq_true rfl | omega | (dsimp only; omega))⟩ (Nat.le_of_ble_eq_true rfl) ?_
  rintro v w1 ⟨rfl, rfl⟩
  refine J_ws (ws2 := [(a, .inr (12, [.ref v, .int 0, .int 0, .int cnt])), (b, .inr (11, [.ref u, .int 0, .int 0, .int 0])), (v, .inl (cB, cap, .inl (bN t))), (u, .inl (cB, s.length, .inl (bN s)))]) rfl ?_
  refine J_drop (ws2 := [(a, .inr (12, [.ref v, .int 0, .int 0, .int cnt])), (v, .inl (cB, cap, .inl (bN t))), (b, .inr (11, [.ref u, .int 0, .int 0, .int 0])), (u, .inl (cB, s.length, .inl (bN s)))]) (Wr := []) (permN [0, 2, 1, 3] [] 4 rfl rfl rfl (by decide)) ?_
  refine J_aload_n (pc := 5) C dJ5_putStringAt_47b60_5 2 rfl ?_
  refine J_aload_n (pc := 6) C dJ5_putStringAt_47b60_6 0 rfl ?_
  refine J_getA (pc := 7) C dJ5_putStringAt_47b60_7 jf_J4 0 rfl rfl 0 (by decide) fl_RJ5_15 rfl ?_
  refine J_iload_n (pc := 10) C dJ5_putStringAt_47b60_10 1 rfl ?_
  refine J_aload_n (pc := 11) C dJ5_putStringAt_47b60_11 0 rfl ?_
  refine J_getA (pc := 12) C dJ5_putStringAt_47b60_12 jf_J4 0 rfl rfl 1 (by decide) fl_RJ5_22 rfl ?_
  refine J_cvF (As := [.ref v, .int (nI t.length), .int 0]) (st := []) (pc := 15) C dJ5_putStringAt_47b60_15 ml_RJ5_399 mi_yJ0_getBytes_840e7 (c_getBM l D cI cB cL cO pf b u s hs v cap t hf hc) [(a, .inr (12, [.ref v, .int 0, .int 0, .int cnt]))] (permN [2, 3, 1] [0] 4 rfl rfl rfl (by decide)) (q0 := 0) rfl rfl rfl ⟨(Nat.le_of_ble_eq_true rfl), (Nat.le_of_ble_eq_true rfl)⟩ ⟨(by first | exact Nat.le_of_ble_eq_true rfl | omega | (dsimp only; omega)), (by first | exact Nat.le_of_ble_eq_true rfl | omega | (dsimp only; omega))⟩ (Nat.le_of_ble_eq_true rfl) ?_
  rintro v w1 ⟨rfl, rfl⟩
  refine J_ws (ws2 := [(b, .inr (11, [.ref u, .int 0, .int 0, .int 0])), (u, .inl (cB, s.length, .inl (bN s))), (v, .inl (cB, cap, .inl (bN (t ++ s)))), (a, .inr (12, [.ref v, .int 0, .int 0, .int cnt]))]) rfl ?_
  refine J_drop (ws2 := [(a, .inr (12, [.ref v, .int 0, .int 0, .int cnt])), (v, .inl (cB, cap, .inl (bN (t ++ s)))), (b, .inr (11, [.ref u, .int 0, .int 0, .int 0])), (u, .inl (cB, s.length, .inl (bN s)))]) (Wr := []) (permN [3, 2, 0, 1] [] 4 rfl rfl rfl (by decide)) ?_
  refine J_widen (k2 := 0) (n2 := 0) (by first | exact Nat.le_of_ble_eq_true rfl | omega | (dsimp only; omega)) (by first | exact Nat.le_of_ble_eq_true rfl | omega | (dsimp only; omega)) ?_
  exact J_vret (pc := 18) C dJ5_putStringAt_47b60_18 hr ⟨rfl, rfl⟩

theorem dJ5_append_cf1ce_0 : decode cJ5_append_cf1ce 0 = .ok (.aload_n 1, 1) := by decide +kernel
theorem dJ5_append_cf1ce_1 : decode cJ5_append_cf1ce 1 = .ok (.ifnonnull 8, 3) := by decide +kernel
theorem dJ5_append_cf1ce_4 : decode cJ5_append_cf1ce 4 = .ok (.aload_n 0, 1) := by decide +kernel
theorem dJ5_append_cf1ce_5 : decode cJ5_append_cf1ce 5 = .ok (.invokevirtual 204, 3) := by decide +kernel
theorem dJ5_append_cf1ce_8 : decode cJ5_append_cf1ce 8 = .ok (.areturn, 1) := by decide +kernel
theorem dJ5_append_cf1ce_9 : decode cJ5_append_cf1ce 9 = .ok (.aload_n 1, 1) := by decide +kernel
theorem dJ5_append_cf1ce_10 : decode cJ5_append_cf1ce 10 = .ok (.invokevirtual 32, 3) := by decide +kernel
theorem dJ5_append_cf1ce_13 : decode cJ5_append_cf1ce 13 = .ok (.istore_n 2, 1) := by decide +kernel
theorem dJ5_append_cf1ce_14 : decode cJ5_append_cf1ce 14 = .ok (.aload_n 0, 1) := by decide +kernel
theorem dJ5_append_cf1ce_15 : decode cJ5_append_cf1ce 15 = .ok (.aload_n 0, 1) := by decide +kernel
theorem dJ5_append_cf1ce_16 : decode cJ5_append_cf1ce 16 = .ok (.getfield 79, 3) := by decide +kernel
theorem dJ5_append_cf1ce_19 : decode cJ5_append_cf1ce 19 = .ok (.iload_n 2, 1) := by decide +kernel
theorem dJ5_append_cf1ce_20 : decode cJ5_append_cf1ce 20 = .ok (.iadd, 1) := by decide +kernel
theorem dJ5_append_cf1ce_21 : decode cJ5_append_cf1ce 21 = .ok (.invokevirtual 100, 3) := by decide +kernel
theorem dJ5_append_cf1ce_24 : decode cJ5_append_cf1ce 24 = .ok (.aload_n 0, 1) := by decide +kernel
theorem dJ5_append_cf1ce_25 : decode cJ5_append_cf1ce 25 = .ok (.aload_n 0, 1) := by decide +kernel
theorem dJ5_append_cf1ce_26 : decode cJ5_append_cf1ce 26 = .ok (.getfield 79, 3) := by decide +kernel
theorem dJ5_append_cf1ce_29 : decode cJ5_append_cf1ce 29 = .ok (.aload_n 1, 1) := by decide +kernel
theorem dJ5_append_cf1ce_30 : decode cJ5_append_cf1ce 30 = .ok (.invokevirtual 208, 3) := by decide +kernel
theorem dJ5_append_cf1ce_33 : decode cJ5_append_cf1ce 33 = .ok (.aload_n 0, 1) := by decide +kernel
theorem dJ5_append_cf1ce_34 : decode cJ5_append_cf1ce 34 = .ok (.dup, 1) := by decide +kernel
theorem dJ5_append_cf1ce_35 : decode cJ5_append_cf1ce 35 = .ok (.getfield 79, 3) := by decide +kernel
theorem dJ5_append_cf1ce_38 : decode cJ5_append_cf1ce 38 = .ok (.iload_n 2, 1) := by decide +kernel
theorem dJ5_append_cf1ce_39 : decode cJ5_append_cf1ce 39 = .ok (.iadd, 1) := by decide +kernel
theorem dJ5_append_cf1ce_40 : decode cJ5_append_cf1ce 40 = .ok (.putfield 79, 3) := by decide +kernel
theorem dJ5_append_cf1ce_43 : decode cJ5_append_cf1ce 43 = .ok (.aload_n 0, 1) := by decide +kernel
theorem dJ5_append_cf1ce_44 : decode cJ5_append_cf1ce 44 = .ok (.areturn, 1) := by decide +kernel

set_option maxHeartbeats 4000000 in
set_option maxRecDepth 100000 in
theorem c_appSM (l : Launch) (D : va_G) (cI cB cL cO : ClassId) (pf : Nat → Nat) (a v cap : Nat) (t : List Nat) (b u : Nat) (s : List Nat) (hs : AS s) (ht : AS t) (hl : t.length ≤ cap) (hc : cap ≤ 4096) (hn : t.length + s.length ≤ 1000) : Ct l D [(cI, .int), (cB, .byte), (cL, .byte), (cO, .object RX0)] pf yJ5_append_cf1ce cJ5_append_cf1ce 3 (some (FieldType.object "java/lang/AbstractStringBuilder")) { frames := 4, cells := 1, slots := 4096, locals := 105 } [.ref a, .ref b] [(a, .inr (12, [.ref v, .int 0, .int 0, .int (nI t.length)])), (v, .inl (cB, cap, .inl (bN t))), (b, .inr (11, [.ref u, .int 0, .int 0, .int 0])), (u, .inl (cB, s.length, .inl (bN s)))] (fun V w => V = some (.ref a) ∧ ∃ v1 cap1, w = [(a, .inr (12, [.ref v1, .int 0, .int 0, .int (nI (t ++ s).length)])), (v1, .inl (cB, cap1, .inl (bN (t ++ s)))), (b, .inr (11, [.ref u, .int 0, .int 0, .int 0])), (u, .inl (cB, s.length, .inl (bN s)))] ∧ (t ++ s).length ≤ cap1 ∧ cap1 ≤ 4096) := by
  refine Ct_of (own := RJ5) (lv0 := [(0, .ref a), (1, .ref b)]) (by decide) rfl rfl (Nat.le_of_ble_eq_true rfl) ?_
  intro pZ eZ sZ mZ argsZ belowZ methZ cZ C hr hnm
  refine J_aload_n (pc := 0) C dJ5_append_cf1ce_0 1 rfl ?_
  refine J_ifnonnullR (tgt := 9) (pc := 1) C dJ5_append_cf1ce_1 (by decide) ?_
  refine J_aload_n (pc := 9) C dJ5_append_cf1ce_9 1 rfl ?_
  refine J_cvF (As := []) (st := []) (pc := 10) C dJ5_append_cf1ce_10 ml_RJ5_32 mi_yJ0_length_8abf5 (c_mlen l D cI cB cL cO pf b u s) [(a, .inr (12, [.ref v, .int 0, .int 0, .int (nI t.length)])), (v, .inl (cB, cap, .inl (bN t)))] (permN [2, 3] [0, 1] 4 rfl rfl rfl (by decide)) (q0 := 0) rfl rfl rfl ⟨(Nat.le_of_ble_eq_true rfl), (Nat.le_of_ble_eq_true rfl)⟩ ⟨(by first | exact Nat.le_of_ble_eq_true rfl | omega | (dsimp only; omega)), (by first | exact Nat.le_of_ble_eq_true rfl | omega | (dsimp only; omega))⟩ (Nat.le_of_ble_eq_true rfl) ?_
  rintro v w1 ⟨rfl, rfl⟩
  refine J_ws (ws2 := [(b, .inr (11, [.ref u, .int 0, .int 0, .int 0])), (u, .inl (cB, s.length, .inl (bN s))), (a, .inr (12, [.ref v, .int 0, .int 0, .int (nI t.length)])), (v, .inl (cB, cap, .inl (bN t)))]) rfl ?_
  refine J_drop (ws2 := [(a, .inr (12, [.ref v, .int 0, .int 0, .int (nI t.length)])), (v, .inl (cB, cap, .inl (bN t))), (b, .inr (11, [.ref u, .int 0, .int 0, .int 0])), (u, .inl (cB, s.length, .inl (bN s)))]) (Wr := []) (permN [2, 3, 0, 1] [] 4 rfl rfl rfl (by decide)) ?_
  refine J_istore_n (lv2 := [(2, .int (nI s.length)), (0, .ref a), (1, .ref b)]) (pc := 13) C dJ5_append_cf1ce_13 (by decide) rfl ?_
  refine J_aload_n (pc := 14) C dJ5_append_cf1ce_14 1 rfl ?_
  refine J_aload_n (pc := 15) C dJ5_append_cf1ce_15 1 rfl ?_
  refine J_getA (pc := 16) C dJ5_append_cf1ce_16 jf_J4 0 rfl rfl 3 (by decide) fl_RJ5_79 rfl ?_
  refine J_iload_n (pc := 19) C dJ5_append_cf1ce_19 0 rfl ?_
  refine J_iadd (pc := 20) C dJ5_append_cf1ce_20 ?_
  refine J_top (α := Unit) (X := none) (nI (t.length + s.length)) (nI_add _ _) ?_
  refine J_cuF (C2 := RJ4) (As := [.int (nI (t.length + s.length))]) (st := []) (pc := 21) C dJ5_append_cf1ce_21 ml_RJ5_100 se_yJ5_ensureCapacityInternal_d00df mu_yJ5_ensureCapacityInternal_d00df (c_ens l D cI cB cL cO pf a v cap (t.length + s.length) (nI t.length) t ht hl hc (by omega)) [(b, .inr (11, [.ref u, .int 0, .int 0, .int 0])), (u, .inl (cB, s.length, .inl (bN s)))] (permN [0, 1] [2, 3] 4 rfl rfl rfl (by decide)) (q0 := 0) rfl rfl rfl ⟨(Nat.le_of_ble_eq_true rfl), (Nat.le_of_ble_eq_true rfl)⟩ ⟨(by first | exact Nat.le_of_ble_eq_true rfl | omega | (dsimp only; omega)), (by first | exact Nat.le_of_ble_eq_true rfl | omega | (dsimp only; omega))⟩ (Nat.le_of_ble_eq_true rfl) ?_
  rintro v w1 ⟨rfl, v1, cap1, rfl, g1, g2, g3⟩
  refine J_ws (ws2 := [(a, .inr (12, [.ref v1, .int 0, .int 0, .int (nI t.length)])), (v1, .inl (cB, cap1, .inl (bN t))), (b, .inr (11, [.ref u, .int 0, .int 0, .int 0])), (u, .inl (cB, s.length, .inl (bN s)))]) rfl ?_
  refine J_aload_n (pc := 24) C dJ5_append_cf1ce_24 1 rfl ?_
  refine J_aload_n (pc := 25) C dJ5_append_cf1ce_25 1 rfl ?_
  refine J_getA (pc := 26) C dJ5_append_cf1ce_26 jf_J4 0 rfl rfl 3 (by decide) fl_RJ5_79 rfl ?_
  refine J_aload_n (pc := 29) C dJ5_append_cf1ce_29 2 rfl ?_
  refine J_cuF (C2 := RJ4) (As := [.int (nI t.length), .ref b]) (st := []) (pc := 30) C dJ5_append_cf1ce_30 ml_RJ5_208 se_yJ5_putStringAt_47b60 mu_yJ5_putStringAt_47b60 (c_putSM l D cI cB cL cO pf a (nI t.length) b u s hs v1 cap1 t g1 g3) [] (permN [0, 1, 2, 3] [] 4 rfl rfl rfl (by decide)) (q0 := 0) rfl rfl rfl ⟨(Nat.le_of_ble_eq_true rfl), (Nat.le_of_ble_eq_true rfl)⟩ ⟨(by first | exact Nat.le_of_ble_eq_true rfl | omega | (dsimp only; omega)), (by first | exact Nat.le_of_ble_eq_true rfl | omega | (dsimp only; omega))⟩ (Nat.le_of_ble_eq_true rfl) ?_
  rintro v w1 ⟨rfl, rfl⟩
  refine J_ws (ws2 := [(a, .inr (12, [.ref v1, .int 0, .int 0, .int (nI t.length)])), (v1, .inl (cB, cap1, .inl (bN (t ++ s)))), (b, .inr (11, [.ref u, .int 0, .int 0, .int 0])), (u, .inl (cB, s.length, .inl (bN s)))]) rfl ?_
  refine J_aload_n (pc := 33) C dJ5_append_cf1ce_33 1 rfl ?_
  refine J_dupr (pc := 34) C dJ5_append_cf1ce_34 ?_
  refine J_getA (pc := 35) C dJ5_append_cf1ce_35 jf_J4 0 rfl rfl 3 (by decide) fl_RJ5_79 rfl ?_
  refine J_iload_n (pc := 38) C dJ5_append_cf1ce_38 0 rfl ?_
  refine J_iadd (pc := 39) C dJ5_append_cf1ce_39 ?_
  refine J_top (α := Unit) (X := none) (nI (t ++ s).length) (by rw [nI_add, List.length_append]) ?_
  refine J_putA (tt := .int) (pc := 40) C dJ5_append_cf1ce_40 jf_J4 0 rfl rfl 3 (by decide) fl_RJ5_79 rfl (by decide +kernel) rfl rfl (Nat.le_of_ble_eq_true rfl) ?_
  refine J_ws (ws2 := [(a, .inr (12, [.ref v1, .int 0, .int 0, .int (nI (t ++ s).length)])), (v1, .inl (cB, cap1, .inl (bN (t ++ s)))), (b, .inr (11, [.ref u, .int 0, .int 0, .int 0])), (u, .inl (cB, s.length, .inl (bN s)))]) rfl ?_
  refine J_aload_n (pc := 43) C dJ5_append_cf1ce_43 1 rfl ?_
  refine J_widen (k2 := 1) (n2 := 4096) (by first | exact Nat.le_of_ble_eq_true rfl | omega | (dsimp only; omega)) (by first | exact Nat.le_of_ble_eq_true rfl | omega | (dsimp only; omega)) ?_
  exact J_aret (pc := 44) C dJ5_append_cf1ce_44 hr (by first | exact Or.inl ⟨_, rfl⟩ | exact Or.inr ⟨_, rfl⟩) (Or.inr ⟨_, rfl⟩) ⟨rfl, v1, cap1, rfl, by rw [List.length_append]; exact g1, g3⟩

theorem dJ4_append_15ec4_0 : decode cJ4_append_15ec4 0 = .ok (.aload_n 0, 1) := by decide +kernel
theorem dJ4_append_15ec4_1 : decode cJ4_append_15ec4 1 = .ok (.aload_n 1, 1) := by decide +kernel
theorem dJ4_append_15ec4_2 : decode cJ4_append_15ec4 2 = .ok (.invokespecial 29, 3) := by decide +kernel
theorem dJ4_append_15ec4_5 : decode cJ4_append_15ec4 5 = .ok (.pop, 1) := by decide +kernel
theorem dJ4_append_15ec4_6 : decode cJ4_append_15ec4 6 = .ok (.aload_n 0, 1) := by decide +kernel
theorem dJ4_append_15ec4_7 : decode cJ4_append_15ec4 7 = .ok (.areturn, 1) := by decide +kernel

set_option maxHeartbeats 4000000 in
set_option maxRecDepth 100000 in
theorem c_SBSM (l : Launch) (D : va_G) (cI cB cL cO : ClassId) (pf : Nat → Nat) (a v cap : Nat) (t : List Nat) (b u : Nat) (s : List Nat) (hs : AS s) (ht : AS t) (hl : t.length ≤ cap) (hc : cap ≤ 4096) (hn : t.length + s.length ≤ 1000) : Ct l D [(cI, .int), (cB, .byte), (cL, .byte), (cO, .object RX0)] pf yJ4_append_15ec4 cJ4_append_15ec4 2 (some (FieldType.object "java/lang/StringBuilder")) { frames := 5, cells := 1, slots := 4096, locals := 127 } [.ref a, .ref b] [(a, .inr (12, [.ref v, .int 0, .int 0, .int (nI t.length)])), (v, .inl (cB, cap, .inl (bN t))), (b, .inr (11, [.ref u, .int 0, .int 0, .int 0])), (u, .inl (cB, s.length, .inl (bN s)))] (fun V w => V = some (.ref a) ∧ ∃ v1 cap1, w = [(a, .inr (12, [.ref v1, .int 0, .int 0, .int (nI (t ++ s).length)])), (v1, .inl (cB, cap1, .inl (bN (t ++ s)))), (b, .inr (11, [.ref u, .int 0, .int 0, .int 0])), (u, .inl (cB, s.length, .inl (bN s)))] ∧ (t ++ s).length ≤ cap1 ∧ cap1 ≤ 4096) := by
  refine Ct_of (own := RJ4) (lv0 := [(0, .ref a), (1, .ref b)]) (by decide) rfl rfl (Nat.le_of_ble_eq_true rfl) ?_
  intro pZ eZ sZ mZ argsZ belowZ methZ cZ C hr hnm
  refine J_aload_n (pc := 0) C dJ4_append_15ec4_0 0 rfl ?_
  refine J_aload_n (pc := 1) C dJ4_append_15ec4_1 1 rfl ?_
  refine J_spF (As := [.ref b]) (st := []) (pc := 2) C dJ4_append_15ec4_2 ml_RJ4_29 w_sup mu_yJ5_append_cf1ce (c_appSM l D cI cB cL cO pf a v cap t b u s hs ht hl hc hn) [] (permN [0, 1, 2, 3] [] 4 rfl rfl rfl (by decide)) (q0 := 0) rfl rfl rfl ⟨(Nat.le_of_ble_eq_true rfl), (Nat.le_of_ble_eq_true rfl)⟩ ⟨(by first | exact Nat.le_of_ble_eq_true rfl | omega | (dsimp only; omega)), (by first | exact Nat.le_of_ble_eq_true rfl | omega | (dsimp only; omega))⟩ (Nat.le_of_ble_eq_true rfl) ?_
  rintro v w1 ⟨rfl, v1, cap1, rfl, g1, g3⟩
  refine J_ws (ws2 := [(a, .inr (12, [.ref v1, .int 0, .int 0, .int (nI (t ++ s).length)])), (v1, .inl (cB, cap1, .inl (bN (t ++ s)))), (b, .inr (11, [.ref u, .int 0, .int 0, .int 0])), (u, .inl (cB, s.length, .inl (bN s)))]) rfl ?_
  refine J_popr (pc := 5) C dJ4_append_15ec4_5 ?_
  refine J_aload_n (pc := 6) C dJ4_append_15ec4_6 0 rfl ?_
  refine J_widen (k2 := 1) (n2 := 4096) (by first | exact Nat.le_of_ble_eq_true rfl | omega | (dsimp only; omega)) (by first | exact Nat.le_of_ble_eq_true rfl | omega | (dsimp only; omega)) ?_
  exact J_aret (pc := 7) C dJ4_append_15ec4_7 hr (by first | exact Or.inl ⟨_, rfl⟩ | exact Or.inr ⟨_, rfl⟩) (Or.inr ⟨_, rfl⟩) ⟨rfl, v1, cap1, rfl, g1, g3⟩

set_option maxHeartbeats 4000000 in
set_option maxRecDepth 100000 in
theorem c_inflK (l : Launch) (D : va_G) (cI cB cL cO : ClassId) (pf : Nat → Nat) (a v : Nat) (cnt : Int32) (k : Nat) (hk : k < 20) : Ct l D [(cI, .int), (cB, .byte), (cL, .byte), (cO, .object RX0)] pf yJ5_inflateIfNeededFor_a7421 cJ5_inflateIfNeededFor_a7421 2 (none : Option FieldType) { frames := 1, cells := 0, slots := 0, locals := 20 } [.ref a, .ref (pf k)] [(a, .inr (12, [.ref v, .int 0, .int 0, .int cnt]))] (is1 none [(a, .inr (12, [.ref v, .int 0, .int 0, .int cnt]))]) := by
  refine Ct_of (own := RJ5) (lv0 := [(0, .ref a), (1, .ref (pf k))]) (by decide) rfl rfl (Nat.le_of_ble_eq_true rfl) ?_
  intro pZ eZ sZ mZ argsZ belowZ methZ cZ C hr hnm
  refine J_gcs (pc := 0) C dJ5_inflateIfNeededFor_a7421_0 fl_RJ5_18 ?_
  refine J_if_eq (α := Unit) (o := ()) (X := none) (Y := some ()) (pc := 3) (tgt := 21) C dJ5_inflateIfNeededFor_a7421_3 (by decide) (if_neg (by decide)) (fun h => by cases h) (fun _ => ?_)
  refine J_aload_n (pc := 6) C dJ5_inflateIfNeededFor_a7421_6 0 rfl ?_
  refine J_getA (pc := 7) C dJ5_inflateIfNeededFor_a7421_7 jf_J4 0 rfl rfl 1 (by decide) fl_RJ5_22 rfl ?_
  refine J_aload_n (pc := 10) C dJ5_inflateIfNeededFor_a7421_10 1 rfl ?_
  refine J_cvS (α := Unit) (o := ()) (fx := some ()) (K := fun _ => some ()) (V := fun _ => some (.int 0)) (As := []) (st := [.int 0]) (pc := 11) C dJ5_inflateIfNeededFor_a7421_11 ml_RJ5_40 mi_yJ0_coder_7d493 rfl hk (fun _ _ => c_J0_coder l D cI cB cL cO pf k hk) rfl rfl ⟨rfl, rfl⟩ ⟨(Nat.le_of_ble_eq_true rfl), (Nat.le_of_ble_eq_true rfl)⟩ ⟨(by first | exact Nat.le_of_ble_eq_true rfl | omega | (dsimp only; omega)), (by first | exact Nat.le_of_ble_eq_true rfl | omega | (dsimp only; omega))⟩ (Nat.le_of_ble_eq_true rfl) (fun _ _ => ?_)
  refine J_ic_eq (α := Unit) (o := ()) (X := some ()) (Y := none) (pc := 14) (tgt := 21) C dJ5_inflateIfNeededFor_a7421_14 (by decide) (if_pos rfl) (fun _ => ?_) (fun h => by cases h)
  refine J_widen (k2 := 0) (n2 := 0) (by first | exact Nat.le_of_ble_eq_true rfl | omega | (dsimp only; omega)) (by first | exact Nat.le_of_ble_eq_true rfl | omega | (dsimp only; omega)) ?_
  exact J_vret (pc := 21) C dJ5_inflateIfNeededFor_a7421_21 hr ⟨rfl, rfl⟩

set_option maxHeartbeats 4000000 in
set_option maxRecDepth 100000 in
theorem c_getBK (l : Launch) (D : va_G) (cI cB cL cO : ClassId) (pf : Nat → Nat) (k : Nat) (hk : k < 20) (v cap : Nat) (t : List Nat) (hf : t.length + sl_len k ≤ cap) (hc : cap ≤ 4096) : Ct l D [(cI, .int), (cB, .byte), (cL, .byte), (cO, .object RX0)] pf yJ0_getBytes_840e7 cJ0_getBytes_840e7 4 (none : Option FieldType) { frames := 1, cells := 0, slots := 0, locals := 60 } [.ref (pf k), .ref v, .int (nI t.length), .int 0] [(v, .inl (cB, cap, .inl (bN t)))] (is1 none [(v, .inl (cB, cap, .inl (bN (t ++ tx k))))]) := by
  refine Ct_of (own := RJ0) (lv0 := [(0, .ref (pf k)), (1, .ref v), (2, .int (nI t.length)), (3, .int 0)]) (by decide) rfl rfl (Nat.le_of_ble_eq_true rfl) ?_
  intro pZ eZ sZ mZ argsZ belowZ methZ cZ C hr hnm
  refine J_aload_n (pc := 0) C dJ0_getBytes_840e7_0 0 rfl ?_
  refine J_cvS (α := Unit) (o := ()) (fx := some ()) (K := fun _ => some ()) (V := fun _ => some (.int 0)) (As := []) (st := []) (pc := 1) C dJ0_getBytes_840e7_1 ml_RJ0_335 mi_yJ0_coder_7d493 rfl hk (fun _ _ => c_J0_coder l D cI cB cL cO pf k hk) rfl rfl ⟨rfl, rfl⟩ ⟨(Nat.le_of_ble_eq_true rfl), (Nat.le_of_ble_eq_true rfl)⟩ ⟨(by first | exact Nat.le_of_ble_eq_true rfl | omega | (dsimp only; omega)), (by first | exact Nat.le_of_ble_eq_true rfl | omega | (dsimp only; omega))⟩ (Nat.le_of_ble_eq_true rfl) (fun _ _ => ?_)
  refine J_iload_n (pc := 4) C dJ0_getBytes_840e7_4 3 rfl ?_
  refine J_ic_ne (α := Unit) (o := ()) (X := some ()) (Y := none) (pc := 5) (tgt := 28) C dJ0_getBytes_840e7_5 (by decide) (if_pos rfl) (fun h => by cases h) (fun _ => ?_)
  refine J_aload_n (pc := 8) C dJ0_getBytes_840e7_8 0 rfl ?_
  refine J_sval (pc := 9) C dJ0_getBytes_840e7_9 hk fl_RJ0_9 ?_
  refine J_iconst (v := (0 : Int32)) (pc := 12) C dJ0_getBytes_840e7_12 (by decide) ?_
  refine J_aload_n (pc := 13) C dJ0_getBytes_840e7_13 1 rfl ?_
  refine J_iload_n (pc := 14) C dJ0_getBytes_840e7_14 2 rfl ?_
  refine J_iload_n (pc := 15) C dJ0_getBytes_840e7_15 3 rfl ?_
  refine J_ishl (pc := 16) C dJ0_getBytes_840e7_16 ?_
  refine J_top (α := Unit) (X := none) (nI t.length) (sb_shl0 _) ?_
  refine J_aload_n (pc := 17) C dJ0_getBytes_840e7_17 0 rfl ?_
  refine J_sval (pc := 18) C dJ0_getBytes_840e7_18 hk fl_RJ0_9 ?_
  refine J_slen (pc := 21) C dJ0_getBytes_840e7_21 hk ?_
  refine J_copyS (ws2 := [(v, .inl (cB, cap, .inl (bN (t ++ tx k))))]) (hi := hk) (pc := 22) C dJ0_getBytes_840e7_22 ml_RJ0_212 0 1 rfl rfl ⟨by decide, nI_pos (by omega), nI_pos (by omega), by rw [nI_clamp (by omega), clamp0]; omega, by rw [nI_clamp (by omega), nI_clamp (by omega)]; omega⟩ (fun i _ => by rw [tx_ch]; exact fit_b (tx_AS hk _)) (Nat.le_of_ble_eq_true rfl) (Nat.le_of_ble_eq_true rfl) (by rw [nI_clamp (by omega : sl_len k < 2 ^ 31), nI_clamp (by omega : t.length < 2 ^ 31), clamp0, bN_catS hk]; rfl) ?_
  refine J_goto (tgt := 43) (pc := 25) C dJ0_getBytes_840e7_25 (by decide) ?_
  refine J_widen (k2 := 0) (n2 := 0) (by first | exact Nat.le_of_ble_eq_true rfl | omega | (dsimp only; omega)) (by first | exact Nat.le_of_ble_eq_true rfl | omega | (dsimp only; omega)) ?_
  exact J_vret (pc := 43) C dJ0_getBytes_840e7_43 hr ⟨rfl, rfl⟩

set_option maxHeartbeats 4000000 in
set_option maxRecDepth 100000 in
theorem c_putSK (l : Launch) (D : va_G) (cI cB cL cO : ClassId) (pf : Nat → Nat) (a : Nat) (cnt : Int32) (k : Nat) (hk : k < 20) (v cap : Nat) (t : List Nat) (hf : t.length + sl_len k ≤ cap) (hc : cap ≤ 4096) : Ct l D [(cI, .int), (cB, .byte), (cL, .byte), (cO, .object RX0)] pf yJ5_putStringAt_47b60 cJ5_putStringAt_47b60 3 (none : Option FieldType) { frames := 2, cells := 0, slots := 0, locals := 83 } [.ref a, .int (nI t.length), .ref (pf k)] [(a, .inr (12, [.ref v, .int 0, .int 0, .int cnt])), (v, .inl (cB, cap, .inl (bN t)))] (is1 none [(a, .inr (12, [.ref v, .int 0, .int 0, .int cnt])), (v, .inl (cB, cap, .inl (bN (t ++ tx k))))]) := by
  refine Ct_of (own := RJ5) (lv0 := [(0, .ref a), (1, .int (nI t.length)), (2, .ref (pf k))]) (by decide) rfl rfl (Nat.le_of_ble_eq_true rfl) ?_
  intro pZ eZ sZ mZ argsZ belowZ methZ cZ C hr hnm
  refine J_aload_n (pc := 0) C dJ5_putStringAt_47b60_0 0 rfl ?_
  refine J_aload_n (pc := 1) C dJ5_putStringAt_47b60_1 2 rfl ?_
  refine J_cuF (C2 := RJ4) (As := [.ref (pf k)]) (st := []) (pc := 2) C dJ5_putStringAt_47b60_2 ml_RJ5_397 se_yJ5_inflateIfNeededFor_a7421 mu_yJ5_inflateIfNeededFor_a7421 (c_inflK l D cI cB cL cO pf a v cnt k hk) [(v, .inl (cB, cap, .inl (bN t)))] (permN [0] [1] 2 rfl rfl rfl (by decide)) (q0 := 0) rfl rfl rfl ⟨(Nat.le_of_ble_eq_true rfl), (Nat.le_of_ble_eq_true rfl)⟩ ⟨(by first | exact Nat.le_of_ble_eq_true rfl | omega | (dsimp only; omega)), (by first | exact Nat.le_of_ble_eq_true rfl | omega | (dsimp only; omega))⟩ (Nat.le_of_ble_eq_true rfl) ?_
  rintro v w1 ⟨rfl, rfl⟩
  refine J_ws (ws2 := [(a, .inr (12, [.ref v, .int 0, .int 0, .int cnt])), (v, .inl (cB, cap, .inl (bN t)))]) rfl ?_
  refine J_drop (ws2 := [(a, .inr (12, [.ref v, .int 0, .int 0, .int cnt])), (v, .inl (cB, cap, .inl (bN t)))]) (Wr := []) (permN [0, 1] [] 2 rfl rfl rfl (by decide)) ?_
  refine J_aload_n (pc := 5) C dJ5_putStringAt_47b60_5 2 rfl ?_
  refine J_aload_n (pc := 6) C dJ5_putStringAt_47b60_6 0 rfl ?_
  refine J_getA (pc := 7) C dJ5_putStringAt_47b60_7 jf_J4 0 rfl rfl 0 (by decide) fl_RJ5_15 rfl ?_
  refine J_iload_n (pc := 10) C dJ5_putStringAt_47b60_10 1 rfl ?_
  refine J_aload_n (pc := 11) C dJ5_putStringAt_47b60_11 0 rfl ?_
  refine J_getA (pc := 12) C dJ5_putStringAt_47b60_12 jf_J4 0 rfl rfl 1 (by decide) fl_RJ5_22 rfl ?_
  refine J_cvSF (As := [.ref v, .int (nI t.length), .int 0]) (st := []) (pc := 15) C dJ5_putStringAt_47b60_15 ml_RJ5_399 mi_yJ0_getBytes_840e7 rfl hk (c_getBK l D cI cB cL cO pf k hk v cap t hf hc) [(a, .inr (12, [.ref v, .int 0, .int 0, .int cnt]))] (permN [1] [0] 2 rfl rfl rfl (by decide)) rfl ⟨(Nat.le_of_ble_eq_true rfl), (Nat.le_of_ble_eq_true rfl)⟩ ⟨(by first | exact Nat.le_of_ble_eq_true rfl | omega | (dsimp only; omega)), (by first | exact Nat.le_of_ble_eq_true rfl | omega | (dsimp only; omega))⟩ (Nat.le_of_ble_eq_true rfl) ?_
  rintro v w1 ⟨rfl, rfl⟩
  refine J_ws (ws2 := [(v, .inl (cB, cap, .inl (bN (t ++ tx k)))), (a, .inr (12, [.ref v, .int 0, .int 0, .int cnt]))]) rfl ?_
  refine J_drop (ws2 := [(a, .inr (12, [.ref v, .int 0, .int 0, .int cnt])), (v, .inl (cB, cap, .inl (bN (t ++ tx k))))]) (Wr := []) (permN [1, 0] [] 2 rfl rfl rfl (by decide)) ?_
  refine J_widen (k2 := 0) (n2 := 0) (by first | exact Nat.le_of_ble_eq_true rfl | omega | (dsimp only; omega)) (by first | exact Nat.le_of_ble_eq_true rfl | omega | (dsimp only; omega)) ?_
  exact J_vret (pc := 18) C dJ5_putStringAt_47b60_18 hr ⟨rfl, rfl⟩

set_option maxHeartbeats 4000000 in
set_option maxRecDepth 100000 in
theorem c_appSK (l : Launch) (D : va_G) (cI cB cL cO : ClassId) (pf : Nat → Nat) (a v cap : Nat) (t : List Nat) (k : Nat) (hk : k < 20) (ht : AS t) (hl : t.length ≤ cap) (hc : cap ≤ 4096) (hn : t.length + sl_len k ≤ 1000) : Ct l D [(cI, .int), (cB, .byte), (cL, .byte), (cO, .object RX0)] pf yJ5_append_cf1ce cJ5_append_cf1ce 3 (some (FieldType.object "java/lang/AbstractStringBuilder")) { frames := 4, cells := 1, slots := 4096, locals := 105 } [.ref a, .ref (pf k)] [(a, .inr (12, [.ref v, .int 0, .int 0, .int (nI t.length)])), (v, .inl (cB, cap, .inl (bN t)))] (fun V w => V = some (.ref a) ∧ ∃ v1 cap1, w = [(a, .inr (12, [.ref v1, .int 0, .int 0, .int (nI (t ++ tx k).length)])), (v1, .inl (cB, cap1, .inl (bN (t ++ tx k))))] ∧ (t ++ tx k).length ≤ cap1 ∧ cap1 ≤ 4096) := by
  refine Ct_of (own := RJ5) (lv0 := [(0, .ref a), (1, .ref (pf k))]) (by decide) rfl rfl (Nat.le_of_ble_eq_true rfl) ?_
  intro pZ eZ sZ mZ argsZ belowZ methZ cZ C hr hnm
  refine J_aload_n (pc := 0) C dJ5_append_cf1ce_0 1 rfl ?_
  refine J_ifnonnullR (tgt := 9) (pc := 1) C dJ5_append_cf1ce_1 (by decide) ?_
  refine J_aload_n (pc := 9) C dJ5_append_cf1ce_9 1 rfl ?_
  refine J_cvS (α := Unit) (o := ()) (fx := some ()) (K := fun _ => some ()) (V := fun _ => some (.int (nI (sl_len k)))) (As := []) (st := []) (pc := 10) C dJ5_append_cf1ce_10 ml_RJ5_32 mi_yJ0_length_8abf5 rfl hk (fun _ _ => c_J0_length l D cI cB cL cO pf k hk) rfl rfl ⟨rfl, rfl⟩ ⟨(Nat.le_of_ble_eq_true rfl), (Nat.le_of_ble_eq_true rfl)⟩ ⟨(by first | exact Nat.le_of_ble_eq_true rfl | omega | (dsimp only; omega)), (by first | exact Nat.le_of_ble_eq_true rfl | omega | (dsimp only; omega))⟩ (Nat.le_of_ble_eq_true rfl) (fun _ _ => ?_)
  refine J_istore_n (lv2 := [(2, .int (nI (sl_len k))), (0, .ref a), (1, .ref (pf k))]) (pc := 13) C dJ5_append_cf1ce_13 (by decide) rfl ?_
  refine J_aload_n (pc := 14) C dJ5_append_cf1ce_14 1 rfl ?_
  refine J_aload_n (pc := 15) C dJ5_append_cf1ce_15 1 rfl ?_
  refine J_getA (pc := 16) C dJ5_append_cf1ce_16 jf_J4 0 rfl rfl 3 (by decide) fl_RJ5_79 rfl ?_
  refine J_iload_n (pc := 19) C dJ5_append_cf1ce_19 0 rfl ?_
  refine J_iadd (pc := 20) C dJ5_append_cf1ce_20 ?_
  refine J_top (α := Unit) (X := none) (nI (t.length + sl_len k)) (nI_add _ _) ?_
  refine J_cuF (C2 := RJ4) (As := [.int (nI (t.length + sl_len k))]) (st := []) (pc := 21) C dJ5_append_cf1ce_21 ml_RJ5_100 se_yJ5_ensureCapacityInternal_d00df mu_yJ5_ensureCapacityInternal_d00df (c_ens l D cI cB cL cO pf a v cap (t.length + (sl_len k)) (nI t.length) t ht hl hc (by omega)) [] (permN [0, 1] [] 2 rfl rfl rfl (by decide)) (q0 := 0) rfl rfl rfl ⟨(Nat.le_of_ble_eq_true rfl), (Nat.le_of_ble_eq_true rfl)⟩ ⟨(by first | exact Nat.le_of_ble_eq_true rfl | omega | (dsimp only; omega)), (by first | exact Nat.le_of_ble_eq_true rfl | omega | (dsimp only; omega))⟩ (Nat.le_of_ble_eq_true rfl) ?_
  rintro v w1 ⟨rfl, v1, cap1, rfl, g1, g2, g3⟩
  refine J_ws (ws2 := [(a, .inr (12, [.ref v1, .int 0, .int 0, .int (nI t.length)])), (v1, .inl (cB, cap1, .inl (bN t)))]) rfl ?_
  refine J_aload_n (pc := 24) C dJ5_append_cf1ce_24 1 rfl ?_
  refine J_aload_n (pc := 25) C dJ5_append_cf1ce_25 1 rfl ?_
  refine J_getA (pc := 26) C dJ5_append_cf1ce_26 jf_J4 0 rfl rfl 3 (by decide) fl_RJ5_79 rfl ?_
  refine J_aload_n (pc := 29) C dJ5_append_cf1ce_29 2 rfl ?_
  refine J_cuF (C2 := RJ4) (As := [.int (nI t.length), .ref (pf k)]) (st := []) (pc := 30) C dJ5_append_cf1ce_30 ml_RJ5_208 se_yJ5_putStringAt_47b60 mu_yJ5_putStringAt_47b60 (c_putSK l D cI cB cL cO pf a (nI t.length) k hk v1 cap1 t g1 g3) [] (permN [0, 1] [] 2 rfl rfl rfl (by decide)) (q0 := 0) rfl rfl rfl ⟨(Nat.le_of_ble_eq_true rfl), (Nat.le_of_ble_eq_true rfl)⟩ ⟨(by first | exact Nat.le_of_ble_eq_true rfl | omega | (dsimp only; omega)), (by first | exact Nat.le_of_ble_eq_true rfl | omega | (dsimp only; omega))⟩ (Nat.le_of_ble_eq_true rfl) ?_
  rintro v w1 ⟨rfl, rfl⟩
  refine J_ws (ws2 := [(a, .inr (12, [.ref v1, .int 0, .int 0, .int (nI t.length)])), (v1, .inl (cB, cap1, .inl (bN (t ++ tx k))))]) rfl ?_
  refine J_aload_n (pc := 33) C dJ5_append_cf1ce_33 1 rfl ?_
  refine J_dupr (pc := 34) C dJ5_append_cf1ce_34 ?_
  refine J_getA (pc := 35) C dJ5_append_cf1ce_35 jf_J4 0 rfl rfl 3 (by decide) fl_RJ5_79 rfl ?_
  refine J_iload_n (pc := 38) C dJ5_append_cf1ce_38 0 rfl ?_
  refine J_iadd (pc := 39) C dJ5_append_cf1ce_39 ?_
  refine J_top (α := Unit) (X := none) (nI (t ++ tx k).length) (by rw [nI_add, List.length_append, tx_len k hk]) ?_
  refine J_putA (tt := .int) (pc := 40) C dJ5_append_cf1ce_40 jf_J4 0 rfl rfl 3 (by decide) fl_RJ5_79 rfl (by decide +kernel) rfl rfl (Nat.le_of_ble_eq_true rfl) ?_
  refine J_ws (ws2 := [(a, .inr (12, [.ref v1, .int 0, .int 0, .int (nI (t ++ tx k).length)])), (v1, .inl (cB, cap1, .inl (bN (t ++ tx k))))]) rfl ?_
  refine J_aload_n (pc := 43) C dJ5_append_cf1ce_43 1 rfl ?_
  refine J_widen (k2 := 1) (n2 := 4096) (by first | exact Nat.le_of_ble_eq_true rfl | omega | (dsimp only; omega)) (by first | exact Nat.le_of_ble_eq_true rfl | omega | (dsimp only; omega)) ?_
  exact J_aret (pc := 44) C dJ5_append_cf1ce_44 hr (by first | exact Or.inl ⟨_, rfl⟩ | exact Or.inr ⟨_, rfl⟩) (Or.inr ⟨_, rfl⟩) ⟨rfl, v1, cap1, rfl, by rw [List.length_append, ← tx_len k hk]; exact g1, g3⟩

set_option maxHeartbeats 4000000 in
set_option maxRecDepth 100000 in
theorem c_SBSK (l : Launch) (D : va_G) (cI cB cL cO : ClassId) (pf : Nat → Nat) (a v cap : Nat) (t : List Nat) (k : Nat) (hk : k < 20) (ht : AS t) (hl : t.length ≤ cap) (hc : cap ≤ 4096) (hn : t.length + sl_len k ≤ 1000) : Ct l D [(cI, .int), (cB, .byte), (cL, .byte), (cO, .object RX0)] pf yJ4_append_15ec4 cJ4_append_15ec4 2 (some (FieldType.object "java/lang/StringBuilder")) { frames := 5, cells := 1, slots := 4096, locals := 127 } [.ref a, .ref (pf k)] [(a, .inr (12, [.ref v, .int 0, .int 0, .int (nI t.length)])), (v, .inl (cB, cap, .inl (bN t)))] (fun V w => V = some (.ref a) ∧ ∃ v1 cap1, w = [(a, .inr (12, [.ref v1, .int 0, .int 0, .int (nI (t ++ tx k).length)])), (v1, .inl (cB, cap1, .inl (bN (t ++ tx k))))] ∧ (t ++ tx k).length ≤ cap1 ∧ cap1 ≤ 4096) := by
  refine Ct_of (own := RJ4) (lv0 := [(0, .ref a), (1, .ref (pf k))]) (by decide) rfl rfl (Nat.le_of_ble_eq_true rfl) ?_
  intro pZ eZ sZ mZ argsZ belowZ methZ cZ C hr hnm
  refine J_aload_n (pc := 0) C dJ4_append_15ec4_0 0 rfl ?_
  refine J_aload_n (pc := 1) C dJ4_append_15ec4_1 1 rfl ?_
  refine J_spF (As := [.ref (pf k)]) (st := []) (pc := 2) C dJ4_append_15ec4_2 ml_RJ4_29 w_sup mu_yJ5_append_cf1ce (c_appSK l D cI cB cL cO pf a v cap t k hk ht hl hc hn) [] (permN [0, 1] [] 2 rfl rfl rfl (by decide)) (q0 := 0) rfl rfl rfl ⟨(Nat.le_of_ble_eq_true rfl), (Nat.le_of_ble_eq_true rfl)⟩ ⟨(by first | exact Nat.le_of_ble_eq_true rfl | omega | (dsimp only; omega)), (by first | exact Nat.le_of_ble_eq_true rfl | omega | (dsimp only; omega))⟩ (Nat.le_of_ble_eq_true rfl) ?_
  rintro v w1 ⟨rfl, v1, cap1, rfl, g1, g3⟩
  refine J_ws (ws2 := [(a, .inr (12, [.ref v1, .int 0, .int 0, .int (nI (t ++ tx k).length)])), (v1, .inl (cB, cap1, .inl (bN (t ++ tx k))))]) rfl ?_
  refine J_popr (pc := 5) C dJ4_append_15ec4_5 ?_
  refine J_aload_n (pc := 6) C dJ4_append_15ec4_6 0 rfl ?_
  refine J_widen (k2 := 1) (n2 := 4096) (by first | exact Nat.le_of_ble_eq_true rfl | omega | (dsimp only; omega)) (by first | exact Nat.le_of_ble_eq_true rfl | omega | (dsimp only; omega)) ?_
  exact J_aret (pc := 7) C dJ4_append_15ec4_7 hr (by first | exact Or.inl ⟨_, rfl⟩ | exact Or.inr ⟨_, rfl⟩) (Or.inr ⟨_, rfl⟩) ⟨rfl, v1, cap1, rfl, g1, g3⟩

theorem dJ5_append_3fe6f_0 : decode cJ5_append_3fe6f 0 = .ok (.aload_n 0, 1) := by decide +kernel
theorem dJ5_append_3fe6f_1 : decode cJ5_append_3fe6f 1 = .ok (.aload_n 0, 1) := by decide +kernel
theorem dJ5_append_3fe6f_2 : decode cJ5_append_3fe6f 2 = .ok (.getfield 79, 3) := by decide +kernel
theorem dJ5_append_3fe6f_5 : decode cJ5_append_3fe6f 5 = .ok (.iconst 1, 1) := by decide +kernel
theorem dJ5_append_3fe6f_6 : decode cJ5_append_3fe6f 6 = .ok (.iadd, 1) := by decide +kernel
theorem dJ5_append_3fe6f_7 : decode cJ5_append_3fe6f 7 = .ok (.invokevirtual 100, 3) := by decide +kernel
theorem dJ5_append_3fe6f_10 : decode cJ5_append_3fe6f 10 = .ok (.aload_n 0, 1) := by decide +kernel
theorem dJ5_append_3fe6f_11 : decode cJ5_append_3fe6f 11 = .ok (.invokevirtual 83, 3) := by decide +kernel
theorem dJ5_append_3fe6f_14 : decode cJ5_append_3fe6f 14 = .ok (.ifCond .eq 31, 3) := by decide +kernel
theorem dJ5_append_3fe6f_17 : decode cJ5_append_3fe6f 17 = .ok (.iload_n 1, 1) := by decide +kernel
theorem dJ5_append_3fe6f_18 : decode cJ5_append_3fe6f 18 = .ok (.invokestatic 191, 3) := by decide +kernel
theorem dJ5_append_3fe6f_21 : decode cJ5_append_3fe6f 21 = .ok (.ifCond .eq 24, 3) := by decide +kernel
theorem dJ5_append_3fe6f_24 : decode cJ5_append_3fe6f 24 = .ok (.aload_n 0, 1) := by decide +kernel
theorem dJ5_append_3fe6f_25 : decode cJ5_append_3fe6f 25 = .ok (.getfield 15, 3) := by decide +kernel
theorem dJ5_append_3fe6f_28 : decode cJ5_append_3fe6f 28 = .ok (.aload_n 0, 1) := by decide +kernel
theorem dJ5_append_3fe6f_29 : decode cJ5_append_3fe6f 29 = .ok (.dup, 1) := by decide +kernel
theorem dJ5_append_3fe6f_30 : decode cJ5_append_3fe6f 30 = .ok (.getfield 79, 3) := by decide +kernel
theorem dJ5_append_3fe6f_33 : decode cJ5_append_3fe6f 33 = .ok (.dup_x1, 1) := by decide +kernel
theorem dJ5_append_3fe6f_34 : decode cJ5_append_3fe6f 34 = .ok (.iconst 1, 1) := by decide +kernel
theorem dJ5_append_3fe6f_35 : decode cJ5_append_3fe6f 35 = .ok (.iadd, 1) := by decide +kernel
theorem dJ5_append_3fe6f_36 : decode cJ5_append_3fe6f 36 = .ok (.putfield 79, 3) := by decide +kernel
theorem dJ5_append_3fe6f_39 : decode cJ5_append_3fe6f 39 = .ok (.iload_n 1, 1) := by decide +kernel
theorem dJ5_append_3fe6f_40 : decode cJ5_append_3fe6f 40 = .ok (.i2b, 1) := by decide +kernel
theorem dJ5_append_3fe6f_41 : decode cJ5_append_3fe6f 41 = .ok (.bastore, 1) := by decide +kernel
theorem dJ5_append_3fe6f_42 : decode cJ5_append_3fe6f 42 = .ok (.goto 33, 3) := by decide +kernel
theorem dJ5_append_3fe6f_45 : decode cJ5_append_3fe6f 45 = .ok (.aload_n 0, 1) := by decide +kernel
theorem dJ5_append_3fe6f_46 : decode cJ5_append_3fe6f 46 = .ok (.invokevirtual 83, 3) := by decide +kernel
theorem dJ5_append_3fe6f_49 : decode cJ5_append_3fe6f 49 = .ok (.ifCond .eq 7, 3) := by decide +kernel
theorem dJ5_append_3fe6f_52 : decode cJ5_append_3fe6f 52 = .ok (.aload_n 0, 1) := by decide +kernel
theorem dJ5_append_3fe6f_53 : decode cJ5_append_3fe6f 53 = .ok (.invokevirtual 195, 3) := by decide +kernel
theorem dJ5_append_3fe6f_56 : decode cJ5_append_3fe6f 56 = .ok (.aload_n 0, 1) := by decide +kernel
theorem dJ5_append_3fe6f_57 : decode cJ5_append_3fe6f 57 = .ok (.getfield 15, 3) := by decide +kernel
theorem dJ5_append_3fe6f_60 : decode cJ5_append_3fe6f 60 = .ok (.aload_n 0, 1) := by decide +kernel
theorem dJ5_append_3fe6f_61 : decode cJ5_append_3fe6f 61 = .ok (.dup, 1) := by decide +kernel
theorem dJ5_append_3fe6f_62 : decode cJ5_append_3fe6f 62 = .ok (.getfield 79, 3) := by decide +kernel
theorem dJ5_append_3fe6f_65 : decode cJ5_append_3fe6f 65 = .ok (.dup_x1, 1) := by decide +kernel
theorem dJ5_append_3fe6f_66 : decode cJ5_append_3fe6f 66 = .ok (.iconst 1, 1) := by decide +kernel
theorem dJ5_append_3fe6f_67 : decode cJ5_append_3fe6f 67 = .ok (.iadd, 1) := by decide +kernel
theorem dJ5_append_3fe6f_68 : decode cJ5_append_3fe6f 68 = .ok (.putfield 79, 3) := by decide +kernel
theorem dJ5_append_3fe6f_71 : decode cJ5_append_3fe6f 71 = .ok (.iload_n 1, 1) := by decide +kernel
theorem dJ5_append_3fe6f_72 : decode cJ5_append_3fe6f 72 = .ok (.invokestatic 197, 3) := by decide +kernel
theorem dJ5_append_3fe6f_75 : decode cJ5_append_3fe6f 75 = .ok (.aload_n 0, 1) := by decide +kernel
theorem dJ5_append_3fe6f_76 : decode cJ5_append_3fe6f 76 = .ok (.areturn, 1) := by decide +kernel

set_option maxHeartbeats 4000000 in
set_option maxRecDepth 100000 in
theorem c_appC (l : Launch) (D : va_G) (cI cB cL cO : ClassId) (pf : Nat → Nat) (a v cap : Nat) (t : List Nat) (c : Nat) (hcc : c < 128) (ht : AS t) (hl : t.length ≤ cap) (hc : cap ≤ 4096) (hn : t.length + 1 ≤ 1000) : Ct l D [(cI, .int), (cB, .byte), (cL, .byte), (cO, .object RX0)] pf yJ5_append_3fe6f cJ5_append_3fe6f 2 (some (FieldType.object "java/lang/AbstractStringBuilder")) { frames := 4, cells := 1, slots := 4096, locals := 104 } [.ref a, .int (nI c)] [(a, .inr (12, [.ref v, .int 0, .int 0, .int (nI t.length)])), (v, .inl (cB, cap, .inl (bN t)))] (fun V w => V = some (.ref a) ∧ ∃ v1 cap1, w = [(a, .inr (12, [.ref v1, .int 0, .int 0, .int (nI (t ++ [c]).length)])), (v1, .inl (cB, cap1, .inl (bN (t ++ [c]))))] ∧ (t ++ [c]).length ≤ cap1 ∧ cap1 ≤ 4096) := by
  refine Ct_of (own := RJ5) (lv0 := [(0, .ref a), (1, .int (nI c))]) (by decide) rfl rfl (Nat.le_of_ble_eq_true rfl) ?_
  intro pZ eZ sZ mZ argsZ belowZ methZ cZ C hr hnm
  refine J_aload_n (pc := 0) C dJ5_append_3fe6f_0 0 rfl ?_
  refine J_aload_n (pc := 1) C dJ5_append_3fe6f_1 0 rfl ?_
  refine J_getA (pc := 2) C dJ5_append_3fe6f_2 jf_J4 0 rfl rfl 3 (by decide) fl_RJ5_79 rfl ?_
  refine J_iconst (v := (1 : Int32)) (pc := 5) C dJ5_append_3fe6f_5 (by decide) ?_
  refine J_iadd (pc := 6) C dJ5_append_3fe6f_6 ?_
  refine J_top (α := Unit) (X := none) (nI (t.length + 1)) (nI_add _ 1) ?_
  refine J_cuF (C2 := RJ4) (As := [.int (nI (t.length + 1))]) (st := []) (pc := 7) C dJ5_append_3fe6f_7 ml_RJ5_100 se_yJ5_ensureCapacityInternal_d00df mu_yJ5_ensureCapacityInternal_d00df (c_ens l D cI cB cL cO pf a v cap (t.length + 1) (nI t.length) t ht hl hc (by omega)) [] (permN [0, 1] [] 2 rfl rfl rfl (by decide)) (q0 := 0) rfl rfl rfl ⟨(Nat.le_of_ble_eq_true rfl), (Nat.le_of_ble_eq_true rfl)⟩ ⟨(by first | exact Nat.le_of_ble_eq_true rfl | omega | (dsimp only; omega)), (by first | exact Nat.le_of_ble_eq_true rfl | omega | (dsimp only; omega))⟩ (Nat.le_of_ble_eq_true rfl) ?_
  rintro v w1 ⟨rfl, v1, cap1, rfl, g1, g2, g3⟩
  refine J_ws (ws2 := [(a, .inr (12, [.ref v1, .int 0, .int 0, .int (nI t.length)])), (v1, .inl (cB, cap1, .inl (bN t)))]) rfl ?_
  refine J_aload_n (pc := 10) C dJ5_append_3fe6f_10 0 rfl ?_
  refine J_cuF (C2 := RJ4) (As := []) (st := []) (pc := 11) C dJ5_append_3fe6f_11 ml_RJ5_83 se_yJ5_isLatin1_aae02 mu_yJ5_isLatin1_aae02 (c_isL l D cI cB cL cO pf a v1 (nI t.length)) [(v1, .inl (cB, cap1, .inl (bN t)))] (permN [0] [1] 2 rfl rfl rfl (by decide)) (q0 := 0) rfl rfl rfl ⟨(Nat.le_of_ble_eq_true rfl), (Nat.le_of_ble_eq_true rfl)⟩ ⟨(by first | exact Nat.le_of_ble_eq_true rfl | omega | (dsimp only; omega)), (by first | exact Nat.le_of_ble_eq_true rfl | omega | (dsimp only; omega))⟩ (Nat.le_of_ble_eq_true rfl) ?_
  rintro v w1 ⟨rfl, rfl⟩
  refine J_ws (ws2 := [(a, .inr (12, [.ref v1, .int 0, .int 0, .int (nI t.length)])), (v1, .inl (cB, cap1, .inl (bN t)))]) rfl ?_
  refine J_if_eq (α := Unit) (o := ()) (X := none) (Y := some ()) (pc := 14) (tgt := 45) C dJ5_append_3fe6f_14 (by decide) (if_neg (by decide)) (fun h => by cases h) (fun _ => ?_)
  refine J_iload_n (pc := 17) C dJ5_append_3fe6f_17 1 rfl ?_
  refine J_csF (b := 0) (As := [.int (nI c)]) (st := []) (pc := 18) C dJ5_append_3fe6f_18 ml_RJ5_191 mi_yJ1_canEncode_fc78d (c_canE l D cI cB cL cO pf c hcc) [(a, .inr (12, [.ref v1, .int 0, .int 0, .int (nI t.length)])), (v1, .inl (cB, cap1, .inl (bN t)))] (permN [] [0, 1] 2 rfl rfl rfl (by decide)) rfl ⟨(Nat.le_of_ble_eq_true rfl), (Nat.le_of_ble_eq_true rfl)⟩ ⟨(by first | exact Nat.le_of_ble_eq_true rfl | omega | (dsimp only; omega)), (by first | exact Nat.le_of_ble_eq_true rfl | omega | (dsimp only; omega))⟩ (Nat.le_of_ble_eq_true rfl) ?_
  rintro v w1 ⟨rfl, rfl⟩
  refine J_ws (ws2 := [(a, .inr (12, [.ref v1, .int 0, .int 0, .int (nI t.length)])), (v1, .inl (cB, cap1, .inl (bN t)))]) rfl ?_
  refine J_if_eq (α := Unit) (o := ()) (X := none) (Y := some ()) (pc := 21) (tgt := 45) C dJ5_append_3fe6f_21 (by decide) (if_neg (by decide)) (fun h => by cases h) (fun _ => ?_)
  refine J_aload_n (pc := 24) C dJ5_append_3fe6f_24 0 rfl ?_
  refine J_getA (pc := 25) C dJ5_append_3fe6f_25 jf_J4 0 rfl rfl 0 (by decide) fl_RJ5_15 rfl ?_
  refine J_aload_n (pc := 28) C dJ5_append_3fe6f_28 0 rfl ?_
  refine J_dupr (pc := 29) C dJ5_append_3fe6f_29 ?_
  refine J_getA (pc := 30) C dJ5_append_3fe6f_30 jf_J4 0 rfl rfl 3 (by decide) fl_RJ5_79 rfl ?_
  refine J_dupx1 (pc := 33) C dJ5_append_3fe6f_33 rfl rfl ?_
  refine J_iconst (v := (1 : Int32)) (pc := 34) C dJ5_append_3fe6f_34 (by decide) ?_
  refine J_iadd (pc := 35) C dJ5_append_3fe6f_35 ?_
  refine J_top (α := Unit) (X := none) (nI (t ++ [c]).length) (by rw [List.length_append]; exact nI_add t.length 1) ?_
  refine J_putA (tt := .int) (pc := 36) C dJ5_append_3fe6f_36 jf_J4 0 rfl rfl 3 (by decide) fl_RJ5_79 rfl (by decide +kernel) rfl rfl (Nat.le_of_ble_eq_true rfl) ?_
  refine J_ws (ws2 := [(a, .inr (12, [.ref v1, .int 0, .int 0, .int (nI (t ++ [c]).length)])), (v1, .inl (cB, cap1, .inl (bN t)))]) rfl ?_
  refine J_iload_n (pc := 39) C dJ5_append_3fe6f_39 1 rfl ?_
  refine J_i2b (pc := 40) C dJ5_append_3fe6f_40 ?_
  refine J_top (α := Unit) (X := none) (nI c) (i2b_0 c hcc) ?_
  refine J_bast (α := Unit) (o := ()) (X := some ()) (pc := 41) C dJ5_append_3fe6f_41 1 1 rfl rfl (if_neg (in_row (by omega) g3)) (fun _ => ?_)
  refine J_ws (ws2 := [(a, .inr (12, [.ref v1, .int 0, .int 0, .int (nI (t ++ [c]).length)])), (v1, .inl (cB, cap1, .inl (bN (t ++ [c]))))]) (by rw [st_dig (by omega) hcc, bN_push]; rfl) ?_
  refine J_goto (tgt := 75) (pc := 42) C dJ5_append_3fe6f_42 (by decide) ?_
  refine J_aload_n (pc := 75) C dJ5_append_3fe6f_75 0 rfl ?_
  refine J_widen (k2 := 1) (n2 := 4096) (by first | exact Nat.le_of_ble_eq_true rfl | omega | (dsimp only; omega)) (by first | exact Nat.le_of_ble_eq_true rfl | omega | (dsimp only; omega)) ?_
  exact J_aret (pc := 76) C dJ5_append_3fe6f_76 hr (by first | exact Or.inl ⟨_, rfl⟩ | exact Or.inr ⟨_, rfl⟩) (Or.inr ⟨_, rfl⟩) ⟨rfl, v1, cap1, rfl, by rw [List.length_append]; exact g1, g3⟩

theorem dJ4_append_cf468_0 : decode cJ4_append_cf468 0 = .ok (.aload_n 0, 1) := by decide +kernel
theorem dJ4_append_cf468_1 : decode cJ4_append_cf468 1 = .ok (.iload_n 1, 1) := by decide +kernel
theorem dJ4_append_cf468_2 : decode cJ4_append_cf468 2 = .ok (.invokespecial 50, 3) := by decide +kernel
theorem dJ4_append_cf468_5 : decode cJ4_append_cf468 5 = .ok (.pop, 1) := by decide +kernel
theorem dJ4_append_cf468_6 : decode cJ4_append_cf468 6 = .ok (.aload_n 0, 1) := by decide +kernel
theorem dJ4_append_cf468_7 : decode cJ4_append_cf468 7 = .ok (.areturn, 1) := by decide +kernel

set_option maxHeartbeats 4000000 in
set_option maxRecDepth 100000 in
theorem c_SBC (l : Launch) (D : va_G) (cI cB cL cO : ClassId) (pf : Nat → Nat) (a v cap : Nat) (t : List Nat) (c : Nat) (hcc : c < 128) (ht : AS t) (hl : t.length ≤ cap) (hc : cap ≤ 4096) (hn : t.length + 1 ≤ 1000) : Ct l D [(cI, .int), (cB, .byte), (cL, .byte), (cO, .object RX0)] pf yJ4_append_cf468 cJ4_append_cf468 2 (some (FieldType.object "java/lang/StringBuilder")) { frames := 5, cells := 1, slots := 4096, locals := 125 } [.ref a, .int (nI c)] [(a, .inr (12, [.ref v, .int 0, .int 0, .int (nI t.length)])), (v, .inl (cB, cap, .inl (bN t)))] (fun V w => V = some (.ref a) ∧ ∃ v1 cap1, w = [(a, .inr (12, [.ref v1, .int 0, .int 0, .int (nI (t ++ [c]).length)])), (v1, .inl (cB, cap1, .inl (bN (t ++ [c]))))] ∧ (t ++ [c]).length ≤ cap1 ∧ cap1 ≤ 4096) := by
  refine Ct_of (own := RJ4) (lv0 := [(0, .ref a), (1, .int (nI c))]) (by decide) rfl rfl (Nat.le_of_ble_eq_true rfl) ?_
  intro pZ eZ sZ mZ argsZ belowZ methZ cZ C hr hnm
  refine J_aload_n (pc := 0) C dJ4_append_cf468_0 0 rfl ?_
  refine J_iload_n (pc := 1) C dJ4_append_cf468_1 1 rfl ?_
  refine J_spF (As := [.int (nI c)]) (st := []) (pc := 2) C dJ4_append_cf468_2 ml_RJ4_50 w_sup mu_yJ5_append_3fe6f (c_appC l D cI cB cL cO pf a v cap t c hcc ht hl hc hn) [] (permN [0, 1] [] 2 rfl rfl rfl (by decide)) (q0 := 0) rfl rfl rfl ⟨(Nat.le_of_ble_eq_true rfl), (Nat.le_of_ble_eq_true rfl)⟩ ⟨(by first | exact Nat.le_of_ble_eq_true rfl | omega | (dsimp only; omega)), (by first | exact Nat.le_of_ble_eq_true rfl | omega | (dsimp only; omega))⟩ (Nat.le_of_ble_eq_true rfl) ?_
  rintro v w1 ⟨rfl, v1, cap1, rfl, g1, g3⟩
  refine J_ws (ws2 := [(a, .inr (12, [.ref v1, .int 0, .int 0, .int (nI (t ++ [c]).length)])), (v1, .inl (cB, cap1, .inl (bN (t ++ [c]))))]) rfl ?_
  refine J_popr (pc := 5) C dJ4_append_cf468_5 ?_
  refine J_aload_n (pc := 6) C dJ4_append_cf468_6 0 rfl ?_
  refine J_widen (k2 := 1) (n2 := 4096) (by first | exact Nat.le_of_ble_eq_true rfl | omega | (dsimp only; omega)) (by first | exact Nat.le_of_ble_eq_true rfl | omega | (dsimp only; omega)) ?_
  exact J_aret (pc := 7) C dJ4_append_cf468_7 hr (by first | exact Or.inl ⟨_, rfl⟩ | exact Or.inr ⟨_, rfl⟩) (Or.inr ⟨_, rfl⟩) ⟨rfl, v1, cap1, rfl, g1, g3⟩

theorem dJ6_stringSize_0f7a4_0 : decode cJ6_stringSize_0f7a4 0 = .ok (.iconst 1, 1) := by decide +kernel
theorem dJ6_stringSize_0f7a4_1 : decode cJ6_stringSize_0f7a4 1 = .ok (.istore_n 1, 1) := by decide +kernel
theorem dJ6_stringSize_0f7a4_2 : decode cJ6_stringSize_0f7a4 2 = .ok (.iload_n 0, 1) := by decide +kernel
theorem dJ6_stringSize_0f7a4_3 : decode cJ6_stringSize_0f7a4 3 = .ok (.ifCond .lt 8, 3) := by decide +kernel
theorem dJ6_stringSize_0f7a4_6 : decode cJ6_stringSize_0f7a4 6 = .ok (.iconst 0, 1) := by decide +kernel
theorem dJ6_stringSize_0f7a4_7 : decode cJ6_stringSize_0f7a4 7 = .ok (.istore_n 1, 1) := by decide +kernel
theorem dJ6_stringSize_0f7a4_8 : decode cJ6_stringSize_0f7a4 8 = .ok (.iload_n 0, 1) := by decide +kernel
theorem dJ6_stringSize_0f7a4_9 : decode cJ6_stringSize_0f7a4 9 = .ok (.ineg, 1) := by decide +kernel
theorem dJ6_stringSize_0f7a4_10 : decode cJ6_stringSize_0f7a4 10 = .ok (.istore_n 0, 1) := by decide +kernel
theorem dJ6_stringSize_0f7a4_11 : decode cJ6_stringSize_0f7a4 11 = .ok (.bipush (-10), 2) := by decide +kernel
theorem dJ6_stringSize_0f7a4_13 : decode cJ6_stringSize_0f7a4 13 = .ok (.istore_n 2, 1) := by decide +kernel
theorem dJ6_stringSize_0f7a4_14 : decode cJ6_stringSize_0f7a4 14 = .ok (.iconst 1, 1) := by decide +kernel
theorem dJ6_stringSize_0f7a4_15 : decode cJ6_stringSize_0f7a4 15 = .ok (.istore_n 3, 1) := by decide +kernel
theorem dJ6_stringSize_0f7a4_16 : decode cJ6_stringSize_0f7a4 16 = .ok (.iload_n 3, 1) := by decide +kernel
theorem dJ6_stringSize_0f7a4_17 : decode cJ6_stringSize_0f7a4 17 = .ok (.bipush 10, 2) := by decide +kernel
theorem dJ6_stringSize_0f7a4_19 : decode cJ6_stringSize_0f7a4 19 = .ok (.if_icmp .ge 23, 3) := by decide +kernel
theorem dJ6_stringSize_0f7a4_22 : decode cJ6_stringSize_0f7a4 22 = .ok (.iload_n 0, 1) := by decide +kernel
theorem dJ6_stringSize_0f7a4_23 : decode cJ6_stringSize_0f7a4 23 = .ok (.iload_n 2, 1) := by decide +kernel
theorem dJ6_stringSize_0f7a4_24 : decode cJ6_stringSize_0f7a4 24 = .ok (.if_icmp .le 7, 3) := by decide +kernel
theorem dJ6_stringSize_0f7a4_27 : decode cJ6_stringSize_0f7a4 27 = .ok (.iload_n 3, 1) := by decide +kernel
theorem dJ6_stringSize_0f7a4_28 : decode cJ6_stringSize_0f7a4 28 = .ok (.iload_n 1, 1) := by decide +kernel
theorem dJ6_stringSize_0f7a4_29 : decode cJ6_stringSize_0f7a4 29 = .ok (.iadd, 1) := by decide +kernel
theorem dJ6_stringSize_0f7a4_30 : decode cJ6_stringSize_0f7a4 30 = .ok (.ireturn, 1) := by decide +kernel
theorem dJ6_stringSize_0f7a4_31 : decode cJ6_stringSize_0f7a4 31 = .ok (.bipush 10, 2) := by decide +kernel
theorem dJ6_stringSize_0f7a4_33 : decode cJ6_stringSize_0f7a4 33 = .ok (.iload_n 2, 1) := by decide +kernel
theorem dJ6_stringSize_0f7a4_34 : decode cJ6_stringSize_0f7a4 34 = .ok (.imul, 1) := by decide +kernel
theorem dJ6_stringSize_0f7a4_35 : decode cJ6_stringSize_0f7a4 35 = .ok (.istore_n 2, 1) := by decide +kernel
theorem dJ6_stringSize_0f7a4_36 : decode cJ6_stringSize_0f7a4 36 = .ok (.iinc 3 1, 3) := by decide +kernel
theorem dJ6_stringSize_0f7a4_39 : decode cJ6_stringSize_0f7a4 39 = .ok (.goto (-23), 3) := by decide +kernel
theorem dJ6_stringSize_0f7a4_42 : decode cJ6_stringSize_0f7a4 42 = .ok (.bipush 10, 2) := by decide +kernel
theorem dJ6_stringSize_0f7a4_44 : decode cJ6_stringSize_0f7a4 44 = .ok (.iload_n 1, 1) := by decide +kernel
theorem dJ6_stringSize_0f7a4_45 : decode cJ6_stringSize_0f7a4 45 = .ok (.iadd, 1) := by decide +kernel
theorem dJ6_stringSize_0f7a4_46 : decode cJ6_stringSize_0f7a4 46 = .ok (.ireturn, 1) := by decide +kernel

set_option maxHeartbeats 4000000 in
set_option maxRecDepth 100000 in
theorem c_ssz (l : Launch) (D : va_G) (cI cB cL cO : ClassId) (pf : Nat → Nat) (x : Nat) (hx : x < 10000) : Ct l D [(cI, .int), (cB, .byte), (cL, .byte), (cO, .object RX0)] pf yJ6_stringSize_0f7a4 cJ6_stringSize_0f7a4 4 (some FieldType.int) { frames := 0, cells := 0, slots := 0, locals := 0 } [.int (nI x)] [] (is1 (some (.int (nI (dg x).length))) []) := by
  refine Ct_of (own := RJ6) (lv0 := [(0, .int (nI x))]) (by decide) rfl rfl (Nat.le_of_ble_eq_true rfl) ?_
  intro pZ eZ sZ mZ argsZ belowZ methZ cZ C hr hnm
  have hd : x < 10 ∨ (¬ x < 10 ∧ x < 100) ∨ (¬ x < 100 ∧ x < 1000) ∨ ¬ x < 1000 := by omega
  rcases hd with h1 | ⟨h1, h2⟩ | ⟨h1, h2⟩ | h1
  · refine J_iconst (v := (1 : Int32)) (pc := 0) C dJ6_stringSize_0f7a4_0 (by decide) ?_
    refine J_istore_n (lv2 := [(1, .int (1 : Int32)), (0, .int (nI x))]) (pc := 1) C dJ6_stringSize_0f7a4_1 (by decide) rfl ?_
    refine J_iload_n (pc := 2) C dJ6_stringSize_0f7a4_2 1 rfl ?_
    refine J_if_lt (α := Unit) (o := ()) (X := none) (Y := some ()) (pc := 3) (tgt := 11) C dJ6_stringSize_0f7a4_3 (by decide) (if_neg (nI_pos (by omega))) (fun h => by cases h) (fun _ => ?_)
    refine J_iconst (v := (0 : Int32)) (pc := 6) C dJ6_stringSize_0f7a4_6 (by decide) ?_
    refine J_istore_n (lv2 := [(1, .int (0 : Int32)), (0, .int (nI x))]) (pc := 7) C dJ6_stringSize_0f7a4_7 (by decide) rfl ?_
    refine J_iload_n (pc := 8) C dJ6_stringSize_0f7a4_8 1 rfl ?_
    refine J_ineg (pc := 9) C dJ6_stringSize_0f7a4_9 ?_
    refine J_istore_n (lv2 := [(0, .int (-(nI x))), (1, .int (0 : Int32))]) (pc := 10) C dJ6_stringSize_0f7a4_10 (by decide) rfl ?_
    refine J_bipush (v := (-10 : Int32)) (pc := 11) C dJ6_stringSize_0f7a4_11 (by decide) ?_
    refine J_istore_n (lv2 := [(2, .int (-10 : Int32)), (0, .int (-(nI x))), (1, .int (0 : Int32))]) (pc := 13) C dJ6_stringSize_0f7a4_13 (by decide) rfl ?_
    refine J_iconst (v := (1 : Int32)) (pc := 14) C dJ6_stringSize_0f7a4_14 (by decide) ?_
    refine J_istore_n (lv2 := [(3, .int (1 : Int32)), (2, .int (-10 : Int32)), (0, .int (-(nI x))), (1, .int (0 : Int32))]) (pc := 15) C dJ6_stringSize_0f7a4_15 (by decide) rfl ?_
    refine J_iload_n (pc := 16) C dJ6_stringSize_0f7a4_16 0 rfl ?_
    refine J_bipush (v := (10 : Int32)) (pc := 17) C dJ6_stringSize_0f7a4_17 (by decide) ?_
    refine J_ic_ge (α := Unit) (o := ()) (X := none) (Y := some ()) (pc := 19) (tgt := 42) C dJ6_stringSize_0f7a4_19 (by decide) (if_neg (by decide)) (fun h => by cases h) (fun _ => ?_)
    refine J_iload_n (pc := 22) C dJ6_stringSize_0f7a4_22 2 rfl ?_
    refine J_iload_n (pc := 23) C dJ6_stringSize_0f7a4_23 1 rfl ?_
    refine J_ic_le (α := Unit) (o := ()) (X := none) (Y := some ()) (pc := 24) (tgt := 31) C dJ6_stringSize_0f7a4_24 (by decide) (if_neg (fun z => by have := (neg_le (n := 10) (by omega) (by decide)).mp z; omega)) (fun h => by cases h) (fun _ => ?_)
    refine J_iload_n (pc := 27) C dJ6_stringSize_0f7a4_27 0 rfl ?_
    refine J_iload_n (pc := 28) C dJ6_stringSize_0f7a4_28 3 rfl ?_
    refine J_iadd (pc := 29) C dJ6_stringSize_0f7a4_29 ?_
    refine J_top (α := Unit) (X := none) (nI (dg x).length) (by rw [dg_1 h1]; rfl) ?_
    refine J_widen (k2 := 0) (n2 := 0) (by first | exact Nat.le_of_ble_eq_true rfl | omega | (dsimp only; omega)) (by first | exact Nat.le_of_ble_eq_true rfl | omega | (dsimp only; omega)) ?_
    exact J_iret (pc := 30) C dJ6_stringSize_0f7a4_30 hr ⟨rfl, rfl⟩
  · refine J_iconst (v := (1 : Int32)) (pc := 0) C dJ6_stringSize_0f7a4_0 (by decide) ?_
    refine J_istore_n (lv2 := [(1, .int (1 : Int32)), (0, .int (nI x))]) (pc := 1) C dJ6_stringSize_0f7a4_1 (by decide) rfl ?_
    refine J_iload_n (pc := 2) C dJ6_stringSize_0f7a4_2 1 rfl ?_
    refine J_if_lt (α := Unit) (o := ()) (X := none) (Y := some ()) (pc := 3) (tgt := 11) C dJ6_stringSize_0f7a4_3 (by decide) (if_neg (nI_pos (by omega))) (fun h => by cases h) (fun _ => ?_)
    refine J_iconst (v := (0 : Int32)) (pc := 6) C dJ6_stringSize_0f7a4_6 (by decide) ?_
    refine J_istore_n (lv2 := [(1, .int (0 : Int32)), (0, .int (nI x))]) (pc := 7) C dJ6_stringSize_0f7a4_7 (by decide) rfl ?_
    refine J_iload_n (pc := 8) C dJ6_stringSize_0f7a4_8 1 rfl ?_
    refine J_ineg (pc := 9) C dJ6_stringSize_0f7a4_9 ?_
    refine J_istore_n (lv2 := [(0, .int (-(nI x))), (1, .int (0 : Int32))]) (pc := 10) C dJ6_stringSize_0f7a4_10 (by decide) rfl ?_
    refine J_bipush (v := (-10 : Int32)) (pc := 11) C dJ6_stringSize_0f7a4_11 (by decide) ?_
    refine J_istore_n (lv2 := [(2, .int (-10 : Int32)), (0, .int (-(nI x))), (1, .int (0 : Int32))]) (pc := 13) C dJ6_stringSize_0f7a4_13 (by decide) rfl ?_
    refine J_iconst (v := (1 : Int32)) (pc := 14) C dJ6_stringSize_0f7a4_14 (by decide) ?_
    refine J_istore_n (lv2 := [(3, .int (1 : Int32)), (2, .int (-10 : Int32)), (0, .int (-(nI x))), (1, .int (0 : Int32))]) (pc := 15) C dJ6_stringSize_0f7a4_15 (by decide) rfl ?_
    refine J_iload_n (pc := 16) C dJ6_stringSize_0f7a4_16 0 rfl ?_
    refine J_bipush (v := (10 : Int32)) (pc := 17) C dJ6_stringSize_0f7a4_17 (by decide) ?_
    refine J_ic_ge (α := Unit) (o := ()) (X := none) (Y := some ()) (pc := 19) (tgt := 42) C dJ6_stringSize_0f7a4_19 (by decide) (if_neg (by decide)) (fun h => by cases h) (fun _ => ?_)
    refine J_iload_n (pc := 22) C dJ6_stringSize_0f7a4_22 2 rfl ?_
    refine J_iload_n (pc := 23) C dJ6_stringSize_0f7a4_23 1 rfl ?_
    refine J_ic_le (α := Unit) (o := ()) (X := some ()) (Y := none) (pc := 24) (tgt := 31) C dJ6_stringSize_0f7a4_24 (by decide) (if_pos ((neg_le (n := 10) (by omega) (by decide)).mpr (by omega))) (fun _ => ?_) (fun h => by cases h)
    refine J_bipush (v := (10 : Int32)) (pc := 31) C dJ6_stringSize_0f7a4_31 (by decide) ?_
    refine J_iload_n (pc := 33) C dJ6_stringSize_0f7a4_33 1 rfl ?_
    refine J_imul (pc := 34) C dJ6_stringSize_0f7a4_34 ?_
    refine J_top (α := Unit) (X := none) ((-100 : Int32)) (by decide) ?_
    refine J_istore_n (lv2 := [(2, .int (-100 : Int32)), (3, .int (1 : Int32)), (0, .int (-(nI x))), (1, .int (0 : Int32))]) (pc := 35) C dJ6_stringSize_0f7a4_35 (by decide) rfl ?_
    refine J_iincK (v := (1 : Int32)) (x2 := (2 : Int32)) (lv2 := [(3, .int (2 : Int32)), (2, .int (-100 : Int32)), (0, .int (-(nI x))), (1, .int (0 : Int32))]) (pc := 36) C dJ6_stringSize_0f7a4_36 1 rfl (by decide) (by decide) (by decide) rfl ?_
    refine J_goto (tgt := 16) (pc := 39) C dJ6_stringSize_0f7a4_39 (by decide) ?_
    refine J_iload_n (pc := 16) C dJ6_stringSize_0f7a4_16 0 rfl ?_
    refine J_bipush (v := (10 : Int32)) (pc := 17) C dJ6_stringSize_0f7a4_17 (by decide) ?_
    refine J_ic_ge (α := Unit) (o := ()) (X := none) (Y := some ()) (pc := 19) (tgt := 42) C dJ6_stringSize_0f7a4_19 (by decide) (if_neg (by decide)) (fun h => by cases h) (fun _ => ?_)
    refine J_iload_n (pc := 22) C dJ6_stringSize_0f7a4_22 2 rfl ?_
    refine J_iload_n (pc := 23) C dJ6_stringSize_0f7a4_23 1 rfl ?_
    refine J_ic_le (α := Unit) (o := ()) (X := none) (Y := some ()) (pc := 24) (tgt := 31) C dJ6_stringSize_0f7a4_24 (by decide) (if_neg (fun z => by have := (neg_le (n := 100) (by omega) (by decide)).mp z; omega)) (fun h => by cases h) (fun _ => ?_)
    refine J_iload_n (pc := 27) C dJ6_stringSize_0f7a4_27 0 rfl ?_
    refine J_iload_n (pc := 28) C dJ6_stringSize_0f7a4_28 3 rfl ?_
    refine J_iadd (pc := 29) C dJ6_stringSize_0f7a4_29 ?_
    refine J_top (α := Unit) (X := none) (nI (dg x).length) (by rw [dg_2 h1 h2]; rfl) ?_
    refine J_widen (k2 := 0) (n2 := 0) (by first | exact Nat.le_of_ble_eq_true rfl | omega | (dsimp only; omega)) (by first | exact Nat.le_of_ble_eq_true rfl | omega | (dsimp only; omega)) ?_
    exact J_iret (pc := 30) C dJ6_stringSize_0f7a4_30 hr ⟨rfl, rfl⟩
  · refine J_iconst (v := (1 : Int32)) (pc := 0) C dJ6_stringSize_0f7a4_0 (by decide) ?_
    refine J_istore_n (lv2 := [(1, .int (1 : Int32)), (0, .int (nI x))]) (pc := 1) C dJ6_stringSize_0f7a4_1 (by decide) rfl ?_
    refine J_iload_n (pc := 2) C dJ6_stringSize_0f7a4_2 1 rfl ?_
    refine J_if_lt (α := Unit) (o := ()) (X := none) (Y := some ()) (pc := 3) (tgt := 11) C dJ6_stringSize_0f7a4_3 (by decide) (if_neg (nI_pos (by omega))) (fun h => by cases h) (fun _ => ?_)
    refine J_iconst (v := (0 : Int32)) (pc := 6) C dJ6_stringSize_0f7a4_6 (by decide) ?_
    refine J_istore_n (lv2 := [(1, .int (0 : Int32)), (0, .int (nI x))]) (pc := 7) C dJ6_stringSize_0f7a4_7 (by decide) rfl ?_
    refine J_iload_n (pc := 8) C dJ6_stringSize_0f7a4_8 1 rfl ?_
    refine J_ineg (pc := 9) C dJ6_stringSize_0f7a4_9 ?_
    refine J_istore_n (lv2 := [(0, .int (-(nI x))), (1, .int (0 : Int32))]) (pc := 10) C dJ6_stringSize_0f7a4_10 (by decide) rfl ?_
    refine J_bipush (v := (-10 : Int32)) (pc := 11) C dJ6_stringSize_0f7a4_11 (by decide) ?_
    refine J_istore_n (lv2 := [(2, .int (-10 : Int32)), (0, .int (-(nI x))), (1, .int (0 : Int32))]) (pc := 13) C dJ6_stringSize_0f7a4_13 (by decide) rfl ?_
    refine J_iconst (v := (1 : Int32)) (pc := 14) C dJ6_stringSize_0f7a4_14 (by decide) ?_
    refine J_istore_n (lv2 := [(3, .int (1 : Int32)), (2, .int (-10 : Int32)), (0, .int (-(nI x))), (1, .int (0 : Int32))]) (pc := 15) C dJ6_stringSize_0f7a4_15 (by decide) rfl ?_
    refine J_iload_n (pc := 16) C dJ6_stringSize_0f7a4_16 0 rfl ?_
    refine J_bipush (v := (10 : Int32)) (pc := 17) C dJ6_stringSize_0f7a4_17 (by decide) ?_
    refine J_ic_ge (α := Unit) (o := ()) (X := none) (Y := some ()) (pc := 19) (tgt := 42) C dJ6_stringSize_0f7a4_19 (by decide) (if_neg (by decide)) (fun h => by cases h) (fun _ => ?_)
    refine J_iload_n (pc := 22) C dJ6_stringSize_0f7a4_22 2 rfl ?_
    refine J_iload_n (pc := 23) C dJ6_stringSize_0f7a4_23 1 rfl ?_
    refine J_ic_le (α := Unit) (o := ()) (X := some ()) (Y := none) (pc := 24) (tgt := 31) C dJ6_stringSize_0f7a4_24 (by decide) (if_pos ((neg_le (n := 10) (by omega) (by decide)).mpr (by omega))) (fun _ => ?_) (fun h => by cases h)
    refine J_bipush (v := (10 : Int32)) (pc := 31) C dJ6_stringSize_0f7a4_31 (by decide) ?_
    refine J_iload_n (pc := 33) C dJ6_stringSize_0f7a4_33 1 rfl ?_
    refine J_imul (pc := 34) C dJ6_stringSize_0f7a4_34 ?_
    refine J_top (α := Unit) (X := none) ((-100 : Int32)) (by decide) ?_
    refine J_istore_n (lv2 := [(2, .int (-100 : Int32)), (3, .int (1 : Int32)), (0, .int (-(nI x))), (1, .int (0 : Int32))]) (pc := 35) C dJ6_stringSize_0f7a4_35 (by decide) rfl ?_
    refine J_iincK (v := (1 : Int32)) (x2 := (2 : Int32)) (lv2 := [(3, .int (2 : Int32)), (2, .int (-100 : Int32)), (0, .int (-(nI x))), (1, .int (0 : Int32))]) (pc := 36) C dJ6_stringSize_0f7a4_36 1 rfl (by decide) (by decide) (by decide) rfl ?_
    refine J_goto (tgt := 16) (pc := 39) C dJ6_stringSize_0f7a4_39 (by decide) ?_
    refine J_iload_n (pc := 16) C dJ6_stringSize_0f7a4_16 0 rfl ?_
    refine J_bipush (v := (10 : Int32)) (pc := 17) C dJ6_stringSize_0f7a4_17 (by decide) ?_
    refine J_ic_ge (α := Unit) (o := ()) (X := none) (Y := some ()) (pc := 19) (tgt := 42) C dJ6_stringSize_0f7a4_19 (by decide) (if_neg (by decide)) (fun h => by cases h) (fun _ => ?_)
    refine J_iload_n (pc := 22) C dJ6_stringSize_0f7a4_22 2 rfl ?_
    refine J_iload_n (pc := 23) C dJ6_stringSize_0f7a4_23 1 rfl ?_
    refine J_ic_le (α := Unit) (o := ()) (X := some ()) (Y := none) (pc := 24) (tgt := 31) C dJ6_stringSize_0f7a4_24 (by decide) (if_pos ((neg_le (n := 100) (by omega) (by decide)).mpr (by omega))) (fun _ => ?_) (fun h => by cases h)
    refine J_bipush (v := (10 : Int32)) (pc := 31) C dJ6_stringSize_0f7a4_31 (by decide) ?_
    refine J_iload_n (pc := 33) C dJ6_stringSize_0f7a4_33 1 rfl ?_
    refine J_imul (pc := 34) C dJ6_stringSize_0f7a4_34 ?_
    refine J_top (α := Unit) (X := none) ((-1000 : Int32)) (by decide) ?_
    refine J_istore_n (lv2 := [(2, .int (-1000 : Int32)), (3, .int (2 : Int32)), (0, .int (-(nI x))), (1, .int (0 : Int32))]) (pc := 35) C dJ6_stringSize_0f7a4_35 (by decide) rfl ?_
    refine J_iincK (v := (1 : Int32)) (x2 := (3 : Int32)) (lv2 := [(3, .int (3 : Int32)), (2, .int (-1000 : Int32)), (0, .int (-(nI x))), (1, .int (0 : Int32))]) (pc := 36) C dJ6_stringSize_0f7a4_36 1 rfl (by decide) (by decide) (by decide) rfl ?_
    refine J_goto (tgt := 16) (pc := 39) C dJ6_stringSize_0f7a4_39 (by decide) ?_
    refine J_iload_n (pc := 16) C dJ6_stringSize_0f7a4_16 0 rfl ?_
    refine J_bipush (v := (10 : Int32)) (pc := 17) C dJ6_stringSize_0f7a4_17 (by decide) ?_
    refine J_ic_ge (α := Unit) (o := ()) (X := none) (Y := some ()) (pc := 19) (tgt := 42) C dJ6_stringSize_0f7a4_19 (by decide) (if_neg (by decide)) (fun h => by cases h) (fun _ => ?_)
    refine J_iload_n (pc := 22) C dJ6_stringSize_0f7a4_22 2 rfl ?_
    refine J_iload_n (pc := 23) C dJ6_stringSize_0f7a4_23 1 rfl ?_
    refine J_ic_le (α := Unit) (o := ()) (X := none) (Y := some ()) (pc := 24) (tgt := 31) C dJ6_stringSize_0f7a4_24 (by decide) (if_neg (fun z => by have := (neg_le (n := 1000) (by omega) (by decide)).mp z; omega)) (fun h => by cases h) (fun _ => ?_)
    refine J_iload_n (pc := 27) C dJ6_stringSize_0f7a4_27 0 rfl ?_
    refine J_iload_n (pc := 28) C dJ6_stringSize_0f7a4_28 3 rfl ?_
    refine J_iadd (pc := 29) C dJ6_stringSize_0f7a4_29 ?_
    refine J_top (α := Unit) (X := none) (nI (dg x).length) (by rw [dg_3 h1 h2]; rfl) ?_
    refine J_widen (k2 := 0) (n2 := 0) (by first | exact Nat.le_of_ble_eq_true rfl | omega | (dsimp only; omega)) (by first | exact Nat.le_of_ble_eq_true rfl | omega | (dsimp only; omega)) ?_
    exact J_iret (pc := 30) C dJ6_stringSize_0f7a4_30 hr ⟨rfl, rfl⟩
  · refine J_iconst (v := (1 : Int32)) (pc := 0) C dJ6_stringSize_0f7a4_0 (by decide) ?_
    refine J_istore_n (lv2 := [(1, .int (1 : Int32)), (0, .int (nI x))]) (pc := 1) C dJ6_stringSize_0f7a4_1 (by decide) rfl ?_
    refine J_iload_n (pc := 2) C dJ6_stringSize_0f7a4_2 1 rfl ?_
    refine J_if_lt (α := Unit) (o := ()) (X := none) (Y := some ()) (pc := 3) (tgt := 11) C dJ6_stringSize_0f7a4_3 (by decide) (if_neg (nI_pos (by omega))) (fun h => by cases h) (fun _ => ?_)
    refine J_iconst (v := (0 : Int32)) (pc := 6) C dJ6_stringSize_0f7a4_6 (by decide) ?_
    refine J_istore_n (lv2 := [(1, .int (0 : Int32)), (0, .int (nI x))]) (pc := 7) C dJ6_stringSize_0f7a4_7 (by decide) rfl ?_
    refine J_iload_n (pc := 8) C dJ6_stringSize_0f7a4_8 1 rfl ?_
    refine J_ineg (pc := 9) C dJ6_stringSize_0f7a4_9 ?_
    refine J_istore_n (lv2 := [(0, .int (-(nI x))), (1, .int (0 : Int32))]) (pc := 10) C dJ6_stringSize_0f7a4_10 (by decide) rfl ?_
    refine J_bipush (v := (-10 : Int32)) (pc := 11) C dJ6_stringSize_0f7a4_11 (by decide) ?_
    refine J_istore_n (lv2 := [(2, .int (-10 : Int32)), (0, .int (-(nI x))), (1, .int (0 : Int32))]) (pc := 13) C dJ6_stringSize_0f7a4_13 (by decide) rfl ?_
    refine J_iconst (v := (1 : Int32)) (pc := 14) C dJ6_stringSize_0f7a4_14 (by decide) ?_
    refine J_istore_n (lv2 := [(3, .int (1 : Int32)), (2, .int (-10 : Int32)), (0, .int (-(nI x))), (1, .int (0 : Int32))]) (pc := 15) C dJ6_stringSize_0f7a4_15 (by decide) rfl ?_
    refine J_iload_n (pc := 16) C dJ6_stringSize_0f7a4_16 0 rfl ?_
    refine J_bipush (v := (10 : Int32)) (pc := 17) C dJ6_stringSize_0f7a4_17 (by decide) ?_
    refine J_ic_ge (α := Unit) (o := ()) (X := none) (Y := some ()) (pc := 19) (tgt := 42) C dJ6_stringSize_0f7a4_19 (by decide) (if_neg (by decide)) (fun h => by cases h) (fun _ => ?_)
    refine J_iload_n (pc := 22) C dJ6_stringSize_0f7a4_22 2 rfl ?_
    refine J_iload_n (pc := 23) C dJ6_stringSize_0f7a4_23 1 rfl ?_
    refine J_ic_le (α := Unit) (o := ()) (X := some ()) (Y := none) (pc := 24) (tgt := 31) C dJ6_stringSize_0f7a4_24 (by decide) (if_pos ((neg_le (n := 10) (by omega) (by decide)).mpr (by omega))) (fun _ => ?_) (fun h => by cases h)
    refine J_bipush (v := (10 : Int32)) (pc := 31) C dJ6_stringSize_0f7a4_31 (by decide) ?_
    refine J_iload_n (pc := 33) C dJ6_stringSize_0f7a4_33 1 rfl ?_
    refine J_imul (pc := 34) C dJ6_stringSize_0f7a4_34 ?_
    refine J_top (α := Unit) (X := none) ((-100 : Int32)) (by decide) ?_
    refine J_istore_n (lv2 := [(2, .int (-100 : Int32)), (3, .int (1 : Int32)), (0, .int (-(nI x))), (1, .int (0 : Int32))]) (pc := 35) C dJ6_stringSize_0f7a4_35 (by decide) rfl ?_
    refine J_iincK (v := (1 : Int32)) (x2 := (2 : Int32)) (lv2 := [(3, .int (2 : Int32)), (2, .int (-100 : Int32)), (0, .int (-(nI x))), (1, .int (0 : Int32))]) (pc := 36) C dJ6_stringSize_0f7a4_36 1 rfl (by decide) (by decide) (by decide) rfl ?_
    refine J_goto (tgt := 16) (pc := 39) C dJ6_stringSize_0f7a4_39 (by decide) ?_
    refine J_iload_n (pc := 16) C dJ6_stringSize_0f7a4_16 0 rfl ?_
    refine J_bipush (v := (10 : Int32)) (pc := 17) C dJ6_stringSize_0f7a4_17 (by decide) ?_
    refine J_ic_ge (α := Unit) (o := ()) (X := none) (Y := some ()) (pc := 19) (tgt := 42) C dJ6_stringSize_0f7a4_19 (by decide) (if_neg (by decide)) (fun h => by cases h) (fun _ => ?_)
    refine J_iload_n (pc := 22) C dJ6_stringSize_0f7a4_22 2 rfl ?_
    refine J_iload_n (pc := 23) C dJ6_stringSize_0f7a4_23 1 rfl ?_
    refine J_ic_le (α := Unit) (o := ()) (X := some ()) (Y := none) (pc := 24) (tgt := 31) C dJ6_stringSize_0f7a4_24 (by decide) (if_pos ((neg_le (n := 100) (by omega) (by decide)).mpr (by omega))) (fun _ => ?_) (fun h => by cases h)
    refine J_bipush (v := (10 : Int32)) (pc := 31) C dJ6_stringSize_0f7a4_31 (by decide) ?_
    refine J_iload_n (pc := 33) C dJ6_stringSize_0f7a4_33 1 rfl ?_
    refine J_imul (pc := 34) C dJ6_stringSize_0f7a4_34 ?_
    refine J_top (α := Unit) (X := none) ((-1000 : Int32)) (by decide) ?_
    refine J_istore_n (lv2 := [(2, .int (-1000 : Int32)), (3, .int (2 : Int32)), (0, .int (-(nI x))), (1, .int (0 : Int32))]) (pc := 35) C dJ6_stringSize_0f7a4_35 (by decide) rfl ?_
    refine J_iincK (v := (1 : Int32)) (x2 := (3 : Int32)) (lv2 := [(3, .int (3 : Int32)), (2, .int (-1000 : Int32)), (0, .int (-(nI x))), (1, .int (0 : Int32))]) (pc := 36) C dJ6_stringSize_0f7a4_36 1 rfl (by decide) (by decide) (by decide) rfl ?_
    refine J_goto (tgt := 16) (pc := 39) C dJ6_stringSize_0f7a4_39 (by decide) ?_
    refine J_iload_n (pc := 16) C dJ6_stringSize_0f7a4_16 0 rfl ?_
    refine J_bipush (v := (10 : Int32)) (pc := 17) C dJ6_stringSize_0f7a4_17 (by decide) ?_
    refine J_ic_ge (α := Unit) (o := ()) (X := none) (Y := some ()) (pc := 19) (tgt := 42) C dJ6_stringSize_0f7a4_19 (by decide) (if_neg (by decide)) (fun h => by cases h) (fun _ => ?_)
    refine J_iload_n (pc := 22) C dJ6_stringSize_0f7a4_22 2 rfl ?_
    refine J_iload_n (pc := 23) C dJ6_stringSize_0f7a4_23 1 rfl ?_
    refine J_ic_le (α := Unit) (o := ()) (X := some ()) (Y := none) (pc := 24) (tgt := 31) C dJ6_stringSize_0f7a4_24 (by decide) (if_pos ((neg_le (n := 1000) (by omega) (by decide)).mpr (by omega))) (fun _ => ?_) (fun h => by cases h)
    refine J_bipush (v := (10 : Int32)) (pc := 31) C dJ6_stringSize_0f7a4_31 (by decide) ?_
    refine J_iload_n (pc := 33) C dJ6_stringSize_0f7a4_33 1 rfl ?_
    refine J_imul (pc := 34) C dJ6_stringSize_0f7a4_34 ?_
    refine J_top (α := Unit) (X := none) ((-10000 : Int32)) (by decide) ?_
    refine J_istore_n (lv2 := [(2, .int (-10000 : Int32)), (3, .int (3 : Int32)), (0, .int (-(nI x))), (1, .int (0 : Int32))]) (pc := 35) C dJ6_stringSize_0f7a4_35 (by decide) rfl ?_
    refine J_iincK (v := (1 : Int32)) (x2 := (4 : Int32)) (lv2 := [(3, .int (4 : Int32)), (2, .int (-10000 : Int32)), (0, .int (-(nI x))), (1, .int (0 : Int32))]) (pc := 36) C dJ6_stringSize_0f7a4_36 1 rfl (by decide) (by decide) (by decide) rfl ?_
    refine J_goto (tgt := 16) (pc := 39) C dJ6_stringSize_0f7a4_39 (by decide) ?_
    refine J_iload_n (pc := 16) C dJ6_stringSize_0f7a4_16 0 rfl ?_
    refine J_bipush (v := (10 : Int32)) (pc := 17) C dJ6_stringSize_0f7a4_17 (by decide) ?_
    refine J_ic_ge (α := Unit) (o := ()) (X := none) (Y := some ()) (pc := 19) (tgt := 42) C dJ6_stringSize_0f7a4_19 (by decide) (if_neg (by decide)) (fun h => by cases h) (fun _ => ?_)
    refine J_iload_n (pc := 22) C dJ6_stringSize_0f7a4_22 2 rfl ?_
    refine J_iload_n (pc := 23) C dJ6_stringSize_0f7a4_23 1 rfl ?_
    refine J_ic_le (α := Unit) (o := ()) (X := none) (Y := some ()) (pc := 24) (tgt := 31) C dJ6_stringSize_0f7a4_24 (by decide) (if_neg (fun z => by have := (neg_le (n := 10000) (by omega) (by decide)).mp z; omega)) (fun h => by cases h) (fun _ => ?_)
    refine J_iload_n (pc := 27) C dJ6_stringSize_0f7a4_27 0 rfl ?_
    refine J_iload_n (pc := 28) C dJ6_stringSize_0f7a4_28 3 rfl ?_
    refine J_iadd (pc := 29) C dJ6_stringSize_0f7a4_29 ?_
    refine J_top (α := Unit) (X := none) (nI (dg x).length) (by rw [dg_4 h1]; rfl) ?_
    refine J_widen (k2 := 0) (n2 := 0) (by first | exact Nat.le_of_ble_eq_true rfl | omega | (dsimp only; omega)) (by first | exact Nat.le_of_ble_eq_true rfl | omega | (dsimp only; omega)) ?_
    exact J_iret (pc := 30) C dJ6_stringSize_0f7a4_30 hr ⟨rfl, rfl⟩

theorem dJ6_getChars_ba4f3_0 : decode cJ6_getChars_ba4f3 0 = .ok (.iload_n 1, 1) := by decide +kernel
theorem dJ6_getChars_ba4f3_1 : decode cJ6_getChars_ba4f3 1 = .ok (.istore 5, 2) := by decide +kernel
theorem dJ6_getChars_ba4f3_3 : decode cJ6_getChars_ba4f3 3 = .ok (.iload_n 0, 1) := by decide +kernel
theorem dJ6_getChars_ba4f3_4 : decode cJ6_getChars_ba4f3 4 = .ok (.ifCond .ge 7, 3) := by decide +kernel
theorem dJ6_getChars_ba4f3_7 : decode cJ6_getChars_ba4f3 7 = .ok (.iconst 1, 1) := by decide +kernel
theorem dJ6_getChars_ba4f3_8 : decode cJ6_getChars_ba4f3 8 = .ok (.goto 4, 3) := by decide +kernel
theorem dJ6_getChars_ba4f3_11 : decode cJ6_getChars_ba4f3 11 = .ok (.iconst 0, 1) := by decide +kernel
theorem dJ6_getChars_ba4f3_12 : decode cJ6_getChars_ba4f3 12 = .ok (.istore 6, 2) := by decide +kernel
theorem dJ6_getChars_ba4f3_14 : decode cJ6_getChars_ba4f3 14 = .ok (.iload 6, 2) := by decide +kernel
theorem dJ6_getChars_ba4f3_16 : decode cJ6_getChars_ba4f3 16 = .ok (.ifCond .ne 6, 3) := by decide +kernel
theorem dJ6_getChars_ba4f3_19 : decode cJ6_getChars_ba4f3 19 = .ok (.iload_n 0, 1) := by decide +kernel
theorem dJ6_getChars_ba4f3_20 : decode cJ6_getChars_ba4f3 20 = .ok (.ineg, 1) := by decide +kernel
theorem dJ6_getChars_ba4f3_21 : decode cJ6_getChars_ba4f3 21 = .ok (.istore_n 0, 1) := by decide +kernel
theorem dJ6_getChars_ba4f3_22 : decode cJ6_getChars_ba4f3 22 = .ok (.iload_n 0, 1) := by decide +kernel
theorem dJ6_getChars_ba4f3_23 : decode cJ6_getChars_ba4f3 23 = .ok (.bipush (-100), 2) := by decide +kernel
theorem dJ6_getChars_ba4f3_25 : decode cJ6_getChars_ba4f3 25 = .ok (.if_icmp .gt 47, 3) := by decide +kernel
theorem dJ6_getChars_ba4f3_28 : decode cJ6_getChars_ba4f3 28 = .ok (.iload_n 0, 1) := by decide +kernel
theorem dJ6_getChars_ba4f3_29 : decode cJ6_getChars_ba4f3 29 = .ok (.bipush 100, 2) := by decide +kernel
theorem dJ6_getChars_ba4f3_31 : decode cJ6_getChars_ba4f3 31 = .ok (.idiv, 1) := by decide +kernel
theorem dJ6_getChars_ba4f3_32 : decode cJ6_getChars_ba4f3 32 = .ok (.istore_n 3, 1) := by decide +kernel
theorem dJ6_getChars_ba4f3_33 : decode cJ6_getChars_ba4f3 33 = .ok (.iload_n 3, 1) := by decide +kernel
theorem dJ6_getChars_ba4f3_34 : decode cJ6_getChars_ba4f3 34 = .ok (.bipush 100, 2) := by decide +kernel
theorem dJ6_getChars_ba4f3_36 : decode cJ6_getChars_ba4f3 36 = .ok (.imul, 1) := by decide +kernel
theorem dJ6_getChars_ba4f3_37 : decode cJ6_getChars_ba4f3 37 = .ok (.iload_n 0, 1) := by decide +kernel
theorem dJ6_getChars_ba4f3_38 : decode cJ6_getChars_ba4f3 38 = .ok (.isub, 1) := by decide +kernel
theorem dJ6_getChars_ba4f3_39 : decode cJ6_getChars_ba4f3 39 = .ok (.istore 4, 2) := by decide +kernel
theorem dJ6_getChars_ba4f3_41 : decode cJ6_getChars_ba4f3 41 = .ok (.iload_n 3, 1) := by decide +kernel
theorem dJ6_getChars_ba4f3_42 : decode cJ6_getChars_ba4f3 42 = .ok (.istore_n 0, 1) := by decide +kernel
theorem dJ6_getChars_ba4f3_43 : decode cJ6_getChars_ba4f3 43 = .ok (.aload_n 2, 1) := by decide +kernel
theorem dJ6_getChars_ba4f3_44 : decode cJ6_getChars_ba4f3 44 = .ok (.iinc 5 (-1), 3) := by decide +kernel
theorem dJ6_getChars_ba4f3_47 : decode cJ6_getChars_ba4f3 47 = .ok (.iload 5, 2) := by decide +kernel
theorem dJ6_getChars_ba4f3_49 : decode cJ6_getChars_ba4f3 49 = .ok (.getstatic 83, 3) := by decide +kernel
theorem dJ6_getChars_ba4f3_52 : decode cJ6_getChars_ba4f3 52 = .ok (.iload 4, 2) := by decide +kernel
theorem dJ6_getChars_ba4f3_54 : decode cJ6_getChars_ba4f3 54 = .ok (.baload, 1) := by decide +kernel
theorem dJ6_getChars_ba4f3_55 : decode cJ6_getChars_ba4f3 55 = .ok (.bastore, 1) := by decide +kernel
theorem dJ6_getChars_ba4f3_56 : decode cJ6_getChars_ba4f3 56 = .ok (.aload_n 2, 1) := by decide +kernel
theorem dJ6_getChars_ba4f3_57 : decode cJ6_getChars_ba4f3 57 = .ok (.iinc 5 (-1), 3) := by decide +kernel
theorem dJ6_getChars_ba4f3_60 : decode cJ6_getChars_ba4f3 60 = .ok (.iload 5, 2) := by decide +kernel
theorem dJ6_getChars_ba4f3_62 : decode cJ6_getChars_ba4f3 62 = .ok (.getstatic 87, 3) := by decide +kernel
theorem dJ6_getChars_ba4f3_65 : decode cJ6_getChars_ba4f3 65 = .ok (.iload 4, 2) := by decide +kernel
theorem dJ6_getChars_ba4f3_67 : decode cJ6_getChars_ba4f3 67 = .ok (.baload, 1) := by decide +kernel
theorem dJ6_getChars_ba4f3_68 : decode cJ6_getChars_ba4f3 68 = .ok (.bastore, 1) := by decide +kernel
theorem dJ6_getChars_ba4f3_69 : decode cJ6_getChars_ba4f3 69 = .ok (.goto (-47), 3) := by decide +kernel
theorem dJ6_getChars_ba4f3_72 : decode cJ6_getChars_ba4f3 72 = .ok (.aload_n 2, 1) := by decide +kernel
theorem dJ6_getChars_ba4f3_73 : decode cJ6_getChars_ba4f3 73 = .ok (.iinc 5 (-1), 3) := by decide +kernel
theorem dJ6_getChars_ba4f3_76 : decode cJ6_getChars_ba4f3 76 = .ok (.iload 5, 2) := by decide +kernel
theorem dJ6_getChars_ba4f3_78 : decode cJ6_getChars_ba4f3 78 = .ok (.getstatic 83, 3) := by decide +kernel
theorem dJ6_getChars_ba4f3_81 : decode cJ6_getChars_ba4f3 81 = .ok (.iload_n 0, 1) := by decide +kernel
theorem dJ6_getChars_ba4f3_82 : decode cJ6_getChars_ba4f3 82 = .ok (.ineg, 1) := by decide +kernel
theorem dJ6_getChars_ba4f3_83 : decode cJ6_getChars_ba4f3 83 = .ok (.baload, 1) := by decide +kernel
theorem dJ6_getChars_ba4f3_84 : decode cJ6_getChars_ba4f3 84 = .ok (.bastore, 1) := by decide +kernel
theorem dJ6_getChars_ba4f3_85 : decode cJ6_getChars_ba4f3 85 = .ok (.iload_n 0, 1) := by decide +kernel
theorem dJ6_getChars_ba4f3_86 : decode cJ6_getChars_ba4f3 86 = .ok (.bipush (-9), 2) := by decide +kernel
theorem dJ6_getChars_ba4f3_88 : decode cJ6_getChars_ba4f3 88 = .ok (.if_icmp .ge 16, 3) := by decide +kernel
theorem dJ6_getChars_ba4f3_91 : decode cJ6_getChars_ba4f3 91 = .ok (.aload_n 2, 1) := by decide +kernel
theorem dJ6_getChars_ba4f3_92 : decode cJ6_getChars_ba4f3 92 = .ok (.iinc 5 (-1), 3) := by decide +kernel
theorem dJ6_getChars_ba4f3_95 : decode cJ6_getChars_ba4f3 95 = .ok (.iload 5, 2) := by decide +kernel
theorem dJ6_getChars_ba4f3_97 : decode cJ6_getChars_ba4f3 97 = .ok (.getstatic 87, 3) := by decide +kernel
theorem dJ6_getChars_ba4f3_100 : decode cJ6_getChars_ba4f3 100 = .ok (.iload_n 0, 1) := by decide +kernel
theorem dJ6_getChars_ba4f3_101 : decode cJ6_getChars_ba4f3 101 = .ok (.ineg, 1) := by decide +kernel
theorem dJ6_getChars_ba4f3_102 : decode cJ6_getChars_ba4f3 102 = .ok (.baload, 1) := by decide +kernel
theorem dJ6_getChars_ba4f3_103 : decode cJ6_getChars_ba4f3 103 = .ok (.bastore, 1) := by decide +kernel
theorem dJ6_getChars_ba4f3_104 : decode cJ6_getChars_ba4f3 104 = .ok (.iload 6, 2) := by decide +kernel
theorem dJ6_getChars_ba4f3_106 : decode cJ6_getChars_ba4f3 106 = .ok (.ifCond .eq 12, 3) := by decide +kernel
theorem dJ6_getChars_ba4f3_109 : decode cJ6_getChars_ba4f3 109 = .ok (.aload_n 2, 1) := by decide +kernel
theorem dJ6_getChars_ba4f3_110 : decode cJ6_getChars_ba4f3 110 = .ok (.iinc 5 (-1), 3) := by decide +kernel
theorem dJ6_getChars_ba4f3_113 : decode cJ6_getChars_ba4f3 113 = .ok (.iload 5, 2) := by decide +kernel
theorem dJ6_getChars_ba4f3_115 : decode cJ6_getChars_ba4f3 115 = .ok (.bipush 45, 2) := by decide +kernel
theorem dJ6_getChars_ba4f3_117 : decode cJ6_getChars_ba4f3 117 = .ok (.bastore, 1) := by decide +kernel
theorem dJ6_getChars_ba4f3_118 : decode cJ6_getChars_ba4f3 118 = .ok (.iload 5, 2) := by decide +kernel
theorem dJ6_getChars_ba4f3_120 : decode cJ6_getChars_ba4f3 120 = .ok (.ireturn, 1) := by decide +kernel

set_option maxHeartbeats 4000000 in
set_option maxRecDepth 100000 in
theorem c_getC1 (l : Launch) (D : va_G) (cI cB cL cO : ClassId) (pf : Nat → Nat) (x : Nat) (h1 : x < 10) (v cap : Nat) (t : List Nat) (hf : t.length + 1 ≤ cap) (hc : cap ≤ 4096) : Ct l D [(cI, .int), (cB, .byte), (cL, .byte), (cO, .object RX0)] pf yJ6_getChars_ba4f3 cJ6_getChars_ba4f3 7 (some FieldType.int) { frames := 0, cells := 0, slots := 0, locals := 0 } [.int (nI x), .int (nI (t.length + 1)), .ref v] [(v, .inl (cB, cap, .inl (bN t)))] (is1 (some (.int (nI t.length))) [(v, .inl (cB, cap, .inl (bN (t ++ dg x))))]) := by
  refine Ct_of (own := RJ6) (lv0 := [(0, .int (nI x)), (1, .int (nI (t.length + 1))), (2, .ref v)]) (by decide) rfl rfl (Nat.le_of_ble_eq_true rfl) ?_
  intro pZ eZ sZ mZ argsZ belowZ methZ cZ C hr hnm
  refine J_iload_n (pc := 0) C dJ6_getChars_ba4f3_0 1 rfl ?_
  refine J_istore (lv2 := [(5, .int (nI (t.length + 1))), (0, .int (nI x)), (1, .int (nI (t.length + 1))), (2, .ref v)]) (pc := 1) C dJ6_getChars_ba4f3_1 (by decide) rfl ?_
  refine J_iload_n (pc := 3) C dJ6_getChars_ba4f3_3 1 rfl ?_
  refine J_if_ge (α := Unit) (o := ()) (X := some ()) (Y := none) (pc := 4) (tgt := 11) C dJ6_getChars_ba4f3_4 (by decide) (if_pos (nI_pos' (by omega))) (fun _ => ?_) (fun h => by cases h)
  refine J_iconst (v := (0 : Int32)) (pc := 11) C dJ6_getChars_ba4f3_11 (by decide) ?_
  refine J_istore (lv2 := [(6, .int (0 : Int32)), (5, .int (nI (t.length + 1))), (0, .int (nI x)), (1, .int (nI (t.length + 1))), (2, .ref v)]) (pc := 12) C dJ6_getChars_ba4f3_12 (by decide) rfl ?_
  refine J_iload (pc := 14) C dJ6_getChars_ba4f3_14 0 rfl ?_
  refine J_if_ne (α := Unit) (o := ()) (X := some ()) (Y := none) (pc := 16) (tgt := 22) C dJ6_getChars_ba4f3_16 (by decide) (if_pos rfl) (fun h => by cases h) (fun _ => ?_)
  refine J_iload_n (pc := 19) C dJ6_getChars_ba4f3_19 2 rfl ?_
  refine J_ineg (pc := 20) C dJ6_getChars_ba4f3_20 ?_
  refine J_istore_n (lv2 := [(0, .int (-(nI x))), (6, .int (0 : Int32)), (5, .int (nI (t.length + 1))), (1, .int (nI (t.length + 1))), (2, .ref v)]) (pc := 21) C dJ6_getChars_ba4f3_21 (by decide) rfl ?_
  refine J_iload_n (pc := 22) C dJ6_getChars_ba4f3_22 0 rfl ?_
  refine J_bipush (v := (-100 : Int32)) (pc := 23) C dJ6_getChars_ba4f3_23 (by decide) ?_
  refine J_ic_gt (α := Unit) (o := ()) (X := some ()) (Y := none) (pc := 25) (tgt := 72) C dJ6_getChars_ba4f3_25 (by decide) (if_pos ((neg_gt (n := 100) (by omega) (by decide)).mpr (by omega))) (fun _ => ?_) (fun h => by cases h)
  refine J_aload_n (pc := 72) C dJ6_getChars_ba4f3_72 4 rfl ?_
  refine J_iincK (v := (-1 : Int32)) (x2 := nI t.length) (lv2 := [(5, .int (nI t.length)), (0, .int (-(nI x))), (6, .int (0 : Int32)), (1, .int (nI (t.length + 1))), (2, .ref v)]) (pc := 73) C dJ6_getChars_ba4f3_73 2 rfl (by decide) (dec1 _) (by decide) rfl ?_
  refine J_iload (pc := 76) C dJ6_getChars_ba4f3_76 0 rfl ?_
  refine J_dig (pc := 78) C dJ6_getChars_ba4f3_78 fl_RJ6_83 ?_
  refine J_iload_n (pc := 81) C dJ6_getChars_ba4f3_81 1 rfl ?_
  refine J_ineg (pc := 82) C dJ6_getChars_ba4f3_82 ?_
  refine J_top (α := Unit) (X := none) (nI x) (neg_neg' _) ?_
  refine J_digAt (x := x) (pc := 83) C (by omega) dJ6_getChars_ba4f3_83 ?_
  refine J_bast (α := Unit) (o := ()) (X := some ()) (pc := 84) C dJ6_getChars_ba4f3_84 0 1 rfl rfl (if_neg (in_row (by omega) hc)) (fun _ => ?_)
  refine J_ws (ws2 := [(v, .inl (cB, cap, .inl (bN (t ++ dg x))))]) (by rw [st_dig (by omega) (by omega), bN_push, ← dg_1 h1]; rfl) ?_
  refine J_iload_n (pc := 85) C dJ6_getChars_ba4f3_85 1 rfl ?_
  refine J_bipush (v := (-9 : Int32)) (pc := 86) C dJ6_getChars_ba4f3_86 (by decide) ?_
  refine J_ic_ge (α := Unit) (o := ()) (X := some ()) (Y := none) (pc := 88) (tgt := 104) C dJ6_getChars_ba4f3_88 (by decide) (if_pos ((neg_ge (n := 9) (by omega) (by decide)).mpr (by omega))) (fun _ => ?_) (fun h => by cases h)
  refine J_iload (pc := 104) C dJ6_getChars_ba4f3_104 2 rfl ?_
  refine J_if_eq (α := Unit) (o := ()) (X := some ()) (Y := none) (pc := 106) (tgt := 118) C dJ6_getChars_ba4f3_106 (by decide) (if_pos rfl) (fun _ => ?_) (fun h => by cases h)
  refine J_iload (pc := 118) C dJ6_getChars_ba4f3_118 0 rfl ?_
  refine J_widen (k2 := 0) (n2 := 0) (by first | exact Nat.le_of_ble_eq_true rfl | omega | (dsimp only; omega)) (by first | exact Nat.le_of_ble_eq_true rfl | omega | (dsimp only; omega)) ?_
  exact J_iret (pc := 120) C dJ6_getChars_ba4f3_120 hr ⟨rfl, rfl⟩

set_option maxHeartbeats 4000000 in
set_option maxRecDepth 100000 in
theorem c_getC2 (l : Launch) (D : va_G) (cI cB cL cO : ClassId) (pf : Nat → Nat) (x : Nat) (h1 : ¬ x < 10) (h2 : x < 100) (v cap : Nat) (t : List Nat) (hf : t.length + 2 ≤ cap) (hc : cap ≤ 4096) : Ct l D [(cI, .int), (cB, .byte), (cL, .byte), (cO, .object RX0)] pf yJ6_getChars_ba4f3 cJ6_getChars_ba4f3 7 (some FieldType.int) { frames := 0, cells := 0, slots := 0, locals := 0 } [.int (nI x), .int (nI (t.length + 2)), .ref v] [(v, .inl (cB, cap, .inl (bN t)))] (is1 (some (.int (nI t.length))) [(v, .inl (cB, cap, .inl (bN (t ++ dg x))))]) := by
  refine Ct_of (own := RJ6) (lv0 := [(0, .int (nI x)), (1, .int (nI (t.length + 2))), (2, .ref v)]) (by decide) rfl rfl (Nat.le_of_ble_eq_true rfl) ?_
  intro pZ eZ sZ mZ argsZ belowZ methZ cZ C hr hnm
  refine J_iload_n (pc := 0) C dJ6_getChars_ba4f3_0 1 rfl ?_
  refine J_istore (lv2 := [(5, .int (nI (t.length + 2))), (0, .int (nI x)), (1, .int (nI (t.length + 2))), (2, .ref v)]) (pc := 1) C dJ6_getChars_ba4f3_1 (by decide) rfl ?_
  refine J_iload_n (pc := 3) C dJ6_getChars_ba4f3_3 1 rfl ?_
  refine J_if_ge (α := Unit) (o := ()) (X := some ()) (Y := none) (pc := 4) (tgt := 11) C dJ6_getChars_ba4f3_4 (by decide) (if_pos (nI_pos' (by omega))) (fun _ => ?_) (fun h => by cases h)
  refine J_iconst (v := (0 : Int32)) (pc := 11) C dJ6_getChars_ba4f3_11 (by decide) ?_
  refine J_istore (lv2 := [(6, .int (0 : Int32)), (5, .int (nI (t.length + 2))), (0, .int (nI x)), (1, .int (nI (t.length + 2))), (2, .ref v)]) (pc := 12) C dJ6_getChars_ba4f3_12 (by decide) rfl ?_
  refine J_iload (pc := 14) C dJ6_getChars_ba4f3_14 0 rfl ?_
  refine J_if_ne (α := Unit) (o := ()) (X := some ()) (Y := none) (pc := 16) (tgt := 22) C dJ6_getChars_ba4f3_16 (by decide) (if_pos rfl) (fun h => by cases h) (fun _ => ?_)
  refine J_iload_n (pc := 19) C dJ6_getChars_ba4f3_19 2 rfl ?_
  refine J_ineg (pc := 20) C dJ6_getChars_ba4f3_20 ?_
  refine J_istore_n (lv2 := [(0, .int (-(nI x))), (6, .int (0 : Int32)), (5, .int (nI (t.length + 2))), (1, .int (nI (t.length + 2))), (2, .ref v)]) (pc := 21) C dJ6_getChars_ba4f3_21 (by decide) rfl ?_
  refine J_iload_n (pc := 22) C dJ6_getChars_ba4f3_22 0 rfl ?_
  refine J_bipush (v := (-100 : Int32)) (pc := 23) C dJ6_getChars_ba4f3_23 (by decide) ?_
  refine J_ic_gt (α := Unit) (o := ()) (X := some ()) (Y := none) (pc := 25) (tgt := 72) C dJ6_getChars_ba4f3_25 (by decide) (if_pos ((neg_gt (n := 100) (by omega) (by decide)).mpr (by omega))) (fun _ => ?_) (fun h => by cases h)
  refine J_aload_n (pc := 72) C dJ6_getChars_ba4f3_72 4 rfl ?_
  refine J_iincK (v := (-1 : Int32)) (x2 := nI (t.length + 1)) (lv2 := [(5, .int (nI (t.length + 1))), (0, .int (-(nI x))), (6, .int (0 : Int32)), (1, .int (nI (t.length + 2))), (2, .ref v)]) (pc := 73) C dJ6_getChars_ba4f3_73 2 rfl (by decide) (dec1 _) (by decide) rfl ?_
  refine J_iload (pc := 76) C dJ6_getChars_ba4f3_76 0 rfl ?_
  refine J_dig (pc := 78) C dJ6_getChars_ba4f3_78 fl_RJ6_83 ?_
  refine J_iload_n (pc := 81) C dJ6_getChars_ba4f3_81 1 rfl ?_
  refine J_ineg (pc := 82) C dJ6_getChars_ba4f3_82 ?_
  refine J_top (α := Unit) (X := none) (nI x) (neg_neg' _) ?_
  refine J_digAt (x := x) (pc := 83) C (by omega) dJ6_getChars_ba4f3_83 ?_
  refine J_bast (α := Unit) (o := ()) (X := some ()) (pc := 84) C dJ6_getChars_ba4f3_84 0 1 rfl rfl (if_neg (in_row (by omega) hc)) (fun _ => ?_)
  refine J_ws (ws2 := [(v, .inl (cB, cap, .inl (upd (bN t) (t.length + 1) (nI (48 + x % 10)))))]) (by rw [st_dig (by omega) (by omega)]; rfl) ?_
  refine J_iload_n (pc := 85) C dJ6_getChars_ba4f3_85 1 rfl ?_
  refine J_bipush (v := (-9 : Int32)) (pc := 86) C dJ6_getChars_ba4f3_86 (by decide) ?_
  refine J_ic_ge (α := Unit) (o := ()) (X := none) (Y := some ()) (pc := 88) (tgt := 104) C dJ6_getChars_ba4f3_88 (by decide) (if_neg (fun z => by have := (neg_ge (n := 9) (by omega) (by decide)).mp z; omega)) (fun h => by cases h) (fun _ => ?_)
  refine J_aload_n (pc := 91) C dJ6_getChars_ba4f3_91 4 rfl ?_
  refine J_iincK (v := (-1 : Int32)) (x2 := nI t.length) (lv2 := [(5, .int (nI t.length)), (0, .int (-(nI x))), (6, .int (0 : Int32)), (1, .int (nI (t.length + 2))), (2, .ref v)]) (pc := 92) C dJ6_getChars_ba4f3_92 0 rfl (by decide) (dec1 _) (by decide) rfl ?_
  refine J_iload (pc := 95) C dJ6_getChars_ba4f3_95 0 rfl ?_
  refine J_digT (pc := 97) C dJ6_getChars_ba4f3_97 fl_RJ6_87 ?_
  refine J_iload_n (pc := 100) C dJ6_getChars_ba4f3_100 1 rfl ?_
  refine J_ineg (pc := 101) C dJ6_getChars_ba4f3_101 ?_
  refine J_top (α := Unit) (X := none) (nI x) (neg_neg' _) ?_
  refine J_digTAt (x := x) (pc := 102) C (by omega) dJ6_getChars_ba4f3_102 ?_
  refine J_bast (α := Unit) (o := ()) (X := some ()) (pc := 103) C dJ6_getChars_ba4f3_103 0 1 rfl rfl (if_neg (in_row (by omega) hc)) (fun _ => ?_)
  refine J_ws (ws2 := [(v, .inl (cB, cap, .inl (bN (t ++ dg x))))]) (by rw [st_dig (by omega) (by omega), up2, ← dg_2 h1 h2]; rfl) ?_
  refine J_iload (pc := 104) C dJ6_getChars_ba4f3_104 2 rfl ?_
  refine J_if_eq (α := Unit) (o := ()) (X := some ()) (Y := none) (pc := 106) (tgt := 118) C dJ6_getChars_ba4f3_106 (by decide) (if_pos rfl) (fun _ => ?_) (fun h => by cases h)
  refine J_iload (pc := 118) C dJ6_getChars_ba4f3_118 0 rfl ?_
  refine J_widen (k2 := 0) (n2 := 0) (by first | exact Nat.le_of_ble_eq_true rfl | omega | (dsimp only; omega)) (by first | exact Nat.le_of_ble_eq_true rfl | omega | (dsimp only; omega)) ?_
  exact J_iret (pc := 120) C dJ6_getChars_ba4f3_120 hr ⟨rfl, rfl⟩

set_option maxHeartbeats 4000000 in
set_option maxRecDepth 100000 in
theorem c_getC3 (l : Launch) (D : va_G) (cI cB cL cO : ClassId) (pf : Nat → Nat) (x : Nat) (h1 : ¬ x < 100) (h2 : x < 1000) (v cap : Nat) (t : List Nat) (hf : t.length + 3 ≤ cap) (hc : cap ≤ 4096) : Ct l D [(cI, .int), (cB, .byte), (cL, .byte), (cO, .object RX0)] pf yJ6_getChars_ba4f3 cJ6_getChars_ba4f3 7 (some FieldType.int) { frames := 0, cells := 0, slots := 0, locals := 0 } [.int (nI x), .int (nI (t.length + 3)), .ref v] [(v, .inl (cB, cap, .inl (bN t)))] (is1 (some (.int (nI t.length))) [(v, .inl (cB, cap, .inl (bN (t ++ dg x))))]) := by
  refine Ct_of (own := RJ6) (lv0 := [(0, .int (nI x)), (1, .int (nI (t.length + 3))), (2, .ref v)]) (by decide) rfl rfl (Nat.le_of_ble_eq_true rfl) ?_
  intro pZ eZ sZ mZ argsZ belowZ methZ cZ C hr hnm
  refine J_iload_n (pc := 0) C dJ6_getChars_ba4f3_0 1 rfl ?_
  refine J_istore (lv2 := [(5, .int (nI (t.length + 3))), (0, .int (nI x)), (1, .int (nI (t.length + 3))), (2, .ref v)]) (pc := 1) C dJ6_getChars_ba4f3_1 (by decide) rfl ?_
  refine J_iload_n (pc := 3) C dJ6_getChars_ba4f3_3 1 rfl ?_
  refine J_if_ge (α := Unit) (o := ()) (X := some ()) (Y := none) (pc := 4) (tgt := 11) C dJ6_getChars_ba4f3_4 (by decide) (if_pos (nI_pos' (by omega))) (fun _ => ?_) (fun h => by cases h)
  refine J_iconst (v := (0 : Int32)) (pc := 11) C dJ6_getChars_ba4f3_11 (by decide) ?_
  refine J_istore (lv2 := [(6, .int (0 : Int32)), (5, .int (nI (t.length + 3))), (0, .int (nI x)), (1, .int (nI (t.length + 3))), (2, .ref v)]) (pc := 12) C dJ6_getChars_ba4f3_12 (by decide) rfl ?_
  refine J_iload (pc := 14) C dJ6_getChars_ba4f3_14 0 rfl ?_
  refine J_if_ne (α := Unit) (o := ()) (X := some ()) (Y := none) (pc := 16) (tgt := 22) C dJ6_getChars_ba4f3_16 (by decide) (if_pos rfl) (fun h => by cases h) (fun _ => ?_)
  refine J_iload_n (pc := 19) C dJ6_getChars_ba4f3_19 2 rfl ?_
  refine J_ineg (pc := 20) C dJ6_getChars_ba4f3_20 ?_
  refine J_istore_n (lv2 := [(0, .int (-(nI x))), (6, .int (0 : Int32)), (5, .int (nI (t.length + 3))), (1, .int (nI (t.length + 3))), (2, .ref v)]) (pc := 21) C dJ6_getChars_ba4f3_21 (by decide) rfl ?_
  refine J_iload_n (pc := 22) C dJ6_getChars_ba4f3_22 0 rfl ?_
  refine J_bipush (v := (-100 : Int32)) (pc := 23) C dJ6_getChars_ba4f3_23 (by decide) ?_
  refine J_ic_gt (α := Unit) (o := ()) (X := none) (Y := some ()) (pc := 25) (tgt := 72) C dJ6_getChars_ba4f3_25 (by decide) (if_neg (fun z => by have := (neg_gt (n := 100) (by omega) (by decide)).mp z; omega)) (fun h => by cases h) (fun _ => ?_)
  refine J_iload_n (pc := 28) C dJ6_getChars_ba4f3_28 0 rfl ?_
  refine J_bipush (v := (100 : Int32)) (pc := 29) C dJ6_getChars_ba4f3_29 (by decide) ?_
  refine J_idiv (α := Unit) (o := ()) (X := some ()) (pc := 31) C dJ6_getChars_ba4f3_31 (if_neg (by decide)) (fun _ => ?_)
  refine J_top (α := Unit) (X := none) (-nI (x / 100)) (neg_div0 (by omega)) ?_
  refine J_istore_n (lv2 := [(3, .int (-nI (x / 100))), (0, .int (-(nI x))), (6, .int (0 : Int32)), (5, .int (nI (t.length + 3))), (1, .int (nI (t.length + 3))), (2, .ref v)]) (pc := 32) C dJ6_getChars_ba4f3_32 (by decide) rfl ?_
  refine J_iload_n (pc := 33) C dJ6_getChars_ba4f3_33 0 rfl ?_
  refine J_bipush (v := (100 : Int32)) (pc := 34) C dJ6_getChars_ba4f3_34 (by decide) ?_
  refine J_imul (pc := 36) C dJ6_getChars_ba4f3_36 ?_
  refine J_iload_n (pc := 37) C dJ6_getChars_ba4f3_37 1 rfl ?_
  refine J_isub (pc := 38) C dJ6_getChars_ba4f3_38 ?_
  refine J_top (α := Unit) (X := none) (nI (x % 100)) (neg_rem0 (by omega)) ?_
  refine J_istore (lv2 := [(4, .int (nI (x % 100))), (3, .int (-nI (x / 100))), (0, .int (-(nI x))), (6, .int (0 : Int32)), (5, .int (nI (t.length + 3))), (1, .int (nI (t.length + 3))), (2, .ref v)]) (pc := 39) C dJ6_getChars_ba4f3_39 (by decide) rfl ?_
  refine J_iload_n (pc := 41) C dJ6_getChars_ba4f3_41 1 rfl ?_
  refine J_istore_n (lv2 := [(0, .int (-nI (x / 100))), (4, .int (nI (x % 100))), (3, .int (-nI (x / 100))), (6, .int (0 : Int32)), (5, .int (nI (t.length + 3))), (1, .int (nI (t.length + 3))), (2, .ref v)]) (pc := 42) C dJ6_getChars_ba4f3_42 (by decide) rfl ?_
  refine J_aload_n (pc := 43) C dJ6_getChars_ba4f3_43 6 rfl ?_
  refine J_iincK (v := (-1 : Int32)) (x2 := nI (t.length + 2)) (lv2 := [(5, .int (nI (t.length + 2))), (0, .int (-nI (x / 100))), (4, .int (nI (x % 100))), (3, .int (-nI (x / 100))), (6, .int (0 : Int32)), (1, .int (nI (t.length + 3))), (2, .ref v)]) (pc := 44) C dJ6_getChars_ba4f3_44 4 rfl (by decide) (dec1 _) (by decide) rfl ?_
  refine J_iload (pc := 47) C dJ6_getChars_ba4f3_47 0 rfl ?_
  refine J_dig (pc := 49) C dJ6_getChars_ba4f3_49 fl_RJ6_83 ?_
  refine J_iload (pc := 52) C dJ6_getChars_ba4f3_52 2 rfl ?_
  refine J_digAt (x := (x % 100)) (pc := 54) C (by omega) dJ6_getChars_ba4f3_54 ?_
  refine J_bast (α := Unit) (o := ()) (X := some ()) (pc := 55) C dJ6_getChars_ba4f3_55 0 1 rfl rfl (if_neg (in_row (by omega) hc)) (fun _ => ?_)
  refine J_ws (ws2 := [(v, .inl (cB, cap, .inl (upd (bN t) (t.length + 2) (nI (48 + x % 100 % 10)))))]) (by rw [st_dig (by omega) (by omega)]; rfl) ?_
  refine J_aload_n (pc := 56) C dJ6_getChars_ba4f3_56 6 rfl ?_
  refine J_iincK (v := (-1 : Int32)) (x2 := nI (t.length + 1)) (lv2 := [(5, .int (nI (t.length + 1))), (0, .int (-nI (x / 100))), (4, .int (nI (x % 100))), (3, .int (-nI (x / 100))), (6, .int (0 : Int32)), (1, .int (nI (t.length + 3))), (2, .ref v)]) (pc := 57) C dJ6_getChars_ba4f3_57 0 rfl (by decide) (dec1 _) (by decide) rfl ?_
  refine J_iload (pc := 60) C dJ6_getChars_ba4f3_60 0 rfl ?_
  refine J_digT (pc := 62) C dJ6_getChars_ba4f3_62 fl_RJ6_87 ?_
  refine J_iload (pc := 65) C dJ6_getChars_ba4f3_65 2 rfl ?_
  refine J_digTAt (x := (x % 100)) (pc := 67) C (by omega) dJ6_getChars_ba4f3_67 ?_
  refine J_bast (α := Unit) (o := ()) (X := some ()) (pc := 68) C dJ6_getChars_ba4f3_68 0 1 rfl rfl (if_neg (in_row (by omega) hc)) (fun _ => ?_)
  refine J_ws (ws2 := [(v, .inl (cB, cap, .inl (upd (upd (bN t) (t.length + 2) (nI (48 + x % 100 % 10))) (t.length + 1) (nI (48 + x % 100 / 10)))))]) (by rw [st_dig (by omega) (by omega)]; rfl) ?_
  refine J_goto (tgt := 22) (pc := 69) C dJ6_getChars_ba4f3_69 (by decide) ?_
  refine J_iload_n (pc := 22) C dJ6_getChars_ba4f3_22 1 rfl ?_
  refine J_bipush (v := (-100 : Int32)) (pc := 23) C dJ6_getChars_ba4f3_23 (by decide) ?_
  refine J_ic_gt (α := Unit) (o := ()) (X := some ()) (Y := none) (pc := 25) (tgt := 72) C dJ6_getChars_ba4f3_25 (by decide) (if_pos ((neg_gt (n := 100) (by omega) (by decide)).mpr (by omega))) (fun _ => ?_) (fun h => by cases h)
  refine J_aload_n (pc := 72) C dJ6_getChars_ba4f3_72 6 rfl ?_
  refine J_iincK (v := (-1 : Int32)) (x2 := nI t.length) (lv2 := [(5, .int (nI t.length)), (0, .int (-nI (x / 100))), (4, .int (nI (x % 100))), (3, .int (-nI (x / 100))), (6, .int (0 : Int32)), (1, .int (nI (t.length + 3))), (2, .ref v)]) (pc := 73) C dJ6_getChars_ba4f3_73 0 rfl (by decide) (dec1 _) (by decide) rfl ?_
  refine J_iload (pc := 76) C dJ6_getChars_ba4f3_76 0 rfl ?_
  refine J_dig (pc := 78) C dJ6_getChars_ba4f3_78 fl_RJ6_83 ?_
  refine J_iload_n (pc := 81) C dJ6_getChars_ba4f3_81 1 rfl ?_
  refine J_ineg (pc := 82) C dJ6_getChars_ba4f3_82 ?_
  refine J_top (α := Unit) (X := none) (nI (x / 100)) (neg_neg' _) ?_
  refine J_digAt (x := (x / 100)) (pc := 83) C (by omega) dJ6_getChars_ba4f3_83 ?_
  refine J_bast (α := Unit) (o := ()) (X := some ()) (pc := 84) C dJ6_getChars_ba4f3_84 0 1 rfl rfl (if_neg (in_row (by omega) hc)) (fun _ => ?_)
  refine J_ws (ws2 := [(v, .inl (cB, cap, .inl (bN (t ++ dg x))))]) (by rw [st_dig (by omega) (by omega), up3, ← dg_3 h1 h2]; rfl) ?_
  refine J_iload_n (pc := 85) C dJ6_getChars_ba4f3_85 1 rfl ?_
  refine J_bipush (v := (-9 : Int32)) (pc := 86) C dJ6_getChars_ba4f3_86 (by decide) ?_
  refine J_ic_ge (α := Unit) (o := ()) (X := some ()) (Y := none) (pc := 88) (tgt := 104) C dJ6_getChars_ba4f3_88 (by decide) (if_pos ((neg_ge (n := 9) (by omega) (by decide)).mpr (by omega))) (fun _ => ?_) (fun h => by cases h)
  refine J_iload (pc := 104) C dJ6_getChars_ba4f3_104 4 rfl ?_
  refine J_if_eq (α := Unit) (o := ()) (X := some ()) (Y := none) (pc := 106) (tgt := 118) C dJ6_getChars_ba4f3_106 (by decide) (if_pos rfl) (fun _ => ?_) (fun h => by cases h)
  refine J_iload (pc := 118) C dJ6_getChars_ba4f3_118 0 rfl ?_
  refine J_widen (k2 := 0) (n2 := 0) (by first | exact Nat.le_of_ble_eq_true rfl | omega | (dsimp only; omega)) (by first | exact Nat.le_of_ble_eq_true rfl | omega | (dsimp only; omega)) ?_
  exact J_iret (pc := 120) C dJ6_getChars_ba4f3_120 hr ⟨rfl, rfl⟩

set_option maxHeartbeats 4000000 in
set_option maxRecDepth 100000 in
theorem c_getC4 (l : Launch) (D : va_G) (cI cB cL cO : ClassId) (pf : Nat → Nat) (x : Nat) (h1 : ¬ x < 1000) (h2 : x < 10000) (v cap : Nat) (t : List Nat) (hf : t.length + 4 ≤ cap) (hc : cap ≤ 4096) : Ct l D [(cI, .int), (cB, .byte), (cL, .byte), (cO, .object RX0)] pf yJ6_getChars_ba4f3 cJ6_getChars_ba4f3 7 (some FieldType.int) { frames := 0, cells := 0, slots := 0, locals := 0 } [.int (nI x), .int (nI (t.length + 4)), .ref v] [(v, .inl (cB, cap, .inl (bN t)))] (is1 (some (.int (nI t.length))) [(v, .inl (cB, cap, .inl (bN (t ++ dg x))))]) := by
  refine Ct_of (own := RJ6) (lv0 := [(0, .int (nI x)), (1, .int (nI (t.length + 4))), (2, .ref v)]) (by decide) rfl rfl (Nat.le_of_ble_eq_true rfl) ?_
  intro pZ eZ sZ mZ argsZ belowZ methZ cZ C hr hnm
  refine J_iload_n (pc := 0) C dJ6_getChars_ba4f3_0 1 rfl ?_
  refine J_istore (lv2 := [(5, .int (nI (t.length + 4))), (0, .int (nI x)), (1, .int (nI (t.length + 4))), (2, .ref v)]) (pc := 1) C dJ6_getChars_ba4f3_1 (by decide) rfl ?_
  refine J_iload_n (pc := 3) C dJ6_getChars_ba4f3_3 1 rfl ?_
  refine J_if_ge (α := Unit) (o := ()) (X := some ()) (Y := none) (pc := 4) (tgt := 11) C dJ6_getChars_ba4f3_4 (by decide) (if_pos (nI_pos' (by omega))) (fun _ => ?_) (fun h => by cases h)
  refine J_iconst (v := (0 : Int32)) (pc := 11) C dJ6_getChars_ba4f3_11 (by decide) ?_
  refine J_istore (lv2 := [(6, .int (0 : Int32)), (5, .int (nI (t.length + 4))), (0, .int (nI x)), (1, .int (nI (t.length + 4))), (2, .ref v)]) (pc := 12) C dJ6_getChars_ba4f3_12 (by decide) rfl ?_
  refine J_iload (pc := 14) C dJ6_getChars_ba4f3_14 0 rfl ?_
  refine J_if_ne (α := Unit) (o := ()) (X := some ()) (Y := none) (pc := 16) (tgt := 22) C dJ6_getChars_ba4f3_16 (by decide) (if_pos rfl) (fun h => by cases h) (fun _ => ?_)
  refine J_iload_n (pc := 19) C dJ6_getChars_ba4f3_19 2 rfl ?_
  refine J_ineg (pc := 20) C dJ6_getChars_ba4f3_20 ?_
  refine J_istore_n (lv2 := [(0, .int (-(nI x))), (6, .int (0 : Int32)), (5, .int (nI (t.length + 4))), (1, .int (nI (t.length + 4))), (2, .ref v)]) (pc := 21) C dJ6_getChars_ba4f3_21 (by decide) rfl ?_
  refine J_iload_n (pc := 22) C dJ6_getChars_ba4f3_22 0 rfl ?_
  refine J_bipush (v := (-100 : Int32)) (pc := 23) C dJ6_getChars_ba4f3_23 (by decide) ?_
  refine J_ic_gt (α := Unit) (o := ()) (X := none) (Y := some ()) (pc := 25) (tgt := 72) C dJ6_getChars_ba4f3_25 (by decide) (if_neg (fun z => by have := (neg_gt (n := 100) (by omega) (by decide)).mp z; omega)) (fun h => by cases h) (fun _ => ?_)
  refine J_iload_n (pc := 28) C dJ6_getChars_ba4f3_28 0 rfl ?_
  refine J_bipush (v := (100 : Int32)) (pc := 29) C dJ6_getChars_ba4f3_29 (by decide) ?_
  refine J_idiv (α := Unit) (o := ()) (X := some ()) (pc := 31) C dJ6_getChars_ba4f3_31 (if_neg (by decide)) (fun _ => ?_)
  refine J_top (α := Unit) (X := none) (-nI (x / 100)) (neg_div0 (by omega)) ?_
  refine J_istore_n (lv2 := [(3, .int (-nI (x / 100))), (0, .int (-(nI x))), (6, .int (0 : Int32)), (5, .int (nI (t.length + 4))), (1, .int (nI (t.length + 4))), (2, .ref v)]) (pc := 32) C dJ6_getChars_ba4f3_32 (by decide) rfl ?_
  refine J_iload_n (pc := 33) C dJ6_getChars_ba4f3_33 0 rfl ?_
  refine J_bipush (v := (100 : Int32)) (pc := 34) C dJ6_getChars_ba4f3_34 (by decide) ?_
  refine J_imul (pc := 36) C dJ6_getChars_ba4f3_36 ?_
  refine J_iload_n (pc := 37) C dJ6_getChars_ba4f3_37 1 rfl ?_
  refine J_isub (pc := 38) C dJ6_getChars_ba4f3_38 ?_
  refine J_top (α := Unit) (X := none) (nI (x % 100)) (neg_rem0 (by omega)) ?_
  refine J_istore (lv2 := [(4, .int (nI (x % 100))), (3, .int (-nI (x / 100))), (0, .int (-(nI x))), (6, .int (0 : Int32)), (5, .int (nI (t.length + 4))), (1, .int (nI (t.length + 4))), (2, .ref v)]) (pc := 39) C dJ6_getChars_ba4f3_39 (by decide) rfl ?_
  refine J_iload_n (pc := 41) C dJ6_getChars_ba4f3_41 1 rfl ?_
  refine J_istore_n (lv2 := [(0, .int (-nI (x / 100))), (4, .int (nI (x % 100))), (3, .int (-nI (x / 100))), (6, .int (0 : Int32)), (5, .int (nI (t.length + 4))), (1, .int (nI (t.length + 4))), (2, .ref v)]) (pc := 42) C dJ6_getChars_ba4f3_42 (by decide) rfl ?_
  refine J_aload_n (pc := 43) C dJ6_getChars_ba4f3_43 6 rfl ?_
  refine J_iincK (v := (-1 : Int32)) (x2 := nI (t.length + 3)) (lv2 := [(5, .int (nI (t.length + 3))), (0, .int (-nI (x / 100))), (4, .int (nI (x % 100))), (3, .int (-nI (x / 100))), (6, .int (0 : Int32)), (1, .int (nI (t.length + 4))), (2, .ref v)]) (pc := 44) C dJ6_getChars_ba4f3_44 4 rfl (by decide) (dec1 _) (by decide) rfl ?_
  refine J_iload (pc := 47) C dJ6_getChars_ba4f3_47 0 rfl ?_
  refine J_dig (pc := 49) C dJ6_getChars_ba4f3_49 fl_RJ6_83 ?_
  refine J_iload (pc := 52) C dJ6_getChars_ba4f3_52 2 rfl ?_
  refine J_digAt (x := (x % 100)) (pc := 54) C (by omega) dJ6_getChars_ba4f3_54 ?_
  refine J_bast (α := Unit) (o := ()) (X := some ()) (pc := 55) C dJ6_getChars_ba4f3_55 0 1 rfl rfl (if_neg (in_row (by omega) hc)) (fun _ => ?_)
  refine J_ws (ws2 := [(v, .inl (cB, cap, .inl (upd (bN t) (t.length + 3) (nI (48 + x % 100 % 10)))))]) (by rw [st_dig (by omega) (by omega)]; rfl) ?_
  refine J_aload_n (pc := 56) C dJ6_getChars_ba4f3_56 6 rfl ?_
  refine J_iincK (v := (-1 : Int32)) (x2 := nI (t.length + 2)) (lv2 := [(5, .int (nI (t.length + 2))), (0, .int (-nI (x / 100))), (4, .int (nI (x % 100))), (3, .int (-nI (x / 100))), (6, .int (0 : Int32)), (1, .int (nI (t.length + 4))), (2, .ref v)]) (pc := 57) C dJ6_getChars_ba4f3_57 0 rfl (by decide) (dec1 _) (by decide) rfl ?_
  refine J_iload (pc := 60) C dJ6_getChars_ba4f3_60 0 rfl ?_
  refine J_digT (pc := 62) C dJ6_getChars_ba4f3_62 fl_RJ6_87 ?_
  refine J_iload (pc := 65) C dJ6_getChars_ba4f3_65 2 rfl ?_
  refine J_digTAt (x := (x % 100)) (pc := 67) C (by omega) dJ6_getChars_ba4f3_67 ?_
  refine J_bast (α := Unit) (o := ()) (X := some ()) (pc := 68) C dJ6_getChars_ba4f3_68 0 1 rfl rfl (if_neg (in_row (by omega) hc)) (fun _ => ?_)
  refine J_ws (ws2 := [(v, .inl (cB, cap, .inl (upd (upd (bN t) (t.length + 3) (nI (48 + x % 100 % 10))) (t.length + 2) (nI (48 + x % 100 / 10)))))]) (by rw [st_dig (by omega) (by omega)]; rfl) ?_
  refine J_goto (tgt := 22) (pc := 69) C dJ6_getChars_ba4f3_69 (by decide) ?_
  refine J_iload_n (pc := 22) C dJ6_getChars_ba4f3_22 1 rfl ?_
  refine J_bipush (v := (-100 : Int32)) (pc := 23) C dJ6_getChars_ba4f3_23 (by decide) ?_
  refine J_ic_gt (α := Unit) (o := ()) (X := some ()) (Y := none) (pc := 25) (tgt := 72) C dJ6_getChars_ba4f3_25 (by decide) (if_pos ((neg_gt (n := 100) (by omega) (by decide)).mpr (by omega))) (fun _ => ?_) (fun h => by cases h)
  refine J_aload_n (pc := 72) C dJ6_getChars_ba4f3_72 6 rfl ?_
  refine J_iincK (v := (-1 : Int32)) (x2 := nI (t.length + 1)) (lv2 := [(5, .int (nI (t.length + 1))), (0, .int (-nI (x / 100))), (4, .int (nI (x % 100))), (3, .int (-nI (x / 100))), (6, .int (0 : Int32)), (1, .int (nI (t.length + 4))), (2, .ref v)]) (pc := 73) C dJ6_getChars_ba4f3_73 0 rfl (by decide) (dec1 _) (by decide) rfl ?_
  refine J_iload (pc := 76) C dJ6_getChars_ba4f3_76 0 rfl ?_
  refine J_dig (pc := 78) C dJ6_getChars_ba4f3_78 fl_RJ6_83 ?_
  refine J_iload_n (pc := 81) C dJ6_getChars_ba4f3_81 1 rfl ?_
  refine J_ineg (pc := 82) C dJ6_getChars_ba4f3_82 ?_
  refine J_top (α := Unit) (X := none) (nI (x / 100)) (neg_neg' _) ?_
  refine J_digAt (x := (x / 100)) (pc := 83) C (by omega) dJ6_getChars_ba4f3_83 ?_
  refine J_bast (α := Unit) (o := ()) (X := some ()) (pc := 84) C dJ6_getChars_ba4f3_84 0 1 rfl rfl (if_neg (in_row (by omega) hc)) (fun _ => ?_)
  refine J_ws (ws2 := [(v, .inl (cB, cap, .inl (upd (upd (upd (bN t) (t.length + 3) (nI (48 + x % 100 % 10))) (t.length + 2) (nI (48 + x % 100 / 10))) (t.length + 1) (nI (48 + x / 100 % 10)))))]) (by rw [st_dig (by omega) (by omega)]; rfl) ?_
  refine J_iload_n (pc := 85) C dJ6_getChars_ba4f3_85 1 rfl ?_
  refine J_bipush (v := (-9 : Int32)) (pc := 86) C dJ6_getChars_ba4f3_86 (by decide) ?_
  refine J_ic_ge (α := Unit) (o := ()) (X := none) (Y := some ()) (pc := 88) (tgt := 104) C dJ6_getChars_ba4f3_88 (by decide) (if_neg (fun z => by have := (neg_ge (n := 9) (by omega) (by decide)).mp z; omega)) (fun h => by cases h) (fun _ => ?_)
  refine J_aload_n (pc := 91) C dJ6_getChars_ba4f3_91 6 rfl ?_
  refine J_iincK (v := (-1 : Int32)) (x2 := nI t.length) (lv2 := [(5, .int (nI t.length)), (0, .int (-nI (x / 100))), (4, .int (nI (x % 100))), (3, .int (-nI (x / 100))), (6, .int (0 : Int32)), (1, .int (nI (t.length + 4))), (2, .ref v)]) (pc := 92) C dJ6_getChars_ba4f3_92 0 rfl (by decide) (dec1 _) (by decide) rfl ?_
  refine J_iload (pc := 95) C dJ6_getChars_ba4f3_95 0 rfl ?_
  refine J_digT (pc := 97) C dJ6_getChars_ba4f3_97 fl_RJ6_87 ?_
  refine J_iload_n (pc := 100) C dJ6_getChars_ba4f3_100 1 rfl ?_
  refine J_ineg (pc := 101) C dJ6_getChars_ba4f3_101 ?_
  refine J_top (α := Unit) (X := none) (nI (x / 100)) (neg_neg' _) ?_
  refine J_digTAt (x := (x / 100)) (pc := 102) C (by omega) dJ6_getChars_ba4f3_102 ?_
  refine J_bast (α := Unit) (o := ()) (X := some ()) (pc := 103) C dJ6_getChars_ba4f3_103 0 1 rfl rfl (if_neg (in_row (by omega) hc)) (fun _ => ?_)
  refine J_ws (ws2 := [(v, .inl (cB, cap, .inl (bN (t ++ dg x))))]) (by rw [st_dig (by omega) (by omega), up4, ← dg_4 h1]; rfl) ?_
  refine J_iload (pc := 104) C dJ6_getChars_ba4f3_104 4 rfl ?_
  refine J_if_eq (α := Unit) (o := ()) (X := some ()) (Y := none) (pc := 106) (tgt := 118) C dJ6_getChars_ba4f3_106 (by decide) (if_pos rfl) (fun _ => ?_) (fun h => by cases h)
  refine J_iload (pc := 118) C dJ6_getChars_ba4f3_118 0 rfl ?_
  refine J_widen (k2 := 0) (n2 := 0) (by first | exact Nat.le_of_ble_eq_true rfl | omega | (dsimp only; omega)) (by first | exact Nat.le_of_ble_eq_true rfl | omega | (dsimp only; omega)) ?_
  exact J_iret (pc := 120) C dJ6_getChars_ba4f3_120 hr ⟨rfl, rfl⟩

set_option maxHeartbeats 4000000 in
set_option maxRecDepth 100000 in
theorem c_getC (l : Launch) (D : va_G) (cI cB cL cO : ClassId) (pf : Nat → Nat) (x : Nat) (hx : x < 10000) (v cap : Nat) (t : List Nat) (hf : (t ++ dg x).length ≤ cap) (hc : cap ≤ 4096) : Ct l D [(cI, .int), (cB, .byte), (cL, .byte), (cO, .object RX0)] pf yJ6_getChars_ba4f3 cJ6_getChars_ba4f3 7 (some FieldType.int) { frames := 0, cells := 0, slots := 0, locals := 0 } [.int (nI x), .int (nI (t ++ dg x).length), .ref v] [(v, .inl (cB, cap, .inl (bN t)))] (is1 (some (.int (nI t.length))) [(v, .inl (cB, cap, .inl (bN (t ++ dg x))))]) := by
  rw [List.length_append] at hf ⊢
  have hd : x < 10 ∨ (¬ x < 10 ∧ x < 100) ∨ (¬ x < 100 ∧ x < 1000) ∨ ¬ x < 1000 := by omega
  rcases hd with h1 | ⟨h1, h2⟩ | ⟨h1, h2⟩ | h1
  · have e : (dg x).length = 1 := by rw [dg_1 h1]; rfl
    rw [e] at hf ⊢
    exact c_getC1 l D cI cB cL cO pf x h1 v cap t hf hc
  · have e : (dg x).length = 2 := by rw [dg_2 h1 h2]; rfl
    rw [e] at hf ⊢
    exact c_getC2 l D cI cB cL cO pf x h1 h2 v cap t hf hc
  · have e : (dg x).length = 3 := by rw [dg_3 h1 h2]; rfl
    rw [e] at hf ⊢
    exact c_getC3 l D cI cB cL cO pf x h1 h2 v cap t hf hc
  · have e : (dg x).length = 4 := by rw [dg_4 h1]; rfl
    rw [e] at hf ⊢
    exact c_getC4 l D cI cB cL cO pf x h1 hx v cap t hf hc

theorem dJ5_append_c97b9_0 : decode cJ5_append_c97b9 0 = .ok (.aload_n 0, 1) := by decide +kernel
theorem dJ5_append_c97b9_1 : decode cJ5_append_c97b9 1 = .ok (.getfield 79, 3) := by decide +kernel
theorem dJ5_append_c97b9_4 : decode cJ5_append_c97b9 4 = .ok (.istore_n 2, 1) := by decide +kernel
theorem dJ5_append_c97b9_5 : decode cJ5_append_c97b9 5 = .ok (.iload_n 2, 1) := by decide +kernel
theorem dJ5_append_c97b9_6 : decode cJ5_append_c97b9 6 = .ok (.iload_n 1, 1) := by decide +kernel
theorem dJ5_append_c97b9_7 : decode cJ5_append_c97b9 7 = .ok (.invokestatic 245, 3) := by decide +kernel
theorem dJ5_append_c97b9_10 : decode cJ5_append_c97b9 10 = .ok (.iadd, 1) := by decide +kernel
theorem dJ5_append_c97b9_11 : decode cJ5_append_c97b9 11 = .ok (.istore_n 3, 1) := by decide +kernel
theorem dJ5_append_c97b9_12 : decode cJ5_append_c97b9 12 = .ok (.aload_n 0, 1) := by decide +kernel
theorem dJ5_append_c97b9_13 : decode cJ5_append_c97b9 13 = .ok (.iload_n 3, 1) := by decide +kernel
theorem dJ5_append_c97b9_14 : decode cJ5_append_c97b9 14 = .ok (.invokevirtual 100, 3) := by decide +kernel
theorem dJ5_append_c97b9_17 : decode cJ5_append_c97b9 17 = .ok (.aload_n 0, 1) := by decide +kernel
theorem dJ5_append_c97b9_18 : decode cJ5_append_c97b9 18 = .ok (.invokevirtual 83, 3) := by decide +kernel
theorem dJ5_append_c97b9_21 : decode cJ5_append_c97b9 21 = .ok (.ifCond .eq 16, 3) := by decide +kernel
theorem dJ5_append_c97b9_24 : decode cJ5_append_c97b9 24 = .ok (.iload_n 1, 1) := by decide +kernel
theorem dJ5_append_c97b9_25 : decode cJ5_append_c97b9 25 = .ok (.iload_n 3, 1) := by decide +kernel
theorem dJ5_append_c97b9_26 : decode cJ5_append_c97b9 26 = .ok (.aload_n 0, 1) := by decide +kernel
theorem dJ5_append_c97b9_27 : decode cJ5_append_c97b9 27 = .ok (.getfield 15, 3) := by decide +kernel
theorem dJ5_append_c97b9_30 : decode cJ5_append_c97b9 30 = .ok (.invokestatic 248, 3) := by decide +kernel
theorem dJ5_append_c97b9_33 : decode cJ5_append_c97b9 33 = .ok (.pop, 1) := by decide +kernel
theorem dJ5_append_c97b9_34 : decode cJ5_append_c97b9 34 = .ok (.goto 14, 3) := by decide +kernel
theorem dJ5_append_c97b9_37 : decode cJ5_append_c97b9 37 = .ok (.iload_n 1, 1) := by decide +kernel
theorem dJ5_append_c97b9_38 : decode cJ5_append_c97b9 38 = .ok (.iload_n 2, 1) := by decide +kernel
theorem dJ5_append_c97b9_39 : decode cJ5_append_c97b9 39 = .ok (.iload_n 3, 1) := by decide +kernel
theorem dJ5_append_c97b9_40 : decode cJ5_append_c97b9 40 = .ok (.aload_n 0, 1) := by decide +kernel
theorem dJ5_append_c97b9_41 : decode cJ5_append_c97b9 41 = .ok (.getfield 15, 3) := by decide +kernel
theorem dJ5_append_c97b9_44 : decode cJ5_append_c97b9 44 = .ok (.invokestatic 251, 3) := by decide +kernel
theorem dJ5_append_c97b9_47 : decode cJ5_append_c97b9 47 = .ok (.pop, 1) := by decide +kernel
theorem dJ5_append_c97b9_48 : decode cJ5_append_c97b9 48 = .ok (.aload_n 0, 1) := by decide +kernel
theorem dJ5_append_c97b9_49 : decode cJ5_append_c97b9 49 = .ok (.iload_n 3, 1) := by decide +kernel
theorem dJ5_append_c97b9_50 : decode cJ5_append_c97b9 50 = .ok (.putfield 79, 3) := by decide +kernel
theorem dJ5_append_c97b9_53 : decode cJ5_append_c97b9 53 = .ok (.aload_n 0, 1) := by decide +kernel
theorem dJ5_append_c97b9_54 : decode cJ5_append_c97b9 54 = .ok (.areturn, 1) := by decide +kernel

set_option maxHeartbeats 4000000 in
set_option maxRecDepth 100000 in
theorem c_appI (l : Launch) (D : va_G) (cI cB cL cO : ClassId) (pf : Nat → Nat) (a v cap : Nat) (t : List Nat) (x : Nat) (hx : x < 10000) (ht : AS t) (hl : t.length ≤ cap) (hc : cap ≤ 4096) (hn : t.length + 4 ≤ 1000) : Ct l D [(cI, .int), (cB, .byte), (cL, .byte), (cO, .object RX0)] pf yJ5_append_c97b9 cJ5_append_c97b9 4 (some (FieldType.object "java/lang/AbstractStringBuilder")) { frames := 4, cells := 1, slots := 4096, locals := 104 } [.ref a, .int (nI x)] [(a, .inr (12, [.ref v, .int 0, .int 0, .int (nI t.length)])), (v, .inl (cB, cap, .inl (bN t)))] (fun V w => V = some (.ref a) ∧ ∃ v1 cap1, w = [(a, .inr (12, [.ref v1, .int 0, .int 0, .int (nI (t ++ dg x).length)])), (v1, .inl (cB, cap1, .inl (bN (t ++ dg x))))] ∧ (t ++ dg x).length ≤ cap1 ∧ cap1 ≤ 4096) := by
  refine Ct_of (own := RJ5) (lv0 := [(0, .ref a), (1, .int (nI x))]) (by decide) rfl rfl (Nat.le_of_ble_eq_true rfl) ?_
  intro pZ eZ sZ mZ argsZ belowZ methZ cZ C hr hnm
  refine J_aload_n (pc := 0) C dJ5_append_c97b9_0 0 rfl ?_
  refine J_getA (pc := 1) C dJ5_append_c97b9_1 jf_J4 0 rfl rfl 3 (by decide) fl_RJ5_79 rfl ?_
  refine J_istore_n (lv2 := [(2, .int (nI t.length)), (0, .ref a), (1, .int (nI x))]) (pc := 4) C dJ5_append_c97b9_4 (by decide) rfl ?_
  refine J_iload_n (pc := 5) C dJ5_append_c97b9_5 0 rfl ?_
  refine J_iload_n (pc := 6) C dJ5_append_c97b9_6 2 rfl ?_
  refine J_csF (b := 0) (As := [.int (nI x)]) (st := [.int (nI t.length)]) (pc := 7) C dJ5_append_c97b9_7 ml_RJ5_245 mi_yJ6_stringSize_0f7a4 (c_ssz l D cI cB cL cO pf x hx) [(a, .inr (12, [.ref v, .int 0, .int 0, .int (nI t.length)])), (v, .inl (cB, cap, .inl (bN t)))] (permN [] [0, 1] 2 rfl rfl rfl (by decide)) rfl ⟨(Nat.le_of_ble_eq_true rfl), (Nat.le_of_ble_eq_true rfl)⟩ ⟨(by first | exact Nat.le_of_ble_eq_true rfl | omega | (dsimp only; omega)), (by first | exact Nat.le_of_ble_eq_true rfl | omega | (dsimp only; omega))⟩ (Nat.le_of_ble_eq_true rfl) ?_
  rintro v w1 ⟨rfl, rfl⟩
  refine J_ws (ws2 := [(a, .inr (12, [.ref v, .int 0, .int 0, .int (nI t.length)])), (v, .inl (cB, cap, .inl (bN t)))]) rfl ?_
  refine J_iadd (pc := 10) C dJ5_append_c97b9_10 ?_
  refine J_top (α := Unit) (X := none) (nI (t ++ dg x).length) (by rw [nI_add, List.length_append]) ?_
  refine J_istore_n (lv2 := [(3, .int (nI (t ++ dg x).length)), (2, .int (nI t.length)), (0, .ref a), (1, .int (nI x))]) (pc := 11) C dJ5_append_c97b9_11 (by decide) rfl ?_
  refine J_aload_n (pc := 12) C dJ5_append_c97b9_12 2 rfl ?_
  refine J_iload_n (pc := 13) C dJ5_append_c97b9_13 0 rfl ?_
  refine J_cuF (C2 := RJ4) (As := [.int (nI (t ++ dg x).length)]) (st := []) (pc := 14) C dJ5_append_c97b9_14 ml_RJ5_100 se_yJ5_ensureCapacityInternal_d00df mu_yJ5_ensureCapacityInternal_d00df (c_ens l D cI cB cL cO pf a v cap (t ++ dg x).length (nI t.length) t ht hl hc (by rw [List.length_append]; have := dg_len x; omega)) [] (permN [0, 1] [] 2 rfl rfl rfl (by decide)) (q0 := 0) rfl rfl rfl ⟨(Nat.le_of_ble_eq_true rfl), (Nat.le_of_ble_eq_true rfl)⟩ ⟨(by first | exact Nat.le_of_ble_eq_true rfl | omega | (dsimp only; omega)), (by first | exact Nat.le_of_ble_eq_true rfl | omega | (dsimp only; omega))⟩ (Nat.le_of_ble_eq_true rfl) ?_
  rintro v w1 ⟨rfl, v1, cap1, rfl, g1, g2, g3⟩
  refine J_ws (ws2 := [(a, .inr (12, [.ref v1, .int 0, .int 0, .int (nI t.length)])), (v1, .inl (cB, cap1, .inl (bN t)))]) rfl ?_
  refine J_aload_n (pc := 17) C dJ5_append_c97b9_17 2 rfl ?_
  refine J_cuF (C2 := RJ4) (As := []) (st := []) (pc := 18) C dJ5_append_c97b9_18 ml_RJ5_83 se_yJ5_isLatin1_aae02 mu_yJ5_isLatin1_aae02 (c_isL l D cI cB cL cO pf a v1 (nI t.length)) [(v1, .inl (cB, cap1, .inl (bN t)))] (permN [0] [1] 2 rfl rfl rfl (by decide)) (q0 := 0) rfl rfl rfl ⟨(Nat.le_of_ble_eq_true rfl), (Nat.le_of_ble_eq_true rfl)⟩ ⟨(by first | exact Nat.le_of_ble_eq_true rfl | omega | (dsimp only; omega)), (by first | exact Nat.le_of_ble_eq_true rfl | omega | (dsimp only; omega))⟩ (Nat.le_of_ble_eq_true rfl) ?_
  rintro v w1 ⟨rfl, rfl⟩
  refine J_ws (ws2 := [(a, .inr (12, [.ref v1, .int 0, .int 0, .int (nI t.length)])), (v1, .inl (cB, cap1, .inl (bN t)))]) rfl ?_
  refine J_if_eq (α := Unit) (o := ()) (X := none) (Y := some ()) (pc := 21) (tgt := 37) C dJ5_append_c97b9_21 (by decide) (if_neg (by decide)) (fun h => by cases h) (fun _ => ?_)
  refine J_iload_n (pc := 24) C dJ5_append_c97b9_24 3 rfl ?_
  refine J_iload_n (pc := 25) C dJ5_append_c97b9_25 0 rfl ?_
  refine J_aload_n (pc := 26) C dJ5_append_c97b9_26 2 rfl ?_
  refine J_getA (pc := 27) C dJ5_append_c97b9_27 jf_J4 0 rfl rfl 0 (by decide) fl_RJ5_15 rfl ?_
  refine J_csF (b := 0) (As := [.int (nI x), .int (nI (t ++ dg x).length), .ref v1]) (st := []) (pc := 30) C dJ5_append_c97b9_30 ml_RJ5_248 mi_yJ6_getChars_ba4f3 (c_getC l D cI cB cL cO pf x hx v1 cap1 t g1 g3) [(a, .inr (12, [.ref v1, .int 0, .int 0, .int (nI t.length)]))] (permN [1] [0] 2 rfl rfl rfl (by decide)) rfl ⟨(Nat.le_of_ble_eq_true rfl), (Nat.le_of_ble_eq_true rfl)⟩ ⟨(by first | exact Nat.le_of_ble_eq_true rfl | omega | (dsimp only; omega)), (by first | exact Nat.le_of_ble_eq_true rfl | omega | (dsimp only; omega))⟩ (Nat.le_of_ble_eq_true rfl) ?_
  rintro v w1 ⟨rfl, rfl⟩
  refine J_ws (ws2 := [(v1, .inl (cB, cap1, .inl (bN (t ++ dg x)))), (a, .inr (12, [.ref v1, .int 0, .int 0, .int (nI t.length)]))]) rfl ?_
  refine J_drop (ws2 := [(a, .inr (12, [.ref v1, .int 0, .int 0, .int (nI t.length)])), (v1, .inl (cB, cap1, .inl (bN (t ++ dg x))))]) (Wr := []) (permN [1, 0] [] 2 rfl rfl rfl (by decide)) ?_
  refine J_popi (pc := 33) C dJ5_append_c97b9_33 ?_
  refine J_goto (tgt := 48) (pc := 34) C dJ5_append_c97b9_34 (by decide) ?_
  refine J_aload_n (pc := 48) C dJ5_append_c97b9_48 2 rfl ?_
  refine J_iload_n (pc := 49) C dJ5_append_c97b9_49 0 rfl ?_
  refine J_putA (tt := .int) (pc := 50) C dJ5_append_c97b9_50 jf_J4 0 rfl rfl 3 (by decide) fl_RJ5_79 rfl (by decide +kernel) rfl rfl (Nat.le_of_ble_eq_true rfl) ?_
  refine J_ws (ws2 := [(a, .inr (12, [.ref v1, .int 0, .int 0, .int (nI (t ++ dg x).length)])), (v1, .inl (cB, cap1, .inl (bN (t ++ dg x))))]) rfl ?_
  refine J_aload_n (pc := 53) C dJ5_append_c97b9_53 2 rfl ?_
  refine J_widen (k2 := 1) (n2 := 4096) (by first | exact Nat.le_of_ble_eq_true rfl | omega | (dsimp only; omega)) (by first | exact Nat.le_of_ble_eq_true rfl | omega | (dsimp only; omega)) ?_
  exact J_aret (pc := 54) C dJ5_append_c97b9_54 hr (by first | exact Or.inl ⟨_, rfl⟩ | exact Or.inr ⟨_, rfl⟩) (Or.inr ⟨_, rfl⟩) ⟨rfl, v1, cap1, rfl, g1, g3⟩

theorem dJ4_append_bf812_0 : decode cJ4_append_bf812 0 = .ok (.aload_n 0, 1) := by decide +kernel
theorem dJ4_append_bf812_1 : decode cJ4_append_bf812 1 = .ok (.iload_n 1, 1) := by decide +kernel
theorem dJ4_append_bf812_2 : decode cJ4_append_bf812 2 = .ok (.invokespecial 53, 3) := by decide +kernel
theorem dJ4_append_bf812_5 : decode cJ4_append_bf812 5 = .ok (.pop, 1) := by decide +kernel
theorem dJ4_append_bf812_6 : decode cJ4_append_bf812 6 = .ok (.aload_n 0, 1) := by decide +kernel
theorem dJ4_append_bf812_7 : decode cJ4_append_bf812 7 = .ok (.areturn, 1) := by decide +kernel

set_option maxHeartbeats 4000000 in
set_option maxRecDepth 100000 in
theorem c_SBI (l : Launch) (D : va_G) (cI cB cL cO : ClassId) (pf : Nat → Nat) (a v cap : Nat) (t : List Nat) (x : Nat) (hx : x < 10000) (ht : AS t) (hl : t.length ≤ cap) (hc : cap ≤ 4096) (hn : t.length + 4 ≤ 1000) : Ct l D [(cI, .int), (cB, .byte), (cL, .byte), (cO, .object RX0)] pf yJ4_append_bf812 cJ4_append_bf812 2 (some (FieldType.object "java/lang/StringBuilder")) { frames := 5, cells := 1, slots := 4096, locals := 127 } [.ref a, .int (nI x)] [(a, .inr (12, [.ref v, .int 0, .int 0, .int (nI t.length)])), (v, .inl (cB, cap, .inl (bN t)))] (fun V w => V = some (.ref a) ∧ ∃ v1 cap1, w = [(a, .inr (12, [.ref v1, .int 0, .int 0, .int (nI (t ++ dg x).length)])), (v1, .inl (cB, cap1, .inl (bN (t ++ dg x))))] ∧ (t ++ dg x).length ≤ cap1 ∧ cap1 ≤ 4096) := by
  refine Ct_of (own := RJ4) (lv0 := [(0, .ref a), (1, .int (nI x))]) (by decide) rfl rfl (Nat.le_of_ble_eq_true rfl) ?_
  intro pZ eZ sZ mZ argsZ belowZ methZ cZ C hr hnm
  refine J_aload_n (pc := 0) C dJ4_append_bf812_0 0 rfl ?_
  refine J_iload_n (pc := 1) C dJ4_append_bf812_1 1 rfl ?_
  refine J_spF (As := [.int (nI x)]) (st := []) (pc := 2) C dJ4_append_bf812_2 ml_RJ4_53 w_sup mu_yJ5_append_c97b9 (c_appI l D cI cB cL cO pf a v cap t x hx ht hl hc hn) [] (permN [0, 1] [] 2 rfl rfl rfl (by decide)) (q0 := 0) rfl rfl rfl ⟨(Nat.le_of_ble_eq_true rfl), (Nat.le_of_ble_eq_true rfl)⟩ ⟨(by first | exact Nat.le_of_ble_eq_true rfl | omega | (dsimp only; omega)), (by first | exact Nat.le_of_ble_eq_true rfl | omega | (dsimp only; omega))⟩ (Nat.le_of_ble_eq_true rfl) ?_
  rintro v w1 ⟨rfl, v1, cap1, rfl, g1, g3⟩
  refine J_ws (ws2 := [(a, .inr (12, [.ref v1, .int 0, .int 0, .int (nI (t ++ dg x).length)])), (v1, .inl (cB, cap1, .inl (bN (t ++ dg x))))]) rfl ?_
  refine J_popr (pc := 5) C dJ4_append_bf812_5 ?_
  refine J_aload_n (pc := 6) C dJ4_append_bf812_6 0 rfl ?_
  refine J_widen (k2 := 1) (n2 := 4096) (by first | exact Nat.le_of_ble_eq_true rfl | omega | (dsimp only; omega)) (by first | exact Nat.le_of_ble_eq_true rfl | omega | (dsimp only; omega)) ?_
  exact J_aret (pc := 7) C dJ4_append_bf812_7 hr (by first | exact Or.inl ⟨_, rfl⟩ | exact Or.inr ⟨_, rfl⟩) (Or.inr ⟨_, rfl⟩) ⟨rfl, v1, cap1, rfl, g1, g3⟩

theorem dJ5_init_d00df_0 : decode cJ5_init_d00df 0 = .ok (.aload_n 0, 1) := by decide +kernel
theorem dJ5_init_d00df_1 : decode cJ5_init_d00df 1 = .ok (.invokespecial 3, 3) := by decide +kernel
theorem dJ5_init_d00df_4 : decode cJ5_init_d00df 4 = .ok (.getstatic 18, 3) := by decide +kernel
theorem dJ5_init_d00df_7 : decode cJ5_init_d00df 7 = .ok (.ifCond .eq 18, 3) := by decide +kernel
theorem dJ5_init_d00df_10 : decode cJ5_init_d00df 10 = .ok (.aload_n 0, 1) := by decide +kernel
theorem dJ5_init_d00df_11 : decode cJ5_init_d00df 11 = .ok (.iload_n 1, 1) := by decide +kernel
theorem dJ5_init_d00df_12 : decode cJ5_init_d00df 12 = .ok (.newarray .byte, 2) := by decide +kernel
theorem dJ5_init_d00df_14 : decode cJ5_init_d00df 14 = .ok (.putfield 15, 3) := by decide +kernel
theorem dJ5_init_d00df_17 : decode cJ5_init_d00df 17 = .ok (.aload_n 0, 1) := by decide +kernel
theorem dJ5_init_d00df_18 : decode cJ5_init_d00df 18 = .ok (.iconst 0, 1) := by decide +kernel
theorem dJ5_init_d00df_19 : decode cJ5_init_d00df 19 = .ok (.putfield 22, 3) := by decide +kernel
theorem dJ5_init_d00df_22 : decode cJ5_init_d00df 22 = .ok (.goto 16, 3) := by decide +kernel
theorem dJ5_init_d00df_25 : decode cJ5_init_d00df 25 = .ok (.aload_n 0, 1) := by decide +kernel
theorem dJ5_init_d00df_26 : decode cJ5_init_d00df 26 = .ok (.iload_n 1, 1) := by decide +kernel
theorem dJ5_init_d00df_27 : decode cJ5_init_d00df 27 = .ok (.invokestatic 26, 3) := by decide +kernel
theorem dJ5_init_d00df_30 : decode cJ5_init_d00df 30 = .ok (.putfield 15, 3) := by decide +kernel
theorem dJ5_init_d00df_33 : decode cJ5_init_d00df 33 = .ok (.aload_n 0, 1) := by decide +kernel
theorem dJ5_init_d00df_34 : decode cJ5_init_d00df 34 = .ok (.iconst 1, 1) := by decide +kernel
theorem dJ5_init_d00df_35 : decode cJ5_init_d00df 35 = .ok (.putfield 22, 3) := by decide +kernel
theorem dJ5_init_d00df_38 : decode cJ5_init_d00df 38 = .ok (.return_, 1) := by decide +kernel

set_option maxHeartbeats 4000000 in
set_option maxRecDepth 100000 in
theorem c_ASBi (l : Launch) (D : va_G) (cI cB cL cO : ClassId) (pf : Nat → Nat) (a : Nat) : Ct l D [(cI, .int), (cB, .byte), (cL, .byte), (cO, .object RX0)] pf yJ5_init_d00df cJ5_init_d00df 2 (none : Option FieldType) { frames := 1, cells := 1, slots := 16, locals := 20 } [.ref a, .int 16] [(a, .inr (12, [.null, .int 0, .int 0, .int 0]))] (fun V w => V = none ∧ ∃ v, w = [(a, .inr (12, [.ref v, .int 0, .int 0, .int (nI ([] : List Nat).length)])), (v, .inl (cB, 16, .inl (bN ([] : List Nat))))]) := by
  refine Ct_of (own := RJ5) (lv0 := [(0, .ref a), (1, .int 16)]) (by decide) rfl rfl (Nat.le_of_ble_eq_true rfl) ?_
  intro pZ eZ sZ mZ argsZ belowZ methZ cZ C hr hnm
  refine J_aload_n (pc := 0) C dJ5_init_d00df_0 0 rfl ?_
  refine J_objInit (pc := 1) C dJ5_init_d00df_1 ml_RJ5_3 ⟨(Nat.le_of_ble_eq_true rfl), (Nat.le_of_ble_eq_true rfl)⟩ (Nat.le_of_ble_eq_true rfl) ?_
  refine J_gcs (pc := 4) C dJ5_init_d00df_4 fl_RJ5_18 ?_
  refine J_if_eq (α := Unit) (o := ()) (X := none) (Y := some ()) (pc := 7) (tgt := 25) C dJ5_init_d00df_7 (by decide) (if_neg (by decide)) (fun h => by cases h) (fun _ => ?_)
  refine J_aload_n (pc := 10) C dJ5_init_d00df_10 0 rfl ?_
  refine J_iload_n (pc := 11) C dJ5_init_d00df_11 1 rfl ?_
  refine J_newa (atype := .byte) (a0 := (16, .inl (fun _ => 0))) (N := 16) (pc := 12) C dJ5_init_d00df_12 w_arB rfl 1 rfl (by intro C h; cases h) (fun _ => rfl) (by decide) rfl (Nat.le_of_ble_eq_true rfl) ⟨(by first | exact Nat.le_of_ble_eq_true rfl | omega | (dsimp only; omega)), (by first | exact Nat.le_of_ble_eq_true rfl | omega | (dsimp only; omega))⟩ (fun v => ?_)
  refine J_ws (ws2 := [(a, .inr (12, [.null, .int 0, .int 0, .int 0])), (v, .inl (cB, 16, .inl (fun _ => 0)))]) rfl ?_
  refine J_putA (tt := .array .byte) (pc := 14) C dJ5_init_d00df_14 jf_J4 0 rfl rfl 0 (by decide) fl_RJ5_15 rfl (by decide +kernel) rfl rfl (Nat.le_of_ble_eq_true rfl) ?_
  refine J_ws (ws2 := [(a, .inr (12, [.ref v, .int 0, .int 0, .int 0])), (v, .inl (cB, 16, .inl (fun _ => 0)))]) rfl ?_
  refine J_aload_n (pc := 17) C dJ5_init_d00df_17 0 rfl ?_
  refine J_iconst (v := (0 : Int32)) (pc := 18) C dJ5_init_d00df_18 (by decide) ?_
  refine J_putA (tt := .byte) (pc := 19) C dJ5_init_d00df_19 jf_J4 0 rfl rfl 1 (by decide) fl_RJ5_22 rfl (by decide +kernel) (by decide +kernel) (by decide +kernel) (Nat.le_of_ble_eq_true rfl) ?_
  refine J_ws (ws2 := [(a, .inr (12, [.ref v, .int (0 : Int32), .int 0, .int 0])), (v, .inl (cB, 16, .inl (fun _ => 0)))]) rfl ?_
  refine J_goto (tgt := 38) (pc := 22) C dJ5_init_d00df_22 (by decide) ?_
  refine J_widen (k2 := 1) (n2 := 16) (by first | exact Nat.le_of_ble_eq_true rfl | omega | (dsimp only; omega)) (by first | exact Nat.le_of_ble_eq_true rfl | omega | (dsimp only; omega)) ?_
  exact J_vret (pc := 38) C dJ5_init_d00df_38 hr ⟨rfl, v, by rw [bN_nil]; rfl⟩

theorem dJ4_init_da8c8_0 : decode cJ4_init_da8c8 0 = .ok (.aload_n 0, 1) := by decide +kernel
theorem dJ4_init_da8c8_1 : decode cJ4_init_da8c8 1 = .ok (.bipush 16, 2) := by decide +kernel
theorem dJ4_init_da8c8_3 : decode cJ4_init_da8c8 3 = .ok (.invokespecial 1, 3) := by decide +kernel
theorem dJ4_init_da8c8_6 : decode cJ4_init_da8c8 6 = .ok (.return_, 1) := by decide +kernel

set_option maxHeartbeats 4000000 in
set_option maxRecDepth 100000 in
theorem c_SBi (l : Launch) (D : va_G) (cI cB cL cO : ClassId) (pf : Nat → Nat) (a : Nat) : Ct l D [(cI, .int), (cB, .byte), (cL, .byte), (cO, .object RX0)] pf yJ4_init_da8c8 cJ4_init_da8c8 1 (none : Option FieldType) { frames := 2, cells := 1, slots := 16, locals := 41 } [.ref a] [(a, .inr (12, [.null, .int 0, .int 0, .int 0]))] (fun V w => V = none ∧ ∃ v, w = [(a, .inr (12, [.ref v, .int 0, .int 0, .int (nI ([] : List Nat).length)])), (v, .inl (cB, 16, .inl (bN ([] : List Nat))))]) := by
  refine Ct_of (own := RJ4) (lv0 := [(0, .ref a)]) (by decide) rfl rfl (Nat.le_of_ble_eq_true rfl) ?_
  intro pZ eZ sZ mZ argsZ belowZ methZ cZ C hr hnm
  refine J_aload_n (pc := 0) C dJ4_init_da8c8_0 0 rfl ?_
  refine J_bipush (v := (16 : Int32)) (pc := 1) C dJ4_init_da8c8_1 (by decide) ?_
  refine J_ciF (As := [.int (16 : Int32)]) (st := []) (pc := 3) C dJ4_init_da8c8_3 ml_RJ4_1 mi_yJ5_init_d00df (c_ASBi l D cI cB cL cO pf a) [] (permN [0] [] 1 rfl rfl rfl (by decide)) rfl ⟨(Nat.le_of_ble_eq_true rfl), (Nat.le_of_ble_eq_true rfl)⟩ ⟨(by first | exact Nat.le_of_ble_eq_true rfl | omega | (dsimp only; omega)), (by first | exact Nat.le_of_ble_eq_true rfl | omega | (dsimp only; omega))⟩ (Nat.le_of_ble_eq_true rfl) ?_
  rintro v w1 ⟨rfl, v, rfl⟩
  refine J_ws (ws2 := [(a, .inr (12, [.ref v, .int 0, .int 0, .int (nI ([] : List Nat).length)])), (v, .inl (cB, 16, .inl (bN ([] : List Nat))))]) rfl ?_
  refine J_widen (k2 := 1) (n2 := 16) (by first | exact Nat.le_of_ble_eq_true rfl | omega | (dsimp only; omega)) (by first | exact Nat.le_of_ble_eq_true rfl | omega | (dsimp only; omega)) ?_
  exact J_vret (pc := 6) C dJ4_init_da8c8_6 hr ⟨rfl, v, rfl⟩

theorem dJ5_getValue_6d5f1_0 : decode cJ5_getValue_6d5f1 0 = .ok (.aload_n 0, 1) := by decide +kernel
theorem dJ5_getValue_6d5f1_1 : decode cJ5_getValue_6d5f1 1 = .ok (.getfield 15, 3) := by decide +kernel
theorem dJ5_getValue_6d5f1_4 : decode cJ5_getValue_6d5f1 4 = .ok (.areturn, 1) := by decide +kernel

set_option maxHeartbeats 4000000 in
set_option maxRecDepth 100000 in
theorem c_getV (l : Launch) (D : va_G) (cI cB cL cO : ClassId) (pf : Nat → Nat) (a v : Nat) (cnt : Int32) : Ct l D [(cI, .int), (cB, .byte), (cL, .byte), (cO, .object RX0)] pf yJ5_getValue_6d5f1 cJ5_getValue_6d5f1 1 (some (FieldType.array FieldType.byte)) { frames := 0, cells := 0, slots := 0, locals := 0 } [.ref a] [(a, .inr (12, [.ref v, .int 0, .int 0, .int cnt]))] (is1 (some (.ref v)) [(a, .inr (12, [.ref v, .int 0, .int 0, .int cnt]))]) := by
  refine Ct_of (own := RJ5) (lv0 := [(0, .ref a)]) (by decide) rfl rfl (Nat.le_of_ble_eq_true rfl) ?_
  intro pZ eZ sZ mZ argsZ belowZ methZ cZ C hr hnm
  refine J_aload_n (pc := 0) C dJ5_getValue_6d5f1_0 0 rfl ?_
  refine J_getA (pc := 1) C dJ5_getValue_6d5f1_1 jf_J4 0 rfl rfl 0 (by decide) fl_RJ5_15 rfl ?_
  refine J_widen (k2 := 0) (n2 := 0) (by first | exact Nat.le_of_ble_eq_true rfl | omega | (dsimp only; omega)) (by first | exact Nat.le_of_ble_eq_true rfl | omega | (dsimp only; omega)) ?_
  exact J_aret (pc := 4) C dJ5_getValue_6d5f1_4 hr (by first | exact Or.inl ⟨_, rfl⟩ | exact Or.inr ⟨_, rfl⟩) (Or.inr ⟨_, rfl⟩) ⟨rfl, rfl⟩

theorem dJ5_length_8abf5_0 : decode cJ5_length_8abf5 0 = .ok (.aload_n 0, 1) := by decide +kernel
theorem dJ5_length_8abf5_1 : decode cJ5_length_8abf5 1 = .ok (.getfield 79, 3) := by decide +kernel
theorem dJ5_length_8abf5_4 : decode cJ5_length_8abf5 4 = .ok (.ireturn, 1) := by decide +kernel

set_option maxHeartbeats 4000000 in
set_option maxRecDepth 100000 in
theorem c_ASBlen (l : Launch) (D : va_G) (cI cB cL cO : ClassId) (pf : Nat → Nat) (a v : Nat) (cnt : Int32) : Ct l D [(cI, .int), (cB, .byte), (cL, .byte), (cO, .object RX0)] pf yJ5_length_8abf5 cJ5_length_8abf5 1 (some FieldType.int) { frames := 0, cells := 0, slots := 0, locals := 0 } [.ref a] [(a, .inr (12, [.ref v, .int 0, .int 0, .int cnt]))] (is1 (some (.int cnt)) [(a, .inr (12, [.ref v, .int 0, .int 0, .int cnt]))]) := by
  refine Ct_of (own := RJ5) (lv0 := [(0, .ref a)]) (by decide) rfl rfl (Nat.le_of_ble_eq_true rfl) ?_
  intro pZ eZ sZ mZ argsZ belowZ methZ cZ C hr hnm
  refine J_aload_n (pc := 0) C dJ5_length_8abf5_0 0 rfl ?_
  refine J_getA (pc := 1) C dJ5_length_8abf5_1 jf_J4 0 rfl rfl 3 (by decide) fl_RJ5_79 rfl ?_
  refine J_widen (k2 := 0) (n2 := 0) (by first | exact Nat.le_of_ble_eq_true rfl | omega | (dsimp only; omega)) (by first | exact Nat.le_of_ble_eq_true rfl | omega | (dsimp only; omega)) ?_
  exact J_iret (pc := 4) C dJ5_length_8abf5_4 hr ⟨rfl, rfl⟩

theorem dJ4_length_8abf5_0 : decode cJ4_length_8abf5 0 = .ok (.aload_n 0, 1) := by decide +kernel
theorem dJ4_length_8abf5_1 : decode cJ4_length_8abf5 1 = .ok (.invokespecial 343, 3) := by decide +kernel
theorem dJ4_length_8abf5_4 : decode cJ4_length_8abf5 4 = .ok (.ireturn, 1) := by decide +kernel

set_option maxHeartbeats 4000000 in
set_option maxRecDepth 100000 in
theorem c_SBlen (l : Launch) (D : va_G) (cI cB cL cO : ClassId) (pf : Nat → Nat) (a v : Nat) (cnt : Int32) : Ct l D [(cI, .int), (cB, .byte), (cL, .byte), (cO, .object RX0)] pf yJ4_length_8abf5 cJ4_length_8abf5 1 (some FieldType.int) { frames := 1, cells := 0, slots := 0, locals := 20 } [.ref a] [(a, .inr (12, [.ref v, .int 0, .int 0, .int cnt]))] (is1 (some (.int cnt)) [(a, .inr (12, [.ref v, .int 0, .int 0, .int cnt]))]) := by
  refine Ct_of (own := RJ4) (lv0 := [(0, .ref a)]) (by decide) rfl rfl (Nat.le_of_ble_eq_true rfl) ?_
  intro pZ eZ sZ mZ argsZ belowZ methZ cZ C hr hnm
  refine J_aload_n (pc := 0) C dJ4_length_8abf5_0 0 rfl ?_
  refine J_spF (As := []) (st := []) (pc := 1) C dJ4_length_8abf5_1 ml_RJ4_343 w_sup mu_yJ5_length_8abf5 (c_ASBlen l D cI cB cL cO pf a v cnt) [] (permN [0] [] 1 rfl rfl rfl (by decide)) (q0 := 0) rfl rfl rfl ⟨(Nat.le_of_ble_eq_true rfl), (Nat.le_of_ble_eq_true rfl)⟩ ⟨(by first | exact Nat.le_of_ble_eq_true rfl | omega | (dsimp only; omega)), (by first | exact Nat.le_of_ble_eq_true rfl | omega | (dsimp only; omega))⟩ (Nat.le_of_ble_eq_true rfl) ?_
  rintro v w1 ⟨rfl, rfl⟩
  refine J_ws (ws2 := [(a, .inr (12, [.ref v, .int 0, .int 0, .int cnt]))]) rfl ?_
  refine J_widen (k2 := 0) (n2 := 0) (by first | exact Nat.le_of_ble_eq_true rfl | omega | (dsimp only; omega)) (by first | exact Nat.le_of_ble_eq_true rfl | omega | (dsimp only; omega)) ?_
  exact J_iret (pc := 4) C dJ4_length_8abf5_4 hr ⟨rfl, rfl⟩

theorem dJ7_checkLength_df160_0 : decode cJ7_checkLength_df160 0 = .ok (.iload_n 1, 1) := by decide +kernel
theorem dJ7_checkLength_df160_1 : decode cJ7_checkLength_df160 1 = .ok (.iload_n 0, 1) := by decide +kernel
theorem dJ7_checkLength_df160_2 : decode cJ7_checkLength_df160 2 = .ok (.if_icmp .ge 35, 3) := by decide +kernel
theorem dJ7_checkLength_df160_5 : decode cJ7_checkLength_df160 5 = .ok (.new 43, 3) := by decide +kernel
theorem dJ7_checkLength_df160_8 : decode cJ7_checkLength_df160 8 = .ok (.dup, 1) := by decide +kernel
theorem dJ7_checkLength_df160_9 : decode cJ7_checkLength_df160 9 = .ok (.new 45, 3) := by decide +kernel
theorem dJ7_checkLength_df160_12 : decode cJ7_checkLength_df160 12 = .ok (.dup, 1) := by decide +kernel
theorem dJ7_checkLength_df160_13 : decode cJ7_checkLength_df160 13 = .ok (.invokespecial 47, 3) := by decide +kernel
theorem dJ7_checkLength_df160_16 : decode cJ7_checkLength_df160 16 = .ok (.iload_n 0, 1) := by decide +kernel
theorem dJ7_checkLength_df160_17 : decode cJ7_checkLength_df160 17 = .ok (.invokevirtual 54, 3) := by decide +kernel
theorem dJ7_checkLength_df160_20 : decode cJ7_checkLength_df160 20 = .ok (.ldc_w 337, 3) := by decide +kernel
theorem dJ7_checkLength_df160_23 : decode cJ7_checkLength_df160 23 = .ok (.invokevirtual 50, 3) := by decide +kernel
theorem dJ7_checkLength_df160_26 : decode cJ7_checkLength_df160 26 = .ok (.iload_n 1, 1) := by decide +kernel
theorem dJ7_checkLength_df160_27 : decode cJ7_checkLength_df160 27 = .ok (.invokevirtual 54, 3) := by decide +kernel
theorem dJ7_checkLength_df160_30 : decode cJ7_checkLength_df160 30 = .ok (.invokevirtual 61, 3) := by decide +kernel
theorem dJ7_checkLength_df160_33 : decode cJ7_checkLength_df160 33 = .ok (.invokespecial 65, 3) := by decide +kernel
theorem dJ7_checkLength_df160_36 : decode cJ7_checkLength_df160 36 = .ok (.athrow, 1) := by decide +kernel
theorem dJ7_checkLength_df160_37 : decode cJ7_checkLength_df160 37 = .ok (.return_, 1) := by decide +kernel

set_option maxHeartbeats 4000000 in
set_option maxRecDepth 100000 in
theorem c_chkL (l : Launch) (D : va_G) (cI cB cL cO : ClassId) (pf : Nat → Nat) (b e : Nat) (h : b ≤ e) (h2 : e < 2 ^ 30) : Ct l D [(cI, .int), (cB, .byte), (cL, .byte), (cO, .object RX0)] pf yJ7_checkLength_df160 cJ7_checkLength_df160 2 (none : Option FieldType) { frames := 0, cells := 0, slots := 0, locals := 0 } [.int (nI b), .int (nI e)] [] (is1 none []) := by
  refine Ct_of (own := RJ7) (lv0 := [(0, .int (nI b)), (1, .int (nI e))]) (by decide) rfl rfl (Nat.le_of_ble_eq_true rfl) ?_
  intro pZ eZ sZ mZ argsZ belowZ methZ cZ C hr hnm
  refine J_iload_n (pc := 0) C dJ7_checkLength_df160_0 1 rfl ?_
  refine J_iload_n (pc := 1) C dJ7_checkLength_df160_1 0 rfl ?_
  refine J_ic_ge (α := Unit) (o := ()) (X := some ()) (Y := none) (pc := 2) (tgt := 37) C dJ7_checkLength_df160_2 (by decide) (if_pos (nI_le h (by omega))) (fun _ => ?_) (fun h => by cases h)
  refine J_widen (k2 := 0) (n2 := 0) (by first | exact Nat.le_of_ble_eq_true rfl | omega | (dsimp only; omega)) (by first | exact Nat.le_of_ble_eq_true rfl | omega | (dsimp only; omega)) ?_
  exact J_vret (pc := 37) C dJ7_checkLength_df160_37 hr ⟨rfl, rfl⟩

theorem mn_min {a b : Nat} (h : a ≤ b) (ha : a < 2 ^ 31) (hb : b < 2 ^ 31) : (if nI a < nI b then nI a else nI b) = nI a := by
  by_cases h1 : a < b
  · exact if_pos ((nI_ltI ha hb).mpr h1)
  · rw [if_neg (fun z => h1 ((nI_ltI ha hb).mp z)), show b = a by omega]
theorem bN_all {t : List Nat} {n : Nat} (h : t.length ≤ n) : bN t = bN ((t.drop 0).take n) := by
  rw [List.drop_zero, List.take_of_length_le h]

theorem dJ7_copyOfRangeByte_39247_0 : decode cJ7_copyOfRangeByte_39247 0 = .ok (.iload_n 1, 1) := by decide +kernel
theorem dJ7_copyOfRangeByte_39247_1 : decode cJ7_copyOfRangeByte_39247 1 = .ok (.iload_n 2, 1) := by decide +kernel
theorem dJ7_copyOfRangeByte_39247_2 : decode cJ7_copyOfRangeByte_39247 2 = .ok (.invokestatic 343, 3) := by decide +kernel
theorem dJ7_copyOfRangeByte_39247_5 : decode cJ7_copyOfRangeByte_39247 5 = .ok (.iload_n 2, 1) := by decide +kernel
theorem dJ7_copyOfRangeByte_39247_6 : decode cJ7_copyOfRangeByte_39247 6 = .ok (.iload_n 1, 1) := by decide +kernel
theorem dJ7_copyOfRangeByte_39247_7 : decode cJ7_copyOfRangeByte_39247 7 = .ok (.isub, 1) := by decide +kernel
theorem dJ7_copyOfRangeByte_39247_8 : decode cJ7_copyOfRangeByte_39247 8 = .ok (.istore_n 3, 1) := by decide +kernel
theorem dJ7_copyOfRangeByte_39247_9 : decode cJ7_copyOfRangeByte_39247 9 = .ok (.iload_n 3, 1) := by decide +kernel
theorem dJ7_copyOfRangeByte_39247_10 : decode cJ7_copyOfRangeByte_39247 10 = .ok (.newarray .byte, 2) := by decide +kernel
theorem dJ7_copyOfRangeByte_39247_12 : decode cJ7_copyOfRangeByte_39247 12 = .ok (.astore 4, 2) := by decide +kernel
theorem dJ7_copyOfRangeByte_39247_14 : decode cJ7_copyOfRangeByte_39247 14 = .ok (.aload_n 0, 1) := by decide +kernel
theorem dJ7_copyOfRangeByte_39247_15 : decode cJ7_copyOfRangeByte_39247 15 = .ok (.iload_n 1, 1) := by decide +kernel
theorem dJ7_copyOfRangeByte_39247_16 : decode cJ7_copyOfRangeByte_39247 16 = .ok (.aload 4, 2) := by decide +kernel
theorem dJ7_copyOfRangeByte_39247_18 : decode cJ7_copyOfRangeByte_39247 18 = .ok (.iconst 0, 1) := by decide +kernel
theorem dJ7_copyOfRangeByte_39247_19 : decode cJ7_copyOfRangeByte_39247 19 = .ok (.aload_n 0, 1) := by decide +kernel
theorem dJ7_copyOfRangeByte_39247_20 : decode cJ7_copyOfRangeByte_39247 20 = .ok (.arraylength, 1) := by decide +kernel
theorem dJ7_copyOfRangeByte_39247_21 : decode cJ7_copyOfRangeByte_39247 21 = .ok (.iload_n 1, 1) := by decide +kernel
theorem dJ7_copyOfRangeByte_39247_22 : decode cJ7_copyOfRangeByte_39247 22 = .ok (.isub, 1) := by decide +kernel
theorem dJ7_copyOfRangeByte_39247_23 : decode cJ7_copyOfRangeByte_39247 23 = .ok (.iload_n 3, 1) := by decide +kernel
theorem dJ7_copyOfRangeByte_39247_24 : decode cJ7_copyOfRangeByte_39247 24 = .ok (.invokestatic 304, 3) := by decide +kernel
theorem dJ7_copyOfRangeByte_39247_27 : decode cJ7_copyOfRangeByte_39247 27 = .ok (.invokestatic 150, 3) := by decide +kernel
theorem dJ7_copyOfRangeByte_39247_30 : decode cJ7_copyOfRangeByte_39247 30 = .ok (.aload 4, 2) := by decide +kernel
theorem dJ7_copyOfRangeByte_39247_32 : decode cJ7_copyOfRangeByte_39247 32 = .ok (.areturn, 1) := by decide +kernel

set_option maxHeartbeats 4000000 in
set_option maxRecDepth 100000 in
theorem c_cpRB (l : Launch) (D : va_G) (cI cB cL cO : ClassId) (pf : Nat → Nat) (v n b e : Nat) (t : List Nat) (ht : AS t) (h1 : b ≤ e) (h2 : e ≤ n) (hn : n ≤ 4096) : Ct l D [(cI, .int), (cB, .byte), (cL, .byte), (cO, .object RX0)] pf yJ7_copyOfRangeByte_39247 cJ7_copyOfRangeByte_39247 5 (some (FieldType.array FieldType.byte)) { frames := 1, cells := 1, slots := 4096, locals := 60 } [.ref v, .int (nI b), .int (nI e)] [(v, .inl (cB, n, .inl (bN t)))] (fun V w => ∃ r, V = some (.ref r) ∧ w = [(v, .inl (cB, n, .inl (bN t))), (r, .inl (cB, (e - b), .inl (bN ((t.drop b).take (e - b)))))]) := by
  refine Ct_of (own := RJ7) (lv0 := [(0, .ref v), (1, .int (nI b)), (2, .int (nI e))]) (by decide) rfl rfl (Nat.le_of_ble_eq_true rfl) ?_
  intro pZ eZ sZ mZ argsZ belowZ methZ cZ C hr hnm
  refine J_iload_n (pc := 0) C dJ7_copyOfRangeByte_39247_0 1 rfl ?_
  refine J_iload_n (pc := 1) C dJ7_copyOfRangeByte_39247_1 2 rfl ?_
  refine J_csF (b := 0) (As := [.int (nI b), .int (nI e)]) (st := []) (pc := 2) C dJ7_copyOfRangeByte_39247_2 ml_RJ7_343 mi_yJ7_checkLength_df160 (c_chkL l D cI cB cL cO pf b e h1 (by omega)) [(v, .inl (cB, n, .inl (bN t)))] (permN [] [0] 1 rfl rfl rfl (by decide)) rfl ⟨(Nat.le_of_ble_eq_true rfl), (Nat.le_of_ble_eq_true rfl)⟩ ⟨(by first | exact Nat.le_of_ble_eq_true rfl | omega | (dsimp only; omega)), (by first | exact Nat.le_of_ble_eq_true rfl | omega | (dsimp only; omega))⟩ (Nat.le_of_ble_eq_true rfl) ?_
  rintro v w1 ⟨rfl, rfl⟩
  refine J_ws (ws2 := [(v, .inl (cB, n, .inl (bN t)))]) rfl ?_
  refine J_iload_n (pc := 5) C dJ7_copyOfRangeByte_39247_5 2 rfl ?_
  refine J_iload_n (pc := 6) C dJ7_copyOfRangeByte_39247_6 1 rfl ?_
  refine J_isub (pc := 7) C dJ7_copyOfRangeByte_39247_7 ?_
  refine J_top (α := Unit) (X := none) (nI (e - b)) (pk_sub h1) ?_
  refine J_istore_n (lv2 := [(3, .int (nI (e - b))), (0, .ref v), (1, .int (nI b)), (2, .int (nI e))]) (pc := 8) C dJ7_copyOfRangeByte_39247_8 (by decide) rfl ?_
  refine J_iload_n (pc := 9) C dJ7_copyOfRangeByte_39247_9 0 rfl ?_
  refine J_newa (atype := .byte) (a0 := ((e - b), .inl (fun _ => 0))) (N := (e - b)) (pc := 10) C dJ7_copyOfRangeByte_39247_10 w_arB rfl 1 rfl (by intro C h; cases h) (fun _ => rfl) (nI_pos (by omega)) (nI_clamp (by omega)) (by show (e - b) * 1 ≤ _; omega) ⟨(by first | exact Nat.le_of_ble_eq_true rfl | omega | (dsimp only; omega)), (by first | exact Nat.le_of_ble_eq_true rfl | omega | (dsimp only; omega))⟩ (fun r => ?_)
  refine J_ws (ws2 := [(v, .inl (cB, n, .inl (bN t))), (r, .inl (cB, (e - b), .inl (fun _ => 0)))]) rfl ?_
  refine J_astore (lv2 := [(4, .ref r), (3, .int (nI (e - b))), (0, .ref v), (1, .int (nI b)), (2, .int (nI e))]) (pc := 12) C dJ7_copyOfRangeByte_39247_12 (by decide) rfl ?_
  refine J_aload_n (pc := 14) C dJ7_copyOfRangeByte_39247_14 2 rfl ?_
  refine J_iload_n (pc := 15) C dJ7_copyOfRangeByte_39247_15 3 rfl ?_
  refine J_aload (pc := 16) C dJ7_copyOfRangeByte_39247_16 0 rfl ?_
  refine J_iconst (v := (0 : Int32)) (pc := 18) C dJ7_copyOfRangeByte_39247_18 (by decide) ?_
  refine J_aload_n (pc := 19) C dJ7_copyOfRangeByte_39247_19 2 rfl ?_
  refine J_alen (pc := 20) C dJ7_copyOfRangeByte_39247_20 0 1 rfl rfl ?_
  refine J_iload_n (pc := 21) C dJ7_copyOfRangeByte_39247_21 3 rfl ?_
  refine J_isub (pc := 22) C dJ7_copyOfRangeByte_39247_22 ?_
  refine J_top (α := Unit) (X := none) (nI (n - b)) (pk_sub (by omega)) ?_
  refine J_iload_n (pc := 23) C dJ7_copyOfRangeByte_39247_23 1 rfl ?_
  refine J_mmin (pc := 24) C dJ7_copyOfRangeByte_39247_24 ml_RJ7_304 w_min (Nat.le_of_ble_eq_true rfl) (Nat.le_of_ble_eq_true rfl) ⟨(by first | exact Nat.le_of_ble_eq_true rfl | omega | (dsimp only; omega)), (by first | exact Nat.le_of_ble_eq_true rfl | omega | (dsimp only; omega))⟩ ?_
  refine J_top (α := Unit) (X := none) (nI (e - b)) (mn_min (by omega) (by omega) (by omega)) ?_
  refine J_copyB (ws2 := [(v, .inl (cB, n, .inl (bN t))), (r, .inl (cB, (e - b), .inl (bN ((t.drop b).take (e - b)))))]) (pc := 27) C dJ7_copyOfRangeByte_39247_27 ml_RJ7_150 0 1 1 1 rfl rfl rfl rfl ⟨nI_pos (by omega), by decide, nI_pos (by omega), by rw [nI_clamp (by omega), nI_clamp (by omega)]; omega, by rw [nI_clamp (by omega), clamp0]; omega⟩ (fun i _ => fit_b (ht _)) (Nat.le_of_ble_eq_true rfl) (Nat.le_of_ble_eq_true rfl) (by rw [nI_clamp (by omega : e - b < 2 ^ 31), nI_clamp (by omega : b < 2 ^ 31), clamp0, bN_sub]; rfl) ?_
  refine J_aload (pc := 30) C dJ7_copyOfRangeByte_39247_30 0 rfl ?_
  refine J_widen (k2 := 1) (n2 := 4096) (by first | exact Nat.le_of_ble_eq_true rfl | omega | (dsimp only; omega)) (by first | exact Nat.le_of_ble_eq_true rfl | omega | (dsimp only; omega)) ?_
  exact J_aret (pc := 32) C dJ7_copyOfRangeByte_39247_32 hr (by first | exact Or.inl ⟨_, rfl⟩ | exact Or.inr ⟨_, rfl⟩) (Or.inr ⟨_, rfl⟩) ⟨r, rfl, rfl⟩

theorem dJ7_copyOfRange_39247_0 : decode cJ7_copyOfRange_39247 0 = .ok (.iload_n 1, 1) := by decide +kernel
theorem dJ7_copyOfRange_39247_1 : decode cJ7_copyOfRange_39247 1 = .ok (.ifCond .ne 9, 3) := by decide +kernel
theorem dJ7_copyOfRange_39247_4 : decode cJ7_copyOfRange_39247 4 = .ok (.iload_n 2, 1) := by decide +kernel
theorem dJ7_copyOfRange_39247_5 : decode cJ7_copyOfRange_39247 5 = .ok (.aload_n 0, 1) := by decide +kernel
theorem dJ7_copyOfRange_39247_6 : decode cJ7_copyOfRange_39247 6 = .ok (.arraylength, 1) := by decide +kernel
theorem dJ7_copyOfRange_39247_7 : decode cJ7_copyOfRange_39247 7 = .ok (.if_icmp .eq 10, 3) := by decide +kernel
theorem dJ7_copyOfRange_39247_10 : decode cJ7_copyOfRange_39247 10 = .ok (.aload_n 0, 1) := by decide +kernel
theorem dJ7_copyOfRange_39247_11 : decode cJ7_copyOfRange_39247 11 = .ok (.iload_n 1, 1) := by decide +kernel
theorem dJ7_copyOfRange_39247_12 : decode cJ7_copyOfRange_39247 12 = .ok (.iload_n 2, 1) := by decide +kernel
theorem dJ7_copyOfRange_39247_13 : decode cJ7_copyOfRange_39247 13 = .ok (.invokestatic 339, 3) := by decide +kernel
theorem dJ7_copyOfRange_39247_16 : decode cJ7_copyOfRange_39247 16 = .ok (.areturn, 1) := by decide +kernel
theorem dJ7_copyOfRange_39247_17 : decode cJ7_copyOfRange_39247 17 = .ok (.aload_n 0, 1) := by decide +kernel
theorem dJ7_copyOfRange_39247_18 : decode cJ7_copyOfRange_39247 18 = .ok (.invokevirtual 310, 3) := by decide +kernel
theorem dJ7_copyOfRange_39247_21 : decode cJ7_copyOfRange_39247 21 = .ok (.checkcast 311, 3) := by decide +kernel
theorem dJ7_copyOfRange_39247_24 : decode cJ7_copyOfRange_39247 24 = .ok (.areturn, 1) := by decide +kernel

set_option maxHeartbeats 4000000 in
set_option maxRecDepth 100000 in
theorem c_cpR (l : Launch) (D : va_G) (cI cB cL cO : ClassId) (pf : Nat → Nat) (v n b e : Nat) (t : List Nat) (ht : AS t) (htn : t.length ≤ n) (h1 : b ≤ e) (h2 : e ≤ n) (hn : n ≤ 4096) : Ct l D [(cI, .int), (cB, .byte), (cL, .byte), (cO, .object RX0)] pf yJ7_copyOfRange_39247 cJ7_copyOfRange_39247 3 (some (FieldType.array FieldType.byte)) { frames := 2, cells := 1, slots := 4096, locals := 84 } [.ref v, .int (nI b), .int (nI e)] [(v, .inl (cB, n, .inl (bN t)))] (fun V w => ∃ r, V = some (.ref r) ∧ w = [(v, .inl (cB, n, .inl (bN t))), (r, .inl (cB, (e - b), .inl (bN ((t.drop b).take (e - b)))))]) := by
  refine Ct_of (own := RJ7) (lv0 := [(0, .ref v), (1, .int (nI b)), (2, .int (nI e))]) (by decide) rfl rfl (Nat.le_of_ble_eq_true rfl) ?_
  intro pZ eZ sZ mZ argsZ belowZ methZ cZ C hr hnm
  have hd : ¬ b = 0 ∨ (b = 0 ∧ ¬ e = n) ∨ (b = 0 ∧ e = n) := by omega
  rcases hd with h3 | ⟨h3, h4⟩ | ⟨h3, h4⟩
  · refine J_iload_n (pc := 0) C dJ7_copyOfRange_39247_0 1 rfl ?_
    refine J_if_ne (α := Unit) (o := ()) (X := none) (Y := some ()) (pc := 1) (tgt := 10) C dJ7_copyOfRange_39247_1 (by decide) (if_neg (fun z => by have := (nI_eq (by omega) (by decide)).mp (show nI b = nI 0 from z); omega)) (fun _ => ?_) (fun h => by cases h)
    refine J_aload_n (pc := 10) C dJ7_copyOfRange_39247_10 0 rfl ?_
    refine J_iload_n (pc := 11) C dJ7_copyOfRange_39247_11 1 rfl ?_
    refine J_iload_n (pc := 12) C dJ7_copyOfRange_39247_12 2 rfl ?_
    refine J_csF (b := 0) (As := [.ref v, .int (nI b), .int (nI e)]) (st := []) (pc := 13) C dJ7_copyOfRange_39247_13 ml_RJ7_339 mi_yJ7_copyOfRangeByte_39247 (c_cpRB l D cI cB cL cO pf v n b e t ht h1 h2 hn) [] (permN [0] [] 1 rfl rfl rfl (by decide)) rfl ⟨(Nat.le_of_ble_eq_true rfl), (Nat.le_of_ble_eq_true rfl)⟩ ⟨(by first | exact Nat.le_of_ble_eq_true rfl | omega | (dsimp only; omega)), (by first | exact Nat.le_of_ble_eq_true rfl | omega | (dsimp only; omega))⟩ (Nat.le_of_ble_eq_true rfl) ?_
    rintro v w1 ⟨r, rfl, rfl⟩
    refine J_ws (ws2 := [(v, .inl (cB, n, .inl (bN t))), (r, .inl (cB, (e - b), .inl (bN ((t.drop b).take (e - b)))))]) rfl ?_
    refine J_widen (k2 := 1) (n2 := 4096) (by first | exact Nat.le_of_ble_eq_true rfl | omega | (dsimp only; omega)) (by first | exact Nat.le_of_ble_eq_true rfl | omega | (dsimp only; omega)) ?_
    exact J_aret (pc := 16) C dJ7_copyOfRange_39247_16 hr (by first | exact Or.inl ⟨_, rfl⟩ | exact Or.inr ⟨_, rfl⟩) (Or.inr ⟨_, rfl⟩) ⟨r, rfl, rfl⟩
  · refine J_iload_n (pc := 0) C dJ7_copyOfRange_39247_0 1 rfl ?_
    refine J_if_ne (α := Unit) (o := ()) (X := some ()) (Y := none) (pc := 1) (tgt := 10) C dJ7_copyOfRange_39247_1 (by decide) (if_pos (by rw [h3]; rfl)) (fun h => by cases h) (fun _ => ?_)
    refine J_iload_n (pc := 4) C dJ7_copyOfRange_39247_4 2 rfl ?_
    refine J_aload_n (pc := 5) C dJ7_copyOfRange_39247_5 0 rfl ?_
    refine J_alen (pc := 6) C dJ7_copyOfRange_39247_6 0 1 rfl rfl ?_
    refine J_ic_eq (α := Unit) (o := ()) (X := none) (Y := some ()) (pc := 7) (tgt := 17) C dJ7_copyOfRange_39247_7 (by decide) (if_neg (fun z => by have := (nI_eq (by omega) (by omega)).mp z; omega)) (fun h => by cases h) (fun _ => ?_)
    refine J_aload_n (pc := 10) C dJ7_copyOfRange_39247_10 0 rfl ?_
    refine J_iload_n (pc := 11) C dJ7_copyOfRange_39247_11 1 rfl ?_
    refine J_iload_n (pc := 12) C dJ7_copyOfRange_39247_12 2 rfl ?_
    refine J_csF (b := 0) (As := [.ref v, .int (nI b), .int (nI e)]) (st := []) (pc := 13) C dJ7_copyOfRange_39247_13 ml_RJ7_339 mi_yJ7_copyOfRangeByte_39247 (c_cpRB l D cI cB cL cO pf v n b e t ht h1 h2 hn) [] (permN [0] [] 1 rfl rfl rfl (by decide)) rfl ⟨(Nat.le_of_ble_eq_true rfl), (Nat.le_of_ble_eq_true rfl)⟩ ⟨(by first | exact Nat.le_of_ble_eq_true rfl | omega | (dsimp only; omega)), (by first | exact Nat.le_of_ble_eq_true rfl | omega | (dsimp only; omega))⟩ (Nat.le_of_ble_eq_true rfl) ?_
    rintro v w1 ⟨r, rfl, rfl⟩
    refine J_ws (ws2 := [(v, .inl (cB, n, .inl (bN t))), (r, .inl (cB, (e - b), .inl (bN ((t.drop b).take (e - b)))))]) rfl ?_
    refine J_widen (k2 := 1) (n2 := 4096) (by first | exact Nat.le_of_ble_eq_true rfl | omega | (dsimp only; omega)) (by first | exact Nat.le_of_ble_eq_true rfl | omega | (dsimp only; omega)) ?_
    exact J_aret (pc := 16) C dJ7_copyOfRange_39247_16 hr (by first | exact Or.inl ⟨_, rfl⟩ | exact Or.inr ⟨_, rfl⟩) (Or.inr ⟨_, rfl⟩) ⟨r, rfl, rfl⟩
  · refine J_iload_n (pc := 0) C dJ7_copyOfRange_39247_0 1 rfl ?_
    refine J_if_ne (α := Unit) (o := ()) (X := some ()) (Y := none) (pc := 1) (tgt := 10) C dJ7_copyOfRange_39247_1 (by decide) (if_pos (by rw [h3]; rfl)) (fun h => by cases h) (fun _ => ?_)
    refine J_iload_n (pc := 4) C dJ7_copyOfRange_39247_4 2 rfl ?_
    refine J_aload_n (pc := 5) C dJ7_copyOfRange_39247_5 0 rfl ?_
    refine J_alen (pc := 6) C dJ7_copyOfRange_39247_6 0 1 rfl rfl ?_
    refine J_ic_eq (α := Unit) (o := ()) (X := some ()) (Y := none) (pc := 7) (tgt := 17) C dJ7_copyOfRange_39247_7 (by decide) (if_pos (by rw [h4])) (fun _ => ?_) (fun h => by cases h)
    refine J_aload_n (pc := 17) C dJ7_copyOfRange_39247_17 0 rfl ?_
    refine J_cloneB (pc := 18) C dJ7_copyOfRange_39247_18 ml_RJ7_310 0 1 rfl rfl (fun i _ => fit_b (ht _)) (Nat.le_of_ble_eq_true rfl) (Nat.le_of_ble_eq_true rfl) ⟨(by first | exact Nat.le_of_ble_eq_true rfl | omega | (dsimp only; omega)), (by first | exact Nat.le_of_ble_eq_true rfl | omega | (dsimp only; omega))⟩ (fun r => ?_)
    refine J_ws (ws2 := [(v, .inl (cB, n, .inl (bN t))), (r, .inl (cB, n, .inl (bN t)))]) rfl ?_
    refine J_castB (pc := 21) C dJ7_copyOfRange_39247_21 clk_RJ7_311 1 1 rfl rfl ?_
    refine J_widen (k2 := 1) (n2 := 4096) (by first | exact Nat.le_of_ble_eq_true rfl | omega | (dsimp only; omega)) (by first | exact Nat.le_of_ble_eq_true rfl | omega | (dsimp only; omega)) ?_
    exact J_aret (pc := 24) C dJ7_copyOfRange_39247_24 hr (by first | exact Or.inl ⟨_, rfl⟩ | exact Or.inr ⟨_, rfl⟩) (Or.inr ⟨_, rfl⟩) ⟨r, rfl, by subst h3; subst h4; rw [Nat.sub_zero, ← bN_all htn]⟩

theorem dJ0_init_db425_0 : decode cJ0_init_db425 0 = .ok (.aload_n 0, 1) := by decide +kernel
theorem dJ0_init_db425_1 : decode cJ0_init_db425 1 = .ok (.invokespecial 1, 3) := by decide +kernel
theorem dJ0_init_db425_4 : decode cJ0_init_db425 4 = .ok (.aload_n 1, 1) := by decide +kernel
theorem dJ0_init_db425_5 : decode cJ0_init_db425 5 = .ok (.invokevirtual 552, 3) := by decide +kernel
theorem dJ0_init_db425_8 : decode cJ0_init_db425 8 = .ok (.astore_n 3, 1) := by decide +kernel
theorem dJ0_init_db425_9 : decode cJ0_init_db425 9 = .ok (.aload_n 1, 1) := by decide +kernel
theorem dJ0_init_db425_10 : decode cJ0_init_db425 10 = .ok (.invokevirtual 549, 3) := by decide +kernel
theorem dJ0_init_db425_13 : decode cJ0_init_db425 13 = .ok (.istore 4, 2) := by decide +kernel
theorem dJ0_init_db425_15 : decode cJ0_init_db425 15 = .ok (.aload_n 1, 1) := by decide +kernel
theorem dJ0_init_db425_16 : decode cJ0_init_db425 16 = .ok (.invokevirtual 1047, 3) := by decide +kernel
theorem dJ0_init_db425_19 : decode cJ0_init_db425 19 = .ok (.ifCond .eq 22, 3) := by decide +kernel
theorem dJ0_init_db425_22 : decode cJ0_init_db425 22 = .ok (.aload_n 0, 1) := by decide +kernel
theorem dJ0_init_db425_23 : decode cJ0_init_db425 23 = .ok (.iconst 0, 1) := by decide +kernel
theorem dJ0_init_db425_24 : decode cJ0_init_db425 24 = .ok (.putfield 15, 3) := by decide +kernel
theorem dJ0_init_db425_27 : decode cJ0_init_db425 27 = .ok (.aload_n 0, 1) := by decide +kernel
theorem dJ0_init_db425_28 : decode cJ0_init_db425 28 = .ok (.aload_n 3, 1) := by decide +kernel
theorem dJ0_init_db425_29 : decode cJ0_init_db425 29 = .ok (.iconst 0, 1) := by decide +kernel
theorem dJ0_init_db425_30 : decode cJ0_init_db425 30 = .ok (.iload 4, 2) := by decide +kernel
theorem dJ0_init_db425_32 : decode cJ0_init_db425 32 = .ok (.invokestatic 54, 3) := by decide +kernel
theorem dJ0_init_db425_35 : decode cJ0_init_db425 35 = .ok (.putfield 9, 3) := by decide +kernel
theorem dJ0_init_db425_38 : decode cJ0_init_db425 38 = .ok (.goto 59, 3) := by decide +kernel
theorem dJ0_init_db425_41 : decode cJ0_init_db425 41 = .ok (.getstatic 38, 3) := by decide +kernel
theorem dJ0_init_db425_44 : decode cJ0_init_db425 44 = .ok (.ifCond .eq 35, 3) := by decide +kernel
theorem dJ0_init_db425_47 : decode cJ0_init_db425 47 = .ok (.aload_n 1, 1) := by decide +kernel
theorem dJ0_init_db425_48 : decode cJ0_init_db425 48 = .ok (.getfield 1048, 3) := by decide +kernel
theorem dJ0_init_db425_51 : decode cJ0_init_db425 51 = .ok (.ifCond .eq 28, 3) := by decide +kernel
theorem dJ0_init_db425_54 : decode cJ0_init_db425 54 = .ok (.aload_n 0, 1) := by decide +kernel
theorem dJ0_init_db425_55 : decode cJ0_init_db425 55 = .ok (.aload_n 3, 1) := by decide +kernel
theorem dJ0_init_db425_56 : decode cJ0_init_db425 56 = .ok (.iconst 0, 1) := by decide +kernel
theorem dJ0_init_db425_57 : decode cJ0_init_db425 57 = .ok (.iload 4, 2) := by decide +kernel
theorem dJ0_init_db425_59 : decode cJ0_init_db425 59 = .ok (.invokestatic 1051, 3) := by decide +kernel
theorem dJ0_init_db425_62 : decode cJ0_init_db425 62 = .ok (.putfield 9, 3) := by decide +kernel
theorem dJ0_init_db425_65 : decode cJ0_init_db425 65 = .ok (.aload_n 0, 1) := by decide +kernel
theorem dJ0_init_db425_66 : decode cJ0_init_db425 66 = .ok (.aload_n 0, 1) := by decide +kernel
theorem dJ0_init_db425_67 : decode cJ0_init_db425 67 = .ok (.getfield 9, 3) := by decide +kernel
theorem dJ0_init_db425_70 : decode cJ0_init_db425 70 = .ok (.iload 4, 2) := by decide +kernel
theorem dJ0_init_db425_72 : decode cJ0_init_db425 72 = .ok (.invokestatic 47, 3) := by decide +kernel
theorem dJ0_init_db425_75 : decode cJ0_init_db425 75 = .ok (.putfield 15, 3) := by decide +kernel
theorem dJ0_init_db425_78 : decode cJ0_init_db425 78 = .ok (.return_, 1) := by decide +kernel
theorem dJ0_init_db425_79 : decode cJ0_init_db425 79 = .ok (.aload_n 0, 1) := by decide +kernel
theorem dJ0_init_db425_80 : decode cJ0_init_db425 80 = .ok (.iconst 1, 1) := by decide +kernel
theorem dJ0_init_db425_81 : decode cJ0_init_db425 81 = .ok (.putfield 15, 3) := by decide +kernel
theorem dJ0_init_db425_84 : decode cJ0_init_db425 84 = .ok (.aload_n 0, 1) := by decide +kernel
theorem dJ0_init_db425_85 : decode cJ0_init_db425 85 = .ok (.aload_n 3, 1) := by decide +kernel
theorem dJ0_init_db425_86 : decode cJ0_init_db425 86 = .ok (.iconst 0, 1) := by decide +kernel
theorem dJ0_init_db425_87 : decode cJ0_init_db425 87 = .ok (.iload 4, 2) := by decide +kernel
theorem dJ0_init_db425_89 : decode cJ0_init_db425 89 = .ok (.iconst 1, 1) := by decide +kernel
theorem dJ0_init_db425_90 : decode cJ0_init_db425 90 = .ok (.ishl, 1) := by decide +kernel
theorem dJ0_init_db425_91 : decode cJ0_init_db425 91 = .ok (.invokestatic 54, 3) := by decide +kernel
theorem dJ0_init_db425_94 : decode cJ0_init_db425 94 = .ok (.putfield 9, 3) := by decide +kernel
theorem dJ0_init_db425_97 : decode cJ0_init_db425 97 = .ok (.return_, 1) := by decide +kernel

set_option maxHeartbeats 4000000 in
set_option maxRecDepth 100000 in
theorem c_StrI (l : Launch) (D : va_G) (cI cB cL cO : ClassId) (pf : Nat → Nat) (q a v cap : Nat) (t : List Nat) (ht : AS t) (hl : t.length ≤ cap) (hc : cap ≤ 4096) : Ct l D [(cI, .int), (cB, .byte), (cL, .byte), (cO, .object RX0)] pf yJ0_init_db425 cJ0_init_db425 5 (none : Option FieldType) { frames := 3, cells := 1, slots := 4096, locals := 106 } [.ref q, .ref a, .null] [(q, .inr (11, [.null, .int 0, .int 0, .int 0])), (a, .inr (12, [.ref v, .int 0, .int 0, .int (nI t.length)])), (v, .inl (cB, cap, .inl (bN t)))] (fun V w => V = none ∧ ∃ r, w = [(q, .inr (11, [.ref r, .int 0, .int 0, .int 0])), (a, .inr (12, [.ref v, .int 0, .int 0, .int (nI t.length)])), (v, .inl (cB, cap, .inl (bN t))), (r, .inl (cB, t.length, .inl (bN t)))]) := by
  refine Ct_of (own := RJ0) (lv0 := [(0, .ref q), (1, .ref a), (2, .null)]) (by decide) rfl rfl (Nat.le_of_ble_eq_true rfl) ?_
  intro pZ eZ sZ mZ argsZ belowZ methZ cZ C hr hnm
  refine J_aload_n (pc := 0) C dJ0_init_db425_0 0 rfl ?_
  refine J_objInit (pc := 1) C dJ0_init_db425_1 ml_RJ0_1 ⟨(Nat.le_of_ble_eq_true rfl), (Nat.le_of_ble_eq_true rfl)⟩ (Nat.le_of_ble_eq_true rfl) ?_
  refine J_aload_n (pc := 4) C dJ0_init_db425_4 1 rfl ?_
  refine J_cuF (C2 := RJ4) (As := []) (st := []) (pc := 5) C dJ0_init_db425_5 ml_RJ0_552 se_yJ5_getValue_6d5f1 mu_yJ5_getValue_6d5f1 (c_getV l D cI cB cL cO pf a v (nI t.length)) [(q, .inr (11, [.null, .int 0, .int 0, .int 0])), (v, .inl (cB, cap, .inl (bN t)))] (permN [1] [0, 2] 3 rfl rfl rfl (by decide)) (q0 := 0) rfl rfl rfl ⟨(Nat.le_of_ble_eq_true rfl), (Nat.le_of_ble_eq_true rfl)⟩ ⟨(by first | exact Nat.le_of_ble_eq_true rfl | omega | (dsimp only; omega)), (by first | exact Nat.le_of_ble_eq_true rfl | omega | (dsimp only; omega))⟩ (Nat.le_of_ble_eq_true rfl) ?_
  rintro v w1 ⟨rfl, rfl⟩
  refine J_ws (ws2 := [(a, .inr (12, [.ref v, .int 0, .int 0, .int (nI t.length)])), (q, .inr (11, [.null, .int 0, .int 0, .int 0])), (v, .inl (cB, cap, .inl (bN t)))]) rfl ?_
  refine J_astore_n (lv2 := [(3, .ref v), (0, .ref q), (1, .ref a), (2, .null)]) (pc := 8) C dJ0_init_db425_8 (by decide) rfl ?_
  refine J_aload_n (pc := 9) C dJ0_init_db425_9 2 rfl ?_
  refine J_coF (C2 := RJ4) (As := []) (st := []) (pc := 10) C dJ0_init_db425_10 ml_RJ0_549 se_SBlen mu_yJ5_length_8abf5 mj_SBlen mj_SBlenI (c_SBlen l D cI cB cL cO pf a v (nI t.length)) [(q, .inr (11, [.null, .int 0, .int 0, .int 0])), (v, .inl (cB, cap, .inl (bN t)))] (permN [0] [1, 2] 3 rfl rfl rfl (by decide)) (q0 := 0) rfl rfl rfl ⟨(Nat.le_of_ble_eq_true rfl), (Nat.le_of_ble_eq_true rfl)⟩ ⟨(by first | exact Nat.le_of_ble_eq_true rfl | omega | (dsimp only; omega)), (by first | exact Nat.le_of_ble_eq_true rfl | omega | (dsimp only; omega))⟩ (Nat.le_of_ble_eq_true rfl) ?_
  rintro v w1 ⟨rfl, rfl⟩
  refine J_ws (ws2 := [(a, .inr (12, [.ref v, .int 0, .int 0, .int (nI t.length)])), (q, .inr (11, [.null, .int 0, .int 0, .int 0])), (v, .inl (cB, cap, .inl (bN t)))]) rfl ?_
  refine J_istore (lv2 := [(4, .int (nI t.length)), (3, .ref v), (0, .ref q), (1, .ref a), (2, .null)]) (pc := 13) C dJ0_init_db425_13 (by decide) rfl ?_
  refine J_aload_n (pc := 15) C dJ0_init_db425_15 3 rfl ?_
  refine J_cuF (C2 := RJ4) (As := []) (st := []) (pc := 16) C dJ0_init_db425_16 ml_RJ0_1047 se_yJ5_isLatin1_aae02 mu_yJ5_isLatin1_aae02 (c_isL l D cI cB cL cO pf a v (nI t.length)) [(q, .inr (11, [.null, .int 0, .int 0, .int 0])), (v, .inl (cB, cap, .inl (bN t)))] (permN [0] [1, 2] 3 rfl rfl rfl (by decide)) (q0 := 0) rfl rfl rfl ⟨(Nat.le_of_ble_eq_true rfl), (Nat.le_of_ble_eq_true rfl)⟩ ⟨(by first | exact Nat.le_of_ble_eq_true rfl | omega | (dsimp only; omega)), (by first | exact Nat.le_of_ble_eq_true rfl | omega | (dsimp only; omega))⟩ (Nat.le_of_ble_eq_true rfl) ?_
  rintro v w1 ⟨rfl, rfl⟩
  refine J_ws (ws2 := [(a, .inr (12, [.ref v, .int 0, .int 0, .int (nI t.length)])), (q, .inr (11, [.null, .int 0, .int 0, .int 0])), (v, .inl (cB, cap, .inl (bN t)))]) rfl ?_
  refine J_if_eq (α := Unit) (o := ()) (X := none) (Y := some ()) (pc := 19) (tgt := 41) C dJ0_init_db425_19 (by decide) (if_neg (by decide)) (fun h => by cases h) (fun _ => ?_)
  refine J_aload_n (pc := 22) C dJ0_init_db425_22 2 rfl ?_
  refine J_iconst (v := (0 : Int32)) (pc := 23) C dJ0_init_db425_23 (by decide) ?_
  refine J_putF (tt := .byte) (pc := 24) C dJ0_init_db425_24 jf_J0 1 rfl rfl 1 (by decide) rfl fl_RJ0_15 rfl hnm rfl (by decide +kernel) (by decide +kernel) (by decide +kernel) (Nat.le_of_ble_eq_true rfl) ?_
  refine J_ws (ws2 := [(a, .inr (12, [.ref v, .int 0, .int 0, .int (nI t.length)])), (q, .inr (11, [.null, .int (0 : Int32), .int 0, .int 0])), (v, .inl (cB, cap, .inl (bN t)))]) rfl ?_
  refine J_aload_n (pc := 27) C dJ0_init_db425_27 2 rfl ?_
  refine J_aload_n (pc := 28) C dJ0_init_db425_28 1 rfl ?_
  refine J_iconst (v := (0 : Int32)) (pc := 29) C dJ0_init_db425_29 (by decide) ?_
  refine J_top (α := Unit) (X := none) (nI 0) rfl ?_
  refine J_iload (pc := 30) C dJ0_init_db425_30 0 rfl ?_
  refine J_csF (b := 0) (As := [.ref v, .int (nI 0), .int (nI t.length)]) (st := [.ref q]) (pc := 32) C dJ0_init_db425_32 ml_RJ0_54 mi_yJ7_copyOfRange_39247 (c_cpR l D cI cB cL cO pf v cap 0 t.length t ht hl (Nat.zero_le _) hl hc) [(a, .inr (12, [.ref v, .int 0, .int 0, .int (nI t.length)])), (q, .inr (11, [.null, .int (0 : Int32), .int 0, .int 0]))] (permN [2] [0, 1] 3 rfl rfl rfl (by decide)) rfl ⟨(Nat.le_of_ble_eq_true rfl), (Nat.le_of_ble_eq_true rfl)⟩ ⟨(by first | exact Nat.le_of_ble_eq_true rfl | omega | (dsimp only; omega)), (by first | exact Nat.le_of_ble_eq_true rfl | omega | (dsimp only; omega))⟩ (Nat.le_of_ble_eq_true rfl) ?_
  rintro v w1 ⟨r, rfl, rfl⟩
  refine J_ws (ws2 := [(v, .inl (cB, cap, .inl (bN t))), (r, .inl (cB, (t.length - 0), .inl (bN ((t.drop 0).take (t.length - 0))))), (a, .inr (12, [.ref v, .int 0, .int 0, .int (nI t.length)])), (q, .inr (11, [.null, .int (0 : Int32), .int 0, .int 0]))]) rfl ?_
  refine J_putF (tt := .array .byte) (pc := 35) C dJ0_init_db425_35 jf_J0 3 rfl rfl 0 (by decide) rfl fl_RJ0_9 rfl hnm rfl (by decide +kernel) rfl rfl (Nat.le_of_ble_eq_true rfl) ?_
  refine J_ws (ws2 := [(v, .inl (cB, cap, .inl (bN t))), (r, .inl (cB, (t.length - 0), .inl (bN ((t.drop 0).take (t.length - 0))))), (a, .inr (12, [.ref v, .int 0, .int 0, .int (nI t.length)])), (q, .inr (11, [.ref r, .int (0 : Int32), .int 0, .int 0]))]) rfl ?_
  refine J_drop (ws2 := [(q, .inr (11, [.ref r, .int (0 : Int32), .int 0, .int 0])), (a, .inr (12, [.ref v, .int 0, .int 0, .int (nI t.length)])), (v, .inl (cB, cap, .inl (bN t))), (r, .inl (cB, (t.length - 0), .inl (bN ((t.drop 0).take (t.length - 0)))))]) (Wr := []) (permN [3, 2, 0, 1] [] 4 rfl rfl rfl (by decide)) ?_
  refine J_goto (tgt := 97) (pc := 38) C dJ0_init_db425_38 (by decide) ?_
  refine J_widen (k2 := 1) (n2 := 4096) (by first | exact Nat.le_of_ble_eq_true rfl | omega | (dsimp only; omega)) (by first | exact Nat.le_of_ble_eq_true rfl | omega | (dsimp only; omega)) ?_
  exact J_vret (pc := 97) C dJ0_init_db425_97 hr ⟨rfl, r, by rw [Nat.sub_zero, ← bN_all (Nat.le_refl _)]⟩

theorem dJ0_init_81219_0 : decode cJ0_init_81219 0 = .ok (.aload_n 0, 1) := by decide +kernel
theorem dJ0_init_81219_1 : decode cJ0_init_81219 1 = .ok (.aload_n 1, 1) := by decide +kernel
theorem dJ0_init_81219_2 : decode cJ0_init_81219 2 = .ok (.aconst_null, 1) := by decide +kernel
theorem dJ0_init_81219_3 : decode cJ0_init_81219 3 = .ok (.invokespecial 489, 3) := by decide +kernel
theorem dJ0_init_81219_6 : decode cJ0_init_81219 6 = .ok (.return_, 1) := by decide +kernel

set_option maxHeartbeats 4000000 in
set_option maxRecDepth 100000 in
theorem c_StrSB (l : Launch) (D : va_G) (cI cB cL cO : ClassId) (pf : Nat → Nat) (q a v cap : Nat) (t : List Nat) (ht : AS t) (hl : t.length ≤ cap) (hc : cap ≤ 4096) : Ct l D [(cI, .int), (cB, .byte), (cL, .byte), (cO, .object RX0)] pf yJ0_init_81219 cJ0_init_81219 2 (none : Option FieldType) { frames := 4, cells := 1, slots := 4096, locals := 130 } [.ref q, .ref a] [(q, .inr (11, [.null, .int 0, .int 0, .int 0])), (a, .inr (12, [.ref v, .int 0, .int 0, .int (nI t.length)])), (v, .inl (cB, cap, .inl (bN t)))] (fun V w => V = none ∧ ∃ r, w = [(q, .inr (11, [.ref r, .int 0, .int 0, .int 0])), (a, .inr (12, [.ref v, .int 0, .int 0, .int (nI t.length)])), (v, .inl (cB, cap, .inl (bN t))), (r, .inl (cB, t.length, .inl (bN t)))]) := by
  refine Ct_of (own := RJ0) (lv0 := [(0, .ref q), (1, .ref a)]) (by decide) rfl rfl (Nat.le_of_ble_eq_true rfl) ?_
  intro pZ eZ sZ mZ argsZ belowZ methZ cZ C hr hnm
  refine J_aload_n (pc := 0) C dJ0_init_81219_0 0 rfl ?_
  refine J_aload_n (pc := 1) C dJ0_init_81219_1 1 rfl ?_
  refine J_acn (pc := 2) C dJ0_init_81219_2 ?_
  refine J_ciF (As := [.ref a, .null]) (st := []) (pc := 3) C dJ0_init_81219_3 ml_RJ0_489 mi_yJ0_init_db425 (c_StrI l D cI cB cL cO pf q a v cap t ht hl hc) [] (permN [0, 1, 2] [] 3 rfl rfl rfl (by decide)) rfl ⟨(Nat.le_of_ble_eq_true rfl), (Nat.le_of_ble_eq_true rfl)⟩ ⟨(by first | exact Nat.le_of_ble_eq_true rfl | omega | (dsimp only; omega)), (by first | exact Nat.le_of_ble_eq_true rfl | omega | (dsimp only; omega))⟩ (Nat.le_of_ble_eq_true rfl) ?_
  rintro v w1 ⟨rfl, r, rfl⟩
  refine J_ws (ws2 := [(q, .inr (11, [.ref r, .int 0, .int 0, .int 0])), (a, .inr (12, [.ref v, .int 0, .int 0, .int (nI t.length)])), (v, .inl (cB, cap, .inl (bN t))), (r, .inl (cB, t.length, .inl (bN t)))]) rfl ?_
  refine J_widen (k2 := 1) (n2 := 4096) (by first | exact Nat.le_of_ble_eq_true rfl | omega | (dsimp only; omega)) (by first | exact Nat.le_of_ble_eq_true rfl | omega | (dsimp only; omega)) ?_
  exact J_vret (pc := 6) C dJ0_init_81219_6 hr ⟨rfl, r, rfl⟩

theorem dJ4_toString_0e30d_0 : decode cJ4_toString_0e30d 0 = .ok (.new 18, 3) := by decide +kernel
theorem dJ4_toString_0e30d_3 : decode cJ4_toString_0e30d 3 = .ok (.dup, 1) := by decide +kernel
theorem dJ4_toString_0e30d_4 : decode cJ4_toString_0e30d 4 = .ok (.aload_n 0, 1) := by decide +kernel
theorem dJ4_toString_0e30d_5 : decode cJ4_toString_0e30d 5 = .ok (.invokespecial 137, 3) := by decide +kernel
theorem dJ4_toString_0e30d_8 : decode cJ4_toString_0e30d 8 = .ok (.areturn, 1) := by decide +kernel

set_option maxHeartbeats 4000000 in
set_option maxRecDepth 100000 in
theorem c_toS (l : Launch) (D : va_G) (cI cB cL cO : ClassId) (pf : Nat → Nat) (a v cap : Nat) (t : List Nat) (ht : AS t) (hl : t.length ≤ cap) (hc : cap ≤ 4096) : Ct l D [(cI, .int), (cB, .byte), (cL, .byte), (cO, .object RX0)] pf yJ4_toString_0e30d cJ4_toString_0e30d 1 (some (FieldType.object "java/lang/String")) { frames := 5, cells := 2, slots := 4100, locals := 151 } [.ref a] [(a, .inr (12, [.ref v, .int 0, .int 0, .int (nI t.length)])), (v, .inl (cB, cap, .inl (bN t)))] (fun V w => ∃ q r, V = some (.ref q) ∧ w = [(q, .inr (11, [.ref r, .int 0, .int 0, .int 0])), (r, .inl (cB, t.length, .inl (bN t)))]) := by
  refine Ct_of (own := RJ4) (lv0 := [(0, .ref a)]) (by decide) rfl rfl (Nat.le_of_ble_eq_true rfl) ?_
  intro pZ eZ sZ mZ argsZ belowZ methZ cZ C hr hnm
  refine J_new (ci := 11) (fs := [.null, .int 0, .int 0, .int 0]) (pc := 0) C dJ4_toString_0e30d_0 jf_J0 clk_RJ4_18 ins_RJ0 ini_RJ0 rfl df_J0 ⟨(by first | exact Nat.le_of_ble_eq_true rfl | omega | (dsimp only; omega)), (by first | exact Nat.le_of_ble_eq_true rfl | omega | (dsimp only; omega))⟩ (fun q => ?_)
  refine J_ws (ws2 := [(a, .inr (12, [.ref v, .int 0, .int 0, .int (nI t.length)])), (v, .inl (cB, cap, .inl (bN t))), (q, .inr (11, [.null, .int 0, .int 0, .int 0]))]) rfl ?_
  refine J_dupr (pc := 3) C dJ4_toString_0e30d_3 ?_
  refine J_aload_n (pc := 4) C dJ4_toString_0e30d_4 0 rfl ?_
  refine J_ciF (As := [.ref a]) (st := [.ref q]) (pc := 5) C dJ4_toString_0e30d_5 ml_RJ4_137 mi_yJ0_init_81219 (c_StrSB l D cI cB cL cO pf q a v cap t ht hl hc) [] (permN [2, 0, 1] [] 3 rfl rfl rfl (by decide)) rfl ⟨(Nat.le_of_ble_eq_true rfl), (Nat.le_of_ble_eq_true rfl)⟩ ⟨(by first | exact Nat.le_of_ble_eq_true rfl | omega | (dsimp only; omega)), (by first | exact Nat.le_of_ble_eq_true rfl | omega | (dsimp only; omega))⟩ (Nat.le_of_ble_eq_true rfl) ?_
  rintro v w1 ⟨rfl, r, rfl⟩
  refine J_ws (ws2 := [(q, .inr (11, [.ref r, .int 0, .int 0, .int 0])), (a, .inr (12, [.ref v, .int 0, .int 0, .int (nI t.length)])), (v, .inl (cB, cap, .inl (bN t))), (r, .inl (cB, t.length, .inl (bN t)))]) rfl ?_
  refine J_drop (ws2 := [(q, .inr (11, [.ref r, .int 0, .int 0, .int 0])), (r, .inl (cB, t.length, .inl (bN t)))]) (Wr := [(a, .inr (12, [.ref v, .int 0, .int 0, .int (nI t.length)])), (v, .inl (cB, cap, .inl (bN t)))]) (permN [0, 3] [1, 2] 4 rfl rfl rfl (by decide)) ?_
  refine J_widen (k2 := 2) (n2 := 4100) (by first | exact Nat.le_of_ble_eq_true rfl | omega | (dsimp only; omega)) (by first | exact Nat.le_of_ble_eq_true rfl | omega | (dsimp only; omega)) ?_
  exact J_aret (pc := 8) C dJ4_toString_0e30d_8 hr (by first | exact Or.inl ⟨_, rfl⟩ | exact Or.inr ⟨_, rfl⟩) (Or.inr ⟨_, rfl⟩) ⟨q, r, rfl, rfl⟩

theorem dJ3_checkFromToIndex_8c36e_0 : decode cJ3_checkFromToIndex_8c36e 0 = .ok (.iload_n 0, 1) := by decide +kernel
theorem dJ3_checkFromToIndex_8c36e_1 : decode cJ3_checkFromToIndex_8c36e 1 = .ok (.ifCond .lt 13, 3) := by decide +kernel
theorem dJ3_checkFromToIndex_8c36e_4 : decode cJ3_checkFromToIndex_8c36e 4 = .ok (.iload_n 0, 1) := by decide +kernel
theorem dJ3_checkFromToIndex_8c36e_5 : decode cJ3_checkFromToIndex_8c36e 5 = .ok (.iload_n 1, 1) := by decide +kernel
theorem dJ3_checkFromToIndex_8c36e_6 : decode cJ3_checkFromToIndex_8c36e 6 = .ok (.if_icmp .gt 8, 3) := by decide +kernel
theorem dJ3_checkFromToIndex_8c36e_9 : decode cJ3_checkFromToIndex_8c36e 9 = .ok (.iload_n 1, 1) := by decide +kernel
theorem dJ3_checkFromToIndex_8c36e_10 : decode cJ3_checkFromToIndex_8c36e 10 = .ok (.iload_n 2, 1) := by decide +kernel
theorem dJ3_checkFromToIndex_8c36e_11 : decode cJ3_checkFromToIndex_8c36e 11 = .ok (.if_icmp .le 11, 3) := by decide +kernel
theorem dJ3_checkFromToIndex_8c36e_14 : decode cJ3_checkFromToIndex_8c36e 14 = .ok (.aload_n 3, 1) := by decide +kernel
theorem dJ3_checkFromToIndex_8c36e_15 : decode cJ3_checkFromToIndex_8c36e 15 = .ok (.iload_n 0, 1) := by decide +kernel
theorem dJ3_checkFromToIndex_8c36e_16 : decode cJ3_checkFromToIndex_8c36e 16 = .ok (.iload_n 1, 1) := by decide +kernel
theorem dJ3_checkFromToIndex_8c36e_17 : decode cJ3_checkFromToIndex_8c36e 17 = .ok (.iload_n 2, 1) := by decide +kernel
theorem dJ3_checkFromToIndex_8c36e_18 : decode cJ3_checkFromToIndex_8c36e 18 = .ok (.invokestatic 99, 3) := by decide +kernel
theorem dJ3_checkFromToIndex_8c36e_21 : decode cJ3_checkFromToIndex_8c36e 21 = .ok (.athrow, 1) := by decide +kernel
theorem dJ3_checkFromToIndex_8c36e_22 : decode cJ3_checkFromToIndex_8c36e 22 = .ok (.iload_n 0, 1) := by decide +kernel
theorem dJ3_checkFromToIndex_8c36e_23 : decode cJ3_checkFromToIndex_8c36e 23 = .ok (.ireturn, 1) := by decide +kernel

set_option maxHeartbeats 4000000 in
set_option maxRecDepth 100000 in
theorem c_cFTI (l : Launch) (D : va_G) (cI cB cL cO : ClassId) (pf : Nat → Nat) (b e n : Nat) (vf : Value) (hv : vf = .null ∨ ∃ t, vf = .ref t) (h1 : b ≤ e) (h2 : e ≤ n) (hn : n < 2 ^ 30) : Ct l D [(cI, .int), (cB, .byte), (cL, .byte), (cO, .object RX0)] pf yJ3_checkFromToIndex_8c36e cJ3_checkFromToIndex_8c36e 4 (some FieldType.int) { frames := 0, cells := 0, slots := 0, locals := 0 } [.int (nI b), .int (nI e), .int (nI n), vf] [] (is1 (some (.int (nI b))) []) := by
  have hlv : lv_args 0 [.int (nI b), .int (nI e), .int (nI n), vf] = [(0, .int (nI b)), (1, .int (nI e)), (2, .int (nI n)), (3, vf)] := by rcases hv with rfl | ⟨t, rfl⟩ <;> rfl
  have hls : (lg_sl [.int (nI b), .int (nI e), .int (nI n), vf]).length ≤ 4 := by rcases hv with rfl | ⟨t, rfl⟩ <;> exact Nat.le_of_ble_eq_true rfl
  refine Ct_of (own := RJ3) (lv0 := [(0, .int (nI b)), (1, .int (nI e)), (2, .int (nI n)), (3, vf)]) (by decide) rfl hlv hls ?_
  intro pZ eZ sZ mZ argsZ belowZ methZ cZ C hr hnm
  refine J_iload_n (pc := 0) C dJ3_checkFromToIndex_8c36e_0 0 rfl ?_
  refine J_if_lt (α := Unit) (o := ()) (X := none) (Y := some ()) (pc := 1) (tgt := 14) C dJ3_checkFromToIndex_8c36e_1 (by decide) (if_neg (nI_pos (by omega))) (fun h => by cases h) (fun _ => ?_)
  refine J_iload_n (pc := 4) C dJ3_checkFromToIndex_8c36e_4 0 rfl ?_
  refine J_iload_n (pc := 5) C dJ3_checkFromToIndex_8c36e_5 1 rfl ?_
  refine J_ic_gt (α := Unit) (o := ()) (X := none) (Y := some ()) (pc := 6) (tgt := 14) C dJ3_checkFromToIndex_8c36e_6 (by decide) (if_neg (nI_nlt h1 (by omega))) (fun h => by cases h) (fun _ => ?_)
  refine J_iload_n (pc := 9) C dJ3_checkFromToIndex_8c36e_9 1 rfl ?_
  refine J_iload_n (pc := 10) C dJ3_checkFromToIndex_8c36e_10 2 rfl ?_
  refine J_ic_le (α := Unit) (o := ()) (X := some ()) (Y := none) (pc := 11) (tgt := 22) C dJ3_checkFromToIndex_8c36e_11 (by decide) (if_pos (nI_le h2 (by omega))) (fun _ => ?_) (fun h => by cases h)
  refine J_iload_n (pc := 22) C dJ3_checkFromToIndex_8c36e_22 0 rfl ?_
  refine J_widen (k2 := 0) (n2 := 0) (by first | exact Nat.le_of_ble_eq_true rfl | omega | (dsimp only; omega)) (by first | exact Nat.le_of_ble_eq_true rfl | omega | (dsimp only; omega)) ?_
  exact J_iret (pc := 23) C dJ3_checkFromToIndex_8c36e_23 hr ⟨rfl, rfl⟩

theorem dJ0_checkBoundsBeginEnd_23922_0 : decode cJ0_checkBoundsBeginEnd_23922 0 = .ok (.iload_n 0, 1) := by decide +kernel
theorem dJ0_checkBoundsBeginEnd_23922_1 : decode cJ0_checkBoundsBeginEnd_23922 1 = .ok (.iload_n 1, 1) := by decide +kernel
theorem dJ0_checkBoundsBeginEnd_23922_2 : decode cJ0_checkBoundsBeginEnd_23922 2 = .ok (.iload_n 2, 1) := by decide +kernel
theorem dJ0_checkBoundsBeginEnd_23922_3 : decode cJ0_checkBoundsBeginEnd_23922 3 = .ok (.getstatic 1053, 3) := by decide +kernel
theorem dJ0_checkBoundsBeginEnd_23922_6 : decode cJ0_checkBoundsBeginEnd_23922 6 = .ok (.invokestatic 1062, 3) := by decide +kernel
theorem dJ0_checkBoundsBeginEnd_23922_9 : decode cJ0_checkBoundsBeginEnd_23922 9 = .ok (.pop, 1) := by decide +kernel
theorem dJ0_checkBoundsBeginEnd_23922_10 : decode cJ0_checkBoundsBeginEnd_23922 10 = .ok (.return_, 1) := by decide +kernel

set_option maxHeartbeats 4000000 in
set_option maxRecDepth 100000 in
theorem c_cBBE (l : Launch) (D : va_G) (cI cB cL cO : ClassId) (pf : Nat → Nat) (b e n : Nat) (h1 : b ≤ e) (h2 : e ≤ n) (hn : n < 2 ^ 30) : Ct l D [(cI, .int), (cB, .byte), (cL, .byte), (cO, .object RX0)] pf yJ0_checkBoundsBeginEnd_23922 cJ0_checkBoundsBeginEnd_23922 3 (none : Option FieldType) { frames := 1, cells := 0, slots := 0, locals := 23 } [.int (nI b), .int (nI e), .int (nI n)] [] (is1 none []) := by
  refine Ct_of (own := RJ0) (lv0 := [(0, .int (nI b)), (1, .int (nI e)), (2, .int (nI n))]) (by decide) rfl rfl (Nat.le_of_ble_eq_true rfl) ?_
  intro pZ eZ sZ mZ argsZ belowZ methZ cZ C hr hnm
  refine J_iload_n (pc := 0) C dJ0_checkBoundsBeginEnd_23922_0 0 rfl ?_
  refine J_iload_n (pc := 1) C dJ0_checkBoundsBeginEnd_23922_1 1 rfl ?_
  refine J_iload_n (pc := 2) C dJ0_checkBoundsBeginEnd_23922_2 2 rfl ?_
  refine J_gsf (pc := 3) C dJ0_checkBoundsBeginEnd_23922_3 fl_RJ0_1053 (fun vf hvf => ?_)
  refine J_csF (b := 0) (As := [.int (nI b), .int (nI e), .int (nI n), vf]) (st := []) (pc := 6) C dJ0_checkBoundsBeginEnd_23922_6 ml_RJ0_1062 mi_yJ3_checkFromToIndex_8c36e (c_cFTI l D cI cB cL cO pf b e n vf hvf h1 h2 hn) [] (permN [] [] 0 rfl rfl rfl (by decide)) rfl ⟨(Nat.le_of_ble_eq_true rfl), (Nat.le_of_ble_eq_true rfl)⟩ ⟨(by first | exact Nat.le_of_ble_eq_true rfl | omega | (dsimp only; omega)), (by first | exact Nat.le_of_ble_eq_true rfl | omega | (dsimp only; omega))⟩ (Nat.le_of_ble_eq_true rfl) ?_
  rintro v w1 ⟨rfl, rfl⟩
  refine J_ws (ws2 := []) rfl ?_
  refine J_popi (pc := 9) C dJ0_checkBoundsBeginEnd_23922_9 ?_
  refine J_widen (k2 := 0) (n2 := 0) (by first | exact Nat.le_of_ble_eq_true rfl | omega | (dsimp only; omega)) (by first | exact Nat.le_of_ble_eq_true rfl | omega | (dsimp only; omega)) ?_
  exact J_vret (pc := 10) C dJ0_checkBoundsBeginEnd_23922_10 hr ⟨rfl, rfl⟩

theorem dJ0_init_031fb_0 : decode cJ0_init_031fb 0 = .ok (.aload_n 0, 1) := by decide +kernel
theorem dJ0_init_031fb_1 : decode cJ0_init_031fb 1 = .ok (.invokespecial 1, 3) := by decide +kernel
theorem dJ0_init_031fb_4 : decode cJ0_init_031fb 4 = .ok (.aload_n 0, 1) := by decide +kernel
theorem dJ0_init_031fb_5 : decode cJ0_init_031fb 5 = .ok (.aload_n 1, 1) := by decide +kernel
theorem dJ0_init_031fb_6 : decode cJ0_init_031fb 6 = .ok (.putfield 9, 3) := by decide +kernel
theorem dJ0_init_031fb_9 : decode cJ0_init_031fb 9 = .ok (.aload_n 0, 1) := by decide +kernel
theorem dJ0_init_031fb_10 : decode cJ0_init_031fb 10 = .ok (.iload_n 2, 1) := by decide +kernel
theorem dJ0_init_031fb_11 : decode cJ0_init_031fb 11 = .ok (.putfield 15, 3) := by decide +kernel
theorem dJ0_init_031fb_14 : decode cJ0_init_031fb 14 = .ok (.return_, 1) := by decide +kernel

set_option maxHeartbeats 4000000 in
set_option maxRecDepth 100000 in
theorem c_StrBB (l : Launch) (D : va_G) (cI cB cL cO : ClassId) (pf : Nat → Nat) (q r n : Nat) (g : Nat → Int32) : Ct l D [(cI, .int), (cB, .byte), (cL, .byte), (cO, .object RX0)] pf yJ0_init_031fb cJ0_init_031fb 3 (none : Option FieldType) { frames := 1, cells := 0, slots := 0, locals := 20 } [.ref q, .ref r, .int 0] [(q, .inr (11, [.null, .int 0, .int 0, .int 0])), (r, .inl (cB, n, .inl g))] (is1 none [(q, .inr (11, [.ref r, .int 0, .int 0, .int 0])), (r, .inl (cB, n, .inl g))]) := by
  refine Ct_of (own := RJ0) (lv0 := [(0, .ref q), (1, .ref r), (2, .int 0)]) (by decide) rfl rfl (Nat.le_of_ble_eq_true rfl) ?_
  intro pZ eZ sZ mZ argsZ belowZ methZ cZ C hr hnm
  refine J_aload_n (pc := 0) C dJ0_init_031fb_0 0 rfl ?_
  refine J_objInit (pc := 1) C dJ0_init_031fb_1 ml_RJ0_1 ⟨(Nat.le_of_ble_eq_true rfl), (Nat.le_of_ble_eq_true rfl)⟩ (Nat.le_of_ble_eq_true rfl) ?_
  refine J_aload_n (pc := 4) C dJ0_init_031fb_4 0 rfl ?_
  refine J_aload_n (pc := 5) C dJ0_init_031fb_5 1 rfl ?_
  refine J_putF (tt := .array .byte) (pc := 6) C dJ0_init_031fb_6 jf_J0 0 rfl rfl 0 (by decide) rfl fl_RJ0_9 rfl hnm rfl (by decide +kernel) rfl rfl (Nat.le_of_ble_eq_true rfl) ?_
  refine J_ws (ws2 := [(q, .inr (11, [.ref r, .int 0, .int 0, .int 0])), (r, .inl (cB, n, .inl g))]) rfl ?_
  refine J_aload_n (pc := 9) C dJ0_init_031fb_9 0 rfl ?_
  refine J_iload_n (pc := 10) C dJ0_init_031fb_10 2 rfl ?_
  refine J_putF (tt := .byte) (pc := 11) C dJ0_init_031fb_11 jf_J0 0 rfl rfl 1 (by decide) rfl fl_RJ0_15 rfl hnm rfl (by decide +kernel) (by decide +kernel) (by decide +kernel) (Nat.le_of_ble_eq_true rfl) ?_
  refine J_ws (ws2 := [(q, .inr (11, [.ref r, .int 0, .int 0, .int 0])), (r, .inl (cB, n, .inl g))]) rfl ?_
  refine J_widen (k2 := 0) (n2 := 0) (by first | exact Nat.le_of_ble_eq_true rfl | omega | (dsimp only; omega)) (by first | exact Nat.le_of_ble_eq_true rfl | omega | (dsimp only; omega)) ?_
  exact J_vret (pc := 14) C dJ0_init_031fb_14 hr ⟨rfl, rfl⟩

theorem dJ1_newString_b4f7a_0 : decode cJ1_newString_b4f7a 0 = .ok (.iload_n 2, 1) := by decide +kernel
theorem dJ1_newString_b4f7a_1 : decode cJ1_newString_b4f7a 1 = .ok (.ifCond .ne 6, 3) := by decide +kernel
theorem dJ1_newString_b4f7a_4 : decode cJ1_newString_b4f7a 4 = .ok (.ldc 151, 2) := by decide +kernel
theorem dJ1_newString_b4f7a_6 : decode cJ1_newString_b4f7a 6 = .ok (.areturn, 1) := by decide +kernel
theorem dJ1_newString_b4f7a_7 : decode cJ1_newString_b4f7a 7 = .ok (.new 1, 3) := by decide +kernel
theorem dJ1_newString_b4f7a_10 : decode cJ1_newString_b4f7a 10 = .ok (.dup, 1) := by decide +kernel
theorem dJ1_newString_b4f7a_11 : decode cJ1_newString_b4f7a 11 = .ok (.aload_n 0, 1) := by decide +kernel
theorem dJ1_newString_b4f7a_12 : decode cJ1_newString_b4f7a 12 = .ok (.iload_n 1, 1) := by decide +kernel
theorem dJ1_newString_b4f7a_13 : decode cJ1_newString_b4f7a 13 = .ok (.iload_n 1, 1) := by decide +kernel
theorem dJ1_newString_b4f7a_14 : decode cJ1_newString_b4f7a 14 = .ok (.iload_n 2, 1) := by decide +kernel
theorem dJ1_newString_b4f7a_15 : decode cJ1_newString_b4f7a 15 = .ok (.iadd, 1) := by decide +kernel
theorem dJ1_newString_b4f7a_16 : decode cJ1_newString_b4f7a 16 = .ok (.invokestatic 232, 3) := by decide +kernel
theorem dJ1_newString_b4f7a_19 : decode cJ1_newString_b4f7a 19 = .ok (.iconst 0, 1) := by decide +kernel
theorem dJ1_newString_b4f7a_20 : decode cJ1_newString_b4f7a 20 = .ok (.invokespecial 112, 3) := by decide +kernel
theorem dJ1_newString_b4f7a_23 : decode cJ1_newString_b4f7a 23 = .ok (.areturn, 1) := by decide +kernel

set_option maxHeartbeats 4000000 in
set_option maxRecDepth 100000 in
theorem c_nStr (l : Launch) (D : va_G) (cI cB cL cO : ClassId) (pf : Nat → Nat) (u b e : Nat) (t : List Nat) (ht : AS t) (h1 : b < e) (h2 : e ≤ t.length) (hn : t.length ≤ 4096) : Ct l D [(cI, .int), (cB, .byte), (cL, .byte), (cO, .object RX0)] pf yJ1_newString_b4f7a cJ1_newString_b4f7a 3 (some (FieldType.object "java/lang/String")) { frames := 3, cells := 2, slots := 4100, locals := 106 } [.ref u, .int (nI b), .int (nI (e - b))] [(u, .inl (cB, t.length, .inl (bN t)))] (fun V w => ∃ q r, V = some (.ref q) ∧ w = [(u, .inl (cB, t.length, .inl (bN t))), (q, .inr (11, [.ref r, .int 0, .int 0, .int 0])), (r, .inl (cB, (e - b), .inl (bN ((t.drop b).take (e - b)))))]) := by
  refine Ct_of (own := RJ1) (lv0 := [(0, .ref u), (1, .int (nI b)), (2, .int (nI (e - b)))]) (by decide) rfl rfl (Nat.le_of_ble_eq_true rfl) ?_
  intro pZ eZ sZ mZ argsZ belowZ methZ cZ C hr hnm
  refine J_iload_n (pc := 0) C dJ1_newString_b4f7a_0 2 rfl ?_
  refine J_if_ne (α := Unit) (o := ()) (X := none) (Y := some ()) (pc := 1) (tgt := 7) C dJ1_newString_b4f7a_1 (by decide) (if_neg (fun z => by have := (nI_eq (by omega) (by decide)).mp (show nI (e - b) = nI 0 from z); omega)) (fun _ => ?_) (fun h => by cases h)
  refine J_new (ci := 11) (fs := [.null, .int 0, .int 0, .int 0]) (pc := 7) C dJ1_newString_b4f7a_7 jf_J0 clk_RJ1_1 ins_RJ0 ini_RJ0 rfl df_J0 ⟨(by first | exact Nat.le_of_ble_eq_true rfl | omega | (dsimp only; omega)), (by first | exact Nat.le_of_ble_eq_true rfl | omega | (dsimp only; omega))⟩ (fun q => ?_)
  refine J_ws (ws2 := [(u, .inl (cB, t.length, .inl (bN t))), (q, .inr (11, [.null, .int 0, .int 0, .int 0]))]) rfl ?_
  refine J_dupr (pc := 10) C dJ1_newString_b4f7a_10 ?_
  refine J_aload_n (pc := 11) C dJ1_newString_b4f7a_11 0 rfl ?_
  refine J_iload_n (pc := 12) C dJ1_newString_b4f7a_12 1 rfl ?_
  refine J_iload_n (pc := 13) C dJ1_newString_b4f7a_13 1 rfl ?_
  refine J_iload_n (pc := 14) C dJ1_newString_b4f7a_14 2 rfl ?_
  refine J_iadd (pc := 15) C dJ1_newString_b4f7a_15 ?_
  refine J_top (α := Unit) (X := none) (nI e) (by rw [nI_add, show b + (e - b) = e by omega]) ?_
  refine J_csF (b := 0) (As := [.ref u, .int (nI b), .int (nI e)]) (st := [.ref q, .ref q]) (pc := 16) C dJ1_newString_b4f7a_16 ml_RJ1_232 mi_yJ7_copyOfRange_39247 (c_cpR l D cI cB cL cO pf u t.length b e t ht (Nat.le_refl _) (by omega) h2 hn) [(q, .inr (11, [.null, .int 0, .int 0, .int 0]))] (permN [0] [1] 2 rfl rfl rfl (by decide)) rfl ⟨(Nat.le_of_ble_eq_true rfl), (Nat.le_of_ble_eq_true rfl)⟩ ⟨(by first | exact Nat.le_of_ble_eq_true rfl | omega | (dsimp only; omega)), (by first | exact Nat.le_of_ble_eq_true rfl | omega | (dsimp only; omega))⟩ (Nat.le_of_ble_eq_true rfl) ?_
  rintro v w1 ⟨r, rfl, rfl⟩
  refine J_ws (ws2 := [(u, .inl (cB, t.length, .inl (bN t))), (r, .inl (cB, (e - b), .inl (bN ((t.drop b).take (e - b))))), (q, .inr (11, [.null, .int 0, .int 0, .int 0]))]) rfl ?_
  refine J_iconst (v := (0 : Int32)) (pc := 19) C dJ1_newString_b4f7a_19 (by decide) ?_
  refine J_ciF (As := [.ref r, .int (0 : Int32)]) (st := [.ref q]) (pc := 20) C dJ1_newString_b4f7a_20 ml_RJ1_112 mi_yJ0_init_031fb (c_StrBB l D cI cB cL cO pf q r (e - b) (bN ((t.drop b).take (e - b)))) [(u, .inl (cB, t.length, .inl (bN t)))] (permN [2, 1] [0] 3 rfl rfl rfl (by decide)) rfl ⟨(Nat.le_of_ble_eq_true rfl), (Nat.le_of_ble_eq_true rfl)⟩ ⟨(by first | exact Nat.le_of_ble_eq_true rfl | omega | (dsimp only; omega)), (by first | exact Nat.le_of_ble_eq_true rfl | omega | (dsimp only; omega))⟩ (Nat.le_of_ble_eq_true rfl) ?_
  rintro v w1 ⟨rfl, rfl⟩
  refine J_ws (ws2 := [(q, .inr (11, [.ref r, .int 0, .int 0, .int 0])), (r, .inl (cB, (e - b), .inl (bN ((t.drop b).take (e - b))))), (u, .inl (cB, t.length, .inl (bN t)))]) rfl ?_
  refine J_drop (ws2 := [(u, .inl (cB, t.length, .inl (bN t))), (q, .inr (11, [.ref r, .int 0, .int 0, .int 0])), (r, .inl (cB, (e - b), .inl (bN ((t.drop b).take (e - b)))))]) (Wr := []) (permN [2, 0, 1] [] 3 rfl rfl rfl (by decide)) ?_
  refine J_widen (k2 := 2) (n2 := 4100) (by first | exact Nat.le_of_ble_eq_true rfl | omega | (dsimp only; omega)) (by first | exact Nat.le_of_ble_eq_true rfl | omega | (dsimp only; omega)) ?_
  exact J_aret (pc := 23) C dJ1_newString_b4f7a_23 hr (by first | exact Or.inl ⟨_, rfl⟩ | exact Or.inr ⟨_, rfl⟩) (Or.inr ⟨_, rfl⟩) ⟨q, r, rfl, rfl⟩

set_option maxHeartbeats 4000000 in
set_option maxRecDepth 100000 in
theorem c_nStr0 (l : Launch) (D : va_G) (cI cB cL cO : ClassId) (pf : Nat → Nat) (u b : Nat) (t : List Nat) : Ct l D [(cI, .int), (cB, .byte), (cL, .byte), (cO, .object RX0)] pf yJ1_newString_b4f7a cJ1_newString_b4f7a 3 (some (FieldType.object "java/lang/String")) { frames := 0, cells := 0, slots := 0, locals := 0 } [.ref u, .int (nI b), .int (nI 0)] [(u, .inl (cB, t.length, .inl (bN t)))] (is1 (some (.ref (pf 18))) [(u, .inl (cB, t.length, .inl (bN t)))]) := by
  refine Ct_of (own := RJ1) (lv0 := [(0, .ref u), (1, .int (nI b)), (2, .int (nI 0))]) (by decide) rfl rfl (Nat.le_of_ble_eq_true rfl) ?_
  intro pZ eZ sZ mZ argsZ belowZ methZ cZ C hr hnm
  refine J_iload_n (pc := 0) C dJ1_newString_b4f7a_0 2 rfl ?_
  refine J_if_ne (α := Unit) (o := ()) (X := some ()) (Y := none) (pc := 1) (tgt := 7) C dJ1_newString_b4f7a_1 (by decide) (if_pos rfl) (fun h => by cases h) (fun _ => ?_)
  refine J_ldcS (pc := 4) C dJ1_newString_b4f7a_4 38 rfl ?_
  refine J_widen (k2 := 0) (n2 := 0) (by first | exact Nat.le_of_ble_eq_true rfl | omega | (dsimp only; omega)) (by first | exact Nat.le_of_ble_eq_true rfl | omega | (dsimp only; omega)) ?_
  exact J_aret (pc := 6) C dJ1_newString_b4f7a_6 hr (by first | exact Or.inl ⟨_, rfl⟩ | exact Or.inr ⟨_, rfl⟩) (Or.inr ⟨_, rfl⟩) ⟨rfl, rfl⟩


set_option maxHeartbeats 4000000 in
set_option maxRecDepth 100000 in
theorem c_misL (l : Launch) (D : va_G) (cI cB cL cO : ClassId) (pf : Nat → Nat) (b0 u : Nat) : Ct l D [(cI, .int), (cB, .byte), (cL, .byte), (cO, .object RX0)] pf yJ0_isLatin1_aae02 cJ0_isLatin1_aae02 1 (some FieldType.boolean) { frames := 0, cells := 0, slots := 0, locals := 0 } [.ref b0] [(b0, .inr (11, [.ref u, .int 0, .int 0, .int 0]))] (is1 (some (.int 1)) [(b0, .inr (11, [.ref u, .int 0, .int 0, .int 0]))]) := by
  refine Ct_of (own := RJ0) (lv0 := [(0, .ref b0)]) (by decide) rfl rfl (Nat.le_of_ble_eq_true rfl) ?_
  intro pZ eZ sZ mZ argsZ belowZ methZ cZ C hr hnm
  refine J_gcs (pc := 0) C dJ0_isLatin1_aae02_0 fl_RJ0_38 ?_
  refine J_if_eq (α := Unit) (o := ()) (X := none) (Y := some ()) (pc := 3) (tgt := 17) C dJ0_isLatin1_aae02_3 (by decide) (if_neg (by decide)) (fun h => by cases h) (fun _ => ?_)
  refine J_aload_n (pc := 6) C dJ0_isLatin1_aae02_6 0 rfl ?_
  refine J_getA (pc := 7) C dJ0_isLatin1_aae02_7 jf_J0 0 rfl rfl 1 (by decide) fl_RJ0_15 rfl ?_
  refine J_if_ne (α := Unit) (o := ()) (X := some ()) (Y := none) (pc := 10) (tgt := 17) C dJ0_isLatin1_aae02_10 (by decide) (if_pos rfl) (fun h => by cases h) (fun _ => ?_)
  refine J_iconst (v := (1 : Int32)) (pc := 13) C dJ0_isLatin1_aae02_13 (by decide) ?_
  refine J_goto (tgt := 18) (pc := 14) C dJ0_isLatin1_aae02_14 (by decide) ?_
  refine J_widen (k2 := 0) (n2 := 0) (by first | exact Nat.le_of_ble_eq_true rfl | omega | (dsimp only; omega)) (by first | exact Nat.le_of_ble_eq_true rfl | omega | (dsimp only; omega)) ?_
  exact J_zret (pc := 18) C dJ0_isLatin1_aae02_18 hr rfl ⟨rfl, rfl⟩

theorem dJ0_substring_37a41_0 : decode cJ0_substring_37a41 0 = .ok (.aload_n 0, 1) := by decide +kernel
theorem dJ0_substring_37a41_1 : decode cJ0_substring_37a41 1 = .ok (.invokevirtual 505, 3) := by decide +kernel
theorem dJ0_substring_37a41_4 : decode cJ0_substring_37a41 4 = .ok (.istore_n 3, 1) := by decide +kernel
theorem dJ0_substring_37a41_5 : decode cJ0_substring_37a41 5 = .ok (.iload_n 1, 1) := by decide +kernel
theorem dJ0_substring_37a41_6 : decode cJ0_substring_37a41 6 = .ok (.iload_n 2, 1) := by decide +kernel
theorem dJ0_substring_37a41_7 : decode cJ0_substring_37a41 7 = .ok (.iload_n 3, 1) := by decide +kernel
theorem dJ0_substring_37a41_8 : decode cJ0_substring_37a41 8 = .ok (.invokestatic 521, 3) := by decide +kernel
theorem dJ0_substring_37a41_11 : decode cJ0_substring_37a41 11 = .ok (.iload_n 1, 1) := by decide +kernel
theorem dJ0_substring_37a41_12 : decode cJ0_substring_37a41 12 = .ok (.ifCond .ne 10, 3) := by decide +kernel
theorem dJ0_substring_37a41_15 : decode cJ0_substring_37a41 15 = .ok (.iload_n 2, 1) := by decide +kernel
theorem dJ0_substring_37a41_16 : decode cJ0_substring_37a41 16 = .ok (.iload_n 3, 1) := by decide +kernel
theorem dJ0_substring_37a41_17 : decode cJ0_substring_37a41 17 = .ok (.if_icmp .ne 5, 3) := by decide +kernel
theorem dJ0_substring_37a41_20 : decode cJ0_substring_37a41 20 = .ok (.aload_n 0, 1) := by decide +kernel
theorem dJ0_substring_37a41_21 : decode cJ0_substring_37a41 21 = .ok (.areturn, 1) := by decide +kernel
theorem dJ0_substring_37a41_22 : decode cJ0_substring_37a41 22 = .ok (.iload_n 2, 1) := by decide +kernel
theorem dJ0_substring_37a41_23 : decode cJ0_substring_37a41 23 = .ok (.iload_n 1, 1) := by decide +kernel
theorem dJ0_substring_37a41_24 : decode cJ0_substring_37a41 24 = .ok (.isub, 1) := by decide +kernel
theorem dJ0_substring_37a41_25 : decode cJ0_substring_37a41 25 = .ok (.istore 4, 2) := by decide +kernel
theorem dJ0_substring_37a41_27 : decode cJ0_substring_37a41 27 = .ok (.aload_n 0, 1) := by decide +kernel
theorem dJ0_substring_37a41_28 : decode cJ0_substring_37a41 28 = .ok (.invokevirtual 492, 3) := by decide +kernel
theorem dJ0_substring_37a41_31 : decode cJ0_substring_37a41 31 = .ok (.ifCond .eq 16, 3) := by decide +kernel
theorem dJ0_substring_37a41_34 : decode cJ0_substring_37a41 34 = .ok (.aload_n 0, 1) := by decide +kernel
theorem dJ0_substring_37a41_35 : decode cJ0_substring_37a41 35 = .ok (.getfield 9, 3) := by decide +kernel
theorem dJ0_substring_37a41_38 : decode cJ0_substring_37a41 38 = .ok (.iload_n 1, 1) := by decide +kernel
theorem dJ0_substring_37a41_39 : decode cJ0_substring_37a41 39 = .ok (.iload 4, 2) := by decide +kernel
theorem dJ0_substring_37a41_41 : decode cJ0_substring_37a41 41 = .ok (.invokestatic 685, 3) := by decide +kernel
theorem dJ0_substring_37a41_44 : decode cJ0_substring_37a41 44 = .ok (.goto 13, 3) := by decide +kernel
theorem dJ0_substring_37a41_47 : decode cJ0_substring_37a41 47 = .ok (.aload_n 0, 1) := by decide +kernel
theorem dJ0_substring_37a41_48 : decode cJ0_substring_37a41 48 = .ok (.getfield 9, 3) := by decide +kernel
theorem dJ0_substring_37a41_51 : decode cJ0_substring_37a41 51 = .ok (.iload_n 1, 1) := by decide +kernel
theorem dJ0_substring_37a41_52 : decode cJ0_substring_37a41 52 = .ok (.iload 4, 2) := by decide +kernel
theorem dJ0_substring_37a41_54 : decode cJ0_substring_37a41 54 = .ok (.invokestatic 689, 3) := by decide +kernel
theorem dJ0_substring_37a41_57 : decode cJ0_substring_37a41 57 = .ok (.areturn, 1) := by decide +kernel

set_option maxHeartbeats 4000000 in
set_option maxRecDepth 100000 in
theorem c_sub (l : Launch) (D : va_G) (cI cB cL cO : ClassId) (pf : Nat → Nat) (b0 u b e : Nat) (t : List Nat) (ht : AS t) (h1 : b < e) (h2 : e ≤ t.length) (h3 : ¬ (b = 0 ∧ e = t.length)) (hn : t.length ≤ 4096) : Ct l D [(cI, .int), (cB, .byte), (cL, .byte), (cO, .object RX0)] pf yJ0_substring_37a41 cJ0_substring_37a41 5 (some (FieldType.object "java/lang/String")) { frames := 4, cells := 2, slots := 4100, locals := 128 } [.ref b0, .int (nI b), .int (nI e)] [(b0, .inr (11, [.ref u, .int 0, .int 0, .int 0])), (u, .inl (cB, t.length, .inl (bN t)))] (fun V w => ∃ q r, V = some (.ref q) ∧ w = [(b0, .inr (11, [.ref u, .int 0, .int 0, .int 0])), (u, .inl (cB, t.length, .inl (bN t))), (q, .inr (11, [.ref r, .int 0, .int 0, .int 0])), (r, .inl (cB, (e - b), .inl (bN ((t.drop b).take (e - b)))))]) := by
  refine Ct_of (own := RJ0) (lv0 := [(0, .ref b0), (1, .int (nI b)), (2, .int (nI e))]) (by decide) rfl rfl (Nat.le_of_ble_eq_true rfl) ?_
  intro pZ eZ sZ mZ argsZ belowZ methZ cZ C hr hnm
  have hd : ¬ b = 0 ∨ (b = 0 ∧ ¬ e = t.length) := by omega
  rcases hd with h4 | ⟨h4, h5⟩
  · refine J_aload_n (pc := 0) C dJ0_substring_37a41_0 0 rfl ?_
    refine J_cvF (As := []) (st := []) (pc := 1) C dJ0_substring_37a41_1 ml_RJ0_505 mi_yJ0_length_8abf5 (c_mlen l D cI cB cL cO pf b0 u t) [] (permN [0, 1] [] 2 rfl rfl rfl (by decide)) (q0 := 0) rfl rfl rfl ⟨(Nat.le_of_ble_eq_true rfl), (Nat.le_of_ble_eq_true rfl)⟩ ⟨(by first | exact Nat.le_of_ble_eq_true rfl | omega | (dsimp only; omega)), (by first | exact Nat.le_of_ble_eq_true rfl | omega | (dsimp only; omega))⟩ (Nat.le_of_ble_eq_true rfl) ?_
    rintro v w1 ⟨rfl, rfl⟩
    refine J_ws (ws2 := [(b0, .inr (11, [.ref u, .int 0, .int 0, .int 0])), (u, .inl (cB, t.length, .inl (bN t)))]) rfl ?_
    refine J_istore_n (lv2 := [(3, .int (nI t.length)), (0, .ref b0), (1, .int (nI b)), (2, .int (nI e))]) (pc := 4) C dJ0_substring_37a41_4 (by decide) rfl ?_
    refine J_iload_n (pc := 5) C dJ0_substring_37a41_5 2 rfl ?_
    refine J_iload_n (pc := 6) C dJ0_substring_37a41_6 3 rfl ?_
    refine J_iload_n (pc := 7) C dJ0_substring_37a41_7 0 rfl ?_
    refine J_csF (b := 0) (As := [.int (nI b), .int (nI e), .int (nI t.length)]) (st := []) (pc := 8) C dJ0_substring_37a41_8 ml_RJ0_521 mi_yJ0_checkBoundsBeginEnd_23922 (c_cBBE l D cI cB cL cO pf b e t.length (by omega) h2 (by omega)) [(b0, .inr (11, [.ref u, .int 0, .int 0, .int 0])), (u, .inl (cB, t.length, .inl (bN t)))] (permN [] [0, 1] 2 rfl rfl rfl (by decide)) rfl ⟨(Nat.le_of_ble_eq_true rfl), (Nat.le_of_ble_eq_true rfl)⟩ ⟨(by first | exact Nat.le_of_ble_eq_true rfl | omega | (dsimp only; omega)), (by first | exact Nat.le_of_ble_eq_true rfl | omega | (dsimp only; omega))⟩ (Nat.le_of_ble_eq_true rfl) ?_
    rintro v w1 ⟨rfl, rfl⟩
    refine J_ws (ws2 := [(b0, .inr (11, [.ref u, .int 0, .int 0, .int 0])), (u, .inl (cB, t.length, .inl (bN t)))]) rfl ?_
    refine J_iload_n (pc := 11) C dJ0_substring_37a41_11 2 rfl ?_
    refine J_if_ne (α := Unit) (o := ()) (X := none) (Y := some ()) (pc := 12) (tgt := 22) C dJ0_substring_37a41_12 (by decide) (if_neg (fun z => by have := (nI_eq (by omega) (by decide)).mp (show nI b = nI 0 from z); omega)) (fun _ => ?_) (fun h => by cases h)
    refine J_iload_n (pc := 22) C dJ0_substring_37a41_22 3 rfl ?_
    refine J_iload_n (pc := 23) C dJ0_substring_37a41_23 2 rfl ?_
    refine J_isub (pc := 24) C dJ0_substring_37a41_24 ?_
    refine J_top (α := Unit) (X := none) (nI (e - b)) (pk_sub (by omega)) ?_
    refine J_istore (lv2 := [(4, .int (nI (e - b))), (3, .int (nI t.length)), (0, .ref b0), (1, .int (nI b)), (2, .int (nI e))]) (pc := 25) C dJ0_substring_37a41_25 (by decide) rfl ?_
    refine J_aload_n (pc := 27) C dJ0_substring_37a41_27 2 rfl ?_
    refine J_cvF (As := []) (st := []) (pc := 28) C dJ0_substring_37a41_28 ml_RJ0_492 mi_yJ0_isLatin1_aae02 (c_misL l D cI cB cL cO pf b0 u) [(u, .inl (cB, t.length, .inl (bN t)))] (permN [0] [1] 2 rfl rfl rfl (by decide)) (q0 := 0) rfl rfl rfl ⟨(Nat.le_of_ble_eq_true rfl), (Nat.le_of_ble_eq_true rfl)⟩ ⟨(by first | exact Nat.le_of_ble_eq_true rfl | omega | (dsimp only; omega)), (by first | exact Nat.le_of_ble_eq_true rfl | omega | (dsimp only; omega))⟩ (Nat.le_of_ble_eq_true rfl) ?_
    rintro v w1 ⟨rfl, rfl⟩
    refine J_ws (ws2 := [(b0, .inr (11, [.ref u, .int 0, .int 0, .int 0])), (u, .inl (cB, t.length, .inl (bN t)))]) rfl ?_
    refine J_drop (ws2 := [(b0, .inr (11, [.ref u, .int 0, .int 0, .int 0])), (u, .inl (cB, t.length, .inl (bN t)))]) (Wr := []) (permN [0, 1] [] 2 rfl rfl rfl (by decide)) ?_
    refine J_if_eq (α := Unit) (o := ()) (X := none) (Y := some ()) (pc := 31) (tgt := 47) C dJ0_substring_37a41_31 (by decide) (if_neg (by decide)) (fun h => by cases h) (fun _ => ?_)
    refine J_aload_n (pc := 34) C dJ0_substring_37a41_34 2 rfl ?_
    refine J_getA (pc := 35) C dJ0_substring_37a41_35 jf_J0 0 rfl rfl 0 (by decide) fl_RJ0_9 rfl ?_
    refine J_iload_n (pc := 38) C dJ0_substring_37a41_38 3 rfl ?_
    refine J_iload (pc := 39) C dJ0_substring_37a41_39 0 rfl ?_
    refine J_csF (b := 0) (As := [.ref u, .int (nI b), .int (nI (e - b))]) (st := []) (pc := 41) C dJ0_substring_37a41_41 ml_RJ0_685 mi_yJ1_newString_b4f7a (c_nStr l D cI cB cL cO pf u b e t ht h1 h2 hn) [(b0, .inr (11, [.ref u, .int 0, .int 0, .int 0]))] (permN [1] [0] 2 rfl rfl rfl (by decide)) rfl ⟨(Nat.le_of_ble_eq_true rfl), (Nat.le_of_ble_eq_true rfl)⟩ ⟨(by first | exact Nat.le_of_ble_eq_true rfl | omega | (dsimp only; omega)), (by first | exact Nat.le_of_ble_eq_true rfl | omega | (dsimp only; omega))⟩ (Nat.le_of_ble_eq_true rfl) ?_
    rintro v w1 ⟨q, r, rfl, rfl⟩
    refine J_ws (ws2 := [(u, .inl (cB, t.length, .inl (bN t))), (q, .inr (11, [.ref r, .int 0, .int 0, .int 0])), (r, .inl (cB, (e - b), .inl (bN ((t.drop b).take (e - b))))), (b0, .inr (11, [.ref u, .int 0, .int 0, .int 0]))]) rfl ?_
    refine J_drop (ws2 := [(b0, .inr (11, [.ref u, .int 0, .int 0, .int 0])), (u, .inl (cB, t.length, .inl (bN t))), (q, .inr (11, [.ref r, .int 0, .int 0, .int 0])), (r, .inl (cB, (e - b), .inl (bN ((t.drop b).take (e - b)))))]) (Wr := []) (permN [3, 0, 1, 2] [] 4 rfl rfl rfl (by decide)) ?_
    refine J_goto (tgt := 57) (pc := 44) C dJ0_substring_37a41_44 (by decide) ?_
    refine J_widen (k2 := 2) (n2 := 4100) (by first | exact Nat.le_of_ble_eq_true rfl | omega | (dsimp only; omega)) (by first | exact Nat.le_of_ble_eq_true rfl | omega | (dsimp only; omega)) ?_
    exact J_aret (pc := 57) C dJ0_substring_37a41_57 hr (by first | exact Or.inl ⟨_, rfl⟩ | exact Or.inr ⟨_, rfl⟩) (Or.inr ⟨_, rfl⟩) ⟨q, r, rfl, rfl⟩
  · refine J_aload_n (pc := 0) C dJ0_substring_37a41_0 0 rfl ?_
    refine J_cvF (As := []) (st := []) (pc := 1) C dJ0_substring_37a41_1 ml_RJ0_505 mi_yJ0_length_8abf5 (c_mlen l D cI cB cL cO pf b0 u t) [] (permN [0, 1] [] 2 rfl rfl rfl (by decide)) (q0 := 0) rfl rfl rfl ⟨(Nat.le_of_ble_eq_true rfl), (Nat.le_of_ble_eq_true rfl)⟩ ⟨(by first | exact Nat.le_of_ble_eq_true rfl | omega | (dsimp only; omega)), (by first | exact Nat.le_of_ble_eq_true rfl | omega | (dsimp only; omega))⟩ (Nat.le_of_ble_eq_true rfl) ?_
    rintro v w1 ⟨rfl, rfl⟩
    refine J_ws (ws2 := [(b0, .inr (11, [.ref u, .int 0, .int 0, .int 0])), (u, .inl (cB, t.length, .inl (bN t)))]) rfl ?_
    refine J_istore_n (lv2 := [(3, .int (nI t.length)), (0, .ref b0), (1, .int (nI b)), (2, .int (nI e))]) (pc := 4) C dJ0_substring_37a41_4 (by decide) rfl ?_
    refine J_iload_n (pc := 5) C dJ0_substring_37a41_5 2 rfl ?_
    refine J_iload_n (pc := 6) C dJ0_substring_37a41_6 3 rfl ?_
    refine J_iload_n (pc := 7) C dJ0_substring_37a41_7 0 rfl ?_
    refine J_csF (b := 0) (As := [.int (nI b), .int (nI e), .int (nI t.length)]) (st := []) (pc := 8) C dJ0_substring_37a41_8 ml_RJ0_521 mi_yJ0_checkBoundsBeginEnd_23922 (c_cBBE l D cI cB cL cO pf b e t.length (by omega) h2 (by omega)) [(b0, .inr (11, [.ref u, .int 0, .int 0, .int 0])), (u, .inl (cB, t.length, .inl (bN t)))] (permN [] [0, 1] 2 rfl rfl rfl (by decide)) rfl ⟨(Nat.le_of_ble_eq_true rfl), (Nat.le_of_ble_eq_true rfl)⟩ ⟨(by first | exact Nat.le_of_ble_eq_true rfl | omega | (dsimp only; omega)), (by first | exact Nat.le_of_ble_eq_true rfl | omega | (dsimp only; omega))⟩ (Nat.le_of_ble_eq_true rfl) ?_
    rintro v w1 ⟨rfl, rfl⟩
    refine J_ws (ws2 := [(b0, .inr (11, [.ref u, .int 0, .int 0, .int 0])), (u, .inl (cB, t.length, .inl (bN t)))]) rfl ?_
    refine J_iload_n (pc := 11) C dJ0_substring_37a41_11 2 rfl ?_
    refine J_if_ne (α := Unit) (o := ()) (X := some ()) (Y := none) (pc := 12) (tgt := 22) C dJ0_substring_37a41_12 (by decide) (if_pos (by rw [h4]; rfl)) (fun h => by cases h) (fun _ => ?_)
    refine J_iload_n (pc := 15) C dJ0_substring_37a41_15 3 rfl ?_
    refine J_iload_n (pc := 16) C dJ0_substring_37a41_16 0 rfl ?_
    refine J_ic_ne (α := Unit) (o := ()) (X := none) (Y := some ()) (pc := 17) (tgt := 22) C dJ0_substring_37a41_17 (by decide) (if_neg (fun z => by have := (nI_eq (by omega) (by omega)).mp z; omega)) (fun _ => ?_) (fun h => by cases h)
    refine J_iload_n (pc := 22) C dJ0_substring_37a41_22 3 rfl ?_
    refine J_iload_n (pc := 23) C dJ0_substring_37a41_23 2 rfl ?_
    refine J_isub (pc := 24) C dJ0_substring_37a41_24 ?_
    refine J_top (α := Unit) (X := none) (nI (e - b)) (pk_sub (by omega)) ?_
    refine J_istore (lv2 := [(4, .int (nI (e - b))), (3, .int (nI t.length)), (0, .ref b0), (1, .int (nI b)), (2, .int (nI e))]) (pc := 25) C dJ0_substring_37a41_25 (by decide) rfl ?_
    refine J_aload_n (pc := 27) C dJ0_substring_37a41_27 2 rfl ?_
    refine J_cvF (As := []) (st := []) (pc := 28) C dJ0_substring_37a41_28 ml_RJ0_492 mi_yJ0_isLatin1_aae02 (c_misL l D cI cB cL cO pf b0 u) [(u, .inl (cB, t.length, .inl (bN t)))] (permN [0] [1] 2 rfl rfl rfl (by decide)) (q0 := 0) rfl rfl rfl ⟨(Nat.le_of_ble_eq_true rfl), (Nat.le_of_ble_eq_true rfl)⟩ ⟨(by first | exact Nat.le_of_ble_eq_true rfl | omega | (dsimp only; omega)), (by first | exact Nat.le_of_ble_eq_true rfl | omega | (dsimp only; omega))⟩ (Nat.le_of_ble_eq_true rfl) ?_
    rintro v w1 ⟨rfl, rfl⟩
    refine J_ws (ws2 := [(b0, .inr (11, [.ref u, .int 0, .int 0, .int 0])), (u, .inl (cB, t.length, .inl (bN t)))]) rfl ?_
    refine J_drop (ws2 := [(b0, .inr (11, [.ref u, .int 0, .int 0, .int 0])), (u, .inl (cB, t.length, .inl (bN t)))]) (Wr := []) (permN [0, 1] [] 2 rfl rfl rfl (by decide)) ?_
    refine J_if_eq (α := Unit) (o := ()) (X := none) (Y := some ()) (pc := 31) (tgt := 47) C dJ0_substring_37a41_31 (by decide) (if_neg (by decide)) (fun h => by cases h) (fun _ => ?_)
    refine J_aload_n (pc := 34) C dJ0_substring_37a41_34 2 rfl ?_
    refine J_getA (pc := 35) C dJ0_substring_37a41_35 jf_J0 0 rfl rfl 0 (by decide) fl_RJ0_9 rfl ?_
    refine J_iload_n (pc := 38) C dJ0_substring_37a41_38 3 rfl ?_
    refine J_iload (pc := 39) C dJ0_substring_37a41_39 0 rfl ?_
    refine J_csF (b := 0) (As := [.ref u, .int (nI b), .int (nI (e - b))]) (st := []) (pc := 41) C dJ0_substring_37a41_41 ml_RJ0_685 mi_yJ1_newString_b4f7a (c_nStr l D cI cB cL cO pf u b e t ht h1 h2 hn) [(b0, .inr (11, [.ref u, .int 0, .int 0, .int 0]))] (permN [1] [0] 2 rfl rfl rfl (by decide)) rfl ⟨(Nat.le_of_ble_eq_true rfl), (Nat.le_of_ble_eq_true rfl)⟩ ⟨(by first | exact Nat.le_of_ble_eq_true rfl | omega | (dsimp only; omega)), (by first | exact Nat.le_of_ble_eq_true rfl | omega | (dsimp only; omega))⟩ (Nat.le_of_ble_eq_true rfl) ?_
    rintro v w1 ⟨q, r, rfl, rfl⟩
    refine J_ws (ws2 := [(u, .inl (cB, t.length, .inl (bN t))), (q, .inr (11, [.ref r, .int 0, .int 0, .int 0])), (r, .inl (cB, (e - b), .inl (bN ((t.drop b).take (e - b))))), (b0, .inr (11, [.ref u, .int 0, .int 0, .int 0]))]) rfl ?_
    refine J_drop (ws2 := [(b0, .inr (11, [.ref u, .int 0, .int 0, .int 0])), (u, .inl (cB, t.length, .inl (bN t))), (q, .inr (11, [.ref r, .int 0, .int 0, .int 0])), (r, .inl (cB, (e - b), .inl (bN ((t.drop b).take (e - b)))))]) (Wr := []) (permN [3, 0, 1, 2] [] 4 rfl rfl rfl (by decide)) ?_
    refine J_goto (tgt := 57) (pc := 44) C dJ0_substring_37a41_44 (by decide) ?_
    refine J_widen (k2 := 2) (n2 := 4100) (by first | exact Nat.le_of_ble_eq_true rfl | omega | (dsimp only; omega)) (by first | exact Nat.le_of_ble_eq_true rfl | omega | (dsimp only; omega)) ?_
    exact J_aret (pc := 57) C dJ0_substring_37a41_57 hr (by first | exact Or.inl ⟨_, rfl⟩ | exact Or.inr ⟨_, rfl⟩) (Or.inr ⟨_, rfl⟩) ⟨q, r, rfl, rfl⟩

set_option maxHeartbeats 4000000 in
set_option maxRecDepth 100000 in
theorem c_sub0 (l : Launch) (D : va_G) (cI cB cL cO : ClassId) (pf : Nat → Nat) (b0 u : Nat) (t : List Nat) (h1 : 0 < t.length) (hn : t.length ≤ 4096) : Ct l D [(cI, .int), (cB, .byte), (cL, .byte), (cO, .object RX0)] pf yJ0_substring_37a41 cJ0_substring_37a41 5 (some (FieldType.object "java/lang/String")) { frames := 2, cells := 0, slots := 0, locals := 45 } [.ref b0, .int (nI 0), .int (nI 0)] [(b0, .inr (11, [.ref u, .int 0, .int 0, .int 0])), (u, .inl (cB, t.length, .inl (bN t)))] (is1 (some (.ref (pf 18))) [(b0, .inr (11, [.ref u, .int 0, .int 0, .int 0])), (u, .inl (cB, t.length, .inl (bN t)))]) := by
  refine Ct_of (own := RJ0) (lv0 := [(0, .ref b0), (1, .int (nI 0)), (2, .int (nI 0))]) (by decide) rfl rfl (Nat.le_of_ble_eq_true rfl) ?_
  intro pZ eZ sZ mZ argsZ belowZ methZ cZ C hr hnm
  refine J_aload_n (pc := 0) C dJ0_substring_37a41_0 0 rfl ?_
  refine J_cvF (As := []) (st := []) (pc := 1) C dJ0_substring_37a41_1 ml_RJ0_505 mi_yJ0_length_8abf5 (c_mlen l D cI cB cL cO pf b0 u t) [] (permN [0, 1] [] 2 rfl rfl rfl (by decide)) (q0 := 0) rfl rfl rfl ⟨(Nat.le_of_ble_eq_true rfl), (Nat.le_of_ble_eq_true rfl)⟩ ⟨(by first | exact Nat.le_of_ble_eq_true rfl | omega | (dsimp only; omega)), (by first | exact Nat.le_of_ble_eq_true rfl | omega | (dsimp only; omega))⟩ (Nat.le_of_ble_eq_true rfl) ?_
  rintro v w1 ⟨rfl, rfl⟩
  refine J_ws (ws2 := [(b0, .inr (11, [.ref u, .int 0, .int 0, .int 0])), (u, .inl (cB, t.length, .inl (bN t)))]) rfl ?_
  refine J_istore_n (lv2 := [(3, .int (nI t.length)), (0, .ref b0), (1, .int (nI 0)), (2, .int (nI 0))]) (pc := 4) C dJ0_substring_37a41_4 (by decide) rfl ?_
  refine J_iload_n (pc := 5) C dJ0_substring_37a41_5 2 rfl ?_
  refine J_iload_n (pc := 6) C dJ0_substring_37a41_6 3 rfl ?_
  refine J_iload_n (pc := 7) C dJ0_substring_37a41_7 0 rfl ?_
  refine J_csF (b := 0) (As := [.int (nI 0), .int (nI 0), .int (nI t.length)]) (st := []) (pc := 8) C dJ0_substring_37a41_8 ml_RJ0_521 mi_yJ0_checkBoundsBeginEnd_23922 (c_cBBE l D cI cB cL cO pf 0 0 t.length (Nat.le_refl _) (Nat.zero_le _) (by omega)) [(b0, .inr (11, [.ref u, .int 0, .int 0, .int 0])), (u, .inl (cB, t.length, .inl (bN t)))] (permN [] [0, 1] 2 rfl rfl rfl (by decide)) rfl ⟨(Nat.le_of_ble_eq_true rfl), (Nat.le_of_ble_eq_true rfl)⟩ ⟨(by first | exact Nat.le_of_ble_eq_true rfl | omega | (dsimp only; omega)), (by first | exact Nat.le_of_ble_eq_true rfl | omega | (dsimp only; omega))⟩ (Nat.le_of_ble_eq_true rfl) ?_
  rintro v w1 ⟨rfl, rfl⟩
  refine J_ws (ws2 := [(b0, .inr (11, [.ref u, .int 0, .int 0, .int 0])), (u, .inl (cB, t.length, .inl (bN t)))]) rfl ?_
  refine J_iload_n (pc := 11) C dJ0_substring_37a41_11 2 rfl ?_
  refine J_if_ne (α := Unit) (o := ()) (X := some ()) (Y := none) (pc := 12) (tgt := 22) C dJ0_substring_37a41_12 (by decide) (if_pos rfl) (fun h => by cases h) (fun _ => ?_)
  refine J_iload_n (pc := 15) C dJ0_substring_37a41_15 3 rfl ?_
  refine J_iload_n (pc := 16) C dJ0_substring_37a41_16 0 rfl ?_
  refine J_ic_ne (α := Unit) (o := ()) (X := none) (Y := some ()) (pc := 17) (tgt := 22) C dJ0_substring_37a41_17 (by decide) (if_neg (fun z => by have := (nI_eq (by decide) (by omega)).mp z; omega)) (fun _ => ?_) (fun h => by cases h)
  refine J_iload_n (pc := 22) C dJ0_substring_37a41_22 3 rfl ?_
  refine J_iload_n (pc := 23) C dJ0_substring_37a41_23 2 rfl ?_
  refine J_isub (pc := 24) C dJ0_substring_37a41_24 ?_
  refine J_top (α := Unit) (X := none) (nI 0) rfl ?_
  refine J_istore (lv2 := [(4, .int (nI 0)), (3, .int (nI t.length)), (0, .ref b0), (1, .int (nI 0)), (2, .int (nI 0))]) (pc := 25) C dJ0_substring_37a41_25 (by decide) rfl ?_
  refine J_aload_n (pc := 27) C dJ0_substring_37a41_27 2 rfl ?_
  refine J_cvF (As := []) (st := []) (pc := 28) C dJ0_substring_37a41_28 ml_RJ0_492 mi_yJ0_isLatin1_aae02 (c_misL l D cI cB cL cO pf b0 u) [(u, .inl (cB, t.length, .inl (bN t)))] (permN [0] [1] 2 rfl rfl rfl (by decide)) (q0 := 0) rfl rfl rfl ⟨(Nat.le_of_ble_eq_true rfl), (Nat.le_of_ble_eq_true rfl)⟩ ⟨(by first | exact Nat.le_of_ble_eq_true rfl | omega | (dsimp only; omega)), (by first | exact Nat.le_of_ble_eq_true rfl | omega | (dsimp only; omega))⟩ (Nat.le_of_ble_eq_true rfl) ?_
  rintro v w1 ⟨rfl, rfl⟩
  refine J_ws (ws2 := [(b0, .inr (11, [.ref u, .int 0, .int 0, .int 0])), (u, .inl (cB, t.length, .inl (bN t)))]) rfl ?_
  refine J_drop (ws2 := [(b0, .inr (11, [.ref u, .int 0, .int 0, .int 0])), (u, .inl (cB, t.length, .inl (bN t)))]) (Wr := []) (permN [0, 1] [] 2 rfl rfl rfl (by decide)) ?_
  refine J_if_eq (α := Unit) (o := ()) (X := none) (Y := some ()) (pc := 31) (tgt := 47) C dJ0_substring_37a41_31 (by decide) (if_neg (by decide)) (fun h => by cases h) (fun _ => ?_)
  refine J_aload_n (pc := 34) C dJ0_substring_37a41_34 2 rfl ?_
  refine J_getA (pc := 35) C dJ0_substring_37a41_35 jf_J0 0 rfl rfl 0 (by decide) fl_RJ0_9 rfl ?_
  refine J_iload_n (pc := 38) C dJ0_substring_37a41_38 3 rfl ?_
  refine J_iload (pc := 39) C dJ0_substring_37a41_39 0 rfl ?_
  refine J_csF (b := 0) (As := [.ref u, .int (nI 0), .int (nI 0)]) (st := []) (pc := 41) C dJ0_substring_37a41_41 ml_RJ0_685 mi_yJ1_newString_b4f7a (c_nStr0 l D cI cB cL cO pf u 0 t) [(b0, .inr (11, [.ref u, .int 0, .int 0, .int 0]))] (permN [1] [0] 2 rfl rfl rfl (by decide)) rfl ⟨(Nat.le_of_ble_eq_true rfl), (Nat.le_of_ble_eq_true rfl)⟩ ⟨(by first | exact Nat.le_of_ble_eq_true rfl | omega | (dsimp only; omega)), (by first | exact Nat.le_of_ble_eq_true rfl | omega | (dsimp only; omega))⟩ (Nat.le_of_ble_eq_true rfl) ?_
  rintro v w1 ⟨rfl, rfl⟩
  refine J_ws (ws2 := [(u, .inl (cB, t.length, .inl (bN t))), (b0, .inr (11, [.ref u, .int 0, .int 0, .int 0]))]) rfl ?_
  refine J_drop (ws2 := [(b0, .inr (11, [.ref u, .int 0, .int 0, .int 0])), (u, .inl (cB, t.length, .inl (bN t)))]) (Wr := []) (permN [1, 0] [] 2 rfl rfl rfl (by decide)) ?_
  refine J_goto (tgt := 57) (pc := 44) C dJ0_substring_37a41_44 (by decide) ?_
  refine J_widen (k2 := 0) (n2 := 0) (by first | exact Nat.le_of_ble_eq_true rfl | omega | (dsimp only; omega)) (by first | exact Nat.le_of_ble_eq_true rfl | omega | (dsimp only; omega)) ?_
  exact J_aret (pc := 57) C dJ0_substring_37a41_57 hr (by first | exact Or.inl ⟨_, rfl⟩ | exact Or.inr ⟨_, rfl⟩) (Or.inr ⟨_, rfl⟩) ⟨rfl, rfl⟩

set_option maxHeartbeats 4000000 in
set_option maxRecDepth 100000 in
theorem c_subT (l : Launch) (D : va_G) (cI cB cL cO : ClassId) (pf : Nat → Nat) (b0 u : Nat) (t : List Nat) (hn : t.length ≤ 4096) : Ct l D [(cI, .int), (cB, .byte), (cL, .byte), (cO, .object RX0)] pf yJ0_substring_37a41 cJ0_substring_37a41 5 (some (FieldType.object "java/lang/String")) { frames := 2, cells := 0, slots := 0, locals := 45 } [.ref b0, .int (nI 0), .int (nI t.length)] [(b0, .inr (11, [.ref u, .int 0, .int 0, .int 0])), (u, .inl (cB, t.length, .inl (bN t)))] (is1 (some (.ref b0)) [(b0, .inr (11, [.ref u, .int 0, .int 0, .int 0])), (u, .inl (cB, t.length, .inl (bN t)))]) := by
  refine Ct_of (own := RJ0) (lv0 := [(0, .ref b0), (1, .int (nI 0)), (2, .int (nI t.length))]) (by decide) rfl rfl (Nat.le_of_ble_eq_true rfl) ?_
  intro pZ eZ sZ mZ argsZ belowZ methZ cZ C hr hnm
  refine J_aload_n (pc := 0) C dJ0_substring_37a41_0 0 rfl ?_
  refine J_cvF (As := []) (st := []) (pc := 1) C dJ0_substring_37a41_1 ml_RJ0_505 mi_yJ0_length_8abf5 (c_mlen l D cI cB cL cO pf b0 u t) [] (permN [0, 1] [] 2 rfl rfl rfl (by decide)) (q0 := 0) rfl rfl rfl ⟨(Nat.le_of_ble_eq_true rfl), (Nat.le_of_ble_eq_true rfl)⟩ ⟨(by first | exact Nat.le_of_ble_eq_true rfl | omega | (dsimp only; omega)), (by first | exact Nat.le_of_ble_eq_true rfl | omega | (dsimp only; omega))⟩ (Nat.le_of_ble_eq_true rfl) ?_
  rintro v w1 ⟨rfl, rfl⟩
  refine J_ws (ws2 := [(b0, .inr (11, [.ref u, .int 0, .int 0, .int 0])), (u, .inl (cB, t.length, .inl (bN t)))]) rfl ?_
  refine J_istore_n (lv2 := [(3, .int (nI t.length)), (0, .ref b0), (1, .int (nI 0)), (2, .int (nI t.length))]) (pc := 4) C dJ0_substring_37a41_4 (by decide) rfl ?_
  refine J_iload_n (pc := 5) C dJ0_substring_37a41_5 2 rfl ?_
  refine J_iload_n (pc := 6) C dJ0_substring_37a41_6 3 rfl ?_
  refine J_iload_n (pc := 7) C dJ0_substring_37a41_7 0 rfl ?_
  refine J_csF (b := 0) (As := [.int (nI 0), .int (nI t.length), .int (nI t.length)]) (st := []) (pc := 8) C dJ0_substring_37a41_8 ml_RJ0_521 mi_yJ0_checkBoundsBeginEnd_23922 (c_cBBE l D cI cB cL cO pf 0 t.length t.length (Nat.zero_le _) (Nat.le_refl _) (by omega)) [(b0, .inr (11, [.ref u, .int 0, .int 0, .int 0])), (u, .inl (cB, t.length, .inl (bN t)))] (permN [] [0, 1] 2 rfl rfl rfl (by decide)) rfl ⟨(Nat.le_of_ble_eq_true rfl), (Nat.le_of_ble_eq_true rfl)⟩ ⟨(by first | exact Nat.le_of_ble_eq_true rfl | omega | (dsimp only; omega)), (by first | exact Nat.le_of_ble_eq_true rfl | omega | (dsimp only; omega))⟩ (Nat.le_of_ble_eq_true rfl) ?_
  rintro v w1 ⟨rfl, rfl⟩
  refine J_ws (ws2 := [(b0, .inr (11, [.ref u, .int 0, .int 0, .int 0])), (u, .inl (cB, t.length, .inl (bN t)))]) rfl ?_
  refine J_iload_n (pc := 11) C dJ0_substring_37a41_11 2 rfl ?_
  refine J_if_ne (α := Unit) (o := ()) (X := some ()) (Y := none) (pc := 12) (tgt := 22) C dJ0_substring_37a41_12 (by decide) (if_pos rfl) (fun h => by cases h) (fun _ => ?_)
  refine J_iload_n (pc := 15) C dJ0_substring_37a41_15 3 rfl ?_
  refine J_iload_n (pc := 16) C dJ0_substring_37a41_16 0 rfl ?_
  refine J_ic_ne (α := Unit) (o := ()) (X := some ()) (Y := none) (pc := 17) (tgt := 22) C dJ0_substring_37a41_17 (by decide) (if_pos rfl) (fun h => by cases h) (fun _ => ?_)
  refine J_aload_n (pc := 20) C dJ0_substring_37a41_20 1 rfl ?_
  refine J_widen (k2 := 0) (n2 := 0) (by first | exact Nat.le_of_ble_eq_true rfl | omega | (dsimp only; omega)) (by first | exact Nat.le_of_ble_eq_true rfl | omega | (dsimp only; omega)) ?_
  exact J_aret (pc := 21) C dJ0_substring_37a41_21 hr (by first | exact Or.inl ⟨_, rfl⟩ | exact Or.inr ⟨_, rfl⟩) (Or.inr ⟨_, rfl⟩) ⟨rfl, rfl⟩

theorem dJ0_substring_b52d3_0 : decode cJ0_substring_b52d3 0 = .ok (.aload_n 0, 1) := by decide +kernel
theorem dJ0_substring_b52d3_1 : decode cJ0_substring_b52d3 1 = .ok (.iload_n 1, 1) := by decide +kernel
theorem dJ0_substring_b52d3_2 : decode cJ0_substring_b52d3 2 = .ok (.aload_n 0, 1) := by decide +kernel
theorem dJ0_substring_b52d3_3 : decode cJ0_substring_b52d3 3 = .ok (.invokevirtual 505, 3) := by decide +kernel
theorem dJ0_substring_b52d3_6 : decode cJ0_substring_b52d3 6 = .ok (.invokevirtual 681, 3) := by decide +kernel
theorem dJ0_substring_b52d3_9 : decode cJ0_substring_b52d3 9 = .ok (.areturn, 1) := by decide +kernel

set_option maxHeartbeats 4000000 in
set_option maxRecDepth 100000 in
theorem c_sub1T (l : Launch) (D : va_G) (cI cB cL cO : ClassId) (pf : Nat → Nat) (b0 u : Nat) (t : List Nat) (hn : t.length ≤ 4096) : Ct l D [(cI, .int), (cB, .byte), (cL, .byte), (cO, .object RX0)] pf yJ0_substring_b52d3 cJ0_substring_b52d3 2 (some (FieldType.object "java/lang/String")) { frames := 3, cells := 0, slots := 0, locals := 69 } [.ref b0, .int (nI 0)] [(b0, .inr (11, [.ref u, .int 0, .int 0, .int 0])), (u, .inl (cB, t.length, .inl (bN t)))] (is1 (some (.ref b0)) [(b0, .inr (11, [.ref u, .int 0, .int 0, .int 0])), (u, .inl (cB, t.length, .inl (bN t)))]) := by
  refine Ct_of (own := RJ0) (lv0 := [(0, .ref b0), (1, .int (nI 0))]) (by decide) rfl rfl (Nat.le_of_ble_eq_true rfl) ?_
  intro pZ eZ sZ mZ argsZ belowZ methZ cZ C hr hnm
  refine J_aload_n (pc := 0) C dJ0_substring_b52d3_0 0 rfl ?_
  refine J_iload_n (pc := 1) C dJ0_substring_b52d3_1 1 rfl ?_
  refine J_aload_n (pc := 2) C dJ0_substring_b52d3_2 0 rfl ?_
  refine J_cvF (As := []) (st := [.int (nI 0), .ref b0]) (pc := 3) C dJ0_substring_b52d3_3 ml_RJ0_505 mi_yJ0_length_8abf5 (c_mlen l D cI cB cL cO pf b0 u t) [] (permN [0, 1] [] 2 rfl rfl rfl (by decide)) (q0 := 0) rfl rfl rfl ⟨(Nat.le_of_ble_eq_true rfl), (Nat.le_of_ble_eq_true rfl)⟩ ⟨(by first | exact Nat.le_of_ble_eq_true rfl | omega | (dsimp only; omega)), (by first | exact Nat.le_of_ble_eq_true rfl | omega | (dsimp only; omega))⟩ (Nat.le_of_ble_eq_true rfl) ?_
  rintro v w1 ⟨rfl, rfl⟩
  refine J_ws (ws2 := [(b0, .inr (11, [.ref u, .int 0, .int 0, .int 0])), (u, .inl (cB, t.length, .inl (bN t)))]) rfl ?_
  refine J_cvF (As := [.int (nI 0), .int (nI t.length)]) (st := []) (pc := 6) C dJ0_substring_b52d3_6 ml_RJ0_681 mi_yJ0_substring_37a41 (c_subT l D cI cB cL cO pf b0 u t hn) [] (permN [0, 1] [] 2 rfl rfl rfl (by decide)) (q0 := 0) rfl rfl rfl ⟨(Nat.le_of_ble_eq_true rfl), (Nat.le_of_ble_eq_true rfl)⟩ ⟨(by first | exact Nat.le_of_ble_eq_true rfl | omega | (dsimp only; omega)), (by first | exact Nat.le_of_ble_eq_true rfl | omega | (dsimp only; omega))⟩ (Nat.le_of_ble_eq_true rfl) ?_
  rintro v w1 ⟨rfl, rfl⟩
  refine J_ws (ws2 := [(b0, .inr (11, [.ref u, .int 0, .int 0, .int 0])), (u, .inl (cB, t.length, .inl (bN t)))]) rfl ?_
  refine J_widen (k2 := 0) (n2 := 0) (by first | exact Nat.le_of_ble_eq_true rfl | omega | (dsimp only; omega)) (by first | exact Nat.le_of_ble_eq_true rfl | omega | (dsimp only; omega)) ?_
  exact J_aret (pc := 9) C dJ0_substring_b52d3_9 hr (by first | exact Or.inl ⟨_, rfl⟩ | exact Or.inr ⟨_, rfl⟩) (Or.inr ⟨_, rfl⟩) ⟨rfl, rfl⟩

set_option maxHeartbeats 4000000 in
set_option maxRecDepth 100000 in
theorem c_sub1 (l : Launch) (D : va_G) (cI cB cL cO : ClassId) (pf : Nat → Nat) (b0 u b : Nat) (t : List Nat) (ht : AS t) (h0 : 0 < b) (h1 : b < t.length) (hn : t.length ≤ 4096) : Ct l D [(cI, .int), (cB, .byte), (cL, .byte), (cO, .object RX0)] pf yJ0_substring_b52d3 cJ0_substring_b52d3 2 (some (FieldType.object "java/lang/String")) { frames := 5, cells := 2, slots := 4100, locals := 152 } [.ref b0, .int (nI b)] [(b0, .inr (11, [.ref u, .int 0, .int 0, .int 0])), (u, .inl (cB, t.length, .inl (bN t)))] (fun V w => ∃ q r, V = some (.ref q) ∧ w = [(b0, .inr (11, [.ref u, .int 0, .int 0, .int 0])), (u, .inl (cB, t.length, .inl (bN t))), (q, .inr (11, [.ref r, .int 0, .int 0, .int 0])), (r, .inl (cB, (t.length - b), .inl (bN ((t.drop b).take (t.length - b)))))]) := by
  refine Ct_of (own := RJ0) (lv0 := [(0, .ref b0), (1, .int (nI b))]) (by decide) rfl rfl (Nat.le_of_ble_eq_true rfl) ?_
  intro pZ eZ sZ mZ argsZ belowZ methZ cZ C hr hnm
  refine J_aload_n (pc := 0) C dJ0_substring_b52d3_0 0 rfl ?_
  refine J_iload_n (pc := 1) C dJ0_substring_b52d3_1 1 rfl ?_
  refine J_aload_n (pc := 2) C dJ0_substring_b52d3_2 0 rfl ?_
  refine J_cvF (As := []) (st := [.int (nI b), .ref b0]) (pc := 3) C dJ0_substring_b52d3_3 ml_RJ0_505 mi_yJ0_length_8abf5 (c_mlen l D cI cB cL cO pf b0 u t) [] (permN [0, 1] [] 2 rfl rfl rfl (by decide)) (q0 := 0) rfl rfl rfl ⟨(Nat.le_of_ble_eq_true rfl), (Nat.le_of_ble_eq_true rfl)⟩ ⟨(by first | exact Nat.le_of_ble_eq_true rfl | omega | (dsimp only; omega)), (by first | exact Nat.le_of_ble_eq_true rfl | omega | (dsimp only; omega))⟩ (Nat.le_of_ble_eq_true rfl) ?_
  rintro v w1 ⟨rfl, rfl⟩
  refine J_ws (ws2 := [(b0, .inr (11, [.ref u, .int 0, .int 0, .int 0])), (u, .inl (cB, t.length, .inl (bN t)))]) rfl ?_
  refine J_cvF (As := [.int (nI b), .int (nI t.length)]) (st := []) (pc := 6) C dJ0_substring_b52d3_6 ml_RJ0_681 mi_yJ0_substring_37a41 (c_sub l D cI cB cL cO pf b0 u b t.length t ht h1 (Nat.le_refl _) (by omega) hn) [] (permN [0, 1] [] 2 rfl rfl rfl (by decide)) (q0 := 0) rfl rfl rfl ⟨(Nat.le_of_ble_eq_true rfl), (Nat.le_of_ble_eq_true rfl)⟩ ⟨(by first | exact Nat.le_of_ble_eq_true rfl | omega | (dsimp only; omega)), (by first | exact Nat.le_of_ble_eq_true rfl | omega | (dsimp only; omega))⟩ (Nat.le_of_ble_eq_true rfl) ?_
  rintro v w1 ⟨q, r, rfl, rfl⟩
  refine J_ws (ws2 := [(b0, .inr (11, [.ref u, .int 0, .int 0, .int 0])), (u, .inl (cB, t.length, .inl (bN t))), (q, .inr (11, [.ref r, .int 0, .int 0, .int 0])), (r, .inl (cB, (t.length - b), .inl (bN ((t.drop b).take (t.length - b)))))]) rfl ?_
  refine J_widen (k2 := 2) (n2 := 4100) (by first | exact Nat.le_of_ble_eq_true rfl | omega | (dsimp only; omega)) (by first | exact Nat.le_of_ble_eq_true rfl | omega | (dsimp only; omega)) ?_
  exact J_aret (pc := 9) C dJ0_substring_b52d3_9 hr (by first | exact Or.inl ⟨_, rfl⟩ | exact Or.inr ⟨_, rfl⟩) (Or.inr ⟨_, rfl⟩) ⟨q, r, rfl, rfl⟩

theorem ch_and0 : ∀ n : Nat, n < 128 → ((nI n &&& (255 : Int32)).toUInt32 % 65536).toInt32 = nI n := by decide +kernel
theorem ch_nar0 : ∀ n : Nat, n < 128 → narrow .char (.int (nI n)) = .int (nI n) := by decide +kernel


set_option maxHeartbeats 4000000 in
set_option maxRecDepth 100000 in
theorem c_mLch (l : Launch) (D : va_G) (cI cB cL cO : ClassId) (pf : Nat → Nat) (u i : Nat) (t : List Nat) (ht : AS t) (h1 : i < t.length) (hn : t.length ≤ 4096) : Ct l D [(cI, .int), (cB, .byte), (cL, .byte), (cO, .object RX0)] pf yJ1_charAt_3b067 cJ1_charAt_3b067 2 (some FieldType.char) { frames := 2, cells := 0, slots := 0, locals := 43 } [.ref u, .int (nI i)] [(u, .inl (cB, t.length, .inl (bN t)))] (is1 (some (.int (nI (t.getD i 0)))) [(u, .inl (cB, t.length, .inl (bN t)))]) := by
  refine Ct_of (own := RJ1) (lv0 := [(0, .ref u), (1, .int (nI i))]) (by decide) rfl rfl (Nat.le_of_ble_eq_true rfl) ?_
  intro pZ eZ sZ mZ argsZ belowZ methZ cZ C hr hnm
  refine J_iload_n (pc := 0) C dJ1_charAt_3b067_0 1 rfl ?_
  refine J_aload_n (pc := 1) C dJ1_charAt_3b067_1 0 rfl ?_
  refine J_alen (pc := 2) C dJ1_charAt_3b067_2 0 1 rfl rfl ?_
  refine J_csF (b := 0) (As := [.int (nI i), .int (nI t.length)]) (st := []) (pc := 3) C dJ1_charAt_3b067_3 ml_RJ1_9 mi_yJ0_checkIndex_df160 (c_J0_checkIndex l D cI cB cL cO pf (nI i) (nI t.length) (nI_pos (by omega)) (nI_ge h1 (by omega))) [(u, .inl (cB, t.length, .inl (bN t)))] (permN [] [0] 1 rfl rfl rfl (by decide)) rfl ⟨(Nat.le_of_ble_eq_true rfl), (Nat.le_of_ble_eq_true rfl)⟩ ⟨(by first | exact Nat.le_of_ble_eq_true rfl | omega | (dsimp only; omega)), (by first | exact Nat.le_of_ble_eq_true rfl | omega | (dsimp only; omega))⟩ (Nat.le_of_ble_eq_true rfl) ?_
  rintro v w1 ⟨rfl, rfl⟩
  refine J_ws (ws2 := [(u, .inl (cB, t.length, .inl (bN t)))]) rfl ?_
  refine J_aload_n (pc := 6) C dJ1_charAt_3b067_6 0 rfl ?_
  refine J_iload_n (pc := 7) C dJ1_charAt_3b067_7 1 rfl ?_
  refine J_bald (α := Unit) (o := ()) (X := some ()) (pc := 8) C dJ1_charAt_3b067_8 0 1 rfl rfl (if_neg (in_row h1 hn)) (fun _ => ?_)
  refine J_sipush (v := (255 : Int32)) (pc := 9) C dJ1_charAt_3b067_9 (by decide) ?_
  refine J_iand (pc := 12) C dJ1_charAt_3b067_12 ?_
  refine J_i2c (v := nI (t.getD i 0)) (pc := 13) C dJ1_charAt_3b067_13 (by rw [nI_clamp (by omega)]; exact ch_and0 _ (ht i)) ?_
  refine J_widen (k2 := 0) (n2 := 0) (by first | exact Nat.le_of_ble_eq_true rfl | omega | (dsimp only; omega)) (by first | exact Nat.le_of_ble_eq_true rfl | omega | (dsimp only; omega)) ?_
  exact J_zret (pc := 14) C dJ1_charAt_3b067_14 hr (ch_nar0 _ (ht i)) ⟨rfl, rfl⟩


set_option maxHeartbeats 4000000 in
set_option maxRecDepth 100000 in
theorem c_mch (l : Launch) (D : va_G) (cI cB cL cO : ClassId) (pf : Nat → Nat) (b0 u i : Nat) (t : List Nat) (ht : AS t) (h1 : i < t.length) (hn : t.length ≤ 4096) : Ct l D [(cI, .int), (cB, .byte), (cL, .byte), (cO, .object RX0)] pf yJ0_charAt_5068e cJ0_charAt_5068e 2 (some FieldType.char) { frames := 3, cells := 0, slots := 0, locals := 64 } [.ref b0, .int (nI i)] [(b0, .inr (11, [.ref u, .int 0, .int 0, .int 0])), (u, .inl (cB, t.length, .inl (bN t)))] (is1 (some (.int (nI (t.getD i 0)))) [(b0, .inr (11, [.ref u, .int 0, .int 0, .int 0])), (u, .inl (cB, t.length, .inl (bN t)))]) := by
  refine Ct_of (own := RJ0) (lv0 := [(0, .ref b0), (1, .int (nI i))]) (by decide) rfl rfl (Nat.le_of_ble_eq_true rfl) ?_
  intro pZ eZ sZ mZ argsZ belowZ methZ cZ C hr hnm
  refine J_aload_n (pc := 0) C dJ0_charAt_5068e_0 0 rfl ?_
  refine J_cvF (As := []) (st := []) (pc := 1) C dJ0_charAt_5068e_1 ml_RJ0_492 mi_yJ0_isLatin1_aae02 (c_misL l D cI cB cL cO pf b0 u) [(u, .inl (cB, t.length, .inl (bN t)))] (permN [0] [1] 2 rfl rfl rfl (by decide)) (q0 := 0) rfl rfl rfl ⟨(Nat.le_of_ble_eq_true rfl), (Nat.le_of_ble_eq_true rfl)⟩ ⟨(by first | exact Nat.le_of_ble_eq_true rfl | omega | (dsimp only; omega)), (by first | exact Nat.le_of_ble_eq_true rfl | omega | (dsimp only; omega))⟩ (Nat.le_of_ble_eq_true rfl) ?_
  rintro v w1 ⟨rfl, rfl⟩
  refine J_ws (ws2 := [(b0, .inr (11, [.ref u, .int 0, .int 0, .int 0])), (u, .inl (cB, t.length, .inl (bN t)))]) rfl ?_
  refine J_drop (ws2 := [(b0, .inr (11, [.ref u, .int 0, .int 0, .int 0])), (u, .inl (cB, t.length, .inl (bN t)))]) (Wr := []) (permN [0, 1] [] 2 rfl rfl rfl (by decide)) ?_
  refine J_if_eq (α := Unit) (o := ()) (X := none) (Y := some ()) (pc := 4) (tgt := 16) C dJ0_charAt_5068e_4 (by decide) (if_neg (by decide)) (fun h => by cases h) (fun _ => ?_)
  refine J_aload_n (pc := 7) C dJ0_charAt_5068e_7 0 rfl ?_
  refine J_getA (pc := 8) C dJ0_charAt_5068e_8 jf_J0 0 rfl rfl 0 (by decide) fl_RJ0_9 rfl ?_
  refine J_iload_n (pc := 11) C dJ0_charAt_5068e_11 1 rfl ?_
  refine J_csF (b := 0) (As := [.ref u, .int (nI i)]) (st := []) (pc := 12) C dJ0_charAt_5068e_12 ml_RJ0_495 mi_yJ1_charAt_3b067 (c_mLch l D cI cB cL cO pf u i t ht h1 hn) [(b0, .inr (11, [.ref u, .int 0, .int 0, .int 0]))] (permN [1] [0] 2 rfl rfl rfl (by decide)) rfl ⟨(Nat.le_of_ble_eq_true rfl), (Nat.le_of_ble_eq_true rfl)⟩ ⟨(by first | exact Nat.le_of_ble_eq_true rfl | omega | (dsimp only; omega)), (by first | exact Nat.le_of_ble_eq_true rfl | omega | (dsimp only; omega))⟩ (Nat.le_of_ble_eq_true rfl) ?_
  rintro v w1 ⟨rfl, rfl⟩
  refine J_ws (ws2 := [(u, .inl (cB, t.length, .inl (bN t))), (b0, .inr (11, [.ref u, .int 0, .int 0, .int 0]))]) rfl ?_
  refine J_drop (ws2 := [(b0, .inr (11, [.ref u, .int 0, .int 0, .int 0])), (u, .inl (cB, t.length, .inl (bN t)))]) (Wr := []) (permN [1, 0] [] 2 rfl rfl rfl (by decide)) ?_
  refine J_widen (k2 := 0) (n2 := 0) (by first | exact Nat.le_of_ble_eq_true rfl | omega | (dsimp only; omega)) (by first | exact Nat.le_of_ble_eq_true rfl | omega | (dsimp only; omega)) ?_
  exact J_zret (pc := 15) C dJ0_charAt_5068e_15 hr (ch_nar0 _ (ht i)) ⟨rfl, rfl⟩
