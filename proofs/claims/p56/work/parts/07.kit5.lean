theorem sets_len : ∀ (is : List Nat) (w ws : va_W), (sets ws is w).length = ws.length
  | [], w, _ => by cases w <;> rfl
  | _ :: _, [], _ => rfl
  | i :: is, q :: qs, ws => by
    show (sets (ws.set i q) is qs).length = ws.length
    rw [sets_len is qs (ws.set i q), List.length_set]
theorem sets_get : ∀ (is : List Nat) (w ws : va_W), is.length = w.length → (∀ i j q : Nat, is[i]? = some q → is[j]? = some q → i = j) → ∀ (j k : Nat) (q : Nat × va_E), is[j]? = some k → w[j]? = some q → k < ws.length → (sets ws is w)[k]? = some q
  | [], [], ws, _, _, j, k, q, h, _, _ => by simp at h
  | i :: is, q0 :: qs, ws, hl, hn, j, k, q, h1, h2, hk => by
    have hn' : ∀ a b q : Nat, is[a]? = some q → is[b]? = some q → a = b := fun a b q ha hb => by
      have := hn (a + 1) (b + 1) q (by simpa using ha) (by simpa using hb)
      omega
    cases j with
    | zero =>
      simp at h1 h2
      subst h1; subst h2
      by_cases hm : i ∈ is
      · obtain ⟨b, hb⟩ := List.getElem?_of_mem hm
        have := hn 0 (b + 1) i rfl (by simpa using hb)
        omega
      · have key : ∀ (is : List Nat) (w v : va_W), i ∉ is → (sets v is w)[i]? = v[i]? := by
          intro is
          induction is with
          | nil => intro w v _; cases w <;> rfl
          | cons a is ih =>
            intro w v hm
            cases w with
            | nil => rfl
            | cons b w =>
              show (sets (v.set a b) is w)[i]? = v[i]?
              rw [ih w (v.set a b) (fun z => hm (List.mem_cons_of_mem _ z)), List.getElem?_set_ne (fun z => hm (by rw [z]; exact List.mem_cons_self))]
        show (sets (ws.set i q0) is qs)[i]? = some q0
        rw [key is qs (ws.set i q0) hm, List.getElem?_set_self hk]
    | succ j =>
      simp at h1 h2
      exact sets_get is qs (ws.set i q0) (by simpa using hl) hn' j k q h1 h2 (by rw [List.length_set]; exact hk)
/-- a new writing of a world behind a call, for long worlds: place by place -/
theorem sets_eq {ws ws2 w1 : va_W} {isC isR : List Nat} (n : Nat) (hl : ws.length = n) (hl2 : ws2.length = n) (hn : va_nd isC = true) (h1 : isC.map (fun i => ws2[i]?) = w1.map some) (h2 : isR.map (fun i => ws2[i]?) = isR.map (fun i => ws[i]?)) (hc : (List.range n).all (fun i => isC.contains i || isR.contains i) = true) : sets ws isC w1 = ws2 := by
  have hlen : isC.length = w1.length := by
    have := congrArg List.length h1
    simpa using this
  apply List.ext_getElem?
  intro k
  by_cases hk : k < n
  · have hck := List.all_eq_true.mp hc k (List.mem_range.mpr hk)
    by_cases hm : k ∈ isC
    · obtain ⟨j, hj⟩ := List.getElem?_of_mem hm
      obtain ⟨q, g1, g2⟩ := map_at2 h1 hj
      rw [sets_get isC w1 ws hlen (va_nd_inj _ hn) j k q hj g1 (by omega), g2]
    · have hr : k ∈ isR := by
        simp only [Bool.or_eq_true, List.contains_iff_mem] at hck
        rcases hck with h | h
        · exact absurd h hm
        · exact h
      obtain ⟨j, hj⟩ := List.getElem?_of_mem hr
      have e2 : ws2[k]? = ws[k]? := by
        have h3 : (isR.map (fun i => ws2[i]?))[j]? = (isR.map (fun i => ws[i]?))[j]? := by rw [h2]
        rw [List.getElem?_map, List.getElem?_map, hj] at h3
        exact Option.some.inj h3
      rw [e2]
      obtain ⟨q, hq⟩ : ∃ q, (sets ws isC w1)[k]? = some q := by
        have : k < (sets ws isC w1).length := by rw [sets_len]; omega
        exact ⟨_, List.getElem?_eq_getElem this⟩
      rcases sets_at isC w1 ws hlen k q hq with ⟨j, g1, g2⟩ | ⟨g1, g2⟩
      · exact absurd (List.mem_of_getElem? g1) hm
      · rw [hq, g2]
  · rw [List.getElem?_eq_none (by rw [sets_len]; omega), List.getElem?_eq_none (by omega)]

section JS
variable {p : Program} {l : Launch} {e : Env} {R : Room} {s : State} {m : MethodId} {args : Array Value} {below : List Frame} {meth : Method} {c : Code} {cc : ByteArray} {nL : Nat} {own : String} {D : va_G} {ty : List (ClassId × FieldType)} {pf : Nat → Nat} {A : Nat → Prop} {Q : State → Prop} {k n : Nat} {pc : Nat} {lv : List (Nat × Value)} {st : List Value} {ws : va_W} {α : Type} {o : α}
def sl_len (i : Nat) : Nat := pf_len.getD i 0
def sl_ch (i k : Nat) : Int32 := (pf_byt.getD i []).getD k 0
theorem jC.str (C : jC p s m args meth c cc nL own D ty pf A) {i : Nat} (hi : i < 20) : va_O "java/lang/String" (pf i) A s s.heap ∧ va_OF "java/lang/String" "coder" "B" (.int 0) (pf i) A s s.heap ∧ va_OF "java/lang/String" "value" "[B" (.ref (pf (50 + i))) (pf i) A s s.heap ∧ va_T .byte (pf (50 + i)) (pf_len.getD i 0) (fun j => .int ((pf_byt.getD i []).getD j 0)) A s s.heap := C.2.2.2.2.2.2.2.2.2.2.2.1.1.1 i hi
theorem J_sval (C : jC p s m args meth c cc nL own D ty pf A) {i index : Nat} (d : decode cc pc = .ok (.getfield index, 3)) (hi : i < 20) (w : Cond.fieldLink own index "java/lang/String" "value" "[B" ∈ BIG) (kk : J p l e R s m args below meth c nL D A Q (k) (n) (pc + 3) (lv) (.ref (pf (50 + i)) :: st) (ws)) : J p l e R s m args below meth c nL D A Q (k) (n) (pc) (lv) (.ref (pf i) :: st) (ws) := fun ls hL H locs hP hD hS => vk_getf C.1 C.2.1 (C.str hi).2.2.1 hS C.2.2.2.1 (C.2.2.2.2.1 _ w) (fun _ hx => hx) d (kk ls hL H locs hP hD hS)
theorem J_scod (C : jC p s m args meth c cc nL own D ty pf A) {i index : Nat} (d : decode cc pc = .ok (.getfield index, 3)) (hi : i < 20) (w : Cond.fieldLink own index "java/lang/String" "coder" "B" ∈ BIG) (kk : J p l e R s m args below meth c nL D A Q (k) (n) (pc + 3) (lv) (.int 0 :: st) (ws)) : J p l e R s m args below meth c nL D A Q (k) (n) (pc) (lv) (.ref (pf i) :: st) (ws) := fun ls hL H locs hP hD hS => vk_getf C.1 C.2.1 (C.str hi).2.1 hS C.2.2.2.1 (C.2.2.2.2.1 _ w) (fun _ hx => hx) d (kk ls hL H locs hP hD hS)
theorem J_slen (C : jC p s m args meth c cc nL own D ty pf A) {i : Nat} (d : decode cc pc = .ok (.arraylength, 1)) (hi : i < 20) (kk : J p l e R s m args below meth c nL D A Q (k) (n) (pc + 1) (lv) (.int (nI (sl_len i)) :: st) (ws)) : J p l e R s m args below meth c nL D A Q (k) (n) (pc) (lv) (.ref (pf (50 + i)) :: st) (ws) := fun ls hL H locs hP hD hS => va_tlen C.1 C.2.1 (C.str hi).2.2.2 hS rfl d (kk ls hL H locs hP hD hS)
theorem J_sbal (C : jC p s m args meth c cc nL own D ty pf A) {i : Nat} {x : Int32} (d : decode cc pc = .ok (.baload, 1)) (hi : i < 20) (hx : vp_in x (sl_len i)) (kk : J p l e R s m args below meth c nL D A Q (k) (n) (pc + 1) (lv) (.int (sl_ch i x.toNatClampNeg) :: st) (ws)) : J p l e R s m args below meth c nL D A Q (k) (n) (pc) (lv) (.int x :: .ref (pf (50 + i)) :: st) (ws) := fun ls hL H locs hP hD hS => va_tb C.1 C.2.1 (C.str hi).2.2.2 hS hx rfl d (kk ls hL H locs hP hD hS)
theorem J_gcs (C : jC p s m args meth c cc nL own D ty pf A) {index : Nat} (d : decode cc pc = .ok (.getstatic index, 3)) (w : Cond.fieldLink own index "java/lang/String" "COMPACT_STRINGS" "Z" ∈ BIG) (kk : J p l e R s m args below meth c nL D A Q (k) (n) (pc + 3) (lv) (.int 1 :: st) (ws)) : J p l e R s m args below meth c nL D A Q (k) (n) (pc) (lv) (st) (ws) := fun ls hL H locs hP hD hS => va_gets C.1 C.2.1 C.2.2.2.2.2.2.2.2.2.2.2.2.1 hS C.2.2.2.1 (C.2.2.2.2.1 _ w) (fun _ hx => hx) d (kk ls hL H locs hP hD hS)
theorem J_gsf (C : jC p s m args meth c cc nL own D ty pf A) {index : Nat} (d : decode cc pc = .ok (.getstatic index, 3)) (w : Cond.fieldLink own index "jdk/internal/util/Preconditions" "SIOOBE_FORMATTER" "Ljava/util/function/BiFunction;" ∈ BIG) (kk : ∀ v : Value, (v = .null ∨ ∃ t, v = .ref t) → J p l e R s m args below meth c nL D A Q (k) (n) (pc + 3) (lv) (v :: st) (ws)) : J p l e R s m args below meth c nL D A Q (k) (n) (pc) (lv) (st) (ws) := fun ls hL H locs hP hD hS => by
  rcases C.2.2.2.2.2.2.2.2.2.2.2.2.2.1 with h | ⟨t, h⟩
  · exact va_gets C.1 C.2.1 h hS C.2.2.2.1 (C.2.2.2.2.1 _ w) (fun _ hx => hx) d (kk .null (Or.inl rfl) ls hL H locs hP hD hS)
  · exact va_gets C.1 C.2.1 h hS C.2.2.2.1 (C.2.2.2.2.1 _ w) (fun _ hx => hx) d (kk (.ref t) (Or.inr ⟨t, rfl⟩) ls hL H locs hP hD hS)
theorem J_i2c (C : jC p s m args meth c cc nL own D ty pf A) {x v : Int32} (d : decode cc pc = .ok (.i2c, 1)) (hv : (x.toUInt32 % 65536).toInt32 = v) (kk : J p l e R s m args below meth c nL D A Q (k) (n) (pc + 1) (lv) (.int v :: st) (ws)) : J p l e R s m args below meth c nL D A Q (k) (n) (pc) (lv) (.int x :: st) (ws) := fun ls hL H locs hP hD hS => lv_i2c C.1 C.2.1 d hv (kk ls hL H locs hP hD hS)
theorem J_ldcS (C : jC p s m args meth c cc nL own D ty pf A) {index q : Nat} {tx : String} (d : decode cc pc = .ok (.ldc index, 2)) (j : Nat) (hj : pf_strs[j]? = some (own, index, tx, q)) (kk : J p l e R s m args below meth c nL D A Q (k) (n) (pc + 2) (lv) (.ref (pf q) :: st) (ws)) : J p l e R s m args below meth c nL D A Q (k) (n) (pc) (lv) (st) (ws) := fun ls hL H locs hP hD hS => va_ldcS C.1 C.2.1 C.2.2.2.1 (C.2.2.2.2.2.2.2.2.2.2.1 _ (List.mem_of_getElem? hj)) d (kk ls hL H locs hP hD hS)
theorem J_top {x : Int32} {X : Option α} (v : Int32) (hv : x = v) (kk : J p l e R s m args below meth c nL D A Q (k) (n) (pc) (lv) (.int v :: st) (ws)) : J p l e R s m args below meth c nL D A Q (k) (n) (pc) (lv) (.int x :: st) (ws) := by subst hv; exact kk
/-- a method of a constant text -/
theorem J_cvS (C : jC p s m args meth c cc nL own D ty pf A) {y : MethodName} {bytes : ByteArray} {maxL : Nat} {ret : Option FieldType} {rm : Room} {na index i : Nat} {As : List Value} {ρ : Type} {fx : Option ρ} {K : ρ → Option α} {V : ρ → Option Value} (d : decode cc pc = .ok (.invokevirtual index, 3)) (w : Cond.methodLink own index y ∈ BIG) (hM : jMv y bytes maxL ret na) (hy : y.cls = "java/lang/String") (hi : i < 20) (hc : ∀ r, fx = some r → Ct l D ty pf y bytes maxL ret rm (.ref (pf i) :: As) [] (is1 (V r) [])) (h : fx.bind K = some o) (hna : As.length = na) (hz : rm.cells = 0 ∧ rm.slots = 0) (hR : rm.frames + 1 ≤ R.frames ∧ 8 + (maxL + 11) + rm.locals ≤ R.locals) (hkn : k ≤ R.cells ∧ n ≤ R.slots) (hW : (st.map fun v => v.category).sum ≤ 8) (kk : ∀ r, K r = some o → J p l e R s m args below meth c nL D A Q (k) (n) (pc + 3) (lv) ((V r).toList ++ st) (ws)) : J p l e R s m args below meth c nL D A Q (k) (n) (pc) (lv) (As.reverse ++ .ref (pf i) :: st) (ws) := by
  obtain ⟨r, hr, hK⟩ := Option.bind_eq_some_iff.mp h
  intro ls hL H locs hP hD hS
  have hC : ([] : List Nat).map (fun i => ws[i]?) = ([] : va_W).map some := rfl
  have hPc : va_P D vwCl [] H := fun q z hq => by simp at hq
  have hDc : va_D (fun _ => True) [] := ⟨fun i j x y hi => by simp at hi, fun _ _ _ => trivial⟩
  have hF : ∀ q, va_A [] H.size q → A q := va_free hD hS C.2.2.2.2.2.2.2.1 [] hC
  refine jcall (mc := rm.cells) (ms := rm.slots) (va_runV ⟨C.1, C.2.1, C.2.2.1, C.2.2.2.1, C.2.2.2.2.1⟩ (hc r hr H.size) ⟨callB_of na C.2.2.2.2.1 (bgGood hM.1.1) rfl rfl rfl (C.2.2.2.2.1 _ hM.1.2.1) (C.2.2.2.2.1 _ w) hM.1.2.2 hR, C.2.2.2.2.1 _ hM.2.1, C.2.2.2.2.1 _ hM.2.2⟩ ⟨jP_blind, (by rw [hy]; exact vk_recv C.2.2.2.2.2.2.2.2.2.2.2.1.1 hi hS), fun U hU hW => ⟨rfl, by rw [hU], by rw [hU]; exact hPc, va_K.moved hW.alike C.2.2.2.2.2.1, hDc, PF.call C.2.2.2.2.2.2.2.2 hS hF hU hW⟩⟩ rfl hna hL.1 rfl (lv_room hW) d ⟨by rw [hz.1]; exact hkn.1, by rw [hz.2]; exact hkn.2⟩) hS hF (fun v w1 H1 locs1 hp hP1 hD1 hz1 hk1 hS1 => ?_)
  obtain ⟨rfl, rfl⟩ := hp
  obtain ⟨hP2, hD2⟩ := sets_world hP hD hC rfl hk1 hP1
  rw [hz.1, hz.2]
  exact kk r hK ls hL H1 locs1 hP2 hD2 hS1
end JS
theorem dJ0_coder_7d493_0 : decode cJ0_coder_7d493 0 = .ok (.getstatic 38, 3) := by decide +kernel
theorem dJ0_coder_7d493_3 : decode cJ0_coder_7d493 3 = .ok (.ifCond .eq 10, 3) := by decide +kernel
theorem dJ0_coder_7d493_6 : decode cJ0_coder_7d493 6 = .ok (.aload_n 0, 1) := by decide +kernel
theorem dJ0_coder_7d493_7 : decode cJ0_coder_7d493 7 = .ok (.getfield 15, 3) := by decide +kernel
theorem dJ0_coder_7d493_10 : decode cJ0_coder_7d493 10 = .ok (.goto 4, 3) := by decide +kernel
theorem dJ0_coder_7d493_13 : decode cJ0_coder_7d493 13 = .ok (.iconst 1, 1) := by decide +kernel
theorem dJ0_coder_7d493_14 : decode cJ0_coder_7d493 14 = .ok (.ireturn, 1) := by decide +kernel
theorem dJ0_length_8abf5_0 : decode cJ0_length_8abf5 0 = .ok (.aload_n 0, 1) := by decide +kernel
theorem dJ0_length_8abf5_1 : decode cJ0_length_8abf5 1 = .ok (.getfield 9, 3) := by decide +kernel
theorem dJ0_length_8abf5_4 : decode cJ0_length_8abf5 4 = .ok (.arraylength, 1) := by decide +kernel
theorem dJ0_length_8abf5_5 : decode cJ0_length_8abf5 5 = .ok (.aload_n 0, 1) := by decide +kernel
theorem dJ0_length_8abf5_6 : decode cJ0_length_8abf5 6 = .ok (.invokevirtual 335, 3) := by decide +kernel
theorem dJ0_length_8abf5_9 : decode cJ0_length_8abf5 9 = .ok (.ishr, 1) := by decide +kernel
theorem dJ0_length_8abf5_10 : decode cJ0_length_8abf5 10 = .ok (.ireturn, 1) := by decide +kernel
theorem dJ0_isLatin1_aae02_0 : decode cJ0_isLatin1_aae02 0 = .ok (.getstatic 38, 3) := by decide +kernel
theorem dJ0_isLatin1_aae02_3 : decode cJ0_isLatin1_aae02 3 = .ok (.ifCond .eq 14, 3) := by decide +kernel
theorem dJ0_isLatin1_aae02_6 : decode cJ0_isLatin1_aae02 6 = .ok (.aload_n 0, 1) := by decide +kernel
theorem dJ0_isLatin1_aae02_7 : decode cJ0_isLatin1_aae02 7 = .ok (.getfield 15, 3) := by decide +kernel
theorem dJ0_isLatin1_aae02_10 : decode cJ0_isLatin1_aae02 10 = .ok (.ifCond .ne 7, 3) := by decide +kernel
theorem dJ0_isLatin1_aae02_13 : decode cJ0_isLatin1_aae02 13 = .ok (.iconst 1, 1) := by decide +kernel
theorem dJ0_isLatin1_aae02_14 : decode cJ0_isLatin1_aae02 14 = .ok (.goto 4, 3) := by decide +kernel
theorem dJ0_isLatin1_aae02_17 : decode cJ0_isLatin1_aae02 17 = .ok (.iconst 0, 1) := by decide +kernel
theorem dJ0_isLatin1_aae02_18 : decode cJ0_isLatin1_aae02 18 = .ok (.ireturn, 1) := by decide +kernel
theorem dJ3_checkIndex_8e157_0 : decode cJ3_checkIndex_8e157 0 = .ok (.iload_n 0, 1) := by decide +kernel
theorem dJ3_checkIndex_8e157_1 : decode cJ3_checkIndex_8e157 1 = .ok (.ifCond .lt 8, 3) := by decide +kernel
theorem dJ3_checkIndex_8e157_4 : decode cJ3_checkIndex_8e157 4 = .ok (.iload_n 0, 1) := by decide +kernel
theorem dJ3_checkIndex_8e157_5 : decode cJ3_checkIndex_8e157 5 = .ok (.iload_n 1, 1) := by decide +kernel
theorem dJ3_checkIndex_8e157_6 : decode cJ3_checkIndex_8e157 6 = .ok (.if_icmp .lt 10, 3) := by decide +kernel
theorem dJ3_checkIndex_8e157_9 : decode cJ3_checkIndex_8e157 9 = .ok (.aload_n 2, 1) := by decide +kernel
theorem dJ3_checkIndex_8e157_10 : decode cJ3_checkIndex_8e157 10 = .ok (.iload_n 0, 1) := by decide +kernel
theorem dJ3_checkIndex_8e157_11 : decode cJ3_checkIndex_8e157 11 = .ok (.iload_n 1, 1) := by decide +kernel
theorem dJ3_checkIndex_8e157_12 : decode cJ3_checkIndex_8e157 12 = .ok (.invokestatic 95, 3) := by decide +kernel
theorem dJ3_checkIndex_8e157_15 : decode cJ3_checkIndex_8e157 15 = .ok (.athrow, 1) := by decide +kernel
theorem dJ3_checkIndex_8e157_16 : decode cJ3_checkIndex_8e157 16 = .ok (.iload_n 0, 1) := by decide +kernel
theorem dJ3_checkIndex_8e157_17 : decode cJ3_checkIndex_8e157 17 = .ok (.ireturn, 1) := by decide +kernel
theorem dJ0_checkIndex_df160_0 : decode cJ0_checkIndex_df160 0 = .ok (.iload_n 0, 1) := by decide +kernel
theorem dJ0_checkIndex_df160_1 : decode cJ0_checkIndex_df160 1 = .ok (.iload_n 1, 1) := by decide +kernel
theorem dJ0_checkIndex_df160_2 : decode cJ0_checkIndex_df160 2 = .ok (.getstatic 1053, 3) := by decide +kernel
theorem dJ0_checkIndex_df160_5 : decode cJ0_checkIndex_df160 5 = .ok (.invokestatic 1059, 3) := by decide +kernel
theorem dJ0_checkIndex_df160_8 : decode cJ0_checkIndex_df160 8 = .ok (.pop, 1) := by decide +kernel
theorem dJ0_checkIndex_df160_9 : decode cJ0_checkIndex_df160 9 = .ok (.return_, 1) := by decide +kernel
theorem dJ1_charAt_3b067_0 : decode cJ1_charAt_3b067 0 = .ok (.iload_n 1, 1) := by decide +kernel
theorem dJ1_charAt_3b067_1 : decode cJ1_charAt_3b067 1 = .ok (.aload_n 0, 1) := by decide +kernel
theorem dJ1_charAt_3b067_2 : decode cJ1_charAt_3b067 2 = .ok (.arraylength, 1) := by decide +kernel
theorem dJ1_charAt_3b067_3 : decode cJ1_charAt_3b067 3 = .ok (.invokestatic 9, 3) := by decide +kernel
theorem dJ1_charAt_3b067_6 : decode cJ1_charAt_3b067 6 = .ok (.aload_n 0, 1) := by decide +kernel
theorem dJ1_charAt_3b067_7 : decode cJ1_charAt_3b067 7 = .ok (.iload_n 1, 1) := by decide +kernel
theorem dJ1_charAt_3b067_8 : decode cJ1_charAt_3b067 8 = .ok (.baload, 1) := by decide +kernel
theorem dJ1_charAt_3b067_9 : decode cJ1_charAt_3b067 9 = .ok (.sipush 255, 3) := by decide +kernel
theorem dJ1_charAt_3b067_12 : decode cJ1_charAt_3b067 12 = .ok (.iand, 1) := by decide +kernel
theorem dJ1_charAt_3b067_13 : decode cJ1_charAt_3b067 13 = .ok (.i2c, 1) := by decide +kernel
theorem dJ1_charAt_3b067_14 : decode cJ1_charAt_3b067 14 = .ok (.ireturn, 1) := by decide +kernel
theorem dJ0_charAt_5068e_0 : decode cJ0_charAt_5068e 0 = .ok (.aload_n 0, 1) := by decide +kernel
theorem dJ0_charAt_5068e_1 : decode cJ0_charAt_5068e 1 = .ok (.invokevirtual 492, 3) := by decide +kernel
theorem dJ0_charAt_5068e_4 : decode cJ0_charAt_5068e 4 = .ok (.ifCond .eq 12, 3) := by decide +kernel
theorem dJ0_charAt_5068e_7 : decode cJ0_charAt_5068e 7 = .ok (.aload_n 0, 1) := by decide +kernel
theorem dJ0_charAt_5068e_8 : decode cJ0_charAt_5068e 8 = .ok (.getfield 9, 3) := by decide +kernel
theorem dJ0_charAt_5068e_11 : decode cJ0_charAt_5068e 11 = .ok (.iload_n 1, 1) := by decide +kernel
theorem dJ0_charAt_5068e_12 : decode cJ0_charAt_5068e 12 = .ok (.invokestatic 495, 3) := by decide +kernel
theorem dJ0_charAt_5068e_15 : decode cJ0_charAt_5068e 15 = .ok (.ireturn, 1) := by decide +kernel
theorem dJ0_charAt_5068e_16 : decode cJ0_charAt_5068e 16 = .ok (.aload_n 0, 1) := by decide +kernel
theorem dJ0_charAt_5068e_17 : decode cJ0_charAt_5068e 17 = .ok (.getfield 9, 3) := by decide +kernel
theorem dJ0_charAt_5068e_20 : decode cJ0_charAt_5068e 20 = .ok (.iload_n 1, 1) := by decide +kernel
theorem dJ0_charAt_5068e_21 : decode cJ0_charAt_5068e 21 = .ok (.invokestatic 498, 3) := by decide +kernel
theorem dJ0_charAt_5068e_24 : decode cJ0_charAt_5068e 24 = .ok (.ireturn, 1) := by decide +kernel
theorem c_J0_coder (l : Launch) (D : va_G) (cI cB cL cO : ClassId) (pf : Nat → Nat) (k : Nat) (hk : k < 20) : Ct l D [(cI, .int), (cB, .byte), (cL, .byte), (cO, .object RX0)] pf yJ0_coder_7d493 cJ0_coder_7d493 1 (some FieldType.byte) { frames := 0, cells := 0, slots := 0, locals := 0 } [.ref (pf k)] [] (is1 (some (.int 0)) []) := by
  refine Ct_of (own := RJ0) (lv0 := [(0, .ref (pf k))]) (by decide) rfl rfl (Nat.le_of_ble_eq_true rfl) ?_
  intro p e s m args below meth c C hr hnm
  have d := dJ0_coder_7d493_0
  refine J_gcs (pc := 0) C dJ0_coder_7d493_0 fl_RJ0_38 ?_
  refine J_if_eq (α := Unit) (o := ()) (X := none) (Y := some ()) (pc := 3) (tgt := 13) C dJ0_coder_7d493_3 (by decide) rfl (fun h => by cases h) (fun _ => ?_)
  refine J_aload_n (pc := 6) C dJ0_coder_7d493_6 0 rfl ?_
  refine J_scod (pc := 7) C dJ0_coder_7d493_7 hk fl_RJ0_15 ?_
  refine J_goto (tgt := 14) (pc := 10) C dJ0_coder_7d493_10 (by decide) ?_
  exact J_zret (pc := 14) C dJ0_coder_7d493_14 hr rfl ⟨rfl, rfl⟩
theorem sl_ok : ∀ i : Nat, i < 20 → nI (sl_len i) >>> ((0 : Int32) &&& 31) = nI (sl_len i) := by decide +kernel
theorem c_J0_length (l : Launch) (D : va_G) (cI cB cL cO : ClassId) (pf : Nat → Nat) (k : Nat) (hk : k < 20) : Ct l D [(cI, .int), (cB, .byte), (cL, .byte), (cO, .object RX0)] pf yJ0_length_8abf5 cJ0_length_8abf5 1 (some FieldType.int) { frames := 1, cells := 0, slots := 0, locals := 20 } [.ref (pf k)] [] (is1 (some (.int (nI (sl_len k)))) []) := by
  refine Ct_of (own := RJ0) (lv0 := [(0, .ref (pf k))]) (by decide) rfl rfl (Nat.le_of_ble_eq_true rfl) ?_
  intro p e s m args below meth c C hr hnm
  refine J_aload_n (pc := 0) C dJ0_length_8abf5_0 0 rfl ?_
  refine J_sval (pc := 1) C dJ0_length_8abf5_1 hk fl_RJ0_9 ?_
  refine J_slen (pc := 4) C dJ0_length_8abf5_4 hk ?_
  refine J_aload_n (pc := 5) C dJ0_length_8abf5_5 0 rfl ?_
  refine J_cvS (α := Unit) (o := ()) (fx := some ()) (K := fun _ => some ()) (V := fun _ => some (.int 0)) (pc := 6) (As := []) (st := [.int (nI (sl_len k))]) C dJ0_length_8abf5_6 ml_RJ0_335 mi_yJ0_coder_7d493 rfl hk (fun _ _ => c_J0_coder l D cI cB cL cO pf k hk) rfl rfl ⟨rfl, rfl⟩ ⟨(Nat.le_of_ble_eq_true rfl), (Nat.le_of_ble_eq_true rfl)⟩ ⟨Nat.zero_le _, Nat.zero_le _⟩ (Nat.le_of_ble_eq_true rfl) (fun _ _ => ?_)
  refine J_ishr (pc := 9) C dJ0_length_8abf5_9 ?_
  refine J_top (α := Unit) (X := none) (nI (sl_len k)) (sl_ok k hk) ?_
  exact J_iret (pc := 10) C dJ0_length_8abf5_10 hr ⟨rfl, rfl⟩
theorem c_J0_isLatin1 (l : Launch) (D : va_G) (cI cB cL cO : ClassId) (pf : Nat → Nat) (k : Nat) (hk : k < 20) : Ct l D [(cI, .int), (cB, .byte), (cL, .byte), (cO, .object RX0)] pf yJ0_isLatin1_aae02 cJ0_isLatin1_aae02 1 (some FieldType.boolean) { frames := 0, cells := 0, slots := 0, locals := 0 } [.ref (pf k)] [] (is1 (some (.int 1)) []) := by
  refine Ct_of (own := RJ0) (lv0 := [(0, .ref (pf k))]) (by decide) rfl rfl (Nat.le_of_ble_eq_true rfl) ?_
  intro p e s m args below meth c C hr hnm
  refine J_gcs (pc := 0) C dJ0_isLatin1_aae02_0 fl_RJ0_38 ?_
  refine J_if_eq (α := Unit) (o := ()) (X := none) (Y := some ()) (pc := 3) (tgt := 17) C dJ0_isLatin1_aae02_3 (by decide) rfl (fun h => by cases h) (fun _ => ?_)
  refine J_aload_n (pc := 6) C dJ0_isLatin1_aae02_6 0 rfl ?_
  refine J_scod (pc := 7) C dJ0_isLatin1_aae02_7 hk fl_RJ0_15 ?_
  refine J_if_ne (α := Unit) (o := ()) (X := some ()) (Y := none) (pc := 10) (tgt := 17) C dJ0_isLatin1_aae02_10 (by decide) rfl (fun h => by cases h) (fun _ => ?_)
  refine J_iconst (v := 1) (pc := 13) C dJ0_isLatin1_aae02_13 (by decide) ?_
  refine J_goto (tgt := 18) (pc := 14) C dJ0_isLatin1_aae02_14 (by decide) ?_
  exact J_zret (pc := 18) C dJ0_isLatin1_aae02_18 hr rfl ⟨rfl, rfl⟩
theorem c_J3_checkIndex (l : Launch) (D : va_G) (cI cB cL cO : ClassId) (pf : Nat → Nat) (i n : Int32) (v : Value) (hv : v = .null ∨ ∃ t, v = .ref t) (h0 : ¬ i < 0) (h1 : ¬ n ≤ i) : Ct l D [(cI, .int), (cB, .byte), (cL, .byte), (cO, .object RX0)] pf yJ3_checkIndex_8e157 cJ3_checkIndex_8e157 3 (some FieldType.int) { frames := 0, cells := 0, slots := 0, locals := 0 } [.int i, .int n, v] [] (is1 (some (.int i)) []) := by
  have hlv : lv_args 0 [.int i, .int n, v] = [(0, .int i), (1, .int n), (2, v)] := by rcases hv with rfl | ⟨t, rfl⟩ <;> rfl
  have hls : (lg_sl [.int i, .int n, v]).length ≤ 3 := by rcases hv with rfl | ⟨t, rfl⟩ <;> exact (Nat.le_of_ble_eq_true rfl)
  refine Ct_of (own := RJ3) (lv0 := [(0, .int i), (1, .int n), (2, v)]) (by decide) rfl hlv hls ?_
  intro p e s m args below meth c C hr hnm
  refine J_iload_n (pc := 0) C dJ3_checkIndex_8e157_0 0 rfl ?_
  refine J_if_lt (α := Unit) (o := ()) (X := none) (Y := some ()) (pc := 1) (tgt := 9) C dJ3_checkIndex_8e157_1 (by decide) (if_neg h0) (fun h => by cases h) (fun _ => ?_)
  refine J_iload_n (pc := 4) C dJ3_checkIndex_8e157_4 0 rfl ?_
  refine J_iload_n (pc := 5) C dJ3_checkIndex_8e157_5 1 rfl ?_
  refine J_ic_lt (α := Unit) (o := ()) (X := some ()) (Y := none) (pc := 6) (tgt := 16) C dJ3_checkIndex_8e157_6 (by decide) (if_pos (Int32.not_le.mp h1)) (fun _ => ?_) (fun h => by cases h)
  refine J_iload_n (pc := 16) C dJ3_checkIndex_8e157_16 0 rfl ?_
  exact J_iret (pc := 17) C dJ3_checkIndex_8e157_17 hr ⟨rfl, rfl⟩
theorem c_J0_checkIndex (l : Launch) (D : va_G) (cI cB cL cO : ClassId) (pf : Nat → Nat) (i n : Int32) (h0 : ¬ i < 0) (h1 : ¬ n ≤ i) : Ct l D [(cI, .int), (cB, .byte), (cL, .byte), (cO, .object RX0)] pf yJ0_checkIndex_df160 cJ0_checkIndex_df160 2 (none : Option FieldType) { frames := 1, cells := 0, slots := 0, locals := 22 } [.int i, .int n] [] (is1 none []) := by
  refine Ct_of (own := RJ0) (lv0 := [(0, .int i), (1, .int n)]) (by decide) rfl rfl (Nat.le_of_ble_eq_true rfl) ?_
  intro p e s m args below meth c C hr hnm
  refine J_iload_n (pc := 0) C dJ0_checkIndex_df160_0 0 rfl ?_
  refine J_iload_n (pc := 1) C dJ0_checkIndex_df160_1 1 rfl ?_
  refine J_gsf (pc := 2) C dJ0_checkIndex_df160_2 fl_RJ0_1053 (fun v hv => ?_)
  refine J_csr (α := Unit) (o := ()) (fx := some ()) (K := fun _ => some ()) (V := fun _ => some (.int i)) (pc := 5) (As := [.int i, .int n, v]) (st := []) C dJ0_checkIndex_df160_5 ml_RJ0_1059 mi_yJ3_checkIndex_8e157 (fun _ _ => c_J3_checkIndex l D cI cB cL cO pf i n v hv h0 h1) rfl [] rfl rfl rfl ⟨rfl, rfl⟩ ⟨(Nat.le_of_ble_eq_true rfl), (Nat.le_of_ble_eq_true rfl)⟩ ⟨Nat.zero_le _, Nat.zero_le _⟩ (Nat.le_of_ble_eq_true rfl) (fun _ _ => ?_)
  refine J_popi (pc := 8) C dJ0_checkIndex_df160_8 ?_
  exact J_vret (pc := 9) C dJ0_checkIndex_df160_9 hr ⟨rfl, rfl⟩
theorem sl_lenS : ∀ i : Nat, i < 20 → sl_len i ≤ 11 := by decide +kernel
theorem sl_chr : ∀ i : Nat, i < 20 → ∀ k : Nat, k < 12 → (((sl_ch i k) &&& 255).toUInt32 % 65536).toInt32 = sl_ch i k := by decide +kernel
theorem sl_chn : ∀ i : Nat, i < 20 → ∀ k : Nat, k < 12 → narrow .char (.int (sl_ch i k)) = .int (sl_ch i k) := by decide +kernel
theorem c_J1_charAt (l : Launch) (D : va_G) (cI cB cL cO : ClassId) (pf : Nat → Nat) (k : Nat) (i : Int32) (hk : k < 20) (h0 : ¬ i < 0) (h1 : ¬ nI (sl_len k) ≤ i) (h2 : ¬ sl_len k ≤ i.toNatClampNeg) : Ct l D [(cI, .int), (cB, .byte), (cL, .byte), (cO, .object RX0)] pf yJ1_charAt_3b067 cJ1_charAt_3b067 2 (some FieldType.char) { frames := 2, cells := 0, slots := 0, locals := 43 } [.ref (pf (50 + k)), .int i] [] (is1 (some (.int (sl_ch k i.toNatClampNeg))) []) := by
  refine Ct_of (own := RJ1) (lv0 := [(0, .ref (pf (50 + k))), (1, .int i)]) (by decide) rfl rfl (Nat.le_of_ble_eq_true rfl) ?_
  intro p e s m args below meth c C hr hnm
  have h8 := sl_lenS k hk
  refine J_iload_n (pc := 0) C dJ1_charAt_3b067_0 1 rfl ?_
  refine J_aload_n (pc := 1) C dJ1_charAt_3b067_1 0 rfl ?_
  refine J_slen (pc := 2) C dJ1_charAt_3b067_2 hk ?_
  refine J_csr (α := Unit) (o := ()) (fx := some ()) (K := fun _ => some ()) (V := fun _ => none) (pc := 3) (As := [.int i, .int (nI (sl_len k))]) (st := []) C dJ1_charAt_3b067_3 ml_RJ1_9 mi_yJ0_checkIndex_df160 (fun _ _ => c_J0_checkIndex l D cI cB cL cO pf i _ h0 h1) rfl [] rfl rfl rfl ⟨rfl, rfl⟩ ⟨(Nat.le_of_ble_eq_true rfl), (Nat.le_of_ble_eq_true rfl)⟩ ⟨Nat.zero_le _, Nat.zero_le _⟩ (Nat.le_of_ble_eq_true rfl) (fun _ _ => ?_)
  refine J_aload_n (pc := 6) C dJ1_charAt_3b067_6 0 rfl ?_
  refine J_iload_n (pc := 7) C dJ1_charAt_3b067_7 1 rfl ?_
  refine J_sbal (pc := 8) C dJ1_charAt_3b067_8 hk (fun q => q.elim h0 h2) ?_
  refine J_sipush (v := 255) (pc := 9) C dJ1_charAt_3b067_9 (by decide) ?_
  refine J_iand (pc := 12) C dJ1_charAt_3b067_12 ?_
  refine J_i2c (v := sl_ch k i.toNatClampNeg) (pc := 13) C dJ1_charAt_3b067_13 (sl_chr k hk _ (by omega)) ?_
  exact J_zret (pc := 14) C dJ1_charAt_3b067_14 hr (sl_chn k hk _ (by omega)) ⟨rfl, rfl⟩
theorem c_J0_charAt (l : Launch) (D : va_G) (cI cB cL cO : ClassId) (pf : Nat → Nat) (k : Nat) (i : Int32) (hk : k < 20) (h0 : ¬ i < 0) (h1 : ¬ nI (sl_len k) ≤ i) (h2 : ¬ sl_len k ≤ i.toNatClampNeg) : Ct l D [(cI, .int), (cB, .byte), (cL, .byte), (cO, .object RX0)] pf yJ0_charAt_5068e cJ0_charAt_5068e 2 (some FieldType.char) { frames := 3, cells := 0, slots := 0, locals := 64 } [.ref (pf k), .int i] [] (is1 (some (.int (sl_ch k i.toNatClampNeg))) []) := by
  refine Ct_of (own := RJ0) (lv0 := [(0, .ref (pf k)), (1, .int i)]) (by decide) rfl rfl (Nat.le_of_ble_eq_true rfl) ?_
  intro p e s m args below meth c C hr hnm
  have h8 := sl_lenS k hk
  refine J_aload_n (pc := 0) C dJ0_charAt_5068e_0 0 rfl ?_
  refine J_cvS (α := Unit) (o := ()) (fx := some ()) (K := fun _ => some ()) (V := fun _ => some (.int 1)) (pc := 1) (As := []) (st := []) C dJ0_charAt_5068e_1 ml_RJ0_492 mi_yJ0_isLatin1_aae02 rfl hk (fun _ _ => c_J0_isLatin1 l D cI cB cL cO pf k hk) rfl rfl ⟨rfl, rfl⟩ ⟨(Nat.le_of_ble_eq_true rfl), (Nat.le_of_ble_eq_true rfl)⟩ ⟨Nat.zero_le _, Nat.zero_le _⟩ (Nat.le_of_ble_eq_true rfl) (fun _ _ => ?_)
  refine J_if_eq (α := Unit) (o := ()) (X := none) (Y := some ()) (pc := 4) (tgt := 16) C dJ0_charAt_5068e_4 (by decide) rfl (fun h => by cases h) (fun _ => ?_)
  refine J_aload_n (pc := 7) C dJ0_charAt_5068e_7 0 rfl ?_
  refine J_sval (pc := 8) C dJ0_charAt_5068e_8 hk fl_RJ0_9 ?_
  refine J_iload_n (pc := 11) C dJ0_charAt_5068e_11 1 rfl ?_
  refine J_csr (α := Unit) (o := ()) (fx := some ()) (K := fun _ => some ()) (V := fun _ => some (.int (sl_ch k i.toNatClampNeg))) (pc := 12) (As := [.ref (pf (50 + k)), .int i]) (st := []) C dJ0_charAt_5068e_12 ml_RJ0_495 mi_yJ1_charAt_3b067 (fun _ _ => c_J1_charAt l D cI cB cL cO pf k i hk h0 h1 h2) rfl [] rfl rfl rfl ⟨rfl, rfl⟩ ⟨(Nat.le_of_ble_eq_true rfl), (Nat.le_of_ble_eq_true rfl)⟩ ⟨Nat.zero_le _, Nat.zero_le _⟩ (Nat.le_of_ble_eq_true rfl) (fun _ _ => ?_)
  exact J_zret (pc := 15) C dJ0_charAt_5068e_15 hr (sl_chn k hk _ (by omega)) ⟨rfl, rfl⟩
/-- a constant text's length and bytes, as functions -/
def f_slen (k : Nat) : Option Int32 := if k < 20 then some (nI (sl_len k)) else none
def f_sch (k : Nat) (i : Int32) : Option Int32 := if k < 20 ∧ ¬ i < 0 ∧ ¬ nI (sl_len k) ≤ i ∧ ¬ sl_len k ≤ i.toNatClampNeg then some (sl_ch k i.toNatClampNeg) else none
section JS2
variable {p : Program} {l : Launch} {e : Env} {R : Room} {s : State} {m : MethodId} {args : Array Value} {below : List Frame} {meth : Method} {c : Code} {cc : ByteArray} {nL : Nat} {own : String} {D : va_G} {cI cB cL cO : ClassId} {pf : Nat → Nat} {A : Nat → Prop} {Q : State → Prop} {k n : Nat} {pc : Nat} {lv : List (Nat × Value)} {st : List Value} {ws : va_W} {α : Type} {o : α}
theorem J_strlen (C : jC p s m args meth c cc nL own D [(cI, .int), (cB, .byte), (cL, .byte), (cO, .object RX0)] pf A) {index i : Nat} {K : Int32 → Option α} (d : decode cc pc = .ok (.invokevirtual index, 3)) (w : Cond.methodLink own index yJ0_length_8abf5 ∈ BIG) (h : (f_slen i).bind K = some o) (hR : 2 ≤ R.frames ∧ 40 ≤ R.locals) (hkn : k ≤ R.cells ∧ n ≤ R.slots) (hW : (st.map fun v => v.category).sum ≤ 8) (kk : ∀ r, K r = some o → J p l e R s m args below meth c nL D A Q (k) (n) (pc + 3) (lv) (.int r :: st) (ws)) : J p l e R s m args below meth c nL D A Q (k) (n) (pc) (lv) (.ref (pf i) :: st) (ws) := by
  by_cases hi : i < 20
  · exact J_cvS (As := []) (V := fun r => some (.int r)) C d w mi_yJ0_length_8abf5 rfl hi (fun r hr => by
      rw [f_slen, if_pos hi] at hr
      cases hr
      exact c_J0_length l D cI cB cL cO pf i hi) h rfl ⟨rfl, rfl⟩ hR hkn hW kk
  · rw [f_slen, if_neg hi] at h; cases h
theorem J_strch (C : jC p s m args meth c cc nL own D [(cI, .int), (cB, .byte), (cL, .byte), (cO, .object RX0)] pf A) {index i : Nat} {x : Int32} {K : Int32 → Option α} (d : decode cc pc = .ok (.invokevirtual index, 3)) (w : Cond.methodLink own index yJ0_charAt_5068e ∈ BIG) (h : (f_sch i x).bind K = some o) (hR : 4 ≤ R.frames ∧ 85 ≤ R.locals) (hkn : k ≤ R.cells ∧ n ≤ R.slots) (hW : (st.map fun v => v.category).sum ≤ 8) (kk : ∀ r, K r = some o → J p l e R s m args below meth c nL D A Q (k) (n) (pc + 3) (lv) (.int r :: st) (ws)) : J p l e R s m args below meth c nL D A Q (k) (n) (pc) (lv) (.int x :: .ref (pf i) :: st) (ws) := by
  by_cases hi : i < 20 ∧ ¬ x < 0 ∧ ¬ nI (sl_len i) ≤ x ∧ ¬ sl_len i ≤ x.toNatClampNeg
  · exact J_cvS (As := [.int x]) (V := fun r => some (.int r)) C d w mi_yJ0_charAt_5068e rfl hi.1 (fun r hr => by
      rw [f_sch, if_pos hi] at hr
      cases hr
      exact c_J0_charAt l D cI cB cL cO pf i x hi.1 hi.2.1 hi.2.2.1 hi.2.2.2) h rfl ⟨rfl, rfl⟩ hR hkn hW kk
  · rw [f_sch, if_neg hi] at h; cases h
end JS2
theorem sets_all {ws w1 : va_W} {is : List Nat} (hl : is = List.range ws.length ∧ w1.length = ws.length) : sets ws is w1 = w1 := by
  obtain ⟨rfl, hl⟩ := hl
  apply List.ext_getElem?
  intro k
  by_cases hk : k < ws.length
  · have hk1 : k < w1.length := by omega
    rw [sets_get (List.range ws.length) w1 ws (by rw [List.length_range, hl]) (fun i j q h1 h2 => by
      rw [List.getElem?_eq_some_iff] at h1 h2
      obtain ⟨a, b⟩ := h1
      obtain ⟨a2, b2⟩ := h2
      rw [List.getElem_range] at b b2
      omega) k k w1[k] (by rw [List.getElem?_range hk]) (List.getElem?_eq_getElem hk1) hk, List.getElem?_eq_getElem hk1]
  · rw [List.getElem?_eq_none (by rw [sets_len]; omega), List.getElem?_eq_none (by omega)]
theorem sets_eq2 {ws ws2 w1 : va_W} {isC isR : List Nat} (wr : va_W) (n : Nat) (hl : ws.length = n) (hl2 : ws2.length = n) (hn : va_nd isC = true) (h1 : isC.map (fun i => ws2[i]?) = w1.map some) (h2 : isR.map (fun i => ws2[i]?) = wr.map some) (h3 : isR.map (fun i => ws[i]?) = wr.map some) (hc : (List.range n).all (fun i => isC.contains i || isR.contains i) = true) : sets ws isC w1 = ws2 := sets_eq n hl hl2 hn h1 (h2.trans h3.symm) hc
section JA
variable {p : Program} {l : Launch} {e : Env} {R : Room} {s : State} {m : MethodId} {args : Array Value} {below : List Frame} {meth : Method} {c : Code} {cc : ByteArray} {nL : Nat} {own : String} {D : va_G} {ty : List (ClassId × FieldType)} {pf : Nat → Nat} {A : Nat → Prop} {Q : State → Prop} {k n : Nat} {pc : Nat} {lv : List (Nat × Value)} {st : List Value} {ws : va_W} {α : Type} {o : α}
theorem range_get (ws : va_W) : (List.range ws.length).map (fun i => ws[i]?) = ws.map some := by
  apply List.ext_getElem?
  intro k
  rw [List.getElem?_map, List.getElem?_map]
  by_cases hk : k < ws.length
  · rw [List.getElem?_range hk]; show some (ws[k]?) = (ws[k]?).map some; rw [List.getElem?_eq_getElem hk]; rfl
  · rw [List.getElem?_eq_none (by rw [List.length_range]; omega), List.getElem?_eq_none (by omega)]; rfl
theorem range_inj (n : Nat) (i j q : Nat) (h1 : (List.range n)[i]? = some q) (h2 : (List.range n)[j]? = some q) : i = j := by
  rw [List.getElem?_eq_some_iff] at h1 h2
  obtain ⟨a, b⟩ := h1
  obtain ⟨a2, b2⟩ := h2
  rw [List.getElem_range] at b b2
  omega
theorem J_cvwA (C : jC p s m args meth c cc nL own D ty pf A) {y : MethodName} {bytes : ByteArray} {maxL : Nat} {ret : Option FieldType} {rm : Room} {na index : Nat} {b : Nat} {As : List Value} {Wc : va_W} {ρ : Type} {fx : Option ρ} {K : ρ → Option α} {V : ρ → Option Value} {W1 : ρ → va_W} (ws2 : ρ → va_W) (d : decode cc pc = .ok (.invokevirtual index, 3)) (w : Cond.methodLink own index y ∈ BIG) (hM : jMv y bytes maxL ret na) (hc : ∀ r, fx = some r → Ct l D ty pf y bytes maxL ret rm (.ref b :: As) Wc (is1 (V r) (W1 r))) (h : fx.bind K = some o) (hWc : Wc = ws) {ci : Nat} {fs : List Value} {T : u_T} {N : Nat} (he : Wc[0]? = some (b, .inr (ci, fs))) (hcl : vwCl[ci]? = some (y.cls, T, N)) (hna : As.length = na) (hz : rm.cells = 0 ∧ rm.slots = 0) (hR : rm.frames + 1 ≤ R.frames ∧ 8 + (maxL + 11) + rm.locals ≤ R.locals) (hkn : k ≤ R.cells ∧ n ≤ R.slots) (hW : (st.map fun v => v.category).sum ≤ 8) (ha : ∀ r, (W1 r).map (fun q => q.1) = Wc.map (fun q => q.1)) (hw : ∀ r, W1 r = ws2 r) (kk : ∀ r, K r = some o → J p l e R s m args below meth c nL D A Q (k) (n) (pc + 3) (lv) ((V r).toList ++ st) (ws2 r)) : J p l e R s m args below meth c nL D A Q (k) (n) (pc) (lv) (As.reverse ++ .ref b :: st) (ws) := by
  subst hWc
  exact J_cv C d w hM hc h (List.range Wc.length) (range_inj _) (range_get Wc) he hcl hna hz hR hkn hW ha (fun r hK => J_ws ((sets_all ⟨rfl, by simpa using congrArg List.length (ha r)⟩).trans (hw r)) (kk r hK))
end JA
