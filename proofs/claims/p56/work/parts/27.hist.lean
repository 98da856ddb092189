section JH
variable {p : Program} {l : Launch} {e : Env} {R : Room} {s : State} {m : MethodId} {args : Array Value} {below : List Frame} {meth : Method} {c : Code} {cc : ByteArray} {nL : Nat} {own : String} {D : va_G} {ty : List (ClassId × FieldType)} {pf : Nat → Nat} {A : Nat → Prop} {Q : State → Prop} {k n : Nat} {pc : Nat} {lv : List (Nat × Value)} {st : List Value} {ws : va_W} {α : Type} {o : α}
theorem J_ifnullR (C : jC p s m args meth c cc nL own D ty pf A) {x : Nat} {off : Int} (d : decode cc pc = .ok (.ifnull off, 3)) (kk : J p l e R s m args below meth c nL D A Q (k) (n) (pc + 3) (lv) (st) (ws)) : J p l e R s m args below meth c nL D A Q (k) (n) (pc) (lv) (.ref x :: st) (ws) := fun ls hL H locs hP hD hS => lv_ifnull C.1 C.2.1 d (kk ls hL H locs hP hD hS)
end JH
theorem dX2_newestSlot_0 : decode cX2_newestSlot 0 = .ok (.aload_n 0, 1) := by decide +kernel
theorem dX2_newestSlot_1 : decode cX2_newestSlot 1 = .ok (.getfield 20, 3) := by decide +kernel
theorem dX2_newestSlot_4 : decode cX2_newestSlot 4 = .ok (.ifCond .lt 27, 3) := by decide +kernel
theorem dX2_newestSlot_7 : decode cX2_newestSlot 7 = .ok (.aload_n 0, 1) := by decide +kernel
theorem dX2_newestSlot_8 : decode cX2_newestSlot 8 = .ok (.getfield 20, 3) := by decide +kernel
theorem dX2_newestSlot_11 : decode cX2_newestSlot 11 = .ok (.aload_n 0, 1) := by decide +kernel
theorem dX2_newestSlot_12 : decode cX2_newestSlot 12 = .ok (.getfield 11, 3) := by decide +kernel
theorem dX2_newestSlot_15 : decode cX2_newestSlot 15 = .ok (.arraylength, 1) := by decide +kernel
theorem dX2_newestSlot_16 : decode cX2_newestSlot 16 = .ok (.if_icmp .ge 15, 3) := by decide +kernel
theorem dX2_newestSlot_19 : decode cX2_newestSlot 19 = .ok (.aload_n 0, 1) := by decide +kernel
theorem dX2_newestSlot_20 : decode cX2_newestSlot 20 = .ok (.getfield 11, 3) := by decide +kernel
theorem dX2_newestSlot_23 : decode cX2_newestSlot 23 = .ok (.aload_n 0, 1) := by decide +kernel
theorem dX2_newestSlot_24 : decode cX2_newestSlot 24 = .ok (.getfield 20, 3) := by decide +kernel
theorem dX2_newestSlot_27 : decode cX2_newestSlot 27 = .ok (.aaload, 1) := by decide +kernel
theorem dX2_newestSlot_28 : decode cX2_newestSlot 28 = .ok (.goto 4, 3) := by decide +kernel
theorem dX2_newestSlot_31 : decode cX2_newestSlot 31 = .ok (.aconst_null, 1) := by decide +kernel
theorem dX2_newestSlot_32 : decode cX2_newestSlot 32 = .ok (.areturn, 1) := by decide +kernel
theorem dX2_keep_0 : decode cX2_keep 0 = .ok (.aload_n 0, 1) := by decide +kernel
theorem dX2_keep_1 : decode cX2_keep 1 = .ok (.aload_n 0, 1) := by decide +kernel
theorem dX2_keep_2 : decode cX2_keep 2 = .ok (.getfield 20, 3) := by decide +kernel
theorem dX2_keep_5 : decode cX2_keep 5 = .ok (.iconst 1, 1) := by decide +kernel
theorem dX2_keep_6 : decode cX2_keep 6 = .ok (.iadd, 1) := by decide +kernel
theorem dX2_keep_7 : decode cX2_keep 7 = .ok (.aload_n 0, 1) := by decide +kernel
theorem dX2_keep_8 : decode cX2_keep 8 = .ok (.getfield 11, 3) := by decide +kernel
theorem dX2_keep_11 : decode cX2_keep 11 = .ok (.arraylength, 1) := by decide +kernel
theorem dX2_keep_12 : decode cX2_keep 12 = .ok (.if_icmp .ge 12, 3) := by decide +kernel
theorem dX2_keep_15 : decode cX2_keep 15 = .ok (.aload_n 0, 1) := by decide +kernel
theorem dX2_keep_16 : decode cX2_keep 16 = .ok (.getfield 20, 3) := by decide +kernel
theorem dX2_keep_19 : decode cX2_keep 19 = .ok (.iconst 1, 1) := by decide +kernel
theorem dX2_keep_20 : decode cX2_keep 20 = .ok (.iadd, 1) := by decide +kernel
theorem dX2_keep_21 : decode cX2_keep 21 = .ok (.goto 4, 3) := by decide +kernel
theorem dX2_keep_24 : decode cX2_keep 24 = .ok (.iconst 0, 1) := by decide +kernel
theorem dX2_keep_25 : decode cX2_keep 25 = .ok (.putfield 20, 3) := by decide +kernel
theorem dX2_keep_28 : decode cX2_keep 28 = .ok (.aload_n 0, 1) := by decide +kernel
theorem dX2_keep_29 : decode cX2_keep 29 = .ok (.invokevirtual 27, 3) := by decide +kernel
theorem dX2_keep_32 : decode cX2_keep 32 = .ok (.astore_n 2, 1) := by decide +kernel
theorem dX2_keep_33 : decode cX2_keep 33 = .ok (.aload_n 2, 1) := by decide +kernel
theorem dX2_keep_34 : decode cX2_keep 34 = .ok (.ifnull 26, 3) := by decide +kernel
theorem dX2_keep_37 : decode cX2_keep 37 = .ok (.aload_n 2, 1) := by decide +kernel
theorem dX2_keep_38 : decode cX2_keep 38 = .ok (.aload_n 1, 1) := by decide +kernel
theorem dX2_keep_39 : decode cX2_keep 39 = .ok (.invokevirtual 31, 3) := by decide +kernel
theorem dX2_keep_42 : decode cX2_keep 42 = .ok (.aload_n 0, 1) := by decide +kernel
theorem dX2_keep_43 : decode cX2_keep 43 = .ok (.aload_n 0, 1) := by decide +kernel
theorem dX2_keep_44 : decode cX2_keep 44 = .ok (.getfield 24, 3) := by decide +kernel
theorem dX2_keep_47 : decode cX2_keep 47 = .ok (.iconst 1, 1) := by decide +kernel
theorem dX2_keep_48 : decode cX2_keep 48 = .ok (.iadd, 1) := by decide +kernel
theorem dX2_keep_49 : decode cX2_keep 49 = .ok (.aload_n 0, 1) := by decide +kernel
theorem dX2_keep_50 : decode cX2_keep 50 = .ok (.getfield 11, 3) := by decide +kernel
theorem dX2_keep_53 : decode cX2_keep 53 = .ok (.arraylength, 1) := by decide +kernel
theorem dX2_keep_54 : decode cX2_keep 54 = .ok (.invokestatic 35, 3) := by decide +kernel
theorem dX2_keep_57 : decode cX2_keep 57 = .ok (.putfield 24, 3) := by decide +kernel
theorem dX2_keep_60 : decode cX2_keep 60 = .ok (.return_, 1) := by decide +kernel
theorem dX2_giveBack_0 : decode cX2_giveBack 0 = .ok (.aload_n 0, 1) := by decide +kernel
theorem dX2_giveBack_1 : decode cX2_giveBack 1 = .ok (.invokevirtual 27, 3) := by decide +kernel
theorem dX2_giveBack_4 : decode cX2_giveBack 4 = .ok (.astore_n 2, 1) := by decide +kernel
theorem dX2_giveBack_5 : decode cX2_giveBack 5 = .ok (.aload_n 2, 1) := by decide +kernel
theorem dX2_giveBack_6 : decode cX2_giveBack 6 = .ok (.ifnull 52, 3) := by decide +kernel
theorem dX2_giveBack_9 : decode cX2_giveBack 9 = .ok (.aload_n 0, 1) := by decide +kernel
theorem dX2_giveBack_10 : decode cX2_giveBack 10 = .ok (.getfield 24, 3) := by decide +kernel
theorem dX2_giveBack_13 : decode cX2_giveBack 13 = .ok (.ifCond .le 45, 3) := by decide +kernel
theorem dX2_giveBack_16 : decode cX2_giveBack 16 = .ok (.aload_n 1, 1) := by decide +kernel
theorem dX2_giveBack_17 : decode cX2_giveBack 17 = .ok (.aload_n 2, 1) := by decide +kernel
theorem dX2_giveBack_18 : decode cX2_giveBack 18 = .ok (.invokevirtual 31, 3) := by decide +kernel
theorem dX2_giveBack_21 : decode cX2_giveBack 21 = .ok (.aload_n 0, 1) := by decide +kernel
theorem dX2_giveBack_22 : decode cX2_giveBack 22 = .ok (.aload_n 0, 1) := by decide +kernel
theorem dX2_giveBack_23 : decode cX2_giveBack 23 = .ok (.getfield 20, 3) := by decide +kernel
theorem dX2_giveBack_26 : decode cX2_giveBack 26 = .ok (.ifCond .le 12, 3) := by decide +kernel
theorem dX2_giveBack_29 : decode cX2_giveBack 29 = .ok (.aload_n 0, 1) := by decide +kernel
theorem dX2_giveBack_30 : decode cX2_giveBack 30 = .ok (.getfield 20, 3) := by decide +kernel
theorem dX2_giveBack_33 : decode cX2_giveBack 33 = .ok (.iconst 1, 1) := by decide +kernel
theorem dX2_giveBack_34 : decode cX2_giveBack 34 = .ok (.isub, 1) := by decide +kernel
theorem dX2_giveBack_35 : decode cX2_giveBack 35 = .ok (.goto 10, 3) := by decide +kernel
theorem dX2_giveBack_38 : decode cX2_giveBack 38 = .ok (.aload_n 0, 1) := by decide +kernel
theorem dX2_giveBack_39 : decode cX2_giveBack 39 = .ok (.getfield 11, 3) := by decide +kernel
theorem dX2_giveBack_42 : decode cX2_giveBack 42 = .ok (.arraylength, 1) := by decide +kernel
theorem dX2_giveBack_43 : decode cX2_giveBack 43 = .ok (.iconst 1, 1) := by decide +kernel
theorem dX2_giveBack_44 : decode cX2_giveBack 44 = .ok (.isub, 1) := by decide +kernel
theorem dX2_giveBack_45 : decode cX2_giveBack 45 = .ok (.putfield 20, 3) := by decide +kernel
theorem dX2_giveBack_48 : decode cX2_giveBack 48 = .ok (.aload_n 0, 1) := by decide +kernel
theorem dX2_giveBack_49 : decode cX2_giveBack 49 = .ok (.dup, 1) := by decide +kernel
theorem dX2_giveBack_50 : decode cX2_giveBack 50 = .ok (.getfield 24, 3) := by decide +kernel
theorem dX2_giveBack_53 : decode cX2_giveBack 53 = .ok (.iconst 1, 1) := by decide +kernel
theorem dX2_giveBack_54 : decode cX2_giveBack 54 = .ok (.isub, 1) := by decide +kernel
theorem dX2_giveBack_55 : decode cX2_giveBack 55 = .ok (.putfield 24, 3) := by decide +kernel
theorem dX2_giveBack_58 : decode cX2_giveBack 58 = .ok (.return_, 1) := by decide +kernel
theorem dX2_forget_0 : decode cX2_forget 0 = .ok (.aload_n 0, 1) := by decide +kernel
theorem dX2_forget_1 : decode cX2_forget 1 = .ok (.iconst 0, 1) := by decide +kernel
theorem dX2_forget_2 : decode cX2_forget 2 = .ok (.putfield 24, 3) := by decide +kernel
theorem dX2_forget_5 : decode cX2_forget 5 = .ok (.return_, 1) := by decide +kernel
theorem dX2_count_0 : decode cX2_count 0 = .ok (.aload_n 0, 1) := by decide +kernel
theorem dX2_count_1 : decode cX2_count 1 = .ok (.getfield 24, 3) := by decide +kernel
theorem dX2_count_4 : decode cX2_count 4 = .ok (.ireturn, 1) := by decide +kernel
def updS {α : Type} (f : Nat → α) (k : Nat) (x : α) : Nat → α := fun i => if i = k then x else f i
theorem updS_self {α : Type} (f : Nat → α) (k : Nat) : updS f k (f k) = f := by
  funext i
  by_cases h : i = k
  · subst h; exact if_pos rfl
  · exact if_neg h
theorem slot_split {β α : Type} (g : Nat → α → List β) (f : Nat → α) (k : Nat) (hk : k < 8) : ∃ Wr : List β, ∀ x, ((List.range 8).flatMap (fun i => g i (updS f k x i))).Perm (g k x ++ Wr) := by
  refine ⟨((List.range 8).erase k).flatMap (fun i => g i (f i)), fun x => ?_⟩
  have h1 : (List.range 8).Perm (k :: (List.range 8).erase k) := List.perm_cons_erase (List.mem_range.mpr hk)
  have h2 : ((List.range 8).flatMap (fun i => g i (updS f k x i))).Perm ((k :: (List.range 8).erase k).flatMap (fun i => g i (updS f k x i))) := h1.flatMap_right _
  refine h2.trans ?_
  rw [List.flatMap_cons, show updS f k x k = x from if_pos rfl]
  have h3 : ∀ l : List Nat, k ∉ l → l.flatMap (fun i => g i (updS f k x i)) = l.flatMap (fun i => g i (f i)) := by
    intro l
    induction l with
    | nil => intro _; rfl
    | cons a l ih =>
      intro hn
      rw [List.flatMap_cons, List.flatMap_cons, ih (fun z => hn (List.mem_cons_of_mem _ z)), show updS f k x a = f a from if_neg (fun z => hn (by rw [z]; exact List.mem_cons_self))]
  rw [h3 _ (fun z => List.Nodup.not_mem_erase List.nodup_range z)]
theorem perm_keep {α : Type} (x y : α) (S B G Wr : List α) (h : S.Perm (G ++ Wr)) : (x :: y :: S ++ (B ++ [])).Perm ((G ++ (B ++ [])) ++ (x :: y :: Wr)) := by
  rw [List.append_nil]
  have h1 : (x :: y :: S ++ B).Perm (x :: y :: (G ++ Wr) ++ B) := ((h.cons y).cons x).append_right B
  refine h1.trans ?_
  have e1 : x :: y :: (G ++ Wr) ++ B = [x, y] ++ (G ++ (Wr ++ B)) := by simp
  have e2 : (G ++ B) ++ (x :: y :: Wr) = G ++ (B ++ ([x, y] ++ Wr)) := by simp
  rw [e1, e2]
  have h2 : ([x, y] ++ (G ++ (Wr ++ B))).Perm (G ++ ([x, y] ++ (Wr ++ B))) := by
    have e3 : [x, y] ++ (G ++ (Wr ++ B)) = ([x, y] ++ G) ++ (Wr ++ B) := by simp
    have e4 : G ++ ([x, y] ++ (Wr ++ B)) = (G ++ [x, y]) ++ (Wr ++ B) := by simp
    rw [e3, e4]
    exact List.perm_append_comm.append_right _
  refine h2.trans (List.Perm.append_left G ?_)
  rw [← List.append_assoc]
  exact List.perm_append_comm
theorem perm_give {α : Type} (x y : α) (S B G Wr : List α) (h : S.Perm (G ++ Wr)) : (x :: y :: S ++ (B ++ [])).Perm ((B ++ (G ++ [])) ++ (x :: y :: Wr)) := by
  refine (perm_keep x y S B G Wr h).trans ?_
  rw [List.append_nil, List.append_nil]
  exact List.perm_append_comm.append_right _
def F_keepT (N : Nat) (h : T_HI) (b : T_BK) (n : Int32) : Option T_HI :=
  if n < 0 ∨ 8 ≤ n.toNatClampNeg ∨ nI 8 ≤ n then none else (F_B_copyFrom N (h.2.2 n.toNatClampNeg) b).bind fun x => some (n, (if nI 8 < h.2.1 + 1 then nI 8 else h.2.1 + 1), updS h.2.2 n.toNatClampNeg x)
def F_keep (N : Nat) (h : T_HI) (b : T_BK) : Option T_HI := if nI 8 ≤ h.1 + 1 then F_keepT N h b 0 else F_keepT N h b (h.1 + 1)
def F_giveBack (N : Nat) (h : T_HI) (b : T_BK) : Option (T_HI × T_BK) :=
  if h.1 < 0 ∨ 8 ≤ h.1.toNatClampNeg ∨ nI 8 ≤ h.1 then none else if h.2.1 ≤ 0 then some (h, b) else (F_B_copyFrom N b (h.2.2 h.1.toNatClampNeg)).bind fun x => if h.1 ≤ 0 then some ((nI 8 - 1, h.2.1 - 1, h.2.2), x) else some ((h.1 - 1, h.2.1 - 1, h.2.2), x)
def F_forget (N : Nat) (h : T_HI) : Option T_HI := some (h.1, 0, h.2.2)
def F_hcount (N : Nat) (h : T_HI) : Option Int32 := some h.2.1
theorem C_newestSlot (l : Launch) (D : va_G) (cI cB cL cO : ClassId) (pf : Nat → Nat) (N : Nat) (xs : Nat) (A : Nat → Nat → Nat) {ws : va_W} {n ct : Int32} (h0 : ws[0]? = some (A 7 0, .inr (2, [.ref (A 7 1), .int n, .int ct]))) (h1 : ws[1]? = some (A 7 1, .inl (cO, 8, .inr (.inr (.inr (.inr (kf A))))))) (hg : ¬ (n < 0 ∨ 8 ≤ n.toNatClampNeg ∨ nI 8 ≤ n)) : Ct l D [(cI, .int), (cB, .byte), (cL, .byte), (cO, .object RX0)] pf yX2_newestSlot cX2_newestSlot 1 (some (FieldType.object "PointsLedger$Books")) { frames := 0, cells := 0, slots := 0, locals := 0 } [.ref (A 7 0)] ws (is1 (some (.ref (A (8 + n.toNatClampNeg) 0))) ws) := by
  refine Ct_of (own := RX2) (lv0 := [(0, .ref (A 7 0))]) (by decide) rfl rfl (Nat.le_of_ble_eq_true rfl) ?_
  intro p e s m args below meth c C hr hnm
  simp only [not_or] at hg
  refine J_aload_n (pc := 0) C dX2_newestSlot_0 0 rfl ?_
  refine J_get (pc := 1) C dX2_newestSlot_1 jf_X2 0 h0 rfl 1 (by decide) rfl fl_RX2_20 rfl ?_
  refine J_if_lt (α := Unit) (o := ()) (X := none) (Y := some ()) (pc := 4) (tgt := 31) C dX2_newestSlot_4 (by decide) (if_neg hg.1) (fun h => by cases h) (fun _ => ?_)
  refine J_aload_n (pc := 7) C dX2_newestSlot_7 0 rfl ?_
  refine J_get (pc := 8) C dX2_newestSlot_8 jf_X2 0 h0 rfl 1 (by decide) rfl fl_RX2_20 rfl ?_
  refine J_aload_n (pc := 11) C dX2_newestSlot_11 0 rfl ?_
  refine J_get (pc := 12) C dX2_newestSlot_12 jf_X2 0 h0 rfl 0 (by decide) rfl fl_RX2_11 rfl ?_
  refine J_alen (pc := 15) C dX2_newestSlot_15 1 3 h1 rfl ?_
  refine J_ic_ge (α := Unit) (o := ()) (X := none) (Y := some ()) (pc := 16) (tgt := 31) C dX2_newestSlot_16 (by decide) (if_neg hg.2.2) (fun h => by cases h) (fun _ => ?_)
  refine J_aload_n (pc := 19) C dX2_newestSlot_19 0 rfl ?_
  refine J_get (pc := 20) C dX2_newestSlot_20 jf_X2 0 h0 rfl 0 (by decide) rfl fl_RX2_11 rfl ?_
  refine J_aload_n (pc := 23) C dX2_newestSlot_23 0 rfl ?_
  refine J_get (pc := 24) C dX2_newestSlot_24 jf_X2 0 h0 rfl 1 (by decide) rfl fl_RX2_20 rfl ?_
  refine J_aldq (pc := 27) C dX2_newestSlot_27 1 3 h1 rfl (fun q => q.elim hg.1 hg.2.1) ?_
  refine J_st (st2 := [.ref (A (8 + n.toNatClampNeg) 0)]) (by rw [show kf A n.toNatClampNeg = some (A (8 + n.toNatClampNeg) 0) from if_pos (Nat.lt_of_not_le hg.2.1)]; rfl) ?_
  refine J_goto (tgt := 32) (pc := 28) C dX2_newestSlot_28 (by decide) ?_
  exact J_aret (pc := 32) C dX2_newestSlot_32 hr (Or.inl ⟨_, rfl⟩) (Or.inr ⟨_, rfl⟩) ⟨rfl, rfl⟩
set_option maxHeartbeats 1000000 in
theorem t_keep25 {l : Launch} {D : va_G} {cI cB cL cO : ClassId} {pf : Nat → Nat} {p : Program} {e : Env} {s : State} {m : MethodId} {args : Array Value} {below : List Frame} {meth : Method} {c : Code} {W0 : va_W} {N xs : Nat} {A : Nat → Nat → Nat} {h : T_HI} {b : T_BK} {n : Int32} {o : T_HI} (C : jC p s m args meth c cX2_keep 3 RX2 D [(cI, .int), (cB, .byte), (cL, .byte), (cO, .object RX0)] pf (va_A W0 s.heap.size)) (hr : meth.sig.returnType = (none : Option FieldType)) (hf : F_keepT N h b n = some o) : J p l e { frames := 5, cells := 0, slots := 0, locals := 146 } s m args below meth c 3 D (va_A W0 s.heap.size) (MQ below (jQ D [(cI, .int), (cB, .byte), (cL, .byte), (cO, .object RX0)] W0 s.heap.size (is1 none (List.flatten [wHI cI cB cO xs A o, wBK cI cB xs (A 5) b]))) args s 0 0 (va_A W0 s.heap.size)) 0 0 25 [(0, .ref (A 7 0)), (1, .ref (A 5 0))] [.int n, .ref (A 7 0)] (List.flatten [wHI cI cB cO xs A h, wBK cI cB xs (A 5) b]) := by
  unfold F_keepT at hf
  by_cases hg : n < 0 ∨ 8 ≤ n.toNatClampNeg ∨ nI 8 ≤ n
  · rw [if_pos hg] at hf; cases hf
  rw [if_neg hg] at hf
  obtain ⟨x, hx, hK⟩ := Option.bind_eq_some_iff.mp hf
  have hK := Option.some.inj hK
  subst hK
  have hg' := hg
  simp only [not_or] at hg'
  refine J_put (tt := .int) (pc := 25) C dX2_keep_25 jf_X2 0 (rfl : (List.flatten [wHI cI cB cO xs A h, wBK cI cB xs (A 5) b])[0]? = some (A 7 0, .inr (2, [.ref (A 7 1), .int h.1, .int h.2.1]))) rfl 1 (by decide) rfl fl_RX2_20 rfl (by decide +kernel) rfl rfl (Nat.le_of_ble_eq_true rfl) ?_
  refine J_ws (ws2 := (List.flatten [wHI cI cB cO xs A (n, h.2.1, h.2.2), wBK cI cB xs (A 5) b])) rfl ?_
  refine J_aload_n (pc := 28) C dX2_keep_28 0 rfl ?_
  refine J_cvL (α := Unit) (o := ()) (fx := some ()) (K := fun _ => some ()) (V := fun _ => some (.ref (A (8 + n.toNatClampNeg) 0))) (pc := 29) (As := []) (st := []) C (fun _ => (List.flatten [wHI cI cB cO xs A (n, h.2.1, h.2.2), wBK cI cB xs (A 5) b])) dX2_keep_29 ml_RX2_27 mi_yX2_newestSlot (fun _ _ => C_newestSlot l D cI cB cL cO pf N xs A (ct := h.2.1) rfl rfl hg) rfl (q0 := 0) (rfl : (List.flatten [wHI cI cB cO xs A (n, h.2.1, h.2.2), wBK cI cB xs (A 5) b])[0]? = some (A 7 0, .inr (2, [.ref (A 7 1), .int n, .int h.2.1]))) rfl rfl ⟨rfl, rfl⟩ ⟨(Nat.le_of_ble_eq_true rfl), (Nat.le_of_ble_eq_true rfl)⟩ ⟨Nat.zero_le _, Nat.zero_le _⟩ (Nat.le_of_ble_eq_true rfl) (fun _ _ => ?_)
  refine J_astore_n (lv2 := [(2, .ref (A (8 + n.toNatClampNeg) 0)), (0, .ref (A 7 0)), (1, .ref (A 5 0))]) (pc := 32) C dX2_keep_32 (by decide) rfl ?_
  refine J_aload_n (pc := 33) C dX2_keep_33 0 rfl ?_
  refine J_ifnullR (pc := 34) C dX2_keep_34 ?_
  refine J_aload_n (pc := 37) C dX2_keep_37 0 rfl ?_
  refine J_aload_n (pc := 38) C dX2_keep_38 2 rfl ?_
  obtain ⟨Wr, hWr⟩ := slot_split (fun i => wBK cI cB xs (A (8 + i))) h.2.2 n.toNatClampNeg (Nat.lt_of_not_le hg'.2.1)
  have hpw : ∀ (x : T_BK) (n1 n2 : Int32), (List.flatten [wHI cI cB cO xs A (n1, n2, updS h.2.2 n.toNatClampNeg x), wBK cI cB xs (A 5) b]).Perm (List.flatten [wBK cI cB xs (A (8 + n.toNatClampNeg)) x, wBK cI cB xs (A 5) b] ++ ((A 7 0, .inr (2, [.ref (A 7 1), .int n1, .int n2])) :: (A 7 1, .inl (cO, 8, .inr (.inr (.inr (.inr (kf A)))))) :: Wr)) := by
    intro x n1 n2
    have h1 := hWr x
    show ((A 7 0, _) :: (A 7 1, _) :: (List.range 8).flatMap (fun i => wBK cI cB xs (A (8 + i)) (updS h.2.2 n.toNatClampNeg x i)) ++ (wBK cI cB xs (A 5) b ++ [])).Perm ((wBK cI cB xs (A (8 + n.toNatClampNeg)) x ++ (wBK cI cB xs (A 5) b ++ [])) ++ _)
    exact perm_keep _ _ _ _ _ _ h1
  have hp0 : (List.flatten [wHI cI cB cO xs A (n, h.2.1, h.2.2), wBK cI cB xs (A 5) b]).Perm _ := (by rw [updS_self] : (List.flatten [wHI cI cB cO xs A (n, h.2.1, updS h.2.2 n.toNatClampNeg (h.2.2 n.toNatClampNeg)), wBK cI cB xs (A 5) b]) = (List.flatten [wHI cI cB cO xs A (n, h.2.1, h.2.2), wBK cI cB xs (A 5) b])) ▸ hpw (h.2.2 n.toNatClampNeg) n h.2.1
  refine J_cvF (pc := 39) (As := [.ref (A 5 0)]) (st := []) C dX2_keep_39 ml_RX2_31 mi_yX0_copyFrom (C_B_copyFrom l D cI cB cL cO pf N xs (A (8 + n.toNatClampNeg)) (A 5) (h.2.2 n.toNatClampNeg) b x hx) _ hp0 (q0 := 0) rfl rfl rfl ⟨(Nat.le_of_ble_eq_true rfl), (Nat.le_of_ble_eq_true rfl)⟩ ⟨(Nat.le_of_ble_eq_true rfl), (Nat.le_of_ble_eq_true rfl)⟩ (Nat.le_of_ble_eq_true rfl) ?_
  rintro v w1 ⟨rfl, rfl⟩
  refine J_perm (hpw x n h.2.1).symm ?_
  refine J_aload_n (pc := 42) C dX2_keep_42 1 rfl ?_
  refine J_aload_n (pc := 43) C dX2_keep_43 1 rfl ?_
  refine J_get (pc := 44) C dX2_keep_44 jf_X2 0 (rfl : (List.flatten [wHI cI cB cO xs A (n, h.2.1, updS h.2.2 n.toNatClampNeg x), wBK cI cB xs (A 5) b])[0]? = some (A 7 0, .inr (2, [.ref (A 7 1), .int n, .int h.2.1]))) rfl 2 (by decide) rfl fl_RX2_24 rfl ?_
  refine J_iconst (v := 1) (pc := 47) C dX2_keep_47 (by decide) ?_
  refine J_iadd (pc := 48) C dX2_keep_48 ?_
  refine J_aload_n (pc := 49) C dX2_keep_49 1 rfl ?_
  refine J_get (pc := 50) C dX2_keep_50 jf_X2 0 (rfl : (List.flatten [wHI cI cB cO xs A (n, h.2.1, updS h.2.2 n.toNatClampNeg x), wBK cI cB xs (A 5) b])[0]? = some (A 7 0, .inr (2, [.ref (A 7 1), .int n, .int h.2.1]))) rfl 0 (by decide) rfl fl_RX2_11 rfl ?_
  refine J_alen (pc := 53) C dX2_keep_53 1 3 (rfl : (List.flatten [wHI cI cB cO xs A (n, h.2.1, updS h.2.2 n.toNatClampNeg x), wBK cI cB xs (A 5) b])[1]? = some (A 7 1, .inl (cO, 8, .inr (.inr (.inr (.inr (kf A))))))) rfl ?_
  refine J_mmin (pc := 54) C dX2_keep_54 ml_RX2_35 w_min (Nat.le_of_ble_eq_true rfl) (Nat.le_of_ble_eq_true rfl) ⟨Nat.zero_le _, Nat.zero_le _⟩ ?_
  refine J_put (tt := .int) (pc := 57) C dX2_keep_57 jf_X2 0 (rfl : (List.flatten [wHI cI cB cO xs A (n, h.2.1, updS h.2.2 n.toNatClampNeg x), wBK cI cB xs (A 5) b])[0]? = some (A 7 0, .inr (2, [.ref (A 7 1), .int n, .int h.2.1]))) rfl 2 (by decide) rfl fl_RX2_24 rfl (by decide +kernel) rfl rfl (Nat.le_of_ble_eq_true rfl) ?_
  refine J_ws (ws2 := (List.flatten [wHI cI cB cO xs A (n, (if nI 8 < h.2.1 + 1 then nI 8 else h.2.1 + 1), updS h.2.2 n.toNatClampNeg x), wBK cI cB xs (A 5) b])) rfl ?_
  exact J_vret (pc := 60) C dX2_keep_60 hr ⟨rfl, rfl⟩
set_option maxHeartbeats 1000000 in
theorem C_keep (l : Launch) (D : va_G) (cI cB cL cO : ClassId) (pf : Nat → Nat) (N : Nat) (xs : Nat) (A : Nat → Nat → Nat) (h : T_HI) (b : T_BK) (o : T_HI) (hf : F_keep N h b = some o) : Ct l D [(cI, .int), (cB, .byte), (cL, .byte), (cO, .object RX0)] pf yX2_keep cX2_keep 3 (none : Option FieldType) { frames := 5, cells := 0, slots := 0, locals := 146 } [.ref (A 7 0), .ref (A 5 0)] (List.flatten [wHI cI cB cO xs A h, wBK cI cB xs (A 5) b]) (is1 none (List.flatten [wHI cI cB cO xs A o, wBK cI cB xs (A 5) b])) := by
  refine Ct_of (own := RX2) (lv0 := [(0, .ref (A 7 0)), (1, .ref (A 5 0))]) (by decide) rfl rfl (Nat.le_of_ble_eq_true rfl) ?_
  intro p e s m args below meth c C hr hnm
  unfold F_keep at hf
  refine J_aload_n (pc := 0) C dX2_keep_0 0 rfl ?_
  refine J_aload_n (pc := 1) C dX2_keep_1 0 rfl ?_
  refine J_get (pc := 2) C dX2_keep_2 jf_X2 0 (rfl : (List.flatten [wHI cI cB cO xs A h, wBK cI cB xs (A 5) b])[0]? = some (A 7 0, .inr (2, [.ref (A 7 1), .int h.1, .int h.2.1]))) rfl 1 (by decide) rfl fl_RX2_20 rfl ?_
  refine J_iconst (v := 1) (pc := 5) C dX2_keep_5 (by decide) ?_
  refine J_iadd (pc := 6) C dX2_keep_6 ?_
  refine J_aload_n (pc := 7) C dX2_keep_7 0 rfl ?_
  refine J_get (pc := 8) C dX2_keep_8 jf_X2 0 (rfl : (List.flatten [wHI cI cB cO xs A h, wBK cI cB xs (A 5) b])[0]? = some (A 7 0, .inr (2, [.ref (A 7 1), .int h.1, .int h.2.1]))) rfl 0 (by decide) rfl fl_RX2_11 rfl ?_
  refine J_alen (pc := 11) C dX2_keep_11 1 3 (rfl : (List.flatten [wHI cI cB cO xs A h, wBK cI cB xs (A 5) b])[1]? = some (A 7 1, .inl (cO, 8, .inr (.inr (.inr (.inr (kf A))))))) rfl ?_
  refine J_ic_ge (pc := 12) (tgt := 24) C dX2_keep_12 (by decide) hf (fun h1 => ?_) (fun h1 => ?_)
  · refine J_iconst (v := 0) (pc := 24) C dX2_keep_24 (by decide) ?_
    exact t_keep25 C hr h1
  · refine J_aload_n (pc := 15) C dX2_keep_15 0 rfl ?_
    refine J_get (pc := 16) C dX2_keep_16 jf_X2 0 (rfl : (List.flatten [wHI cI cB cO xs A h, wBK cI cB xs (A 5) b])[0]? = some (A 7 0, .inr (2, [.ref (A 7 1), .int h.1, .int h.2.1]))) rfl 1 (by decide) rfl fl_RX2_20 rfl ?_
    refine J_iconst (v := 1) (pc := 19) C dX2_keep_19 (by decide) ?_
    refine J_iadd (pc := 20) C dX2_keep_20 ?_
    refine J_goto (tgt := 25) (pc := 21) C dX2_keep_21 (by decide) ?_
    exact t_keep25 C hr h1
set_option maxHeartbeats 2000000 in
theorem C_giveBack (l : Launch) (D : va_G) (cI cB cL cO : ClassId) (pf : Nat → Nat) (N : Nat) (xs : Nat) (A : Nat → Nat → Nat) (h : T_HI) (b : T_BK) (o : T_HI × T_BK) (hf : F_giveBack N h b = some o) : Ct l D [(cI, .int), (cB, .byte), (cL, .byte), (cO, .object RX0)] pf yX2_giveBack cX2_giveBack 3 (none : Option FieldType) { frames := 5, cells := 0, slots := 0, locals := 146 } [.ref (A 7 0), .ref (A 5 0)] (List.flatten [wHI cI cB cO xs A h, wBK cI cB xs (A 5) b]) (is1 none (List.flatten [wHI cI cB cO xs A o.1, wBK cI cB xs (A 5) o.2])) := by
  refine Ct_of (own := RX2) (lv0 := [(0, .ref (A 7 0)), (1, .ref (A 5 0))]) (by decide) rfl rfl (Nat.le_of_ble_eq_true rfl) ?_
  intro p e s m args below meth c C hr hnm
  unfold F_giveBack at hf
  by_cases hg : h.1 < 0 ∨ 8 ≤ h.1.toNatClampNeg ∨ nI 8 ≤ h.1
  · rw [if_pos hg] at hf; cases hf
  rw [if_neg hg] at hf
  have hg' := hg
  simp only [not_or] at hg'
  refine J_aload_n (pc := 0) C dX2_giveBack_0 0 rfl ?_
  refine J_cvL (α := Unit) (o := ()) (fx := some ()) (K := fun _ => some ()) (V := fun _ => some (.ref (A (8 + h.1.toNatClampNeg) 0))) (pc := 1) (As := []) (st := []) C (fun _ => (List.flatten [wHI cI cB cO xs A h, wBK cI cB xs (A 5) b])) dX2_giveBack_1 ml_RX2_27 mi_yX2_newestSlot (fun _ _ => C_newestSlot l D cI cB cL cO pf N xs A (ct := h.2.1) rfl rfl hg) rfl (q0 := 0) (rfl : (List.flatten [wHI cI cB cO xs A h, wBK cI cB xs (A 5) b])[0]? = some (A 7 0, .inr (2, [.ref (A 7 1), .int h.1, .int h.2.1]))) rfl rfl ⟨rfl, rfl⟩ ⟨(Nat.le_of_ble_eq_true rfl), (Nat.le_of_ble_eq_true rfl)⟩ ⟨Nat.zero_le _, Nat.zero_le _⟩ (Nat.le_of_ble_eq_true rfl) (fun _ _ => ?_)
  refine J_astore_n (lv2 := [(2, .ref (A (8 + h.1.toNatClampNeg) 0)), (0, .ref (A 7 0)), (1, .ref (A 5 0))]) (pc := 4) C dX2_giveBack_4 (by decide) rfl ?_
  refine J_aload_n (pc := 5) C dX2_giveBack_5 0 rfl ?_
  refine J_ifnullR (pc := 6) C dX2_giveBack_6 ?_
  refine J_aload_n (pc := 9) C dX2_giveBack_9 1 rfl ?_
  refine J_get (pc := 10) C dX2_giveBack_10 jf_X2 0 (rfl : (List.flatten [wHI cI cB cO xs A h, wBK cI cB xs (A 5) b])[0]? = some (A 7 0, .inr (2, [.ref (A 7 1), .int h.1, .int h.2.1]))) rfl 2 (by decide) rfl fl_RX2_24 rfl ?_
  refine J_if_le (pc := 13) (tgt := 58) C dX2_giveBack_13 (by decide) hf (fun hf => ?_) (fun hf => ?_)
  · cases hf
    exact J_vret (pc := 58) C dX2_giveBack_58 hr ⟨rfl, rfl⟩
  · obtain ⟨x, hx, hK⟩ := Option.bind_eq_some_iff.mp hf
    refine J_aload_n (pc := 16) C dX2_giveBack_16 2 rfl ?_
    refine J_aload_n (pc := 17) C dX2_giveBack_17 0 rfl ?_
    obtain ⟨Wr, hWr⟩ := slot_split (fun i => wBK cI cB xs (A (8 + i))) h.2.2 h.1.toNatClampNeg (Nat.lt_of_not_le hg'.2.1)
    have hpw : ∀ (b : T_BK), (List.flatten [wHI cI cB cO xs A h, wBK cI cB xs (A 5) b]).Perm (List.flatten [wBK cI cB xs (A 5) b, wBK cI cB xs (A (8 + h.1.toNatClampNeg)) (h.2.2 h.1.toNatClampNeg)] ++ ((A 7 0, .inr (2, [.ref (A 7 1), .int h.1, .int h.2.1])) :: (A 7 1, .inl (cO, 8, .inr (.inr (.inr (.inr (kf A)))))) :: Wr)) := by
      intro b
      have h1 := hWr (h.2.2 h.1.toNatClampNeg)
      rw [updS_self] at h1
      show ((A 7 0, _) :: (A 7 1, _) :: (List.range 8).flatMap (fun i => wBK cI cB xs (A (8 + i)) (h.2.2 i)) ++ (wBK cI cB xs (A 5) b ++ [])).Perm ((wBK cI cB xs (A 5) b ++ (wBK cI cB xs (A (8 + h.1.toNatClampNeg)) (h.2.2 h.1.toNatClampNeg) ++ [])) ++ _)
      exact perm_give _ _ _ _ _ _ h1
    refine J_cvF (pc := 18) (As := [.ref (A (8 + h.1.toNatClampNeg) 0)]) (st := []) C dX2_giveBack_18 ml_RX2_31 mi_yX0_copyFrom (C_B_copyFrom l D cI cB cL cO pf N xs (A 5) (A (8 + h.1.toNatClampNeg)) b (h.2.2 h.1.toNatClampNeg) x hx) _ (hpw b) (q0 := 0) rfl rfl rfl ⟨(Nat.le_of_ble_eq_true rfl), (Nat.le_of_ble_eq_true rfl)⟩ ⟨(Nat.le_of_ble_eq_true rfl), (Nat.le_of_ble_eq_true rfl)⟩ (Nat.le_of_ble_eq_true rfl) ?_
    rintro v w1 ⟨rfl, rfl⟩
    refine J_perm (hpw x).symm ?_
    refine J_aload_n (pc := 21) C dX2_giveBack_21 1 rfl ?_
    refine J_aload_n (pc := 22) C dX2_giveBack_22 1 rfl ?_
    refine J_get (pc := 23) C dX2_giveBack_23 jf_X2 0 (rfl : (List.flatten [wHI cI cB cO xs A h, wBK cI cB xs (A 5) x])[0]? = some (A 7 0, .inr (2, [.ref (A 7 1), .int h.1, .int h.2.1]))) rfl 1 (by decide) rfl fl_RX2_20 rfl ?_
    refine J_if_le (pc := 26) (tgt := 38) C dX2_giveBack_26 (by decide) hK (fun hK => ?_) (fun hK => ?_)
    · have hK := Option.some.inj hK
      subst hK
      refine J_aload_n (pc := 38) C dX2_giveBack_38 1 rfl ?_
      refine J_get (pc := 39) C dX2_giveBack_39 jf_X2 0 (rfl : (List.flatten [wHI cI cB cO xs A h, wBK cI cB xs (A 5) x])[0]? = some (A 7 0, .inr (2, [.ref (A 7 1), .int h.1, .int h.2.1]))) rfl 0 (by decide) rfl fl_RX2_11 rfl ?_
      refine J_alen (pc := 42) C dX2_giveBack_42 1 3 (rfl : (List.flatten [wHI cI cB cO xs A h, wBK cI cB xs (A 5) x])[1]? = some (A 7 1, .inl (cO, 8, .inr (.inr (.inr (.inr (kf A))))))) rfl ?_
      refine J_iconst (v := 1) (pc := 43) C dX2_giveBack_43 (by decide) ?_
      refine J_isub (pc := 44) C dX2_giveBack_44 ?_
      refine J_put (tt := .int) (pc := 45) C dX2_giveBack_45 jf_X2 0 (rfl : (List.flatten [wHI cI cB cO xs A h, wBK cI cB xs (A 5) x])[0]? = some (A 7 0, .inr (2, [.ref (A 7 1), .int h.1, .int h.2.1]))) rfl 1 (by decide) rfl fl_RX2_20 rfl (by decide +kernel) rfl rfl (Nat.le_of_ble_eq_true rfl) ?_
      refine J_ws (ws2 := (List.flatten [wHI cI cB cO xs A (nI 8 - 1, h.2.1, h.2.2), wBK cI cB xs (A 5) x])) rfl ?_
      refine J_aload_n (pc := 48) C dX2_giveBack_48 1 rfl ?_
      refine J_dupr (pc := 49) C dX2_giveBack_49 ?_
      refine J_get (pc := 50) C dX2_giveBack_50 jf_X2 0 (rfl : (List.flatten [wHI cI cB cO xs A (nI 8 - 1, h.2.1, h.2.2), wBK cI cB xs (A 5) x])[0]? = some (A 7 0, .inr (2, [.ref (A 7 1), .int (nI 8 - 1, h.2.1, h.2.2).1, .int (nI 8 - 1, h.2.1, h.2.2).2.1]))) rfl 2 (by decide) rfl fl_RX2_24 rfl ?_
      refine J_iconst (v := 1) (pc := 53) C dX2_giveBack_53 (by decide) ?_
      refine J_isub (pc := 54) C dX2_giveBack_54 ?_
      refine J_put (tt := .int) (pc := 55) C dX2_giveBack_55 jf_X2 0 (rfl : (List.flatten [wHI cI cB cO xs A (nI 8 - 1, h.2.1, h.2.2), wBK cI cB xs (A 5) x])[0]? = some (A 7 0, .inr (2, [.ref (A 7 1), .int (nI 8 - 1, h.2.1, h.2.2).1, .int (nI 8 - 1, h.2.1, h.2.2).2.1]))) rfl 2 (by decide) rfl fl_RX2_24 rfl (by decide +kernel) rfl rfl (Nat.le_of_ble_eq_true rfl) ?_
      refine J_ws (ws2 := (List.flatten [wHI cI cB cO xs A (nI 8 - 1, h.2.1 - 1, h.2.2), wBK cI cB xs (A 5) x])) rfl ?_
      exact J_vret (pc := 58) C dX2_giveBack_58 hr ⟨rfl, rfl⟩
    · have hK := Option.some.inj hK
      subst hK
      refine J_aload_n (pc := 29) C dX2_giveBack_29 1 rfl ?_
      refine J_get (pc := 30) C dX2_giveBack_30 jf_X2 0 (rfl : (List.flatten [wHI cI cB cO xs A h, wBK cI cB xs (A 5) x])[0]? = some (A 7 0, .inr (2, [.ref (A 7 1), .int h.1, .int h.2.1]))) rfl 1 (by decide) rfl fl_RX2_20 rfl ?_
      refine J_iconst (v := 1) (pc := 33) C dX2_giveBack_33 (by decide) ?_
      refine J_isub (pc := 34) C dX2_giveBack_34 ?_
      refine J_goto (tgt := 45) (pc := 35) C dX2_giveBack_35 (by decide) ?_
      refine J_put (tt := .int) (pc := 45) C dX2_giveBack_45 jf_X2 0 (rfl : (List.flatten [wHI cI cB cO xs A h, wBK cI cB xs (A 5) x])[0]? = some (A 7 0, .inr (2, [.ref (A 7 1), .int h.1, .int h.2.1]))) rfl 1 (by decide) rfl fl_RX2_20 rfl (by decide +kernel) rfl rfl (Nat.le_of_ble_eq_true rfl) ?_
      refine J_ws (ws2 := (List.flatten [wHI cI cB cO xs A (h.1 - 1, h.2.1, h.2.2), wBK cI cB xs (A 5) x])) rfl ?_
      refine J_aload_n (pc := 48) C dX2_giveBack_48 1 rfl ?_
      refine J_dupr (pc := 49) C dX2_giveBack_49 ?_
      refine J_get (pc := 50) C dX2_giveBack_50 jf_X2 0 (rfl : (List.flatten [wHI cI cB cO xs A (h.1 - 1, h.2.1, h.2.2), wBK cI cB xs (A 5) x])[0]? = some (A 7 0, .inr (2, [.ref (A 7 1), .int (h.1 - 1, h.2.1, h.2.2).1, .int (h.1 - 1, h.2.1, h.2.2).2.1]))) rfl 2 (by decide) rfl fl_RX2_24 rfl ?_
      refine J_iconst (v := 1) (pc := 53) C dX2_giveBack_53 (by decide) ?_
      refine J_isub (pc := 54) C dX2_giveBack_54 ?_
      refine J_put (tt := .int) (pc := 55) C dX2_giveBack_55 jf_X2 0 (rfl : (List.flatten [wHI cI cB cO xs A (h.1 - 1, h.2.1, h.2.2), wBK cI cB xs (A 5) x])[0]? = some (A 7 0, .inr (2, [.ref (A 7 1), .int (h.1 - 1, h.2.1, h.2.2).1, .int (h.1 - 1, h.2.1, h.2.2).2.1]))) rfl 2 (by decide) rfl fl_RX2_24 rfl (by decide +kernel) rfl rfl (Nat.le_of_ble_eq_true rfl) ?_
      refine J_ws (ws2 := (List.flatten [wHI cI cB cO xs A (h.1 - 1, h.2.1 - 1, h.2.2), wBK cI cB xs (A 5) x])) rfl ?_
      exact J_vret (pc := 58) C dX2_giveBack_58 hr ⟨rfl, rfl⟩
theorem C_forget (l : Launch) (D : va_G) (cI cB cL cO : ClassId) (pf : Nat → Nat) (N : Nat) (xs : Nat) (A : Nat → Nat → Nat) (h : T_HI) (o : T_HI) (hf : F_forget N h = some o) : Ct l D [(cI, .int), (cB, .byte), (cL, .byte), (cO, .object RX0)] pf yX2_forget cX2_forget 1 (none : Option FieldType) { frames := 0, cells := 0, slots := 0, locals := 0 } [.ref (A 7 0)] (List.flatten [wHI cI cB cO xs A h]) (is1 none (List.flatten [wHI cI cB cO xs A o])) := by
  refine Ct_of (own := RX2) (lv0 := [(0, .ref (A 7 0))]) (by decide) rfl rfl (Nat.le_of_ble_eq_true rfl) ?_
  intro p e s m args below meth c C hr hnm
  cases hf
  refine J_aload_n (pc := 0) C dX2_forget_0 0 rfl ?_
  refine J_iconst (v := 0) (pc := 1) C dX2_forget_1 (by decide) ?_
  refine J_put (tt := .int) (pc := 2) C dX2_forget_2 jf_X2 0 (rfl : (List.flatten [wHI cI cB cO xs A h])[0]? = some (A 7 0, .inr (2, [.ref (A 7 1), .int h.1, .int h.2.1]))) rfl 2 (by decide) rfl fl_RX2_24 rfl (by decide +kernel) rfl rfl (Nat.le_of_ble_eq_true rfl) ?_
  refine J_ws (ws2 := List.flatten [wHI cI cB cO xs A (h.1, 0, h.2.2)]) rfl ?_
  exact J_vret (pc := 5) C dX2_forget_5 hr ⟨rfl, rfl⟩
theorem C_hcount (l : Launch) (D : va_G) (cI cB cL cO : ClassId) (pf : Nat → Nat) (N : Nat) (xs : Nat) (A : Nat → Nat → Nat) (h : T_HI) (o : Int32) (hf : F_hcount N h = some o) : Ct l D [(cI, .int), (cB, .byte), (cL, .byte), (cO, .object RX0)] pf yX2_count cX2_count 1 (some FieldType.int) { frames := 0, cells := 0, slots := 0, locals := 0 } [.ref (A 7 0)] (List.flatten [wHI cI cB cO xs A h]) (is1 (some (.int o)) (List.flatten [wHI cI cB cO xs A h])) := by
  refine Ct_of (own := RX2) (lv0 := [(0, .ref (A 7 0))]) (by decide) rfl rfl (Nat.le_of_ble_eq_true rfl) ?_
  intro p e s m args below meth c C hr hnm
  cases hf
  refine J_aload_n (pc := 0) C dX2_count_0 0 rfl ?_
  refine J_get (pc := 1) C dX2_count_1 jf_X2 0 (rfl : (List.flatten [wHI cI cB cO xs A h])[0]? = some (A 7 0, .inr (2, [.ref (A 7 1), .int h.1, .int h.2.1]))) rfl 2 (by decide) rfl fl_RX2_24 rfl ?_
  exact J_iret (pc := 4) C dX2_count_4 hr ⟨rfl, rfl⟩
