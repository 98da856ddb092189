set_option maxRecDepth 100000 in
theorem ml_L_164 : Cond.methodLink R_lawN 164 yL_append ∈ BIG := bg3 193 (by decide +kernel)
set_option maxRecDepth 100000 in
theorem ml_L_169 : Cond.methodLink R_lawN 169 yX11_append ∈ BIG := bg7 148 (by decide +kernel)
set_option maxRecDepth 100000 in
theorem ml_L_170 : Cond.methodLink R_lawN 170 yX11_thrown ∈ BIG := bg7 59 (by decide +kernel)
set_option maxRecDepth 100000 in
theorem ml_L_173 : Cond.methodLink R_lawN 173 yL_truncate ∈ BIG := bg4 37 (by decide +kernel)
set_option maxRecDepth 100000 in
theorem ml_L_176 : Cond.methodLink R_lawN 176 yX11_truncate ∈ BIG := bg7 163 (by decide +kernel)
set_option maxRecDepth 100000 in
theorem ml_L_177 : Cond.methodLink R_lawN 177 yX10_errorPosition ∈ BIG := bg2 109 (by decide +kernel)
set_option maxRecDepth 100000 in
theorem ml_L_180 : Cond.methodLink R_lawN 180 yX11_errorPosition ∈ BIG := bg7 170 (by decide +kernel)
set_option maxRecDepth 100000 in
theorem ml_L_181 : Cond.methodLink R_lawN 181 yL_load ∈ BIG := bg4 68 (by decide +kernel)
set_option maxRecDepth 100000 in
theorem ml_L_184 : Cond.methodLink R_lawN 184 yX11_load ∈ BIG := bg8 40 (by decide +kernel)
set_option maxRecDepth 100000 in
theorem ml_L_185 : Cond.methodLink R_lawN 185 yL_find ∈ BIG := bg4 87 (by decide +kernel)
set_option maxRecDepth 100000 in
theorem ml_L_187 : Cond.methodLink R_lawN 187 yX11_find ∈ BIG := bg8 44 (by decide +kernel)
set_option maxRecDepth 100000 in
theorem ml_L_188 : Cond.methodLink R_lawN 188 yL_purchase ∈ BIG := bg4 113 (by decide +kernel)
set_option maxRecDepth 100000 in
theorem ml_L_191 : Cond.methodLink R_lawN 191 yX11_purchase ∈ BIG := bg8 48 (by decide +kernel)
set_option maxRecDepth 100000 in
theorem ml_L_192 : Cond.methodLink R_lawN 192 yL_refund ∈ BIG := bg5 10 (by decide +kernel)
set_option maxRecDepth 100000 in
theorem ml_L_194 : Cond.methodLink R_lawN 194 yX11_refund ∈ BIG := bg8 126 (by decide +kernel)
set_option maxRecDepth 100000 in
theorem ml_L_195 : Cond.methodLink R_lawN 195 yL_redeem ∈ BIG := bg5 59 (by decide +kernel)
set_option maxRecDepth 100000 in
theorem ml_L_198 : Cond.methodLink R_lawN 198 yX11_redeem ∈ BIG := bg8 155 (by decide +kernel)
set_option maxRecDepth 100000 in
theorem ml_L_199 : Cond.methodLink R_lawN 199 yL_transfer ∈ BIG := bg5 89 (by decide +kernel)
set_option maxRecDepth 100000 in
theorem ml_L_201 : Cond.methodLink R_lawN 201 yX11_transfer ∈ BIG := bg8 175 (by decide +kernel)
set_option maxRecDepth 100000 in
theorem ml_L_202 : Cond.methodLink R_lawN 202 yL_join ∈ BIG := bg5 107 (by decide +kernel)
set_option maxRecDepth 100000 in
theorem ml_L_204 : Cond.methodLink R_lawN 204 yX11_join ∈ BIG := bg8 179 (by decide +kernel)
set_option maxRecDepth 100000 in
theorem ml_L_205 : Cond.methodLink R_lawN 205 yL_leave ∈ BIG := bg5 144 (by decide +kernel)
set_option maxRecDepth 100000 in
theorem ml_L_207 : Cond.methodLink R_lawN 207 yX11_leave ∈ BIG := bg8 191 (by decide +kernel)
set_option maxRecDepth 100000 in
theorem ml_L_208 : Cond.methodLink R_lawN 208 yL_setShare ∈ BIG := bg5 156 (by decide +kernel)
set_option maxRecDepth 100000 in
theorem ml_L_210 : Cond.methodLink R_lawN 210 yX11_setShare ∈ BIG := bg8 195 (by decide +kernel)
set_option maxRecDepth 100000 in
theorem ml_L_211 : Cond.methodLink R_lawN 211 yL_advance ∈ BIG := bg5 167 (by decide +kernel)
set_option maxRecDepth 100000 in
theorem ml_L_213 : Cond.methodLink R_lawN 213 yX11_advance ∈ BIG := bg8 199 (by decide +kernel)
set_option maxRecDepth 100000 in
theorem ml_L_214 : Cond.methodLink R_lawN 214 yL_setup ∈ BIG := bg5 203 (by decide +kernel)
set_option maxRecDepth 100000 in
theorem ml_L_216 : Cond.methodLink R_lawN 216 yX11_setup ∈ BIG := bg8 212 (by decide +kernel)
set_option maxRecDepth 100000 in
theorem ml_L_217 : Cond.methodLink R_lawN 217 yL_threshold ∈ BIG := bg5 213 (by decide +kernel)
set_option maxRecDepth 100000 in
theorem ml_L_219 : Cond.methodLink R_lawN 219 yX11_threshold ∈ BIG := bg8 217 (by decide +kernel)
set_option maxRecDepth 100000 in
theorem ml_L_220 : Cond.methodLink R_lawN 220 yL_extras ∈ BIG := bg5 222 (by decide +kernel)
set_option maxRecDepth 100000 in
theorem ml_L_222 : Cond.methodLink R_lawN 222 yX11_extras ∈ BIG := bg8 221 (by decide +kernel)
set_option maxRecDepth 100000 in
theorem ml_L_223 : Cond.methodLink R_lawN 223 yX10_today ∈ BIG := bg3 74 (by decide +kernel)
set_option maxRecDepth 100000 in
theorem ml_L_226 : Cond.methodLink R_lawN 226 yX11_today ∈ BIG := bg8 226 (by decide +kernel)
set_option maxRecDepth 100000 in
theorem ml_L_227 : Cond.methodLink R_lawN 227 yL_balance ∈ BIG := bg5 230 (by decide +kernel)
set_option maxRecDepth 100000 in
theorem ml_L_229 : Cond.methodLink R_lawN 229 yX11_balance ∈ BIG := bg8 230 (by decide +kernel)
set_option maxRecDepth 100000 in
theorem ml_L_230 : Cond.methodLink R_lawN 230 yL_debt ∈ BIG := bg5 237 (by decide +kernel)
set_option maxRecDepth 100000 in
theorem ml_L_232 : Cond.methodLink R_lawN 232 yX11_debt ∈ BIG := bg8 238 (by decide +kernel)
set_option maxRecDepth 100000 in
theorem ml_L_233 : Cond.methodLink R_lawN 233 yL_available ∈ BIG := bg6 8 (by decide +kernel)
set_option maxRecDepth 100000 in
theorem ml_L_235 : Cond.methodLink R_lawN 235 yX11_available ∈ BIG := bg9 2 (by decide +kernel)
set_option maxRecDepth 100000 in
theorem ml_L_236 : Cond.methodLink R_lawN 236 yL_cohortCount ∈ BIG := bg6 15 (by decide +kernel)
set_option maxRecDepth 100000 in
theorem ml_L_238 : Cond.methodLink R_lawN 238 yX11_cohortCount ∈ BIG := bg9 6 (by decide +kernel)
set_option maxRecDepth 100000 in
theorem ml_L_239 : Cond.methodLink R_lawN 239 yL_cohort ∈ BIG := bg6 26 (by decide +kernel)
set_option maxRecDepth 100000 in
theorem ml_L_241 : Cond.methodLink R_lawN 241 yX11_cohort ∈ BIG := bg9 10 (by decide +kernel)
set_option maxRecDepth 100000 in
theorem ml_L_242 : Cond.methodLink R_lawN 242 yL_household ∈ BIG := bg6 42 (by decide +kernel)
set_option maxRecDepth 100000 in
theorem ml_L_244 : Cond.methodLink R_lawN 244 yX11_household ∈ BIG := bg9 18 (by decide +kernel)
set_option maxRecDepth 100000 in
theorem ml_L_245 : Cond.methodLink R_lawN 245 yL_members ∈ BIG := bg6 49 (by decide +kernel)
set_option maxRecDepth 100000 in
theorem ml_L_247 : Cond.methodLink R_lawN 247 yX11_members ∈ BIG := bg9 22 (by decide +kernel)
set_option maxRecDepth 100000 in
theorem ml_L_248 : Cond.methodLink R_lawN 248 yL_poolBalance ∈ BIG := bg6 57 (by decide +kernel)
set_option maxRecDepth 100000 in
theorem ml_L_250 : Cond.methodLink R_lawN 250 yX11_poolBalance ∈ BIG := bg9 30 (by decide +kernel)
set_option maxRecDepth 100000 in
theorem ml_L_251 : Cond.methodLink R_lawN 251 yL_poolCohortCount ∈ BIG := bg6 65 (by decide +kernel)
set_option maxRecDepth 100000 in
theorem ml_L_253 : Cond.methodLink R_lawN 253 yX11_poolCohortCount ∈ BIG := bg9 34 (by decide +kernel)
set_option maxRecDepth 100000 in
theorem ml_L_254 : Cond.methodLink R_lawN 254 yL_poolCohort ∈ BIG := bg6 72 (by decide +kernel)
set_option maxRecDepth 100000 in
theorem ml_L_256 : Cond.methodLink R_lawN 256 yX11_poolCohort ∈ BIG := bg9 42 (by decide +kernel)
set_option maxRecDepth 100000 in
theorem ml_L_257 : Cond.methodLink R_lawN 257 yL_contributed ∈ BIG := bg6 79 (by decide +kernel)
set_option maxRecDepth 100000 in
theorem ml_L_259 : Cond.methodLink R_lawN 259 yX11_contributed ∈ BIG := bg9 47 (by decide +kernel)
set_option maxRecDepth 100000 in
theorem ml_L_260 : Cond.methodLink R_lawN 260 yL_total ∈ BIG := bg6 87 (by decide +kernel)
set_option maxRecDepth 100000 in
theorem ml_L_262 : Cond.methodLink R_lawN 262 yX11_total ∈ BIG := bg9 51 (by decide +kernel)
set_option maxRecDepth 100000 in
theorem ml_L_263 : Cond.methodLink R_lawN 263 yL_tier ∈ BIG := bg6 98 (by decide +kernel)
set_option maxRecDepth 100000 in
theorem ml_L_265 : Cond.methodLink R_lawN 265 yX11_tier ∈ BIG := bg9 55 (by decide +kernel)
set_option maxRecDepth 100000 in
theorem ml_L_266 : Cond.methodLink R_lawN 266 yL_earnedTier ∈ BIG := bg6 109 (by decide +kernel)
set_option maxRecDepth 100000 in
theorem ml_L_268 : Cond.methodLink R_lawN 268 yX11_earnedTier ∈ BIG := bg9 59 (by decide +kernel)
set_option maxRecDepth 100000 in
theorem ml_L_269 : Cond.methodLink R_lawN 269 yL_qualifying ∈ BIG := bg6 121 (by decide +kernel)
set_option maxRecDepth 100000 in
theorem ml_L_271 : Cond.methodLink R_lawN 271 yX11_qualifying ∈ BIG := bg9 63 (by decide +kernel)
set_option maxRecDepth 100000 in
theorem ml_L_272 : Cond.methodLink R_lawN 272 yL_belowSince ∈ BIG := bg6 128 (by decide +kernel)
set_option maxRecDepth 100000 in
theorem ml_L_274 : Cond.methodLink R_lawN 274 yX11_belowSince ∈ BIG := bg9 67 (by decide +kernel)
set_option maxRecDepth 100000 in
theorem ml_L_275 : Cond.methodLink R_lawN 275 yL_toNextTier ∈ BIG := bg6 139 (by decide +kernel)
set_option maxRecDepth 100000 in
theorem ml_L_277 : Cond.methodLink R_lawN 277 yX11_toNextTier ∈ BIG := bg9 71 (by decide +kernel)
set_option maxRecDepth 100000 in
theorem ml_L_278 : Cond.methodLink R_lawN 278 yL_tierAfter ∈ BIG := bg6 147 (by decide +kernel)
set_option maxRecDepth 100000 in
theorem ml_L_280 : Cond.methodLink R_lawN 280 yX11_tierAfter ∈ BIG := bg9 75 (by decide +kernel)
set_option maxRecDepth 100000 in
theorem ml_L_281 : Cond.methodLink R_lawN 281 yL_wouldEarn ∈ BIG := bg6 158 (by decide +kernel)
set_option maxRecDepth 100000 in
theorem ml_L_283 : Cond.methodLink R_lawN 283 yX11_wouldEarn ∈ BIG := bg9 80 (by decide +kernel)
set_option maxRecDepth 100000 in
theorem ml_L_284 : Cond.methodLink R_lawN 284 yL_bestCategory ∈ BIG := bg6 166 (by decide +kernel)
set_option maxRecDepth 100000 in
theorem ml_L_286 : Cond.methodLink R_lawN 286 yX11_bestCategory ∈ BIG := bg9 84 (by decide +kernel)
set_option maxRecDepth 100000 in
theorem ml_L_287 : Cond.methodLink R_lawN 287 yL_leastCents ∈ BIG := bg6 178 (by decide +kernel)
set_option maxRecDepth 100000 in
theorem ml_L_289 : Cond.methodLink R_lawN 289 yX11_leastCents ∈ BIG := bg9 88 (by decide +kernel)
set_option maxRecDepth 100000 in
theorem ml_L_290 : Cond.methodLink R_lawN 290 yX10_purchaseCount ∈ BIG := bg3 82 (by decide +kernel)
set_option maxRecDepth 100000 in
theorem ml_L_293 : Cond.methodLink R_lawN 293 yX11_purchaseCount ∈ BIG := bg9 92 (by decide +kernel)
set_option maxRecDepth 100000 in
theorem ml_L_294 : Cond.methodLink R_lawN 294 yL_purchasePart ∈ BIG := bg6 191 (by decide +kernel)
set_option maxRecDepth 100000 in
theorem ml_L_296 : Cond.methodLink R_lawN 296 yX11_purchasePart ∈ BIG := bg9 96 (by decide +kernel)
set_option maxRecDepth 100000 in
theorem ml_L_297 : Cond.methodLink R_lawN 297 yL_expiringWithin ∈ BIG := bg6 198 (by decide +kernel)
set_option maxRecDepth 100000 in
theorem ml_L_299 : Cond.methodLink R_lawN 299 yX11_expiringWithin ∈ BIG := bg9 100 (by decide +kernel)
set_option maxRecDepth 100000 in
theorem ml_L_300 : Cond.methodLink R_lawN 300 yL_nextExpiry ∈ BIG := bg6 209 (by decide +kernel)
set_option maxRecDepth 100000 in
theorem ml_L_302 : Cond.methodLink R_lawN 302 yX11_nextExpiry ∈ BIG := bg9 104 (by decide +kernel)
set_option maxRecDepth 100000 in
theorem ml_L_303 : Cond.methodLink R_lawN 303 yL_redeemedWith ∈ BIG := bg6 221 (by decide +kernel)
set_option maxRecDepth 100000 in
theorem ml_L_305 : Cond.methodLink R_lawN 305 yX11_redeemedWith ∈ BIG := bg9 112 (by decide +kernel)
set_option maxRecDepth 100000 in
theorem ml_L_306 : Cond.methodLink R_lawN 306 yL_breakage ∈ BIG := bg6 232 (by decide +kernel)
set_option maxRecDepth 100000 in
theorem ml_L_308 : Cond.methodLink R_lawN 308 yX11_breakage ∈ BIG := bg9 117 (by decide +kernel)
set_option maxRecDepth 100000 in
theorem ml_L_309 : Cond.methodLink R_lawN 309 yL_poolBreakage ∈ BIG := bg6 239 (by decide +kernel)
set_option maxRecDepth 100000 in
theorem ml_L_311 : Cond.methodLink R_lawN 311 yX11_poolBreakage ∈ BIG := bg9 129 (by decide +kernel)
set_option maxRecDepth 100000 in
theorem ml_L_312 : Cond.methodLink R_lawN 312 yX10_totalBreakage ∈ BIG := bg3 94 (by decide +kernel)
set_option maxRecDepth 100000 in
theorem ml_L_315 : Cond.methodLink R_lawN 315 yX11_totalBreakage ∈ BIG := bg9 137 (by decide +kernel)
set_option maxRecDepth 100000 in
theorem ml_L_316 : Cond.methodLink R_lawN 316 yL_rankedMember ∈ BIG := bg7 6 (by decide +kernel)
set_option maxRecDepth 100000 in
theorem ml_L_318 : Cond.methodLink R_lawN 318 yX11_rankedMember ∈ BIG := bg9 141 (by decide +kernel)
set_option maxRecDepth 100000 in
theorem ml_L_319 : Cond.methodLink R_lawN 319 yX10_logSize ∈ BIG := bg3 138 (by decide +kernel)
set_option maxRecDepth 100000 in
theorem ml_L_322 : Cond.methodLink R_lawN 322 yX11_logSize ∈ BIG := bg9 157 (by decide +kernel)
set_option maxRecDepth 100000 in
theorem ml_L_323 : Cond.methodLink R_lawN 323 yL_log ∈ BIG := bg7 26 (by decide +kernel)
set_option maxRecDepth 100000 in
theorem ml_L_325 : Cond.methodLink R_lawN 325 yX11_log ∈ BIG := bg9 161 (by decide +kernel)
set_option maxRecDepth 100000 in
theorem ml_L_326 : Cond.methodLink R_lawN 326 yL_undo ∈ BIG := bg7 39 (by decide +kernel)
set_option maxRecDepth 100000 in
theorem ml_L_328 : Cond.methodLink R_lawN 328 yX11_undo ∈ BIG := bg9 166 (by decide +kernel)
set_option maxRecDepth 100000 in
theorem ml_L_329 : Cond.methodLink R_lawN 329 yX10_undoCount ∈ BIG := bg3 150 (by decide +kernel)
set_option maxRecDepth 100000 in
theorem ml_L_332 : Cond.methodLink R_lawN 332 yX11_undoCount ∈ BIG := bg9 170 (by decide +kernel)
set_option maxRecDepth 100000 in
theorem ml_L_333 : Cond.methodLink R_lawN 333 yX10_save ∈ BIG := bg3 158 (by decide +kernel)
set_option maxRecDepth 100000 in
theorem ml_L_336 : Cond.methodLink R_lawN 336 yX11_save ∈ BIG := bg9 174 (by decide +kernel)
set_option maxRecDepth 100000 in
theorem ml_L_337 : Cond.methodLink R_lawN 337 yL_restore ∈ BIG := bg7 51 (by decide +kernel)
set_option maxRecDepth 100000 in
theorem ml_L_339 : Cond.methodLink R_lawN 339 yX11_restore ∈ BIG := bg9 178 (by decide +kernel)
theorem J_sld {p : Program} {l : Launch} {e : Env} {R : Room} {s : State} {m : MethodId} {args : Array Value} {below : List Frame} {meth : Method} {c : Code} {cc : ByteArray} {nL : Nat} {own : String} {D : va_G} {ty : List (ClassId × FieldType)} {pf : Nat → Nat} {A : Nat → Prop} {Q : State → Prop} {k n : Nat} {pc : Nat} {lv : List (Nat × Value)} {st : List Value} {ws : va_W} (C : jC p s m args meth c cc nL own D ty pf A) {b L : Nat} {xs : Nat → Int32} (hX : va_X b L xs s s.heap) (hbl : b < s.heap.size) (hbA : ¬ A b) {i : Int32} (d : decode cc pc = .ok (.iaload, 1)) (hin : vp_in i L) (kk : J p l e R s m args below meth c nL D A Q k n (pc + 1) lv (.int (xs i.toNatClampNeg) :: st) ws) : J p l e R s m args below meth c nL D A Q k n pc lv (.int i :: .ref b :: st) ws := fun ls hL H locs hP hD hS => va_sld C.1 C.2.1 hX hbl hbA hS hin d (kk ls hL H locs hP hD hS)
theorem J_slenX {p : Program} {l : Launch} {e : Env} {R : Room} {s : State} {m : MethodId} {args : Array Value} {below : List Frame} {meth : Method} {c : Code} {cc : ByteArray} {nL : Nat} {own : String} {D : va_G} {ty : List (ClassId × FieldType)} {pf : Nat → Nat} {A : Nat → Prop} {Q : State → Prop} {k n : Nat} {pc : Nat} {lv : List (Nat × Value)} {st : List Value} {ws : va_W} (C : jC p s m args meth c cc nL own D ty pf A) {b L : Nat} {xs : Nat → Int32} (hX : va_X b L xs s s.heap) (hbl : b < s.heap.size) (hbA : ¬ A b) (d : decode cc pc = .ok (.arraylength, 1)) (kk : J p l e R s m args below meth c nL D A Q k n (pc + 1) lv (.int (Int32.ofNat L) :: st) ws) : J p l e R s m args below meth c nL D A Q k n pc lv (.ref b :: st) ws := fun ls hL H locs hP hD hS => va_slen C.1 C.2.1 hX hbl hbA hS d (kk ls hL H locs hP hD hS)
theorem lg_cmp_self (x : Int64) : lg_cmp x x = 0 := by
  unfold lg_cmp
  rw [if_neg (by simp), if_pos rfl]
theorem tsw_out {x : Int32} {n : Nat} (hn : n < 1000) (h : ∀ j : Nat, j < n → ¬ x = Int32.ofNat j) : x.toInt < 0 ∨ (n : Int) - 1 < x.toInt := by
  by_cases h1 : x.toInt < 0
  · exact Or.inl h1
  · by_cases h2 : (n : Int) - 1 < x.toInt
    · exact Or.inr h2
    · exfalso
      have h3 : x.toInt.toNat < n := by omega
      refine h x.toInt.toNat h3 (Int32.toInt_inj.mp ?_)
      rw [Int32.toInt_ofNat_of_lt (by omega)]
      omega
/-- what a call of the law owes, where the class may throw, and where not -/
def StA (Rl : Nat → T_PL → T_MO → Prop) (w : T_PL → (Nat → Int64) → Option (Int32 × T_PL × (Nat → Int64))) (g : T_MO → Option (Int32 × T_MO)) : Prop := ∀ k s m f, k < 512 → Rl k s m → ∃ (o : Int32 × T_PL × (Nat → Int64)) (o2 : Int32 × T_MO), w s f = some o ∧ g m = some o2 ∧ o2.2.1 = o.1 ∧ (o.1 = 0 → o.2.2 0 = o2.1.toInt64) ∧ Rl (k + 1) o.2.1 o2.2
def StB (Rl : Nat → T_PL → T_MO → Prop) (w : T_PL → Option (Int32 × T_PL)) (g : T_MO → Option (Int32 × T_MO)) : Prop := ∀ k s m, k < 512 → Rl k s m → ∃ (o : Int32 × T_PL) (o2 : Int32 × T_MO), w s = some o ∧ g m = some o2 ∧ o.1 = o2.1 ∧ Rl (k + 1) o.2 o2.2
def AllSteps (N : Nat) (Rl : Nat → T_PL → T_MO → Prop) : Prop := (∀ k s m, Rl k s m → Rl (k + 1) s m) ∧ (∀ x1 : Int32, ∀ x2 : Int32, ∀ x3 : Int32, ∀ x4 : Int32, ∀ x5 : Int32, StA Rl (fun s f => W_append N s f x1 x2 x3 x4 x5) (fun m => F_M_append N m x1 x2 x3 x4 x5)) ∧ (∀ x1 : Int32, StA Rl (fun s f => W_truncate N s f x1) (fun m => F_M_truncate N m x1)) ∧ (StB Rl (fun s => P_errorPosition N s) (fun m => F_M_errorPosition N m)) ∧ (StA Rl (fun s f => W_load N s f) (fun m => F_M_load N m)) ∧ (StA Rl (fun s f => W_find N s f) (fun m => F_M_find N m)) ∧ (∀ x1 : Int32, ∀ x2 : Int32, ∀ x3 : Int32, StA Rl (fun s f => W_purchase N s f x1 x2 x3) (fun m => F_M_purchase N m x1 x2 x3)) ∧ (∀ x1 : Int32, StA Rl (fun s f => W_refund N s f x1) (fun m => F_M_refund N m x1)) ∧ (∀ x1 : Int32, ∀ x2 : Int32, StA Rl (fun s f => W_redeem N s f x1 x2) (fun m => F_M_redeem N m x1 x2)) ∧ (∀ x1 : Int32, ∀ x2 : Int32, ∀ x3 : Int32, StA Rl (fun s f => W_transfer N s f x1 x2 x3) (fun m => F_M_transfer N m x1 x2 x3)) ∧ (∀ x1 : Int32, ∀ x2 : Int32, StA Rl (fun s f => W_join N s f x1 x2) (fun m => F_M_join N m x1 x2)) ∧ (∀ x1 : Int32, StA Rl (fun s f => W_leave N s f x1) (fun m => F_M_leave N m x1)) ∧ (∀ x1 : Int32, ∀ x2 : Int32, StA Rl (fun s f => W_setShare N s f x1 x2) (fun m => F_M_setShare N m x1 x2)) ∧ (∀ x1 : Int32, StA Rl (fun s f => W_advance N s f x1) (fun m => F_M_advance N m x1)) ∧ (∀ x1 : Int32, StA Rl (fun s f => W_setup N s f x1) (fun m => F_M_setup N m x1)) ∧ (∀ x1 : Int32, StA Rl (fun s f => W_threshold N s f x1) (fun m => F_M_threshold N m x1)) ∧ (∀ x1 : Int32, ∀ x2 : Int32, StA Rl (fun s f => W_extras N s f x1 x2) (fun m => F_M_extras N m x1 x2)) ∧ (StB Rl (fun s => P_today N s) (fun m => F_M_today N m)) ∧ (∀ x1 : Int32, StA Rl (fun s f => W_balance N s f x1) (fun m => F_M_balance N m x1)) ∧ (∀ x1 : Int32, StA Rl (fun s f => W_debt N s f x1) (fun m => F_M_debt N m x1)) ∧ (∀ x1 : Int32, StA Rl (fun s f => W_available N s f x1) (fun m => F_M_available N m x1)) ∧ (∀ x1 : Int32, StA Rl (fun s f => W_cohortCount N s f x1) (fun m => F_M_cohortCount N m x1)) ∧ (∀ x1 : Int32, ∀ x2 : Int32, ∀ x3 : Int32, StA Rl (fun s f => W_cohort N s f x1 x2 x3) (fun m => F_M_cohort N m x1 x2 x3)) ∧ (∀ x1 : Int32, StA Rl (fun s f => W_household N s f x1) (fun m => F_M_household N m x1)) ∧ (∀ x1 : Int32, StA Rl (fun s f => W_members N s f x1) (fun m => F_M_members N m x1)) ∧ (∀ x1 : Int32, StA Rl (fun s f => W_poolBalance N s f x1) (fun m => F_M_poolBalance N m x1)) ∧ (∀ x1 : Int32, StA Rl (fun s f => W_poolCohortCount N s f x1) (fun m => F_M_poolCohortCount N m x1)) ∧ (∀ x1 : Int32, ∀ x2 : Int32, ∀ x3 : Int32, StA Rl (fun s f => W_poolCohort N s f x1 x2 x3) (fun m => F_M_poolCohort N m x1 x2 x3)) ∧ (∀ x1 : Int32, StA Rl (fun s f => W_contributed N s f x1) (fun m => F_M_contributed N m x1)) ∧ (∀ x1 : Int32, StA Rl (fun s f => W_total N s f x1) (fun m => F_M_total N m x1)) ∧ (∀ x1 : Int32, StA Rl (fun s f => W_tier N s f x1) (fun m => F_M_tier N m x1)) ∧ (∀ x1 : Int32, StA Rl (fun s f => W_earnedTier N s f x1) (fun m => F_M_earnedTier N m x1)) ∧ (∀ x1 : Int32, StA Rl (fun s f => W_qualifying N s f x1) (fun m => F_M_qualifying N m x1)) ∧ (∀ x1 : Int32, StA Rl (fun s f => W_belowSince N s f x1) (fun m => F_M_belowSince N m x1)) ∧ (∀ x1 : Int32, StA Rl (fun s f => W_toNextTier N s f x1) (fun m => F_M_toNextTier N m x1)) ∧ (∀ x1 : Int32, ∀ x2 : Int32, StA Rl (fun s f => W_tierAfter N s f x1 x2) (fun m => F_M_tierAfter N m x1 x2)) ∧ (∀ x1 : Int32, ∀ x2 : Int32, ∀ x3 : Int32, StA Rl (fun s f => W_wouldEarn N s f x1 x2 x3) (fun m => F_M_wouldEarn N m x1 x2 x3)) ∧ (∀ x1 : Int32, ∀ x2 : Int32, StA Rl (fun s f => W_bestCategory N s f x1 x2) (fun m => F_M_bestCategory N m x1 x2)) ∧ (∀ x1 : Int32, ∀ x2 : Int32, ∀ x3 : Int32, StA Rl (fun s f => W_leastCents N s f x1 x2 x3) (fun m => F_M_leastCents N m x1 x2 x3)) ∧ (StB Rl (fun s => P_purchaseCount N s) (fun m => F_M_purchaseCount N m)) ∧ (∀ x1 : Int32, ∀ x2 : Int32, StA Rl (fun s f => W_purchasePart N s f x1 x2) (fun m => F_M_purchasePart N m x1 x2)) ∧ (∀ x1 : Int32, ∀ x2 : Int32, StA Rl (fun s f => W_expiringWithin N s f x1 x2) (fun m => F_M_expiringWithin N m x1 x2)) ∧ (∀ x1 : Int32, StA Rl (fun s f => W_nextExpiry N s f x1) (fun m => F_M_nextExpiry N m x1)) ∧ (∀ x1 : Int32, StA Rl (fun s f => W_redeemedWith N s f x1) (fun m => F_M_redeemedWith N m x1)) ∧ (∀ x1 : Int32, StA Rl (fun s f => W_breakage N s f x1) (fun m => F_M_breakage N m x1)) ∧ (∀ x1 : Int32, StA Rl (fun s f => W_poolBreakage N s f x1) (fun m => F_M_poolBreakage N m x1)) ∧ (StB Rl (fun s => P_totalBreakage N s) (fun m => F_M_totalBreakage N m)) ∧ (∀ x1 : Int32, StA Rl (fun s f => W_rankedMember N s f x1) (fun m => F_M_rankedMember N m x1)) ∧ (StB Rl (fun s => P_logSize N s) (fun m => F_M_logSize N m)) ∧ (∀ x1 : Int32, ∀ x2 : Int32, StA Rl (fun s f => W_log N s f x1 x2) (fun m => F_M_log N m x1 x2)) ∧ (StA Rl (fun s f => W_undo N s f) (fun m => F_M_undo N m)) ∧ (StB Rl (fun s => P_undoCount N s) (fun m => F_M_undoCount N m)) ∧ (StB Rl (fun s => P_save N s) (fun m => F_M_save N m)) ∧ (StA Rl (fun s f => W_restore N s f) (fun m => F_M_restore N m))
