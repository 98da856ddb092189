def W_append (N : Nat) (s : T_PL) (f : Nat → Int64) (x1 : Int32) (x2 : Int32) (x3 : Int32) (x4 : Int32) (x5 : Int32) : Option (Int32 × T_PL × (Nat → Int64)) := (P_append N s x1 x2 x3 x4 x5).bind fun r => if r.1 = 0 then some (0, r.2.2, vp_updL f 0 r.2.1.toInt64) else if r.1 = 1 then some ((1 : Int32), r.2.2, f) else none
def W_truncate (N : Nat) (s : T_PL) (f : Nat → Int64) (x1 : Int32) : Option (Int32 × T_PL × (Nat → Int64)) := (P_truncate N s x1).bind fun r => if r.1 = 0 then some (0, r.2.2, vp_updL f 0 r.2.1.toInt64) else if r.1 = 2 then some ((1 : Int32), r.2.2, f) else none
def W_load (N : Nat) (s : T_PL) (f : Nat → Int64) : Option (Int32 × T_PL × (Nat → Int64)) := (P_load N s).bind fun r => if r.1 = 0 then some (0, r.2.2, vp_updL f 0 r.2.1.toInt64) else if r.1 = 2 then some ((1 : Int32), r.2.2, f) else none
def W_find (N : Nat) (s : T_PL) (f : Nat → Int64) : Option (Int32 × T_PL × (Nat → Int64)) := (P_find N s).bind fun r => if r.1 = 0 then some (0, r.2.2, vp_updL f 0 r.2.1.toInt64) else if r.1 = 3 then some ((1 : Int32), r.2.2, f) else none
def W_purchase (N : Nat) (s : T_PL) (f : Nat → Int64) (x1 : Int32) (x2 : Int32) (x3 : Int32) : Option (Int32 × T_PL × (Nat → Int64)) := (P_purchase N s x1 x2 x3).bind fun r => if r.1 = 0 then some (0, r.2.2, vp_updL f 0 r.2.1.toInt64) else if r.1 = 4 then some ((1 : Int32), r.2.2, f) else if r.1 = 2 then some ((2 : Int32), r.2.2, f) else none
def W_refund (N : Nat) (s : T_PL) (f : Nat → Int64) (x1 : Int32) : Option (Int32 × T_PL × (Nat → Int64)) := (P_refund N s x1).bind fun r => if r.1 = 0 then some (0, r.2.2, vp_updL f 0 r.2.1.toInt64) else if r.1 = 3 then some ((1 : Int32), r.2.2, f) else if r.1 = 1 then some ((2 : Int32), r.2.2, f) else none
def W_redeem (N : Nat) (s : T_PL) (f : Nat → Int64) (x1 : Int32) (x2 : Int32) : Option (Int32 × T_PL × (Nat → Int64)) := (P_redeem N s x1 x2).bind fun r => if r.1 = 0 then some (0, r.2.2, vp_updL f 0 r.2.1.toInt64) else if r.1 = 4 then some ((1 : Int32), r.2.2, f) else if r.1 = 2 then some ((2 : Int32), r.2.2, f) else if r.1 = 1 then some ((3 : Int32), r.2.2, f) else none
def W_transfer (N : Nat) (s : T_PL) (f : Nat → Int64) (x1 : Int32) (x2 : Int32) (x3 : Int32) : Option (Int32 × T_PL × (Nat → Int64)) := (P_transfer N s x1 x2 x3).bind fun r => if r.1 = 0 then some (0, r.2.2, vp_updL f 0 r.2.1.toInt64) else if r.1 = 4 then some ((1 : Int32), r.2.2, f) else if r.1 = 2 then some ((2 : Int32), r.2.2, f) else if r.1 = 1 then some ((3 : Int32), r.2.2, f) else none
def W_join (N : Nat) (s : T_PL) (f : Nat → Int64) (x1 : Int32) (x2 : Int32) : Option (Int32 × T_PL × (Nat → Int64)) := (P_join N s x1 x2).bind fun r => if r.1 = 0 then some (0, r.2.2, vp_updL f 0 r.2.1.toInt64) else if r.1 = 4 then some ((1 : Int32), r.2.2, f) else if r.1 = 1 then some ((2 : Int32), r.2.2, f) else none
def W_leave (N : Nat) (s : T_PL) (f : Nat → Int64) (x1 : Int32) : Option (Int32 × T_PL × (Nat → Int64)) := (P_leave N s x1).bind fun r => if r.1 = 0 then some (0, r.2.2, vp_updL f 0 r.2.1.toInt64) else if r.1 = 4 then some ((1 : Int32), r.2.2, f) else if r.1 = 1 then some ((2 : Int32), r.2.2, f) else none
def W_setShare (N : Nat) (s : T_PL) (f : Nat → Int64) (x1 : Int32) (x2 : Int32) : Option (Int32 × T_PL × (Nat → Int64)) := (P_setShare N s x1 x2).bind fun r => if r.1 = 0 then some (0, r.2.2, vp_updL f 0 r.2.1.toInt64) else if r.1 = 4 then some ((1 : Int32), r.2.2, f) else if r.1 = 2 then some ((2 : Int32), r.2.2, f) else none
def W_advance (N : Nat) (s : T_PL) (f : Nat → Int64) (x1 : Int32) : Option (Int32 × T_PL × (Nat → Int64)) := (P_advance N s x1).bind fun r => if r.1 = 0 then some (0, r.2.2, vp_updL f 0 r.2.1.toInt64) else if r.1 = 2 then some ((1 : Int32), r.2.2, f) else none
def W_setup (N : Nat) (s : T_PL) (f : Nat → Int64) (x1 : Int32) : Option (Int32 × T_PL × (Nat → Int64)) := (P_setup N s x1).bind fun r => if r.1 = 0 then some (0, r.2.2, vp_updL f 0 r.2.1.toInt64) else if r.1 = 2 then some ((1 : Int32), r.2.2, f) else none
def W_threshold (N : Nat) (s : T_PL) (f : Nat → Int64) (x1 : Int32) : Option (Int32 × T_PL × (Nat → Int64)) := (P_threshold N s x1).bind fun r => if r.1 = 0 then some (0, r.2.2, vp_updL f 0 r.2.1.toInt64) else if r.1 = 4 then some ((1 : Int32), r.2.2, f) else none
def W_extras (N : Nat) (s : T_PL) (f : Nat → Int64) (x1 : Int32) (x2 : Int32) : Option (Int32 × T_PL × (Nat → Int64)) := (P_extras N s x1 x2).bind fun r => if r.1 = 0 then some (0, r.2.2, vp_updL f 0 r.2.1.toInt64) else if r.1 = 4 then some ((1 : Int32), r.2.2, f) else if r.1 = 2 then some ((2 : Int32), r.2.2, f) else none
def W_balance (N : Nat) (s : T_PL) (f : Nat → Int64) (x1 : Int32) : Option (Int32 × T_PL × (Nat → Int64)) := (P_balance N s x1).bind fun r => if r.1 = 0 then some (0, r.2.2, vp_updL f 0 r.2.1.toInt64) else if r.1 = 4 then some ((1 : Int32), r.2.2, f) else none
def W_debt (N : Nat) (s : T_PL) (f : Nat → Int64) (x1 : Int32) : Option (Int32 × T_PL × (Nat → Int64)) := (P_debt N s x1).bind fun r => if r.1 = 0 then some (0, r.2.2, vp_updL f 0 r.2.1.toInt64) else if r.1 = 4 then some ((1 : Int32), r.2.2, f) else none
def W_available (N : Nat) (s : T_PL) (f : Nat → Int64) (x1 : Int32) : Option (Int32 × T_PL × (Nat → Int64)) := (P_available N s x1).bind fun r => if r.1 = 0 then some (0, r.2.2, vp_updL f 0 r.2.1.toInt64) else if r.1 = 4 then some ((1 : Int32), r.2.2, f) else none
def W_cohortCount (N : Nat) (s : T_PL) (f : Nat → Int64) (x1 : Int32) : Option (Int32 × T_PL × (Nat → Int64)) := (P_cohortCount N s x1).bind fun r => if r.1 = 0 then some (0, r.2.2, vp_updL f 0 r.2.1.toInt64) else if r.1 = 4 then some ((1 : Int32), r.2.2, f) else none
def W_cohort (N : Nat) (s : T_PL) (f : Nat → Int64) (x1 : Int32) (x2 : Int32) (x3 : Int32) : Option (Int32 × T_PL × (Nat → Int64)) := (P_cohort N s x1 x2 x3).bind fun r => if r.1 = 0 then some (0, r.2.2, vp_updL f 0 r.2.1.toInt64) else if r.1 = 4 then some ((1 : Int32), r.2.2, f) else if r.1 = 2 then some ((2 : Int32), r.2.2, f) else none
def W_household (N : Nat) (s : T_PL) (f : Nat → Int64) (x1 : Int32) : Option (Int32 × T_PL × (Nat → Int64)) := (P_household N s x1).bind fun r => if r.1 = 0 then some (0, r.2.2, vp_updL f 0 r.2.1.toInt64) else if r.1 = 4 then some ((1 : Int32), r.2.2, f) else none
def W_members (N : Nat) (s : T_PL) (f : Nat → Int64) (x1 : Int32) : Option (Int32 × T_PL × (Nat → Int64)) := (P_members N s x1).bind fun r => if r.1 = 0 then some (0, r.2.2, vp_updL f 0 r.2.1.toInt64) else if r.1 = 4 then some ((1 : Int32), r.2.2, f) else none
def W_poolBalance (N : Nat) (s : T_PL) (f : Nat → Int64) (x1 : Int32) : Option (Int32 × T_PL × (Nat → Int64)) := (P_poolBalance N s x1).bind fun r => if r.1 = 0 then some (0, r.2.2, vp_updL f 0 r.2.1.toInt64) else if r.1 = 4 then some ((1 : Int32), r.2.2, f) else none
def W_poolCohortCount (N : Nat) (s : T_PL) (f : Nat → Int64) (x1 : Int32) : Option (Int32 × T_PL × (Nat → Int64)) := (P_poolCohortCount N s x1).bind fun r => if r.1 = 0 then some (0, r.2.2, vp_updL f 0 r.2.1.toInt64) else if r.1 = 4 then some ((1 : Int32), r.2.2, f) else none
def W_poolCohort (N : Nat) (s : T_PL) (f : Nat → Int64) (x1 : Int32) (x2 : Int32) (x3 : Int32) : Option (Int32 × T_PL × (Nat → Int64)) := (P_poolCohort N s x1 x2 x3).bind fun r => if r.1 = 0 then some (0, r.2.2, vp_updL f 0 r.2.1.toInt64) else if r.1 = 4 then some ((1 : Int32), r.2.2, f) else if r.1 = 2 then some ((2 : Int32), r.2.2, f) else none
def W_contributed (N : Nat) (s : T_PL) (f : Nat → Int64) (x1 : Int32) : Option (Int32 × T_PL × (Nat → Int64)) := (P_contributed N s x1).bind fun r => if r.1 = 0 then some (0, r.2.2, vp_updL f 0 r.2.1.toInt64) else if r.1 = 4 then some ((1 : Int32), r.2.2, f) else none
def W_total (N : Nat) (s : T_PL) (f : Nat → Int64) (x1 : Int32) : Option (Int32 × T_PL × (Nat → Int64)) := (P_total N s x1).bind fun r => if r.1 = 0 then some (0, r.2.2, vp_updL f 0 r.2.1.toInt64) else if r.1 = 2 then some ((1 : Int32), r.2.2, f) else none
def W_tier (N : Nat) (s : T_PL) (f : Nat → Int64) (x1 : Int32) : Option (Int32 × T_PL × (Nat → Int64)) := (P_tier N s x1).bind fun r => if r.1 = 0 then some (0, r.2.2, vp_updL f 0 r.2.1.toInt64) else if r.1 = 4 then some ((1 : Int32), r.2.2, f) else none
def W_earnedTier (N : Nat) (s : T_PL) (f : Nat → Int64) (x1 : Int32) : Option (Int32 × T_PL × (Nat → Int64)) := (P_earnedTier N s x1).bind fun r => if r.1 = 0 then some (0, r.2.2, vp_updL f 0 r.2.1.toInt64) else if r.1 = 4 then some ((1 : Int32), r.2.2, f) else none
def W_qualifying (N : Nat) (s : T_PL) (f : Nat → Int64) (x1 : Int32) : Option (Int32 × T_PL × (Nat → Int64)) := (P_qualifying N s x1).bind fun r => if r.1 = 0 then some (0, r.2.2, vp_updL f 0 r.2.1.toInt64) else if r.1 = 4 then some ((1 : Int32), r.2.2, f) else none
def W_belowSince (N : Nat) (s : T_PL) (f : Nat → Int64) (x1 : Int32) : Option (Int32 × T_PL × (Nat → Int64)) := (P_belowSince N s x1).bind fun r => if r.1 = 0 then some (0, r.2.2, vp_updL f 0 r.2.1.toInt64) else if r.1 = 4 then some ((1 : Int32), r.2.2, f) else none
def W_toNextTier (N : Nat) (s : T_PL) (f : Nat → Int64) (x1 : Int32) : Option (Int32 × T_PL × (Nat → Int64)) := (P_toNextTier N s x1).bind fun r => if r.1 = 0 then some (0, r.2.2, vp_updL f 0 r.2.1.toInt64) else if r.1 = 4 then some ((1 : Int32), r.2.2, f) else if r.1 = 3 then some ((2 : Int32), r.2.2, f) else none
def W_tierAfter (N : Nat) (s : T_PL) (f : Nat → Int64) (x1 : Int32) (x2 : Int32) : Option (Int32 × T_PL × (Nat → Int64)) := (P_tierAfter N s x1 x2).bind fun r => if r.1 = 0 then some (0, r.2.2, vp_updL f 0 r.2.1.toInt64) else if r.1 = 4 then some ((1 : Int32), r.2.2, f) else if r.1 = 2 then some ((2 : Int32), r.2.2, f) else none
def W_wouldEarn (N : Nat) (s : T_PL) (f : Nat → Int64) (x1 : Int32) (x2 : Int32) (x3 : Int32) : Option (Int32 × T_PL × (Nat → Int64)) := (P_wouldEarn N s x1 x2 x3).bind fun r => if r.1 = 0 then some (0, r.2.2, vp_updL f 0 r.2.1.toInt64) else if r.1 = 4 then some ((1 : Int32), r.2.2, f) else if r.1 = 2 then some ((2 : Int32), r.2.2, f) else none
def W_bestCategory (N : Nat) (s : T_PL) (f : Nat → Int64) (x1 : Int32) (x2 : Int32) : Option (Int32 × T_PL × (Nat → Int64)) := (P_bestCategory N s x1 x2).bind fun r => if r.1 = 0 then some (0, r.2.2, vp_updL f 0 r.2.1.toInt64) else if r.1 = 4 then some ((1 : Int32), r.2.2, f) else if r.1 = 2 then some ((2 : Int32), r.2.2, f) else if r.1 = 3 then some ((3 : Int32), r.2.2, f) else none
def W_leastCents (N : Nat) (s : T_PL) (f : Nat → Int64) (x1 : Int32) (x2 : Int32) (x3 : Int32) : Option (Int32 × T_PL × (Nat → Int64)) := (P_leastCents N s x1 x2 x3).bind fun r => if r.1 = 0 then some (0, r.2.2, vp_updL f 0 r.2.1.toInt64) else if r.1 = 4 then some ((1 : Int32), r.2.2, f) else if r.1 = 2 then some ((2 : Int32), r.2.2, f) else if r.1 = 3 then some ((3 : Int32), r.2.2, f) else none
def W_purchasePart (N : Nat) (s : T_PL) (f : Nat → Int64) (x1 : Int32) (x2 : Int32) : Option (Int32 × T_PL × (Nat → Int64)) := (P_purchasePart N s x1 x2).bind fun r => if r.1 = 0 then some (0, r.2.2, vp_updL f 0 r.2.1.toInt64) else if r.1 = 3 then some ((1 : Int32), r.2.2, f) else if r.1 = 2 then some ((2 : Int32), r.2.2, f) else none
def W_expiringWithin (N : Nat) (s : T_PL) (f : Nat → Int64) (x1 : Int32) (x2 : Int32) : Option (Int32 × T_PL × (Nat → Int64)) := (P_expiringWithin N s x1 x2).bind fun r => if r.1 = 0 then some (0, r.2.2, vp_updL f 0 r.2.1.toInt64) else if r.1 = 4 then some ((1 : Int32), r.2.2, f) else if r.1 = 2 then some ((2 : Int32), r.2.2, f) else none
def W_nextExpiry (N : Nat) (s : T_PL) (f : Nat → Int64) (x1 : Int32) : Option (Int32 × T_PL × (Nat → Int64)) := (P_nextExpiry N s x1).bind fun r => if r.1 = 0 then some (0, r.2.2, vp_updL f 0 r.2.1.toInt64) else if r.1 = 4 then some ((1 : Int32), r.2.2, f) else if r.1 = 3 then some ((2 : Int32), r.2.2, f) else none
def W_redeemedWith (N : Nat) (s : T_PL) (f : Nat → Int64) (x1 : Int32) : Option (Int32 × T_PL × (Nat → Int64)) := (P_redeemedWith N s x1).bind fun r => if r.1 = 0 then some (0, r.2.2, vp_updL f 0 r.2.1.toInt64) else if r.1 = 2 then some ((1 : Int32), r.2.2, f) else none
def W_breakage (N : Nat) (s : T_PL) (f : Nat → Int64) (x1 : Int32) : Option (Int32 × T_PL × (Nat → Int64)) := (P_breakage N s x1).bind fun r => if r.1 = 0 then some (0, r.2.2, vp_updL f 0 r.2.1.toInt64) else if r.1 = 4 then some ((1 : Int32), r.2.2, f) else none
def W_poolBreakage (N : Nat) (s : T_PL) (f : Nat → Int64) (x1 : Int32) : Option (Int32 × T_PL × (Nat → Int64)) := (P_poolBreakage N s x1).bind fun r => if r.1 = 0 then some (0, r.2.2, vp_updL f 0 r.2.1.toInt64) else if r.1 = 4 then some ((1 : Int32), r.2.2, f) else none
def W_rankedMember (N : Nat) (s : T_PL) (f : Nat → Int64) (x1 : Int32) : Option (Int32 × T_PL × (Nat → Int64)) := (P_rankedMember N s x1).bind fun r => if r.1 = 0 then some (0, r.2.2, vp_updL f 0 r.2.1.toInt64) else if r.1 = 4 then some ((1 : Int32), r.2.2, f) else none
def W_log (N : Nat) (s : T_PL) (f : Nat → Int64) (x1 : Int32) (x2 : Int32) : Option (Int32 × T_PL × (Nat → Int64)) := (P_log N s x1 x2).bind fun r => if r.1 = 0 then some (0, r.2.2, vp_updL f 0 r.2.1.toInt64) else if r.1 = 4 then some ((1 : Int32), r.2.2, f) else if r.1 = 2 then some ((2 : Int32), r.2.2, f) else none
def W_undo (N : Nat) (s : T_PL) (f : Nat → Int64) : Option (Int32 × T_PL × (Nat → Int64)) := (P_undo N s).bind fun r => if r.1 = 0 then some (0, r.2.2, vp_updL f 0 r.2.1.toInt64) else if r.1 = 1 then some ((1 : Int32), r.2.2, f) else none
def W_restore (N : Nat) (s : T_PL) (f : Nat → Int64) : Option (Int32 × T_PL × (Nat → Int64)) := (P_restore N s).bind fun r => if r.1 = 0 then some (0, r.2.2, vp_updL f 0 r.2.1.toInt64) else if r.1 = 1 then some ((1 : Int32), r.2.2, f) else none
theorem dL_append_0 : decode cL_append 0 = .ok (.aload 6, 2) := by decide +kernel
theorem dL_append_2 : decode cL_append 2 = .ok (.iconst 0, 1) := by decide +kernel
theorem dL_append_3 : decode cL_append 3 = .ok (.aload_n 0, 1) := by decide +kernel
theorem dL_append_4 : decode cL_append 4 = .ok (.iload_n 1, 1) := by decide +kernel
theorem dL_append_5 : decode cL_append 5 = .ok (.iload_n 2, 1) := by decide +kernel
theorem dL_append_6 : decode cL_append 6 = .ok (.iload_n 3, 1) := by decide +kernel
theorem dL_append_7 : decode cL_append 7 = .ok (.iload 4, 2) := by decide +kernel
theorem dL_append_9 : decode cL_append 9 = .ok (.iload 5, 2) := by decide +kernel
theorem dL_append_11 : decode cL_append 11 = .ok (.invokevirtual 7, 3) := by decide +kernel
theorem dL_append_14 : decode cL_append 14 = .ok (.i2l, 1) := by decide +kernel
theorem dL_append_15 : decode cL_append 15 = .ok (.lastore, 1) := by decide +kernel
theorem dL_append_16 : decode cL_append 16 = .ok (.goto 7, 3) := by decide +kernel
theorem dL_append_19 : decode cL_append 19 = .ok (.astore 7, 2) := by decide +kernel
theorem dL_append_21 : decode cL_append 21 = .ok (.iconst 1, 1) := by decide +kernel
theorem dL_append_22 : decode cL_append 22 = .ok (.ireturn, 1) := by decide +kernel
theorem dL_append_23 : decode cL_append 23 = .ok (.iconst 0, 1) := by decide +kernel
theorem dL_append_24 : decode cL_append 24 = .ok (.ireturn, 1) := by decide +kernel
set_option maxHeartbeats 4000000 in
set_option maxRecDepth 100000 in
theorem V_append (l : Launch) (hl : l.stackTraces = false) (D : va_G) (cI cB cL cO : ClassId) (pf : Nat → Nat) (N : Nat) (A : Nat → Nat → Nat) (ao : Nat) (s : T_PL) (f : Nat → Int64) (x1 : Int32) (x2 : Int32) (x3 : Int32) (x4 : Int32) (x5 : Int32) (o : Int32 × T_PL × (Nat → Int64)) (h : W_append N s f x1 x2 x3 x4 x5 = some o) : CtH l D [(cI, .int), (cB, .byte), (cL, .long), (cO, .object RX0)] pf yL_append cL_append 8 (some FieldType.int) [(0, 16, 19, 13)] { frames := 8, cells := 1, slots := 6, locals := 156 } [.ref (A 0 0), .int x1, .int x2, .int x3, .int x4, .int x5, .ref ao] (List.flatten [wPL cI cB cO A s, [(ao, .inl (cL, 1, .inr (.inl f)))]]) (is1 (some (.int o.1)) (List.flatten [wPL cI cB cO A o.2.1, [(ao, .inl (cL, 1, .inr (.inl o.2.2)))]])) := by
  refine CtH_of (own := R_lawN) (lv0 := [(0, .ref (A 0 0)), (1, .int x1), (2, .int x2), (3, .int x3), (4, .int x4), (5, .int x5), (6, .ref ao)]) (by decide) rfl rfl (Nat.le_of_ble_eq_true rfl) ?_
  intro p e s' m args below meth c C hr ht
  obtain ⟨r, hr1, hK⟩ := Option.bind_eq_some_iff.mp h
  refine J_aload (pc := 0) C dL_append_0 6 rfl ?_
  refine J_iconst (v := (0 : Int32)) (pc := 2) C dL_append_2 (by decide) ?_
  refine J_aload_n (pc := 3) C dL_append_3 0 rfl ?_
  refine J_iload_n (pc := 4) C dL_append_4 1 rfl ?_
  refine J_iload_n (pc := 5) C dL_append_5 2 rfl ?_
  refine J_iload_n (pc := 6) C dL_append_6 3 rfl ?_
  refine J_iload (pc := 7) C dL_append_7 4 rfl ?_
  refine J_iload (pc := 9) C dL_append_9 5 rfl ?_
  refine J_xvH (o9 := r.1) (V := some (.int r.2.1)) (W1 := wPL cI cB cO A r.2.2) (Wc := wPL cI cB cO A s) (pc := 11) (As := [.int x1, .int x2, .int x3, .int x4, .int x5]) (st := [.int (0 : Int32), .ref ao]) C dL_append_11 ml_L_7 mi_yX10_append (Q_append l hl D cI cB cL cO pf N A s x1 x2 x3 x4 x5 r hr1) [(ao, .inl (cL, 1, .inr (.inl f)))] (by simp [List.flatten]) at_this rfl rfl ⟨(Nat.le_of_ble_eq_true rfl), (Nat.le_of_ble_eq_true rfl)⟩ ⟨(Nat.le_of_ble_eq_true rfl), (Nat.le_of_ble_eq_true rfl)⟩ (Nat.le_of_ble_eq_true rfl) (fun h0 => ?_) (fun h0 => ?_)
  · rw [if_pos h0] at hK
    have hK := Option.some.inj hK
    subst hK
    refine J_ws (ws2 := (List.flatten [wPL cI cB cO A r.2.2, [(ao, .inl (cL, 1, .inr (.inl f)))]])) (by simp [List.flatten]) ?_
    refine J_i2l (pc := 14) C dL_append_14 ?_
    refine J_perm (ws2 := [(ao, .inl (cL, 1, .inr (.inl f)))] ++ wPL cI cB cO A r.2.2) (perm_out _ _) ?_
    refine J_last (pc := 15) C dL_append_15 0 2 (rfl : ([(ao, .inl (cL, 1, .inr (.inl f)))] ++ wPL cI cB cO A r.2.2 : va_W)[0]? = some (ao, .inl (cL, 1, .inr (.inl f)))) rfl (by unfold vp_in; decide) ?_
    refine J_ws (ws2 := [(ao, .inl (cL, 1, .inr (.inl (vp_updL f 0 r.2.1.toInt64))))] ++ wPL cI cB cO A r.2.2) rfl ?_
    refine J_perm (ws2 := (List.flatten [wPL cI cB cO A r.2.2, [(ao, .inl (cL, 1, .inr (.inl (vp_updL f 0 r.2.1.toInt64))))]])) (perm_out _ _).symm ?_
    refine J_goto (tgt := 23) (pc := 16) C dL_append_16 (by decide) ?_
    refine J_iconst (v := (0 : Int32)) (pc := 23) C dL_append_23 (by decide) ?_
    refine J_widen (k2 := 1) (n2 := 6) (Nat.le_of_ble_eq_true rfl) (Nat.le_of_ble_eq_true rfl) ?_
    exact J_iret (pc := 24) C dL_append_24 hr ⟨rfl, rfl⟩
  · rw [if_neg h0] at hK
    by_cases h0 : r.1 = 1
    · rw [if_pos h0] at hK
      have hK := Option.some.inj hK
      subst hK
      refine ⟨[], [], ⟨0, 16, 19, 13⟩, "java/lang/IllegalStateException", ht, (fun z hz => by cases hz), rfl, Nat.succ_ne_zero _, cl_L_13, (by rw [h0]; exact ca_of C.2.2.2.2.2.2.2.2 (by decide)), fun q => ?_⟩
      refine J_ws (ws2 := (List.flatten [wPL cI cB cO A r.2.2, [(ao, .inl (cL, 1, .inr (.inl f)))]])) (by simp [List.flatten]) ?_
      refine J_astore (lv2 := [(7, .ref q), (0, .ref (A 0 0)), (1, .int x1), (2, .int x2), (3, .int x3), (4, .int x4), (5, .int x5), (6, .ref ao)]) (pc := 19) C dL_append_19 (by decide) rfl ?_
      refine J_iconst (v := (1 : Int32)) (pc := 21) C dL_append_21 (by decide) ?_
      refine J_widen (k2 := 1) (n2 := 6) (Nat.le_of_ble_eq_true rfl) (Nat.le_of_ble_eq_true rfl) ?_
      exact J_iret (pc := 22) C dL_append_22 hr ⟨rfl, rfl⟩
    rw [if_neg h0] at hK
    cases hK
theorem dL_truncate_0 : decode cL_truncate 0 = .ok (.aload_n 2, 1) := by decide +kernel
theorem dL_truncate_1 : decode cL_truncate 1 = .ok (.iconst 0, 1) := by decide +kernel
theorem dL_truncate_2 : decode cL_truncate 2 = .ok (.aload_n 0, 1) := by decide +kernel
theorem dL_truncate_3 : decode cL_truncate 3 = .ok (.iload_n 1, 1) := by decide +kernel
theorem dL_truncate_4 : decode cL_truncate 4 = .ok (.invokevirtual 15, 3) := by decide +kernel
theorem dL_truncate_7 : decode cL_truncate 7 = .ok (.i2l, 1) := by decide +kernel
theorem dL_truncate_8 : decode cL_truncate 8 = .ok (.lastore, 1) := by decide +kernel
theorem dL_truncate_9 : decode cL_truncate 9 = .ok (.goto 6, 3) := by decide +kernel
theorem dL_truncate_12 : decode cL_truncate 12 = .ok (.astore_n 3, 1) := by decide +kernel
theorem dL_truncate_13 : decode cL_truncate 13 = .ok (.iconst 1, 1) := by decide +kernel
theorem dL_truncate_14 : decode cL_truncate 14 = .ok (.ireturn, 1) := by decide +kernel
theorem dL_truncate_15 : decode cL_truncate 15 = .ok (.iconst 0, 1) := by decide +kernel
theorem dL_truncate_16 : decode cL_truncate 16 = .ok (.ireturn, 1) := by decide +kernel
set_option maxHeartbeats 4000000 in
set_option maxRecDepth 100000 in
theorem V_truncate (l : Launch) (hl : l.stackTraces = false) (D : va_G) (cI cB cL cO : ClassId) (pf : Nat → Nat) (N : Nat) (A : Nat → Nat → Nat) (ao : Nat) (s : T_PL) (f : Nat → Int64) (x1 : Int32) (o : Int32 × T_PL × (Nat → Int64)) (h : W_truncate N s f x1 = some o) : CtH l D [(cI, .int), (cB, .byte), (cL, .long), (cO, .object RX0)] pf yL_truncate cL_truncate 4 (some FieldType.int) [(0, 9, 12, 19)] { frames := 9, cells := 1, slots := 6, locals := 173 } [.ref (A 0 0), .int x1, .ref ao] (List.flatten [wPL cI cB cO A s, [(ao, .inl (cL, 1, .inr (.inl f)))]]) (is1 (some (.int o.1)) (List.flatten [wPL cI cB cO A o.2.1, [(ao, .inl (cL, 1, .inr (.inl o.2.2)))]])) := by
  refine CtH_of (own := R_lawN) (lv0 := [(0, .ref (A 0 0)), (1, .int x1), (2, .ref ao)]) (by decide) rfl rfl (Nat.le_of_ble_eq_true rfl) ?_
  intro p e s' m args below meth c C hr ht
  obtain ⟨r, hr1, hK⟩ := Option.bind_eq_some_iff.mp h
  refine J_aload_n (pc := 0) C dL_truncate_0 2 rfl ?_
  refine J_iconst (v := (0 : Int32)) (pc := 1) C dL_truncate_1 (by decide) ?_
  refine J_aload_n (pc := 2) C dL_truncate_2 0 rfl ?_
  refine J_iload_n (pc := 3) C dL_truncate_3 1 rfl ?_
  refine J_xvH (o9 := r.1) (V := some (.int r.2.1)) (W1 := wPL cI cB cO A r.2.2) (Wc := wPL cI cB cO A s) (pc := 4) (As := [.int x1]) (st := [.int (0 : Int32), .ref ao]) C dL_truncate_4 ml_L_15 mi_yX10_truncate (Q_truncate l hl D cI cB cL cO pf N A s x1 r hr1) [(ao, .inl (cL, 1, .inr (.inl f)))] (by simp [List.flatten]) at_this rfl rfl ⟨(Nat.le_of_ble_eq_true rfl), (Nat.le_of_ble_eq_true rfl)⟩ ⟨(Nat.le_of_ble_eq_true rfl), (Nat.le_of_ble_eq_true rfl)⟩ (Nat.le_of_ble_eq_true rfl) (fun h0 => ?_) (fun h0 => ?_)
  · rw [if_pos h0] at hK
    have hK := Option.some.inj hK
    subst hK
    refine J_ws (ws2 := (List.flatten [wPL cI cB cO A r.2.2, [(ao, .inl (cL, 1, .inr (.inl f)))]])) (by simp [List.flatten]) ?_
    refine J_i2l (pc := 7) C dL_truncate_7 ?_
    refine J_perm (ws2 := [(ao, .inl (cL, 1, .inr (.inl f)))] ++ wPL cI cB cO A r.2.2) (perm_out _ _) ?_
    refine J_last (pc := 8) C dL_truncate_8 0 2 (rfl : ([(ao, .inl (cL, 1, .inr (.inl f)))] ++ wPL cI cB cO A r.2.2 : va_W)[0]? = some (ao, .inl (cL, 1, .inr (.inl f)))) rfl (by unfold vp_in; decide) ?_
    refine J_ws (ws2 := [(ao, .inl (cL, 1, .inr (.inl (vp_updL f 0 r.2.1.toInt64))))] ++ wPL cI cB cO A r.2.2) rfl ?_
    refine J_perm (ws2 := (List.flatten [wPL cI cB cO A r.2.2, [(ao, .inl (cL, 1, .inr (.inl (vp_updL f 0 r.2.1.toInt64))))]])) (perm_out _ _).symm ?_
    refine J_goto (tgt := 15) (pc := 9) C dL_truncate_9 (by decide) ?_
    refine J_iconst (v := (0 : Int32)) (pc := 15) C dL_truncate_15 (by decide) ?_
    refine J_widen (k2 := 1) (n2 := 6) (Nat.le_of_ble_eq_true rfl) (Nat.le_of_ble_eq_true rfl) ?_
    exact J_iret (pc := 16) C dL_truncate_16 hr ⟨rfl, rfl⟩
  · rw [if_neg h0] at hK
    by_cases h0 : r.1 = 2
    · rw [if_pos h0] at hK
      have hK := Option.some.inj hK
      subst hK
      refine ⟨[], [], ⟨0, 9, 12, 19⟩, "java/lang/IllegalArgumentException", ht, (fun z hz => by cases hz), rfl, Nat.succ_ne_zero _, cl_L_19, (by rw [h0]; exact ca_of C.2.2.2.2.2.2.2.2 (by decide)), fun q => ?_⟩
      refine J_ws (ws2 := (List.flatten [wPL cI cB cO A r.2.2, [(ao, .inl (cL, 1, .inr (.inl f)))]])) (by simp [List.flatten]) ?_
      refine J_astore_n (lv2 := [(3, .ref q), (0, .ref (A 0 0)), (1, .int x1), (2, .ref ao)]) (pc := 12) C dL_truncate_12 (by decide) rfl ?_
      refine J_iconst (v := (1 : Int32)) (pc := 13) C dL_truncate_13 (by decide) ?_
      refine J_widen (k2 := 1) (n2 := 6) (Nat.le_of_ble_eq_true rfl) (Nat.le_of_ble_eq_true rfl) ?_
      exact J_iret (pc := 14) C dL_truncate_14 hr ⟨rfl, rfl⟩
    rw [if_neg h0] at hK
    cases hK
theorem dL_load_0 : decode cL_load 0 = .ok (.aload_n 1, 1) := by decide +kernel
theorem dL_load_1 : decode cL_load 1 = .ok (.iconst 0, 1) := by decide +kernel
theorem dL_load_2 : decode cL_load 2 = .ok (.aload_n 0, 1) := by decide +kernel
theorem dL_load_3 : decode cL_load 3 = .ok (.invokevirtual 21, 3) := by decide +kernel
theorem dL_load_6 : decode cL_load 6 = .ok (.i2l, 1) := by decide +kernel
theorem dL_load_7 : decode cL_load 7 = .ok (.lastore, 1) := by decide +kernel
theorem dL_load_8 : decode cL_load 8 = .ok (.goto 6, 3) := by decide +kernel
theorem dL_load_11 : decode cL_load 11 = .ok (.astore_n 2, 1) := by decide +kernel
theorem dL_load_12 : decode cL_load 12 = .ok (.iconst 1, 1) := by decide +kernel
theorem dL_load_13 : decode cL_load 13 = .ok (.ireturn, 1) := by decide +kernel
theorem dL_load_14 : decode cL_load 14 = .ok (.iconst 0, 1) := by decide +kernel
theorem dL_load_15 : decode cL_load 15 = .ok (.ireturn, 1) := by decide +kernel
set_option maxHeartbeats 4000000 in
set_option maxRecDepth 100000 in
theorem V_load (l : Launch) (hl : l.stackTraces = false) (D : va_G) (cI cB cL cO : ClassId) (pf : Nat → Nat) (N : Nat) (A : Nat → Nat → Nat) (ao : Nat) (s : T_PL) (f : Nat → Int64) (o : Int32 × T_PL × (Nat → Int64)) (h : W_load N s f = some o) : CtH l D [(cI, .int), (cB, .byte), (cL, .long), (cO, .object RX0)] pf yL_load cL_load 3 (some FieldType.int) [(0, 8, 11, 19)] { frames := 11, cells := 1, slots := 6, locals := 237 } [.ref (A 0 0), .ref ao] (List.flatten [wPL cI cB cO A s, [(ao, .inl (cL, 1, .inr (.inl f)))]]) (is1 (some (.int o.1)) (List.flatten [wPL cI cB cO A o.2.1, [(ao, .inl (cL, 1, .inr (.inl o.2.2)))]])) := by
  refine CtH_of (own := R_lawN) (lv0 := [(0, .ref (A 0 0)), (1, .ref ao)]) (by decide) rfl rfl (Nat.le_of_ble_eq_true rfl) ?_
  intro p e s' m args below meth c C hr ht
  obtain ⟨r, hr1, hK⟩ := Option.bind_eq_some_iff.mp h
  refine J_aload_n (pc := 0) C dL_load_0 1 rfl ?_
  refine J_iconst (v := (0 : Int32)) (pc := 1) C dL_load_1 (by decide) ?_
  refine J_aload_n (pc := 2) C dL_load_2 0 rfl ?_
  refine J_xvH (o9 := r.1) (V := some (.int r.2.1)) (W1 := wPL cI cB cO A r.2.2) (Wc := wPL cI cB cO A s) (pc := 3) (As := []) (st := [.int (0 : Int32), .ref ao]) C dL_load_3 ml_L_21 mi_yX10_load (Q_load l hl D cI cB cL cO pf N A s r hr1) [(ao, .inl (cL, 1, .inr (.inl f)))] (by simp [List.flatten]) at_this rfl rfl ⟨(Nat.le_of_ble_eq_true rfl), (Nat.le_of_ble_eq_true rfl)⟩ ⟨(Nat.le_of_ble_eq_true rfl), (Nat.le_of_ble_eq_true rfl)⟩ (Nat.le_of_ble_eq_true rfl) (fun h0 => ?_) (fun h0 => ?_)
  · rw [if_pos h0] at hK
    have hK := Option.some.inj hK
    subst hK
    refine J_ws (ws2 := (List.flatten [wPL cI cB cO A r.2.2, [(ao, .inl (cL, 1, .inr (.inl f)))]])) (by simp [List.flatten]) ?_
    refine J_i2l (pc := 6) C dL_load_6 ?_
    refine J_perm (ws2 := [(ao, .inl (cL, 1, .inr (.inl f)))] ++ wPL cI cB cO A r.2.2) (perm_out _ _) ?_
    refine J_last (pc := 7) C dL_load_7 0 2 (rfl : ([(ao, .inl (cL, 1, .inr (.inl f)))] ++ wPL cI cB cO A r.2.2 : va_W)[0]? = some (ao, .inl (cL, 1, .inr (.inl f)))) rfl (by unfold vp_in; decide) ?_
    refine J_ws (ws2 := [(ao, .inl (cL, 1, .inr (.inl (vp_updL f 0 r.2.1.toInt64))))] ++ wPL cI cB cO A r.2.2) rfl ?_
    refine J_perm (ws2 := (List.flatten [wPL cI cB cO A r.2.2, [(ao, .inl (cL, 1, .inr (.inl (vp_updL f 0 r.2.1.toInt64))))]])) (perm_out _ _).symm ?_
    refine J_goto (tgt := 14) (pc := 8) C dL_load_8 (by decide) ?_
    refine J_iconst (v := (0 : Int32)) (pc := 14) C dL_load_14 (by decide) ?_
    refine J_widen (k2 := 1) (n2 := 6) (Nat.le_of_ble_eq_true rfl) (Nat.le_of_ble_eq_true rfl) ?_
    exact J_iret (pc := 15) C dL_load_15 hr ⟨rfl, rfl⟩
  · rw [if_neg h0] at hK
    by_cases h0 : r.1 = 2
    · rw [if_pos h0] at hK
      have hK := Option.some.inj hK
      subst hK
      refine ⟨[], [], ⟨0, 8, 11, 19⟩, "java/lang/IllegalArgumentException", ht, (fun z hz => by cases hz), rfl, Nat.succ_ne_zero _, cl_L_19, (by rw [h0]; exact ca_of C.2.2.2.2.2.2.2.2 (by decide)), fun q => ?_⟩
      refine J_ws (ws2 := (List.flatten [wPL cI cB cO A r.2.2, [(ao, .inl (cL, 1, .inr (.inl f)))]])) (by simp [List.flatten]) ?_
      refine J_astore_n (lv2 := [(2, .ref q), (0, .ref (A 0 0)), (1, .ref ao)]) (pc := 11) C dL_load_11 (by decide) rfl ?_
      refine J_iconst (v := (1 : Int32)) (pc := 12) C dL_load_12 (by decide) ?_
      refine J_widen (k2 := 1) (n2 := 6) (Nat.le_of_ble_eq_true rfl) (Nat.le_of_ble_eq_true rfl) ?_
      exact J_iret (pc := 13) C dL_load_13 hr ⟨rfl, rfl⟩
    rw [if_neg h0] at hK
    cases hK
theorem dL_find_0 : decode cL_find 0 = .ok (.aload_n 1, 1) := by decide +kernel
theorem dL_find_1 : decode cL_find 1 = .ok (.iconst 0, 1) := by decide +kernel
theorem dL_find_2 : decode cL_find 2 = .ok (.aload_n 0, 1) := by decide +kernel
theorem dL_find_3 : decode cL_find 3 = .ok (.invokevirtual 25, 3) := by decide +kernel
theorem dL_find_6 : decode cL_find 6 = .ok (.i2l, 1) := by decide +kernel
theorem dL_find_7 : decode cL_find 7 = .ok (.lastore, 1) := by decide +kernel
theorem dL_find_8 : decode cL_find 8 = .ok (.goto 6, 3) := by decide +kernel
theorem dL_find_11 : decode cL_find 11 = .ok (.astore_n 2, 1) := by decide +kernel
theorem dL_find_12 : decode cL_find 12 = .ok (.iconst 1, 1) := by decide +kernel
theorem dL_find_13 : decode cL_find 13 = .ok (.ireturn, 1) := by decide +kernel
theorem dL_find_14 : decode cL_find 14 = .ok (.iconst 0, 1) := by decide +kernel
theorem dL_find_15 : decode cL_find 15 = .ok (.ireturn, 1) := by decide +kernel
set_option maxHeartbeats 4000000 in
set_option maxRecDepth 100000 in
theorem V_find (l : Launch) (hl : l.stackTraces = false) (D : va_G) (cI cB cL cO : ClassId) (pf : Nat → Nat) (N : Nat) (A : Nat → Nat → Nat) (ao : Nat) (s : T_PL) (f : Nat → Int64) (o : Int32 × T_PL × (Nat → Int64)) (h : W_find N s f = some o) : CtH l D [(cI, .int), (cB, .byte), (cL, .long), (cO, .object RX0)] pf yL_find cL_find 3 (some FieldType.int) [(0, 8, 11, 28)] { frames := 8, cells := 1, slots := 6, locals := 151 } [.ref (A 0 0), .ref ao] (List.flatten [wPL cI cB cO A s, [(ao, .inl (cL, 1, .inr (.inl f)))]]) (is1 (some (.int o.1)) (List.flatten [wPL cI cB cO A o.2.1, [(ao, .inl (cL, 1, .inr (.inl o.2.2)))]])) := by
  refine CtH_of (own := R_lawN) (lv0 := [(0, .ref (A 0 0)), (1, .ref ao)]) (by decide) rfl rfl (Nat.le_of_ble_eq_true rfl) ?_
  intro p e s' m args below meth c C hr ht
  obtain ⟨r, hr1, hK⟩ := Option.bind_eq_some_iff.mp h
  refine J_aload_n (pc := 0) C dL_find_0 1 rfl ?_
  refine J_iconst (v := (0 : Int32)) (pc := 1) C dL_find_1 (by decide) ?_
  refine J_aload_n (pc := 2) C dL_find_2 0 rfl ?_
  refine J_xvH (o9 := r.1) (V := some (.int r.2.1)) (W1 := wPL cI cB cO A r.2.2) (Wc := wPL cI cB cO A s) (pc := 3) (As := []) (st := [.int (0 : Int32), .ref ao]) C dL_find_3 ml_L_25 mi_yX10_find (Q_find l hl D cI cB cL cO pf N A s r hr1) [(ao, .inl (cL, 1, .inr (.inl f)))] (by simp [List.flatten]) at_this rfl rfl ⟨(Nat.le_of_ble_eq_true rfl), (Nat.le_of_ble_eq_true rfl)⟩ ⟨(Nat.le_of_ble_eq_true rfl), (Nat.le_of_ble_eq_true rfl)⟩ (Nat.le_of_ble_eq_true rfl) (fun h0 => ?_) (fun h0 => ?_)
  · rw [if_pos h0] at hK
    have hK := Option.some.inj hK
    subst hK
    refine J_ws (ws2 := (List.flatten [wPL cI cB cO A r.2.2, [(ao, .inl (cL, 1, .inr (.inl f)))]])) (by simp [List.flatten]) ?_
    refine J_i2l (pc := 6) C dL_find_6 ?_
    refine J_perm (ws2 := [(ao, .inl (cL, 1, .inr (.inl f)))] ++ wPL cI cB cO A r.2.2) (perm_out _ _) ?_
    refine J_last (pc := 7) C dL_find_7 0 2 (rfl : ([(ao, .inl (cL, 1, .inr (.inl f)))] ++ wPL cI cB cO A r.2.2 : va_W)[0]? = some (ao, .inl (cL, 1, .inr (.inl f)))) rfl (by unfold vp_in; decide) ?_
    refine J_ws (ws2 := [(ao, .inl (cL, 1, .inr (.inl (vp_updL f 0 r.2.1.toInt64))))] ++ wPL cI cB cO A r.2.2) rfl ?_
    refine J_perm (ws2 := (List.flatten [wPL cI cB cO A r.2.2, [(ao, .inl (cL, 1, .inr (.inl (vp_updL f 0 r.2.1.toInt64))))]])) (perm_out _ _).symm ?_
    refine J_goto (tgt := 14) (pc := 8) C dL_find_8 (by decide) ?_
    refine J_iconst (v := (0 : Int32)) (pc := 14) C dL_find_14 (by decide) ?_
    refine J_widen (k2 := 1) (n2 := 6) (Nat.le_of_ble_eq_true rfl) (Nat.le_of_ble_eq_true rfl) ?_
    exact J_iret (pc := 15) C dL_find_15 hr ⟨rfl, rfl⟩
  · rw [if_neg h0] at hK
    by_cases h0 : r.1 = 3
    · rw [if_pos h0] at hK
      have hK := Option.some.inj hK
      subst hK
      refine ⟨[], [], ⟨0, 8, 11, 28⟩, "java/util/NoSuchElementException", ht, (fun z hz => by cases hz), rfl, Nat.succ_ne_zero _, cl_L_28, (by rw [h0]; exact ca_of C.2.2.2.2.2.2.2.2 (by decide)), fun q => ?_⟩
      refine J_ws (ws2 := (List.flatten [wPL cI cB cO A r.2.2, [(ao, .inl (cL, 1, .inr (.inl f)))]])) (by simp [List.flatten]) ?_
      refine J_astore_n (lv2 := [(2, .ref q), (0, .ref (A 0 0)), (1, .ref ao)]) (pc := 11) C dL_find_11 (by decide) rfl ?_
      refine J_iconst (v := (1 : Int32)) (pc := 12) C dL_find_12 (by decide) ?_
      refine J_widen (k2 := 1) (n2 := 6) (Nat.le_of_ble_eq_true rfl) (Nat.le_of_ble_eq_true rfl) ?_
      exact J_iret (pc := 13) C dL_find_13 hr ⟨rfl, rfl⟩
    rw [if_neg h0] at hK
    cases hK
theorem dL_purchase_0 : decode cL_purchase 0 = .ok (.aload 4, 2) := by decide +kernel
theorem dL_purchase_2 : decode cL_purchase 2 = .ok (.iconst 0, 1) := by decide +kernel
theorem dL_purchase_3 : decode cL_purchase 3 = .ok (.aload_n 0, 1) := by decide +kernel
theorem dL_purchase_4 : decode cL_purchase 4 = .ok (.iload_n 1, 1) := by decide +kernel
theorem dL_purchase_5 : decode cL_purchase 5 = .ok (.iload_n 2, 1) := by decide +kernel
theorem dL_purchase_6 : decode cL_purchase 6 = .ok (.iload_n 3, 1) := by decide +kernel
theorem dL_purchase_7 : decode cL_purchase 7 = .ok (.invokevirtual 30, 3) := by decide +kernel
theorem dL_purchase_10 : decode cL_purchase 10 = .ok (.i2l, 1) := by decide +kernel
theorem dL_purchase_11 : decode cL_purchase 11 = .ok (.lastore, 1) := by decide +kernel
theorem dL_purchase_12 : decode cL_purchase 12 = .ok (.goto 11, 3) := by decide +kernel
theorem dL_purchase_15 : decode cL_purchase 15 = .ok (.astore 5, 2) := by decide +kernel
theorem dL_purchase_17 : decode cL_purchase 17 = .ok (.iconst 1, 1) := by decide +kernel
theorem dL_purchase_18 : decode cL_purchase 18 = .ok (.ireturn, 1) := by decide +kernel
theorem dL_purchase_19 : decode cL_purchase 19 = .ok (.astore 5, 2) := by decide +kernel
theorem dL_purchase_21 : decode cL_purchase 21 = .ok (.iconst 2, 1) := by decide +kernel
theorem dL_purchase_22 : decode cL_purchase 22 = .ok (.ireturn, 1) := by decide +kernel
theorem dL_purchase_23 : decode cL_purchase 23 = .ok (.iconst 0, 1) := by decide +kernel
theorem dL_purchase_24 : decode cL_purchase 24 = .ok (.ireturn, 1) := by decide +kernel
set_option maxHeartbeats 4000000 in
set_option maxRecDepth 100000 in
theorem V_purchase (l : Launch) (hl : l.stackTraces = false) (D : va_G) (cI cB cL cO : ClassId) (pf : Nat → Nat) (N : Nat) (A : Nat → Nat → Nat) (ao : Nat) (s : T_PL) (f : Nat → Int64) (x1 : Int32) (x2 : Int32) (x3 : Int32) (o : Int32 × T_PL × (Nat → Int64)) (h : W_purchase N s f x1 x2 x3 = some o) : CtH l D [(cI, .int), (cB, .byte), (cL, .long), (cO, .object RX0)] pf yL_purchase cL_purchase 6 (some FieldType.int) [(0, 12, 15, 34), (0, 12, 19, 19)] { frames := 9, cells := 3, slots := 18, locals := 207 } [.ref (A 0 0), .int x1, .int x2, .int x3, .ref ao] (List.flatten [wPL cI cB cO A s, [(ao, .inl (cL, 1, .inr (.inl f)))]]) (is1 (some (.int o.1)) (List.flatten [wPL cI cB cO A o.2.1, [(ao, .inl (cL, 1, .inr (.inl o.2.2)))]])) := by
  refine CtH_of (own := R_lawN) (lv0 := [(0, .ref (A 0 0)), (1, .int x1), (2, .int x2), (3, .int x3), (4, .ref ao)]) (by decide) rfl rfl (Nat.le_of_ble_eq_true rfl) ?_
  intro p e s' m args below meth c C hr ht
  obtain ⟨r, hr1, hK⟩ := Option.bind_eq_some_iff.mp h
  refine J_aload (pc := 0) C dL_purchase_0 4 rfl ?_
  refine J_iconst (v := (0 : Int32)) (pc := 2) C dL_purchase_2 (by decide) ?_
  refine J_aload_n (pc := 3) C dL_purchase_3 0 rfl ?_
  refine J_iload_n (pc := 4) C dL_purchase_4 1 rfl ?_
  refine J_iload_n (pc := 5) C dL_purchase_5 2 rfl ?_
  refine J_iload_n (pc := 6) C dL_purchase_6 3 rfl ?_
  refine J_xvH (o9 := r.1) (V := some (.int r.2.1)) (W1 := wPL cI cB cO A r.2.2) (Wc := wPL cI cB cO A s) (pc := 7) (As := [.int x1, .int x2, .int x3]) (st := [.int (0 : Int32), .ref ao]) C dL_purchase_7 ml_L_30 mi_yX10_purchase (Q_purchase l hl D cI cB cL cO pf N A s x1 x2 x3 r hr1) [(ao, .inl (cL, 1, .inr (.inl f)))] (by simp [List.flatten]) at_this rfl rfl ⟨(Nat.le_of_ble_eq_true rfl), (Nat.le_of_ble_eq_true rfl)⟩ ⟨(Nat.le_of_ble_eq_true rfl), (Nat.le_of_ble_eq_true rfl)⟩ (Nat.le_of_ble_eq_true rfl) (fun h0 => ?_) (fun h0 => ?_)
  · rw [if_pos h0] at hK
    have hK := Option.some.inj hK
    subst hK
    refine J_ws (ws2 := (List.flatten [wPL cI cB cO A r.2.2, [(ao, .inl (cL, 1, .inr (.inl f)))]])) (by simp [List.flatten]) ?_
    refine J_i2l (pc := 10) C dL_purchase_10 ?_
    refine J_perm (ws2 := [(ao, .inl (cL, 1, .inr (.inl f)))] ++ wPL cI cB cO A r.2.2) (perm_out _ _) ?_
    refine J_last (pc := 11) C dL_purchase_11 0 2 (rfl : ([(ao, .inl (cL, 1, .inr (.inl f)))] ++ wPL cI cB cO A r.2.2 : va_W)[0]? = some (ao, .inl (cL, 1, .inr (.inl f)))) rfl (by unfold vp_in; decide) ?_
    refine J_ws (ws2 := [(ao, .inl (cL, 1, .inr (.inl (vp_updL f 0 r.2.1.toInt64))))] ++ wPL cI cB cO A r.2.2) rfl ?_
    refine J_perm (ws2 := (List.flatten [wPL cI cB cO A r.2.2, [(ao, .inl (cL, 1, .inr (.inl (vp_updL f 0 r.2.1.toInt64))))]])) (perm_out _ _).symm ?_
    refine J_goto (tgt := 23) (pc := 12) C dL_purchase_12 (by decide) ?_
    refine J_iconst (v := (0 : Int32)) (pc := 23) C dL_purchase_23 (by decide) ?_
    refine J_widen (k2 := 3) (n2 := 18) (Nat.le_of_ble_eq_true rfl) (Nat.le_of_ble_eq_true rfl) ?_
    exact J_iret (pc := 24) C dL_purchase_24 hr ⟨rfl, rfl⟩
  · rw [if_neg h0] at hK
    by_cases h0 : r.1 = 4
    · rw [if_pos h0] at hK
      have hK := Option.some.inj hK
      subst hK
      refine ⟨[], [⟨0, 12, 19, 19⟩], ⟨0, 12, 15, 34⟩, "java/lang/IndexOutOfBoundsException", ht, (fun z hz => by cases hz), rfl, Nat.succ_ne_zero _, cl_L_34, (by rw [h0]; exact ca_of C.2.2.2.2.2.2.2.2 (by decide)), fun q => ?_⟩
      refine J_ws (ws2 := (List.flatten [wPL cI cB cO A r.2.2, [(ao, .inl (cL, 1, .inr (.inl f)))]])) (by simp [List.flatten]) ?_
      refine J_astore (lv2 := [(5, .ref q), (0, .ref (A 0 0)), (1, .int x1), (2, .int x2), (3, .int x3), (4, .ref ao)]) (pc := 15) C dL_purchase_15 (by decide) rfl ?_
      refine J_iconst (v := (1 : Int32)) (pc := 17) C dL_purchase_17 (by decide) ?_
      refine J_widen (k2 := 3) (n2 := 18) (Nat.le_of_ble_eq_true rfl) (Nat.le_of_ble_eq_true rfl) ?_
      exact J_iret (pc := 18) C dL_purchase_18 hr ⟨rfl, rfl⟩
    rw [if_neg h0] at hK
    by_cases h1 : r.1 = 2
    · rw [if_pos h1] at hK
      have hK := Option.some.inj hK
      subst hK
      refine ⟨[⟨0, 12, 15, 34⟩], [], ⟨0, 12, 19, 19⟩, "java/lang/IllegalArgumentException", ht, (fun z hz => by
          rcases List.mem_cons.mp hz with rfl | hz
          · exact ⟨Nat.succ_ne_zero _, "java/lang/IndexOutOfBoundsException", cl_L_34, (by rw [h1]; exact nc_of C.2.2.2.2.2.2.2.2 (by decide))⟩
          cases hz), rfl, Nat.succ_ne_zero _, cl_L_19, (by rw [h1]; exact ca_of C.2.2.2.2.2.2.2.2 (by decide)), fun q => ?_⟩
      refine J_ws (ws2 := (List.flatten [wPL cI cB cO A r.2.2, [(ao, .inl (cL, 1, .inr (.inl f)))]])) (by simp [List.flatten]) ?_
      refine J_astore (lv2 := [(5, .ref q), (0, .ref (A 0 0)), (1, .int x1), (2, .int x2), (3, .int x3), (4, .ref ao)]) (pc := 19) C dL_purchase_19 (by decide) rfl ?_
      refine J_iconst (v := (2 : Int32)) (pc := 21) C dL_purchase_21 (by decide) ?_
      refine J_widen (k2 := 3) (n2 := 18) (Nat.le_of_ble_eq_true rfl) (Nat.le_of_ble_eq_true rfl) ?_
      exact J_iret (pc := 22) C dL_purchase_22 hr ⟨rfl, rfl⟩
    rw [if_neg h1] at hK
    cases hK
theorem dL_refund_0 : decode cL_refund 0 = .ok (.aload_n 2, 1) := by decide +kernel
theorem dL_refund_1 : decode cL_refund 1 = .ok (.iconst 0, 1) := by decide +kernel
theorem dL_refund_2 : decode cL_refund 2 = .ok (.aload_n 0, 1) := by decide +kernel
theorem dL_refund_3 : decode cL_refund 3 = .ok (.iload_n 1, 1) := by decide +kernel
theorem dL_refund_4 : decode cL_refund 4 = .ok (.invokevirtual 36, 3) := by decide +kernel
theorem dL_refund_7 : decode cL_refund 7 = .ok (.i2l, 1) := by decide +kernel
theorem dL_refund_8 : decode cL_refund 8 = .ok (.lastore, 1) := by decide +kernel
theorem dL_refund_9 : decode cL_refund 9 = .ok (.goto 9, 3) := by decide +kernel
theorem dL_refund_12 : decode cL_refund 12 = .ok (.astore_n 3, 1) := by decide +kernel
theorem dL_refund_13 : decode cL_refund 13 = .ok (.iconst 1, 1) := by decide +kernel
theorem dL_refund_14 : decode cL_refund 14 = .ok (.ireturn, 1) := by decide +kernel
theorem dL_refund_15 : decode cL_refund 15 = .ok (.astore_n 3, 1) := by decide +kernel
theorem dL_refund_16 : decode cL_refund 16 = .ok (.iconst 2, 1) := by decide +kernel
theorem dL_refund_17 : decode cL_refund 17 = .ok (.ireturn, 1) := by decide +kernel
theorem dL_refund_18 : decode cL_refund 18 = .ok (.iconst 0, 1) := by decide +kernel
theorem dL_refund_19 : decode cL_refund 19 = .ok (.ireturn, 1) := by decide +kernel
set_option maxHeartbeats 4000000 in
set_option maxRecDepth 100000 in
theorem V_refund (l : Launch) (hl : l.stackTraces = false) (D : va_G) (cI cB cL cO : ClassId) (pf : Nat → Nat) (N : Nat) (A : Nat → Nat → Nat) (ao : Nat) (s : T_PL) (f : Nat → Int64) (x1 : Int32) (o : Int32 × T_PL × (Nat → Int64)) (h : W_refund N s f x1 = some o) : CtH l D [(cI, .int), (cB, .byte), (cL, .long), (cO, .object RX0)] pf yL_refund cL_refund 4 (some FieldType.int) [(0, 9, 12, 28), (0, 9, 15, 13)] { frames := 9, cells := 2, slots := 12, locals := 203 } [.ref (A 0 0), .int x1, .ref ao] (List.flatten [wPL cI cB cO A s, [(ao, .inl (cL, 1, .inr (.inl f)))]]) (is1 (some (.int o.1)) (List.flatten [wPL cI cB cO A o.2.1, [(ao, .inl (cL, 1, .inr (.inl o.2.2)))]])) := by
  refine CtH_of (own := R_lawN) (lv0 := [(0, .ref (A 0 0)), (1, .int x1), (2, .ref ao)]) (by decide) rfl rfl (Nat.le_of_ble_eq_true rfl) ?_
  intro p e s' m args below meth c C hr ht
  obtain ⟨r, hr1, hK⟩ := Option.bind_eq_some_iff.mp h
  refine J_aload_n (pc := 0) C dL_refund_0 2 rfl ?_
  refine J_iconst (v := (0 : Int32)) (pc := 1) C dL_refund_1 (by decide) ?_
  refine J_aload_n (pc := 2) C dL_refund_2 0 rfl ?_
  refine J_iload_n (pc := 3) C dL_refund_3 1 rfl ?_
  refine J_xvH (o9 := r.1) (V := some (.int r.2.1)) (W1 := wPL cI cB cO A r.2.2) (Wc := wPL cI cB cO A s) (pc := 4) (As := [.int x1]) (st := [.int (0 : Int32), .ref ao]) C dL_refund_4 ml_L_36 mi_yX10_refund (Q_refund l hl D cI cB cL cO pf N A s x1 r hr1) [(ao, .inl (cL, 1, .inr (.inl f)))] (by simp [List.flatten]) at_this rfl rfl ⟨(Nat.le_of_ble_eq_true rfl), (Nat.le_of_ble_eq_true rfl)⟩ ⟨(Nat.le_of_ble_eq_true rfl), (Nat.le_of_ble_eq_true rfl)⟩ (Nat.le_of_ble_eq_true rfl) (fun h0 => ?_) (fun h0 => ?_)
  · rw [if_pos h0] at hK
    have hK := Option.some.inj hK
    subst hK
    refine J_ws (ws2 := (List.flatten [wPL cI cB cO A r.2.2, [(ao, .inl (cL, 1, .inr (.inl f)))]])) (by simp [List.flatten]) ?_
    refine J_i2l (pc := 7) C dL_refund_7 ?_
    refine J_perm (ws2 := [(ao, .inl (cL, 1, .inr (.inl f)))] ++ wPL cI cB cO A r.2.2) (perm_out _ _) ?_
    refine J_last (pc := 8) C dL_refund_8 0 2 (rfl : ([(ao, .inl (cL, 1, .inr (.inl f)))] ++ wPL cI cB cO A r.2.2 : va_W)[0]? = some (ao, .inl (cL, 1, .inr (.inl f)))) rfl (by unfold vp_in; decide) ?_
    refine J_ws (ws2 := [(ao, .inl (cL, 1, .inr (.inl (vp_updL f 0 r.2.1.toInt64))))] ++ wPL cI cB cO A r.2.2) rfl ?_
    refine J_perm (ws2 := (List.flatten [wPL cI cB cO A r.2.2, [(ao, .inl (cL, 1, .inr (.inl (vp_updL f 0 r.2.1.toInt64))))]])) (perm_out _ _).symm ?_
    refine J_goto (tgt := 18) (pc := 9) C dL_refund_9 (by decide) ?_
    refine J_iconst (v := (0 : Int32)) (pc := 18) C dL_refund_18 (by decide) ?_
    refine J_widen (k2 := 2) (n2 := 12) (Nat.le_of_ble_eq_true rfl) (Nat.le_of_ble_eq_true rfl) ?_
    exact J_iret (pc := 19) C dL_refund_19 hr ⟨rfl, rfl⟩
  · rw [if_neg h0] at hK
    by_cases h0 : r.1 = 3
    · rw [if_pos h0] at hK
      have hK := Option.some.inj hK
      subst hK
      refine ⟨[], [⟨0, 9, 15, 13⟩], ⟨0, 9, 12, 28⟩, "java/util/NoSuchElementException", ht, (fun z hz => by cases hz), rfl, Nat.succ_ne_zero _, cl_L_28, (by rw [h0]; exact ca_of C.2.2.2.2.2.2.2.2 (by decide)), fun q => ?_⟩
      refine J_ws (ws2 := (List.flatten [wPL cI cB cO A r.2.2, [(ao, .inl (cL, 1, .inr (.inl f)))]])) (by simp [List.flatten]) ?_
      refine J_astore_n (lv2 := [(3, .ref q), (0, .ref (A 0 0)), (1, .int x1), (2, .ref ao)]) (pc := 12) C dL_refund_12 (by decide) rfl ?_
      refine J_iconst (v := (1 : Int32)) (pc := 13) C dL_refund_13 (by decide) ?_
      refine J_widen (k2 := 2) (n2 := 12) (Nat.le_of_ble_eq_true rfl) (Nat.le_of_ble_eq_true rfl) ?_
      exact J_iret (pc := 14) C dL_refund_14 hr ⟨rfl, rfl⟩
    rw [if_neg h0] at hK
    by_cases h1 : r.1 = 1
    · rw [if_pos h1] at hK
      have hK := Option.some.inj hK
      subst hK
      refine ⟨[⟨0, 9, 12, 28⟩], [], ⟨0, 9, 15, 13⟩, "java/lang/IllegalStateException", ht, (fun z hz => by
          rcases List.mem_cons.mp hz with rfl | hz
          · exact ⟨Nat.succ_ne_zero _, "java/util/NoSuchElementException", cl_L_28, (by rw [h1]; exact nc_of C.2.2.2.2.2.2.2.2 (by decide))⟩
          cases hz), rfl, Nat.succ_ne_zero _, cl_L_13, (by rw [h1]; exact ca_of C.2.2.2.2.2.2.2.2 (by decide)), fun q => ?_⟩
      refine J_ws (ws2 := (List.flatten [wPL cI cB cO A r.2.2, [(ao, .inl (cL, 1, .inr (.inl f)))]])) (by simp [List.flatten]) ?_
      refine J_astore_n (lv2 := [(3, .ref q), (0, .ref (A 0 0)), (1, .int x1), (2, .ref ao)]) (pc := 15) C dL_refund_15 (by decide) rfl ?_
      refine J_iconst (v := (2 : Int32)) (pc := 16) C dL_refund_16 (by decide) ?_
      refine J_widen (k2 := 2) (n2 := 12) (Nat.le_of_ble_eq_true rfl) (Nat.le_of_ble_eq_true rfl) ?_
      exact J_iret (pc := 17) C dL_refund_17 hr ⟨rfl, rfl⟩
    rw [if_neg h1] at hK
    cases hK
theorem dL_redeem_0 : decode cL_redeem 0 = .ok (.aload_n 3, 1) := by decide +kernel
theorem dL_redeem_1 : decode cL_redeem 1 = .ok (.iconst 0, 1) := by decide +kernel
theorem dL_redeem_2 : decode cL_redeem 2 = .ok (.aload_n 0, 1) := by decide +kernel
theorem dL_redeem_3 : decode cL_redeem 3 = .ok (.iload_n 1, 1) := by decide +kernel
theorem dL_redeem_4 : decode cL_redeem 4 = .ok (.iload_n 2, 1) := by decide +kernel
theorem dL_redeem_5 : decode cL_redeem 5 = .ok (.invokevirtual 39, 3) := by decide +kernel
theorem dL_redeem_8 : decode cL_redeem 8 = .ok (.i2l, 1) := by decide +kernel
theorem dL_redeem_9 : decode cL_redeem 9 = .ok (.lastore, 1) := by decide +kernel
theorem dL_redeem_10 : decode cL_redeem 10 = .ok (.goto 15, 3) := by decide +kernel
theorem dL_redeem_13 : decode cL_redeem 13 = .ok (.astore 4, 2) := by decide +kernel
theorem dL_redeem_15 : decode cL_redeem 15 = .ok (.iconst 1, 1) := by decide +kernel
theorem dL_redeem_16 : decode cL_redeem 16 = .ok (.ireturn, 1) := by decide +kernel
theorem dL_redeem_17 : decode cL_redeem 17 = .ok (.astore 4, 2) := by decide +kernel
theorem dL_redeem_19 : decode cL_redeem 19 = .ok (.iconst 2, 1) := by decide +kernel
theorem dL_redeem_20 : decode cL_redeem 20 = .ok (.ireturn, 1) := by decide +kernel
theorem dL_redeem_21 : decode cL_redeem 21 = .ok (.astore 4, 2) := by decide +kernel
theorem dL_redeem_23 : decode cL_redeem 23 = .ok (.iconst 3, 1) := by decide +kernel
theorem dL_redeem_24 : decode cL_redeem 24 = .ok (.ireturn, 1) := by decide +kernel
theorem dL_redeem_25 : decode cL_redeem 25 = .ok (.iconst 0, 1) := by decide +kernel
theorem dL_redeem_26 : decode cL_redeem 26 = .ok (.ireturn, 1) := by decide +kernel
set_option maxHeartbeats 4000000 in
set_option maxRecDepth 100000 in
theorem V_redeem (l : Launch) (hl : l.stackTraces = false) (D : va_G) (cI cB cL cO : ClassId) (pf : Nat → Nat) (N : Nat) (A : Nat → Nat → Nat) (ao : Nat) (s : T_PL) (f : Nat → Int64) (x1 : Int32) (x2 : Int32) (o : Int32 × T_PL × (Nat → Int64)) (h : W_redeem N s f x1 x2 = some o) : CtH l D [(cI, .int), (cB, .byte), (cL, .long), (cO, .object RX0)] pf yL_redeem cL_redeem 5 (some FieldType.int) [(0, 10, 13, 34), (0, 10, 17, 19), (0, 10, 21, 13)] { frames := 9, cells := 3, slots := 18, locals := 202 } [.ref (A 0 0), .int x1, .int x2, .ref ao] (List.flatten [wPL cI cB cO A s, [(ao, .inl (cL, 1, .inr (.inl f)))]]) (is1 (some (.int o.1)) (List.flatten [wPL cI cB cO A o.2.1, [(ao, .inl (cL, 1, .inr (.inl o.2.2)))]])) := by
  refine CtH_of (own := R_lawN) (lv0 := [(0, .ref (A 0 0)), (1, .int x1), (2, .int x2), (3, .ref ao)]) (by decide) rfl rfl (Nat.le_of_ble_eq_true rfl) ?_
  intro p e s' m args below meth c C hr ht
  obtain ⟨r, hr1, hK⟩ := Option.bind_eq_some_iff.mp h
  refine J_aload_n (pc := 0) C dL_redeem_0 3 rfl ?_
  refine J_iconst (v := (0 : Int32)) (pc := 1) C dL_redeem_1 (by decide) ?_
  refine J_aload_n (pc := 2) C dL_redeem_2 0 rfl ?_
  refine J_iload_n (pc := 3) C dL_redeem_3 1 rfl ?_
  refine J_iload_n (pc := 4) C dL_redeem_4 2 rfl ?_
  refine J_xvH (o9 := r.1) (V := some (.int r.2.1)) (W1 := wPL cI cB cO A r.2.2) (Wc := wPL cI cB cO A s) (pc := 5) (As := [.int x1, .int x2]) (st := [.int (0 : Int32), .ref ao]) C dL_redeem_5 ml_L_39 mi_yX10_redeem (Q_redeem l hl D cI cB cL cO pf N A s x1 x2 r hr1) [(ao, .inl (cL, 1, .inr (.inl f)))] (by simp [List.flatten]) at_this rfl rfl ⟨(Nat.le_of_ble_eq_true rfl), (Nat.le_of_ble_eq_true rfl)⟩ ⟨(Nat.le_of_ble_eq_true rfl), (Nat.le_of_ble_eq_true rfl)⟩ (Nat.le_of_ble_eq_true rfl) (fun h0 => ?_) (fun h0 => ?_)
  · rw [if_pos h0] at hK
    have hK := Option.some.inj hK
    subst hK
    refine J_ws (ws2 := (List.flatten [wPL cI cB cO A r.2.2, [(ao, .inl (cL, 1, .inr (.inl f)))]])) (by simp [List.flatten]) ?_
    refine J_i2l (pc := 8) C dL_redeem_8 ?_
    refine J_perm (ws2 := [(ao, .inl (cL, 1, .inr (.inl f)))] ++ wPL cI cB cO A r.2.2) (perm_out _ _) ?_
    refine J_last (pc := 9) C dL_redeem_9 0 2 (rfl : ([(ao, .inl (cL, 1, .inr (.inl f)))] ++ wPL cI cB cO A r.2.2 : va_W)[0]? = some (ao, .inl (cL, 1, .inr (.inl f)))) rfl (by unfold vp_in; decide) ?_
    refine J_ws (ws2 := [(ao, .inl (cL, 1, .inr (.inl (vp_updL f 0 r.2.1.toInt64))))] ++ wPL cI cB cO A r.2.2) rfl ?_
    refine J_perm (ws2 := (List.flatten [wPL cI cB cO A r.2.2, [(ao, .inl (cL, 1, .inr (.inl (vp_updL f 0 r.2.1.toInt64))))]])) (perm_out _ _).symm ?_
    refine J_goto (tgt := 25) (pc := 10) C dL_redeem_10 (by decide) ?_
    refine J_iconst (v := (0 : Int32)) (pc := 25) C dL_redeem_25 (by decide) ?_
    refine J_widen (k2 := 3) (n2 := 18) (Nat.le_of_ble_eq_true rfl) (Nat.le_of_ble_eq_true rfl) ?_
    exact J_iret (pc := 26) C dL_redeem_26 hr ⟨rfl, rfl⟩
  · rw [if_neg h0] at hK
    by_cases h0 : r.1 = 4
    · rw [if_pos h0] at hK
      have hK := Option.some.inj hK
      subst hK
      refine ⟨[], [⟨0, 10, 17, 19⟩, ⟨0, 10, 21, 13⟩], ⟨0, 10, 13, 34⟩, "java/lang/IndexOutOfBoundsException", ht, (fun z hz => by cases hz), rfl, Nat.succ_ne_zero _, cl_L_34, (by rw [h0]; exact ca_of C.2.2.2.2.2.2.2.2 (by decide)), fun q => ?_⟩
      refine J_ws (ws2 := (List.flatten [wPL cI cB cO A r.2.2, [(ao, .inl (cL, 1, .inr (.inl f)))]])) (by simp [List.flatten]) ?_
      refine J_astore (lv2 := [(4, .ref q), (0, .ref (A 0 0)), (1, .int x1), (2, .int x2), (3, .ref ao)]) (pc := 13) C dL_redeem_13 (by decide) rfl ?_
      refine J_iconst (v := (1 : Int32)) (pc := 15) C dL_redeem_15 (by decide) ?_
      refine J_widen (k2 := 3) (n2 := 18) (Nat.le_of_ble_eq_true rfl) (Nat.le_of_ble_eq_true rfl) ?_
      exact J_iret (pc := 16) C dL_redeem_16 hr ⟨rfl, rfl⟩
    rw [if_neg h0] at hK
    by_cases h1 : r.1 = 2
    · rw [if_pos h1] at hK
      have hK := Option.some.inj hK
      subst hK
      refine ⟨[⟨0, 10, 13, 34⟩], [⟨0, 10, 21, 13⟩], ⟨0, 10, 17, 19⟩, "java/lang/IllegalArgumentException", ht, (fun z hz => by
          rcases List.mem_cons.mp hz with rfl | hz
          · exact ⟨Nat.succ_ne_zero _, "java/lang/IndexOutOfBoundsException", cl_L_34, (by rw [h1]; exact nc_of C.2.2.2.2.2.2.2.2 (by decide))⟩
          cases hz), rfl, Nat.succ_ne_zero _, cl_L_19, (by rw [h1]; exact ca_of C.2.2.2.2.2.2.2.2 (by decide)), fun q => ?_⟩
      refine J_ws (ws2 := (List.flatten [wPL cI cB cO A r.2.2, [(ao, .inl (cL, 1, .inr (.inl f)))]])) (by simp [List.flatten]) ?_
      refine J_astore (lv2 := [(4, .ref q), (0, .ref (A 0 0)), (1, .int x1), (2, .int x2), (3, .ref ao)]) (pc := 17) C dL_redeem_17 (by decide) rfl ?_
      refine J_iconst (v := (2 : Int32)) (pc := 19) C dL_redeem_19 (by decide) ?_
      refine J_widen (k2 := 3) (n2 := 18) (Nat.le_of_ble_eq_true rfl) (Nat.le_of_ble_eq_true rfl) ?_
      exact J_iret (pc := 20) C dL_redeem_20 hr ⟨rfl, rfl⟩
    rw [if_neg h1] at hK
    by_cases h2 : r.1 = 1
    · rw [if_pos h2] at hK
      have hK := Option.some.inj hK
      subst hK
      refine ⟨[⟨0, 10, 13, 34⟩, ⟨0, 10, 17, 19⟩], [], ⟨0, 10, 21, 13⟩, "java/lang/IllegalStateException", ht, (fun z hz => by
          rcases List.mem_cons.mp hz with rfl | hz
          · exact ⟨Nat.succ_ne_zero _, "java/lang/IndexOutOfBoundsException", cl_L_34, (by rw [h2]; exact nc_of C.2.2.2.2.2.2.2.2 (by decide))⟩
          rcases List.mem_cons.mp hz with rfl | hz
          · exact ⟨Nat.succ_ne_zero _, "java/lang/IllegalArgumentException", cl_L_19, (by rw [h2]; exact nc_of C.2.2.2.2.2.2.2.2 (by decide))⟩
          cases hz), rfl, Nat.succ_ne_zero _, cl_L_13, (by rw [h2]; exact ca_of C.2.2.2.2.2.2.2.2 (by decide)), fun q => ?_⟩
      refine J_ws (ws2 := (List.flatten [wPL cI cB cO A r.2.2, [(ao, .inl (cL, 1, .inr (.inl f)))]])) (by simp [List.flatten]) ?_
      refine J_astore (lv2 := [(4, .ref q), (0, .ref (A 0 0)), (1, .int x1), (2, .int x2), (3, .ref ao)]) (pc := 21) C dL_redeem_21 (by decide) rfl ?_
      refine J_iconst (v := (3 : Int32)) (pc := 23) C dL_redeem_23 (by decide) ?_
      refine J_widen (k2 := 3) (n2 := 18) (Nat.le_of_ble_eq_true rfl) (Nat.le_of_ble_eq_true rfl) ?_
      exact J_iret (pc := 24) C dL_redeem_24 hr ⟨rfl, rfl⟩
    rw [if_neg h2] at hK
    cases hK
theorem dL_transfer_0 : decode cL_transfer 0 = .ok (.aload 4, 2) := by decide +kernel
theorem dL_transfer_2 : decode cL_transfer 2 = .ok (.iconst 0, 1) := by decide +kernel
theorem dL_transfer_3 : decode cL_transfer 3 = .ok (.aload_n 0, 1) := by decide +kernel
theorem dL_transfer_4 : decode cL_transfer 4 = .ok (.iload_n 1, 1) := by decide +kernel
theorem dL_transfer_5 : decode cL_transfer 5 = .ok (.iload_n 2, 1) := by decide +kernel
theorem dL_transfer_6 : decode cL_transfer 6 = .ok (.iload_n 3, 1) := by decide +kernel
theorem dL_transfer_7 : decode cL_transfer 7 = .ok (.invokevirtual 43, 3) := by decide +kernel
theorem dL_transfer_10 : decode cL_transfer 10 = .ok (.i2l, 1) := by decide +kernel
theorem dL_transfer_11 : decode cL_transfer 11 = .ok (.lastore, 1) := by decide +kernel
theorem dL_transfer_12 : decode cL_transfer 12 = .ok (.goto 15, 3) := by decide +kernel
theorem dL_transfer_15 : decode cL_transfer 15 = .ok (.astore 5, 2) := by decide +kernel
theorem dL_transfer_17 : decode cL_transfer 17 = .ok (.iconst 1, 1) := by decide +kernel
theorem dL_transfer_18 : decode cL_transfer 18 = .ok (.ireturn, 1) := by decide +kernel
theorem dL_transfer_19 : decode cL_transfer 19 = .ok (.astore 5, 2) := by decide +kernel
theorem dL_transfer_21 : decode cL_transfer 21 = .ok (.iconst 2, 1) := by decide +kernel
theorem dL_transfer_22 : decode cL_transfer 22 = .ok (.ireturn, 1) := by decide +kernel
theorem dL_transfer_23 : decode cL_transfer 23 = .ok (.astore 5, 2) := by decide +kernel
theorem dL_transfer_25 : decode cL_transfer 25 = .ok (.iconst 3, 1) := by decide +kernel
theorem dL_transfer_26 : decode cL_transfer 26 = .ok (.ireturn, 1) := by decide +kernel
theorem dL_transfer_27 : decode cL_transfer 27 = .ok (.iconst 0, 1) := by decide +kernel
theorem dL_transfer_28 : decode cL_transfer 28 = .ok (.ireturn, 1) := by decide +kernel
set_option maxHeartbeats 4000000 in
set_option maxRecDepth 100000 in
theorem V_transfer (l : Launch) (hl : l.stackTraces = false) (D : va_G) (cI cB cL cO : ClassId) (pf : Nat → Nat) (N : Nat) (A : Nat → Nat → Nat) (ao : Nat) (s : T_PL) (f : Nat → Int64) (x1 : Int32) (x2 : Int32) (x3 : Int32) (o : Int32 × T_PL × (Nat → Int64)) (h : W_transfer N s f x1 x2 x3 = some o) : CtH l D [(cI, .int), (cB, .byte), (cL, .long), (cO, .object RX0)] pf yL_transfer cL_transfer 6 (some FieldType.int) [(0, 12, 15, 34), (0, 12, 19, 19), (0, 12, 23, 13)] { frames := 9, cells := 4, slots := 24, locals := 208 } [.ref (A 0 0), .int x1, .int x2, .int x3, .ref ao] (List.flatten [wPL cI cB cO A s, [(ao, .inl (cL, 1, .inr (.inl f)))]]) (is1 (some (.int o.1)) (List.flatten [wPL cI cB cO A o.2.1, [(ao, .inl (cL, 1, .inr (.inl o.2.2)))]])) := by
  refine CtH_of (own := R_lawN) (lv0 := [(0, .ref (A 0 0)), (1, .int x1), (2, .int x2), (3, .int x3), (4, .ref ao)]) (by decide) rfl rfl (Nat.le_of_ble_eq_true rfl) ?_
  intro p e s' m args below meth c C hr ht
  obtain ⟨r, hr1, hK⟩ := Option.bind_eq_some_iff.mp h
  refine J_aload (pc := 0) C dL_transfer_0 4 rfl ?_
  refine J_iconst (v := (0 : Int32)) (pc := 2) C dL_transfer_2 (by decide) ?_
  refine J_aload_n (pc := 3) C dL_transfer_3 0 rfl ?_
  refine J_iload_n (pc := 4) C dL_transfer_4 1 rfl ?_
  refine J_iload_n (pc := 5) C dL_transfer_5 2 rfl ?_
  refine J_iload_n (pc := 6) C dL_transfer_6 3 rfl ?_
  refine J_xvH (o9 := r.1) (V := some (.int r.2.1)) (W1 := wPL cI cB cO A r.2.2) (Wc := wPL cI cB cO A s) (pc := 7) (As := [.int x1, .int x2, .int x3]) (st := [.int (0 : Int32), .ref ao]) C dL_transfer_7 ml_L_43 mi_yX10_transfer (Q_transfer l hl D cI cB cL cO pf N A s x1 x2 x3 r hr1) [(ao, .inl (cL, 1, .inr (.inl f)))] (by simp [List.flatten]) at_this rfl rfl ⟨(Nat.le_of_ble_eq_true rfl), (Nat.le_of_ble_eq_true rfl)⟩ ⟨(Nat.le_of_ble_eq_true rfl), (Nat.le_of_ble_eq_true rfl)⟩ (Nat.le_of_ble_eq_true rfl) (fun h0 => ?_) (fun h0 => ?_)
  · rw [if_pos h0] at hK
    have hK := Option.some.inj hK
    subst hK
    refine J_ws (ws2 := (List.flatten [wPL cI cB cO A r.2.2, [(ao, .inl (cL, 1, .inr (.inl f)))]])) (by simp [List.flatten]) ?_
    refine J_i2l (pc := 10) C dL_transfer_10 ?_
    refine J_perm (ws2 := [(ao, .inl (cL, 1, .inr (.inl f)))] ++ wPL cI cB cO A r.2.2) (perm_out _ _) ?_
    refine J_last (pc := 11) C dL_transfer_11 0 2 (rfl : ([(ao, .inl (cL, 1, .inr (.inl f)))] ++ wPL cI cB cO A r.2.2 : va_W)[0]? = some (ao, .inl (cL, 1, .inr (.inl f)))) rfl (by unfold vp_in; decide) ?_
    refine J_ws (ws2 := [(ao, .inl (cL, 1, .inr (.inl (vp_updL f 0 r.2.1.toInt64))))] ++ wPL cI cB cO A r.2.2) rfl ?_
    refine J_perm (ws2 := (List.flatten [wPL cI cB cO A r.2.2, [(ao, .inl (cL, 1, .inr (.inl (vp_updL f 0 r.2.1.toInt64))))]])) (perm_out _ _).symm ?_
    refine J_goto (tgt := 27) (pc := 12) C dL_transfer_12 (by decide) ?_
    refine J_iconst (v := (0 : Int32)) (pc := 27) C dL_transfer_27 (by decide) ?_
    refine J_widen (k2 := 4) (n2 := 24) (Nat.le_of_ble_eq_true rfl) (Nat.le_of_ble_eq_true rfl) ?_
    exact J_iret (pc := 28) C dL_transfer_28 hr ⟨rfl, rfl⟩
  · rw [if_neg h0] at hK
    by_cases h0 : r.1 = 4
    · rw [if_pos h0] at hK
      have hK := Option.some.inj hK
      subst hK
      refine ⟨[], [⟨0, 12, 19, 19⟩, ⟨0, 12, 23, 13⟩], ⟨0, 12, 15, 34⟩, "java/lang/IndexOutOfBoundsException", ht, (fun z hz => by cases hz), rfl, Nat.succ_ne_zero _, cl_L_34, (by rw [h0]; exact ca_of C.2.2.2.2.2.2.2.2 (by decide)), fun q => ?_⟩
      refine J_ws (ws2 := (List.flatten [wPL cI cB cO A r.2.2, [(ao, .inl (cL, 1, .inr (.inl f)))]])) (by simp [List.flatten]) ?_
      refine J_astore (lv2 := [(5, .ref q), (0, .ref (A 0 0)), (1, .int x1), (2, .int x2), (3, .int x3), (4, .ref ao)]) (pc := 15) C dL_transfer_15 (by decide) rfl ?_
      refine J_iconst (v := (1 : Int32)) (pc := 17) C dL_transfer_17 (by decide) ?_
      refine J_widen (k2 := 4) (n2 := 24) (Nat.le_of_ble_eq_true rfl) (Nat.le_of_ble_eq_true rfl) ?_
      exact J_iret (pc := 18) C dL_transfer_18 hr ⟨rfl, rfl⟩
    rw [if_neg h0] at hK
    by_cases h1 : r.1 = 2
    · rw [if_pos h1] at hK
      have hK := Option.some.inj hK
      subst hK
      refine ⟨[⟨0, 12, 15, 34⟩], [⟨0, 12, 23, 13⟩], ⟨0, 12, 19, 19⟩, "java/lang/IllegalArgumentException", ht, (fun z hz => by
          rcases List.mem_cons.mp hz with rfl | hz
          · exact ⟨Nat.succ_ne_zero _, "java/lang/IndexOutOfBoundsException", cl_L_34, (by rw [h1]; exact nc_of C.2.2.2.2.2.2.2.2 (by decide))⟩
          cases hz), rfl, Nat.succ_ne_zero _, cl_L_19, (by rw [h1]; exact ca_of C.2.2.2.2.2.2.2.2 (by decide)), fun q => ?_⟩
      refine J_ws (ws2 := (List.flatten [wPL cI cB cO A r.2.2, [(ao, .inl (cL, 1, .inr (.inl f)))]])) (by simp [List.flatten]) ?_
      refine J_astore (lv2 := [(5, .ref q), (0, .ref (A 0 0)), (1, .int x1), (2, .int x2), (3, .int x3), (4, .ref ao)]) (pc := 19) C dL_transfer_19 (by decide) rfl ?_
      refine J_iconst (v := (2 : Int32)) (pc := 21) C dL_transfer_21 (by decide) ?_
      refine J_widen (k2 := 4) (n2 := 24) (Nat.le_of_ble_eq_true rfl) (Nat.le_of_ble_eq_true rfl) ?_
      exact J_iret (pc := 22) C dL_transfer_22 hr ⟨rfl, rfl⟩
    rw [if_neg h1] at hK
    by_cases h2 : r.1 = 1
    · rw [if_pos h2] at hK
      have hK := Option.some.inj hK
      subst hK
      refine ⟨[⟨0, 12, 15, 34⟩, ⟨0, 12, 19, 19⟩], [], ⟨0, 12, 23, 13⟩, "java/lang/IllegalStateException", ht, (fun z hz => by
          rcases List.mem_cons.mp hz with rfl | hz
          · exact ⟨Nat.succ_ne_zero _, "java/lang/IndexOutOfBoundsException", cl_L_34, (by rw [h2]; exact nc_of C.2.2.2.2.2.2.2.2 (by decide))⟩
          rcases List.mem_cons.mp hz with rfl | hz
          · exact ⟨Nat.succ_ne_zero _, "java/lang/IllegalArgumentException", cl_L_19, (by rw [h2]; exact nc_of C.2.2.2.2.2.2.2.2 (by decide))⟩
          cases hz), rfl, Nat.succ_ne_zero _, cl_L_13, (by rw [h2]; exact ca_of C.2.2.2.2.2.2.2.2 (by decide)), fun q => ?_⟩
      refine J_ws (ws2 := (List.flatten [wPL cI cB cO A r.2.2, [(ao, .inl (cL, 1, .inr (.inl f)))]])) (by simp [List.flatten]) ?_
      refine J_astore (lv2 := [(5, .ref q), (0, .ref (A 0 0)), (1, .int x1), (2, .int x2), (3, .int x3), (4, .ref ao)]) (pc := 23) C dL_transfer_23 (by decide) rfl ?_
      refine J_iconst (v := (3 : Int32)) (pc := 25) C dL_transfer_25 (by decide) ?_
      refine J_widen (k2 := 4) (n2 := 24) (Nat.le_of_ble_eq_true rfl) (Nat.le_of_ble_eq_true rfl) ?_
      exact J_iret (pc := 26) C dL_transfer_26 hr ⟨rfl, rfl⟩
    rw [if_neg h2] at hK
    cases hK
theorem dL_join_0 : decode cL_join 0 = .ok (.aload_n 3, 1) := by decide +kernel
theorem dL_join_1 : decode cL_join 1 = .ok (.iconst 0, 1) := by decide +kernel
theorem dL_join_2 : decode cL_join 2 = .ok (.aload_n 0, 1) := by decide +kernel
theorem dL_join_3 : decode cL_join 3 = .ok (.iload_n 1, 1) := by decide +kernel
theorem dL_join_4 : decode cL_join 4 = .ok (.iload_n 2, 1) := by decide +kernel
theorem dL_join_5 : decode cL_join 5 = .ok (.invokevirtual 46, 3) := by decide +kernel
theorem dL_join_8 : decode cL_join 8 = .ok (.i2l, 1) := by decide +kernel
theorem dL_join_9 : decode cL_join 9 = .ok (.lastore, 1) := by decide +kernel
theorem dL_join_10 : decode cL_join 10 = .ok (.goto 11, 3) := by decide +kernel
theorem dL_join_13 : decode cL_join 13 = .ok (.astore 4, 2) := by decide +kernel
theorem dL_join_15 : decode cL_join 15 = .ok (.iconst 1, 1) := by decide +kernel
theorem dL_join_16 : decode cL_join 16 = .ok (.ireturn, 1) := by decide +kernel
theorem dL_join_17 : decode cL_join 17 = .ok (.astore 4, 2) := by decide +kernel
theorem dL_join_19 : decode cL_join 19 = .ok (.iconst 2, 1) := by decide +kernel
theorem dL_join_20 : decode cL_join 20 = .ok (.ireturn, 1) := by decide +kernel
theorem dL_join_21 : decode cL_join 21 = .ok (.iconst 0, 1) := by decide +kernel
theorem dL_join_22 : decode cL_join 22 = .ok (.ireturn, 1) := by decide +kernel
set_option maxHeartbeats 4000000 in
set_option maxRecDepth 100000 in
theorem V_join (l : Launch) (hl : l.stackTraces = false) (D : va_G) (cI cB cL cO : ClassId) (pf : Nat → Nat) (N : Nat) (A : Nat → Nat → Nat) (ao : Nat) (s : T_PL) (f : Nat → Int64) (x1 : Int32) (x2 : Int32) (o : Int32 × T_PL × (Nat → Int64)) (h : W_join N s f x1 x2 = some o) : CtH l D [(cI, .int), (cB, .byte), (cL, .long), (cO, .object RX0)] pf yL_join cL_join 5 (some FieldType.int) [(0, 10, 13, 34), (0, 10, 17, 13)] { frames := 9, cells := 3, slots := 18, locals := 190 } [.ref (A 0 0), .int x1, .int x2, .ref ao] (List.flatten [wPL cI cB cO A s, [(ao, .inl (cL, 1, .inr (.inl f)))]]) (is1 (some (.int o.1)) (List.flatten [wPL cI cB cO A o.2.1, [(ao, .inl (cL, 1, .inr (.inl o.2.2)))]])) := by
  refine CtH_of (own := R_lawN) (lv0 := [(0, .ref (A 0 0)), (1, .int x1), (2, .int x2), (3, .ref ao)]) (by decide) rfl rfl (Nat.le_of_ble_eq_true rfl) ?_
  intro p e s' m args below meth c C hr ht
  obtain ⟨r, hr1, hK⟩ := Option.bind_eq_some_iff.mp h
  refine J_aload_n (pc := 0) C dL_join_0 3 rfl ?_
  refine J_iconst (v := (0 : Int32)) (pc := 1) C dL_join_1 (by decide) ?_
  refine J_aload_n (pc := 2) C dL_join_2 0 rfl ?_
  refine J_iload_n (pc := 3) C dL_join_3 1 rfl ?_
  refine J_iload_n (pc := 4) C dL_join_4 2 rfl ?_
  refine J_xvH (o9 := r.1) (V := some (.int r.2.1)) (W1 := wPL cI cB cO A r.2.2) (Wc := wPL cI cB cO A s) (pc := 5) (As := [.int x1, .int x2]) (st := [.int (0 : Int32), .ref ao]) C dL_join_5 ml_L_46 mi_yX10_join (Q_join l hl D cI cB cL cO pf N A s x1 x2 r hr1) [(ao, .inl (cL, 1, .inr (.inl f)))] (by simp [List.flatten]) at_this rfl rfl ⟨(Nat.le_of_ble_eq_true rfl), (Nat.le_of_ble_eq_true rfl)⟩ ⟨(Nat.le_of_ble_eq_true rfl), (Nat.le_of_ble_eq_true rfl)⟩ (Nat.le_of_ble_eq_true rfl) (fun h0 => ?_) (fun h0 => ?_)
  · rw [if_pos h0] at hK
    have hK := Option.some.inj hK
    subst hK
    refine J_ws (ws2 := (List.flatten [wPL cI cB cO A r.2.2, [(ao, .inl (cL, 1, .inr (.inl f)))]])) (by simp [List.flatten]) ?_
    refine J_i2l (pc := 8) C dL_join_8 ?_
    refine J_perm (ws2 := [(ao, .inl (cL, 1, .inr (.inl f)))] ++ wPL cI cB cO A r.2.2) (perm_out _ _) ?_
    refine J_last (pc := 9) C dL_join_9 0 2 (rfl : ([(ao, .inl (cL, 1, .inr (.inl f)))] ++ wPL cI cB cO A r.2.2 : va_W)[0]? = some (ao, .inl (cL, 1, .inr (.inl f)))) rfl (by unfold vp_in; decide) ?_
    refine J_ws (ws2 := [(ao, .inl (cL, 1, .inr (.inl (vp_updL f 0 r.2.1.toInt64))))] ++ wPL cI cB cO A r.2.2) rfl ?_
    refine J_perm (ws2 := (List.flatten [wPL cI cB cO A r.2.2, [(ao, .inl (cL, 1, .inr (.inl (vp_updL f 0 r.2.1.toInt64))))]])) (perm_out _ _).symm ?_
    refine J_goto (tgt := 21) (pc := 10) C dL_join_10 (by decide) ?_
    refine J_iconst (v := (0 : Int32)) (pc := 21) C dL_join_21 (by decide) ?_
    refine J_widen (k2 := 3) (n2 := 18) (Nat.le_of_ble_eq_true rfl) (Nat.le_of_ble_eq_true rfl) ?_
    exact J_iret (pc := 22) C dL_join_22 hr ⟨rfl, rfl⟩
  · rw [if_neg h0] at hK
    by_cases h0 : r.1 = 4
    · rw [if_pos h0] at hK
      have hK := Option.some.inj hK
      subst hK
      refine ⟨[], [⟨0, 10, 17, 13⟩], ⟨0, 10, 13, 34⟩, "java/lang/IndexOutOfBoundsException", ht, (fun z hz => by cases hz), rfl, Nat.succ_ne_zero _, cl_L_34, (by rw [h0]; exact ca_of C.2.2.2.2.2.2.2.2 (by decide)), fun q => ?_⟩
      refine J_ws (ws2 := (List.flatten [wPL cI cB cO A r.2.2, [(ao, .inl (cL, 1, .inr (.inl f)))]])) (by simp [List.flatten]) ?_
      refine J_astore (lv2 := [(4, .ref q), (0, .ref (A 0 0)), (1, .int x1), (2, .int x2), (3, .ref ao)]) (pc := 13) C dL_join_13 (by decide) rfl ?_
      refine J_iconst (v := (1 : Int32)) (pc := 15) C dL_join_15 (by decide) ?_
      refine J_widen (k2 := 3) (n2 := 18) (Nat.le_of_ble_eq_true rfl) (Nat.le_of_ble_eq_true rfl) ?_
      exact J_iret (pc := 16) C dL_join_16 hr ⟨rfl, rfl⟩
    rw [if_neg h0] at hK
    by_cases h1 : r.1 = 1
    · rw [if_pos h1] at hK
      have hK := Option.some.inj hK
      subst hK
      refine ⟨[⟨0, 10, 13, 34⟩], [], ⟨0, 10, 17, 13⟩, "java/lang/IllegalStateException", ht, (fun z hz => by
          rcases List.mem_cons.mp hz with rfl | hz
          · exact ⟨Nat.succ_ne_zero _, "java/lang/IndexOutOfBoundsException", cl_L_34, (by rw [h1]; exact nc_of C.2.2.2.2.2.2.2.2 (by decide))⟩
          cases hz), rfl, Nat.succ_ne_zero _, cl_L_13, (by rw [h1]; exact ca_of C.2.2.2.2.2.2.2.2 (by decide)), fun q => ?_⟩
      refine J_ws (ws2 := (List.flatten [wPL cI cB cO A r.2.2, [(ao, .inl (cL, 1, .inr (.inl f)))]])) (by simp [List.flatten]) ?_
      refine J_astore (lv2 := [(4, .ref q), (0, .ref (A 0 0)), (1, .int x1), (2, .int x2), (3, .ref ao)]) (pc := 17) C dL_join_17 (by decide) rfl ?_
      refine J_iconst (v := (2 : Int32)) (pc := 19) C dL_join_19 (by decide) ?_
      refine J_widen (k2 := 3) (n2 := 18) (Nat.le_of_ble_eq_true rfl) (Nat.le_of_ble_eq_true rfl) ?_
      exact J_iret (pc := 20) C dL_join_20 hr ⟨rfl, rfl⟩
    rw [if_neg h1] at hK
    cases hK
theorem dL_leave_0 : decode cL_leave 0 = .ok (.aload_n 2, 1) := by decide +kernel
theorem dL_leave_1 : decode cL_leave 1 = .ok (.iconst 0, 1) := by decide +kernel
theorem dL_leave_2 : decode cL_leave 2 = .ok (.aload_n 0, 1) := by decide +kernel
theorem dL_leave_3 : decode cL_leave 3 = .ok (.iload_n 1, 1) := by decide +kernel
theorem dL_leave_4 : decode cL_leave 4 = .ok (.invokevirtual 49, 3) := by decide +kernel
theorem dL_leave_7 : decode cL_leave 7 = .ok (.i2l, 1) := by decide +kernel
theorem dL_leave_8 : decode cL_leave 8 = .ok (.lastore, 1) := by decide +kernel
theorem dL_leave_9 : decode cL_leave 9 = .ok (.goto 9, 3) := by decide +kernel
theorem dL_leave_12 : decode cL_leave 12 = .ok (.astore_n 3, 1) := by decide +kernel
theorem dL_leave_13 : decode cL_leave 13 = .ok (.iconst 1, 1) := by decide +kernel
theorem dL_leave_14 : decode cL_leave 14 = .ok (.ireturn, 1) := by decide +kernel
theorem dL_leave_15 : decode cL_leave 15 = .ok (.astore_n 3, 1) := by decide +kernel
theorem dL_leave_16 : decode cL_leave 16 = .ok (.iconst 2, 1) := by decide +kernel
theorem dL_leave_17 : decode cL_leave 17 = .ok (.ireturn, 1) := by decide +kernel
theorem dL_leave_18 : decode cL_leave 18 = .ok (.iconst 0, 1) := by decide +kernel
theorem dL_leave_19 : decode cL_leave 19 = .ok (.ireturn, 1) := by decide +kernel
set_option maxHeartbeats 4000000 in
set_option maxRecDepth 100000 in
theorem V_leave (l : Launch) (hl : l.stackTraces = false) (D : va_G) (cI cB cL cO : ClassId) (pf : Nat → Nat) (N : Nat) (A : Nat → Nat → Nat) (ao : Nat) (s : T_PL) (f : Nat → Int64) (x1 : Int32) (o : Int32 × T_PL × (Nat → Int64)) (h : W_leave N s f x1 = some o) : CtH l D [(cI, .int), (cB, .byte), (cL, .long), (cO, .object RX0)] pf yL_leave cL_leave 4 (some FieldType.int) [(0, 9, 12, 34), (0, 9, 15, 13)] { frames := 9, cells := 2, slots := 12, locals := 204 } [.ref (A 0 0), .int x1, .ref ao] (List.flatten [wPL cI cB cO A s, [(ao, .inl (cL, 1, .inr (.inl f)))]]) (is1 (some (.int o.1)) (List.flatten [wPL cI cB cO A o.2.1, [(ao, .inl (cL, 1, .inr (.inl o.2.2)))]])) := by
  refine CtH_of (own := R_lawN) (lv0 := [(0, .ref (A 0 0)), (1, .int x1), (2, .ref ao)]) (by decide) rfl rfl (Nat.le_of_ble_eq_true rfl) ?_
  intro p e s' m args below meth c C hr ht
  obtain ⟨r, hr1, hK⟩ := Option.bind_eq_some_iff.mp h
  refine J_aload_n (pc := 0) C dL_leave_0 2 rfl ?_
  refine J_iconst (v := (0 : Int32)) (pc := 1) C dL_leave_1 (by decide) ?_
  refine J_aload_n (pc := 2) C dL_leave_2 0 rfl ?_
  refine J_iload_n (pc := 3) C dL_leave_3 1 rfl ?_
  refine J_xvH (o9 := r.1) (V := some (.int r.2.1)) (W1 := wPL cI cB cO A r.2.2) (Wc := wPL cI cB cO A s) (pc := 4) (As := [.int x1]) (st := [.int (0 : Int32), .ref ao]) C dL_leave_4 ml_L_49 mi_yX10_leave (Q_leave l hl D cI cB cL cO pf N A s x1 r hr1) [(ao, .inl (cL, 1, .inr (.inl f)))] (by simp [List.flatten]) at_this rfl rfl ⟨(Nat.le_of_ble_eq_true rfl), (Nat.le_of_ble_eq_true rfl)⟩ ⟨(Nat.le_of_ble_eq_true rfl), (Nat.le_of_ble_eq_true rfl)⟩ (Nat.le_of_ble_eq_true rfl) (fun h0 => ?_) (fun h0 => ?_)
  · rw [if_pos h0] at hK
    have hK := Option.some.inj hK
    subst hK
    refine J_ws (ws2 := (List.flatten [wPL cI cB cO A r.2.2, [(ao, .inl (cL, 1, .inr (.inl f)))]])) (by simp [List.flatten]) ?_
    refine J_i2l (pc := 7) C dL_leave_7 ?_
    refine J_perm (ws2 := [(ao, .inl (cL, 1, .inr (.inl f)))] ++ wPL cI cB cO A r.2.2) (perm_out _ _) ?_
    refine J_last (pc := 8) C dL_leave_8 0 2 (rfl : ([(ao, .inl (cL, 1, .inr (.inl f)))] ++ wPL cI cB cO A r.2.2 : va_W)[0]? = some (ao, .inl (cL, 1, .inr (.inl f)))) rfl (by unfold vp_in; decide) ?_
    refine J_ws (ws2 := [(ao, .inl (cL, 1, .inr (.inl (vp_updL f 0 r.2.1.toInt64))))] ++ wPL cI cB cO A r.2.2) rfl ?_
    refine J_perm (ws2 := (List.flatten [wPL cI cB cO A r.2.2, [(ao, .inl (cL, 1, .inr (.inl (vp_updL f 0 r.2.1.toInt64))))]])) (perm_out _ _).symm ?_
    refine J_goto (tgt := 18) (pc := 9) C dL_leave_9 (by decide) ?_
    refine J_iconst (v := (0 : Int32)) (pc := 18) C dL_leave_18 (by decide) ?_
    refine J_widen (k2 := 2) (n2 := 12) (Nat.le_of_ble_eq_true rfl) (Nat.le_of_ble_eq_true rfl) ?_
    exact J_iret (pc := 19) C dL_leave_19 hr ⟨rfl, rfl⟩
  · rw [if_neg h0] at hK
    by_cases h0 : r.1 = 4
    · rw [if_pos h0] at hK
      have hK := Option.some.inj hK
      subst hK
      refine ⟨[], [⟨0, 9, 15, 13⟩], ⟨0, 9, 12, 34⟩, "java/lang/IndexOutOfBoundsException", ht, (fun z hz => by cases hz), rfl, Nat.succ_ne_zero _, cl_L_34, (by rw [h0]; exact ca_of C.2.2.2.2.2.2.2.2 (by decide)), fun q => ?_⟩
      refine J_ws (ws2 := (List.flatten [wPL cI cB cO A r.2.2, [(ao, .inl (cL, 1, .inr (.inl f)))]])) (by simp [List.flatten]) ?_
      refine J_astore_n (lv2 := [(3, .ref q), (0, .ref (A 0 0)), (1, .int x1), (2, .ref ao)]) (pc := 12) C dL_leave_12 (by decide) rfl ?_
      refine J_iconst (v := (1 : Int32)) (pc := 13) C dL_leave_13 (by decide) ?_
      refine J_widen (k2 := 2) (n2 := 12) (Nat.le_of_ble_eq_true rfl) (Nat.le_of_ble_eq_true rfl) ?_
      exact J_iret (pc := 14) C dL_leave_14 hr ⟨rfl, rfl⟩
    rw [if_neg h0] at hK
    by_cases h1 : r.1 = 1
    · rw [if_pos h1] at hK
      have hK := Option.some.inj hK
      subst hK
      refine ⟨[⟨0, 9, 12, 34⟩], [], ⟨0, 9, 15, 13⟩, "java/lang/IllegalStateException", ht, (fun z hz => by
          rcases List.mem_cons.mp hz with rfl | hz
          · exact ⟨Nat.succ_ne_zero _, "java/lang/IndexOutOfBoundsException", cl_L_34, (by rw [h1]; exact nc_of C.2.2.2.2.2.2.2.2 (by decide))⟩
          cases hz), rfl, Nat.succ_ne_zero _, cl_L_13, (by rw [h1]; exact ca_of C.2.2.2.2.2.2.2.2 (by decide)), fun q => ?_⟩
      refine J_ws (ws2 := (List.flatten [wPL cI cB cO A r.2.2, [(ao, .inl (cL, 1, .inr (.inl f)))]])) (by simp [List.flatten]) ?_
      refine J_astore_n (lv2 := [(3, .ref q), (0, .ref (A 0 0)), (1, .int x1), (2, .ref ao)]) (pc := 15) C dL_leave_15 (by decide) rfl ?_
      refine J_iconst (v := (2 : Int32)) (pc := 16) C dL_leave_16 (by decide) ?_
      refine J_widen (k2 := 2) (n2 := 12) (Nat.le_of_ble_eq_true rfl) (Nat.le_of_ble_eq_true rfl) ?_
      exact J_iret (pc := 17) C dL_leave_17 hr ⟨rfl, rfl⟩
    rw [if_neg h1] at hK
    cases hK
theorem dL_setShare_0 : decode cL_setShare 0 = .ok (.aload_n 3, 1) := by decide +kernel
theorem dL_setShare_1 : decode cL_setShare 1 = .ok (.iconst 0, 1) := by decide +kernel
theorem dL_setShare_2 : decode cL_setShare 2 = .ok (.aload_n 0, 1) := by decide +kernel
theorem dL_setShare_3 : decode cL_setShare 3 = .ok (.iload_n 1, 1) := by decide +kernel
theorem dL_setShare_4 : decode cL_setShare 4 = .ok (.iload_n 2, 1) := by decide +kernel
theorem dL_setShare_5 : decode cL_setShare 5 = .ok (.invokevirtual 52, 3) := by decide +kernel
theorem dL_setShare_8 : decode cL_setShare 8 = .ok (.i2l, 1) := by decide +kernel
theorem dL_setShare_9 : decode cL_setShare 9 = .ok (.lastore, 1) := by decide +kernel
theorem dL_setShare_10 : decode cL_setShare 10 = .ok (.goto 11, 3) := by decide +kernel
theorem dL_setShare_13 : decode cL_setShare 13 = .ok (.astore 4, 2) := by decide +kernel
theorem dL_setShare_15 : decode cL_setShare 15 = .ok (.iconst 1, 1) := by decide +kernel
theorem dL_setShare_16 : decode cL_setShare 16 = .ok (.ireturn, 1) := by decide +kernel
theorem dL_setShare_17 : decode cL_setShare 17 = .ok (.astore 4, 2) := by decide +kernel
theorem dL_setShare_19 : decode cL_setShare 19 = .ok (.iconst 2, 1) := by decide +kernel
theorem dL_setShare_20 : decode cL_setShare 20 = .ok (.ireturn, 1) := by decide +kernel
theorem dL_setShare_21 : decode cL_setShare 21 = .ok (.iconst 0, 1) := by decide +kernel
theorem dL_setShare_22 : decode cL_setShare 22 = .ok (.ireturn, 1) := by decide +kernel
set_option maxHeartbeats 4000000 in
set_option maxRecDepth 100000 in
theorem V_setShare (l : Launch) (hl : l.stackTraces = false) (D : va_G) (cI cB cL cO : ClassId) (pf : Nat → Nat) (N : Nat) (A : Nat → Nat → Nat) (ao : Nat) (s : T_PL) (f : Nat → Int64) (x1 : Int32) (x2 : Int32) (o : Int32 × T_PL × (Nat → Int64)) (h : W_setShare N s f x1 x2 = some o) : CtH l D [(cI, .int), (cB, .byte), (cL, .long), (cO, .object RX0)] pf yL_setShare cL_setShare 5 (some FieldType.int) [(0, 10, 13, 34), (0, 10, 17, 19)] { frames := 9, cells := 2, slots := 12, locals := 190 } [.ref (A 0 0), .int x1, .int x2, .ref ao] (List.flatten [wPL cI cB cO A s, [(ao, .inl (cL, 1, .inr (.inl f)))]]) (is1 (some (.int o.1)) (List.flatten [wPL cI cB cO A o.2.1, [(ao, .inl (cL, 1, .inr (.inl o.2.2)))]])) := by
  refine CtH_of (own := R_lawN) (lv0 := [(0, .ref (A 0 0)), (1, .int x1), (2, .int x2), (3, .ref ao)]) (by decide) rfl rfl (Nat.le_of_ble_eq_true rfl) ?_
  intro p e s' m args below meth c C hr ht
  obtain ⟨r, hr1, hK⟩ := Option.bind_eq_some_iff.mp h
  refine J_aload_n (pc := 0) C dL_setShare_0 3 rfl ?_
  refine J_iconst (v := (0 : Int32)) (pc := 1) C dL_setShare_1 (by decide) ?_
  refine J_aload_n (pc := 2) C dL_setShare_2 0 rfl ?_
  refine J_iload_n (pc := 3) C dL_setShare_3 1 rfl ?_
  refine J_iload_n (pc := 4) C dL_setShare_4 2 rfl ?_
  refine J_xvH (o9 := r.1) (V := some (.int r.2.1)) (W1 := wPL cI cB cO A r.2.2) (Wc := wPL cI cB cO A s) (pc := 5) (As := [.int x1, .int x2]) (st := [.int (0 : Int32), .ref ao]) C dL_setShare_5 ml_L_52 mi_yX10_setShare (Q_setShare l hl D cI cB cL cO pf N A s x1 x2 r hr1) [(ao, .inl (cL, 1, .inr (.inl f)))] (by simp [List.flatten]) at_this rfl rfl ⟨(Nat.le_of_ble_eq_true rfl), (Nat.le_of_ble_eq_true rfl)⟩ ⟨(Nat.le_of_ble_eq_true rfl), (Nat.le_of_ble_eq_true rfl)⟩ (Nat.le_of_ble_eq_true rfl) (fun h0 => ?_) (fun h0 => ?_)
  · rw [if_pos h0] at hK
    have hK := Option.some.inj hK
    subst hK
    refine J_ws (ws2 := (List.flatten [wPL cI cB cO A r.2.2, [(ao, .inl (cL, 1, .inr (.inl f)))]])) (by simp [List.flatten]) ?_
    refine J_i2l (pc := 8) C dL_setShare_8 ?_
    refine J_perm (ws2 := [(ao, .inl (cL, 1, .inr (.inl f)))] ++ wPL cI cB cO A r.2.2) (perm_out _ _) ?_
    refine J_last (pc := 9) C dL_setShare_9 0 2 (rfl : ([(ao, .inl (cL, 1, .inr (.inl f)))] ++ wPL cI cB cO A r.2.2 : va_W)[0]? = some (ao, .inl (cL, 1, .inr (.inl f)))) rfl (by unfold vp_in; decide) ?_
    refine J_ws (ws2 := [(ao, .inl (cL, 1, .inr (.inl (vp_updL f 0 r.2.1.toInt64))))] ++ wPL cI cB cO A r.2.2) rfl ?_
    refine J_perm (ws2 := (List.flatten [wPL cI cB cO A r.2.2, [(ao, .inl (cL, 1, .inr (.inl (vp_updL f 0 r.2.1.toInt64))))]])) (perm_out _ _).symm ?_
    refine J_goto (tgt := 21) (pc := 10) C dL_setShare_10 (by decide) ?_
    refine J_iconst (v := (0 : Int32)) (pc := 21) C dL_setShare_21 (by decide) ?_
    refine J_widen (k2 := 2) (n2 := 12) (Nat.le_of_ble_eq_true rfl) (Nat.le_of_ble_eq_true rfl) ?_
    exact J_iret (pc := 22) C dL_setShare_22 hr ⟨rfl, rfl⟩
  · rw [if_neg h0] at hK
    by_cases h0 : r.1 = 4
    · rw [if_pos h0] at hK
      have hK := Option.some.inj hK
      subst hK
      refine ⟨[], [⟨0, 10, 17, 19⟩], ⟨0, 10, 13, 34⟩, "java/lang/IndexOutOfBoundsException", ht, (fun z hz => by cases hz), rfl, Nat.succ_ne_zero _, cl_L_34, (by rw [h0]; exact ca_of C.2.2.2.2.2.2.2.2 (by decide)), fun q => ?_⟩
      refine J_ws (ws2 := (List.flatten [wPL cI cB cO A r.2.2, [(ao, .inl (cL, 1, .inr (.inl f)))]])) (by simp [List.flatten]) ?_
      refine J_astore (lv2 := [(4, .ref q), (0, .ref (A 0 0)), (1, .int x1), (2, .int x2), (3, .ref ao)]) (pc := 13) C dL_setShare_13 (by decide) rfl ?_
      refine J_iconst (v := (1 : Int32)) (pc := 15) C dL_setShare_15 (by decide) ?_
      refine J_widen (k2 := 2) (n2 := 12) (Nat.le_of_ble_eq_true rfl) (Nat.le_of_ble_eq_true rfl) ?_
      exact J_iret (pc := 16) C dL_setShare_16 hr ⟨rfl, rfl⟩
    rw [if_neg h0] at hK
    by_cases h1 : r.1 = 2
    · rw [if_pos h1] at hK
      have hK := Option.some.inj hK
      subst hK
      refine ⟨[⟨0, 10, 13, 34⟩], [], ⟨0, 10, 17, 19⟩, "java/lang/IllegalArgumentException", ht, (fun z hz => by
          rcases List.mem_cons.mp hz with rfl | hz
          · exact ⟨Nat.succ_ne_zero _, "java/lang/IndexOutOfBoundsException", cl_L_34, (by rw [h1]; exact nc_of C.2.2.2.2.2.2.2.2 (by decide))⟩
          cases hz), rfl, Nat.succ_ne_zero _, cl_L_19, (by rw [h1]; exact ca_of C.2.2.2.2.2.2.2.2 (by decide)), fun q => ?_⟩
      refine J_ws (ws2 := (List.flatten [wPL cI cB cO A r.2.2, [(ao, .inl (cL, 1, .inr (.inl f)))]])) (by simp [List.flatten]) ?_
      refine J_astore (lv2 := [(4, .ref q), (0, .ref (A 0 0)), (1, .int x1), (2, .int x2), (3, .ref ao)]) (pc := 17) C dL_setShare_17 (by decide) rfl ?_
      refine J_iconst (v := (2 : Int32)) (pc := 19) C dL_setShare_19 (by decide) ?_
      refine J_widen (k2 := 2) (n2 := 12) (Nat.le_of_ble_eq_true rfl) (Nat.le_of_ble_eq_true rfl) ?_
      exact J_iret (pc := 20) C dL_setShare_20 hr ⟨rfl, rfl⟩
    rw [if_neg h1] at hK
    cases hK
theorem dL_advance_0 : decode cL_advance 0 = .ok (.aload_n 2, 1) := by decide +kernel
theorem dL_advance_1 : decode cL_advance 1 = .ok (.iconst 0, 1) := by decide +kernel
theorem dL_advance_2 : decode cL_advance 2 = .ok (.aload_n 0, 1) := by decide +kernel
theorem dL_advance_3 : decode cL_advance 3 = .ok (.iload_n 1, 1) := by decide +kernel
theorem dL_advance_4 : decode cL_advance 4 = .ok (.invokevirtual 55, 3) := by decide +kernel
theorem dL_advance_7 : decode cL_advance 7 = .ok (.i2l, 1) := by decide +kernel
theorem dL_advance_8 : decode cL_advance 8 = .ok (.lastore, 1) := by decide +kernel
theorem dL_advance_9 : decode cL_advance 9 = .ok (.goto 6, 3) := by decide +kernel
theorem dL_advance_12 : decode cL_advance 12 = .ok (.astore_n 3, 1) := by decide +kernel
theorem dL_advance_13 : decode cL_advance 13 = .ok (.iconst 1, 1) := by decide +kernel
theorem dL_advance_14 : decode cL_advance 14 = .ok (.ireturn, 1) := by decide +kernel
theorem dL_advance_15 : decode cL_advance 15 = .ok (.iconst 0, 1) := by decide +kernel
theorem dL_advance_16 : decode cL_advance 16 = .ok (.ireturn, 1) := by decide +kernel
set_option maxHeartbeats 4000000 in
set_option maxRecDepth 100000 in
theorem V_advance (l : Launch) (hl : l.stackTraces = false) (D : va_G) (cI cB cL cO : ClassId) (pf : Nat → Nat) (N : Nat) (A : Nat → Nat → Nat) (ao : Nat) (s : T_PL) (f : Nat → Int64) (x1 : Int32) (o : Int32 × T_PL × (Nat → Int64)) (h : W_advance N s f x1 = some o) : CtH l D [(cI, .int), (cB, .byte), (cL, .long), (cO, .object RX0)] pf yL_advance cL_advance 4 (some FieldType.int) [(0, 9, 12, 19)] { frames := 9, cells := 2, slots := 12, locals := 189 } [.ref (A 0 0), .int x1, .ref ao] (List.flatten [wPL cI cB cO A s, [(ao, .inl (cL, 1, .inr (.inl f)))]]) (is1 (some (.int o.1)) (List.flatten [wPL cI cB cO A o.2.1, [(ao, .inl (cL, 1, .inr (.inl o.2.2)))]])) := by
  refine CtH_of (own := R_lawN) (lv0 := [(0, .ref (A 0 0)), (1, .int x1), (2, .ref ao)]) (by decide) rfl rfl (Nat.le_of_ble_eq_true rfl) ?_
  intro p e s' m args below meth c C hr ht
  obtain ⟨r, hr1, hK⟩ := Option.bind_eq_some_iff.mp h
  refine J_aload_n (pc := 0) C dL_advance_0 2 rfl ?_
  refine J_iconst (v := (0 : Int32)) (pc := 1) C dL_advance_1 (by decide) ?_
  refine J_aload_n (pc := 2) C dL_advance_2 0 rfl ?_
  refine J_iload_n (pc := 3) C dL_advance_3 1 rfl ?_
  refine J_xvH (o9 := r.1) (V := some (.int r.2.1)) (W1 := wPL cI cB cO A r.2.2) (Wc := wPL cI cB cO A s) (pc := 4) (As := [.int x1]) (st := [.int (0 : Int32), .ref ao]) C dL_advance_4 ml_L_55 mi_yX10_advance (Q_advance l hl D cI cB cL cO pf N A s x1 r hr1) [(ao, .inl (cL, 1, .inr (.inl f)))] (by simp [List.flatten]) at_this rfl rfl ⟨(Nat.le_of_ble_eq_true rfl), (Nat.le_of_ble_eq_true rfl)⟩ ⟨(Nat.le_of_ble_eq_true rfl), (Nat.le_of_ble_eq_true rfl)⟩ (Nat.le_of_ble_eq_true rfl) (fun h0 => ?_) (fun h0 => ?_)
  · rw [if_pos h0] at hK
    have hK := Option.some.inj hK
    subst hK
    refine J_ws (ws2 := (List.flatten [wPL cI cB cO A r.2.2, [(ao, .inl (cL, 1, .inr (.inl f)))]])) (by simp [List.flatten]) ?_
    refine J_i2l (pc := 7) C dL_advance_7 ?_
    refine J_perm (ws2 := [(ao, .inl (cL, 1, .inr (.inl f)))] ++ wPL cI cB cO A r.2.2) (perm_out _ _) ?_
    refine J_last (pc := 8) C dL_advance_8 0 2 (rfl : ([(ao, .inl (cL, 1, .inr (.inl f)))] ++ wPL cI cB cO A r.2.2 : va_W)[0]? = some (ao, .inl (cL, 1, .inr (.inl f)))) rfl (by unfold vp_in; decide) ?_
    refine J_ws (ws2 := [(ao, .inl (cL, 1, .inr (.inl (vp_updL f 0 r.2.1.toInt64))))] ++ wPL cI cB cO A r.2.2) rfl ?_
    refine J_perm (ws2 := (List.flatten [wPL cI cB cO A r.2.2, [(ao, .inl (cL, 1, .inr (.inl (vp_updL f 0 r.2.1.toInt64))))]])) (perm_out _ _).symm ?_
    refine J_goto (tgt := 15) (pc := 9) C dL_advance_9 (by decide) ?_
    refine J_iconst (v := (0 : Int32)) (pc := 15) C dL_advance_15 (by decide) ?_
    refine J_widen (k2 := 2) (n2 := 12) (Nat.le_of_ble_eq_true rfl) (Nat.le_of_ble_eq_true rfl) ?_
    exact J_iret (pc := 16) C dL_advance_16 hr ⟨rfl, rfl⟩
  · rw [if_neg h0] at hK
    by_cases h0 : r.1 = 2
    · rw [if_pos h0] at hK
      have hK := Option.some.inj hK
      subst hK
      refine ⟨[], [], ⟨0, 9, 12, 19⟩, "java/lang/IllegalArgumentException", ht, (fun z hz => by cases hz), rfl, Nat.succ_ne_zero _, cl_L_19, (by rw [h0]; exact ca_of C.2.2.2.2.2.2.2.2 (by decide)), fun q => ?_⟩
      refine J_ws (ws2 := (List.flatten [wPL cI cB cO A r.2.2, [(ao, .inl (cL, 1, .inr (.inl f)))]])) (by simp [List.flatten]) ?_
      refine J_astore_n (lv2 := [(3, .ref q), (0, .ref (A 0 0)), (1, .int x1), (2, .ref ao)]) (pc := 12) C dL_advance_12 (by decide) rfl ?_
      refine J_iconst (v := (1 : Int32)) (pc := 13) C dL_advance_13 (by decide) ?_
      refine J_widen (k2 := 2) (n2 := 12) (Nat.le_of_ble_eq_true rfl) (Nat.le_of_ble_eq_true rfl) ?_
      exact J_iret (pc := 14) C dL_advance_14 hr ⟨rfl, rfl⟩
    rw [if_neg h0] at hK
    cases hK
theorem dL_setup_0 : decode cL_setup 0 = .ok (.aload_n 2, 1) := by decide +kernel
theorem dL_setup_1 : decode cL_setup 1 = .ok (.iconst 0, 1) := by decide +kernel
theorem dL_setup_2 : decode cL_setup 2 = .ok (.aload_n 0, 1) := by decide +kernel
theorem dL_setup_3 : decode cL_setup 3 = .ok (.iload_n 1, 1) := by decide +kernel
theorem dL_setup_4 : decode cL_setup 4 = .ok (.invokevirtual 58, 3) := by decide +kernel
theorem dL_setup_7 : decode cL_setup 7 = .ok (.i2l, 1) := by decide +kernel
theorem dL_setup_8 : decode cL_setup 8 = .ok (.lastore, 1) := by decide +kernel
theorem dL_setup_9 : decode cL_setup 9 = .ok (.goto 6, 3) := by decide +kernel
theorem dL_setup_12 : decode cL_setup 12 = .ok (.astore_n 3, 1) := by decide +kernel
theorem dL_setup_13 : decode cL_setup 13 = .ok (.iconst 1, 1) := by decide +kernel
theorem dL_setup_14 : decode cL_setup 14 = .ok (.ireturn, 1) := by decide +kernel
theorem dL_setup_15 : decode cL_setup 15 = .ok (.iconst 0, 1) := by decide +kernel
theorem dL_setup_16 : decode cL_setup 16 = .ok (.ireturn, 1) := by decide +kernel
set_option maxHeartbeats 4000000 in
set_option maxRecDepth 100000 in
theorem V_setup (l : Launch) (hl : l.stackTraces = false) (D : va_G) (cI cB cL cO : ClassId) (pf : Nat → Nat) (N : Nat) (A : Nat → Nat → Nat) (ao : Nat) (s : T_PL) (f : Nat → Int64) (x1 : Int32) (o : Int32 × T_PL × (Nat → Int64)) (h : W_setup N s f x1 = some o) : CtH l D [(cI, .int), (cB, .byte), (cL, .long), (cO, .object RX0)] pf yL_setup cL_setup 4 (some FieldType.int) [(0, 9, 12, 19)] { frames := 9, cells := 1, slots := 6, locals := 173 } [.ref (A 0 0), .int x1, .ref ao] (List.flatten [wPL cI cB cO A s, [(ao, .inl (cL, 1, .inr (.inl f)))]]) (is1 (some (.int o.1)) (List.flatten [wPL cI cB cO A o.2.1, [(ao, .inl (cL, 1, .inr (.inl o.2.2)))]])) := by
  refine CtH_of (own := R_lawN) (lv0 := [(0, .ref (A 0 0)), (1, .int x1), (2, .ref ao)]) (by decide) rfl rfl (Nat.le_of_ble_eq_true rfl) ?_
  intro p e s' m args below meth c C hr ht
  obtain ⟨r, hr1, hK⟩ := Option.bind_eq_some_iff.mp h
  refine J_aload_n (pc := 0) C dL_setup_0 2 rfl ?_
  refine J_iconst (v := (0 : Int32)) (pc := 1) C dL_setup_1 (by decide) ?_
  refine J_aload_n (pc := 2) C dL_setup_2 0 rfl ?_
  refine J_iload_n (pc := 3) C dL_setup_3 1 rfl ?_
  refine J_xvH (o9 := r.1) (V := some (.int r.2.1)) (W1 := wPL cI cB cO A r.2.2) (Wc := wPL cI cB cO A s) (pc := 4) (As := [.int x1]) (st := [.int (0 : Int32), .ref ao]) C dL_setup_4 ml_L_58 mi_yX10_setup (Q_setup l hl D cI cB cL cO pf N A s x1 r hr1) [(ao, .inl (cL, 1, .inr (.inl f)))] (by simp [List.flatten]) at_this rfl rfl ⟨(Nat.le_of_ble_eq_true rfl), (Nat.le_of_ble_eq_true rfl)⟩ ⟨(Nat.le_of_ble_eq_true rfl), (Nat.le_of_ble_eq_true rfl)⟩ (Nat.le_of_ble_eq_true rfl) (fun h0 => ?_) (fun h0 => ?_)
  · rw [if_pos h0] at hK
    have hK := Option.some.inj hK
    subst hK
    refine J_ws (ws2 := (List.flatten [wPL cI cB cO A r.2.2, [(ao, .inl (cL, 1, .inr (.inl f)))]])) (by simp [List.flatten]) ?_
    refine J_i2l (pc := 7) C dL_setup_7 ?_
    refine J_perm (ws2 := [(ao, .inl (cL, 1, .inr (.inl f)))] ++ wPL cI cB cO A r.2.2) (perm_out _ _) ?_
    refine J_last (pc := 8) C dL_setup_8 0 2 (rfl : ([(ao, .inl (cL, 1, .inr (.inl f)))] ++ wPL cI cB cO A r.2.2 : va_W)[0]? = some (ao, .inl (cL, 1, .inr (.inl f)))) rfl (by unfold vp_in; decide) ?_
    refine J_ws (ws2 := [(ao, .inl (cL, 1, .inr (.inl (vp_updL f 0 r.2.1.toInt64))))] ++ wPL cI cB cO A r.2.2) rfl ?_
    refine J_perm (ws2 := (List.flatten [wPL cI cB cO A r.2.2, [(ao, .inl (cL, 1, .inr (.inl (vp_updL f 0 r.2.1.toInt64))))]])) (perm_out _ _).symm ?_
    refine J_goto (tgt := 15) (pc := 9) C dL_setup_9 (by decide) ?_
    refine J_iconst (v := (0 : Int32)) (pc := 15) C dL_setup_15 (by decide) ?_
    refine J_widen (k2 := 1) (n2 := 6) (Nat.le_of_ble_eq_true rfl) (Nat.le_of_ble_eq_true rfl) ?_
    exact J_iret (pc := 16) C dL_setup_16 hr ⟨rfl, rfl⟩
  · rw [if_neg h0] at hK
    by_cases h0 : r.1 = 2
    · rw [if_pos h0] at hK
      have hK := Option.some.inj hK
      subst hK
      refine ⟨[], [], ⟨0, 9, 12, 19⟩, "java/lang/IllegalArgumentException", ht, (fun z hz => by cases hz), rfl, Nat.succ_ne_zero _, cl_L_19, (by rw [h0]; exact ca_of C.2.2.2.2.2.2.2.2 (by decide)), fun q => ?_⟩
      refine J_ws (ws2 := (List.flatten [wPL cI cB cO A r.2.2, [(ao, .inl (cL, 1, .inr (.inl f)))]])) (by simp [List.flatten]) ?_
      refine J_astore_n (lv2 := [(3, .ref q), (0, .ref (A 0 0)), (1, .int x1), (2, .ref ao)]) (pc := 12) C dL_setup_12 (by decide) rfl ?_
      refine J_iconst (v := (1 : Int32)) (pc := 13) C dL_setup_13 (by decide) ?_
      refine J_widen (k2 := 1) (n2 := 6) (Nat.le_of_ble_eq_true rfl) (Nat.le_of_ble_eq_true rfl) ?_
      exact J_iret (pc := 14) C dL_setup_14 hr ⟨rfl, rfl⟩
    rw [if_neg h0] at hK
    cases hK
theorem dL_threshold_0 : decode cL_threshold 0 = .ok (.aload_n 2, 1) := by decide +kernel
theorem dL_threshold_1 : decode cL_threshold 1 = .ok (.iconst 0, 1) := by decide +kernel
theorem dL_threshold_2 : decode cL_threshold 2 = .ok (.aload_n 0, 1) := by decide +kernel
theorem dL_threshold_3 : decode cL_threshold 3 = .ok (.iload_n 1, 1) := by decide +kernel
theorem dL_threshold_4 : decode cL_threshold 4 = .ok (.invokevirtual 61, 3) := by decide +kernel
theorem dL_threshold_7 : decode cL_threshold 7 = .ok (.i2l, 1) := by decide +kernel
theorem dL_threshold_8 : decode cL_threshold 8 = .ok (.lastore, 1) := by decide +kernel
theorem dL_threshold_9 : decode cL_threshold 9 = .ok (.goto 6, 3) := by decide +kernel
theorem dL_threshold_12 : decode cL_threshold 12 = .ok (.astore_n 3, 1) := by decide +kernel
theorem dL_threshold_13 : decode cL_threshold 13 = .ok (.iconst 1, 1) := by decide +kernel
theorem dL_threshold_14 : decode cL_threshold 14 = .ok (.ireturn, 1) := by decide +kernel
theorem dL_threshold_15 : decode cL_threshold 15 = .ok (.iconst 0, 1) := by decide +kernel
theorem dL_threshold_16 : decode cL_threshold 16 = .ok (.ireturn, 1) := by decide +kernel
set_option maxHeartbeats 4000000 in
set_option maxRecDepth 100000 in
theorem V_threshold (l : Launch) (hl : l.stackTraces = false) (D : va_G) (cI cB cL cO : ClassId) (pf : Nat → Nat) (N : Nat) (A : Nat → Nat → Nat) (ao : Nat) (s : T_PL) (f : Nat → Int64) (x1 : Int32) (o : Int32 × T_PL × (Nat → Int64)) (h : W_threshold N s f x1 = some o) : CtH l D [(cI, .int), (cB, .byte), (cL, .long), (cO, .object RX0)] pf yL_threshold cL_threshold 4 (some FieldType.int) [(0, 9, 12, 34)] { frames := 8, cells := 1, slots := 6, locals := 151 } [.ref (A 0 0), .int x1, .ref ao] (List.flatten [wPL cI cB cO A s, [(ao, .inl (cL, 1, .inr (.inl f)))]]) (is1 (some (.int o.1)) (List.flatten [wPL cI cB cO A o.2.1, [(ao, .inl (cL, 1, .inr (.inl o.2.2)))]])) := by
  refine CtH_of (own := R_lawN) (lv0 := [(0, .ref (A 0 0)), (1, .int x1), (2, .ref ao)]) (by decide) rfl rfl (Nat.le_of_ble_eq_true rfl) ?_
  intro p e s' m args below meth c C hr ht
  obtain ⟨r, hr1, hK⟩ := Option.bind_eq_some_iff.mp h
  refine J_aload_n (pc := 0) C dL_threshold_0 2 rfl ?_
  refine J_iconst (v := (0 : Int32)) (pc := 1) C dL_threshold_1 (by decide) ?_
  refine J_aload_n (pc := 2) C dL_threshold_2 0 rfl ?_
  refine J_iload_n (pc := 3) C dL_threshold_3 1 rfl ?_
  refine J_xvH (o9 := r.1) (V := some (.int r.2.1)) (W1 := wPL cI cB cO A r.2.2) (Wc := wPL cI cB cO A s) (pc := 4) (As := [.int x1]) (st := [.int (0 : Int32), .ref ao]) C dL_threshold_4 ml_L_61 mi_yX10_threshold (Q_threshold l hl D cI cB cL cO pf N A s x1 r hr1) [(ao, .inl (cL, 1, .inr (.inl f)))] (by simp [List.flatten]) at_this rfl rfl ⟨(Nat.le_of_ble_eq_true rfl), (Nat.le_of_ble_eq_true rfl)⟩ ⟨(Nat.le_of_ble_eq_true rfl), (Nat.le_of_ble_eq_true rfl)⟩ (Nat.le_of_ble_eq_true rfl) (fun h0 => ?_) (fun h0 => ?_)
  · rw [if_pos h0] at hK
    have hK := Option.some.inj hK
    subst hK
    refine J_ws (ws2 := (List.flatten [wPL cI cB cO A r.2.2, [(ao, .inl (cL, 1, .inr (.inl f)))]])) (by simp [List.flatten]) ?_
    refine J_i2l (pc := 7) C dL_threshold_7 ?_
    refine J_perm (ws2 := [(ao, .inl (cL, 1, .inr (.inl f)))] ++ wPL cI cB cO A r.2.2) (perm_out _ _) ?_
    refine J_last (pc := 8) C dL_threshold_8 0 2 (rfl : ([(ao, .inl (cL, 1, .inr (.inl f)))] ++ wPL cI cB cO A r.2.2 : va_W)[0]? = some (ao, .inl (cL, 1, .inr (.inl f)))) rfl (by unfold vp_in; decide) ?_
    refine J_ws (ws2 := [(ao, .inl (cL, 1, .inr (.inl (vp_updL f 0 r.2.1.toInt64))))] ++ wPL cI cB cO A r.2.2) rfl ?_
    refine J_perm (ws2 := (List.flatten [wPL cI cB cO A r.2.2, [(ao, .inl (cL, 1, .inr (.inl (vp_updL f 0 r.2.1.toInt64))))]])) (perm_out _ _).symm ?_
    refine J_goto (tgt := 15) (pc := 9) C dL_threshold_9 (by decide) ?_
    refine J_iconst (v := (0 : Int32)) (pc := 15) C dL_threshold_15 (by decide) ?_
    refine J_widen (k2 := 1) (n2 := 6) (Nat.le_of_ble_eq_true rfl) (Nat.le_of_ble_eq_true rfl) ?_
    exact J_iret (pc := 16) C dL_threshold_16 hr ⟨rfl, rfl⟩
  · rw [if_neg h0] at hK
    by_cases h0 : r.1 = 4
    · rw [if_pos h0] at hK
      have hK := Option.some.inj hK
      subst hK
      refine ⟨[], [], ⟨0, 9, 12, 34⟩, "java/lang/IndexOutOfBoundsException", ht, (fun z hz => by cases hz), rfl, Nat.succ_ne_zero _, cl_L_34, (by rw [h0]; exact ca_of C.2.2.2.2.2.2.2.2 (by decide)), fun q => ?_⟩
      refine J_ws (ws2 := (List.flatten [wPL cI cB cO A r.2.2, [(ao, .inl (cL, 1, .inr (.inl f)))]])) (by simp [List.flatten]) ?_
      refine J_astore_n (lv2 := [(3, .ref q), (0, .ref (A 0 0)), (1, .int x1), (2, .ref ao)]) (pc := 12) C dL_threshold_12 (by decide) rfl ?_
      refine J_iconst (v := (1 : Int32)) (pc := 13) C dL_threshold_13 (by decide) ?_
      refine J_widen (k2 := 1) (n2 := 6) (Nat.le_of_ble_eq_true rfl) (Nat.le_of_ble_eq_true rfl) ?_
      exact J_iret (pc := 14) C dL_threshold_14 hr ⟨rfl, rfl⟩
    rw [if_neg h0] at hK
    cases hK
theorem dL_extras_0 : decode cL_extras 0 = .ok (.aload_n 3, 1) := by decide +kernel
theorem dL_extras_1 : decode cL_extras 1 = .ok (.iconst 0, 1) := by decide +kernel
theorem dL_extras_2 : decode cL_extras 2 = .ok (.aload_n 0, 1) := by decide +kernel
theorem dL_extras_3 : decode cL_extras 3 = .ok (.iload_n 1, 1) := by decide +kernel
theorem dL_extras_4 : decode cL_extras 4 = .ok (.iload_n 2, 1) := by decide +kernel
theorem dL_extras_5 : decode cL_extras 5 = .ok (.invokevirtual 64, 3) := by decide +kernel
theorem dL_extras_8 : decode cL_extras 8 = .ok (.i2l, 1) := by decide +kernel
theorem dL_extras_9 : decode cL_extras 9 = .ok (.lastore, 1) := by decide +kernel
theorem dL_extras_10 : decode cL_extras 10 = .ok (.goto 11, 3) := by decide +kernel
theorem dL_extras_13 : decode cL_extras 13 = .ok (.astore 4, 2) := by decide +kernel
theorem dL_extras_15 : decode cL_extras 15 = .ok (.iconst 1, 1) := by decide +kernel
theorem dL_extras_16 : decode cL_extras 16 = .ok (.ireturn, 1) := by decide +kernel
theorem dL_extras_17 : decode cL_extras 17 = .ok (.astore 4, 2) := by decide +kernel
theorem dL_extras_19 : decode cL_extras 19 = .ok (.iconst 2, 1) := by decide +kernel
theorem dL_extras_20 : decode cL_extras 20 = .ok (.ireturn, 1) := by decide +kernel
theorem dL_extras_21 : decode cL_extras 21 = .ok (.iconst 0, 1) := by decide +kernel
theorem dL_extras_22 : decode cL_extras 22 = .ok (.ireturn, 1) := by decide +kernel
set_option maxHeartbeats 4000000 in
set_option maxRecDepth 100000 in
theorem V_extras (l : Launch) (hl : l.stackTraces = false) (D : va_G) (cI cB cL cO : ClassId) (pf : Nat → Nat) (N : Nat) (A : Nat → Nat → Nat) (ao : Nat) (s : T_PL) (f : Nat → Int64) (x1 : Int32) (x2 : Int32) (o : Int32 × T_PL × (Nat → Int64)) (h : W_extras N s f x1 x2 = some o) : CtH l D [(cI, .int), (cB, .byte), (cL, .long), (cO, .object RX0)] pf yL_extras cL_extras 5 (some FieldType.int) [(0, 10, 13, 34), (0, 10, 17, 19)] { frames := 9, cells := 2, slots := 12, locals := 174 } [.ref (A 0 0), .int x1, .int x2, .ref ao] (List.flatten [wPL cI cB cO A s, [(ao, .inl (cL, 1, .inr (.inl f)))]]) (is1 (some (.int o.1)) (List.flatten [wPL cI cB cO A o.2.1, [(ao, .inl (cL, 1, .inr (.inl o.2.2)))]])) := by
  refine CtH_of (own := R_lawN) (lv0 := [(0, .ref (A 0 0)), (1, .int x1), (2, .int x2), (3, .ref ao)]) (by decide) rfl rfl (Nat.le_of_ble_eq_true rfl) ?_
  intro p e s' m args below meth c C hr ht
  obtain ⟨r, hr1, hK⟩ := Option.bind_eq_some_iff.mp h
  refine J_aload_n (pc := 0) C dL_extras_0 3 rfl ?_
  refine J_iconst (v := (0 : Int32)) (pc := 1) C dL_extras_1 (by decide) ?_
  refine J_aload_n (pc := 2) C dL_extras_2 0 rfl ?_
  refine J_iload_n (pc := 3) C dL_extras_3 1 rfl ?_
  refine J_iload_n (pc := 4) C dL_extras_4 2 rfl ?_
  refine J_xvH (o9 := r.1) (V := some (.int r.2.1)) (W1 := wPL cI cB cO A r.2.2) (Wc := wPL cI cB cO A s) (pc := 5) (As := [.int x1, .int x2]) (st := [.int (0 : Int32), .ref ao]) C dL_extras_5 ml_L_64 mi_yX10_extras (Q_extras l hl D cI cB cL cO pf N A s x1 x2 r hr1) [(ao, .inl (cL, 1, .inr (.inl f)))] (by simp [List.flatten]) at_this rfl rfl ⟨(Nat.le_of_ble_eq_true rfl), (Nat.le_of_ble_eq_true rfl)⟩ ⟨(Nat.le_of_ble_eq_true rfl), (Nat.le_of_ble_eq_true rfl)⟩ (Nat.le_of_ble_eq_true rfl) (fun h0 => ?_) (fun h0 => ?_)
  · rw [if_pos h0] at hK
    have hK := Option.some.inj hK
    subst hK
    refine J_ws (ws2 := (List.flatten [wPL cI cB cO A r.2.2, [(ao, .inl (cL, 1, .inr (.inl f)))]])) (by simp [List.flatten]) ?_
    refine J_i2l (pc := 8) C dL_extras_8 ?_
    refine J_perm (ws2 := [(ao, .inl (cL, 1, .inr (.inl f)))] ++ wPL cI cB cO A r.2.2) (perm_out _ _) ?_
    refine J_last (pc := 9) C dL_extras_9 0 2 (rfl : ([(ao, .inl (cL, 1, .inr (.inl f)))] ++ wPL cI cB cO A r.2.2 : va_W)[0]? = some (ao, .inl (cL, 1, .inr (.inl f)))) rfl (by unfold vp_in; decide) ?_
    refine J_ws (ws2 := [(ao, .inl (cL, 1, .inr (.inl (vp_updL f 0 r.2.1.toInt64))))] ++ wPL cI cB cO A r.2.2) rfl ?_
    refine J_perm (ws2 := (List.flatten [wPL cI cB cO A r.2.2, [(ao, .inl (cL, 1, .inr (.inl (vp_updL f 0 r.2.1.toInt64))))]])) (perm_out _ _).symm ?_
    refine J_goto (tgt := 21) (pc := 10) C dL_extras_10 (by decide) ?_
    refine J_iconst (v := (0 : Int32)) (pc := 21) C dL_extras_21 (by decide) ?_
    refine J_widen (k2 := 2) (n2 := 12) (Nat.le_of_ble_eq_true rfl) (Nat.le_of_ble_eq_true rfl) ?_
    exact J_iret (pc := 22) C dL_extras_22 hr ⟨rfl, rfl⟩
  · rw [if_neg h0] at hK
    by_cases h0 : r.1 = 4
    · rw [if_pos h0] at hK
      have hK := Option.some.inj hK
      subst hK
      refine ⟨[], [⟨0, 10, 17, 19⟩], ⟨0, 10, 13, 34⟩, "java/lang/IndexOutOfBoundsException", ht, (fun z hz => by cases hz), rfl, Nat.succ_ne_zero _, cl_L_34, (by rw [h0]; exact ca_of C.2.2.2.2.2.2.2.2 (by decide)), fun q => ?_⟩
      refine J_ws (ws2 := (List.flatten [wPL cI cB cO A r.2.2, [(ao, .inl (cL, 1, .inr (.inl f)))]])) (by simp [List.flatten]) ?_
      refine J_astore (lv2 := [(4, .ref q), (0, .ref (A 0 0)), (1, .int x1), (2, .int x2), (3, .ref ao)]) (pc := 13) C dL_extras_13 (by decide) rfl ?_
      refine J_iconst (v := (1 : Int32)) (pc := 15) C dL_extras_15 (by decide) ?_
      refine J_widen (k2 := 2) (n2 := 12) (Nat.le_of_ble_eq_true rfl) (Nat.le_of_ble_eq_true rfl) ?_
      exact J_iret (pc := 16) C dL_extras_16 hr ⟨rfl, rfl⟩
    rw [if_neg h0] at hK
    by_cases h1 : r.1 = 2
    · rw [if_pos h1] at hK
      have hK := Option.some.inj hK
      subst hK
      refine ⟨[⟨0, 10, 13, 34⟩], [], ⟨0, 10, 17, 19⟩, "java/lang/IllegalArgumentException", ht, (fun z hz => by
          rcases List.mem_cons.mp hz with rfl | hz
          · exact ⟨Nat.succ_ne_zero _, "java/lang/IndexOutOfBoundsException", cl_L_34, (by rw [h1]; exact nc_of C.2.2.2.2.2.2.2.2 (by decide))⟩
          cases hz), rfl, Nat.succ_ne_zero _, cl_L_19, (by rw [h1]; exact ca_of C.2.2.2.2.2.2.2.2 (by decide)), fun q => ?_⟩
      refine J_ws (ws2 := (List.flatten [wPL cI cB cO A r.2.2, [(ao, .inl (cL, 1, .inr (.inl f)))]])) (by simp [List.flatten]) ?_
      refine J_astore (lv2 := [(4, .ref q), (0, .ref (A 0 0)), (1, .int x1), (2, .int x2), (3, .ref ao)]) (pc := 17) C dL_extras_17 (by decide) rfl ?_
      refine J_iconst (v := (2 : Int32)) (pc := 19) C dL_extras_19 (by decide) ?_
      refine J_widen (k2 := 2) (n2 := 12) (Nat.le_of_ble_eq_true rfl) (Nat.le_of_ble_eq_true rfl) ?_
      exact J_iret (pc := 20) C dL_extras_20 hr ⟨rfl, rfl⟩
    rw [if_neg h1] at hK
    cases hK
theorem dL_balance_0 : decode cL_balance 0 = .ok (.aload_n 2, 1) := by decide +kernel
theorem dL_balance_1 : decode cL_balance 1 = .ok (.iconst 0, 1) := by decide +kernel
theorem dL_balance_2 : decode cL_balance 2 = .ok (.aload_n 0, 1) := by decide +kernel
theorem dL_balance_3 : decode cL_balance 3 = .ok (.iload_n 1, 1) := by decide +kernel
theorem dL_balance_4 : decode cL_balance 4 = .ok (.invokevirtual 67, 3) := by decide +kernel
theorem dL_balance_7 : decode cL_balance 7 = .ok (.i2l, 1) := by decide +kernel
theorem dL_balance_8 : decode cL_balance 8 = .ok (.lastore, 1) := by decide +kernel
theorem dL_balance_9 : decode cL_balance 9 = .ok (.goto 6, 3) := by decide +kernel
theorem dL_balance_12 : decode cL_balance 12 = .ok (.astore_n 3, 1) := by decide +kernel
theorem dL_balance_13 : decode cL_balance 13 = .ok (.iconst 1, 1) := by decide +kernel
theorem dL_balance_14 : decode cL_balance 14 = .ok (.ireturn, 1) := by decide +kernel
theorem dL_balance_15 : decode cL_balance 15 = .ok (.iconst 0, 1) := by decide +kernel
theorem dL_balance_16 : decode cL_balance 16 = .ok (.ireturn, 1) := by decide +kernel
set_option maxHeartbeats 4000000 in
set_option maxRecDepth 100000 in
theorem V_balance (l : Launch) (hl : l.stackTraces = false) (D : va_G) (cI cB cL cO : ClassId) (pf : Nat → Nat) (N : Nat) (A : Nat → Nat → Nat) (ao : Nat) (s : T_PL) (f : Nat → Int64) (x1 : Int32) (o : Int32 × T_PL × (Nat → Int64)) (h : W_balance N s f x1 = some o) : CtH l D [(cI, .int), (cB, .byte), (cL, .long), (cO, .object RX0)] pf yL_balance cL_balance 4 (some FieldType.int) [(0, 9, 12, 34)] { frames := 9, cells := 1, slots := 6, locals := 172 } [.ref (A 0 0), .int x1, .ref ao] (List.flatten [wPL cI cB cO A s, [(ao, .inl (cL, 1, .inr (.inl f)))]]) (is1 (some (.int o.1)) (List.flatten [wPL cI cB cO A o.2.1, [(ao, .inl (cL, 1, .inr (.inl o.2.2)))]])) := by
  refine CtH_of (own := R_lawN) (lv0 := [(0, .ref (A 0 0)), (1, .int x1), (2, .ref ao)]) (by decide) rfl rfl (Nat.le_of_ble_eq_true rfl) ?_
  intro p e s' m args below meth c C hr ht
  obtain ⟨r, hr1, hK⟩ := Option.bind_eq_some_iff.mp h
  refine J_aload_n (pc := 0) C dL_balance_0 2 rfl ?_
  refine J_iconst (v := (0 : Int32)) (pc := 1) C dL_balance_1 (by decide) ?_
  refine J_aload_n (pc := 2) C dL_balance_2 0 rfl ?_
  refine J_iload_n (pc := 3) C dL_balance_3 1 rfl ?_
  refine J_xvH (o9 := r.1) (V := some (.int r.2.1)) (W1 := wPL cI cB cO A r.2.2) (Wc := wPL cI cB cO A s) (pc := 4) (As := [.int x1]) (st := [.int (0 : Int32), .ref ao]) C dL_balance_4 ml_L_67 mi_yX10_balance (Q_balance l hl D cI cB cL cO pf N A s x1 r hr1) [(ao, .inl (cL, 1, .inr (.inl f)))] (by simp [List.flatten]) at_this rfl rfl ⟨(Nat.le_of_ble_eq_true rfl), (Nat.le_of_ble_eq_true rfl)⟩ ⟨(Nat.le_of_ble_eq_true rfl), (Nat.le_of_ble_eq_true rfl)⟩ (Nat.le_of_ble_eq_true rfl) (fun h0 => ?_) (fun h0 => ?_)
  · rw [if_pos h0] at hK
    have hK := Option.some.inj hK
    subst hK
    refine J_ws (ws2 := (List.flatten [wPL cI cB cO A r.2.2, [(ao, .inl (cL, 1, .inr (.inl f)))]])) (by simp [List.flatten]) ?_
    refine J_i2l (pc := 7) C dL_balance_7 ?_
    refine J_perm (ws2 := [(ao, .inl (cL, 1, .inr (.inl f)))] ++ wPL cI cB cO A r.2.2) (perm_out _ _) ?_
    refine J_last (pc := 8) C dL_balance_8 0 2 (rfl : ([(ao, .inl (cL, 1, .inr (.inl f)))] ++ wPL cI cB cO A r.2.2 : va_W)[0]? = some (ao, .inl (cL, 1, .inr (.inl f)))) rfl (by unfold vp_in; decide) ?_
    refine J_ws (ws2 := [(ao, .inl (cL, 1, .inr (.inl (vp_updL f 0 r.2.1.toInt64))))] ++ wPL cI cB cO A r.2.2) rfl ?_
    refine J_perm (ws2 := (List.flatten [wPL cI cB cO A r.2.2, [(ao, .inl (cL, 1, .inr (.inl (vp_updL f 0 r.2.1.toInt64))))]])) (perm_out _ _).symm ?_
    refine J_goto (tgt := 15) (pc := 9) C dL_balance_9 (by decide) ?_
    refine J_iconst (v := (0 : Int32)) (pc := 15) C dL_balance_15 (by decide) ?_
    refine J_widen (k2 := 1) (n2 := 6) (Nat.le_of_ble_eq_true rfl) (Nat.le_of_ble_eq_true rfl) ?_
    exact J_iret (pc := 16) C dL_balance_16 hr ⟨rfl, rfl⟩
  · rw [if_neg h0] at hK
    by_cases h0 : r.1 = 4
    · rw [if_pos h0] at hK
      have hK := Option.some.inj hK
      subst hK
      refine ⟨[], [], ⟨0, 9, 12, 34⟩, "java/lang/IndexOutOfBoundsException", ht, (fun z hz => by cases hz), rfl, Nat.succ_ne_zero _, cl_L_34, (by rw [h0]; exact ca_of C.2.2.2.2.2.2.2.2 (by decide)), fun q => ?_⟩
      refine J_ws (ws2 := (List.flatten [wPL cI cB cO A r.2.2, [(ao, .inl (cL, 1, .inr (.inl f)))]])) (by simp [List.flatten]) ?_
      refine J_astore_n (lv2 := [(3, .ref q), (0, .ref (A 0 0)), (1, .int x1), (2, .ref ao)]) (pc := 12) C dL_balance_12 (by decide) rfl ?_
      refine J_iconst (v := (1 : Int32)) (pc := 13) C dL_balance_13 (by decide) ?_
      refine J_widen (k2 := 1) (n2 := 6) (Nat.le_of_ble_eq_true rfl) (Nat.le_of_ble_eq_true rfl) ?_
      exact J_iret (pc := 14) C dL_balance_14 hr ⟨rfl, rfl⟩
    rw [if_neg h0] at hK
    cases hK
theorem dL_debt_0 : decode cL_debt 0 = .ok (.aload_n 2, 1) := by decide +kernel
theorem dL_debt_1 : decode cL_debt 1 = .ok (.iconst 0, 1) := by decide +kernel
theorem dL_debt_2 : decode cL_debt 2 = .ok (.aload_n 0, 1) := by decide +kernel
theorem dL_debt_3 : decode cL_debt 3 = .ok (.iload_n 1, 1) := by decide +kernel
theorem dL_debt_4 : decode cL_debt 4 = .ok (.invokevirtual 70, 3) := by decide +kernel
theorem dL_debt_7 : decode cL_debt 7 = .ok (.i2l, 1) := by decide +kernel
theorem dL_debt_8 : decode cL_debt 8 = .ok (.lastore, 1) := by decide +kernel
theorem dL_debt_9 : decode cL_debt 9 = .ok (.goto 6, 3) := by decide +kernel
theorem dL_debt_12 : decode cL_debt 12 = .ok (.astore_n 3, 1) := by decide +kernel
theorem dL_debt_13 : decode cL_debt 13 = .ok (.iconst 1, 1) := by decide +kernel
theorem dL_debt_14 : decode cL_debt 14 = .ok (.ireturn, 1) := by decide +kernel
theorem dL_debt_15 : decode cL_debt 15 = .ok (.iconst 0, 1) := by decide +kernel
theorem dL_debt_16 : decode cL_debt 16 = .ok (.ireturn, 1) := by decide +kernel
set_option maxHeartbeats 4000000 in
set_option maxRecDepth 100000 in
theorem V_debt (l : Launch) (hl : l.stackTraces = false) (D : va_G) (cI cB cL cO : ClassId) (pf : Nat → Nat) (N : Nat) (A : Nat → Nat → Nat) (ao : Nat) (s : T_PL) (f : Nat → Int64) (x1 : Int32) (o : Int32 × T_PL × (Nat → Int64)) (h : W_debt N s f x1 = some o) : CtH l D [(cI, .int), (cB, .byte), (cL, .long), (cO, .object RX0)] pf yL_debt cL_debt 4 (some FieldType.int) [(0, 9, 12, 34)] { frames := 9, cells := 1, slots := 6, locals := 172 } [.ref (A 0 0), .int x1, .ref ao] (List.flatten [wPL cI cB cO A s, [(ao, .inl (cL, 1, .inr (.inl f)))]]) (is1 (some (.int o.1)) (List.flatten [wPL cI cB cO A o.2.1, [(ao, .inl (cL, 1, .inr (.inl o.2.2)))]])) := by
  refine CtH_of (own := R_lawN) (lv0 := [(0, .ref (A 0 0)), (1, .int x1), (2, .ref ao)]) (by decide) rfl rfl (Nat.le_of_ble_eq_true rfl) ?_
  intro p e s' m args below meth c C hr ht
  obtain ⟨r, hr1, hK⟩ := Option.bind_eq_some_iff.mp h
  refine J_aload_n (pc := 0) C dL_debt_0 2 rfl ?_
  refine J_iconst (v := (0 : Int32)) (pc := 1) C dL_debt_1 (by decide) ?_
  refine J_aload_n (pc := 2) C dL_debt_2 0 rfl ?_
  refine J_iload_n (pc := 3) C dL_debt_3 1 rfl ?_
  refine J_xvH (o9 := r.1) (V := some (.int r.2.1)) (W1 := wPL cI cB cO A r.2.2) (Wc := wPL cI cB cO A s) (pc := 4) (As := [.int x1]) (st := [.int (0 : Int32), .ref ao]) C dL_debt_4 ml_L_70 mi_yX10_debt (Q_debt l hl D cI cB cL cO pf N A s x1 r hr1) [(ao, .inl (cL, 1, .inr (.inl f)))] (by simp [List.flatten]) at_this rfl rfl ⟨(Nat.le_of_ble_eq_true rfl), (Nat.le_of_ble_eq_true rfl)⟩ ⟨(Nat.le_of_ble_eq_true rfl), (Nat.le_of_ble_eq_true rfl)⟩ (Nat.le_of_ble_eq_true rfl) (fun h0 => ?_) (fun h0 => ?_)
  · rw [if_pos h0] at hK
    have hK := Option.some.inj hK
    subst hK
    refine J_ws (ws2 := (List.flatten [wPL cI cB cO A r.2.2, [(ao, .inl (cL, 1, .inr (.inl f)))]])) (by simp [List.flatten]) ?_
    refine J_i2l (pc := 7) C dL_debt_7 ?_
    refine J_perm (ws2 := [(ao, .inl (cL, 1, .inr (.inl f)))] ++ wPL cI cB cO A r.2.2) (perm_out _ _) ?_
    refine J_last (pc := 8) C dL_debt_8 0 2 (rfl : ([(ao, .inl (cL, 1, .inr (.inl f)))] ++ wPL cI cB cO A r.2.2 : va_W)[0]? = some (ao, .inl (cL, 1, .inr (.inl f)))) rfl (by unfold vp_in; decide) ?_
    refine J_ws (ws2 := [(ao, .inl (cL, 1, .inr (.inl (vp_updL f 0 r.2.1.toInt64))))] ++ wPL cI cB cO A r.2.2) rfl ?_
    refine J_perm (ws2 := (List.flatten [wPL cI cB cO A r.2.2, [(ao, .inl (cL, 1, .inr (.inl (vp_updL f 0 r.2.1.toInt64))))]])) (perm_out _ _).symm ?_
    refine J_goto (tgt := 15) (pc := 9) C dL_debt_9 (by decide) ?_
    refine J_iconst (v := (0 : Int32)) (pc := 15) C dL_debt_15 (by decide) ?_
    refine J_widen (k2 := 1) (n2 := 6) (Nat.le_of_ble_eq_true rfl) (Nat.le_of_ble_eq_true rfl) ?_
    exact J_iret (pc := 16) C dL_debt_16 hr ⟨rfl, rfl⟩
  · rw [if_neg h0] at hK
    by_cases h0 : r.1 = 4
    · rw [if_pos h0] at hK
      have hK := Option.some.inj hK
      subst hK
      refine ⟨[], [], ⟨0, 9, 12, 34⟩, "java/lang/IndexOutOfBoundsException", ht, (fun z hz => by cases hz), rfl, Nat.succ_ne_zero _, cl_L_34, (by rw [h0]; exact ca_of C.2.2.2.2.2.2.2.2 (by decide)), fun q => ?_⟩
      refine J_ws (ws2 := (List.flatten [wPL cI cB cO A r.2.2, [(ao, .inl (cL, 1, .inr (.inl f)))]])) (by simp [List.flatten]) ?_
      refine J_astore_n (lv2 := [(3, .ref q), (0, .ref (A 0 0)), (1, .int x1), (2, .ref ao)]) (pc := 12) C dL_debt_12 (by decide) rfl ?_
      refine J_iconst (v := (1 : Int32)) (pc := 13) C dL_debt_13 (by decide) ?_
      refine J_widen (k2 := 1) (n2 := 6) (Nat.le_of_ble_eq_true rfl) (Nat.le_of_ble_eq_true rfl) ?_
      exact J_iret (pc := 14) C dL_debt_14 hr ⟨rfl, rfl⟩
    rw [if_neg h0] at hK
    cases hK
theorem dL_available_0 : decode cL_available 0 = .ok (.aload_n 2, 1) := by decide +kernel
theorem dL_available_1 : decode cL_available 1 = .ok (.iconst 0, 1) := by decide +kernel
theorem dL_available_2 : decode cL_available 2 = .ok (.aload_n 0, 1) := by decide +kernel
theorem dL_available_3 : decode cL_available 3 = .ok (.iload_n 1, 1) := by decide +kernel
theorem dL_available_4 : decode cL_available 4 = .ok (.invokevirtual 73, 3) := by decide +kernel
theorem dL_available_7 : decode cL_available 7 = .ok (.i2l, 1) := by decide +kernel
theorem dL_available_8 : decode cL_available 8 = .ok (.lastore, 1) := by decide +kernel
theorem dL_available_9 : decode cL_available 9 = .ok (.goto 6, 3) := by decide +kernel
theorem dL_available_12 : decode cL_available 12 = .ok (.astore_n 3, 1) := by decide +kernel
theorem dL_available_13 : decode cL_available 13 = .ok (.iconst 1, 1) := by decide +kernel
theorem dL_available_14 : decode cL_available 14 = .ok (.ireturn, 1) := by decide +kernel
theorem dL_available_15 : decode cL_available 15 = .ok (.iconst 0, 1) := by decide +kernel
theorem dL_available_16 : decode cL_available 16 = .ok (.ireturn, 1) := by decide +kernel
set_option maxHeartbeats 4000000 in
set_option maxRecDepth 100000 in
theorem V_available (l : Launch) (hl : l.stackTraces = false) (D : va_G) (cI cB cL cO : ClassId) (pf : Nat → Nat) (N : Nat) (A : Nat → Nat → Nat) (ao : Nat) (s : T_PL) (f : Nat → Int64) (x1 : Int32) (o : Int32 × T_PL × (Nat → Int64)) (h : W_available N s f x1 = some o) : CtH l D [(cI, .int), (cB, .byte), (cL, .long), (cO, .object RX0)] pf yL_available cL_available 4 (some FieldType.int) [(0, 9, 12, 34)] { frames := 9, cells := 1, slots := 6, locals := 172 } [.ref (A 0 0), .int x1, .ref ao] (List.flatten [wPL cI cB cO A s, [(ao, .inl (cL, 1, .inr (.inl f)))]]) (is1 (some (.int o.1)) (List.flatten [wPL cI cB cO A o.2.1, [(ao, .inl (cL, 1, .inr (.inl o.2.2)))]])) := by
  refine CtH_of (own := R_lawN) (lv0 := [(0, .ref (A 0 0)), (1, .int x1), (2, .ref ao)]) (by decide) rfl rfl (Nat.le_of_ble_eq_true rfl) ?_
  intro p e s' m args below meth c C hr ht
  obtain ⟨r, hr1, hK⟩ := Option.bind_eq_some_iff.mp h
  refine J_aload_n (pc := 0) C dL_available_0 2 rfl ?_
  refine J_iconst (v := (0 : Int32)) (pc := 1) C dL_available_1 (by decide) ?_
  refine J_aload_n (pc := 2) C dL_available_2 0 rfl ?_
  refine J_iload_n (pc := 3) C dL_available_3 1 rfl ?_
  refine J_xvH (o9 := r.1) (V := some (.int r.2.1)) (W1 := wPL cI cB cO A r.2.2) (Wc := wPL cI cB cO A s) (pc := 4) (As := [.int x1]) (st := [.int (0 : Int32), .ref ao]) C dL_available_4 ml_L_73 mi_yX10_available (Q_available l hl D cI cB cL cO pf N A s x1 r hr1) [(ao, .inl (cL, 1, .inr (.inl f)))] (by simp [List.flatten]) at_this rfl rfl ⟨(Nat.le_of_ble_eq_true rfl), (Nat.le_of_ble_eq_true rfl)⟩ ⟨(Nat.le_of_ble_eq_true rfl), (Nat.le_of_ble_eq_true rfl)⟩ (Nat.le_of_ble_eq_true rfl) (fun h0 => ?_) (fun h0 => ?_)
  · rw [if_pos h0] at hK
    have hK := Option.some.inj hK
    subst hK
    refine J_ws (ws2 := (List.flatten [wPL cI cB cO A r.2.2, [(ao, .inl (cL, 1, .inr (.inl f)))]])) (by simp [List.flatten]) ?_
    refine J_i2l (pc := 7) C dL_available_7 ?_
    refine J_perm (ws2 := [(ao, .inl (cL, 1, .inr (.inl f)))] ++ wPL cI cB cO A r.2.2) (perm_out _ _) ?_
    refine J_last (pc := 8) C dL_available_8 0 2 (rfl : ([(ao, .inl (cL, 1, .inr (.inl f)))] ++ wPL cI cB cO A r.2.2 : va_W)[0]? = some (ao, .inl (cL, 1, .inr (.inl f)))) rfl (by unfold vp_in; decide) ?_
    refine J_ws (ws2 := [(ao, .inl (cL, 1, .inr (.inl (vp_updL f 0 r.2.1.toInt64))))] ++ wPL cI cB cO A r.2.2) rfl ?_
    refine J_perm (ws2 := (List.flatten [wPL cI cB cO A r.2.2, [(ao, .inl (cL, 1, .inr (.inl (vp_updL f 0 r.2.1.toInt64))))]])) (perm_out _ _).symm ?_
    refine J_goto (tgt := 15) (pc := 9) C dL_available_9 (by decide) ?_
    refine J_iconst (v := (0 : Int32)) (pc := 15) C dL_available_15 (by decide) ?_
    refine J_widen (k2 := 1) (n2 := 6) (Nat.le_of_ble_eq_true rfl) (Nat.le_of_ble_eq_true rfl) ?_
    exact J_iret (pc := 16) C dL_available_16 hr ⟨rfl, rfl⟩
  · rw [if_neg h0] at hK
    by_cases h0 : r.1 = 4
    · rw [if_pos h0] at hK
      have hK := Option.some.inj hK
      subst hK
      refine ⟨[], [], ⟨0, 9, 12, 34⟩, "java/lang/IndexOutOfBoundsException", ht, (fun z hz => by cases hz), rfl, Nat.succ_ne_zero _, cl_L_34, (by rw [h0]; exact ca_of C.2.2.2.2.2.2.2.2 (by decide)), fun q => ?_⟩
      refine J_ws (ws2 := (List.flatten [wPL cI cB cO A r.2.2, [(ao, .inl (cL, 1, .inr (.inl f)))]])) (by simp [List.flatten]) ?_
      refine J_astore_n (lv2 := [(3, .ref q), (0, .ref (A 0 0)), (1, .int x1), (2, .ref ao)]) (pc := 12) C dL_available_12 (by decide) rfl ?_
      refine J_iconst (v := (1 : Int32)) (pc := 13) C dL_available_13 (by decide) ?_
      refine J_widen (k2 := 1) (n2 := 6) (Nat.le_of_ble_eq_true rfl) (Nat.le_of_ble_eq_true rfl) ?_
      exact J_iret (pc := 14) C dL_available_14 hr ⟨rfl, rfl⟩
    rw [if_neg h0] at hK
    cases hK
theorem dL_cohortCount_0 : decode cL_cohortCount 0 = .ok (.aload_n 2, 1) := by decide +kernel
theorem dL_cohortCount_1 : decode cL_cohortCount 1 = .ok (.iconst 0, 1) := by decide +kernel
theorem dL_cohortCount_2 : decode cL_cohortCount 2 = .ok (.aload_n 0, 1) := by decide +kernel
theorem dL_cohortCount_3 : decode cL_cohortCount 3 = .ok (.iload_n 1, 1) := by decide +kernel
theorem dL_cohortCount_4 : decode cL_cohortCount 4 = .ok (.invokevirtual 76, 3) := by decide +kernel
theorem dL_cohortCount_7 : decode cL_cohortCount 7 = .ok (.i2l, 1) := by decide +kernel
theorem dL_cohortCount_8 : decode cL_cohortCount 8 = .ok (.lastore, 1) := by decide +kernel
theorem dL_cohortCount_9 : decode cL_cohortCount 9 = .ok (.goto 6, 3) := by decide +kernel
theorem dL_cohortCount_12 : decode cL_cohortCount 12 = .ok (.astore_n 3, 1) := by decide +kernel
theorem dL_cohortCount_13 : decode cL_cohortCount 13 = .ok (.iconst 1, 1) := by decide +kernel
theorem dL_cohortCount_14 : decode cL_cohortCount 14 = .ok (.ireturn, 1) := by decide +kernel
theorem dL_cohortCount_15 : decode cL_cohortCount 15 = .ok (.iconst 0, 1) := by decide +kernel
theorem dL_cohortCount_16 : decode cL_cohortCount 16 = .ok (.ireturn, 1) := by decide +kernel
set_option maxHeartbeats 4000000 in
set_option maxRecDepth 100000 in
theorem V_cohortCount (l : Launch) (hl : l.stackTraces = false) (D : va_G) (cI cB cL cO : ClassId) (pf : Nat → Nat) (N : Nat) (A : Nat → Nat → Nat) (ao : Nat) (s : T_PL) (f : Nat → Int64) (x1 : Int32) (o : Int32 × T_PL × (Nat → Int64)) (h : W_cohortCount N s f x1 = some o) : CtH l D [(cI, .int), (cB, .byte), (cL, .long), (cO, .object RX0)] pf yL_cohortCount cL_cohortCount 4 (some FieldType.int) [(0, 9, 12, 34)] { frames := 9, cells := 1, slots := 6, locals := 172 } [.ref (A 0 0), .int x1, .ref ao] (List.flatten [wPL cI cB cO A s, [(ao, .inl (cL, 1, .inr (.inl f)))]]) (is1 (some (.int o.1)) (List.flatten [wPL cI cB cO A o.2.1, [(ao, .inl (cL, 1, .inr (.inl o.2.2)))]])) := by
  refine CtH_of (own := R_lawN) (lv0 := [(0, .ref (A 0 0)), (1, .int x1), (2, .ref ao)]) (by decide) rfl rfl (Nat.le_of_ble_eq_true rfl) ?_
  intro p e s' m args below meth c C hr ht
  obtain ⟨r, hr1, hK⟩ := Option.bind_eq_some_iff.mp h
  refine J_aload_n (pc := 0) C dL_cohortCount_0 2 rfl ?_
  refine J_iconst (v := (0 : Int32)) (pc := 1) C dL_cohortCount_1 (by decide) ?_
  refine J_aload_n (pc := 2) C dL_cohortCount_2 0 rfl ?_
  refine J_iload_n (pc := 3) C dL_cohortCount_3 1 rfl ?_
  refine J_xvH (o9 := r.1) (V := some (.int r.2.1)) (W1 := wPL cI cB cO A r.2.2) (Wc := wPL cI cB cO A s) (pc := 4) (As := [.int x1]) (st := [.int (0 : Int32), .ref ao]) C dL_cohortCount_4 ml_L_76 mi_yX10_cohortCount (Q_cohortCount l hl D cI cB cL cO pf N A s x1 r hr1) [(ao, .inl (cL, 1, .inr (.inl f)))] (by simp [List.flatten]) at_this rfl rfl ⟨(Nat.le_of_ble_eq_true rfl), (Nat.le_of_ble_eq_true rfl)⟩ ⟨(Nat.le_of_ble_eq_true rfl), (Nat.le_of_ble_eq_true rfl)⟩ (Nat.le_of_ble_eq_true rfl) (fun h0 => ?_) (fun h0 => ?_)
  · rw [if_pos h0] at hK
    have hK := Option.some.inj hK
    subst hK
    refine J_ws (ws2 := (List.flatten [wPL cI cB cO A r.2.2, [(ao, .inl (cL, 1, .inr (.inl f)))]])) (by simp [List.flatten]) ?_
    refine J_i2l (pc := 7) C dL_cohortCount_7 ?_
    refine J_perm (ws2 := [(ao, .inl (cL, 1, .inr (.inl f)))] ++ wPL cI cB cO A r.2.2) (perm_out _ _) ?_
    refine J_last (pc := 8) C dL_cohortCount_8 0 2 (rfl : ([(ao, .inl (cL, 1, .inr (.inl f)))] ++ wPL cI cB cO A r.2.2 : va_W)[0]? = some (ao, .inl (cL, 1, .inr (.inl f)))) rfl (by unfold vp_in; decide) ?_
    refine J_ws (ws2 := [(ao, .inl (cL, 1, .inr (.inl (vp_updL f 0 r.2.1.toInt64))))] ++ wPL cI cB cO A r.2.2) rfl ?_
    refine J_perm (ws2 := (List.flatten [wPL cI cB cO A r.2.2, [(ao, .inl (cL, 1, .inr (.inl (vp_updL f 0 r.2.1.toInt64))))]])) (perm_out _ _).symm ?_
    refine J_goto (tgt := 15) (pc := 9) C dL_cohortCount_9 (by decide) ?_
    refine J_iconst (v := (0 : Int32)) (pc := 15) C dL_cohortCount_15 (by decide) ?_
    refine J_widen (k2 := 1) (n2 := 6) (Nat.le_of_ble_eq_true rfl) (Nat.le_of_ble_eq_true rfl) ?_
    exact J_iret (pc := 16) C dL_cohortCount_16 hr ⟨rfl, rfl⟩
  · rw [if_neg h0] at hK
    by_cases h0 : r.1 = 4
    · rw [if_pos h0] at hK
      have hK := Option.some.inj hK
      subst hK
      refine ⟨[], [], ⟨0, 9, 12, 34⟩, "java/lang/IndexOutOfBoundsException", ht, (fun z hz => by cases hz), rfl, Nat.succ_ne_zero _, cl_L_34, (by rw [h0]; exact ca_of C.2.2.2.2.2.2.2.2 (by decide)), fun q => ?_⟩
      refine J_ws (ws2 := (List.flatten [wPL cI cB cO A r.2.2, [(ao, .inl (cL, 1, .inr (.inl f)))]])) (by simp [List.flatten]) ?_
      refine J_astore_n (lv2 := [(3, .ref q), (0, .ref (A 0 0)), (1, .int x1), (2, .ref ao)]) (pc := 12) C dL_cohortCount_12 (by decide) rfl ?_
      refine J_iconst (v := (1 : Int32)) (pc := 13) C dL_cohortCount_13 (by decide) ?_
      refine J_widen (k2 := 1) (n2 := 6) (Nat.le_of_ble_eq_true rfl) (Nat.le_of_ble_eq_true rfl) ?_
      exact J_iret (pc := 14) C dL_cohortCount_14 hr ⟨rfl, rfl⟩
    rw [if_neg h0] at hK
    cases hK
theorem dL_cohort_0 : decode cL_cohort 0 = .ok (.aload 4, 2) := by decide +kernel
theorem dL_cohort_2 : decode cL_cohort 2 = .ok (.iconst 0, 1) := by decide +kernel
theorem dL_cohort_3 : decode cL_cohort 3 = .ok (.aload_n 0, 1) := by decide +kernel
theorem dL_cohort_4 : decode cL_cohort 4 = .ok (.iload_n 1, 1) := by decide +kernel
theorem dL_cohort_5 : decode cL_cohort 5 = .ok (.iload_n 2, 1) := by decide +kernel
theorem dL_cohort_6 : decode cL_cohort 6 = .ok (.iload_n 3, 1) := by decide +kernel
theorem dL_cohort_7 : decode cL_cohort 7 = .ok (.invokevirtual 79, 3) := by decide +kernel
theorem dL_cohort_10 : decode cL_cohort 10 = .ok (.i2l, 1) := by decide +kernel
theorem dL_cohort_11 : decode cL_cohort 11 = .ok (.lastore, 1) := by decide +kernel
theorem dL_cohort_12 : decode cL_cohort 12 = .ok (.goto 11, 3) := by decide +kernel
theorem dL_cohort_15 : decode cL_cohort 15 = .ok (.astore 5, 2) := by decide +kernel
theorem dL_cohort_17 : decode cL_cohort 17 = .ok (.iconst 1, 1) := by decide +kernel
theorem dL_cohort_18 : decode cL_cohort 18 = .ok (.ireturn, 1) := by decide +kernel
theorem dL_cohort_19 : decode cL_cohort 19 = .ok (.astore 5, 2) := by decide +kernel
theorem dL_cohort_21 : decode cL_cohort 21 = .ok (.iconst 2, 1) := by decide +kernel
theorem dL_cohort_22 : decode cL_cohort 22 = .ok (.ireturn, 1) := by decide +kernel
theorem dL_cohort_23 : decode cL_cohort 23 = .ok (.iconst 0, 1) := by decide +kernel
theorem dL_cohort_24 : decode cL_cohort 24 = .ok (.ireturn, 1) := by decide +kernel
set_option maxHeartbeats 4000000 in
set_option maxRecDepth 100000 in
theorem V_cohort (l : Launch) (hl : l.stackTraces = false) (D : va_G) (cI cB cL cO : ClassId) (pf : Nat → Nat) (N : Nat) (A : Nat → Nat → Nat) (ao : Nat) (s : T_PL) (f : Nat → Int64) (x1 : Int32) (x2 : Int32) (x3 : Int32) (o : Int32 × T_PL × (Nat → Int64)) (h : W_cohort N s f x1 x2 x3 = some o) : CtH l D [(cI, .int), (cB, .byte), (cL, .long), (cO, .object RX0)] pf yL_cohort cL_cohort 6 (some FieldType.int) [(0, 12, 15, 34), (0, 12, 19, 19)] { frames := 9, cells := 3, slots := 18, locals := 175 } [.ref (A 0 0), .int x1, .int x2, .int x3, .ref ao] (List.flatten [wPL cI cB cO A s, [(ao, .inl (cL, 1, .inr (.inl f)))]]) (is1 (some (.int o.1)) (List.flatten [wPL cI cB cO A o.2.1, [(ao, .inl (cL, 1, .inr (.inl o.2.2)))]])) := by
  refine CtH_of (own := R_lawN) (lv0 := [(0, .ref (A 0 0)), (1, .int x1), (2, .int x2), (3, .int x3), (4, .ref ao)]) (by decide) rfl rfl (Nat.le_of_ble_eq_true rfl) ?_
  intro p e s' m args below meth c C hr ht
  obtain ⟨r, hr1, hK⟩ := Option.bind_eq_some_iff.mp h
  refine J_aload (pc := 0) C dL_cohort_0 4 rfl ?_
  refine J_iconst (v := (0 : Int32)) (pc := 2) C dL_cohort_2 (by decide) ?_
  refine J_aload_n (pc := 3) C dL_cohort_3 0 rfl ?_
  refine J_iload_n (pc := 4) C dL_cohort_4 1 rfl ?_
  refine J_iload_n (pc := 5) C dL_cohort_5 2 rfl ?_
  refine J_iload_n (pc := 6) C dL_cohort_6 3 rfl ?_
  refine J_xvH (o9 := r.1) (V := some (.int r.2.1)) (W1 := wPL cI cB cO A r.2.2) (Wc := wPL cI cB cO A s) (pc := 7) (As := [.int x1, .int x2, .int x3]) (st := [.int (0 : Int32), .ref ao]) C dL_cohort_7 ml_L_79 mi_yX10_cohort (Q_cohort l hl D cI cB cL cO pf N A s x1 x2 x3 r hr1) [(ao, .inl (cL, 1, .inr (.inl f)))] (by simp [List.flatten]) at_this rfl rfl ⟨(Nat.le_of_ble_eq_true rfl), (Nat.le_of_ble_eq_true rfl)⟩ ⟨(Nat.le_of_ble_eq_true rfl), (Nat.le_of_ble_eq_true rfl)⟩ (Nat.le_of_ble_eq_true rfl) (fun h0 => ?_) (fun h0 => ?_)
  · rw [if_pos h0] at hK
    have hK := Option.some.inj hK
    subst hK
    refine J_ws (ws2 := (List.flatten [wPL cI cB cO A r.2.2, [(ao, .inl (cL, 1, .inr (.inl f)))]])) (by simp [List.flatten]) ?_
    refine J_i2l (pc := 10) C dL_cohort_10 ?_
    refine J_perm (ws2 := [(ao, .inl (cL, 1, .inr (.inl f)))] ++ wPL cI cB cO A r.2.2) (perm_out _ _) ?_
    refine J_last (pc := 11) C dL_cohort_11 0 2 (rfl : ([(ao, .inl (cL, 1, .inr (.inl f)))] ++ wPL cI cB cO A r.2.2 : va_W)[0]? = some (ao, .inl (cL, 1, .inr (.inl f)))) rfl (by unfold vp_in; decide) ?_
    refine J_ws (ws2 := [(ao, .inl (cL, 1, .inr (.inl (vp_updL f 0 r.2.1.toInt64))))] ++ wPL cI cB cO A r.2.2) rfl ?_
    refine J_perm (ws2 := (List.flatten [wPL cI cB cO A r.2.2, [(ao, .inl (cL, 1, .inr (.inl (vp_updL f 0 r.2.1.toInt64))))]])) (perm_out _ _).symm ?_
    refine J_goto (tgt := 23) (pc := 12) C dL_cohort_12 (by decide) ?_
    refine J_iconst (v := (0 : Int32)) (pc := 23) C dL_cohort_23 (by decide) ?_
    refine J_widen (k2 := 3) (n2 := 18) (Nat.le_of_ble_eq_true rfl) (Nat.le_of_ble_eq_true rfl) ?_
    exact J_iret (pc := 24) C dL_cohort_24 hr ⟨rfl, rfl⟩
  · rw [if_neg h0] at hK
    by_cases h0 : r.1 = 4
    · rw [if_pos h0] at hK
      have hK := Option.some.inj hK
      subst hK
      refine ⟨[], [⟨0, 12, 19, 19⟩], ⟨0, 12, 15, 34⟩, "java/lang/IndexOutOfBoundsException", ht, (fun z hz => by cases hz), rfl, Nat.succ_ne_zero _, cl_L_34, (by rw [h0]; exact ca_of C.2.2.2.2.2.2.2.2 (by decide)), fun q => ?_⟩
      refine J_ws (ws2 := (List.flatten [wPL cI cB cO A r.2.2, [(ao, .inl (cL, 1, .inr (.inl f)))]])) (by simp [List.flatten]) ?_
      refine J_astore (lv2 := [(5, .ref q), (0, .ref (A 0 0)), (1, .int x1), (2, .int x2), (3, .int x3), (4, .ref ao)]) (pc := 15) C dL_cohort_15 (by decide) rfl ?_
      refine J_iconst (v := (1 : Int32)) (pc := 17) C dL_cohort_17 (by decide) ?_
      refine J_widen (k2 := 3) (n2 := 18) (Nat.le_of_ble_eq_true rfl) (Nat.le_of_ble_eq_true rfl) ?_
      exact J_iret (pc := 18) C dL_cohort_18 hr ⟨rfl, rfl⟩
    rw [if_neg h0] at hK
    by_cases h1 : r.1 = 2
    · rw [if_pos h1] at hK
      have hK := Option.some.inj hK
      subst hK
      refine ⟨[⟨0, 12, 15, 34⟩], [], ⟨0, 12, 19, 19⟩, "java/lang/IllegalArgumentException", ht, (fun z hz => by
          rcases List.mem_cons.mp hz with rfl | hz
          · exact ⟨Nat.succ_ne_zero _, "java/lang/IndexOutOfBoundsException", cl_L_34, (by rw [h1]; exact nc_of C.2.2.2.2.2.2.2.2 (by decide))⟩
          cases hz), rfl, Nat.succ_ne_zero _, cl_L_19, (by rw [h1]; exact ca_of C.2.2.2.2.2.2.2.2 (by decide)), fun q => ?_⟩
      refine J_ws (ws2 := (List.flatten [wPL cI cB cO A r.2.2, [(ao, .inl (cL, 1, .inr (.inl f)))]])) (by simp [List.flatten]) ?_
      refine J_astore (lv2 := [(5, .ref q), (0, .ref (A 0 0)), (1, .int x1), (2, .int x2), (3, .int x3), (4, .ref ao)]) (pc := 19) C dL_cohort_19 (by decide) rfl ?_
      refine J_iconst (v := (2 : Int32)) (pc := 21) C dL_cohort_21 (by decide) ?_
      refine J_widen (k2 := 3) (n2 := 18) (Nat.le_of_ble_eq_true rfl) (Nat.le_of_ble_eq_true rfl) ?_
      exact J_iret (pc := 22) C dL_cohort_22 hr ⟨rfl, rfl⟩
    rw [if_neg h1] at hK
    cases hK
theorem dL_household_0 : decode cL_household 0 = .ok (.aload_n 2, 1) := by decide +kernel
theorem dL_household_1 : decode cL_household 1 = .ok (.iconst 0, 1) := by decide +kernel
theorem dL_household_2 : decode cL_household 2 = .ok (.aload_n 0, 1) := by decide +kernel
theorem dL_household_3 : decode cL_household 3 = .ok (.iload_n 1, 1) := by decide +kernel
theorem dL_household_4 : decode cL_household 4 = .ok (.invokevirtual 82, 3) := by decide +kernel
theorem dL_household_7 : decode cL_household 7 = .ok (.i2l, 1) := by decide +kernel
theorem dL_household_8 : decode cL_household 8 = .ok (.lastore, 1) := by decide +kernel
theorem dL_household_9 : decode cL_household 9 = .ok (.goto 6, 3) := by decide +kernel
theorem dL_household_12 : decode cL_household 12 = .ok (.astore_n 3, 1) := by decide +kernel
theorem dL_household_13 : decode cL_household 13 = .ok (.iconst 1, 1) := by decide +kernel
theorem dL_household_14 : decode cL_household 14 = .ok (.ireturn, 1) := by decide +kernel
theorem dL_household_15 : decode cL_household 15 = .ok (.iconst 0, 1) := by decide +kernel
theorem dL_household_16 : decode cL_household 16 = .ok (.ireturn, 1) := by decide +kernel
set_option maxHeartbeats 4000000 in
set_option maxRecDepth 100000 in
theorem V_household (l : Launch) (hl : l.stackTraces = false) (D : va_G) (cI cB cL cO : ClassId) (pf : Nat → Nat) (N : Nat) (A : Nat → Nat → Nat) (ao : Nat) (s : T_PL) (f : Nat → Int64) (x1 : Int32) (o : Int32 × T_PL × (Nat → Int64)) (h : W_household N s f x1 = some o) : CtH l D [(cI, .int), (cB, .byte), (cL, .long), (cO, .object RX0)] pf yL_household cL_household 4 (some FieldType.int) [(0, 9, 12, 34)] { frames := 9, cells := 1, slots := 6, locals := 172 } [.ref (A 0 0), .int x1, .ref ao] (List.flatten [wPL cI cB cO A s, [(ao, .inl (cL, 1, .inr (.inl f)))]]) (is1 (some (.int o.1)) (List.flatten [wPL cI cB cO A o.2.1, [(ao, .inl (cL, 1, .inr (.inl o.2.2)))]])) := by
  refine CtH_of (own := R_lawN) (lv0 := [(0, .ref (A 0 0)), (1, .int x1), (2, .ref ao)]) (by decide) rfl rfl (Nat.le_of_ble_eq_true rfl) ?_
  intro p e s' m args below meth c C hr ht
  obtain ⟨r, hr1, hK⟩ := Option.bind_eq_some_iff.mp h
  refine J_aload_n (pc := 0) C dL_household_0 2 rfl ?_
  refine J_iconst (v := (0 : Int32)) (pc := 1) C dL_household_1 (by decide) ?_
  refine J_aload_n (pc := 2) C dL_household_2 0 rfl ?_
  refine J_iload_n (pc := 3) C dL_household_3 1 rfl ?_
  refine J_xvH (o9 := r.1) (V := some (.int r.2.1)) (W1 := wPL cI cB cO A r.2.2) (Wc := wPL cI cB cO A s) (pc := 4) (As := [.int x1]) (st := [.int (0 : Int32), .ref ao]) C dL_household_4 ml_L_82 mi_yX10_household (Q_household l hl D cI cB cL cO pf N A s x1 r hr1) [(ao, .inl (cL, 1, .inr (.inl f)))] (by simp [List.flatten]) at_this rfl rfl ⟨(Nat.le_of_ble_eq_true rfl), (Nat.le_of_ble_eq_true rfl)⟩ ⟨(Nat.le_of_ble_eq_true rfl), (Nat.le_of_ble_eq_true rfl)⟩ (Nat.le_of_ble_eq_true rfl) (fun h0 => ?_) (fun h0 => ?_)
  · rw [if_pos h0] at hK
    have hK := Option.some.inj hK
    subst hK
    refine J_ws (ws2 := (List.flatten [wPL cI cB cO A r.2.2, [(ao, .inl (cL, 1, .inr (.inl f)))]])) (by simp [List.flatten]) ?_
    refine J_i2l (pc := 7) C dL_household_7 ?_
    refine J_perm (ws2 := [(ao, .inl (cL, 1, .inr (.inl f)))] ++ wPL cI cB cO A r.2.2) (perm_out _ _) ?_
    refine J_last (pc := 8) C dL_household_8 0 2 (rfl : ([(ao, .inl (cL, 1, .inr (.inl f)))] ++ wPL cI cB cO A r.2.2 : va_W)[0]? = some (ao, .inl (cL, 1, .inr (.inl f)))) rfl (by unfold vp_in; decide) ?_
    refine J_ws (ws2 := [(ao, .inl (cL, 1, .inr (.inl (vp_updL f 0 r.2.1.toInt64))))] ++ wPL cI cB cO A r.2.2) rfl ?_
    refine J_perm (ws2 := (List.flatten [wPL cI cB cO A r.2.2, [(ao, .inl (cL, 1, .inr (.inl (vp_updL f 0 r.2.1.toInt64))))]])) (perm_out _ _).symm ?_
    refine J_goto (tgt := 15) (pc := 9) C dL_household_9 (by decide) ?_
    refine J_iconst (v := (0 : Int32)) (pc := 15) C dL_household_15 (by decide) ?_
    refine J_widen (k2 := 1) (n2 := 6) (Nat.le_of_ble_eq_true rfl) (Nat.le_of_ble_eq_true rfl) ?_
    exact J_iret (pc := 16) C dL_household_16 hr ⟨rfl, rfl⟩
  · rw [if_neg h0] at hK
    by_cases h0 : r.1 = 4
    · rw [if_pos h0] at hK
      have hK := Option.some.inj hK
      subst hK
      refine ⟨[], [], ⟨0, 9, 12, 34⟩, "java/lang/IndexOutOfBoundsException", ht, (fun z hz => by cases hz), rfl, Nat.succ_ne_zero _, cl_L_34, (by rw [h0]; exact ca_of C.2.2.2.2.2.2.2.2 (by decide)), fun q => ?_⟩
      refine J_ws (ws2 := (List.flatten [wPL cI cB cO A r.2.2, [(ao, .inl (cL, 1, .inr (.inl f)))]])) (by simp [List.flatten]) ?_
      refine J_astore_n (lv2 := [(3, .ref q), (0, .ref (A 0 0)), (1, .int x1), (2, .ref ao)]) (pc := 12) C dL_household_12 (by decide) rfl ?_
      refine J_iconst (v := (1 : Int32)) (pc := 13) C dL_household_13 (by decide) ?_
      refine J_widen (k2 := 1) (n2 := 6) (Nat.le_of_ble_eq_true rfl) (Nat.le_of_ble_eq_true rfl) ?_
      exact J_iret (pc := 14) C dL_household_14 hr ⟨rfl, rfl⟩
    rw [if_neg h0] at hK
    cases hK
theorem dL_members_0 : decode cL_members 0 = .ok (.aload_n 2, 1) := by decide +kernel
theorem dL_members_1 : decode cL_members 1 = .ok (.iconst 0, 1) := by decide +kernel
theorem dL_members_2 : decode cL_members 2 = .ok (.aload_n 0, 1) := by decide +kernel
theorem dL_members_3 : decode cL_members 3 = .ok (.iload_n 1, 1) := by decide +kernel
theorem dL_members_4 : decode cL_members 4 = .ok (.invokevirtual 85, 3) := by decide +kernel
theorem dL_members_7 : decode cL_members 7 = .ok (.i2l, 1) := by decide +kernel
theorem dL_members_8 : decode cL_members 8 = .ok (.lastore, 1) := by decide +kernel
theorem dL_members_9 : decode cL_members 9 = .ok (.goto 6, 3) := by decide +kernel
theorem dL_members_12 : decode cL_members 12 = .ok (.astore_n 3, 1) := by decide +kernel
theorem dL_members_13 : decode cL_members 13 = .ok (.iconst 1, 1) := by decide +kernel
theorem dL_members_14 : decode cL_members 14 = .ok (.ireturn, 1) := by decide +kernel
theorem dL_members_15 : decode cL_members 15 = .ok (.iconst 0, 1) := by decide +kernel
theorem dL_members_16 : decode cL_members 16 = .ok (.ireturn, 1) := by decide +kernel
set_option maxHeartbeats 4000000 in
set_option maxRecDepth 100000 in
theorem V_members (l : Launch) (hl : l.stackTraces = false) (D : va_G) (cI cB cL cO : ClassId) (pf : Nat → Nat) (N : Nat) (A : Nat → Nat → Nat) (ao : Nat) (s : T_PL) (f : Nat → Int64) (x1 : Int32) (o : Int32 × T_PL × (Nat → Int64)) (h : W_members N s f x1 = some o) : CtH l D [(cI, .int), (cB, .byte), (cL, .long), (cO, .object RX0)] pf yL_members cL_members 4 (some FieldType.int) [(0, 9, 12, 34)] { frames := 9, cells := 1, slots := 6, locals := 172 } [.ref (A 0 0), .int x1, .ref ao] (List.flatten [wPL cI cB cO A s, [(ao, .inl (cL, 1, .inr (.inl f)))]]) (is1 (some (.int o.1)) (List.flatten [wPL cI cB cO A o.2.1, [(ao, .inl (cL, 1, .inr (.inl o.2.2)))]])) := by
  refine CtH_of (own := R_lawN) (lv0 := [(0, .ref (A 0 0)), (1, .int x1), (2, .ref ao)]) (by decide) rfl rfl (Nat.le_of_ble_eq_true rfl) ?_
  intro p e s' m args below meth c C hr ht
  obtain ⟨r, hr1, hK⟩ := Option.bind_eq_some_iff.mp h
  refine J_aload_n (pc := 0) C dL_members_0 2 rfl ?_
  refine J_iconst (v := (0 : Int32)) (pc := 1) C dL_members_1 (by decide) ?_
  refine J_aload_n (pc := 2) C dL_members_2 0 rfl ?_
  refine J_iload_n (pc := 3) C dL_members_3 1 rfl ?_
  refine J_xvH (o9 := r.1) (V := some (.int r.2.1)) (W1 := wPL cI cB cO A r.2.2) (Wc := wPL cI cB cO A s) (pc := 4) (As := [.int x1]) (st := [.int (0 : Int32), .ref ao]) C dL_members_4 ml_L_85 mi_yX10_members (Q_members l hl D cI cB cL cO pf N A s x1 r hr1) [(ao, .inl (cL, 1, .inr (.inl f)))] (by simp [List.flatten]) at_this rfl rfl ⟨(Nat.le_of_ble_eq_true rfl), (Nat.le_of_ble_eq_true rfl)⟩ ⟨(Nat.le_of_ble_eq_true rfl), (Nat.le_of_ble_eq_true rfl)⟩ (Nat.le_of_ble_eq_true rfl) (fun h0 => ?_) (fun h0 => ?_)
  · rw [if_pos h0] at hK
    have hK := Option.some.inj hK
    subst hK
    refine J_ws (ws2 := (List.flatten [wPL cI cB cO A r.2.2, [(ao, .inl (cL, 1, .inr (.inl f)))]])) (by simp [List.flatten]) ?_
    refine J_i2l (pc := 7) C dL_members_7 ?_
    refine J_perm (ws2 := [(ao, .inl (cL, 1, .inr (.inl f)))] ++ wPL cI cB cO A r.2.2) (perm_out _ _) ?_
    refine J_last (pc := 8) C dL_members_8 0 2 (rfl : ([(ao, .inl (cL, 1, .inr (.inl f)))] ++ wPL cI cB cO A r.2.2 : va_W)[0]? = some (ao, .inl (cL, 1, .inr (.inl f)))) rfl (by unfold vp_in; decide) ?_
    refine J_ws (ws2 := [(ao, .inl (cL, 1, .inr (.inl (vp_updL f 0 r.2.1.toInt64))))] ++ wPL cI cB cO A r.2.2) rfl ?_
    refine J_perm (ws2 := (List.flatten [wPL cI cB cO A r.2.2, [(ao, .inl (cL, 1, .inr (.inl (vp_updL f 0 r.2.1.toInt64))))]])) (perm_out _ _).symm ?_
    refine J_goto (tgt := 15) (pc := 9) C dL_members_9 (by decide) ?_
    refine J_iconst (v := (0 : Int32)) (pc := 15) C dL_members_15 (by decide) ?_
    refine J_widen (k2 := 1) (n2 := 6) (Nat.le_of_ble_eq_true rfl) (Nat.le_of_ble_eq_true rfl) ?_
    exact J_iret (pc := 16) C dL_members_16 hr ⟨rfl, rfl⟩
  · rw [if_neg h0] at hK
    by_cases h0 : r.1 = 4
    · rw [if_pos h0] at hK
      have hK := Option.some.inj hK
      subst hK
      refine ⟨[], [], ⟨0, 9, 12, 34⟩, "java/lang/IndexOutOfBoundsException", ht, (fun z hz => by cases hz), rfl, Nat.succ_ne_zero _, cl_L_34, (by rw [h0]; exact ca_of C.2.2.2.2.2.2.2.2 (by decide)), fun q => ?_⟩
      refine J_ws (ws2 := (List.flatten [wPL cI cB cO A r.2.2, [(ao, .inl (cL, 1, .inr (.inl f)))]])) (by simp [List.flatten]) ?_
      refine J_astore_n (lv2 := [(3, .ref q), (0, .ref (A 0 0)), (1, .int x1), (2, .ref ao)]) (pc := 12) C dL_members_12 (by decide) rfl ?_
      refine J_iconst (v := (1 : Int32)) (pc := 13) C dL_members_13 (by decide) ?_
      refine J_widen (k2 := 1) (n2 := 6) (Nat.le_of_ble_eq_true rfl) (Nat.le_of_ble_eq_true rfl) ?_
      exact J_iret (pc := 14) C dL_members_14 hr ⟨rfl, rfl⟩
    rw [if_neg h0] at hK
    cases hK
theorem dL_poolBalance_0 : decode cL_poolBalance 0 = .ok (.aload_n 2, 1) := by decide +kernel
theorem dL_poolBalance_1 : decode cL_poolBalance 1 = .ok (.iconst 0, 1) := by decide +kernel
theorem dL_poolBalance_2 : decode cL_poolBalance 2 = .ok (.aload_n 0, 1) := by decide +kernel
theorem dL_poolBalance_3 : decode cL_poolBalance 3 = .ok (.iload_n 1, 1) := by decide +kernel
theorem dL_poolBalance_4 : decode cL_poolBalance 4 = .ok (.invokevirtual 88, 3) := by decide +kernel
theorem dL_poolBalance_7 : decode cL_poolBalance 7 = .ok (.i2l, 1) := by decide +kernel
theorem dL_poolBalance_8 : decode cL_poolBalance 8 = .ok (.lastore, 1) := by decide +kernel
theorem dL_poolBalance_9 : decode cL_poolBalance 9 = .ok (.goto 6, 3) := by decide +kernel
theorem dL_poolBalance_12 : decode cL_poolBalance 12 = .ok (.astore_n 3, 1) := by decide +kernel
theorem dL_poolBalance_13 : decode cL_poolBalance 13 = .ok (.iconst 1, 1) := by decide +kernel
theorem dL_poolBalance_14 : decode cL_poolBalance 14 = .ok (.ireturn, 1) := by decide +kernel
theorem dL_poolBalance_15 : decode cL_poolBalance 15 = .ok (.iconst 0, 1) := by decide +kernel
theorem dL_poolBalance_16 : decode cL_poolBalance 16 = .ok (.ireturn, 1) := by decide +kernel
set_option maxHeartbeats 4000000 in
set_option maxRecDepth 100000 in
theorem V_poolBalance (l : Launch) (hl : l.stackTraces = false) (D : va_G) (cI cB cL cO : ClassId) (pf : Nat → Nat) (N : Nat) (A : Nat → Nat → Nat) (ao : Nat) (s : T_PL) (f : Nat → Int64) (x1 : Int32) (o : Int32 × T_PL × (Nat → Int64)) (h : W_poolBalance N s f x1 = some o) : CtH l D [(cI, .int), (cB, .byte), (cL, .long), (cO, .object RX0)] pf yL_poolBalance cL_poolBalance 4 (some FieldType.int) [(0, 9, 12, 34)] { frames := 9, cells := 1, slots := 6, locals := 172 } [.ref (A 0 0), .int x1, .ref ao] (List.flatten [wPL cI cB cO A s, [(ao, .inl (cL, 1, .inr (.inl f)))]]) (is1 (some (.int o.1)) (List.flatten [wPL cI cB cO A o.2.1, [(ao, .inl (cL, 1, .inr (.inl o.2.2)))]])) := by
  refine CtH_of (own := R_lawN) (lv0 := [(0, .ref (A 0 0)), (1, .int x1), (2, .ref ao)]) (by decide) rfl rfl (Nat.le_of_ble_eq_true rfl) ?_
  intro p e s' m args below meth c C hr ht
  obtain ⟨r, hr1, hK⟩ := Option.bind_eq_some_iff.mp h
  refine J_aload_n (pc := 0) C dL_poolBalance_0 2 rfl ?_
  refine J_iconst (v := (0 : Int32)) (pc := 1) C dL_poolBalance_1 (by decide) ?_
  refine J_aload_n (pc := 2) C dL_poolBalance_2 0 rfl ?_
  refine J_iload_n (pc := 3) C dL_poolBalance_3 1 rfl ?_
  refine J_xvH (o9 := r.1) (V := some (.int r.2.1)) (W1 := wPL cI cB cO A r.2.2) (Wc := wPL cI cB cO A s) (pc := 4) (As := [.int x1]) (st := [.int (0 : Int32), .ref ao]) C dL_poolBalance_4 ml_L_88 mi_yX10_poolBalance (Q_poolBalance l hl D cI cB cL cO pf N A s x1 r hr1) [(ao, .inl (cL, 1, .inr (.inl f)))] (by simp [List.flatten]) at_this rfl rfl ⟨(Nat.le_of_ble_eq_true rfl), (Nat.le_of_ble_eq_true rfl)⟩ ⟨(Nat.le_of_ble_eq_true rfl), (Nat.le_of_ble_eq_true rfl)⟩ (Nat.le_of_ble_eq_true rfl) (fun h0 => ?_) (fun h0 => ?_)
  · rw [if_pos h0] at hK
    have hK := Option.some.inj hK
    subst hK
    refine J_ws (ws2 := (List.flatten [wPL cI cB cO A r.2.2, [(ao, .inl (cL, 1, .inr (.inl f)))]])) (by simp [List.flatten]) ?_
    refine J_i2l (pc := 7) C dL_poolBalance_7 ?_
    refine J_perm (ws2 := [(ao, .inl (cL, 1, .inr (.inl f)))] ++ wPL cI cB cO A r.2.2) (perm_out _ _) ?_
    refine J_last (pc := 8) C dL_poolBalance_8 0 2 (rfl : ([(ao, .inl (cL, 1, .inr (.inl f)))] ++ wPL cI cB cO A r.2.2 : va_W)[0]? = some (ao, .inl (cL, 1, .inr (.inl f)))) rfl (by unfold vp_in; decide) ?_
    refine J_ws (ws2 := [(ao, .inl (cL, 1, .inr (.inl (vp_updL f 0 r.2.1.toInt64))))] ++ wPL cI cB cO A r.2.2) rfl ?_
    refine J_perm (ws2 := (List.flatten [wPL cI cB cO A r.2.2, [(ao, .inl (cL, 1, .inr (.inl (vp_updL f 0 r.2.1.toInt64))))]])) (perm_out _ _).symm ?_
    refine J_goto (tgt := 15) (pc := 9) C dL_poolBalance_9 (by decide) ?_
    refine J_iconst (v := (0 : Int32)) (pc := 15) C dL_poolBalance_15 (by decide) ?_
    refine J_widen (k2 := 1) (n2 := 6) (Nat.le_of_ble_eq_true rfl) (Nat.le_of_ble_eq_true rfl) ?_
    exact J_iret (pc := 16) C dL_poolBalance_16 hr ⟨rfl, rfl⟩
  · rw [if_neg h0] at hK
    by_cases h0 : r.1 = 4
    · rw [if_pos h0] at hK
      have hK := Option.some.inj hK
      subst hK
      refine ⟨[], [], ⟨0, 9, 12, 34⟩, "java/lang/IndexOutOfBoundsException", ht, (fun z hz => by cases hz), rfl, Nat.succ_ne_zero _, cl_L_34, (by rw [h0]; exact ca_of C.2.2.2.2.2.2.2.2 (by decide)), fun q => ?_⟩
      refine J_ws (ws2 := (List.flatten [wPL cI cB cO A r.2.2, [(ao, .inl (cL, 1, .inr (.inl f)))]])) (by simp [List.flatten]) ?_
      refine J_astore_n (lv2 := [(3, .ref q), (0, .ref (A 0 0)), (1, .int x1), (2, .ref ao)]) (pc := 12) C dL_poolBalance_12 (by decide) rfl ?_
      refine J_iconst (v := (1 : Int32)) (pc := 13) C dL_poolBalance_13 (by decide) ?_
      refine J_widen (k2 := 1) (n2 := 6) (Nat.le_of_ble_eq_true rfl) (Nat.le_of_ble_eq_true rfl) ?_
      exact J_iret (pc := 14) C dL_poolBalance_14 hr ⟨rfl, rfl⟩
    rw [if_neg h0] at hK
    cases hK
theorem dL_poolCohortCount_0 : decode cL_poolCohortCount 0 = .ok (.aload_n 2, 1) := by decide +kernel
theorem dL_poolCohortCount_1 : decode cL_poolCohortCount 1 = .ok (.iconst 0, 1) := by decide +kernel
theorem dL_poolCohortCount_2 : decode cL_poolCohortCount 2 = .ok (.aload_n 0, 1) := by decide +kernel
theorem dL_poolCohortCount_3 : decode cL_poolCohortCount 3 = .ok (.iload_n 1, 1) := by decide +kernel
theorem dL_poolCohortCount_4 : decode cL_poolCohortCount 4 = .ok (.invokevirtual 91, 3) := by decide +kernel
theorem dL_poolCohortCount_7 : decode cL_poolCohortCount 7 = .ok (.i2l, 1) := by decide +kernel
theorem dL_poolCohortCount_8 : decode cL_poolCohortCount 8 = .ok (.lastore, 1) := by decide +kernel
theorem dL_poolCohortCount_9 : decode cL_poolCohortCount 9 = .ok (.goto 6, 3) := by decide +kernel
theorem dL_poolCohortCount_12 : decode cL_poolCohortCount 12 = .ok (.astore_n 3, 1) := by decide +kernel
theorem dL_poolCohortCount_13 : decode cL_poolCohortCount 13 = .ok (.iconst 1, 1) := by decide +kernel
theorem dL_poolCohortCount_14 : decode cL_poolCohortCount 14 = .ok (.ireturn, 1) := by decide +kernel
theorem dL_poolCohortCount_15 : decode cL_poolCohortCount 15 = .ok (.iconst 0, 1) := by decide +kernel
theorem dL_poolCohortCount_16 : decode cL_poolCohortCount 16 = .ok (.ireturn, 1) := by decide +kernel
set_option maxHeartbeats 4000000 in
set_option maxRecDepth 100000 in
theorem V_poolCohortCount (l : Launch) (hl : l.stackTraces = false) (D : va_G) (cI cB cL cO : ClassId) (pf : Nat → Nat) (N : Nat) (A : Nat → Nat → Nat) (ao : Nat) (s : T_PL) (f : Nat → Int64) (x1 : Int32) (o : Int32 × T_PL × (Nat → Int64)) (h : W_poolCohortCount N s f x1 = some o) : CtH l D [(cI, .int), (cB, .byte), (cL, .long), (cO, .object RX0)] pf yL_poolCohortCount cL_poolCohortCount 4 (some FieldType.int) [(0, 9, 12, 34)] { frames := 9, cells := 1, slots := 6, locals := 172 } [.ref (A 0 0), .int x1, .ref ao] (List.flatten [wPL cI cB cO A s, [(ao, .inl (cL, 1, .inr (.inl f)))]]) (is1 (some (.int o.1)) (List.flatten [wPL cI cB cO A o.2.1, [(ao, .inl (cL, 1, .inr (.inl o.2.2)))]])) := by
  refine CtH_of (own := R_lawN) (lv0 := [(0, .ref (A 0 0)), (1, .int x1), (2, .ref ao)]) (by decide) rfl rfl (Nat.le_of_ble_eq_true rfl) ?_
  intro p e s' m args below meth c C hr ht
  obtain ⟨r, hr1, hK⟩ := Option.bind_eq_some_iff.mp h
  refine J_aload_n (pc := 0) C dL_poolCohortCount_0 2 rfl ?_
  refine J_iconst (v := (0 : Int32)) (pc := 1) C dL_poolCohortCount_1 (by decide) ?_
  refine J_aload_n (pc := 2) C dL_poolCohortCount_2 0 rfl ?_
  refine J_iload_n (pc := 3) C dL_poolCohortCount_3 1 rfl ?_
  refine J_xvH (o9 := r.1) (V := some (.int r.2.1)) (W1 := wPL cI cB cO A r.2.2) (Wc := wPL cI cB cO A s) (pc := 4) (As := [.int x1]) (st := [.int (0 : Int32), .ref ao]) C dL_poolCohortCount_4 ml_L_91 mi_yX10_poolCohortCount (Q_poolCohortCount l hl D cI cB cL cO pf N A s x1 r hr1) [(ao, .inl (cL, 1, .inr (.inl f)))] (by simp [List.flatten]) at_this rfl rfl ⟨(Nat.le_of_ble_eq_true rfl), (Nat.le_of_ble_eq_true rfl)⟩ ⟨(Nat.le_of_ble_eq_true rfl), (Nat.le_of_ble_eq_true rfl)⟩ (Nat.le_of_ble_eq_true rfl) (fun h0 => ?_) (fun h0 => ?_)
  · rw [if_pos h0] at hK
    have hK := Option.some.inj hK
    subst hK
    refine J_ws (ws2 := (List.flatten [wPL cI cB cO A r.2.2, [(ao, .inl (cL, 1, .inr (.inl f)))]])) (by simp [List.flatten]) ?_
    refine J_i2l (pc := 7) C dL_poolCohortCount_7 ?_
    refine J_perm (ws2 := [(ao, .inl (cL, 1, .inr (.inl f)))] ++ wPL cI cB cO A r.2.2) (perm_out _ _) ?_
    refine J_last (pc := 8) C dL_poolCohortCount_8 0 2 (rfl : ([(ao, .inl (cL, 1, .inr (.inl f)))] ++ wPL cI cB cO A r.2.2 : va_W)[0]? = some (ao, .inl (cL, 1, .inr (.inl f)))) rfl (by unfold vp_in; decide) ?_
    refine J_ws (ws2 := [(ao, .inl (cL, 1, .inr (.inl (vp_updL f 0 r.2.1.toInt64))))] ++ wPL cI cB cO A r.2.2) rfl ?_
    refine J_perm (ws2 := (List.flatten [wPL cI cB cO A r.2.2, [(ao, .inl (cL, 1, .inr (.inl (vp_updL f 0 r.2.1.toInt64))))]])) (perm_out _ _).symm ?_
    refine J_goto (tgt := 15) (pc := 9) C dL_poolCohortCount_9 (by decide) ?_
    refine J_iconst (v := (0 : Int32)) (pc := 15) C dL_poolCohortCount_15 (by decide) ?_
    refine J_widen (k2 := 1) (n2 := 6) (Nat.le_of_ble_eq_true rfl) (Nat.le_of_ble_eq_true rfl) ?_
    exact J_iret (pc := 16) C dL_poolCohortCount_16 hr ⟨rfl, rfl⟩
  · rw [if_neg h0] at hK
    by_cases h0 : r.1 = 4
    · rw [if_pos h0] at hK
      have hK := Option.some.inj hK
      subst hK
      refine ⟨[], [], ⟨0, 9, 12, 34⟩, "java/lang/IndexOutOfBoundsException", ht, (fun z hz => by cases hz), rfl, Nat.succ_ne_zero _, cl_L_34, (by rw [h0]; exact ca_of C.2.2.2.2.2.2.2.2 (by decide)), fun q => ?_⟩
      refine J_ws (ws2 := (List.flatten [wPL cI cB cO A r.2.2, [(ao, .inl (cL, 1, .inr (.inl f)))]])) (by simp [List.flatten]) ?_
      refine J_astore_n (lv2 := [(3, .ref q), (0, .ref (A 0 0)), (1, .int x1), (2, .ref ao)]) (pc := 12) C dL_poolCohortCount_12 (by decide) rfl ?_
      refine J_iconst (v := (1 : Int32)) (pc := 13) C dL_poolCohortCount_13 (by decide) ?_
      refine J_widen (k2 := 1) (n2 := 6) (Nat.le_of_ble_eq_true rfl) (Nat.le_of_ble_eq_true rfl) ?_
      exact J_iret (pc := 14) C dL_poolCohortCount_14 hr ⟨rfl, rfl⟩
    rw [if_neg h0] at hK
    cases hK
theorem dL_poolCohort_0 : decode cL_poolCohort 0 = .ok (.aload 4, 2) := by decide +kernel
theorem dL_poolCohort_2 : decode cL_poolCohort 2 = .ok (.iconst 0, 1) := by decide +kernel
theorem dL_poolCohort_3 : decode cL_poolCohort 3 = .ok (.aload_n 0, 1) := by decide +kernel
theorem dL_poolCohort_4 : decode cL_poolCohort 4 = .ok (.iload_n 1, 1) := by decide +kernel
theorem dL_poolCohort_5 : decode cL_poolCohort 5 = .ok (.iload_n 2, 1) := by decide +kernel
theorem dL_poolCohort_6 : decode cL_poolCohort 6 = .ok (.iload_n 3, 1) := by decide +kernel
theorem dL_poolCohort_7 : decode cL_poolCohort 7 = .ok (.invokevirtual 94, 3) := by decide +kernel
theorem dL_poolCohort_10 : decode cL_poolCohort 10 = .ok (.i2l, 1) := by decide +kernel
theorem dL_poolCohort_11 : decode cL_poolCohort 11 = .ok (.lastore, 1) := by decide +kernel
theorem dL_poolCohort_12 : decode cL_poolCohort 12 = .ok (.goto 11, 3) := by decide +kernel
theorem dL_poolCohort_15 : decode cL_poolCohort 15 = .ok (.astore 5, 2) := by decide +kernel
theorem dL_poolCohort_17 : decode cL_poolCohort 17 = .ok (.iconst 1, 1) := by decide +kernel
theorem dL_poolCohort_18 : decode cL_poolCohort 18 = .ok (.ireturn, 1) := by decide +kernel
theorem dL_poolCohort_19 : decode cL_poolCohort 19 = .ok (.astore 5, 2) := by decide +kernel
theorem dL_poolCohort_21 : decode cL_poolCohort 21 = .ok (.iconst 2, 1) := by decide +kernel
theorem dL_poolCohort_22 : decode cL_poolCohort 22 = .ok (.ireturn, 1) := by decide +kernel
theorem dL_poolCohort_23 : decode cL_poolCohort 23 = .ok (.iconst 0, 1) := by decide +kernel
theorem dL_poolCohort_24 : decode cL_poolCohort 24 = .ok (.ireturn, 1) := by decide +kernel
set_option maxHeartbeats 4000000 in
set_option maxRecDepth 100000 in
theorem V_poolCohort (l : Launch) (hl : l.stackTraces = false) (D : va_G) (cI cB cL cO : ClassId) (pf : Nat → Nat) (N : Nat) (A : Nat → Nat → Nat) (ao : Nat) (s : T_PL) (f : Nat → Int64) (x1 : Int32) (x2 : Int32) (x3 : Int32) (o : Int32 × T_PL × (Nat → Int64)) (h : W_poolCohort N s f x1 x2 x3 = some o) : CtH l D [(cI, .int), (cB, .byte), (cL, .long), (cO, .object RX0)] pf yL_poolCohort cL_poolCohort 6 (some FieldType.int) [(0, 12, 15, 34), (0, 12, 19, 19)] { frames := 9, cells := 3, slots := 18, locals := 175 } [.ref (A 0 0), .int x1, .int x2, .int x3, .ref ao] (List.flatten [wPL cI cB cO A s, [(ao, .inl (cL, 1, .inr (.inl f)))]]) (is1 (some (.int o.1)) (List.flatten [wPL cI cB cO A o.2.1, [(ao, .inl (cL, 1, .inr (.inl o.2.2)))]])) := by
  refine CtH_of (own := R_lawN) (lv0 := [(0, .ref (A 0 0)), (1, .int x1), (2, .int x2), (3, .int x3), (4, .ref ao)]) (by decide) rfl rfl (Nat.le_of_ble_eq_true rfl) ?_
  intro p e s' m args below meth c C hr ht
  obtain ⟨r, hr1, hK⟩ := Option.bind_eq_some_iff.mp h
  refine J_aload (pc := 0) C dL_poolCohort_0 4 rfl ?_
  refine J_iconst (v := (0 : Int32)) (pc := 2) C dL_poolCohort_2 (by decide) ?_
  refine J_aload_n (pc := 3) C dL_poolCohort_3 0 rfl ?_
  refine J_iload_n (pc := 4) C dL_poolCohort_4 1 rfl ?_
  refine J_iload_n (pc := 5) C dL_poolCohort_5 2 rfl ?_
  refine J_iload_n (pc := 6) C dL_poolCohort_6 3 rfl ?_
  refine J_xvH (o9 := r.1) (V := some (.int r.2.1)) (W1 := wPL cI cB cO A r.2.2) (Wc := wPL cI cB cO A s) (pc := 7) (As := [.int x1, .int x2, .int x3]) (st := [.int (0 : Int32), .ref ao]) C dL_poolCohort_7 ml_L_94 mi_yX10_poolCohort (Q_poolCohort l hl D cI cB cL cO pf N A s x1 x2 x3 r hr1) [(ao, .inl (cL, 1, .inr (.inl f)))] (by simp [List.flatten]) at_this rfl rfl ⟨(Nat.le_of_ble_eq_true rfl), (Nat.le_of_ble_eq_true rfl)⟩ ⟨(Nat.le_of_ble_eq_true rfl), (Nat.le_of_ble_eq_true rfl)⟩ (Nat.le_of_ble_eq_true rfl) (fun h0 => ?_) (fun h0 => ?_)
  · rw [if_pos h0] at hK
    have hK := Option.some.inj hK
    subst hK
    refine J_ws (ws2 := (List.flatten [wPL cI cB cO A r.2.2, [(ao, .inl (cL, 1, .inr (.inl f)))]])) (by simp [List.flatten]) ?_
    refine J_i2l (pc := 10) C dL_poolCohort_10 ?_
    refine J_perm (ws2 := [(ao, .inl (cL, 1, .inr (.inl f)))] ++ wPL cI cB cO A r.2.2) (perm_out _ _) ?_
    refine J_last (pc := 11) C dL_poolCohort_11 0 2 (rfl : ([(ao, .inl (cL, 1, .inr (.inl f)))] ++ wPL cI cB cO A r.2.2 : va_W)[0]? = some (ao, .inl (cL, 1, .inr (.inl f)))) rfl (by unfold vp_in; decide) ?_
    refine J_ws (ws2 := [(ao, .inl (cL, 1, .inr (.inl (vp_updL f 0 r.2.1.toInt64))))] ++ wPL cI cB cO A r.2.2) rfl ?_
    refine J_perm (ws2 := (List.flatten [wPL cI cB cO A r.2.2, [(ao, .inl (cL, 1, .inr (.inl (vp_updL f 0 r.2.1.toInt64))))]])) (perm_out _ _).symm ?_
    refine J_goto (tgt := 23) (pc := 12) C dL_poolCohort_12 (by decide) ?_
    refine J_iconst (v := (0 : Int32)) (pc := 23) C dL_poolCohort_23 (by decide) ?_
    refine J_widen (k2 := 3) (n2 := 18) (Nat.le_of_ble_eq_true rfl) (Nat.le_of_ble_eq_true rfl) ?_
    exact J_iret (pc := 24) C dL_poolCohort_24 hr ⟨rfl, rfl⟩
  · rw [if_neg h0] at hK
    by_cases h0 : r.1 = 4
    · rw [if_pos h0] at hK
      have hK := Option.some.inj hK
      subst hK
      refine ⟨[], [⟨0, 12, 19, 19⟩], ⟨0, 12, 15, 34⟩, "java/lang/IndexOutOfBoundsException", ht, (fun z hz => by cases hz), rfl, Nat.succ_ne_zero _, cl_L_34, (by rw [h0]; exact ca_of C.2.2.2.2.2.2.2.2 (by decide)), fun q => ?_⟩
      refine J_ws (ws2 := (List.flatten [wPL cI cB cO A r.2.2, [(ao, .inl (cL, 1, .inr (.inl f)))]])) (by simp [List.flatten]) ?_
      refine J_astore (lv2 := [(5, .ref q), (0, .ref (A 0 0)), (1, .int x1), (2, .int x2), (3, .int x3), (4, .ref ao)]) (pc := 15) C dL_poolCohort_15 (by decide) rfl ?_
      refine J_iconst (v := (1 : Int32)) (pc := 17) C dL_poolCohort_17 (by decide) ?_
      refine J_widen (k2 := 3) (n2 := 18) (Nat.le_of_ble_eq_true rfl) (Nat.le_of_ble_eq_true rfl) ?_
      exact J_iret (pc := 18) C dL_poolCohort_18 hr ⟨rfl, rfl⟩
    rw [if_neg h0] at hK
    by_cases h1 : r.1 = 2
    · rw [if_pos h1] at hK
      have hK := Option.some.inj hK
      subst hK
      refine ⟨[⟨0, 12, 15, 34⟩], [], ⟨0, 12, 19, 19⟩, "java/lang/IllegalArgumentException", ht, (fun z hz => by
          rcases List.mem_cons.mp hz with rfl | hz
          · exact ⟨Nat.succ_ne_zero _, "java/lang/IndexOutOfBoundsException", cl_L_34, (by rw [h1]; exact nc_of C.2.2.2.2.2.2.2.2 (by decide))⟩
          cases hz), rfl, Nat.succ_ne_zero _, cl_L_19, (by rw [h1]; exact ca_of C.2.2.2.2.2.2.2.2 (by decide)), fun q => ?_⟩
      refine J_ws (ws2 := (List.flatten [wPL cI cB cO A r.2.2, [(ao, .inl (cL, 1, .inr (.inl f)))]])) (by simp [List.flatten]) ?_
      refine J_astore (lv2 := [(5, .ref q), (0, .ref (A 0 0)), (1, .int x1), (2, .int x2), (3, .int x3), (4, .ref ao)]) (pc := 19) C dL_poolCohort_19 (by decide) rfl ?_
      refine J_iconst (v := (2 : Int32)) (pc := 21) C dL_poolCohort_21 (by decide) ?_
      refine J_widen (k2 := 3) (n2 := 18) (Nat.le_of_ble_eq_true rfl) (Nat.le_of_ble_eq_true rfl) ?_
      exact J_iret (pc := 22) C dL_poolCohort_22 hr ⟨rfl, rfl⟩
    rw [if_neg h1] at hK
    cases hK
theorem dL_contributed_0 : decode cL_contributed 0 = .ok (.aload_n 2, 1) := by decide +kernel
theorem dL_contributed_1 : decode cL_contributed 1 = .ok (.iconst 0, 1) := by decide +kernel
theorem dL_contributed_2 : decode cL_contributed 2 = .ok (.aload_n 0, 1) := by decide +kernel
theorem dL_contributed_3 : decode cL_contributed 3 = .ok (.iload_n 1, 1) := by decide +kernel
theorem dL_contributed_4 : decode cL_contributed 4 = .ok (.invokevirtual 97, 3) := by decide +kernel
theorem dL_contributed_7 : decode cL_contributed 7 = .ok (.i2l, 1) := by decide +kernel
theorem dL_contributed_8 : decode cL_contributed 8 = .ok (.lastore, 1) := by decide +kernel
theorem dL_contributed_9 : decode cL_contributed 9 = .ok (.goto 6, 3) := by decide +kernel
theorem dL_contributed_12 : decode cL_contributed 12 = .ok (.astore_n 3, 1) := by decide +kernel
theorem dL_contributed_13 : decode cL_contributed 13 = .ok (.iconst 1, 1) := by decide +kernel
theorem dL_contributed_14 : decode cL_contributed 14 = .ok (.ireturn, 1) := by decide +kernel
theorem dL_contributed_15 : decode cL_contributed 15 = .ok (.iconst 0, 1) := by decide +kernel
theorem dL_contributed_16 : decode cL_contributed 16 = .ok (.ireturn, 1) := by decide +kernel
set_option maxHeartbeats 4000000 in
set_option maxRecDepth 100000 in
theorem V_contributed (l : Launch) (hl : l.stackTraces = false) (D : va_G) (cI cB cL cO : ClassId) (pf : Nat → Nat) (N : Nat) (A : Nat → Nat → Nat) (ao : Nat) (s : T_PL) (f : Nat → Int64) (x1 : Int32) (o : Int32 × T_PL × (Nat → Int64)) (h : W_contributed N s f x1 = some o) : CtH l D [(cI, .int), (cB, .byte), (cL, .long), (cO, .object RX0)] pf yL_contributed cL_contributed 4 (some FieldType.int) [(0, 9, 12, 34)] { frames := 9, cells := 1, slots := 6, locals := 172 } [.ref (A 0 0), .int x1, .ref ao] (List.flatten [wPL cI cB cO A s, [(ao, .inl (cL, 1, .inr (.inl f)))]]) (is1 (some (.int o.1)) (List.flatten [wPL cI cB cO A o.2.1, [(ao, .inl (cL, 1, .inr (.inl o.2.2)))]])) := by
  refine CtH_of (own := R_lawN) (lv0 := [(0, .ref (A 0 0)), (1, .int x1), (2, .ref ao)]) (by decide) rfl rfl (Nat.le_of_ble_eq_true rfl) ?_
  intro p e s' m args below meth c C hr ht
  obtain ⟨r, hr1, hK⟩ := Option.bind_eq_some_iff.mp h
  refine J_aload_n (pc := 0) C dL_contributed_0 2 rfl ?_
  refine J_iconst (v := (0 : Int32)) (pc := 1) C dL_contributed_1 (by decide) ?_
  refine J_aload_n (pc := 2) C dL_contributed_2 0 rfl ?_
  refine J_iload_n (pc := 3) C dL_contributed_3 1 rfl ?_
  refine J_xvH (o9 := r.1) (V := some (.int r.2.1)) (W1 := wPL cI cB cO A r.2.2) (Wc := wPL cI cB cO A s) (pc := 4) (As := [.int x1]) (st := [.int (0 : Int32), .ref ao]) C dL_contributed_4 ml_L_97 mi_yX10_contributed (Q_contributed l hl D cI cB cL cO pf N A s x1 r hr1) [(ao, .inl (cL, 1, .inr (.inl f)))] (by simp [List.flatten]) at_this rfl rfl ⟨(Nat.le_of_ble_eq_true rfl), (Nat.le_of_ble_eq_true rfl)⟩ ⟨(Nat.le_of_ble_eq_true rfl), (Nat.le_of_ble_eq_true rfl)⟩ (Nat.le_of_ble_eq_true rfl) (fun h0 => ?_) (fun h0 => ?_)
  · rw [if_pos h0] at hK
    have hK := Option.some.inj hK
    subst hK
    refine J_ws (ws2 := (List.flatten [wPL cI cB cO A r.2.2, [(ao, .inl (cL, 1, .inr (.inl f)))]])) (by simp [List.flatten]) ?_
    refine J_i2l (pc := 7) C dL_contributed_7 ?_
    refine J_perm (ws2 := [(ao, .inl (cL, 1, .inr (.inl f)))] ++ wPL cI cB cO A r.2.2) (perm_out _ _) ?_
    refine J_last (pc := 8) C dL_contributed_8 0 2 (rfl : ([(ao, .inl (cL, 1, .inr (.inl f)))] ++ wPL cI cB cO A r.2.2 : va_W)[0]? = some (ao, .inl (cL, 1, .inr (.inl f)))) rfl (by unfold vp_in; decide) ?_
    refine J_ws (ws2 := [(ao, .inl (cL, 1, .inr (.inl (vp_updL f 0 r.2.1.toInt64))))] ++ wPL cI cB cO A r.2.2) rfl ?_
    refine J_perm (ws2 := (List.flatten [wPL cI cB cO A r.2.2, [(ao, .inl (cL, 1, .inr (.inl (vp_updL f 0 r.2.1.toInt64))))]])) (perm_out _ _).symm ?_
    refine J_goto (tgt := 15) (pc := 9) C dL_contributed_9 (by decide) ?_
    refine J_iconst (v := (0 : Int32)) (pc := 15) C dL_contributed_15 (by decide) ?_
    refine J_widen (k2 := 1) (n2 := 6) (Nat.le_of_ble_eq_true rfl) (Nat.le_of_ble_eq_true rfl) ?_
    exact J_iret (pc := 16) C dL_contributed_16 hr ⟨rfl, rfl⟩
  · rw [if_neg h0] at hK
    by_cases h0 : r.1 = 4
    · rw [if_pos h0] at hK
      have hK := Option.some.inj hK
      subst hK
      refine ⟨[], [], ⟨0, 9, 12, 34⟩, "java/lang/IndexOutOfBoundsException", ht, (fun z hz => by cases hz), rfl, Nat.succ_ne_zero _, cl_L_34, (by rw [h0]; exact ca_of C.2.2.2.2.2.2.2.2 (by decide)), fun q => ?_⟩
      refine J_ws (ws2 := (List.flatten [wPL cI cB cO A r.2.2, [(ao, .inl (cL, 1, .inr (.inl f)))]])) (by simp [List.flatten]) ?_
      refine J_astore_n (lv2 := [(3, .ref q), (0, .ref (A 0 0)), (1, .int x1), (2, .ref ao)]) (pc := 12) C dL_contributed_12 (by decide) rfl ?_
      refine J_iconst (v := (1 : Int32)) (pc := 13) C dL_contributed_13 (by decide) ?_
      refine J_widen (k2 := 1) (n2 := 6) (Nat.le_of_ble_eq_true rfl) (Nat.le_of_ble_eq_true rfl) ?_
      exact J_iret (pc := 14) C dL_contributed_14 hr ⟨rfl, rfl⟩
    rw [if_neg h0] at hK
    cases hK
theorem dL_total_0 : decode cL_total 0 = .ok (.aload_n 2, 1) := by decide +kernel
theorem dL_total_1 : decode cL_total 1 = .ok (.iconst 0, 1) := by decide +kernel
theorem dL_total_2 : decode cL_total 2 = .ok (.aload_n 0, 1) := by decide +kernel
theorem dL_total_3 : decode cL_total 3 = .ok (.iload_n 1, 1) := by decide +kernel
theorem dL_total_4 : decode cL_total 4 = .ok (.invokevirtual 100, 3) := by decide +kernel
theorem dL_total_7 : decode cL_total 7 = .ok (.i2l, 1) := by decide +kernel
theorem dL_total_8 : decode cL_total 8 = .ok (.lastore, 1) := by decide +kernel
theorem dL_total_9 : decode cL_total 9 = .ok (.goto 6, 3) := by decide +kernel
theorem dL_total_12 : decode cL_total 12 = .ok (.astore_n 3, 1) := by decide +kernel
theorem dL_total_13 : decode cL_total 13 = .ok (.iconst 1, 1) := by decide +kernel
theorem dL_total_14 : decode cL_total 14 = .ok (.ireturn, 1) := by decide +kernel
theorem dL_total_15 : decode cL_total 15 = .ok (.iconst 0, 1) := by decide +kernel
theorem dL_total_16 : decode cL_total 16 = .ok (.ireturn, 1) := by decide +kernel
set_option maxHeartbeats 4000000 in
set_option maxRecDepth 100000 in
theorem V_total (l : Launch) (hl : l.stackTraces = false) (D : va_G) (cI cB cL cO : ClassId) (pf : Nat → Nat) (N : Nat) (A : Nat → Nat → Nat) (ao : Nat) (s : T_PL) (f : Nat → Int64) (x1 : Int32) (o : Int32 × T_PL × (Nat → Int64)) (h : W_total N s f x1 = some o) : CtH l D [(cI, .int), (cB, .byte), (cL, .long), (cO, .object RX0)] pf yL_total cL_total 4 (some FieldType.int) [(0, 9, 12, 19)] { frames := 9, cells := 1, slots := 6, locals := 173 } [.ref (A 0 0), .int x1, .ref ao] (List.flatten [wPL cI cB cO A s, [(ao, .inl (cL, 1, .inr (.inl f)))]]) (is1 (some (.int o.1)) (List.flatten [wPL cI cB cO A o.2.1, [(ao, .inl (cL, 1, .inr (.inl o.2.2)))]])) := by
  refine CtH_of (own := R_lawN) (lv0 := [(0, .ref (A 0 0)), (1, .int x1), (2, .ref ao)]) (by decide) rfl rfl (Nat.le_of_ble_eq_true rfl) ?_
  intro p e s' m args below meth c C hr ht
  obtain ⟨r, hr1, hK⟩ := Option.bind_eq_some_iff.mp h
  refine J_aload_n (pc := 0) C dL_total_0 2 rfl ?_
  refine J_iconst (v := (0 : Int32)) (pc := 1) C dL_total_1 (by decide) ?_
  refine J_aload_n (pc := 2) C dL_total_2 0 rfl ?_
  refine J_iload_n (pc := 3) C dL_total_3 1 rfl ?_
  refine J_xvH (o9 := r.1) (V := some (.int r.2.1)) (W1 := wPL cI cB cO A r.2.2) (Wc := wPL cI cB cO A s) (pc := 4) (As := [.int x1]) (st := [.int (0 : Int32), .ref ao]) C dL_total_4 ml_L_100 mi_yX10_total (Q_total l hl D cI cB cL cO pf N A s x1 r hr1) [(ao, .inl (cL, 1, .inr (.inl f)))] (by simp [List.flatten]) at_this rfl rfl ⟨(Nat.le_of_ble_eq_true rfl), (Nat.le_of_ble_eq_true rfl)⟩ ⟨(Nat.le_of_ble_eq_true rfl), (Nat.le_of_ble_eq_true rfl)⟩ (Nat.le_of_ble_eq_true rfl) (fun h0 => ?_) (fun h0 => ?_)
  · rw [if_pos h0] at hK
    have hK := Option.some.inj hK
    subst hK
    refine J_ws (ws2 := (List.flatten [wPL cI cB cO A r.2.2, [(ao, .inl (cL, 1, .inr (.inl f)))]])) (by simp [List.flatten]) ?_
    refine J_i2l (pc := 7) C dL_total_7 ?_
    refine J_perm (ws2 := [(ao, .inl (cL, 1, .inr (.inl f)))] ++ wPL cI cB cO A r.2.2) (perm_out _ _) ?_
    refine J_last (pc := 8) C dL_total_8 0 2 (rfl : ([(ao, .inl (cL, 1, .inr (.inl f)))] ++ wPL cI cB cO A r.2.2 : va_W)[0]? = some (ao, .inl (cL, 1, .inr (.inl f)))) rfl (by unfold vp_in; decide) ?_
    refine J_ws (ws2 := [(ao, .inl (cL, 1, .inr (.inl (vp_updL f 0 r.2.1.toInt64))))] ++ wPL cI cB cO A r.2.2) rfl ?_
    refine J_perm (ws2 := (List.flatten [wPL cI cB cO A r.2.2, [(ao, .inl (cL, 1, .inr (.inl (vp_updL f 0 r.2.1.toInt64))))]])) (perm_out _ _).symm ?_
    refine J_goto (tgt := 15) (pc := 9) C dL_total_9 (by decide) ?_
    refine J_iconst (v := (0 : Int32)) (pc := 15) C dL_total_15 (by decide) ?_
    refine J_widen (k2 := 1) (n2 := 6) (Nat.le_of_ble_eq_true rfl) (Nat.le_of_ble_eq_true rfl) ?_
    exact J_iret (pc := 16) C dL_total_16 hr ⟨rfl, rfl⟩
  · rw [if_neg h0] at hK
    by_cases h0 : r.1 = 2
    · rw [if_pos h0] at hK
      have hK := Option.some.inj hK
      subst hK
      refine ⟨[], [], ⟨0, 9, 12, 19⟩, "java/lang/IllegalArgumentException", ht, (fun z hz => by cases hz), rfl, Nat.succ_ne_zero _, cl_L_19, (by rw [h0]; exact ca_of C.2.2.2.2.2.2.2.2 (by decide)), fun q => ?_⟩
      refine J_ws (ws2 := (List.flatten [wPL cI cB cO A r.2.2, [(ao, .inl (cL, 1, .inr (.inl f)))]])) (by simp [List.flatten]) ?_
      refine J_astore_n (lv2 := [(3, .ref q), (0, .ref (A 0 0)), (1, .int x1), (2, .ref ao)]) (pc := 12) C dL_total_12 (by decide) rfl ?_
      refine J_iconst (v := (1 : Int32)) (pc := 13) C dL_total_13 (by decide) ?_
      refine J_widen (k2 := 1) (n2 := 6) (Nat.le_of_ble_eq_true rfl) (Nat.le_of_ble_eq_true rfl) ?_
      exact J_iret (pc := 14) C dL_total_14 hr ⟨rfl, rfl⟩
    rw [if_neg h0] at hK
    cases hK
theorem dL_tier_0 : decode cL_tier 0 = .ok (.aload_n 2, 1) := by decide +kernel
theorem dL_tier_1 : decode cL_tier 1 = .ok (.iconst 0, 1) := by decide +kernel
theorem dL_tier_2 : decode cL_tier 2 = .ok (.aload_n 0, 1) := by decide +kernel
theorem dL_tier_3 : decode cL_tier 3 = .ok (.iload_n 1, 1) := by decide +kernel
theorem dL_tier_4 : decode cL_tier 4 = .ok (.invokevirtual 103, 3) := by decide +kernel
theorem dL_tier_7 : decode cL_tier 7 = .ok (.i2l, 1) := by decide +kernel
theorem dL_tier_8 : decode cL_tier 8 = .ok (.lastore, 1) := by decide +kernel
theorem dL_tier_9 : decode cL_tier 9 = .ok (.goto 6, 3) := by decide +kernel
theorem dL_tier_12 : decode cL_tier 12 = .ok (.astore_n 3, 1) := by decide +kernel
theorem dL_tier_13 : decode cL_tier 13 = .ok (.iconst 1, 1) := by decide +kernel
theorem dL_tier_14 : decode cL_tier 14 = .ok (.ireturn, 1) := by decide +kernel
theorem dL_tier_15 : decode cL_tier 15 = .ok (.iconst 0, 1) := by decide +kernel
theorem dL_tier_16 : decode cL_tier 16 = .ok (.ireturn, 1) := by decide +kernel
set_option maxHeartbeats 4000000 in
set_option maxRecDepth 100000 in
theorem V_tier (l : Launch) (hl : l.stackTraces = false) (D : va_G) (cI cB cL cO : ClassId) (pf : Nat → Nat) (N : Nat) (A : Nat → Nat → Nat) (ao : Nat) (s : T_PL) (f : Nat → Int64) (x1 : Int32) (o : Int32 × T_PL × (Nat → Int64)) (h : W_tier N s f x1 = some o) : CtH l D [(cI, .int), (cB, .byte), (cL, .long), (cO, .object RX0)] pf yL_tier cL_tier 4 (some FieldType.int) [(0, 9, 12, 34)] { frames := 9, cells := 1, slots := 6, locals := 172 } [.ref (A 0 0), .int x1, .ref ao] (List.flatten [wPL cI cB cO A s, [(ao, .inl (cL, 1, .inr (.inl f)))]]) (is1 (some (.int o.1)) (List.flatten [wPL cI cB cO A o.2.1, [(ao, .inl (cL, 1, .inr (.inl o.2.2)))]])) := by
  refine CtH_of (own := R_lawN) (lv0 := [(0, .ref (A 0 0)), (1, .int x1), (2, .ref ao)]) (by decide) rfl rfl (Nat.le_of_ble_eq_true rfl) ?_
  intro p e s' m args below meth c C hr ht
  obtain ⟨r, hr1, hK⟩ := Option.bind_eq_some_iff.mp h
  refine J_aload_n (pc := 0) C dL_tier_0 2 rfl ?_
  refine J_iconst (v := (0 : Int32)) (pc := 1) C dL_tier_1 (by decide) ?_
  refine J_aload_n (pc := 2) C dL_tier_2 0 rfl ?_
  refine J_iload_n (pc := 3) C dL_tier_3 1 rfl ?_
  refine J_xvH (o9 := r.1) (V := some (.int r.2.1)) (W1 := wPL cI cB cO A r.2.2) (Wc := wPL cI cB cO A s) (pc := 4) (As := [.int x1]) (st := [.int (0 : Int32), .ref ao]) C dL_tier_4 ml_L_103 mi_yX10_tier (Q_tier l hl D cI cB cL cO pf N A s x1 r hr1) [(ao, .inl (cL, 1, .inr (.inl f)))] (by simp [List.flatten]) at_this rfl rfl ⟨(Nat.le_of_ble_eq_true rfl), (Nat.le_of_ble_eq_true rfl)⟩ ⟨(Nat.le_of_ble_eq_true rfl), (Nat.le_of_ble_eq_true rfl)⟩ (Nat.le_of_ble_eq_true rfl) (fun h0 => ?_) (fun h0 => ?_)
  · rw [if_pos h0] at hK
    have hK := Option.some.inj hK
    subst hK
    refine J_ws (ws2 := (List.flatten [wPL cI cB cO A r.2.2, [(ao, .inl (cL, 1, .inr (.inl f)))]])) (by simp [List.flatten]) ?_
    refine J_i2l (pc := 7) C dL_tier_7 ?_
    refine J_perm (ws2 := [(ao, .inl (cL, 1, .inr (.inl f)))] ++ wPL cI cB cO A r.2.2) (perm_out _ _) ?_
    refine J_last (pc := 8) C dL_tier_8 0 2 (rfl : ([(ao, .inl (cL, 1, .inr (.inl f)))] ++ wPL cI cB cO A r.2.2 : va_W)[0]? = some (ao, .inl (cL, 1, .inr (.inl f)))) rfl (by unfold vp_in; decide) ?_
    refine J_ws (ws2 := [(ao, .inl (cL, 1, .inr (.inl (vp_updL f 0 r.2.1.toInt64))))] ++ wPL cI cB cO A r.2.2) rfl ?_
    refine J_perm (ws2 := (List.flatten [wPL cI cB cO A r.2.2, [(ao, .inl (cL, 1, .inr (.inl (vp_updL f 0 r.2.1.toInt64))))]])) (perm_out _ _).symm ?_
    refine J_goto (tgt := 15) (pc := 9) C dL_tier_9 (by decide) ?_
    refine J_iconst (v := (0 : Int32)) (pc := 15) C dL_tier_15 (by decide) ?_
    refine J_widen (k2 := 1) (n2 := 6) (Nat.le_of_ble_eq_true rfl) (Nat.le_of_ble_eq_true rfl) ?_
    exact J_iret (pc := 16) C dL_tier_16 hr ⟨rfl, rfl⟩
  · rw [if_neg h0] at hK
    by_cases h0 : r.1 = 4
    · rw [if_pos h0] at hK
      have hK := Option.some.inj hK
      subst hK
      refine ⟨[], [], ⟨0, 9, 12, 34⟩, "java/lang/IndexOutOfBoundsException", ht, (fun z hz => by cases hz), rfl, Nat.succ_ne_zero _, cl_L_34, (by rw [h0]; exact ca_of C.2.2.2.2.2.2.2.2 (by decide)), fun q => ?_⟩
      refine J_ws (ws2 := (List.flatten [wPL cI cB cO A r.2.2, [(ao, .inl (cL, 1, .inr (.inl f)))]])) (by simp [List.flatten]) ?_
      refine J_astore_n (lv2 := [(3, .ref q), (0, .ref (A 0 0)), (1, .int x1), (2, .ref ao)]) (pc := 12) C dL_tier_12 (by decide) rfl ?_
      refine J_iconst (v := (1 : Int32)) (pc := 13) C dL_tier_13 (by decide) ?_
      refine J_widen (k2 := 1) (n2 := 6) (Nat.le_of_ble_eq_true rfl) (Nat.le_of_ble_eq_true rfl) ?_
      exact J_iret (pc := 14) C dL_tier_14 hr ⟨rfl, rfl⟩
    rw [if_neg h0] at hK
    cases hK
theorem dL_earnedTier_0 : decode cL_earnedTier 0 = .ok (.aload_n 2, 1) := by decide +kernel
theorem dL_earnedTier_1 : decode cL_earnedTier 1 = .ok (.iconst 0, 1) := by decide +kernel
theorem dL_earnedTier_2 : decode cL_earnedTier 2 = .ok (.aload_n 0, 1) := by decide +kernel
theorem dL_earnedTier_3 : decode cL_earnedTier 3 = .ok (.iload_n 1, 1) := by decide +kernel
theorem dL_earnedTier_4 : decode cL_earnedTier 4 = .ok (.invokevirtual 106, 3) := by decide +kernel
theorem dL_earnedTier_7 : decode cL_earnedTier 7 = .ok (.i2l, 1) := by decide +kernel
theorem dL_earnedTier_8 : decode cL_earnedTier 8 = .ok (.lastore, 1) := by decide +kernel
theorem dL_earnedTier_9 : decode cL_earnedTier 9 = .ok (.goto 6, 3) := by decide +kernel
theorem dL_earnedTier_12 : decode cL_earnedTier 12 = .ok (.astore_n 3, 1) := by decide +kernel
theorem dL_earnedTier_13 : decode cL_earnedTier 13 = .ok (.iconst 1, 1) := by decide +kernel
theorem dL_earnedTier_14 : decode cL_earnedTier 14 = .ok (.ireturn, 1) := by decide +kernel
theorem dL_earnedTier_15 : decode cL_earnedTier 15 = .ok (.iconst 0, 1) := by decide +kernel
theorem dL_earnedTier_16 : decode cL_earnedTier 16 = .ok (.ireturn, 1) := by decide +kernel
set_option maxHeartbeats 4000000 in
set_option maxRecDepth 100000 in
theorem V_earnedTier (l : Launch) (hl : l.stackTraces = false) (D : va_G) (cI cB cL cO : ClassId) (pf : Nat → Nat) (N : Nat) (A : Nat → Nat → Nat) (ao : Nat) (s : T_PL) (f : Nat → Int64) (x1 : Int32) (o : Int32 × T_PL × (Nat → Int64)) (h : W_earnedTier N s f x1 = some o) : CtH l D [(cI, .int), (cB, .byte), (cL, .long), (cO, .object RX0)] pf yL_earnedTier cL_earnedTier 4 (some FieldType.int) [(0, 9, 12, 34)] { frames := 9, cells := 1, slots := 6, locals := 172 } [.ref (A 0 0), .int x1, .ref ao] (List.flatten [wPL cI cB cO A s, [(ao, .inl (cL, 1, .inr (.inl f)))]]) (is1 (some (.int o.1)) (List.flatten [wPL cI cB cO A o.2.1, [(ao, .inl (cL, 1, .inr (.inl o.2.2)))]])) := by
  refine CtH_of (own := R_lawN) (lv0 := [(0, .ref (A 0 0)), (1, .int x1), (2, .ref ao)]) (by decide) rfl rfl (Nat.le_of_ble_eq_true rfl) ?_
  intro p e s' m args below meth c C hr ht
  obtain ⟨r, hr1, hK⟩ := Option.bind_eq_some_iff.mp h
  refine J_aload_n (pc := 0) C dL_earnedTier_0 2 rfl ?_
  refine J_iconst (v := (0 : Int32)) (pc := 1) C dL_earnedTier_1 (by decide) ?_
  refine J_aload_n (pc := 2) C dL_earnedTier_2 0 rfl ?_
  refine J_iload_n (pc := 3) C dL_earnedTier_3 1 rfl ?_
  refine J_xvH (o9 := r.1) (V := some (.int r.2.1)) (W1 := wPL cI cB cO A r.2.2) (Wc := wPL cI cB cO A s) (pc := 4) (As := [.int x1]) (st := [.int (0 : Int32), .ref ao]) C dL_earnedTier_4 ml_L_106 mi_yX10_earnedTier (Q_earnedTier l hl D cI cB cL cO pf N A s x1 r hr1) [(ao, .inl (cL, 1, .inr (.inl f)))] (by simp [List.flatten]) at_this rfl rfl ⟨(Nat.le_of_ble_eq_true rfl), (Nat.le_of_ble_eq_true rfl)⟩ ⟨(Nat.le_of_ble_eq_true rfl), (Nat.le_of_ble_eq_true rfl)⟩ (Nat.le_of_ble_eq_true rfl) (fun h0 => ?_) (fun h0 => ?_)
  · rw [if_pos h0] at hK
    have hK := Option.some.inj hK
    subst hK
    refine J_ws (ws2 := (List.flatten [wPL cI cB cO A r.2.2, [(ao, .inl (cL, 1, .inr (.inl f)))]])) (by simp [List.flatten]) ?_
    refine J_i2l (pc := 7) C dL_earnedTier_7 ?_
    refine J_perm (ws2 := [(ao, .inl (cL, 1, .inr (.inl f)))] ++ wPL cI cB cO A r.2.2) (perm_out _ _) ?_
    refine J_last (pc := 8) C dL_earnedTier_8 0 2 (rfl : ([(ao, .inl (cL, 1, .inr (.inl f)))] ++ wPL cI cB cO A r.2.2 : va_W)[0]? = some (ao, .inl (cL, 1, .inr (.inl f)))) rfl (by unfold vp_in; decide) ?_
    refine J_ws (ws2 := [(ao, .inl (cL, 1, .inr (.inl (vp_updL f 0 r.2.1.toInt64))))] ++ wPL cI cB cO A r.2.2) rfl ?_
    refine J_perm (ws2 := (List.flatten [wPL cI cB cO A r.2.2, [(ao, .inl (cL, 1, .inr (.inl (vp_updL f 0 r.2.1.toInt64))))]])) (perm_out _ _).symm ?_
    refine J_goto (tgt := 15) (pc := 9) C dL_earnedTier_9 (by decide) ?_
    refine J_iconst (v := (0 : Int32)) (pc := 15) C dL_earnedTier_15 (by decide) ?_
    refine J_widen (k2 := 1) (n2 := 6) (Nat.le_of_ble_eq_true rfl) (Nat.le_of_ble_eq_true rfl) ?_
    exact J_iret (pc := 16) C dL_earnedTier_16 hr ⟨rfl, rfl⟩
  · rw [if_neg h0] at hK
    by_cases h0 : r.1 = 4
    · rw [if_pos h0] at hK
      have hK := Option.some.inj hK
      subst hK
      refine ⟨[], [], ⟨0, 9, 12, 34⟩, "java/lang/IndexOutOfBoundsException", ht, (fun z hz => by cases hz), rfl, Nat.succ_ne_zero _, cl_L_34, (by rw [h0]; exact ca_of C.2.2.2.2.2.2.2.2 (by decide)), fun q => ?_⟩
      refine J_ws (ws2 := (List.flatten [wPL cI cB cO A r.2.2, [(ao, .inl (cL, 1, .inr (.inl f)))]])) (by simp [List.flatten]) ?_
      refine J_astore_n (lv2 := [(3, .ref q), (0, .ref (A 0 0)), (1, .int x1), (2, .ref ao)]) (pc := 12) C dL_earnedTier_12 (by decide) rfl ?_
      refine J_iconst (v := (1 : Int32)) (pc := 13) C dL_earnedTier_13 (by decide) ?_
      refine J_widen (k2 := 1) (n2 := 6) (Nat.le_of_ble_eq_true rfl) (Nat.le_of_ble_eq_true rfl) ?_
      exact J_iret (pc := 14) C dL_earnedTier_14 hr ⟨rfl, rfl⟩
    rw [if_neg h0] at hK
    cases hK
theorem dL_qualifying_0 : decode cL_qualifying 0 = .ok (.aload_n 2, 1) := by decide +kernel
theorem dL_qualifying_1 : decode cL_qualifying 1 = .ok (.iconst 0, 1) := by decide +kernel
theorem dL_qualifying_2 : decode cL_qualifying 2 = .ok (.aload_n 0, 1) := by decide +kernel
theorem dL_qualifying_3 : decode cL_qualifying 3 = .ok (.iload_n 1, 1) := by decide +kernel
theorem dL_qualifying_4 : decode cL_qualifying 4 = .ok (.invokevirtual 109, 3) := by decide +kernel
theorem dL_qualifying_7 : decode cL_qualifying 7 = .ok (.i2l, 1) := by decide +kernel
theorem dL_qualifying_8 : decode cL_qualifying 8 = .ok (.lastore, 1) := by decide +kernel
theorem dL_qualifying_9 : decode cL_qualifying 9 = .ok (.goto 6, 3) := by decide +kernel
theorem dL_qualifying_12 : decode cL_qualifying 12 = .ok (.astore_n 3, 1) := by decide +kernel
theorem dL_qualifying_13 : decode cL_qualifying 13 = .ok (.iconst 1, 1) := by decide +kernel
theorem dL_qualifying_14 : decode cL_qualifying 14 = .ok (.ireturn, 1) := by decide +kernel
theorem dL_qualifying_15 : decode cL_qualifying 15 = .ok (.iconst 0, 1) := by decide +kernel
theorem dL_qualifying_16 : decode cL_qualifying 16 = .ok (.ireturn, 1) := by decide +kernel
set_option maxHeartbeats 4000000 in
set_option maxRecDepth 100000 in
theorem V_qualifying (l : Launch) (hl : l.stackTraces = false) (D : va_G) (cI cB cL cO : ClassId) (pf : Nat → Nat) (N : Nat) (A : Nat → Nat → Nat) (ao : Nat) (s : T_PL) (f : Nat → Int64) (x1 : Int32) (o : Int32 × T_PL × (Nat → Int64)) (h : W_qualifying N s f x1 = some o) : CtH l D [(cI, .int), (cB, .byte), (cL, .long), (cO, .object RX0)] pf yL_qualifying cL_qualifying 4 (some FieldType.int) [(0, 9, 12, 34)] { frames := 9, cells := 1, slots := 6, locals := 172 } [.ref (A 0 0), .int x1, .ref ao] (List.flatten [wPL cI cB cO A s, [(ao, .inl (cL, 1, .inr (.inl f)))]]) (is1 (some (.int o.1)) (List.flatten [wPL cI cB cO A o.2.1, [(ao, .inl (cL, 1, .inr (.inl o.2.2)))]])) := by
  refine CtH_of (own := R_lawN) (lv0 := [(0, .ref (A 0 0)), (1, .int x1), (2, .ref ao)]) (by decide) rfl rfl (Nat.le_of_ble_eq_true rfl) ?_
  intro p e s' m args below meth c C hr ht
  obtain ⟨r, hr1, hK⟩ := Option.bind_eq_some_iff.mp h
  refine J_aload_n (pc := 0) C dL_qualifying_0 2 rfl ?_
  refine J_iconst (v := (0 : Int32)) (pc := 1) C dL_qualifying_1 (by decide) ?_
  refine J_aload_n (pc := 2) C dL_qualifying_2 0 rfl ?_
  refine J_iload_n (pc := 3) C dL_qualifying_3 1 rfl ?_
  refine J_xvH (o9 := r.1) (V := some (.int r.2.1)) (W1 := wPL cI cB cO A r.2.2) (Wc := wPL cI cB cO A s) (pc := 4) (As := [.int x1]) (st := [.int (0 : Int32), .ref ao]) C dL_qualifying_4 ml_L_109 mi_yX10_qualifying (Q_qualifying l hl D cI cB cL cO pf N A s x1 r hr1) [(ao, .inl (cL, 1, .inr (.inl f)))] (by simp [List.flatten]) at_this rfl rfl ⟨(Nat.le_of_ble_eq_true rfl), (Nat.le_of_ble_eq_true rfl)⟩ ⟨(Nat.le_of_ble_eq_true rfl), (Nat.le_of_ble_eq_true rfl)⟩ (Nat.le_of_ble_eq_true rfl) (fun h0 => ?_) (fun h0 => ?_)
  · rw [if_pos h0] at hK
    have hK := Option.some.inj hK
    subst hK
    refine J_ws (ws2 := (List.flatten [wPL cI cB cO A r.2.2, [(ao, .inl (cL, 1, .inr (.inl f)))]])) (by simp [List.flatten]) ?_
    refine J_i2l (pc := 7) C dL_qualifying_7 ?_
    refine J_perm (ws2 := [(ao, .inl (cL, 1, .inr (.inl f)))] ++ wPL cI cB cO A r.2.2) (perm_out _ _) ?_
    refine J_last (pc := 8) C dL_qualifying_8 0 2 (rfl : ([(ao, .inl (cL, 1, .inr (.inl f)))] ++ wPL cI cB cO A r.2.2 : va_W)[0]? = some (ao, .inl (cL, 1, .inr (.inl f)))) rfl (by unfold vp_in; decide) ?_
    refine J_ws (ws2 := [(ao, .inl (cL, 1, .inr (.inl (vp_updL f 0 r.2.1.toInt64))))] ++ wPL cI cB cO A r.2.2) rfl ?_
    refine J_perm (ws2 := (List.flatten [wPL cI cB cO A r.2.2, [(ao, .inl (cL, 1, .inr (.inl (vp_updL f 0 r.2.1.toInt64))))]])) (perm_out _ _).symm ?_
    refine J_goto (tgt := 15) (pc := 9) C dL_qualifying_9 (by decide) ?_
    refine J_iconst (v := (0 : Int32)) (pc := 15) C dL_qualifying_15 (by decide) ?_
    refine J_widen (k2 := 1) (n2 := 6) (Nat.le_of_ble_eq_true rfl) (Nat.le_of_ble_eq_true rfl) ?_
    exact J_iret (pc := 16) C dL_qualifying_16 hr ⟨rfl, rfl⟩
  · rw [if_neg h0] at hK
    by_cases h0 : r.1 = 4
    · rw [if_pos h0] at hK
      have hK := Option.some.inj hK
      subst hK
      refine ⟨[], [], ⟨0, 9, 12, 34⟩, "java/lang/IndexOutOfBoundsException", ht, (fun z hz => by cases hz), rfl, Nat.succ_ne_zero _, cl_L_34, (by rw [h0]; exact ca_of C.2.2.2.2.2.2.2.2 (by decide)), fun q => ?_⟩
      refine J_ws (ws2 := (List.flatten [wPL cI cB cO A r.2.2, [(ao, .inl (cL, 1, .inr (.inl f)))]])) (by simp [List.flatten]) ?_
      refine J_astore_n (lv2 := [(3, .ref q), (0, .ref (A 0 0)), (1, .int x1), (2, .ref ao)]) (pc := 12) C dL_qualifying_12 (by decide) rfl ?_
      refine J_iconst (v := (1 : Int32)) (pc := 13) C dL_qualifying_13 (by decide) ?_
      refine J_widen (k2 := 1) (n2 := 6) (Nat.le_of_ble_eq_true rfl) (Nat.le_of_ble_eq_true rfl) ?_
      exact J_iret (pc := 14) C dL_qualifying_14 hr ⟨rfl, rfl⟩
    rw [if_neg h0] at hK
    cases hK
theorem dL_belowSince_0 : decode cL_belowSince 0 = .ok (.aload_n 2, 1) := by decide +kernel
theorem dL_belowSince_1 : decode cL_belowSince 1 = .ok (.iconst 0, 1) := by decide +kernel
theorem dL_belowSince_2 : decode cL_belowSince 2 = .ok (.aload_n 0, 1) := by decide +kernel
theorem dL_belowSince_3 : decode cL_belowSince 3 = .ok (.iload_n 1, 1) := by decide +kernel
theorem dL_belowSince_4 : decode cL_belowSince 4 = .ok (.invokevirtual 112, 3) := by decide +kernel
theorem dL_belowSince_7 : decode cL_belowSince 7 = .ok (.i2l, 1) := by decide +kernel
theorem dL_belowSince_8 : decode cL_belowSince 8 = .ok (.lastore, 1) := by decide +kernel
theorem dL_belowSince_9 : decode cL_belowSince 9 = .ok (.goto 6, 3) := by decide +kernel
theorem dL_belowSince_12 : decode cL_belowSince 12 = .ok (.astore_n 3, 1) := by decide +kernel
theorem dL_belowSince_13 : decode cL_belowSince 13 = .ok (.iconst 1, 1) := by decide +kernel
theorem dL_belowSince_14 : decode cL_belowSince 14 = .ok (.ireturn, 1) := by decide +kernel
theorem dL_belowSince_15 : decode cL_belowSince 15 = .ok (.iconst 0, 1) := by decide +kernel
theorem dL_belowSince_16 : decode cL_belowSince 16 = .ok (.ireturn, 1) := by decide +kernel
set_option maxHeartbeats 4000000 in
set_option maxRecDepth 100000 in
theorem V_belowSince (l : Launch) (hl : l.stackTraces = false) (D : va_G) (cI cB cL cO : ClassId) (pf : Nat → Nat) (N : Nat) (A : Nat → Nat → Nat) (ao : Nat) (s : T_PL) (f : Nat → Int64) (x1 : Int32) (o : Int32 × T_PL × (Nat → Int64)) (h : W_belowSince N s f x1 = some o) : CtH l D [(cI, .int), (cB, .byte), (cL, .long), (cO, .object RX0)] pf yL_belowSince cL_belowSince 4 (some FieldType.int) [(0, 9, 12, 34)] { frames := 9, cells := 1, slots := 6, locals := 172 } [.ref (A 0 0), .int x1, .ref ao] (List.flatten [wPL cI cB cO A s, [(ao, .inl (cL, 1, .inr (.inl f)))]]) (is1 (some (.int o.1)) (List.flatten [wPL cI cB cO A o.2.1, [(ao, .inl (cL, 1, .inr (.inl o.2.2)))]])) := by
  refine CtH_of (own := R_lawN) (lv0 := [(0, .ref (A 0 0)), (1, .int x1), (2, .ref ao)]) (by decide) rfl rfl (Nat.le_of_ble_eq_true rfl) ?_
  intro p e s' m args below meth c C hr ht
  obtain ⟨r, hr1, hK⟩ := Option.bind_eq_some_iff.mp h
  refine J_aload_n (pc := 0) C dL_belowSince_0 2 rfl ?_
  refine J_iconst (v := (0 : Int32)) (pc := 1) C dL_belowSince_1 (by decide) ?_
  refine J_aload_n (pc := 2) C dL_belowSince_2 0 rfl ?_
  refine J_iload_n (pc := 3) C dL_belowSince_3 1 rfl ?_
  refine J_xvH (o9 := r.1) (V := some (.int r.2.1)) (W1 := wPL cI cB cO A r.2.2) (Wc := wPL cI cB cO A s) (pc := 4) (As := [.int x1]) (st := [.int (0 : Int32), .ref ao]) C dL_belowSince_4 ml_L_112 mi_yX10_belowSince (Q_belowSince l hl D cI cB cL cO pf N A s x1 r hr1) [(ao, .inl (cL, 1, .inr (.inl f)))] (by simp [List.flatten]) at_this rfl rfl ⟨(Nat.le_of_ble_eq_true rfl), (Nat.le_of_ble_eq_true rfl)⟩ ⟨(Nat.le_of_ble_eq_true rfl), (Nat.le_of_ble_eq_true rfl)⟩ (Nat.le_of_ble_eq_true rfl) (fun h0 => ?_) (fun h0 => ?_)
  · rw [if_pos h0] at hK
    have hK := Option.some.inj hK
    subst hK
    refine J_ws (ws2 := (List.flatten [wPL cI cB cO A r.2.2, [(ao, .inl (cL, 1, .inr (.inl f)))]])) (by simp [List.flatten]) ?_
    refine J_i2l (pc := 7) C dL_belowSince_7 ?_
    refine J_perm (ws2 := [(ao, .inl (cL, 1, .inr (.inl f)))] ++ wPL cI cB cO A r.2.2) (perm_out _ _) ?_
    refine J_last (pc := 8) C dL_belowSince_8 0 2 (rfl : ([(ao, .inl (cL, 1, .inr (.inl f)))] ++ wPL cI cB cO A r.2.2 : va_W)[0]? = some (ao, .inl (cL, 1, .inr (.inl f)))) rfl (by unfold vp_in; decide) ?_
    refine J_ws (ws2 := [(ao, .inl (cL, 1, .inr (.inl (vp_updL f 0 r.2.1.toInt64))))] ++ wPL cI cB cO A r.2.2) rfl ?_
    refine J_perm (ws2 := (List.flatten [wPL cI cB cO A r.2.2, [(ao, .inl (cL, 1, .inr (.inl (vp_updL f 0 r.2.1.toInt64))))]])) (perm_out _ _).symm ?_
    refine J_goto (tgt := 15) (pc := 9) C dL_belowSince_9 (by decide) ?_
    refine J_iconst (v := (0 : Int32)) (pc := 15) C dL_belowSince_15 (by decide) ?_
    refine J_widen (k2 := 1) (n2 := 6) (Nat.le_of_ble_eq_true rfl) (Nat.le_of_ble_eq_true rfl) ?_
    exact J_iret (pc := 16) C dL_belowSince_16 hr ⟨rfl, rfl⟩
  · rw [if_neg h0] at hK
    by_cases h0 : r.1 = 4
    · rw [if_pos h0] at hK
      have hK := Option.some.inj hK
      subst hK
      refine ⟨[], [], ⟨0, 9, 12, 34⟩, "java/lang/IndexOutOfBoundsException", ht, (fun z hz => by cases hz), rfl, Nat.succ_ne_zero _, cl_L_34, (by rw [h0]; exact ca_of C.2.2.2.2.2.2.2.2 (by decide)), fun q => ?_⟩
      refine J_ws (ws2 := (List.flatten [wPL cI cB cO A r.2.2, [(ao, .inl (cL, 1, .inr (.inl f)))]])) (by simp [List.flatten]) ?_
      refine J_astore_n (lv2 := [(3, .ref q), (0, .ref (A 0 0)), (1, .int x1), (2, .ref ao)]) (pc := 12) C dL_belowSince_12 (by decide) rfl ?_
      refine J_iconst (v := (1 : Int32)) (pc := 13) C dL_belowSince_13 (by decide) ?_
      refine J_widen (k2 := 1) (n2 := 6) (Nat.le_of_ble_eq_true rfl) (Nat.le_of_ble_eq_true rfl) ?_
      exact J_iret (pc := 14) C dL_belowSince_14 hr ⟨rfl, rfl⟩
    rw [if_neg h0] at hK
    cases hK
theorem dL_toNextTier_0 : decode cL_toNextTier 0 = .ok (.aload_n 2, 1) := by decide +kernel
theorem dL_toNextTier_1 : decode cL_toNextTier 1 = .ok (.iconst 0, 1) := by decide +kernel
theorem dL_toNextTier_2 : decode cL_toNextTier 2 = .ok (.aload_n 0, 1) := by decide +kernel
theorem dL_toNextTier_3 : decode cL_toNextTier 3 = .ok (.iload_n 1, 1) := by decide +kernel
theorem dL_toNextTier_4 : decode cL_toNextTier 4 = .ok (.invokevirtual 115, 3) := by decide +kernel
theorem dL_toNextTier_7 : decode cL_toNextTier 7 = .ok (.i2l, 1) := by decide +kernel
theorem dL_toNextTier_8 : decode cL_toNextTier 8 = .ok (.lastore, 1) := by decide +kernel
theorem dL_toNextTier_9 : decode cL_toNextTier 9 = .ok (.goto 9, 3) := by decide +kernel
theorem dL_toNextTier_12 : decode cL_toNextTier 12 = .ok (.astore_n 3, 1) := by decide +kernel
theorem dL_toNextTier_13 : decode cL_toNextTier 13 = .ok (.iconst 1, 1) := by decide +kernel
theorem dL_toNextTier_14 : decode cL_toNextTier 14 = .ok (.ireturn, 1) := by decide +kernel
theorem dL_toNextTier_15 : decode cL_toNextTier 15 = .ok (.astore_n 3, 1) := by decide +kernel
theorem dL_toNextTier_16 : decode cL_toNextTier 16 = .ok (.iconst 2, 1) := by decide +kernel
theorem dL_toNextTier_17 : decode cL_toNextTier 17 = .ok (.ireturn, 1) := by decide +kernel
theorem dL_toNextTier_18 : decode cL_toNextTier 18 = .ok (.iconst 0, 1) := by decide +kernel
theorem dL_toNextTier_19 : decode cL_toNextTier 19 = .ok (.ireturn, 1) := by decide +kernel
set_option maxHeartbeats 4000000 in
set_option maxRecDepth 100000 in
theorem V_toNextTier (l : Launch) (hl : l.stackTraces = false) (D : va_G) (cI cB cL cO : ClassId) (pf : Nat → Nat) (N : Nat) (A : Nat → Nat → Nat) (ao : Nat) (s : T_PL) (f : Nat → Int64) (x1 : Int32) (o : Int32 × T_PL × (Nat → Int64)) (h : W_toNextTier N s f x1 = some o) : CtH l D [(cI, .int), (cB, .byte), (cL, .long), (cO, .object RX0)] pf yL_toNextTier cL_toNextTier 4 (some FieldType.int) [(0, 9, 12, 34), (0, 9, 15, 28)] { frames := 9, cells := 2, slots := 12, locals := 174 } [.ref (A 0 0), .int x1, .ref ao] (List.flatten [wPL cI cB cO A s, [(ao, .inl (cL, 1, .inr (.inl f)))]]) (is1 (some (.int o.1)) (List.flatten [wPL cI cB cO A o.2.1, [(ao, .inl (cL, 1, .inr (.inl o.2.2)))]])) := by
  refine CtH_of (own := R_lawN) (lv0 := [(0, .ref (A 0 0)), (1, .int x1), (2, .ref ao)]) (by decide) rfl rfl (Nat.le_of_ble_eq_true rfl) ?_
  intro p e s' m args below meth c C hr ht
  obtain ⟨r, hr1, hK⟩ := Option.bind_eq_some_iff.mp h
  refine J_aload_n (pc := 0) C dL_toNextTier_0 2 rfl ?_
  refine J_iconst (v := (0 : Int32)) (pc := 1) C dL_toNextTier_1 (by decide) ?_
  refine J_aload_n (pc := 2) C dL_toNextTier_2 0 rfl ?_
  refine J_iload_n (pc := 3) C dL_toNextTier_3 1 rfl ?_
  refine J_xvH (o9 := r.1) (V := some (.int r.2.1)) (W1 := wPL cI cB cO A r.2.2) (Wc := wPL cI cB cO A s) (pc := 4) (As := [.int x1]) (st := [.int (0 : Int32), .ref ao]) C dL_toNextTier_4 ml_L_115 mi_yX10_toNextTier (Q_toNextTier l hl D cI cB cL cO pf N A s x1 r hr1) [(ao, .inl (cL, 1, .inr (.inl f)))] (by simp [List.flatten]) at_this rfl rfl ⟨(Nat.le_of_ble_eq_true rfl), (Nat.le_of_ble_eq_true rfl)⟩ ⟨(Nat.le_of_ble_eq_true rfl), (Nat.le_of_ble_eq_true rfl)⟩ (Nat.le_of_ble_eq_true rfl) (fun h0 => ?_) (fun h0 => ?_)
  · rw [if_pos h0] at hK
    have hK := Option.some.inj hK
    subst hK
    refine J_ws (ws2 := (List.flatten [wPL cI cB cO A r.2.2, [(ao, .inl (cL, 1, .inr (.inl f)))]])) (by simp [List.flatten]) ?_
    refine J_i2l (pc := 7) C dL_toNextTier_7 ?_
    refine J_perm (ws2 := [(ao, .inl (cL, 1, .inr (.inl f)))] ++ wPL cI cB cO A r.2.2) (perm_out _ _) ?_
    refine J_last (pc := 8) C dL_toNextTier_8 0 2 (rfl : ([(ao, .inl (cL, 1, .inr (.inl f)))] ++ wPL cI cB cO A r.2.2 : va_W)[0]? = some (ao, .inl (cL, 1, .inr (.inl f)))) rfl (by unfold vp_in; decide) ?_
    refine J_ws (ws2 := [(ao, .inl (cL, 1, .inr (.inl (vp_updL f 0 r.2.1.toInt64))))] ++ wPL cI cB cO A r.2.2) rfl ?_
    refine J_perm (ws2 := (List.flatten [wPL cI cB cO A r.2.2, [(ao, .inl (cL, 1, .inr (.inl (vp_updL f 0 r.2.1.toInt64))))]])) (perm_out _ _).symm ?_
    refine J_goto (tgt := 18) (pc := 9) C dL_toNextTier_9 (by decide) ?_
    refine J_iconst (v := (0 : Int32)) (pc := 18) C dL_toNextTier_18 (by decide) ?_
    refine J_widen (k2 := 2) (n2 := 12) (Nat.le_of_ble_eq_true rfl) (Nat.le_of_ble_eq_true rfl) ?_
    exact J_iret (pc := 19) C dL_toNextTier_19 hr ⟨rfl, rfl⟩
  · rw [if_neg h0] at hK
    by_cases h0 : r.1 = 4
    · rw [if_pos h0] at hK
      have hK := Option.some.inj hK
      subst hK
      refine ⟨[], [⟨0, 9, 15, 28⟩], ⟨0, 9, 12, 34⟩, "java/lang/IndexOutOfBoundsException", ht, (fun z hz => by cases hz), rfl, Nat.succ_ne_zero _, cl_L_34, (by rw [h0]; exact ca_of C.2.2.2.2.2.2.2.2 (by decide)), fun q => ?_⟩
      refine J_ws (ws2 := (List.flatten [wPL cI cB cO A r.2.2, [(ao, .inl (cL, 1, .inr (.inl f)))]])) (by simp [List.flatten]) ?_
      refine J_astore_n (lv2 := [(3, .ref q), (0, .ref (A 0 0)), (1, .int x1), (2, .ref ao)]) (pc := 12) C dL_toNextTier_12 (by decide) rfl ?_
      refine J_iconst (v := (1 : Int32)) (pc := 13) C dL_toNextTier_13 (by decide) ?_
      refine J_widen (k2 := 2) (n2 := 12) (Nat.le_of_ble_eq_true rfl) (Nat.le_of_ble_eq_true rfl) ?_
      exact J_iret (pc := 14) C dL_toNextTier_14 hr ⟨rfl, rfl⟩
    rw [if_neg h0] at hK
    by_cases h1 : r.1 = 3
    · rw [if_pos h1] at hK
      have hK := Option.some.inj hK
      subst hK
      refine ⟨[⟨0, 9, 12, 34⟩], [], ⟨0, 9, 15, 28⟩, "java/util/NoSuchElementException", ht, (fun z hz => by
          rcases List.mem_cons.mp hz with rfl | hz
          · exact ⟨Nat.succ_ne_zero _, "java/lang/IndexOutOfBoundsException", cl_L_34, (by rw [h1]; exact nc_of C.2.2.2.2.2.2.2.2 (by decide))⟩
          cases hz), rfl, Nat.succ_ne_zero _, cl_L_28, (by rw [h1]; exact ca_of C.2.2.2.2.2.2.2.2 (by decide)), fun q => ?_⟩
      refine J_ws (ws2 := (List.flatten [wPL cI cB cO A r.2.2, [(ao, .inl (cL, 1, .inr (.inl f)))]])) (by simp [List.flatten]) ?_
      refine J_astore_n (lv2 := [(3, .ref q), (0, .ref (A 0 0)), (1, .int x1), (2, .ref ao)]) (pc := 15) C dL_toNextTier_15 (by decide) rfl ?_
      refine J_iconst (v := (2 : Int32)) (pc := 16) C dL_toNextTier_16 (by decide) ?_
      refine J_widen (k2 := 2) (n2 := 12) (Nat.le_of_ble_eq_true rfl) (Nat.le_of_ble_eq_true rfl) ?_
      exact J_iret (pc := 17) C dL_toNextTier_17 hr ⟨rfl, rfl⟩
    rw [if_neg h1] at hK
    cases hK
theorem dL_tierAfter_0 : decode cL_tierAfter 0 = .ok (.aload_n 3, 1) := by decide +kernel
theorem dL_tierAfter_1 : decode cL_tierAfter 1 = .ok (.iconst 0, 1) := by decide +kernel
theorem dL_tierAfter_2 : decode cL_tierAfter 2 = .ok (.aload_n 0, 1) := by decide +kernel
theorem dL_tierAfter_3 : decode cL_tierAfter 3 = .ok (.iload_n 1, 1) := by decide +kernel
theorem dL_tierAfter_4 : decode cL_tierAfter 4 = .ok (.iload_n 2, 1) := by decide +kernel
theorem dL_tierAfter_5 : decode cL_tierAfter 5 = .ok (.invokevirtual 118, 3) := by decide +kernel
theorem dL_tierAfter_8 : decode cL_tierAfter 8 = .ok (.i2l, 1) := by decide +kernel
theorem dL_tierAfter_9 : decode cL_tierAfter 9 = .ok (.lastore, 1) := by decide +kernel
theorem dL_tierAfter_10 : decode cL_tierAfter 10 = .ok (.goto 11, 3) := by decide +kernel
theorem dL_tierAfter_13 : decode cL_tierAfter 13 = .ok (.astore 4, 2) := by decide +kernel
theorem dL_tierAfter_15 : decode cL_tierAfter 15 = .ok (.iconst 1, 1) := by decide +kernel
theorem dL_tierAfter_16 : decode cL_tierAfter 16 = .ok (.ireturn, 1) := by decide +kernel
theorem dL_tierAfter_17 : decode cL_tierAfter 17 = .ok (.astore 4, 2) := by decide +kernel
theorem dL_tierAfter_19 : decode cL_tierAfter 19 = .ok (.iconst 2, 1) := by decide +kernel
theorem dL_tierAfter_20 : decode cL_tierAfter 20 = .ok (.ireturn, 1) := by decide +kernel
theorem dL_tierAfter_21 : decode cL_tierAfter 21 = .ok (.iconst 0, 1) := by decide +kernel
theorem dL_tierAfter_22 : decode cL_tierAfter 22 = .ok (.ireturn, 1) := by decide +kernel
set_option maxHeartbeats 4000000 in
set_option maxRecDepth 100000 in
theorem V_tierAfter (l : Launch) (hl : l.stackTraces = false) (D : va_G) (cI cB cL cO : ClassId) (pf : Nat → Nat) (N : Nat) (A : Nat → Nat → Nat) (ao : Nat) (s : T_PL) (f : Nat → Int64) (x1 : Int32) (x2 : Int32) (o : Int32 × T_PL × (Nat → Int64)) (h : W_tierAfter N s f x1 x2 = some o) : CtH l D [(cI, .int), (cB, .byte), (cL, .long), (cO, .object RX0)] pf yL_tierAfter cL_tierAfter 5 (some FieldType.int) [(0, 10, 13, 34), (0, 10, 17, 19)] { frames := 9, cells := 2, slots := 12, locals := 174 } [.ref (A 0 0), .int x1, .int x2, .ref ao] (List.flatten [wPL cI cB cO A s, [(ao, .inl (cL, 1, .inr (.inl f)))]]) (is1 (some (.int o.1)) (List.flatten [wPL cI cB cO A o.2.1, [(ao, .inl (cL, 1, .inr (.inl o.2.2)))]])) := by
  refine CtH_of (own := R_lawN) (lv0 := [(0, .ref (A 0 0)), (1, .int x1), (2, .int x2), (3, .ref ao)]) (by decide) rfl rfl (Nat.le_of_ble_eq_true rfl) ?_
  intro p e s' m args below meth c C hr ht
  obtain ⟨r, hr1, hK⟩ := Option.bind_eq_some_iff.mp h
  refine J_aload_n (pc := 0) C dL_tierAfter_0 3 rfl ?_
  refine J_iconst (v := (0 : Int32)) (pc := 1) C dL_tierAfter_1 (by decide) ?_
  refine J_aload_n (pc := 2) C dL_tierAfter_2 0 rfl ?_
  refine J_iload_n (pc := 3) C dL_tierAfter_3 1 rfl ?_
  refine J_iload_n (pc := 4) C dL_tierAfter_4 2 rfl ?_
  refine J_xvH (o9 := r.1) (V := some (.int r.2.1)) (W1 := wPL cI cB cO A r.2.2) (Wc := wPL cI cB cO A s) (pc := 5) (As := [.int x1, .int x2]) (st := [.int (0 : Int32), .ref ao]) C dL_tierAfter_5 ml_L_118 mi_yX10_tierAfter (Q_tierAfter l hl D cI cB cL cO pf N A s x1 x2 r hr1) [(ao, .inl (cL, 1, .inr (.inl f)))] (by simp [List.flatten]) at_this rfl rfl ⟨(Nat.le_of_ble_eq_true rfl), (Nat.le_of_ble_eq_true rfl)⟩ ⟨(Nat.le_of_ble_eq_true rfl), (Nat.le_of_ble_eq_true rfl)⟩ (Nat.le_of_ble_eq_true rfl) (fun h0 => ?_) (fun h0 => ?_)
  · rw [if_pos h0] at hK
    have hK := Option.some.inj hK
    subst hK
    refine J_ws (ws2 := (List.flatten [wPL cI cB cO A r.2.2, [(ao, .inl (cL, 1, .inr (.inl f)))]])) (by simp [List.flatten]) ?_
    refine J_i2l (pc := 8) C dL_tierAfter_8 ?_
    refine J_perm (ws2 := [(ao, .inl (cL, 1, .inr (.inl f)))] ++ wPL cI cB cO A r.2.2) (perm_out _ _) ?_
    refine J_last (pc := 9) C dL_tierAfter_9 0 2 (rfl : ([(ao, .inl (cL, 1, .inr (.inl f)))] ++ wPL cI cB cO A r.2.2 : va_W)[0]? = some (ao, .inl (cL, 1, .inr (.inl f)))) rfl (by unfold vp_in; decide) ?_
    refine J_ws (ws2 := [(ao, .inl (cL, 1, .inr (.inl (vp_updL f 0 r.2.1.toInt64))))] ++ wPL cI cB cO A r.2.2) rfl ?_
    refine J_perm (ws2 := (List.flatten [wPL cI cB cO A r.2.2, [(ao, .inl (cL, 1, .inr (.inl (vp_updL f 0 r.2.1.toInt64))))]])) (perm_out _ _).symm ?_
    refine J_goto (tgt := 21) (pc := 10) C dL_tierAfter_10 (by decide) ?_
    refine J_iconst (v := (0 : Int32)) (pc := 21) C dL_tierAfter_21 (by decide) ?_
    refine J_widen (k2 := 2) (n2 := 12) (Nat.le_of_ble_eq_true rfl) (Nat.le_of_ble_eq_true rfl) ?_
    exact J_iret (pc := 22) C dL_tierAfter_22 hr ⟨rfl, rfl⟩
  · rw [if_neg h0] at hK
    by_cases h0 : r.1 = 4
    · rw [if_pos h0] at hK
      have hK := Option.some.inj hK
      subst hK
      refine ⟨[], [⟨0, 10, 17, 19⟩], ⟨0, 10, 13, 34⟩, "java/lang/IndexOutOfBoundsException", ht, (fun z hz => by cases hz), rfl, Nat.succ_ne_zero _, cl_L_34, (by rw [h0]; exact ca_of C.2.2.2.2.2.2.2.2 (by decide)), fun q => ?_⟩
      refine J_ws (ws2 := (List.flatten [wPL cI cB cO A r.2.2, [(ao, .inl (cL, 1, .inr (.inl f)))]])) (by simp [List.flatten]) ?_
      refine J_astore (lv2 := [(4, .ref q), (0, .ref (A 0 0)), (1, .int x1), (2, .int x2), (3, .ref ao)]) (pc := 13) C dL_tierAfter_13 (by decide) rfl ?_
      refine J_iconst (v := (1 : Int32)) (pc := 15) C dL_tierAfter_15 (by decide) ?_
      refine J_widen (k2 := 2) (n2 := 12) (Nat.le_of_ble_eq_true rfl) (Nat.le_of_ble_eq_true rfl) ?_
      exact J_iret (pc := 16) C dL_tierAfter_16 hr ⟨rfl, rfl⟩
    rw [if_neg h0] at hK
    by_cases h1 : r.1 = 2
    · rw [if_pos h1] at hK
      have hK := Option.some.inj hK
      subst hK
      refine ⟨[⟨0, 10, 13, 34⟩], [], ⟨0, 10, 17, 19⟩, "java/lang/IllegalArgumentException", ht, (fun z hz => by
          rcases List.mem_cons.mp hz with rfl | hz
          · exact ⟨Nat.succ_ne_zero _, "java/lang/IndexOutOfBoundsException", cl_L_34, (by rw [h1]; exact nc_of C.2.2.2.2.2.2.2.2 (by decide))⟩
          cases hz), rfl, Nat.succ_ne_zero _, cl_L_19, (by rw [h1]; exact ca_of C.2.2.2.2.2.2.2.2 (by decide)), fun q => ?_⟩
      refine J_ws (ws2 := (List.flatten [wPL cI cB cO A r.2.2, [(ao, .inl (cL, 1, .inr (.inl f)))]])) (by simp [List.flatten]) ?_
      refine J_astore (lv2 := [(4, .ref q), (0, .ref (A 0 0)), (1, .int x1), (2, .int x2), (3, .ref ao)]) (pc := 17) C dL_tierAfter_17 (by decide) rfl ?_
      refine J_iconst (v := (2 : Int32)) (pc := 19) C dL_tierAfter_19 (by decide) ?_
      refine J_widen (k2 := 2) (n2 := 12) (Nat.le_of_ble_eq_true rfl) (Nat.le_of_ble_eq_true rfl) ?_
      exact J_iret (pc := 20) C dL_tierAfter_20 hr ⟨rfl, rfl⟩
    rw [if_neg h1] at hK
    cases hK
theorem dL_wouldEarn_0 : decode cL_wouldEarn 0 = .ok (.aload 4, 2) := by decide +kernel
theorem dL_wouldEarn_2 : decode cL_wouldEarn 2 = .ok (.iconst 0, 1) := by decide +kernel
theorem dL_wouldEarn_3 : decode cL_wouldEarn 3 = .ok (.aload_n 0, 1) := by decide +kernel
theorem dL_wouldEarn_4 : decode cL_wouldEarn 4 = .ok (.iload_n 1, 1) := by decide +kernel
theorem dL_wouldEarn_5 : decode cL_wouldEarn 5 = .ok (.iload_n 2, 1) := by decide +kernel
theorem dL_wouldEarn_6 : decode cL_wouldEarn 6 = .ok (.iload_n 3, 1) := by decide +kernel
theorem dL_wouldEarn_7 : decode cL_wouldEarn 7 = .ok (.invokevirtual 121, 3) := by decide +kernel
theorem dL_wouldEarn_10 : decode cL_wouldEarn 10 = .ok (.i2l, 1) := by decide +kernel
theorem dL_wouldEarn_11 : decode cL_wouldEarn 11 = .ok (.lastore, 1) := by decide +kernel
theorem dL_wouldEarn_12 : decode cL_wouldEarn 12 = .ok (.goto 11, 3) := by decide +kernel
theorem dL_wouldEarn_15 : decode cL_wouldEarn 15 = .ok (.astore 5, 2) := by decide +kernel
theorem dL_wouldEarn_17 : decode cL_wouldEarn 17 = .ok (.iconst 1, 1) := by decide +kernel
theorem dL_wouldEarn_18 : decode cL_wouldEarn 18 = .ok (.ireturn, 1) := by decide +kernel
theorem dL_wouldEarn_19 : decode cL_wouldEarn 19 = .ok (.astore 5, 2) := by decide +kernel
theorem dL_wouldEarn_21 : decode cL_wouldEarn 21 = .ok (.iconst 2, 1) := by decide +kernel
theorem dL_wouldEarn_22 : decode cL_wouldEarn 22 = .ok (.ireturn, 1) := by decide +kernel
theorem dL_wouldEarn_23 : decode cL_wouldEarn 23 = .ok (.iconst 0, 1) := by decide +kernel
theorem dL_wouldEarn_24 : decode cL_wouldEarn 24 = .ok (.ireturn, 1) := by decide +kernel
set_option maxHeartbeats 4000000 in
set_option maxRecDepth 100000 in
theorem V_wouldEarn (l : Launch) (hl : l.stackTraces = false) (D : va_G) (cI cB cL cO : ClassId) (pf : Nat → Nat) (N : Nat) (A : Nat → Nat → Nat) (ao : Nat) (s : T_PL) (f : Nat → Int64) (x1 : Int32) (x2 : Int32) (x3 : Int32) (o : Int32 × T_PL × (Nat → Int64)) (h : W_wouldEarn N s f x1 x2 x3 = some o) : CtH l D [(cI, .int), (cB, .byte), (cL, .long), (cO, .object RX0)] pf yL_wouldEarn cL_wouldEarn 6 (some FieldType.int) [(0, 12, 15, 34), (0, 12, 19, 19)] { frames := 9, cells := 3, slots := 18, locals := 175 } [.ref (A 0 0), .int x1, .int x2, .int x3, .ref ao] (List.flatten [wPL cI cB cO A s, [(ao, .inl (cL, 1, .inr (.inl f)))]]) (is1 (some (.int o.1)) (List.flatten [wPL cI cB cO A o.2.1, [(ao, .inl (cL, 1, .inr (.inl o.2.2)))]])) := by
  refine CtH_of (own := R_lawN) (lv0 := [(0, .ref (A 0 0)), (1, .int x1), (2, .int x2), (3, .int x3), (4, .ref ao)]) (by decide) rfl rfl (Nat.le_of_ble_eq_true rfl) ?_
  intro p e s' m args below meth c C hr ht
  obtain ⟨r, hr1, hK⟩ := Option.bind_eq_some_iff.mp h
  refine J_aload (pc := 0) C dL_wouldEarn_0 4 rfl ?_
  refine J_iconst (v := (0 : Int32)) (pc := 2) C dL_wouldEarn_2 (by decide) ?_
  refine J_aload_n (pc := 3) C dL_wouldEarn_3 0 rfl ?_
  refine J_iload_n (pc := 4) C dL_wouldEarn_4 1 rfl ?_
  refine J_iload_n (pc := 5) C dL_wouldEarn_5 2 rfl ?_
  refine J_iload_n (pc := 6) C dL_wouldEarn_6 3 rfl ?_
  refine J_xvH (o9 := r.1) (V := some (.int r.2.1)) (W1 := wPL cI cB cO A r.2.2) (Wc := wPL cI cB cO A s) (pc := 7) (As := [.int x1, .int x2, .int x3]) (st := [.int (0 : Int32), .ref ao]) C dL_wouldEarn_7 ml_L_121 mi_yX10_wouldEarn (Q_wouldEarn l hl D cI cB cL cO pf N A s x1 x2 x3 r hr1) [(ao, .inl (cL, 1, .inr (.inl f)))] (by simp [List.flatten]) at_this rfl rfl ⟨(Nat.le_of_ble_eq_true rfl), (Nat.le_of_ble_eq_true rfl)⟩ ⟨(Nat.le_of_ble_eq_true rfl), (Nat.le_of_ble_eq_true rfl)⟩ (Nat.le_of_ble_eq_true rfl) (fun h0 => ?_) (fun h0 => ?_)
  · rw [if_pos h0] at hK
    have hK := Option.some.inj hK
    subst hK
    refine J_ws (ws2 := (List.flatten [wPL cI cB cO A r.2.2, [(ao, .inl (cL, 1, .inr (.inl f)))]])) (by simp [List.flatten]) ?_
    refine J_i2l (pc := 10) C dL_wouldEarn_10 ?_
    refine J_perm (ws2 := [(ao, .inl (cL, 1, .inr (.inl f)))] ++ wPL cI cB cO A r.2.2) (perm_out _ _) ?_
    refine J_last (pc := 11) C dL_wouldEarn_11 0 2 (rfl : ([(ao, .inl (cL, 1, .inr (.inl f)))] ++ wPL cI cB cO A r.2.2 : va_W)[0]? = some (ao, .inl (cL, 1, .inr (.inl f)))) rfl (by unfold vp_in; decide) ?_
    refine J_ws (ws2 := [(ao, .inl (cL, 1, .inr (.inl (vp_updL f 0 r.2.1.toInt64))))] ++ wPL cI cB cO A r.2.2) rfl ?_
    refine J_perm (ws2 := (List.flatten [wPL cI cB cO A r.2.2, [(ao, .inl (cL, 1, .inr (.inl (vp_updL f 0 r.2.1.toInt64))))]])) (perm_out _ _).symm ?_
    refine J_goto (tgt := 23) (pc := 12) C dL_wouldEarn_12 (by decide) ?_
    refine J_iconst (v := (0 : Int32)) (pc := 23) C dL_wouldEarn_23 (by decide) ?_
    refine J_widen (k2 := 3) (n2 := 18) (Nat.le_of_ble_eq_true rfl) (Nat.le_of_ble_eq_true rfl) ?_
    exact J_iret (pc := 24) C dL_wouldEarn_24 hr ⟨rfl, rfl⟩
  · rw [if_neg h0] at hK
    by_cases h0 : r.1 = 4
    · rw [if_pos h0] at hK
      have hK := Option.some.inj hK
      subst hK
      refine ⟨[], [⟨0, 12, 19, 19⟩], ⟨0, 12, 15, 34⟩, "java/lang/IndexOutOfBoundsException", ht, (fun z hz => by cases hz), rfl, Nat.succ_ne_zero _, cl_L_34, (by rw [h0]; exact ca_of C.2.2.2.2.2.2.2.2 (by decide)), fun q => ?_⟩
      refine J_ws (ws2 := (List.flatten [wPL cI cB cO A r.2.2, [(ao, .inl (cL, 1, .inr (.inl f)))]])) (by simp [List.flatten]) ?_
      refine J_astore (lv2 := [(5, .ref q), (0, .ref (A 0 0)), (1, .int x1), (2, .int x2), (3, .int x3), (4, .ref ao)]) (pc := 15) C dL_wouldEarn_15 (by decide) rfl ?_
      refine J_iconst (v := (1 : Int32)) (pc := 17) C dL_wouldEarn_17 (by decide) ?_
      refine J_widen (k2 := 3) (n2 := 18) (Nat.le_of_ble_eq_true rfl) (Nat.le_of_ble_eq_true rfl) ?_
      exact J_iret (pc := 18) C dL_wouldEarn_18 hr ⟨rfl, rfl⟩
    rw [if_neg h0] at hK
    by_cases h1 : r.1 = 2
    · rw [if_pos h1] at hK
      have hK := Option.some.inj hK
      subst hK
      refine ⟨[⟨0, 12, 15, 34⟩], [], ⟨0, 12, 19, 19⟩, "java/lang/IllegalArgumentException", ht, (fun z hz => by
          rcases List.mem_cons.mp hz with rfl | hz
          · exact ⟨Nat.succ_ne_zero _, "java/lang/IndexOutOfBoundsException", cl_L_34, (by rw [h1]; exact nc_of C.2.2.2.2.2.2.2.2 (by decide))⟩
          cases hz), rfl, Nat.succ_ne_zero _, cl_L_19, (by rw [h1]; exact ca_of C.2.2.2.2.2.2.2.2 (by decide)), fun q => ?_⟩
      refine J_ws (ws2 := (List.flatten [wPL cI cB cO A r.2.2, [(ao, .inl (cL, 1, .inr (.inl f)))]])) (by simp [List.flatten]) ?_
      refine J_astore (lv2 := [(5, .ref q), (0, .ref (A 0 0)), (1, .int x1), (2, .int x2), (3, .int x3), (4, .ref ao)]) (pc := 19) C dL_wouldEarn_19 (by decide) rfl ?_
      refine J_iconst (v := (2 : Int32)) (pc := 21) C dL_wouldEarn_21 (by decide) ?_
      refine J_widen (k2 := 3) (n2 := 18) (Nat.le_of_ble_eq_true rfl) (Nat.le_of_ble_eq_true rfl) ?_
      exact J_iret (pc := 22) C dL_wouldEarn_22 hr ⟨rfl, rfl⟩
    rw [if_neg h1] at hK
    cases hK
theorem dL_bestCategory_0 : decode cL_bestCategory 0 = .ok (.aload_n 3, 1) := by decide +kernel
theorem dL_bestCategory_1 : decode cL_bestCategory 1 = .ok (.iconst 0, 1) := by decide +kernel
theorem dL_bestCategory_2 : decode cL_bestCategory 2 = .ok (.aload_n 0, 1) := by decide +kernel
theorem dL_bestCategory_3 : decode cL_bestCategory 3 = .ok (.iload_n 1, 1) := by decide +kernel
theorem dL_bestCategory_4 : decode cL_bestCategory 4 = .ok (.iload_n 2, 1) := by decide +kernel
theorem dL_bestCategory_5 : decode cL_bestCategory 5 = .ok (.invokevirtual 124, 3) := by decide +kernel
theorem dL_bestCategory_8 : decode cL_bestCategory 8 = .ok (.i2l, 1) := by decide +kernel
theorem dL_bestCategory_9 : decode cL_bestCategory 9 = .ok (.lastore, 1) := by decide +kernel
theorem dL_bestCategory_10 : decode cL_bestCategory 10 = .ok (.goto 15, 3) := by decide +kernel
theorem dL_bestCategory_13 : decode cL_bestCategory 13 = .ok (.astore 4, 2) := by decide +kernel
theorem dL_bestCategory_15 : decode cL_bestCategory 15 = .ok (.iconst 1, 1) := by decide +kernel
theorem dL_bestCategory_16 : decode cL_bestCategory 16 = .ok (.ireturn, 1) := by decide +kernel
theorem dL_bestCategory_17 : decode cL_bestCategory 17 = .ok (.astore 4, 2) := by decide +kernel
theorem dL_bestCategory_19 : decode cL_bestCategory 19 = .ok (.iconst 2, 1) := by decide +kernel
theorem dL_bestCategory_20 : decode cL_bestCategory 20 = .ok (.ireturn, 1) := by decide +kernel
theorem dL_bestCategory_21 : decode cL_bestCategory 21 = .ok (.astore 4, 2) := by decide +kernel
theorem dL_bestCategory_23 : decode cL_bestCategory 23 = .ok (.iconst 3, 1) := by decide +kernel
theorem dL_bestCategory_24 : decode cL_bestCategory 24 = .ok (.ireturn, 1) := by decide +kernel
theorem dL_bestCategory_25 : decode cL_bestCategory 25 = .ok (.iconst 0, 1) := by decide +kernel
theorem dL_bestCategory_26 : decode cL_bestCategory 26 = .ok (.ireturn, 1) := by decide +kernel
set_option maxHeartbeats 4000000 in
set_option maxRecDepth 100000 in
theorem V_bestCategory (l : Launch) (hl : l.stackTraces = false) (D : va_G) (cI cB cL cO : ClassId) (pf : Nat → Nat) (N : Nat) (A : Nat → Nat → Nat) (ao : Nat) (s : T_PL) (f : Nat → Int64) (x1 : Int32) (x2 : Int32) (o : Int32 × T_PL × (Nat → Int64)) (h : W_bestCategory N s f x1 x2 = some o) : CtH l D [(cI, .int), (cB, .byte), (cL, .long), (cO, .object RX0)] pf yL_bestCategory cL_bestCategory 5 (some FieldType.int) [(0, 10, 13, 34), (0, 10, 17, 19), (0, 10, 21, 28)] { frames := 9, cells := 3, slots := 18, locals := 175 } [.ref (A 0 0), .int x1, .int x2, .ref ao] (List.flatten [wPL cI cB cO A s, [(ao, .inl (cL, 1, .inr (.inl f)))]]) (is1 (some (.int o.1)) (List.flatten [wPL cI cB cO A o.2.1, [(ao, .inl (cL, 1, .inr (.inl o.2.2)))]])) := by
  refine CtH_of (own := R_lawN) (lv0 := [(0, .ref (A 0 0)), (1, .int x1), (2, .int x2), (3, .ref ao)]) (by decide) rfl rfl (Nat.le_of_ble_eq_true rfl) ?_
  intro p e s' m args below meth c C hr ht
  obtain ⟨r, hr1, hK⟩ := Option.bind_eq_some_iff.mp h
  refine J_aload_n (pc := 0) C dL_bestCategory_0 3 rfl ?_
  refine J_iconst (v := (0 : Int32)) (pc := 1) C dL_bestCategory_1 (by decide) ?_
  refine J_aload_n (pc := 2) C dL_bestCategory_2 0 rfl ?_
  refine J_iload_n (pc := 3) C dL_bestCategory_3 1 rfl ?_
  refine J_iload_n (pc := 4) C dL_bestCategory_4 2 rfl ?_
  refine J_xvH (o9 := r.1) (V := some (.int r.2.1)) (W1 := wPL cI cB cO A r.2.2) (Wc := wPL cI cB cO A s) (pc := 5) (As := [.int x1, .int x2]) (st := [.int (0 : Int32), .ref ao]) C dL_bestCategory_5 ml_L_124 mi_yX10_bestCategory (Q_bestCategory l hl D cI cB cL cO pf N A s x1 x2 r hr1) [(ao, .inl (cL, 1, .inr (.inl f)))] (by simp [List.flatten]) at_this rfl rfl ⟨(Nat.le_of_ble_eq_true rfl), (Nat.le_of_ble_eq_true rfl)⟩ ⟨(Nat.le_of_ble_eq_true rfl), (Nat.le_of_ble_eq_true rfl)⟩ (Nat.le_of_ble_eq_true rfl) (fun h0 => ?_) (fun h0 => ?_)
  · rw [if_pos h0] at hK
    have hK := Option.some.inj hK
    subst hK
    refine J_ws (ws2 := (List.flatten [wPL cI cB cO A r.2.2, [(ao, .inl (cL, 1, .inr (.inl f)))]])) (by simp [List.flatten]) ?_
    refine J_i2l (pc := 8) C dL_bestCategory_8 ?_
    refine J_perm (ws2 := [(ao, .inl (cL, 1, .inr (.inl f)))] ++ wPL cI cB cO A r.2.2) (perm_out _ _) ?_
    refine J_last (pc := 9) C dL_bestCategory_9 0 2 (rfl : ([(ao, .inl (cL, 1, .inr (.inl f)))] ++ wPL cI cB cO A r.2.2 : va_W)[0]? = some (ao, .inl (cL, 1, .inr (.inl f)))) rfl (by unfold vp_in; decide) ?_
    refine J_ws (ws2 := [(ao, .inl (cL, 1, .inr (.inl (vp_updL f 0 r.2.1.toInt64))))] ++ wPL cI cB cO A r.2.2) rfl ?_
    refine J_perm (ws2 := (List.flatten [wPL cI cB cO A r.2.2, [(ao, .inl (cL, 1, .inr (.inl (vp_updL f 0 r.2.1.toInt64))))]])) (perm_out _ _).symm ?_
    refine J_goto (tgt := 25) (pc := 10) C dL_bestCategory_10 (by decide) ?_
    refine J_iconst (v := (0 : Int32)) (pc := 25) C dL_bestCategory_25 (by decide) ?_
    refine J_widen (k2 := 3) (n2 := 18) (Nat.le_of_ble_eq_true rfl) (Nat.le_of_ble_eq_true rfl) ?_
    exact J_iret (pc := 26) C dL_bestCategory_26 hr ⟨rfl, rfl⟩
  · rw [if_neg h0] at hK
    by_cases h0 : r.1 = 4
    · rw [if_pos h0] at hK
      have hK := Option.some.inj hK
      subst hK
      refine ⟨[], [⟨0, 10, 17, 19⟩, ⟨0, 10, 21, 28⟩], ⟨0, 10, 13, 34⟩, "java/lang/IndexOutOfBoundsException", ht, (fun z hz => by cases hz), rfl, Nat.succ_ne_zero _, cl_L_34, (by rw [h0]; exact ca_of C.2.2.2.2.2.2.2.2 (by decide)), fun q => ?_⟩
      refine J_ws (ws2 := (List.flatten [wPL cI cB cO A r.2.2, [(ao, .inl (cL, 1, .inr (.inl f)))]])) (by simp [List.flatten]) ?_
      refine J_astore (lv2 := [(4, .ref q), (0, .ref (A 0 0)), (1, .int x1), (2, .int x2), (3, .ref ao)]) (pc := 13) C dL_bestCategory_13 (by decide) rfl ?_
      refine J_iconst (v := (1 : Int32)) (pc := 15) C dL_bestCategory_15 (by decide) ?_
      refine J_widen (k2 := 3) (n2 := 18) (Nat.le_of_ble_eq_true rfl) (Nat.le_of_ble_eq_true rfl) ?_
      exact J_iret (pc := 16) C dL_bestCategory_16 hr ⟨rfl, rfl⟩
    rw [if_neg h0] at hK
    by_cases h1 : r.1 = 2
    · rw [if_pos h1] at hK
      have hK := Option.some.inj hK
      subst hK
      refine ⟨[⟨0, 10, 13, 34⟩], [⟨0, 10, 21, 28⟩], ⟨0, 10, 17, 19⟩, "java/lang/IllegalArgumentException", ht, (fun z hz => by
          rcases List.mem_cons.mp hz with rfl | hz
          · exact ⟨Nat.succ_ne_zero _, "java/lang/IndexOutOfBoundsException", cl_L_34, (by rw [h1]; exact nc_of C.2.2.2.2.2.2.2.2 (by decide))⟩
          cases hz), rfl, Nat.succ_ne_zero _, cl_L_19, (by rw [h1]; exact ca_of C.2.2.2.2.2.2.2.2 (by decide)), fun q => ?_⟩
      refine J_ws (ws2 := (List.flatten [wPL cI cB cO A r.2.2, [(ao, .inl (cL, 1, .inr (.inl f)))]])) (by simp [List.flatten]) ?_
      refine J_astore (lv2 := [(4, .ref q), (0, .ref (A 0 0)), (1, .int x1), (2, .int x2), (3, .ref ao)]) (pc := 17) C dL_bestCategory_17 (by decide) rfl ?_
      refine J_iconst (v := (2 : Int32)) (pc := 19) C dL_bestCategory_19 (by decide) ?_
      refine J_widen (k2 := 3) (n2 := 18) (Nat.le_of_ble_eq_true rfl) (Nat.le_of_ble_eq_true rfl) ?_
      exact J_iret (pc := 20) C dL_bestCategory_20 hr ⟨rfl, rfl⟩
    rw [if_neg h1] at hK
    by_cases h2 : r.1 = 3
    · rw [if_pos h2] at hK
      have hK := Option.some.inj hK
      subst hK
      refine ⟨[⟨0, 10, 13, 34⟩, ⟨0, 10, 17, 19⟩], [], ⟨0, 10, 21, 28⟩, "java/util/NoSuchElementException", ht, (fun z hz => by
          rcases List.mem_cons.mp hz with rfl | hz
          · exact ⟨Nat.succ_ne_zero _, "java/lang/IndexOutOfBoundsException", cl_L_34, (by rw [h2]; exact nc_of C.2.2.2.2.2.2.2.2 (by decide))⟩
          rcases List.mem_cons.mp hz with rfl | hz
          · exact ⟨Nat.succ_ne_zero _, "java/lang/IllegalArgumentException", cl_L_19, (by rw [h2]; exact nc_of C.2.2.2.2.2.2.2.2 (by decide))⟩
          cases hz), rfl, Nat.succ_ne_zero _, cl_L_28, (by rw [h2]; exact ca_of C.2.2.2.2.2.2.2.2 (by decide)), fun q => ?_⟩
      refine J_ws (ws2 := (List.flatten [wPL cI cB cO A r.2.2, [(ao, .inl (cL, 1, .inr (.inl f)))]])) (by simp [List.flatten]) ?_
      refine J_astore (lv2 := [(4, .ref q), (0, .ref (A 0 0)), (1, .int x1), (2, .int x2), (3, .ref ao)]) (pc := 21) C dL_bestCategory_21 (by decide) rfl ?_
      refine J_iconst (v := (3 : Int32)) (pc := 23) C dL_bestCategory_23 (by decide) ?_
      refine J_widen (k2 := 3) (n2 := 18) (Nat.le_of_ble_eq_true rfl) (Nat.le_of_ble_eq_true rfl) ?_
      exact J_iret (pc := 24) C dL_bestCategory_24 hr ⟨rfl, rfl⟩
    rw [if_neg h2] at hK
    cases hK
theorem dL_leastCents_0 : decode cL_leastCents 0 = .ok (.aload 4, 2) := by decide +kernel
theorem dL_leastCents_2 : decode cL_leastCents 2 = .ok (.iconst 0, 1) := by decide +kernel
theorem dL_leastCents_3 : decode cL_leastCents 3 = .ok (.aload_n 0, 1) := by decide +kernel
theorem dL_leastCents_4 : decode cL_leastCents 4 = .ok (.iload_n 1, 1) := by decide +kernel
theorem dL_leastCents_5 : decode cL_leastCents 5 = .ok (.iload_n 2, 1) := by decide +kernel
theorem dL_leastCents_6 : decode cL_leastCents 6 = .ok (.iload_n 3, 1) := by decide +kernel
theorem dL_leastCents_7 : decode cL_leastCents 7 = .ok (.invokevirtual 127, 3) := by decide +kernel
theorem dL_leastCents_10 : decode cL_leastCents 10 = .ok (.i2l, 1) := by decide +kernel
theorem dL_leastCents_11 : decode cL_leastCents 11 = .ok (.lastore, 1) := by decide +kernel
theorem dL_leastCents_12 : decode cL_leastCents 12 = .ok (.goto 15, 3) := by decide +kernel
theorem dL_leastCents_15 : decode cL_leastCents 15 = .ok (.astore 5, 2) := by decide +kernel
theorem dL_leastCents_17 : decode cL_leastCents 17 = .ok (.iconst 1, 1) := by decide +kernel
theorem dL_leastCents_18 : decode cL_leastCents 18 = .ok (.ireturn, 1) := by decide +kernel
theorem dL_leastCents_19 : decode cL_leastCents 19 = .ok (.astore 5, 2) := by decide +kernel
theorem dL_leastCents_21 : decode cL_leastCents 21 = .ok (.iconst 2, 1) := by decide +kernel
theorem dL_leastCents_22 : decode cL_leastCents 22 = .ok (.ireturn, 1) := by decide +kernel
theorem dL_leastCents_23 : decode cL_leastCents 23 = .ok (.astore 5, 2) := by decide +kernel
theorem dL_leastCents_25 : decode cL_leastCents 25 = .ok (.iconst 3, 1) := by decide +kernel
theorem dL_leastCents_26 : decode cL_leastCents 26 = .ok (.ireturn, 1) := by decide +kernel
theorem dL_leastCents_27 : decode cL_leastCents 27 = .ok (.iconst 0, 1) := by decide +kernel
theorem dL_leastCents_28 : decode cL_leastCents 28 = .ok (.ireturn, 1) := by decide +kernel
set_option maxHeartbeats 4000000 in
set_option maxRecDepth 100000 in
theorem V_leastCents (l : Launch) (hl : l.stackTraces = false) (D : va_G) (cI cB cL cO : ClassId) (pf : Nat → Nat) (N : Nat) (A : Nat → Nat → Nat) (ao : Nat) (s : T_PL) (f : Nat → Int64) (x1 : Int32) (x2 : Int32) (x3 : Int32) (o : Int32 × T_PL × (Nat → Int64)) (h : W_leastCents N s f x1 x2 x3 = some o) : CtH l D [(cI, .int), (cB, .byte), (cL, .long), (cO, .object RX0)] pf yL_leastCents cL_leastCents 6 (some FieldType.int) [(0, 12, 15, 34), (0, 12, 19, 19), (0, 12, 23, 28)] { frames := 9, cells := 4, slots := 24, locals := 175 } [.ref (A 0 0), .int x1, .int x2, .int x3, .ref ao] (List.flatten [wPL cI cB cO A s, [(ao, .inl (cL, 1, .inr (.inl f)))]]) (is1 (some (.int o.1)) (List.flatten [wPL cI cB cO A o.2.1, [(ao, .inl (cL, 1, .inr (.inl o.2.2)))]])) := by
  refine CtH_of (own := R_lawN) (lv0 := [(0, .ref (A 0 0)), (1, .int x1), (2, .int x2), (3, .int x3), (4, .ref ao)]) (by decide) rfl rfl (Nat.le_of_ble_eq_true rfl) ?_
  intro p e s' m args below meth c C hr ht
  obtain ⟨r, hr1, hK⟩ := Option.bind_eq_some_iff.mp h
  refine J_aload (pc := 0) C dL_leastCents_0 4 rfl ?_
  refine J_iconst (v := (0 : Int32)) (pc := 2) C dL_leastCents_2 (by decide) ?_
  refine J_aload_n (pc := 3) C dL_leastCents_3 0 rfl ?_
  refine J_iload_n (pc := 4) C dL_leastCents_4 1 rfl ?_
  refine J_iload_n (pc := 5) C dL_leastCents_5 2 rfl ?_
  refine J_iload_n (pc := 6) C dL_leastCents_6 3 rfl ?_
  refine J_xvH (o9 := r.1) (V := some (.int r.2.1)) (W1 := wPL cI cB cO A r.2.2) (Wc := wPL cI cB cO A s) (pc := 7) (As := [.int x1, .int x2, .int x3]) (st := [.int (0 : Int32), .ref ao]) C dL_leastCents_7 ml_L_127 mi_yX10_leastCents (Q_leastCents l hl D cI cB cL cO pf N A s x1 x2 x3 r hr1) [(ao, .inl (cL, 1, .inr (.inl f)))] (by simp [List.flatten]) at_this rfl rfl ⟨(Nat.le_of_ble_eq_true rfl), (Nat.le_of_ble_eq_true rfl)⟩ ⟨(Nat.le_of_ble_eq_true rfl), (Nat.le_of_ble_eq_true rfl)⟩ (Nat.le_of_ble_eq_true rfl) (fun h0 => ?_) (fun h0 => ?_)
  · rw [if_pos h0] at hK
    have hK := Option.some.inj hK
    subst hK
    refine J_ws (ws2 := (List.flatten [wPL cI cB cO A r.2.2, [(ao, .inl (cL, 1, .inr (.inl f)))]])) (by simp [List.flatten]) ?_
    refine J_i2l (pc := 10) C dL_leastCents_10 ?_
    refine J_perm (ws2 := [(ao, .inl (cL, 1, .inr (.inl f)))] ++ wPL cI cB cO A r.2.2) (perm_out _ _) ?_
    refine J_last (pc := 11) C dL_leastCents_11 0 2 (rfl : ([(ao, .inl (cL, 1, .inr (.inl f)))] ++ wPL cI cB cO A r.2.2 : va_W)[0]? = some (ao, .inl (cL, 1, .inr (.inl f)))) rfl (by unfold vp_in; decide) ?_
    refine J_ws (ws2 := [(ao, .inl (cL, 1, .inr (.inl (vp_updL f 0 r.2.1.toInt64))))] ++ wPL cI cB cO A r.2.2) rfl ?_
    refine J_perm (ws2 := (List.flatten [wPL cI cB cO A r.2.2, [(ao, .inl (cL, 1, .inr (.inl (vp_updL f 0 r.2.1.toInt64))))]])) (perm_out _ _).symm ?_
    refine J_goto (tgt := 27) (pc := 12) C dL_leastCents_12 (by decide) ?_
    refine J_iconst (v := (0 : Int32)) (pc := 27) C dL_leastCents_27 (by decide) ?_
    refine J_widen (k2 := 4) (n2 := 24) (Nat.le_of_ble_eq_true rfl) (Nat.le_of_ble_eq_true rfl) ?_
    exact J_iret (pc := 28) C dL_leastCents_28 hr ⟨rfl, rfl⟩
  · rw [if_neg h0] at hK
    by_cases h0 : r.1 = 4
    · rw [if_pos h0] at hK
      have hK := Option.some.inj hK
      subst hK
      refine ⟨[], [⟨0, 12, 19, 19⟩, ⟨0, 12, 23, 28⟩], ⟨0, 12, 15, 34⟩, "java/lang/IndexOutOfBoundsException", ht, (fun z hz => by cases hz), rfl, Nat.succ_ne_zero _, cl_L_34, (by rw [h0]; exact ca_of C.2.2.2.2.2.2.2.2 (by decide)), fun q => ?_⟩
      refine J_ws (ws2 := (List.flatten [wPL cI cB cO A r.2.2, [(ao, .inl (cL, 1, .inr (.inl f)))]])) (by simp [List.flatten]) ?_
      refine J_astore (lv2 := [(5, .ref q), (0, .ref (A 0 0)), (1, .int x1), (2, .int x2), (3, .int x3), (4, .ref ao)]) (pc := 15) C dL_leastCents_15 (by decide) rfl ?_
      refine J_iconst (v := (1 : Int32)) (pc := 17) C dL_leastCents_17 (by decide) ?_
      refine J_widen (k2 := 4) (n2 := 24) (Nat.le_of_ble_eq_true rfl) (Nat.le_of_ble_eq_true rfl) ?_
      exact J_iret (pc := 18) C dL_leastCents_18 hr ⟨rfl, rfl⟩
    rw [if_neg h0] at hK
    by_cases h1 : r.1 = 2
    · rw [if_pos h1] at hK
      have hK := Option.some.inj hK
      subst hK
      refine ⟨[⟨0, 12, 15, 34⟩], [⟨0, 12, 23, 28⟩], ⟨0, 12, 19, 19⟩, "java/lang/IllegalArgumentException", ht, (fun z hz => by
          rcases List.mem_cons.mp hz with rfl | hz
          · exact ⟨Nat.succ_ne_zero _, "java/lang/IndexOutOfBoundsException", cl_L_34, (by rw [h1]; exact nc_of C.2.2.2.2.2.2.2.2 (by decide))⟩
          cases hz), rfl, Nat.succ_ne_zero _, cl_L_19, (by rw [h1]; exact ca_of C.2.2.2.2.2.2.2.2 (by decide)), fun q => ?_⟩
      refine J_ws (ws2 := (List.flatten [wPL cI cB cO A r.2.2, [(ao, .inl (cL, 1, .inr (.inl f)))]])) (by simp [List.flatten]) ?_
      refine J_astore (lv2 := [(5, .ref q), (0, .ref (A 0 0)), (1, .int x1), (2, .int x2), (3, .int x3), (4, .ref ao)]) (pc := 19) C dL_leastCents_19 (by decide) rfl ?_
      refine J_iconst (v := (2 : Int32)) (pc := 21) C dL_leastCents_21 (by decide) ?_
      refine J_widen (k2 := 4) (n2 := 24) (Nat.le_of_ble_eq_true rfl) (Nat.le_of_ble_eq_true rfl) ?_
      exact J_iret (pc := 22) C dL_leastCents_22 hr ⟨rfl, rfl⟩
    rw [if_neg h1] at hK
    by_cases h2 : r.1 = 3
    · rw [if_pos h2] at hK
      have hK := Option.some.inj hK
      subst hK
      refine ⟨[⟨0, 12, 15, 34⟩, ⟨0, 12, 19, 19⟩], [], ⟨0, 12, 23, 28⟩, "java/util/NoSuchElementException", ht, (fun z hz => by
          rcases List.mem_cons.mp hz with rfl | hz
          · exact ⟨Nat.succ_ne_zero _, "java/lang/IndexOutOfBoundsException", cl_L_34, (by rw [h2]; exact nc_of C.2.2.2.2.2.2.2.2 (by decide))⟩
          rcases List.mem_cons.mp hz with rfl | hz
          · exact ⟨Nat.succ_ne_zero _, "java/lang/IllegalArgumentException", cl_L_19, (by rw [h2]; exact nc_of C.2.2.2.2.2.2.2.2 (by decide))⟩
          cases hz), rfl, Nat.succ_ne_zero _, cl_L_28, (by rw [h2]; exact ca_of C.2.2.2.2.2.2.2.2 (by decide)), fun q => ?_⟩
      refine J_ws (ws2 := (List.flatten [wPL cI cB cO A r.2.2, [(ao, .inl (cL, 1, .inr (.inl f)))]])) (by simp [List.flatten]) ?_
      refine J_astore (lv2 := [(5, .ref q), (0, .ref (A 0 0)), (1, .int x1), (2, .int x2), (3, .int x3), (4, .ref ao)]) (pc := 23) C dL_leastCents_23 (by decide) rfl ?_
      refine J_iconst (v := (3 : Int32)) (pc := 25) C dL_leastCents_25 (by decide) ?_
      refine J_widen (k2 := 4) (n2 := 24) (Nat.le_of_ble_eq_true rfl) (Nat.le_of_ble_eq_true rfl) ?_
      exact J_iret (pc := 26) C dL_leastCents_26 hr ⟨rfl, rfl⟩
    rw [if_neg h2] at hK
    cases hK
theorem dL_purchasePart_0 : decode cL_purchasePart 0 = .ok (.aload_n 3, 1) := by decide +kernel
theorem dL_purchasePart_1 : decode cL_purchasePart 1 = .ok (.iconst 0, 1) := by decide +kernel
theorem dL_purchasePart_2 : decode cL_purchasePart 2 = .ok (.aload_n 0, 1) := by decide +kernel
theorem dL_purchasePart_3 : decode cL_purchasePart 3 = .ok (.iload_n 1, 1) := by decide +kernel
theorem dL_purchasePart_4 : decode cL_purchasePart 4 = .ok (.iload_n 2, 1) := by decide +kernel
theorem dL_purchasePart_5 : decode cL_purchasePart 5 = .ok (.invokevirtual 130, 3) := by decide +kernel
theorem dL_purchasePart_8 : decode cL_purchasePart 8 = .ok (.i2l, 1) := by decide +kernel
theorem dL_purchasePart_9 : decode cL_purchasePart 9 = .ok (.lastore, 1) := by decide +kernel
theorem dL_purchasePart_10 : decode cL_purchasePart 10 = .ok (.goto 11, 3) := by decide +kernel
theorem dL_purchasePart_13 : decode cL_purchasePart 13 = .ok (.astore 4, 2) := by decide +kernel
theorem dL_purchasePart_15 : decode cL_purchasePart 15 = .ok (.iconst 1, 1) := by decide +kernel
theorem dL_purchasePart_16 : decode cL_purchasePart 16 = .ok (.ireturn, 1) := by decide +kernel
theorem dL_purchasePart_17 : decode cL_purchasePart 17 = .ok (.astore 4, 2) := by decide +kernel
theorem dL_purchasePart_19 : decode cL_purchasePart 19 = .ok (.iconst 2, 1) := by decide +kernel
theorem dL_purchasePart_20 : decode cL_purchasePart 20 = .ok (.ireturn, 1) := by decide +kernel
theorem dL_purchasePart_21 : decode cL_purchasePart 21 = .ok (.iconst 0, 1) := by decide +kernel
theorem dL_purchasePart_22 : decode cL_purchasePart 22 = .ok (.ireturn, 1) := by decide +kernel
set_option maxHeartbeats 4000000 in
set_option maxRecDepth 100000 in
theorem V_purchasePart (l : Launch) (hl : l.stackTraces = false) (D : va_G) (cI cB cL cO : ClassId) (pf : Nat → Nat) (N : Nat) (A : Nat → Nat → Nat) (ao : Nat) (s : T_PL) (f : Nat → Int64) (x1 : Int32) (x2 : Int32) (o : Int32 × T_PL × (Nat → Int64)) (h : W_purchasePart N s f x1 x2 = some o) : CtH l D [(cI, .int), (cB, .byte), (cL, .long), (cO, .object RX0)] pf yL_purchasePart cL_purchasePart 5 (some FieldType.int) [(0, 10, 13, 28), (0, 10, 17, 19)] { frames := 9, cells := 2, slots := 12, locals := 174 } [.ref (A 0 0), .int x1, .int x2, .ref ao] (List.flatten [wPL cI cB cO A s, [(ao, .inl (cL, 1, .inr (.inl f)))]]) (is1 (some (.int o.1)) (List.flatten [wPL cI cB cO A o.2.1, [(ao, .inl (cL, 1, .inr (.inl o.2.2)))]])) := by
  refine CtH_of (own := R_lawN) (lv0 := [(0, .ref (A 0 0)), (1, .int x1), (2, .int x2), (3, .ref ao)]) (by decide) rfl rfl (Nat.le_of_ble_eq_true rfl) ?_
  intro p e s' m args below meth c C hr ht
  obtain ⟨r, hr1, hK⟩ := Option.bind_eq_some_iff.mp h
  refine J_aload_n (pc := 0) C dL_purchasePart_0 3 rfl ?_
  refine J_iconst (v := (0 : Int32)) (pc := 1) C dL_purchasePart_1 (by decide) ?_
  refine J_aload_n (pc := 2) C dL_purchasePart_2 0 rfl ?_
  refine J_iload_n (pc := 3) C dL_purchasePart_3 1 rfl ?_
  refine J_iload_n (pc := 4) C dL_purchasePart_4 2 rfl ?_
  refine J_xvH (o9 := r.1) (V := some (.int r.2.1)) (W1 := wPL cI cB cO A r.2.2) (Wc := wPL cI cB cO A s) (pc := 5) (As := [.int x1, .int x2]) (st := [.int (0 : Int32), .ref ao]) C dL_purchasePart_5 ml_L_130 mi_yX10_purchasePart (Q_purchasePart l hl D cI cB cL cO pf N A s x1 x2 r hr1) [(ao, .inl (cL, 1, .inr (.inl f)))] (by simp [List.flatten]) at_this rfl rfl ⟨(Nat.le_of_ble_eq_true rfl), (Nat.le_of_ble_eq_true rfl)⟩ ⟨(Nat.le_of_ble_eq_true rfl), (Nat.le_of_ble_eq_true rfl)⟩ (Nat.le_of_ble_eq_true rfl) (fun h0 => ?_) (fun h0 => ?_)
  · rw [if_pos h0] at hK
    have hK := Option.some.inj hK
    subst hK
    refine J_ws (ws2 := (List.flatten [wPL cI cB cO A r.2.2, [(ao, .inl (cL, 1, .inr (.inl f)))]])) (by simp [List.flatten]) ?_
    refine J_i2l (pc := 8) C dL_purchasePart_8 ?_
    refine J_perm (ws2 := [(ao, .inl (cL, 1, .inr (.inl f)))] ++ wPL cI cB cO A r.2.2) (perm_out _ _) ?_
    refine J_last (pc := 9) C dL_purchasePart_9 0 2 (rfl : ([(ao, .inl (cL, 1, .inr (.inl f)))] ++ wPL cI cB cO A r.2.2 : va_W)[0]? = some (ao, .inl (cL, 1, .inr (.inl f)))) rfl (by unfold vp_in; decide) ?_
    refine J_ws (ws2 := [(ao, .inl (cL, 1, .inr (.inl (vp_updL f 0 r.2.1.toInt64))))] ++ wPL cI cB cO A r.2.2) rfl ?_
    refine J_perm (ws2 := (List.flatten [wPL cI cB cO A r.2.2, [(ao, .inl (cL, 1, .inr (.inl (vp_updL f 0 r.2.1.toInt64))))]])) (perm_out _ _).symm ?_
    refine J_goto (tgt := 21) (pc := 10) C dL_purchasePart_10 (by decide) ?_
    refine J_iconst (v := (0 : Int32)) (pc := 21) C dL_purchasePart_21 (by decide) ?_
    refine J_widen (k2 := 2) (n2 := 12) (Nat.le_of_ble_eq_true rfl) (Nat.le_of_ble_eq_true rfl) ?_
    exact J_iret (pc := 22) C dL_purchasePart_22 hr ⟨rfl, rfl⟩
  · rw [if_neg h0] at hK
    by_cases h0 : r.1 = 3
    · rw [if_pos h0] at hK
      have hK := Option.some.inj hK
      subst hK
      refine ⟨[], [⟨0, 10, 17, 19⟩], ⟨0, 10, 13, 28⟩, "java/util/NoSuchElementException", ht, (fun z hz => by cases hz), rfl, Nat.succ_ne_zero _, cl_L_28, (by rw [h0]; exact ca_of C.2.2.2.2.2.2.2.2 (by decide)), fun q => ?_⟩
      refine J_ws (ws2 := (List.flatten [wPL cI cB cO A r.2.2, [(ao, .inl (cL, 1, .inr (.inl f)))]])) (by simp [List.flatten]) ?_
      refine J_astore (lv2 := [(4, .ref q), (0, .ref (A 0 0)), (1, .int x1), (2, .int x2), (3, .ref ao)]) (pc := 13) C dL_purchasePart_13 (by decide) rfl ?_
      refine J_iconst (v := (1 : Int32)) (pc := 15) C dL_purchasePart_15 (by decide) ?_
      refine J_widen (k2 := 2) (n2 := 12) (Nat.le_of_ble_eq_true rfl) (Nat.le_of_ble_eq_true rfl) ?_
      exact J_iret (pc := 16) C dL_purchasePart_16 hr ⟨rfl, rfl⟩
    rw [if_neg h0] at hK
    by_cases h1 : r.1 = 2
    · rw [if_pos h1] at hK
      have hK := Option.some.inj hK
      subst hK
      refine ⟨[⟨0, 10, 13, 28⟩], [], ⟨0, 10, 17, 19⟩, "java/lang/IllegalArgumentException", ht, (fun z hz => by
          rcases List.mem_cons.mp hz with rfl | hz
          · exact ⟨Nat.succ_ne_zero _, "java/util/NoSuchElementException", cl_L_28, (by rw [h1]; exact nc_of C.2.2.2.2.2.2.2.2 (by decide))⟩
          cases hz), rfl, Nat.succ_ne_zero _, cl_L_19, (by rw [h1]; exact ca_of C.2.2.2.2.2.2.2.2 (by decide)), fun q => ?_⟩
      refine J_ws (ws2 := (List.flatten [wPL cI cB cO A r.2.2, [(ao, .inl (cL, 1, .inr (.inl f)))]])) (by simp [List.flatten]) ?_
      refine J_astore (lv2 := [(4, .ref q), (0, .ref (A 0 0)), (1, .int x1), (2, .int x2), (3, .ref ao)]) (pc := 17) C dL_purchasePart_17 (by decide) rfl ?_
      refine J_iconst (v := (2 : Int32)) (pc := 19) C dL_purchasePart_19 (by decide) ?_
      refine J_widen (k2 := 2) (n2 := 12) (Nat.le_of_ble_eq_true rfl) (Nat.le_of_ble_eq_true rfl) ?_
      exact J_iret (pc := 20) C dL_purchasePart_20 hr ⟨rfl, rfl⟩
    rw [if_neg h1] at hK
    cases hK
theorem dL_expiringWithin_0 : decode cL_expiringWithin 0 = .ok (.aload_n 3, 1) := by decide +kernel
theorem dL_expiringWithin_1 : decode cL_expiringWithin 1 = .ok (.iconst 0, 1) := by decide +kernel
theorem dL_expiringWithin_2 : decode cL_expiringWithin 2 = .ok (.aload_n 0, 1) := by decide +kernel
theorem dL_expiringWithin_3 : decode cL_expiringWithin 3 = .ok (.iload_n 1, 1) := by decide +kernel
theorem dL_expiringWithin_4 : decode cL_expiringWithin 4 = .ok (.iload_n 2, 1) := by decide +kernel
theorem dL_expiringWithin_5 : decode cL_expiringWithin 5 = .ok (.invokevirtual 133, 3) := by decide +kernel
theorem dL_expiringWithin_8 : decode cL_expiringWithin 8 = .ok (.i2l, 1) := by decide +kernel
theorem dL_expiringWithin_9 : decode cL_expiringWithin 9 = .ok (.lastore, 1) := by decide +kernel
theorem dL_expiringWithin_10 : decode cL_expiringWithin 10 = .ok (.goto 11, 3) := by decide +kernel
theorem dL_expiringWithin_13 : decode cL_expiringWithin 13 = .ok (.astore 4, 2) := by decide +kernel
theorem dL_expiringWithin_15 : decode cL_expiringWithin 15 = .ok (.iconst 1, 1) := by decide +kernel
theorem dL_expiringWithin_16 : decode cL_expiringWithin 16 = .ok (.ireturn, 1) := by decide +kernel
theorem dL_expiringWithin_17 : decode cL_expiringWithin 17 = .ok (.astore 4, 2) := by decide +kernel
theorem dL_expiringWithin_19 : decode cL_expiringWithin 19 = .ok (.iconst 2, 1) := by decide +kernel
theorem dL_expiringWithin_20 : decode cL_expiringWithin 20 = .ok (.ireturn, 1) := by decide +kernel
theorem dL_expiringWithin_21 : decode cL_expiringWithin 21 = .ok (.iconst 0, 1) := by decide +kernel
theorem dL_expiringWithin_22 : decode cL_expiringWithin 22 = .ok (.ireturn, 1) := by decide +kernel
set_option maxHeartbeats 4000000 in
set_option maxRecDepth 100000 in
theorem V_expiringWithin (l : Launch) (hl : l.stackTraces = false) (D : va_G) (cI cB cL cO : ClassId) (pf : Nat → Nat) (N : Nat) (A : Nat → Nat → Nat) (ao : Nat) (s : T_PL) (f : Nat → Int64) (x1 : Int32) (x2 : Int32) (o : Int32 × T_PL × (Nat → Int64)) (h : W_expiringWithin N s f x1 x2 = some o) : CtH l D [(cI, .int), (cB, .byte), (cL, .long), (cO, .object RX0)] pf yL_expiringWithin cL_expiringWithin 5 (some FieldType.int) [(0, 10, 13, 34), (0, 10, 17, 19)] { frames := 9, cells := 2, slots := 12, locals := 174 } [.ref (A 0 0), .int x1, .int x2, .ref ao] (List.flatten [wPL cI cB cO A s, [(ao, .inl (cL, 1, .inr (.inl f)))]]) (is1 (some (.int o.1)) (List.flatten [wPL cI cB cO A o.2.1, [(ao, .inl (cL, 1, .inr (.inl o.2.2)))]])) := by
  refine CtH_of (own := R_lawN) (lv0 := [(0, .ref (A 0 0)), (1, .int x1), (2, .int x2), (3, .ref ao)]) (by decide) rfl rfl (Nat.le_of_ble_eq_true rfl) ?_
  intro p e s' m args below meth c C hr ht
  obtain ⟨r, hr1, hK⟩ := Option.bind_eq_some_iff.mp h
  refine J_aload_n (pc := 0) C dL_expiringWithin_0 3 rfl ?_
  refine J_iconst (v := (0 : Int32)) (pc := 1) C dL_expiringWithin_1 (by decide) ?_
  refine J_aload_n (pc := 2) C dL_expiringWithin_2 0 rfl ?_
  refine J_iload_n (pc := 3) C dL_expiringWithin_3 1 rfl ?_
  refine J_iload_n (pc := 4) C dL_expiringWithin_4 2 rfl ?_
  refine J_xvH (o9 := r.1) (V := some (.int r.2.1)) (W1 := wPL cI cB cO A r.2.2) (Wc := wPL cI cB cO A s) (pc := 5) (As := [.int x1, .int x2]) (st := [.int (0 : Int32), .ref ao]) C dL_expiringWithin_5 ml_L_133 mi_yX10_expiringWithin (Q_expiringWithin l hl D cI cB cL cO pf N A s x1 x2 r hr1) [(ao, .inl (cL, 1, .inr (.inl f)))] (by simp [List.flatten]) at_this rfl rfl ⟨(Nat.le_of_ble_eq_true rfl), (Nat.le_of_ble_eq_true rfl)⟩ ⟨(Nat.le_of_ble_eq_true rfl), (Nat.le_of_ble_eq_true rfl)⟩ (Nat.le_of_ble_eq_true rfl) (fun h0 => ?_) (fun h0 => ?_)
  · rw [if_pos h0] at hK
    have hK := Option.some.inj hK
    subst hK
    refine J_ws (ws2 := (List.flatten [wPL cI cB cO A r.2.2, [(ao, .inl (cL, 1, .inr (.inl f)))]])) (by simp [List.flatten]) ?_
    refine J_i2l (pc := 8) C dL_expiringWithin_8 ?_
    refine J_perm (ws2 := [(ao, .inl (cL, 1, .inr (.inl f)))] ++ wPL cI cB cO A r.2.2) (perm_out _ _) ?_
    refine J_last (pc := 9) C dL_expiringWithin_9 0 2 (rfl : ([(ao, .inl (cL, 1, .inr (.inl f)))] ++ wPL cI cB cO A r.2.2 : va_W)[0]? = some (ao, .inl (cL, 1, .inr (.inl f)))) rfl (by unfold vp_in; decide) ?_
    refine J_ws (ws2 := [(ao, .inl (cL, 1, .inr (.inl (vp_updL f 0 r.2.1.toInt64))))] ++ wPL cI cB cO A r.2.2) rfl ?_
    refine J_perm (ws2 := (List.flatten [wPL cI cB cO A r.2.2, [(ao, .inl (cL, 1, .inr (.inl (vp_updL f 0 r.2.1.toInt64))))]])) (perm_out _ _).symm ?_
    refine J_goto (tgt := 21) (pc := 10) C dL_expiringWithin_10 (by decide) ?_
    refine J_iconst (v := (0 : Int32)) (pc := 21) C dL_expiringWithin_21 (by decide) ?_
    refine J_widen (k2 := 2) (n2 := 12) (Nat.le_of_ble_eq_true rfl) (Nat.le_of_ble_eq_true rfl) ?_
    exact J_iret (pc := 22) C dL_expiringWithin_22 hr ⟨rfl, rfl⟩
  · rw [if_neg h0] at hK
    by_cases h0 : r.1 = 4
    · rw [if_pos h0] at hK
      have hK := Option.some.inj hK
      subst hK
      refine ⟨[], [⟨0, 10, 17, 19⟩], ⟨0, 10, 13, 34⟩, "java/lang/IndexOutOfBoundsException", ht, (fun z hz => by cases hz), rfl, Nat.succ_ne_zero _, cl_L_34, (by rw [h0]; exact ca_of C.2.2.2.2.2.2.2.2 (by decide)), fun q => ?_⟩
      refine J_ws (ws2 := (List.flatten [wPL cI cB cO A r.2.2, [(ao, .inl (cL, 1, .inr (.inl f)))]])) (by simp [List.flatten]) ?_
      refine J_astore (lv2 := [(4, .ref q), (0, .ref (A 0 0)), (1, .int x1), (2, .int x2), (3, .ref ao)]) (pc := 13) C dL_expiringWithin_13 (by decide) rfl ?_
      refine J_iconst (v := (1 : Int32)) (pc := 15) C dL_expiringWithin_15 (by decide) ?_
      refine J_widen (k2 := 2) (n2 := 12) (Nat.le_of_ble_eq_true rfl) (Nat.le_of_ble_eq_true rfl) ?_
      exact J_iret (pc := 16) C dL_expiringWithin_16 hr ⟨rfl, rfl⟩
    rw [if_neg h0] at hK
    by_cases h1 : r.1 = 2
    · rw [if_pos h1] at hK
      have hK := Option.some.inj hK
      subst hK
      refine ⟨[⟨0, 10, 13, 34⟩], [], ⟨0, 10, 17, 19⟩, "java/lang/IllegalArgumentException", ht, (fun z hz => by
          rcases List.mem_cons.mp hz with rfl | hz
          · exact ⟨Nat.succ_ne_zero _, "java/lang/IndexOutOfBoundsException", cl_L_34, (by rw [h1]; exact nc_of C.2.2.2.2.2.2.2.2 (by decide))⟩
          cases hz), rfl, Nat.succ_ne_zero _, cl_L_19, (by rw [h1]; exact ca_of C.2.2.2.2.2.2.2.2 (by decide)), fun q => ?_⟩
      refine J_ws (ws2 := (List.flatten [wPL cI cB cO A r.2.2, [(ao, .inl (cL, 1, .inr (.inl f)))]])) (by simp [List.flatten]) ?_
      refine J_astore (lv2 := [(4, .ref q), (0, .ref (A 0 0)), (1, .int x1), (2, .int x2), (3, .ref ao)]) (pc := 17) C dL_expiringWithin_17 (by decide) rfl ?_
      refine J_iconst (v := (2 : Int32)) (pc := 19) C dL_expiringWithin_19 (by decide) ?_
      refine J_widen (k2 := 2) (n2 := 12) (Nat.le_of_ble_eq_true rfl) (Nat.le_of_ble_eq_true rfl) ?_
      exact J_iret (pc := 20) C dL_expiringWithin_20 hr ⟨rfl, rfl⟩
    rw [if_neg h1] at hK
    cases hK
theorem dL_nextExpiry_0 : decode cL_nextExpiry 0 = .ok (.aload_n 2, 1) := by decide +kernel
theorem dL_nextExpiry_1 : decode cL_nextExpiry 1 = .ok (.iconst 0, 1) := by decide +kernel
theorem dL_nextExpiry_2 : decode cL_nextExpiry 2 = .ok (.aload_n 0, 1) := by decide +kernel
theorem dL_nextExpiry_3 : decode cL_nextExpiry 3 = .ok (.iload_n 1, 1) := by decide +kernel
theorem dL_nextExpiry_4 : decode cL_nextExpiry 4 = .ok (.invokevirtual 136, 3) := by decide +kernel
theorem dL_nextExpiry_7 : decode cL_nextExpiry 7 = .ok (.i2l, 1) := by decide +kernel
theorem dL_nextExpiry_8 : decode cL_nextExpiry 8 = .ok (.lastore, 1) := by decide +kernel
theorem dL_nextExpiry_9 : decode cL_nextExpiry 9 = .ok (.goto 9, 3) := by decide +kernel
theorem dL_nextExpiry_12 : decode cL_nextExpiry 12 = .ok (.astore_n 3, 1) := by decide +kernel
theorem dL_nextExpiry_13 : decode cL_nextExpiry 13 = .ok (.iconst 1, 1) := by decide +kernel
theorem dL_nextExpiry_14 : decode cL_nextExpiry 14 = .ok (.ireturn, 1) := by decide +kernel
theorem dL_nextExpiry_15 : decode cL_nextExpiry 15 = .ok (.astore_n 3, 1) := by decide +kernel
theorem dL_nextExpiry_16 : decode cL_nextExpiry 16 = .ok (.iconst 2, 1) := by decide +kernel
theorem dL_nextExpiry_17 : decode cL_nextExpiry 17 = .ok (.ireturn, 1) := by decide +kernel
theorem dL_nextExpiry_18 : decode cL_nextExpiry 18 = .ok (.iconst 0, 1) := by decide +kernel
theorem dL_nextExpiry_19 : decode cL_nextExpiry 19 = .ok (.ireturn, 1) := by decide +kernel
set_option maxHeartbeats 4000000 in
set_option maxRecDepth 100000 in
theorem V_nextExpiry (l : Launch) (hl : l.stackTraces = false) (D : va_G) (cI cB cL cO : ClassId) (pf : Nat → Nat) (N : Nat) (A : Nat → Nat → Nat) (ao : Nat) (s : T_PL) (f : Nat → Int64) (x1 : Int32) (o : Int32 × T_PL × (Nat → Int64)) (h : W_nextExpiry N s f x1 = some o) : CtH l D [(cI, .int), (cB, .byte), (cL, .long), (cO, .object RX0)] pf yL_nextExpiry cL_nextExpiry 4 (some FieldType.int) [(0, 9, 12, 34), (0, 9, 15, 28)] { frames := 9, cells := 2, slots := 12, locals := 173 } [.ref (A 0 0), .int x1, .ref ao] (List.flatten [wPL cI cB cO A s, [(ao, .inl (cL, 1, .inr (.inl f)))]]) (is1 (some (.int o.1)) (List.flatten [wPL cI cB cO A o.2.1, [(ao, .inl (cL, 1, .inr (.inl o.2.2)))]])) := by
  refine CtH_of (own := R_lawN) (lv0 := [(0, .ref (A 0 0)), (1, .int x1), (2, .ref ao)]) (by decide) rfl rfl (Nat.le_of_ble_eq_true rfl) ?_
  intro p e s' m args below meth c C hr ht
  obtain ⟨r, hr1, hK⟩ := Option.bind_eq_some_iff.mp h
  refine J_aload_n (pc := 0) C dL_nextExpiry_0 2 rfl ?_
  refine J_iconst (v := (0 : Int32)) (pc := 1) C dL_nextExpiry_1 (by decide) ?_
  refine J_aload_n (pc := 2) C dL_nextExpiry_2 0 rfl ?_
  refine J_iload_n (pc := 3) C dL_nextExpiry_3 1 rfl ?_
  refine J_xvH (o9 := r.1) (V := some (.int r.2.1)) (W1 := wPL cI cB cO A r.2.2) (Wc := wPL cI cB cO A s) (pc := 4) (As := [.int x1]) (st := [.int (0 : Int32), .ref ao]) C dL_nextExpiry_4 ml_L_136 mi_yX10_nextExpiry (Q_nextExpiry l hl D cI cB cL cO pf N A s x1 r hr1) [(ao, .inl (cL, 1, .inr (.inl f)))] (by simp [List.flatten]) at_this rfl rfl ⟨(Nat.le_of_ble_eq_true rfl), (Nat.le_of_ble_eq_true rfl)⟩ ⟨(Nat.le_of_ble_eq_true rfl), (Nat.le_of_ble_eq_true rfl)⟩ (Nat.le_of_ble_eq_true rfl) (fun h0 => ?_) (fun h0 => ?_)
  · rw [if_pos h0] at hK
    have hK := Option.some.inj hK
    subst hK
    refine J_ws (ws2 := (List.flatten [wPL cI cB cO A r.2.2, [(ao, .inl (cL, 1, .inr (.inl f)))]])) (by simp [List.flatten]) ?_
    refine J_i2l (pc := 7) C dL_nextExpiry_7 ?_
    refine J_perm (ws2 := [(ao, .inl (cL, 1, .inr (.inl f)))] ++ wPL cI cB cO A r.2.2) (perm_out _ _) ?_
    refine J_last (pc := 8) C dL_nextExpiry_8 0 2 (rfl : ([(ao, .inl (cL, 1, .inr (.inl f)))] ++ wPL cI cB cO A r.2.2 : va_W)[0]? = some (ao, .inl (cL, 1, .inr (.inl f)))) rfl (by unfold vp_in; decide) ?_
    refine J_ws (ws2 := [(ao, .inl (cL, 1, .inr (.inl (vp_updL f 0 r.2.1.toInt64))))] ++ wPL cI cB cO A r.2.2) rfl ?_
    refine J_perm (ws2 := (List.flatten [wPL cI cB cO A r.2.2, [(ao, .inl (cL, 1, .inr (.inl (vp_updL f 0 r.2.1.toInt64))))]])) (perm_out _ _).symm ?_
    refine J_goto (tgt := 18) (pc := 9) C dL_nextExpiry_9 (by decide) ?_
    refine J_iconst (v := (0 : Int32)) (pc := 18) C dL_nextExpiry_18 (by decide) ?_
    refine J_widen (k2 := 2) (n2 := 12) (Nat.le_of_ble_eq_true rfl) (Nat.le_of_ble_eq_true rfl) ?_
    exact J_iret (pc := 19) C dL_nextExpiry_19 hr ⟨rfl, rfl⟩
  · rw [if_neg h0] at hK
    by_cases h0 : r.1 = 4
    · rw [if_pos h0] at hK
      have hK := Option.some.inj hK
      subst hK
      refine ⟨[], [⟨0, 9, 15, 28⟩], ⟨0, 9, 12, 34⟩, "java/lang/IndexOutOfBoundsException", ht, (fun z hz => by cases hz), rfl, Nat.succ_ne_zero _, cl_L_34, (by rw [h0]; exact ca_of C.2.2.2.2.2.2.2.2 (by decide)), fun q => ?_⟩
      refine J_ws (ws2 := (List.flatten [wPL cI cB cO A r.2.2, [(ao, .inl (cL, 1, .inr (.inl f)))]])) (by simp [List.flatten]) ?_
      refine J_astore_n (lv2 := [(3, .ref q), (0, .ref (A 0 0)), (1, .int x1), (2, .ref ao)]) (pc := 12) C dL_nextExpiry_12 (by decide) rfl ?_
      refine J_iconst (v := (1 : Int32)) (pc := 13) C dL_nextExpiry_13 (by decide) ?_
      refine J_widen (k2 := 2) (n2 := 12) (Nat.le_of_ble_eq_true rfl) (Nat.le_of_ble_eq_true rfl) ?_
      exact J_iret (pc := 14) C dL_nextExpiry_14 hr ⟨rfl, rfl⟩
    rw [if_neg h0] at hK
    by_cases h1 : r.1 = 3
    · rw [if_pos h1] at hK
      have hK := Option.some.inj hK
      subst hK
      refine ⟨[⟨0, 9, 12, 34⟩], [], ⟨0, 9, 15, 28⟩, "java/util/NoSuchElementException", ht, (fun z hz => by
          rcases List.mem_cons.mp hz with rfl | hz
          · exact ⟨Nat.succ_ne_zero _, "java/lang/IndexOutOfBoundsException", cl_L_34, (by rw [h1]; exact nc_of C.2.2.2.2.2.2.2.2 (by decide))⟩
          cases hz), rfl, Nat.succ_ne_zero _, cl_L_28, (by rw [h1]; exact ca_of C.2.2.2.2.2.2.2.2 (by decide)), fun q => ?_⟩
      refine J_ws (ws2 := (List.flatten [wPL cI cB cO A r.2.2, [(ao, .inl (cL, 1, .inr (.inl f)))]])) (by simp [List.flatten]) ?_
      refine J_astore_n (lv2 := [(3, .ref q), (0, .ref (A 0 0)), (1, .int x1), (2, .ref ao)]) (pc := 15) C dL_nextExpiry_15 (by decide) rfl ?_
      refine J_iconst (v := (2 : Int32)) (pc := 16) C dL_nextExpiry_16 (by decide) ?_
      refine J_widen (k2 := 2) (n2 := 12) (Nat.le_of_ble_eq_true rfl) (Nat.le_of_ble_eq_true rfl) ?_
      exact J_iret (pc := 17) C dL_nextExpiry_17 hr ⟨rfl, rfl⟩
    rw [if_neg h1] at hK
    cases hK
theorem dL_redeemedWith_0 : decode cL_redeemedWith 0 = .ok (.aload_n 2, 1) := by decide +kernel
theorem dL_redeemedWith_1 : decode cL_redeemedWith 1 = .ok (.iconst 0, 1) := by decide +kernel
theorem dL_redeemedWith_2 : decode cL_redeemedWith 2 = .ok (.aload_n 0, 1) := by decide +kernel
theorem dL_redeemedWith_3 : decode cL_redeemedWith 3 = .ok (.iload_n 1, 1) := by decide +kernel
theorem dL_redeemedWith_4 : decode cL_redeemedWith 4 = .ok (.invokevirtual 139, 3) := by decide +kernel
theorem dL_redeemedWith_7 : decode cL_redeemedWith 7 = .ok (.i2l, 1) := by decide +kernel
theorem dL_redeemedWith_8 : decode cL_redeemedWith 8 = .ok (.lastore, 1) := by decide +kernel
theorem dL_redeemedWith_9 : decode cL_redeemedWith 9 = .ok (.goto 6, 3) := by decide +kernel
theorem dL_redeemedWith_12 : decode cL_redeemedWith 12 = .ok (.astore_n 3, 1) := by decide +kernel
theorem dL_redeemedWith_13 : decode cL_redeemedWith 13 = .ok (.iconst 1, 1) := by decide +kernel
theorem dL_redeemedWith_14 : decode cL_redeemedWith 14 = .ok (.ireturn, 1) := by decide +kernel
theorem dL_redeemedWith_15 : decode cL_redeemedWith 15 = .ok (.iconst 0, 1) := by decide +kernel
theorem dL_redeemedWith_16 : decode cL_redeemedWith 16 = .ok (.ireturn, 1) := by decide +kernel
set_option maxHeartbeats 4000000 in
set_option maxRecDepth 100000 in
theorem V_redeemedWith (l : Launch) (hl : l.stackTraces = false) (D : va_G) (cI cB cL cO : ClassId) (pf : Nat → Nat) (N : Nat) (A : Nat → Nat → Nat) (ao : Nat) (s : T_PL) (f : Nat → Int64) (x1 : Int32) (o : Int32 × T_PL × (Nat → Int64)) (h : W_redeemedWith N s f x1 = some o) : CtH l D [(cI, .int), (cB, .byte), (cL, .long), (cO, .object RX0)] pf yL_redeemedWith cL_redeemedWith 4 (some FieldType.int) [(0, 9, 12, 19)] { frames := 9, cells := 1, slots := 6, locals := 173 } [.ref (A 0 0), .int x1, .ref ao] (List.flatten [wPL cI cB cO A s, [(ao, .inl (cL, 1, .inr (.inl f)))]]) (is1 (some (.int o.1)) (List.flatten [wPL cI cB cO A o.2.1, [(ao, .inl (cL, 1, .inr (.inl o.2.2)))]])) := by
  refine CtH_of (own := R_lawN) (lv0 := [(0, .ref (A 0 0)), (1, .int x1), (2, .ref ao)]) (by decide) rfl rfl (Nat.le_of_ble_eq_true rfl) ?_
  intro p e s' m args below meth c C hr ht
  obtain ⟨r, hr1, hK⟩ := Option.bind_eq_some_iff.mp h
  refine J_aload_n (pc := 0) C dL_redeemedWith_0 2 rfl ?_
  refine J_iconst (v := (0 : Int32)) (pc := 1) C dL_redeemedWith_1 (by decide) ?_
  refine J_aload_n (pc := 2) C dL_redeemedWith_2 0 rfl ?_
  refine J_iload_n (pc := 3) C dL_redeemedWith_3 1 rfl ?_
  refine J_xvH (o9 := r.1) (V := some (.int r.2.1)) (W1 := wPL cI cB cO A r.2.2) (Wc := wPL cI cB cO A s) (pc := 4) (As := [.int x1]) (st := [.int (0 : Int32), .ref ao]) C dL_redeemedWith_4 ml_L_139 mi_yX10_redeemedWith (Q_redeemedWith l hl D cI cB cL cO pf N A s x1 r hr1) [(ao, .inl (cL, 1, .inr (.inl f)))] (by simp [List.flatten]) at_this rfl rfl ⟨(Nat.le_of_ble_eq_true rfl), (Nat.le_of_ble_eq_true rfl)⟩ ⟨(Nat.le_of_ble_eq_true rfl), (Nat.le_of_ble_eq_true rfl)⟩ (Nat.le_of_ble_eq_true rfl) (fun h0 => ?_) (fun h0 => ?_)
  · rw [if_pos h0] at hK
    have hK := Option.some.inj hK
    subst hK
    refine J_ws (ws2 := (List.flatten [wPL cI cB cO A r.2.2, [(ao, .inl (cL, 1, .inr (.inl f)))]])) (by simp [List.flatten]) ?_
    refine J_i2l (pc := 7) C dL_redeemedWith_7 ?_
    refine J_perm (ws2 := [(ao, .inl (cL, 1, .inr (.inl f)))] ++ wPL cI cB cO A r.2.2) (perm_out _ _) ?_
    refine J_last (pc := 8) C dL_redeemedWith_8 0 2 (rfl : ([(ao, .inl (cL, 1, .inr (.inl f)))] ++ wPL cI cB cO A r.2.2 : va_W)[0]? = some (ao, .inl (cL, 1, .inr (.inl f)))) rfl (by unfold vp_in; decide) ?_
    refine J_ws (ws2 := [(ao, .inl (cL, 1, .inr (.inl (vp_updL f 0 r.2.1.toInt64))))] ++ wPL cI cB cO A r.2.2) rfl ?_
    refine J_perm (ws2 := (List.flatten [wPL cI cB cO A r.2.2, [(ao, .inl (cL, 1, .inr (.inl (vp_updL f 0 r.2.1.toInt64))))]])) (perm_out _ _).symm ?_
    refine J_goto (tgt := 15) (pc := 9) C dL_redeemedWith_9 (by decide) ?_
    refine J_iconst (v := (0 : Int32)) (pc := 15) C dL_redeemedWith_15 (by decide) ?_
    refine J_widen (k2 := 1) (n2 := 6) (Nat.le_of_ble_eq_true rfl) (Nat.le_of_ble_eq_true rfl) ?_
    exact J_iret (pc := 16) C dL_redeemedWith_16 hr ⟨rfl, rfl⟩
  · rw [if_neg h0] at hK
    by_cases h0 : r.1 = 2
    · rw [if_pos h0] at hK
      have hK := Option.some.inj hK
      subst hK
      refine ⟨[], [], ⟨0, 9, 12, 19⟩, "java/lang/IllegalArgumentException", ht, (fun z hz => by cases hz), rfl, Nat.succ_ne_zero _, cl_L_19, (by rw [h0]; exact ca_of C.2.2.2.2.2.2.2.2 (by decide)), fun q => ?_⟩
      refine J_ws (ws2 := (List.flatten [wPL cI cB cO A r.2.2, [(ao, .inl (cL, 1, .inr (.inl f)))]])) (by simp [List.flatten]) ?_
      refine J_astore_n (lv2 := [(3, .ref q), (0, .ref (A 0 0)), (1, .int x1), (2, .ref ao)]) (pc := 12) C dL_redeemedWith_12 (by decide) rfl ?_
      refine J_iconst (v := (1 : Int32)) (pc := 13) C dL_redeemedWith_13 (by decide) ?_
      refine J_widen (k2 := 1) (n2 := 6) (Nat.le_of_ble_eq_true rfl) (Nat.le_of_ble_eq_true rfl) ?_
      exact J_iret (pc := 14) C dL_redeemedWith_14 hr ⟨rfl, rfl⟩
    rw [if_neg h0] at hK
    cases hK
theorem dL_breakage_0 : decode cL_breakage 0 = .ok (.aload_n 2, 1) := by decide +kernel
theorem dL_breakage_1 : decode cL_breakage 1 = .ok (.iconst 0, 1) := by decide +kernel
theorem dL_breakage_2 : decode cL_breakage 2 = .ok (.aload_n 0, 1) := by decide +kernel
theorem dL_breakage_3 : decode cL_breakage 3 = .ok (.iload_n 1, 1) := by decide +kernel
theorem dL_breakage_4 : decode cL_breakage 4 = .ok (.invokevirtual 142, 3) := by decide +kernel
theorem dL_breakage_7 : decode cL_breakage 7 = .ok (.i2l, 1) := by decide +kernel
theorem dL_breakage_8 : decode cL_breakage 8 = .ok (.lastore, 1) := by decide +kernel
theorem dL_breakage_9 : decode cL_breakage 9 = .ok (.goto 6, 3) := by decide +kernel
theorem dL_breakage_12 : decode cL_breakage 12 = .ok (.astore_n 3, 1) := by decide +kernel
theorem dL_breakage_13 : decode cL_breakage 13 = .ok (.iconst 1, 1) := by decide +kernel
theorem dL_breakage_14 : decode cL_breakage 14 = .ok (.ireturn, 1) := by decide +kernel
theorem dL_breakage_15 : decode cL_breakage 15 = .ok (.iconst 0, 1) := by decide +kernel
theorem dL_breakage_16 : decode cL_breakage 16 = .ok (.ireturn, 1) := by decide +kernel
set_option maxHeartbeats 4000000 in
set_option maxRecDepth 100000 in
theorem V_breakage (l : Launch) (hl : l.stackTraces = false) (D : va_G) (cI cB cL cO : ClassId) (pf : Nat → Nat) (N : Nat) (A : Nat → Nat → Nat) (ao : Nat) (s : T_PL) (f : Nat → Int64) (x1 : Int32) (o : Int32 × T_PL × (Nat → Int64)) (h : W_breakage N s f x1 = some o) : CtH l D [(cI, .int), (cB, .byte), (cL, .long), (cO, .object RX0)] pf yL_breakage cL_breakage 4 (some FieldType.int) [(0, 9, 12, 34)] { frames := 9, cells := 1, slots := 6, locals := 172 } [.ref (A 0 0), .int x1, .ref ao] (List.flatten [wPL cI cB cO A s, [(ao, .inl (cL, 1, .inr (.inl f)))]]) (is1 (some (.int o.1)) (List.flatten [wPL cI cB cO A o.2.1, [(ao, .inl (cL, 1, .inr (.inl o.2.2)))]])) := by
  refine CtH_of (own := R_lawN) (lv0 := [(0, .ref (A 0 0)), (1, .int x1), (2, .ref ao)]) (by decide) rfl rfl (Nat.le_of_ble_eq_true rfl) ?_
  intro p e s' m args below meth c C hr ht
  obtain ⟨r, hr1, hK⟩ := Option.bind_eq_some_iff.mp h
  refine J_aload_n (pc := 0) C dL_breakage_0 2 rfl ?_
  refine J_iconst (v := (0 : Int32)) (pc := 1) C dL_breakage_1 (by decide) ?_
  refine J_aload_n (pc := 2) C dL_breakage_2 0 rfl ?_
  refine J_iload_n (pc := 3) C dL_breakage_3 1 rfl ?_
  refine J_xvH (o9 := r.1) (V := some (.int r.2.1)) (W1 := wPL cI cB cO A r.2.2) (Wc := wPL cI cB cO A s) (pc := 4) (As := [.int x1]) (st := [.int (0 : Int32), .ref ao]) C dL_breakage_4 ml_L_142 mi_yX10_breakage (Q_breakage l hl D cI cB cL cO pf N A s x1 r hr1) [(ao, .inl (cL, 1, .inr (.inl f)))] (by simp [List.flatten]) at_this rfl rfl ⟨(Nat.le_of_ble_eq_true rfl), (Nat.le_of_ble_eq_true rfl)⟩ ⟨(Nat.le_of_ble_eq_true rfl), (Nat.le_of_ble_eq_true rfl)⟩ (Nat.le_of_ble_eq_true rfl) (fun h0 => ?_) (fun h0 => ?_)
  · rw [if_pos h0] at hK
    have hK := Option.some.inj hK
    subst hK
    refine J_ws (ws2 := (List.flatten [wPL cI cB cO A r.2.2, [(ao, .inl (cL, 1, .inr (.inl f)))]])) (by simp [List.flatten]) ?_
    refine J_i2l (pc := 7) C dL_breakage_7 ?_
    refine J_perm (ws2 := [(ao, .inl (cL, 1, .inr (.inl f)))] ++ wPL cI cB cO A r.2.2) (perm_out _ _) ?_
    refine J_last (pc := 8) C dL_breakage_8 0 2 (rfl : ([(ao, .inl (cL, 1, .inr (.inl f)))] ++ wPL cI cB cO A r.2.2 : va_W)[0]? = some (ao, .inl (cL, 1, .inr (.inl f)))) rfl (by unfold vp_in; decide) ?_
    refine J_ws (ws2 := [(ao, .inl (cL, 1, .inr (.inl (vp_updL f 0 r.2.1.toInt64))))] ++ wPL cI cB cO A r.2.2) rfl ?_
    refine J_perm (ws2 := (List.flatten [wPL cI cB cO A r.2.2, [(ao, .inl (cL, 1, .inr (.inl (vp_updL f 0 r.2.1.toInt64))))]])) (perm_out _ _).symm ?_
    refine J_goto (tgt := 15) (pc := 9) C dL_breakage_9 (by decide) ?_
    refine J_iconst (v := (0 : Int32)) (pc := 15) C dL_breakage_15 (by decide) ?_
    refine J_widen (k2 := 1) (n2 := 6) (Nat.le_of_ble_eq_true rfl) (Nat.le_of_ble_eq_true rfl) ?_
    exact J_iret (pc := 16) C dL_breakage_16 hr ⟨rfl, rfl⟩
  · rw [if_neg h0] at hK
    by_cases h0 : r.1 = 4
    · rw [if_pos h0] at hK
      have hK := Option.some.inj hK
      subst hK
      refine ⟨[], [], ⟨0, 9, 12, 34⟩, "java/lang/IndexOutOfBoundsException", ht, (fun z hz => by cases hz), rfl, Nat.succ_ne_zero _, cl_L_34, (by rw [h0]; exact ca_of C.2.2.2.2.2.2.2.2 (by decide)), fun q => ?_⟩
      refine J_ws (ws2 := (List.flatten [wPL cI cB cO A r.2.2, [(ao, .inl (cL, 1, .inr (.inl f)))]])) (by simp [List.flatten]) ?_
      refine J_astore_n (lv2 := [(3, .ref q), (0, .ref (A 0 0)), (1, .int x1), (2, .ref ao)]) (pc := 12) C dL_breakage_12 (by decide) rfl ?_
      refine J_iconst (v := (1 : Int32)) (pc := 13) C dL_breakage_13 (by decide) ?_
      refine J_widen (k2 := 1) (n2 := 6) (Nat.le_of_ble_eq_true rfl) (Nat.le_of_ble_eq_true rfl) ?_
      exact J_iret (pc := 14) C dL_breakage_14 hr ⟨rfl, rfl⟩
    rw [if_neg h0] at hK
    cases hK
theorem dL_poolBreakage_0 : decode cL_poolBreakage 0 = .ok (.aload_n 2, 1) := by decide +kernel
theorem dL_poolBreakage_1 : decode cL_poolBreakage 1 = .ok (.iconst 0, 1) := by decide +kernel
theorem dL_poolBreakage_2 : decode cL_poolBreakage 2 = .ok (.aload_n 0, 1) := by decide +kernel
theorem dL_poolBreakage_3 : decode cL_poolBreakage 3 = .ok (.iload_n 1, 1) := by decide +kernel
theorem dL_poolBreakage_4 : decode cL_poolBreakage 4 = .ok (.invokevirtual 145, 3) := by decide +kernel
theorem dL_poolBreakage_7 : decode cL_poolBreakage 7 = .ok (.i2l, 1) := by decide +kernel
theorem dL_poolBreakage_8 : decode cL_poolBreakage 8 = .ok (.lastore, 1) := by decide +kernel
theorem dL_poolBreakage_9 : decode cL_poolBreakage 9 = .ok (.goto 6, 3) := by decide +kernel
theorem dL_poolBreakage_12 : decode cL_poolBreakage 12 = .ok (.astore_n 3, 1) := by decide +kernel
theorem dL_poolBreakage_13 : decode cL_poolBreakage 13 = .ok (.iconst 1, 1) := by decide +kernel
theorem dL_poolBreakage_14 : decode cL_poolBreakage 14 = .ok (.ireturn, 1) := by decide +kernel
theorem dL_poolBreakage_15 : decode cL_poolBreakage 15 = .ok (.iconst 0, 1) := by decide +kernel
theorem dL_poolBreakage_16 : decode cL_poolBreakage 16 = .ok (.ireturn, 1) := by decide +kernel
set_option maxHeartbeats 4000000 in
set_option maxRecDepth 100000 in
theorem V_poolBreakage (l : Launch) (hl : l.stackTraces = false) (D : va_G) (cI cB cL cO : ClassId) (pf : Nat → Nat) (N : Nat) (A : Nat → Nat → Nat) (ao : Nat) (s : T_PL) (f : Nat → Int64) (x1 : Int32) (o : Int32 × T_PL × (Nat → Int64)) (h : W_poolBreakage N s f x1 = some o) : CtH l D [(cI, .int), (cB, .byte), (cL, .long), (cO, .object RX0)] pf yL_poolBreakage cL_poolBreakage 4 (some FieldType.int) [(0, 9, 12, 34)] { frames := 9, cells := 1, slots := 6, locals := 172 } [.ref (A 0 0), .int x1, .ref ao] (List.flatten [wPL cI cB cO A s, [(ao, .inl (cL, 1, .inr (.inl f)))]]) (is1 (some (.int o.1)) (List.flatten [wPL cI cB cO A o.2.1, [(ao, .inl (cL, 1, .inr (.inl o.2.2)))]])) := by
  refine CtH_of (own := R_lawN) (lv0 := [(0, .ref (A 0 0)), (1, .int x1), (2, .ref ao)]) (by decide) rfl rfl (Nat.le_of_ble_eq_true rfl) ?_
  intro p e s' m args below meth c C hr ht
  obtain ⟨r, hr1, hK⟩ := Option.bind_eq_some_iff.mp h
  refine J_aload_n (pc := 0) C dL_poolBreakage_0 2 rfl ?_
  refine J_iconst (v := (0 : Int32)) (pc := 1) C dL_poolBreakage_1 (by decide) ?_
  refine J_aload_n (pc := 2) C dL_poolBreakage_2 0 rfl ?_
  refine J_iload_n (pc := 3) C dL_poolBreakage_3 1 rfl ?_
  refine J_xvH (o9 := r.1) (V := some (.int r.2.1)) (W1 := wPL cI cB cO A r.2.2) (Wc := wPL cI cB cO A s) (pc := 4) (As := [.int x1]) (st := [.int (0 : Int32), .ref ao]) C dL_poolBreakage_4 ml_L_145 mi_yX10_poolBreakage (Q_poolBreakage l hl D cI cB cL cO pf N A s x1 r hr1) [(ao, .inl (cL, 1, .inr (.inl f)))] (by simp [List.flatten]) at_this rfl rfl ⟨(Nat.le_of_ble_eq_true rfl), (Nat.le_of_ble_eq_true rfl)⟩ ⟨(Nat.le_of_ble_eq_true rfl), (Nat.le_of_ble_eq_true rfl)⟩ (Nat.le_of_ble_eq_true rfl) (fun h0 => ?_) (fun h0 => ?_)
  · rw [if_pos h0] at hK
    have hK := Option.some.inj hK
    subst hK
    refine J_ws (ws2 := (List.flatten [wPL cI cB cO A r.2.2, [(ao, .inl (cL, 1, .inr (.inl f)))]])) (by simp [List.flatten]) ?_
    refine J_i2l (pc := 7) C dL_poolBreakage_7 ?_
    refine J_perm (ws2 := [(ao, .inl (cL, 1, .inr (.inl f)))] ++ wPL cI cB cO A r.2.2) (perm_out _ _) ?_
    refine J_last (pc := 8) C dL_poolBreakage_8 0 2 (rfl : ([(ao, .inl (cL, 1, .inr (.inl f)))] ++ wPL cI cB cO A r.2.2 : va_W)[0]? = some (ao, .inl (cL, 1, .inr (.inl f)))) rfl (by unfold vp_in; decide) ?_
    refine J_ws (ws2 := [(ao, .inl (cL, 1, .inr (.inl (vp_updL f 0 r.2.1.toInt64))))] ++ wPL cI cB cO A r.2.2) rfl ?_
    refine J_perm (ws2 := (List.flatten [wPL cI cB cO A r.2.2, [(ao, .inl (cL, 1, .inr (.inl (vp_updL f 0 r.2.1.toInt64))))]])) (perm_out _ _).symm ?_
    refine J_goto (tgt := 15) (pc := 9) C dL_poolBreakage_9 (by decide) ?_
    refine J_iconst (v := (0 : Int32)) (pc := 15) C dL_poolBreakage_15 (by decide) ?_
    refine J_widen (k2 := 1) (n2 := 6) (Nat.le_of_ble_eq_true rfl) (Nat.le_of_ble_eq_true rfl) ?_
    exact J_iret (pc := 16) C dL_poolBreakage_16 hr ⟨rfl, rfl⟩
  · rw [if_neg h0] at hK
    by_cases h0 : r.1 = 4
    · rw [if_pos h0] at hK
      have hK := Option.some.inj hK
      subst hK
      refine ⟨[], [], ⟨0, 9, 12, 34⟩, "java/lang/IndexOutOfBoundsException", ht, (fun z hz => by cases hz), rfl, Nat.succ_ne_zero _, cl_L_34, (by rw [h0]; exact ca_of C.2.2.2.2.2.2.2.2 (by decide)), fun q => ?_⟩
      refine J_ws (ws2 := (List.flatten [wPL cI cB cO A r.2.2, [(ao, .inl (cL, 1, .inr (.inl f)))]])) (by simp [List.flatten]) ?_
      refine J_astore_n (lv2 := [(3, .ref q), (0, .ref (A 0 0)), (1, .int x1), (2, .ref ao)]) (pc := 12) C dL_poolBreakage_12 (by decide) rfl ?_
      refine J_iconst (v := (1 : Int32)) (pc := 13) C dL_poolBreakage_13 (by decide) ?_
      refine J_widen (k2 := 1) (n2 := 6) (Nat.le_of_ble_eq_true rfl) (Nat.le_of_ble_eq_true rfl) ?_
      exact J_iret (pc := 14) C dL_poolBreakage_14 hr ⟨rfl, rfl⟩
    rw [if_neg h0] at hK
    cases hK
theorem dL_rankedMember_0 : decode cL_rankedMember 0 = .ok (.aload_n 2, 1) := by decide +kernel
theorem dL_rankedMember_1 : decode cL_rankedMember 1 = .ok (.iconst 0, 1) := by decide +kernel
theorem dL_rankedMember_2 : decode cL_rankedMember 2 = .ok (.aload_n 0, 1) := by decide +kernel
theorem dL_rankedMember_3 : decode cL_rankedMember 3 = .ok (.iload_n 1, 1) := by decide +kernel
theorem dL_rankedMember_4 : decode cL_rankedMember 4 = .ok (.invokevirtual 148, 3) := by decide +kernel
theorem dL_rankedMember_7 : decode cL_rankedMember 7 = .ok (.i2l, 1) := by decide +kernel
theorem dL_rankedMember_8 : decode cL_rankedMember 8 = .ok (.lastore, 1) := by decide +kernel
theorem dL_rankedMember_9 : decode cL_rankedMember 9 = .ok (.goto 6, 3) := by decide +kernel
theorem dL_rankedMember_12 : decode cL_rankedMember 12 = .ok (.astore_n 3, 1) := by decide +kernel
theorem dL_rankedMember_13 : decode cL_rankedMember 13 = .ok (.iconst 1, 1) := by decide +kernel
theorem dL_rankedMember_14 : decode cL_rankedMember 14 = .ok (.ireturn, 1) := by decide +kernel
theorem dL_rankedMember_15 : decode cL_rankedMember 15 = .ok (.iconst 0, 1) := by decide +kernel
theorem dL_rankedMember_16 : decode cL_rankedMember 16 = .ok (.ireturn, 1) := by decide +kernel
set_option maxHeartbeats 4000000 in
set_option maxRecDepth 100000 in
theorem V_rankedMember (l : Launch) (hl : l.stackTraces = false) (D : va_G) (cI cB cL cO : ClassId) (pf : Nat → Nat) (N : Nat) (A : Nat → Nat → Nat) (ao : Nat) (s : T_PL) (f : Nat → Int64) (x1 : Int32) (o : Int32 × T_PL × (Nat → Int64)) (h : W_rankedMember N s f x1 = some o) : CtH l D [(cI, .int), (cB, .byte), (cL, .long), (cO, .object RX0)] pf yL_rankedMember cL_rankedMember 4 (some FieldType.int) [(0, 9, 12, 34)] { frames := 8, cells := 1, slots := 6, locals := 151 } [.ref (A 0 0), .int x1, .ref ao] (List.flatten [wPL cI cB cO A s, [(ao, .inl (cL, 1, .inr (.inl f)))]]) (is1 (some (.int o.1)) (List.flatten [wPL cI cB cO A o.2.1, [(ao, .inl (cL, 1, .inr (.inl o.2.2)))]])) := by
  refine CtH_of (own := R_lawN) (lv0 := [(0, .ref (A 0 0)), (1, .int x1), (2, .ref ao)]) (by decide) rfl rfl (Nat.le_of_ble_eq_true rfl) ?_
  intro p e s' m args below meth c C hr ht
  obtain ⟨r, hr1, hK⟩ := Option.bind_eq_some_iff.mp h
  refine J_aload_n (pc := 0) C dL_rankedMember_0 2 rfl ?_
  refine J_iconst (v := (0 : Int32)) (pc := 1) C dL_rankedMember_1 (by decide) ?_
  refine J_aload_n (pc := 2) C dL_rankedMember_2 0 rfl ?_
  refine J_iload_n (pc := 3) C dL_rankedMember_3 1 rfl ?_
  refine J_xvH (o9 := r.1) (V := some (.int r.2.1)) (W1 := wPL cI cB cO A r.2.2) (Wc := wPL cI cB cO A s) (pc := 4) (As := [.int x1]) (st := [.int (0 : Int32), .ref ao]) C dL_rankedMember_4 ml_L_148 mi_yX10_rankedMember (Q_rankedMember l hl D cI cB cL cO pf N A s x1 r hr1) [(ao, .inl (cL, 1, .inr (.inl f)))] (by simp [List.flatten]) at_this rfl rfl ⟨(Nat.le_of_ble_eq_true rfl), (Nat.le_of_ble_eq_true rfl)⟩ ⟨(Nat.le_of_ble_eq_true rfl), (Nat.le_of_ble_eq_true rfl)⟩ (Nat.le_of_ble_eq_true rfl) (fun h0 => ?_) (fun h0 => ?_)
  · rw [if_pos h0] at hK
    have hK := Option.some.inj hK
    subst hK
    refine J_ws (ws2 := (List.flatten [wPL cI cB cO A r.2.2, [(ao, .inl (cL, 1, .inr (.inl f)))]])) (by simp [List.flatten]) ?_
    refine J_i2l (pc := 7) C dL_rankedMember_7 ?_
    refine J_perm (ws2 := [(ao, .inl (cL, 1, .inr (.inl f)))] ++ wPL cI cB cO A r.2.2) (perm_out _ _) ?_
    refine J_last (pc := 8) C dL_rankedMember_8 0 2 (rfl : ([(ao, .inl (cL, 1, .inr (.inl f)))] ++ wPL cI cB cO A r.2.2 : va_W)[0]? = some (ao, .inl (cL, 1, .inr (.inl f)))) rfl (by unfold vp_in; decide) ?_
    refine J_ws (ws2 := [(ao, .inl (cL, 1, .inr (.inl (vp_updL f 0 r.2.1.toInt64))))] ++ wPL cI cB cO A r.2.2) rfl ?_
    refine J_perm (ws2 := (List.flatten [wPL cI cB cO A r.2.2, [(ao, .inl (cL, 1, .inr (.inl (vp_updL f 0 r.2.1.toInt64))))]])) (perm_out _ _).symm ?_
    refine J_goto (tgt := 15) (pc := 9) C dL_rankedMember_9 (by decide) ?_
    refine J_iconst (v := (0 : Int32)) (pc := 15) C dL_rankedMember_15 (by decide) ?_
    refine J_widen (k2 := 1) (n2 := 6) (Nat.le_of_ble_eq_true rfl) (Nat.le_of_ble_eq_true rfl) ?_
    exact J_iret (pc := 16) C dL_rankedMember_16 hr ⟨rfl, rfl⟩
  · rw [if_neg h0] at hK
    by_cases h0 : r.1 = 4
    · rw [if_pos h0] at hK
      have hK := Option.some.inj hK
      subst hK
      refine ⟨[], [], ⟨0, 9, 12, 34⟩, "java/lang/IndexOutOfBoundsException", ht, (fun z hz => by cases hz), rfl, Nat.succ_ne_zero _, cl_L_34, (by rw [h0]; exact ca_of C.2.2.2.2.2.2.2.2 (by decide)), fun q => ?_⟩
      refine J_ws (ws2 := (List.flatten [wPL cI cB cO A r.2.2, [(ao, .inl (cL, 1, .inr (.inl f)))]])) (by simp [List.flatten]) ?_
      refine J_astore_n (lv2 := [(3, .ref q), (0, .ref (A 0 0)), (1, .int x1), (2, .ref ao)]) (pc := 12) C dL_rankedMember_12 (by decide) rfl ?_
      refine J_iconst (v := (1 : Int32)) (pc := 13) C dL_rankedMember_13 (by decide) ?_
      refine J_widen (k2 := 1) (n2 := 6) (Nat.le_of_ble_eq_true rfl) (Nat.le_of_ble_eq_true rfl) ?_
      exact J_iret (pc := 14) C dL_rankedMember_14 hr ⟨rfl, rfl⟩
    rw [if_neg h0] at hK
    cases hK
theorem dL_log_0 : decode cL_log 0 = .ok (.aload_n 3, 1) := by decide +kernel
theorem dL_log_1 : decode cL_log 1 = .ok (.iconst 0, 1) := by decide +kernel
theorem dL_log_2 : decode cL_log 2 = .ok (.aload_n 0, 1) := by decide +kernel
theorem dL_log_3 : decode cL_log 3 = .ok (.iload_n 1, 1) := by decide +kernel
theorem dL_log_4 : decode cL_log 4 = .ok (.iload_n 2, 1) := by decide +kernel
theorem dL_log_5 : decode cL_log 5 = .ok (.invokevirtual 151, 3) := by decide +kernel
theorem dL_log_8 : decode cL_log 8 = .ok (.i2l, 1) := by decide +kernel
theorem dL_log_9 : decode cL_log 9 = .ok (.lastore, 1) := by decide +kernel
theorem dL_log_10 : decode cL_log 10 = .ok (.goto 11, 3) := by decide +kernel
theorem dL_log_13 : decode cL_log 13 = .ok (.astore 4, 2) := by decide +kernel
theorem dL_log_15 : decode cL_log 15 = .ok (.iconst 1, 1) := by decide +kernel
theorem dL_log_16 : decode cL_log 16 = .ok (.ireturn, 1) := by decide +kernel
theorem dL_log_17 : decode cL_log 17 = .ok (.astore 4, 2) := by decide +kernel
theorem dL_log_19 : decode cL_log 19 = .ok (.iconst 2, 1) := by decide +kernel
theorem dL_log_20 : decode cL_log 20 = .ok (.ireturn, 1) := by decide +kernel
theorem dL_log_21 : decode cL_log 21 = .ok (.iconst 0, 1) := by decide +kernel
theorem dL_log_22 : decode cL_log 22 = .ok (.ireturn, 1) := by decide +kernel
set_option maxHeartbeats 4000000 in
set_option maxRecDepth 100000 in
theorem V_log (l : Launch) (hl : l.stackTraces = false) (D : va_G) (cI cB cL cO : ClassId) (pf : Nat → Nat) (N : Nat) (A : Nat → Nat → Nat) (ao : Nat) (s : T_PL) (f : Nat → Int64) (x1 : Int32) (x2 : Int32) (o : Int32 × T_PL × (Nat → Int64)) (h : W_log N s f x1 x2 = some o) : CtH l D [(cI, .int), (cB, .byte), (cL, .long), (cO, .object RX0)] pf yL_log cL_log 5 (some FieldType.int) [(0, 10, 13, 34), (0, 10, 17, 19)] { frames := 9, cells := 1, slots := 6, locals := 174 } [.ref (A 0 0), .int x1, .int x2, .ref ao] (List.flatten [wPL cI cB cO A s, [(ao, .inl (cL, 1, .inr (.inl f)))]]) (is1 (some (.int o.1)) (List.flatten [wPL cI cB cO A o.2.1, [(ao, .inl (cL, 1, .inr (.inl o.2.2)))]])) := by
  refine CtH_of (own := R_lawN) (lv0 := [(0, .ref (A 0 0)), (1, .int x1), (2, .int x2), (3, .ref ao)]) (by decide) rfl rfl (Nat.le_of_ble_eq_true rfl) ?_
  intro p e s' m args below meth c C hr ht
  obtain ⟨r, hr1, hK⟩ := Option.bind_eq_some_iff.mp h
  refine J_aload_n (pc := 0) C dL_log_0 3 rfl ?_
  refine J_iconst (v := (0 : Int32)) (pc := 1) C dL_log_1 (by decide) ?_
  refine J_aload_n (pc := 2) C dL_log_2 0 rfl ?_
  refine J_iload_n (pc := 3) C dL_log_3 1 rfl ?_
  refine J_iload_n (pc := 4) C dL_log_4 2 rfl ?_
  refine J_xvH (o9 := r.1) (V := some (.int r.2.1)) (W1 := wPL cI cB cO A r.2.2) (Wc := wPL cI cB cO A s) (pc := 5) (As := [.int x1, .int x2]) (st := [.int (0 : Int32), .ref ao]) C dL_log_5 ml_L_151 mi_yX10_log (Q_log l hl D cI cB cL cO pf N A s x1 x2 r hr1) [(ao, .inl (cL, 1, .inr (.inl f)))] (by simp [List.flatten]) at_this rfl rfl ⟨(Nat.le_of_ble_eq_true rfl), (Nat.le_of_ble_eq_true rfl)⟩ ⟨(Nat.le_of_ble_eq_true rfl), (Nat.le_of_ble_eq_true rfl)⟩ (Nat.le_of_ble_eq_true rfl) (fun h0 => ?_) (fun h0 => ?_)
  · rw [if_pos h0] at hK
    have hK := Option.some.inj hK
    subst hK
    refine J_ws (ws2 := (List.flatten [wPL cI cB cO A r.2.2, [(ao, .inl (cL, 1, .inr (.inl f)))]])) (by simp [List.flatten]) ?_
    refine J_i2l (pc := 8) C dL_log_8 ?_
    refine J_perm (ws2 := [(ao, .inl (cL, 1, .inr (.inl f)))] ++ wPL cI cB cO A r.2.2) (perm_out _ _) ?_
    refine J_last (pc := 9) C dL_log_9 0 2 (rfl : ([(ao, .inl (cL, 1, .inr (.inl f)))] ++ wPL cI cB cO A r.2.2 : va_W)[0]? = some (ao, .inl (cL, 1, .inr (.inl f)))) rfl (by unfold vp_in; decide) ?_
    refine J_ws (ws2 := [(ao, .inl (cL, 1, .inr (.inl (vp_updL f 0 r.2.1.toInt64))))] ++ wPL cI cB cO A r.2.2) rfl ?_
    refine J_perm (ws2 := (List.flatten [wPL cI cB cO A r.2.2, [(ao, .inl (cL, 1, .inr (.inl (vp_updL f 0 r.2.1.toInt64))))]])) (perm_out _ _).symm ?_
    refine J_goto (tgt := 21) (pc := 10) C dL_log_10 (by decide) ?_
    refine J_iconst (v := (0 : Int32)) (pc := 21) C dL_log_21 (by decide) ?_
    refine J_widen (k2 := 1) (n2 := 6) (Nat.le_of_ble_eq_true rfl) (Nat.le_of_ble_eq_true rfl) ?_
    exact J_iret (pc := 22) C dL_log_22 hr ⟨rfl, rfl⟩
  · rw [if_neg h0] at hK
    by_cases h0 : r.1 = 4
    · rw [if_pos h0] at hK
      have hK := Option.some.inj hK
      subst hK
      refine ⟨[], [⟨0, 10, 17, 19⟩], ⟨0, 10, 13, 34⟩, "java/lang/IndexOutOfBoundsException", ht, (fun z hz => by cases hz), rfl, Nat.succ_ne_zero _, cl_L_34, (by rw [h0]; exact ca_of C.2.2.2.2.2.2.2.2 (by decide)), fun q => ?_⟩
      refine J_ws (ws2 := (List.flatten [wPL cI cB cO A r.2.2, [(ao, .inl (cL, 1, .inr (.inl f)))]])) (by simp [List.flatten]) ?_
      refine J_astore (lv2 := [(4, .ref q), (0, .ref (A 0 0)), (1, .int x1), (2, .int x2), (3, .ref ao)]) (pc := 13) C dL_log_13 (by decide) rfl ?_
      refine J_iconst (v := (1 : Int32)) (pc := 15) C dL_log_15 (by decide) ?_
      refine J_widen (k2 := 1) (n2 := 6) (Nat.le_of_ble_eq_true rfl) (Nat.le_of_ble_eq_true rfl) ?_
      exact J_iret (pc := 16) C dL_log_16 hr ⟨rfl, rfl⟩
    rw [if_neg h0] at hK
    by_cases h1 : r.1 = 2
    · rw [if_pos h1] at hK
      have hK := Option.some.inj hK
      subst hK
      refine ⟨[⟨0, 10, 13, 34⟩], [], ⟨0, 10, 17, 19⟩, "java/lang/IllegalArgumentException", ht, (fun z hz => by
          rcases List.mem_cons.mp hz with rfl | hz
          · exact ⟨Nat.succ_ne_zero _, "java/lang/IndexOutOfBoundsException", cl_L_34, (by rw [h1]; exact nc_of C.2.2.2.2.2.2.2.2 (by decide))⟩
          cases hz), rfl, Nat.succ_ne_zero _, cl_L_19, (by rw [h1]; exact ca_of C.2.2.2.2.2.2.2.2 (by decide)), fun q => ?_⟩
      refine J_ws (ws2 := (List.flatten [wPL cI cB cO A r.2.2, [(ao, .inl (cL, 1, .inr (.inl f)))]])) (by simp [List.flatten]) ?_
      refine J_astore (lv2 := [(4, .ref q), (0, .ref (A 0 0)), (1, .int x1), (2, .int x2), (3, .ref ao)]) (pc := 17) C dL_log_17 (by decide) rfl ?_
      refine J_iconst (v := (2 : Int32)) (pc := 19) C dL_log_19 (by decide) ?_
      refine J_widen (k2 := 1) (n2 := 6) (Nat.le_of_ble_eq_true rfl) (Nat.le_of_ble_eq_true rfl) ?_
      exact J_iret (pc := 20) C dL_log_20 hr ⟨rfl, rfl⟩
    rw [if_neg h1] at hK
    cases hK
theorem dL_undo_0 : decode cL_undo 0 = .ok (.aload_n 1, 1) := by decide +kernel
theorem dL_undo_1 : decode cL_undo 1 = .ok (.iconst 0, 1) := by decide +kernel
theorem dL_undo_2 : decode cL_undo 2 = .ok (.aload_n 0, 1) := by decide +kernel
theorem dL_undo_3 : decode cL_undo 3 = .ok (.invokevirtual 154, 3) := by decide +kernel
theorem dL_undo_6 : decode cL_undo 6 = .ok (.i2l, 1) := by decide +kernel
theorem dL_undo_7 : decode cL_undo 7 = .ok (.lastore, 1) := by decide +kernel
theorem dL_undo_8 : decode cL_undo 8 = .ok (.goto 6, 3) := by decide +kernel
theorem dL_undo_11 : decode cL_undo 11 = .ok (.astore_n 2, 1) := by decide +kernel
theorem dL_undo_12 : decode cL_undo 12 = .ok (.iconst 1, 1) := by decide +kernel
theorem dL_undo_13 : decode cL_undo 13 = .ok (.ireturn, 1) := by decide +kernel
theorem dL_undo_14 : decode cL_undo 14 = .ok (.iconst 0, 1) := by decide +kernel
theorem dL_undo_15 : decode cL_undo 15 = .ok (.ireturn, 1) := by decide +kernel
set_option maxHeartbeats 4000000 in
set_option maxRecDepth 100000 in
theorem V_undo (l : Launch) (hl : l.stackTraces = false) (D : va_G) (cI cB cL cO : ClassId) (pf : Nat → Nat) (N : Nat) (A : Nat → Nat → Nat) (ao : Nat) (s : T_PL) (f : Nat → Int64) (o : Int32 × T_PL × (Nat → Int64)) (h : W_undo N s f = some o) : CtH l D [(cI, .int), (cB, .byte), (cL, .long), (cO, .object RX0)] pf yL_undo cL_undo 3 (some FieldType.int) [(0, 8, 11, 13)] { frames := 8, cells := 1, slots := 6, locals := 188 } [.ref (A 0 0), .ref ao] (List.flatten [wPL cI cB cO A s, [(ao, .inl (cL, 1, .inr (.inl f)))]]) (is1 (some (.int o.1)) (List.flatten [wPL cI cB cO A o.2.1, [(ao, .inl (cL, 1, .inr (.inl o.2.2)))]])) := by
  refine CtH_of (own := R_lawN) (lv0 := [(0, .ref (A 0 0)), (1, .ref ao)]) (by decide) rfl rfl (Nat.le_of_ble_eq_true rfl) ?_
  intro p e s' m args below meth c C hr ht
  obtain ⟨r, hr1, hK⟩ := Option.bind_eq_some_iff.mp h
  refine J_aload_n (pc := 0) C dL_undo_0 1 rfl ?_
  refine J_iconst (v := (0 : Int32)) (pc := 1) C dL_undo_1 (by decide) ?_
  refine J_aload_n (pc := 2) C dL_undo_2 0 rfl ?_
  refine J_xvH (o9 := r.1) (V := some (.int r.2.1)) (W1 := wPL cI cB cO A r.2.2) (Wc := wPL cI cB cO A s) (pc := 3) (As := []) (st := [.int (0 : Int32), .ref ao]) C dL_undo_3 ml_L_154 mi_yX10_undo (Q_undo l hl D cI cB cL cO pf N A s r hr1) [(ao, .inl (cL, 1, .inr (.inl f)))] (by simp [List.flatten]) at_this rfl rfl ⟨(Nat.le_of_ble_eq_true rfl), (Nat.le_of_ble_eq_true rfl)⟩ ⟨(Nat.le_of_ble_eq_true rfl), (Nat.le_of_ble_eq_true rfl)⟩ (Nat.le_of_ble_eq_true rfl) (fun h0 => ?_) (fun h0 => ?_)
  · rw [if_pos h0] at hK
    have hK := Option.some.inj hK
    subst hK
    refine J_ws (ws2 := (List.flatten [wPL cI cB cO A r.2.2, [(ao, .inl (cL, 1, .inr (.inl f)))]])) (by simp [List.flatten]) ?_
    refine J_i2l (pc := 6) C dL_undo_6 ?_
    refine J_perm (ws2 := [(ao, .inl (cL, 1, .inr (.inl f)))] ++ wPL cI cB cO A r.2.2) (perm_out _ _) ?_
    refine J_last (pc := 7) C dL_undo_7 0 2 (rfl : ([(ao, .inl (cL, 1, .inr (.inl f)))] ++ wPL cI cB cO A r.2.2 : va_W)[0]? = some (ao, .inl (cL, 1, .inr (.inl f)))) rfl (by unfold vp_in; decide) ?_
    refine J_ws (ws2 := [(ao, .inl (cL, 1, .inr (.inl (vp_updL f 0 r.2.1.toInt64))))] ++ wPL cI cB cO A r.2.2) rfl ?_
    refine J_perm (ws2 := (List.flatten [wPL cI cB cO A r.2.2, [(ao, .inl (cL, 1, .inr (.inl (vp_updL f 0 r.2.1.toInt64))))]])) (perm_out _ _).symm ?_
    refine J_goto (tgt := 14) (pc := 8) C dL_undo_8 (by decide) ?_
    refine J_iconst (v := (0 : Int32)) (pc := 14) C dL_undo_14 (by decide) ?_
    refine J_widen (k2 := 1) (n2 := 6) (Nat.le_of_ble_eq_true rfl) (Nat.le_of_ble_eq_true rfl) ?_
    exact J_iret (pc := 15) C dL_undo_15 hr ⟨rfl, rfl⟩
  · rw [if_neg h0] at hK
    by_cases h0 : r.1 = 1
    · rw [if_pos h0] at hK
      have hK := Option.some.inj hK
      subst hK
      refine ⟨[], [], ⟨0, 8, 11, 13⟩, "java/lang/IllegalStateException", ht, (fun z hz => by cases hz), rfl, Nat.succ_ne_zero _, cl_L_13, (by rw [h0]; exact ca_of C.2.2.2.2.2.2.2.2 (by decide)), fun q => ?_⟩
      refine J_ws (ws2 := (List.flatten [wPL cI cB cO A r.2.2, [(ao, .inl (cL, 1, .inr (.inl f)))]])) (by simp [List.flatten]) ?_
      refine J_astore_n (lv2 := [(2, .ref q), (0, .ref (A 0 0)), (1, .ref ao)]) (pc := 11) C dL_undo_11 (by decide) rfl ?_
      refine J_iconst (v := (1 : Int32)) (pc := 12) C dL_undo_12 (by decide) ?_
      refine J_widen (k2 := 1) (n2 := 6) (Nat.le_of_ble_eq_true rfl) (Nat.le_of_ble_eq_true rfl) ?_
      exact J_iret (pc := 13) C dL_undo_13 hr ⟨rfl, rfl⟩
    rw [if_neg h0] at hK
    cases hK
theorem dL_restore_0 : decode cL_restore 0 = .ok (.aload_n 1, 1) := by decide +kernel
theorem dL_restore_1 : decode cL_restore 1 = .ok (.iconst 0, 1) := by decide +kernel
theorem dL_restore_2 : decode cL_restore 2 = .ok (.aload_n 0, 1) := by decide +kernel
theorem dL_restore_3 : decode cL_restore 3 = .ok (.invokevirtual 157, 3) := by decide +kernel
theorem dL_restore_6 : decode cL_restore 6 = .ok (.i2l, 1) := by decide +kernel
theorem dL_restore_7 : decode cL_restore 7 = .ok (.lastore, 1) := by decide +kernel
theorem dL_restore_8 : decode cL_restore 8 = .ok (.goto 6, 3) := by decide +kernel
theorem dL_restore_11 : decode cL_restore 11 = .ok (.astore_n 2, 1) := by decide +kernel
theorem dL_restore_12 : decode cL_restore 12 = .ok (.iconst 1, 1) := by decide +kernel
theorem dL_restore_13 : decode cL_restore 13 = .ok (.ireturn, 1) := by decide +kernel
theorem dL_restore_14 : decode cL_restore 14 = .ok (.iconst 0, 1) := by decide +kernel
theorem dL_restore_15 : decode cL_restore 15 = .ok (.ireturn, 1) := by decide +kernel
set_option maxHeartbeats 4000000 in
set_option maxRecDepth 100000 in
theorem V_restore (l : Launch) (hl : l.stackTraces = false) (D : va_G) (cI cB cL cO : ClassId) (pf : Nat → Nat) (N : Nat) (A : Nat → Nat → Nat) (ao : Nat) (s : T_PL) (f : Nat → Int64) (o : Int32 × T_PL × (Nat → Int64)) (h : W_restore N s f = some o) : CtH l D [(cI, .int), (cB, .byte), (cL, .long), (cO, .object RX0)] pf yL_restore cL_restore 3 (some FieldType.int) [(0, 8, 11, 13)] { frames := 8, cells := 1, slots := 6, locals := 166 } [.ref (A 0 0), .ref ao] (List.flatten [wPL cI cB cO A s, [(ao, .inl (cL, 1, .inr (.inl f)))]]) (is1 (some (.int o.1)) (List.flatten [wPL cI cB cO A o.2.1, [(ao, .inl (cL, 1, .inr (.inl o.2.2)))]])) := by
  refine CtH_of (own := R_lawN) (lv0 := [(0, .ref (A 0 0)), (1, .ref ao)]) (by decide) rfl rfl (Nat.le_of_ble_eq_true rfl) ?_
  intro p e s' m args below meth c C hr ht
  obtain ⟨r, hr1, hK⟩ := Option.bind_eq_some_iff.mp h
  refine J_aload_n (pc := 0) C dL_restore_0 1 rfl ?_
  refine J_iconst (v := (0 : Int32)) (pc := 1) C dL_restore_1 (by decide) ?_
  refine J_aload_n (pc := 2) C dL_restore_2 0 rfl ?_
  refine J_xvH (o9 := r.1) (V := some (.int r.2.1)) (W1 := wPL cI cB cO A r.2.2) (Wc := wPL cI cB cO A s) (pc := 3) (As := []) (st := [.int (0 : Int32), .ref ao]) C dL_restore_3 ml_L_157 mi_yX10_restore (Q_restore l hl D cI cB cL cO pf N A s r hr1) [(ao, .inl (cL, 1, .inr (.inl f)))] (by simp [List.flatten]) at_this rfl rfl ⟨(Nat.le_of_ble_eq_true rfl), (Nat.le_of_ble_eq_true rfl)⟩ ⟨(Nat.le_of_ble_eq_true rfl), (Nat.le_of_ble_eq_true rfl)⟩ (Nat.le_of_ble_eq_true rfl) (fun h0 => ?_) (fun h0 => ?_)
  · rw [if_pos h0] at hK
    have hK := Option.some.inj hK
    subst hK
    refine J_ws (ws2 := (List.flatten [wPL cI cB cO A r.2.2, [(ao, .inl (cL, 1, .inr (.inl f)))]])) (by simp [List.flatten]) ?_
    refine J_i2l (pc := 6) C dL_restore_6 ?_
    refine J_perm (ws2 := [(ao, .inl (cL, 1, .inr (.inl f)))] ++ wPL cI cB cO A r.2.2) (perm_out _ _) ?_
    refine J_last (pc := 7) C dL_restore_7 0 2 (rfl : ([(ao, .inl (cL, 1, .inr (.inl f)))] ++ wPL cI cB cO A r.2.2 : va_W)[0]? = some (ao, .inl (cL, 1, .inr (.inl f)))) rfl (by unfold vp_in; decide) ?_
    refine J_ws (ws2 := [(ao, .inl (cL, 1, .inr (.inl (vp_updL f 0 r.2.1.toInt64))))] ++ wPL cI cB cO A r.2.2) rfl ?_
    refine J_perm (ws2 := (List.flatten [wPL cI cB cO A r.2.2, [(ao, .inl (cL, 1, .inr (.inl (vp_updL f 0 r.2.1.toInt64))))]])) (perm_out _ _).symm ?_
    refine J_goto (tgt := 14) (pc := 8) C dL_restore_8 (by decide) ?_
    refine J_iconst (v := (0 : Int32)) (pc := 14) C dL_restore_14 (by decide) ?_
    refine J_widen (k2 := 1) (n2 := 6) (Nat.le_of_ble_eq_true rfl) (Nat.le_of_ble_eq_true rfl) ?_
    exact J_iret (pc := 15) C dL_restore_15 hr ⟨rfl, rfl⟩
  · rw [if_neg h0] at hK
    by_cases h0 : r.1 = 1
    · rw [if_pos h0] at hK
      have hK := Option.some.inj hK
      subst hK
      refine ⟨[], [], ⟨0, 8, 11, 13⟩, "java/lang/IllegalStateException", ht, (fun z hz => by cases hz), rfl, Nat.succ_ne_zero _, cl_L_13, (by rw [h0]; exact ca_of C.2.2.2.2.2.2.2.2 (by decide)), fun q => ?_⟩
      refine J_ws (ws2 := (List.flatten [wPL cI cB cO A r.2.2, [(ao, .inl (cL, 1, .inr (.inl f)))]])) (by simp [List.flatten]) ?_
      refine J_astore_n (lv2 := [(2, .ref q), (0, .ref (A 0 0)), (1, .ref ao)]) (pc := 11) C dL_restore_11 (by decide) rfl ?_
      refine J_iconst (v := (1 : Int32)) (pc := 12) C dL_restore_12 (by decide) ?_
      refine J_widen (k2 := 1) (n2 := 6) (Nat.le_of_ble_eq_true rfl) (Nat.le_of_ble_eq_true rfl) ?_
      exact J_iret (pc := 13) C dL_restore_13 hr ⟨rfl, rfl⟩
    rw [if_neg h0] at hK
    cases hK
