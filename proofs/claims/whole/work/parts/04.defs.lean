def p_Sess_stepsDone (s : XS) : Option Int32 :=
  some (gM s 14 8)
def p_City_isHouse (x0 : Int32) : Option Int32 :=
  (if x0 < 0 then some (0 : Int32) else (if (12 : Int32) ≤ x0 then some (0 : Int32) else some (1 : Int32)))
def p_City_isParty (x0 : Int32) : Option Int32 :=
  (if x0 < 0 then some (0 : Int32) else (if (4 : Int32) ≤ x0 then some (0 : Int32) else some (1 : Int32)))
def p_City_settle (x1 : Int32) (x2 : Int32) (s : XS) : Option (Int32 × XS) :=
  (if (40 : Int32) ≤ (gM s 1 5) then some ((-1 : Int32), s) else bind1 (p_City_isHouse x1) (fun r3 => (if r3 = 0 then some ((-1 : Int32), s) else bind1 (p_City_isParty x2) (fun r7 => (if r7 = 0 then some ((-1 : Int32), s) else if gIn (gM s 1 5) 40 = true then lq (sM s 2 (ix (gM s 1 5)) x1) (fun s11 => if gIn (gM s 1 5) 40 = true then lq (sM s11 3 (ix (gM s 1 5)) x2) (fun s13 => if gIn (gM s 1 5) 40 = true then lq (sM s13 4 (ix (gM s 1 5)) (vp_nar .boolean (1 : Int32))) (fun s15 => lq (sM s15 1 5 ((gM s15 1 5) + (1 : Int32))) (fun s16 => some ((gM s 1 5), s16))) else none) else none) else none)))))
def p_House_citizen (x1 : Int32) (x2 : Int32) (s : XS) : Option (Int32 × XS) :=
  bind1 (p_Sess_stepsDone s) (fun r2 => (if r2 ≤ 0 then bind2 (p_City_settle x1 x2 s) (fun r6 s7 => some (r6, s7)) else some ((-1 : Int32), s)))
def p_City_has (x1 : Int32) (s : XS) : Option Int32 :=
  (if x1 < 0 then some (0 : Int32) else (if (gM s 1 5) ≤ x1 then some (0 : Int32) else (if (40 : Int32) ≤ x1 then some (0 : Int32) else some (1 : Int32))))
def p_City_setThere (x1 : Int32) (x2 : Int32) (s : XS) : Option (Int32 × XS) :=
  bind1 (p_City_has x1 s) (fun r2 => (if r2 = 0 then some ((0 : Int32), s) else if gIn x1 40 = true then (if (gM s 4 (ix x1)) = x2 then some ((0 : Int32), s) else if gIn x1 40 = true then lq (sM s 4 (ix x1) (vp_nar .boolean x2)) (fun s8 => some ((1 : Int32), s8)) else none) else none))
def p_House_there (x1 : Int32) (x2 : Int32) (s : XS) : Option (Int32 × XS) :=
  bind2 (p_City_setThere x1 x2 s) (fun r2 s3 => if gZ r2 = true then some (r2, s3) else none)
def p_City_wasTold (x1 : Int32) (x2 : Int32) (s : XS) : Option Int32 :=
  if gIn x1 40 = true then (if (lg_cmp (((((gJ s 6 (ix x1))).toUInt64 >>> ((x2).toInt64.toUInt64 &&& Int64.toUInt64 63)).toInt64) &&& (1 : Int64)) (0 : Int64)) = 0 then some (0 : Int32) else some (1 : Int32)) else none
def p_City_tellKin (x1 : Int32) (x2 : Int32) (s : XS) : Option (Int32 × XS) :=
  bind1 (p_City_has x1 s) (fun r2 => (if r2 = 0 then some ((0 : Int32), s) else bind1 (p_City_has x2 s) (fun r6 => (if r6 = 0 then some ((0 : Int32), s) else (if x1 = x2 then some ((0 : Int32), s) else bind1 (p_City_wasTold x1 x2 s) (fun r11 => (if r11 = 0 then (if (gM s 1 6) < (60 : Int32) then if gIn x1 40 = true then if gIn x1 40 = true then lq (sJ s 6 (ix x1) ((gJ s 6 (ix x1)) ||| ((1 : Int64) <<< ((x2).toInt64 &&& 63)))) (fun s17 => if gIn x2 40 = true then if gIn x2 40 = true then lq (sJ s17 6 (ix x2) ((gJ s17 6 (ix x2)) ||| ((1 : Int64) <<< ((x1).toInt64 &&& 63)))) (fun s20 => lq (sM s20 1 6 ((gM s20 1 6) + (1 : Int32))) (fun s21 => some ((1 : Int32), s21))) else none else none) else none else none else some ((0 : Int32), s)) else some ((0 : Int32), s))))))))
def p_House_kin (x1 : Int32) (x2 : Int32) (s : XS) : Option (Int32 × XS) :=
  bind2 (p_City_tellKin x1 x2 s) (fun r2 s3 => if gZ r2 = true then some (r2, s3) else none)
def p_City_setYes (x1 : Int32) (x2 : Int32) (x3 : Int32) (s : XS) : Option (Int32 × XS) :=
  bind1 (p_City_isParty x1) (fun r2 => (if r2 = 0 then some ((0 : Int32), s) else bind1 (p_City_isParty x2) (fun r6 => (if r6 = 0 then some ((0 : Int32), s) else if gIn ((x1 * (4 : Int32)) + x2) 16 = true then (if (gM s 5 (ix ((x1 * (4 : Int32)) + x2))) = x3 then some ((0 : Int32), s) else if gIn ((x1 * (4 : Int32)) + x2) 16 = true then lq (sM s 5 (ix ((x1 * (4 : Int32)) + x2)) (vp_nar .boolean x3)) (fun s12 => some ((1 : Int32), s12)) else none) else none))))
def p_House_says (x1 : Int32) (x2 : Int32) (x3 : Int32) (s : XS) : Option (Int32 × XS) :=
  bind2 (p_City_setYes x1 x2 x3 s) (fun r2 s3 => if gZ r2 = true then some (r2, s3) else none)
def p_City_convert (x1 : Int32) (x2 : Int32) (x3 : Int32) (s : XS) : Option (Int32 × XS) :=
  bind1 (p_City_has x1 s) (fun r2 => (if r2 = 0 then some ((0 : Int32), s) else bind1 (p_City_isHouse x2) (fun r6 => (if r6 = 0 then some ((0 : Int32), s) else bind1 (p_City_isParty x3) (fun r10 => (if r10 = 0 then some ((0 : Int32), s) else if gIn x1 40 = true then lq (sM s 2 (ix x1) x2) (fun s14 => if gIn x1 40 = true then lq (sM s14 3 (ix x1) x3) (fun s16 => some ((1 : Int32), s16)) else none) else none))))))
def p_House_turn (x1 : Int32) (x2 : Int32) (x3 : Int32) (s : XS) : Option (Int32 × XS) :=
  bind2 (p_City_convert x1 x2 x3 s) (fun r2 s3 => if gZ r2 = true then some (r2, s3) else none)
def p_Tape_hasRoom (x1 : Int32) (s : XS) : Option Int32 :=
  (if ((300 : Int32) - (gM s 7 1)) < x1 then some (0 : Int32) else some (1 : Int32))
def p_Tape_append_B3 (x1 : Int32) (c3 : Int32 → XS → Option XS) (x2 : Int32) (s : XS) : Option XS :=
  (if x2 < 0 then some s else bind1 (p_Tape_hasRoom (1 : Int32) s) (fun r3 => (if r3 = 0 then c3 (x2 + (-8 : Int32)) s else if gIn (gM s 7 1) 300 = true then lq (sM s 8 (ix (gM s 7 1)) ((((x1).toUInt32 >>> ((x2).toUInt32 &&& Int32.toUInt32 31)).toInt32) &&& (255 : Int32))) (fun s7 => lq (sM s7 7 1 ((gM s7 7 1) + (1 : Int32))) (fun s8 => c3 (x2 + (-8 : Int32)) s8)) else none)))
def p_Tape_append (x1 : Int32) (s : XS) : Option XS :=
  lo2 (p_Tape_append_B3 x1) fuelN (24 : Int32) s
def p_Tape_length (s : XS) : Option Int32 :=
  some (gM s 7 1)
def p_House_feed (x1 : Int32) (x2 : Int32) (x3 : Int32) (x4 : Int32) (x5 : Int32) (s : XS) : Option (Int32 × XS) :=
  bind1 (p_Tape_hasRoom (20 : Int32) s) (fun r2 => (if r2 = 0 then some ((-1 : Int32), s) else bind1 (p_Tape_append x1 s) (fun s7 => bind1 (p_Tape_append x2 s7) (fun s10 => bind1 (p_Tape_append x3 s10) (fun s13 => bind1 (p_Tape_append x4 s13) (fun s16 => bind1 (p_Tape_append x5 s16) (fun s19 => bind1 (p_Tape_length s19) (fun r21 => some (r21, s19)))))))))
def p_Tape_cut (x1 : Int32) (s : XS) : Option (Int32 × XS) :=
  (if x1 < 0 then some ((0 : Int32), s) else (if x1 ≤ (gM s 7 1) then lq (sM s 7 1 x1) (fun s3 => some ((1 : Int32), s3)) else some ((0 : Int32), s)))
def p_House_end (x1 : Int32) (s : XS) : Option (Int32 × XS) :=
  bind2 (p_Tape_cut x1 s) (fun r2 s3 => (if r2 = 0 then some ((-1 : Int32), s3) else some (x1, s3)))
def p_Plan_clear (k0 : Nat) (s : XS) : Option XS :=
  lq (sM s (19 + 5 * k0) 4 (0 : Int32)) (fun s1 => some s1)
def p_Tape_at (x1 : Int32) (s : XS) : Option Int32 :=
  (if x1 < 0 then some (-1 : Int32) else (if (gM s 7 1) ≤ x1 then some (-1 : Int32) else if gIn x1 300 = true then some (gM s 8 (ix x1)) else none))
def p_Reader_skipBlanks_B0 (c0 : XS → Option XS) (s : XS) : Option XS :=
  bind1 (p_Tape_length s) (fun r2 => (if r2 ≤ (gM s 9 1) then some s else bind1 (p_Tape_at (gM s 9 1) s) (fun r6 => (if r6 = (32 : Int32) then lq (sM s 9 1 ((gM s 9 1) + (1 : Int32))) (fun s9 => c0 s9) else some s))))
def p_Reader_skipBlanks (s : XS) : Option XS :=
  lo1 (p_Reader_skipBlanks_B0) fuelN s
def p_Reader_isLetter (x0 : Int32) : Option Int32 :=
  (if x0 < (97 : Int32) then some (0 : Int32) else (if (122 : Int32) < x0 then some (0 : Int32) else some (1 : Int32)))
def p_Reader_spells_B17 (x1 : Int32) (k2 : Nat) (s : XS) (c17 : Int32 → Option Int32) (x3 : Int32) : Option Int32 :=
  (if (strN k2) ≤ x3 then some (1 : Int32) else bind1 (p_Tape_at (x1 + x3) s) (fun r3 => if gIn x3 (strLen.getD k2 0) = true then (if r3 = (strCh k2 (ix x3)) then c17 (x3 + (1 : Int32)) else some (0 : Int32)) else none))
def p_Reader_spells (x1 : Int32) (k2 : Nat) (s : XS) : Option Int32 :=
  (if ((gM s 9 1) - x1) = (strN k2) then lo1 (p_Reader_spells_B17 x1 k2 s) fuelN (0 : Int32) else some (0 : Int32))
def p_Reader_takeWord_K49 (x1 : Int32) (s : XS) : Option (Int32 × XS) :=
  bind1 (p_Reader_spells x1 0 s) (fun r2 => (if r2 = 0 then bind1 (p_Reader_spells x1 1 s) (fun r6 => (if r6 = 0 then bind1 (p_Reader_spells x1 2 s) (fun r10 => (if r10 = 0 then bind1 (p_Reader_spells x1 3 s) (fun r14 => (if r14 = 0 then bind1 (p_Reader_spells x1 4 s) (fun r18 => (if r18 = 0 then some ((0 : Int32), s) else some ((5 : Int32), s))) else some ((4 : Int32), s))) else some ((3 : Int32), s))) else some ((2 : Int32), s))) else some ((1 : Int32), s)))
def p_Reader_takeWord_B5 (x1 : Int32) (c5 : XS → Option (Int32 × XS)) (s : XS) : Option (Int32 × XS) :=
  bind1 (p_Tape_length s) (fun r22 => (if r22 ≤ (gM s 9 1) then p_Reader_takeWord_K49 x1 s else bind1 (p_Tape_at (gM s 9 1) s) (fun r26 => bind1 (p_Reader_isLetter r26) (fun r29 => (if r29 = 0 then p_Reader_takeWord_K49 x1 s else lq (sM s 9 1 ((gM s 9 1) + (1 : Int32))) (fun s32 => c5 s32))))))
def p_Reader_takeWord (s : XS) : Option (Int32 × XS) :=
  lo1 (p_Reader_takeWord_B5 (gM s 9 1)) fuelN s
def p_Reader_fail (x1 : Int32) (x2 : Int32) (s : XS) : Option (Int32 × XS) :=
  (if (gM s 9 3) = 0 then lq (sM s 9 3 (((1 : Int32) + ((8 : Int32) * x1)) + x2)) (fun s2 => some ((0 : Int32), s2)) else some ((0 : Int32), s))
def p_Reader_isDigit (x0 : Int32) : Option Int32 :=
  (if x0 < (48 : Int32) then some (0 : Int32) else (if (57 : Int32) < x0 then some (0 : Int32) else some (1 : Int32)))
def p_Reader_takeNumber_K128 (x3 : Int32) (s : XS) : Option (Int32 × XS) :=
  bind2 (p_Reader_fail x3 (1 : Int32) s) (fun r2 s3 => some ((0 : Int32), s3))
def p_Reader_takeNumber_K88 (x1 : Int32) (x2 : Int32) (x3 : Int32) (x4 : Int32) (s : XS) : Option (Int32 × XS) :=
  (if ((gM s 9 1) - x3) = 0 then bind2 (p_Reader_fail x3 (0 : Int32) s) (fun r13 s14 => some ((0 : Int32), s14)) else (if (2 : Int32) < ((gM s 9 1) - x3) then p_Reader_takeNumber_K128 x3 s else (if x4 < (1 : Int32) then p_Reader_takeNumber_K128 x3 s else (if x4 ≤ x1 then (if x4 ≤ x2 then some (x4, s) else bind2 (p_Reader_fail x3 (3 : Int32) s) (fun r10 s11 => some ((0 : Int32), s11))) else p_Reader_takeNumber_K128 x3 s))))
def p_Reader_takeNumber_B12 (x1 : Int32) (x2 : Int32) (x3 : Int32) (c12 : Int32 → XS → Option (Int32 × XS)) (x4 : Int32) (s : XS) : Option (Int32 × XS) :=
  bind1 (p_Tape_length s) (fun r16 => (if r16 ≤ (gM s 9 1) then p_Reader_takeNumber_K88 x1 x2 x3 x4 s else bind1 (p_Tape_at (gM s 9 1) s) (fun r20 => bind1 (p_Reader_isDigit r20) (fun r23 => (if r23 = 0 then p_Reader_takeNumber_K88 x1 x2 x3 x4 s else (if (2 : Int32) ≤ ((gM s 9 1) - x3) then lq (sM s 9 1 ((gM s 9 1) + (1 : Int32))) (fun s27 => c12 x4 s27) else bind1 (p_Tape_at (gM s 9 1) s) (fun r29 => lq (sM s 9 1 ((gM s 9 1) + (1 : Int32))) (fun s31 => c12 (((x4 * (10 : Int32)) + r29) - (48 : Int32)) s31))))))))
def p_Reader_takeNumber (x1 : Int32) (x2 : Int32) (s : XS) : Option (Int32 × XS) :=
  bind1 (p_Reader_skipBlanks s) (fun s34 => lo2 (p_Reader_takeNumber_B12 x1 x2 (gM s34 9 1)) fuelN (0 : Int32) s34)
def p_Reader_takeVotes (s : XS) : Option (Int32 × XS) :=
  bind1 (p_Reader_skipBlanks s) (fun s3 => bind2 (p_Reader_takeWord s3) (fun r5 s6 => (if r5 = (4 : Int32) then bind2 (p_Reader_takeNumber (40 : Int32) (gM s6 9 2) s6) (fun r9 s10 => some (r9, s10)) else bind2 (p_Reader_fail (gM s3 9 1) (0 : Int32) s6) (fun r12 s13 => some ((0 : Int32), s13)))))
def p_Reader_takeHouseLimit (s : XS) : Option (Int32 × XS) :=
  bind1 (p_Reader_skipBlanks s) (fun s3 => bind1 (p_Tape_at (gM s3 9 1) s3) (fun r5 => bind1 (p_Reader_isLetter r5) (fun r8 => (if r8 = 0 then some ((0 : Int32), s3) else bind2 (p_Reader_takeWord s3) (fun r12 s13 => (if r12 = (5 : Int32) then bind2 (p_Reader_takeNumber (9 : Int32) (9 : Int32) s13) (fun r16 s17 => some (r16, s17)) else bind2 (p_Reader_fail (gM s3 9 1) (0 : Int32) s13) (fun r19 s20 => some ((0 : Int32), s20))))))))
def p_Reader_takeEnd (s : XS) : Option (Int32 × XS) :=
  bind1 (p_Reader_skipBlanks s) (fun s3 => bind1 (p_Tape_length s3) (fun r5 => (if r5 ≤ (gM s3 9 1) then some ((0 : Int32), s3) else bind2 (p_Reader_fail (gM s3 9 1) (0 : Int32) s3) (fun r9 s10 => (if r9 = 0 then some ((0 : Int32), s10) else some ((1 : Int32), s10))))))
def p_Reader_takeSemicolon (s : XS) : Option (Int32 × XS) :=
  bind1 (p_Reader_skipBlanks s) (fun s3 => bind1 (p_Tape_at (gM s3 9 1) s3) (fun r5 => (if r5 = (59 : Int32) then lq (sM s3 9 1 ((gM s3 9 1) + (1 : Int32))) (fun s8 => some ((1 : Int32), s8)) else bind2 (p_Reader_fail (gM s3 9 1) (0 : Int32) s3) (fun r10 s11 => if gZ r10 = true then some (r10, s11) else none))))
def p_Plan_add (k0 : Nat) (x1 : Int32) (x2 : Int32) (x3 : Int32) (x4 : Int32) (s : XS) : Option XS :=
  (if (12 : Int32) ≤ (gM s (19 + 5 * k0) 4) then some s else if gIn (gM s (19 + 5 * k0) 4) 12 = true then lq (sM s (20 + 5 * k0) (ix (gM s (19 + 5 * k0) 4)) x1) (fun s3 => if gIn (gM s3 (19 + 5 * k0) 4) 12 = true then lq (sM s3 (21 + 5 * k0) (ix (gM s3 (19 + 5 * k0) 4)) x2) (fun s5 => if gIn (gM s5 (19 + 5 * k0) 4) 12 = true then lq (sM s5 (22 + 5 * k0) (ix (gM s5 (19 + 5 * k0) 4)) x3) (fun s7 => if gIn (gM s7 (19 + 5 * k0) 4) 12 = true then lq (sM s7 (23 + 5 * k0) (ix (gM s7 (19 + 5 * k0) 4)) x4) (fun s9 => lq (sM s9 (19 + 5 * k0) 4 ((gM s9 (19 + 5 * k0) 4) + (1 : Int32))) (fun s10 => some s10)) else none) else none) else none) else none)
def p_Reader_readStep_K155 (k1 : Nat) (x4 : Int32) (x6 : Int32) (x7 : Int32) (x8 : Int32) (t0 : Int32) (s : XS) : Option (Int32 × XS) :=
  (if (gM s 9 3) = 0 then bind1 (p_Plan_add k1 x4 x6 x7 x8 s) (fun s4 => lq (sM s4 9 2 x6) (fun s5 => if gZ t0 = true then some (t0, s5) else none)) else some ((0 : Int32), s))
def p_Reader_readStep_K136 (k1 : Nat) (x4 : Int32) (x6 : Int32) (x7 : Int32) (t0 : Int32) (s : XS) : Option (Int32 × XS) :=
  (if x4 = (3 : Int32) then bind2 (p_Reader_takeEnd s) (fun r11 s12 => p_Reader_readStep_K155 k1 x4 x6 x7 t0 r11 s12) else bind2 (p_Reader_takeSemicolon s) (fun r8 s9 => p_Reader_readStep_K155 k1 x4 x6 x7 t0 r8 s9))
def p_Reader_readStep_K120 (k1 : Nat) (x4 : Int32) (x6 : Int32) (t0 : Int32) (s : XS) : Option (Int32 × XS) :=
  (if x4 = (2 : Int32) then bind2 (p_Reader_takeHouseLimit s) (fun r15 s16 => p_Reader_readStep_K136 k1 x4 x6 t0 r15 s16) else p_Reader_readStep_K136 k1 x4 x6 t0 (0 : Int32) s)
def p_Reader_readStep_K104 (k1 : Nat) (x4 : Int32) (t0 : Int32) (s : XS) : Option (Int32 × XS) :=
  (if x4 = (1 : Int32) then p_Reader_readStep_K120 k1 x4 t0 (0 : Int32) s else bind2 (p_Reader_takeVotes s) (fun r19 s20 => p_Reader_readStep_K120 k1 x4 t0 r19 s20))
def p_Reader_readStep_K101 (k1 : Nat) (x4 : Int32) (t0 : Int32) (t1 : Int32) (s : XS) : Option (Int32 × XS) :=
  bind2 (p_Reader_takeNumber t1 t0 s) (fun r22 s23 => p_Reader_readStep_K104 k1 x4 r22 s23)
def p_Reader_readStep_K42 (k1 : Nat) (x2 : Int32) (x3 : Int32) (x4 : Int32) (t0 : Int32) (s : XS) : Option (Int32 × XS) :=
  (if t0 = 0 then bind2 (p_Reader_fail x3 (0 : Int32) s) (fun r33 s34 => if gZ r33 = true then some (r33, s34) else none) else (if x2 < (12 : Int32) then (if x4 = (3 : Int32) then p_Reader_readStep_K104 k1 x4 (1 : Int32) s else (if x4 = (1 : Int32) then (if x2 ≤ 0 then p_Reader_readStep_K101 k1 x4 (40 : Int32) (40 : Int32) s else p_Reader_readStep_K101 k1 x4 (gM s 9 2) (40 : Int32) s) else p_Reader_readStep_K101 k1 x4 (40 : Int32) (40 : Int32) s)) else bind2 (p_Reader_fail x3 (2 : Int32) s) (fun r30 s31 => if gZ r30 = true then some (r30, s31) else none)))
def p_Reader_readStep (k1 : Nat) (x2 : Int32) (s : XS) : Option (Int32 × XS) :=
  bind1 (p_Reader_skipBlanks s) (fun s37 => bind2 (p_Reader_takeWord s37) (fun r39 s40 => (if r39 = (1 : Int32) then p_Reader_readStep_K42 k1 x2 (gM s37 9 1) r39 (1 : Int32) s40 else (if x2 ≤ 0 then p_Reader_readStep_K42 k1 x2 (gM s37 9 1) r39 (0 : Int32) s40 else (if r39 = (2 : Int32) then p_Reader_readStep_K42 k1 x2 (gM s37 9 1) r39 (1 : Int32) s40 else (if r39 = (3 : Int32) then p_Reader_readStep_K42 k1 x2 (gM s37 9 1) r39 (1 : Int32) s40 else p_Reader_readStep_K42 k1 x2 (gM s37 9 1) r39 (0 : Int32) s40))))))
def p_Reader_read_B23 (k1 : Nat) (c23 : Int32 → Int32 → XS → Option (Int32 × XS)) (x2 : Int32) (x3 : Int32) (s : XS) : Option (Int32 × XS) :=
  (if x2 = 0 then some ((gM s 9 3), s) else (if (12 : Int32) < x3 then some ((gM s 9 3), s) else bind2 (p_Reader_readStep k1 x3 s) (fun r4 s5 => c23 r4 (x3 + (1 : Int32)) s5)))
def p_Reader_read (k1 : Nat) (s : XS) : Option (Int32 × XS) :=
  lq (sM s 9 1 (0 : Int32)) (fun s6 => lq (sM s6 9 2 (0 : Int32)) (fun s7 => lq (sM s7 9 3 (0 : Int32)) (fun s8 => bind1 (p_Plan_clear k1 s8) (fun s11 => lo3 (p_Reader_read_B23 k1) fuelN (1 : Int32) (0 : Int32) s11))))
def p_Sess_begin (k1 : Nat) (s : XS) : Option (Nat × XS) :=
  lq (sG s 14 7 k1) (fun s2 => lq (sM s2 14 8 (0 : Int32)) (fun s3 => lq (sM s3 14 9 (-1 : Int32)) (fun s4 => some ((gG s 14 7), s4))))
def p_Plan_length (k0 : Nat) (s : XS) : Option Int32 :=
  some (gM s (19 + 5 * k0) 4)
def p_Sess_stepsInAll (s : XS) : Option Int32 :=
  bind1 (p_Plan_length (gG s 14 7) s) (fun r3 => some r3)
def p_House_procedure (s : XS) : Option (Int32 × XS) :=
  bind2 (p_Reader_read (gG s 0 7) s) (fun r3 s4 => bind2 (p_Tape_cut (0 : Int32) s4) (fun r6 s7 => (if r3 = 0 then bind2 (p_Sess_begin (gG s7 0 7) s7) (fun r11 s12 => if decide (r11 < 2) = true then lq (sG s12 0 7 r11) (fun s14 => bind1 (p_Sess_stepsInAll s14) (fun r16 => some (r16, s14))) else none) else some (((-2 : Int32) - r3), s7))))
def p_Lot_tell (x1 : Int32) (s : XS) : Option (Int32 × XS) :=
  (if (500 : Int32) ≤ (gM s 10 2) then some ((-1 : Int32), s) else (if x1 < 0 then some ((-1 : Int32), s) else (if x1 < (10000 : Int32) then if gIn (((gM s 10 1) + (gM s 10 2)) - ((gM s 10 1) + (gM s 10 2)) / (500 : Int32) * (500 : Int32)) 500 = true then lq (sM s 11 (ix (((gM s 10 1) + (gM s 10 2)) - ((gM s 10 1) + (gM s 10 2)) / (500 : Int32) * (500 : Int32))) x1) (fun s6 => lq (sM s6 10 2 ((gM s6 10 2) + (1 : Int32))) (fun s7 => some ((gM s7 10 2), s7))) else none else some ((-1 : Int32), s))))
def p_House_lot (x1 : Int32) (s : XS) : Option (Int32 × XS) :=
  bind2 (p_Lot_tell x1 s) (fun r2 s3 => some (r2, s3))
def p_Plan_has (k0 : Nat) (x1 : Int32) (s : XS) : Option Int32 :=
  (if x1 < 0 then some (0 : Int32) else (if (gM s (19 + 5 * k0) 4) ≤ x1 then some (0 : Int32) else some (1 : Int32)))
def p_Plan_kindOf (k0 : Nat) (x1 : Int32) (s : XS) : Option Int32 :=
  bind1 (p_Plan_has k0 x1 s) (fun r2 => (if r2 = 0 then some (0 : Int32) else if gIn x1 12 = true then some (gM s (20 + 5 * k0) (ix x1)) else none))
def p_Plan_sizeOf (k0 : Nat) (x1 : Int32) (s : XS) : Option Int32 :=
  bind1 (p_Plan_has k0 x1 s) (fun r2 => (if r2 = 0 then some (0 : Int32) else if gIn x1 12 = true then some (gM s (21 + 5 * k0) (ix x1)) else none))
def p_City_size (s : XS) : Option Int32 :=
  some (gM s 1 5)
def p_City_isThere (x1 : Int32) (s : XS) : Option Int32 :=
  bind1 (p_City_has x1 s) (fun r2 => (if r2 = 0 then some (0 : Int32) else if gIn x1 40 = true then (if (gM s 4 (ix x1)) = 0 then some (0 : Int32) else some (1 : Int32)) else none))
def p_Sess_gatherFirstBody_B4 (c4 : Int32 → Int32 → XS → Option XS) (x1 : Int32) (x2 : Int32) (s : XS) : Option XS :=
  bind1 (p_City_size s) (fun r2 => (if r2 ≤ x2 then if gIn (0 : Int32) 13 = true then lq (sM s 16 (ix (0 : Int32)) x1) (fun s6 => some s6) else none else (if (40 : Int32) ≤ x1 then if gIn (0 : Int32) 13 = true then lq (sM s 16 (ix (0 : Int32)) x1) (fun s9 => some s9) else none else bind1 (p_City_isThere x2 s) (fun r11 => (if r11 = 0 then c4 x1 (x2 + (1 : Int32)) s else if gIn (0 : Int32) 13 = true then if gIn x1 40 = true then lq (sM s (48 + (ix (0 : Int32))) (ix x1) x2) (fun s17 => c4 (x1 + (1 : Int32)) (x2 + (1 : Int32)) s17) else none else none)))))
def p_Sess_gatherFirstBody (s : XS) : Option XS :=
  lo3 (p_Sess_gatherFirstBody_B4) fuelN (0 : Int32) (0 : Int32) s
def p_Sess_bodySize (s : XS) : Option (Int32 × XS) :=
  (if (gM s 14 8) = 0 then bind1 (p_Sess_gatherFirstBody s) (fun s5 => if gIn (gM s5 14 8) 13 = true then some ((gM s5 16 (ix (gM s5 14 8))), s5) else none) else if gIn (gM s 14 8) 13 = true then some ((gM s 16 (ix (gM s 14 8))), s) else none)
def p_Lot_at (x1 : Int32) (s : XS) : Option Int32 :=
  (if x1 < 0 then some (-1 : Int32) else (if (gM s 10 2) ≤ x1 then some (-1 : Int32) else if gIn (((gM s 10 1) + x1) - ((gM s 10 1) + x1) / (500 : Int32) * (500 : Int32)) 500 = true then some (gM s 11 (ix (((gM s 10 1) + x1) - ((gM s 10 1) + x1) / (500 : Int32) * (500 : Int32)))) else none))
def p_Lot_seekFair_B22 (x3 : Int32) (s : XS) (c22 : Int32 → Option Int32) (x4 : Int32) : Option Int32 :=
  (if (gM s 10 2) ≤ x4 then some (-1 : Int32) else bind1 (p_Lot_at x4 s) (fun r3 => (if x3 ≤ r3 then c22 (x4 + (1 : Int32)) else some x4)))
def p_Lot_seekFair (x1 : Int32) (x2 : Int32) (s : XS) : Option Int32 :=
  (if (1 : Int32) ≤ x2 then if x2 = 0 then none else lo1 (p_Lot_seekFair_B22 (x2 * ((10000 : Int32) / x2)) s) fuelN (if x1 < (0 : Int32) then (0 : Int32) else x1) else some (-1 : Int32))
def p_Lot_pick (x1 : Int32) (x2 : Int32) (s : XS) : Option Int32 :=
  bind1 (p_Lot_at x1 s) (fun r2 => (if x2 < (1 : Int32) then some (0 : Int32) else (if 0 ≤ r2 then if x2 = 0 then none else some (r2 - r2 / x2 * x2) else some (0 : Int32))))
def p_Sess_takeOut (x1 : Int32) (x2 : Int32) (s : XS) : Option (Int32 × XS) :=
  (if x1 < 0 then some ((-1 : Int32), s) else (if x2 ≤ x1 then some ((-1 : Int32), s) else (if x2 ≤ (40 : Int32) then if gIn x1 40 = true then if gCpy (x1 + (1 : Int32)) x1 ((x2 - x1) - (1 : Int32)) 40 40 = true then lq (sMR s 17 (va_cpy (gM s 17) (gM s 17) (ix (x1 + (1 : Int32))) (ix x1) (ix ((x2 - x1) - (1 : Int32))))) (fun s6 => some ((gM s 17 (ix x1)), s6)) else none else none else some ((-1 : Int32), s))))
def p_Lot_use (x1 : Int32) (s : XS) : Option XS :=
  (if x1 ≤ 0 then some s else (if (gM s 10 2) < x1 then some s else lq (sM s 10 1 (((gM s 10 1) + x1) - ((gM s 10 1) + x1) / (500 : Int32) * (500 : Int32))) (fun s4 => lq (sM s4 10 2 ((gM s4 10 2) - x1)) (fun s5 => lq (sM s5 10 3 ((gM s5 10 3) + x1)) (fun s6 => some s6)))))
def p_Sess_stand (x1 : Int32) (s : XS) : Option XS :=
  (if (12 : Int32) ≤ (gM s 14 8) then some s else lq (sM s 14 8 ((gM s 14 8) + (1 : Int32))) (fun s2 => if gIn (gM s2 14 8) 13 = true then lq (sM s2 16 (ix (gM s2 14 8)) x1) (fun s4 => some s4) else none))
def p_Sess_draw_B36 (x1 : Int32) (x2 : Int32) (c36 : Int32 → Int32 → XS → Option (Int32 × XS)) (x3 : Int32) (x4 : Int32) (s : XS) : Option (Int32 × XS) :=
  (if x1 ≤ x4 then bind1 (p_Lot_use x3 s) (fun s4 => bind1 (p_Sess_stand x1 s4) (fun s7 => some ((0 : Int32), s7))) else bind1 (p_Lot_seekFair x3 (x2 - x4) s) (fun r9 => (if r9 = (-1 : Int32) then some ((1 : Int32), s) else if gIn ((gM s 14 8) + (1 : Int32)) 13 = true then bind1 (p_Lot_pick r9 (x2 - x4) s) (fun r15 => bind2 (p_Sess_takeOut r15 (x2 - x4) s) (fun r18 s19 => if gIn x4 40 = true then lq (sM s19 (48 + (ix ((gM s 14 8) + (1 : Int32)))) (ix x4) r18) (fun s21 => c36 (r9 + (1 : Int32)) (x4 + (1 : Int32)) s21) else none)) else none)))
def p_Sess_draw (x1 : Int32) (s : XS) : Option (Int32 × XS) :=
  bind2 (p_Sess_bodySize s) (fun r23 s24 => (if x1 ≤ r23 then if gIn (gM s24 14 8) 13 = true then if gCpy (0 : Int32) (0 : Int32) r23 40 40 = true then lq (sMR s24 17 (va_cpy (gM s24 (48 + (ix (gM s24 14 8)))) (gM s24 17) (ix (0 : Int32)) (ix (0 : Int32)) (ix r23))) (fun s29 => lo3 (p_Sess_draw_B36 x1 r23) fuelN (0 : Int32) (0 : Int32) s29) else none else none else some ((2 : Int32), s24)))
def p_fill_ofHouse_B5 (x1 : Int32) (x3 : Int32) (c5 : Int32 → XS → Option XS) (x2 : Int32) (s : XS) : Option XS :=
  (if x3 ≤ x2 then some s else if gIn x2 12 = true then lq (sM s 18 (ix x2) x1) (fun s3 => c5 (x2 + (1 : Int32)) s3) else none)
def p_fill_ofHouse (x1 : Int32) (s : XS) : Option XS :=
  lo2 (p_fill_ofHouse_B5 x1 (12 : Int32)) fuelN (0 : Int32) s
def p_fill_ogets_B5 (x1 : Int32) (x3 : Int32) (c5 : Int32 → XS → Option XS) (x2 : Int32) (s : XS) : Option XS :=
  (if x3 ≤ x2 then some s else if gIn x2 4 = true then lq (sM s 33 (ix x2) x1) (fun s3 => c5 (x2 + (1 : Int32)) s3) else none)
def p_fill_ogets (x1 : Int32) (s : XS) : Option XS :=
  lo2 (p_fill_ogets_B5 x1 (4 : Int32)) fuelN (0 : Int32) s
def p_fill_pvotes_B5 (x1 : Int32) (x3 : Int32) (c5 : Int32 → XS → Option XS) (x2 : Int32) (s : XS) : Option XS :=
  (if x3 ≤ x2 then some s else if gIn x2 40 = true then lq (sM s 13 (ix x2) x1) (fun s3 => c5 (x2 + (1 : Int32)) s3) else none)
def p_fill_pvotes (x1 : Int32) (s : XS) : Option XS :=
  lo2 (p_fill_pvotes_B5 x1 (40 : Int32)) fuelN (0 : Int32) s
def p_fill_tslots_B5 (k0 : Nat) (x1 : Int32) (x3 : Int32) (c5 : Int32 → XS → Option XS) (x2 : Int32) (s : XS) : Option XS :=
  (if x3 ≤ x2 then some s else if gIn x2 1024 = true then lq (sM s (43 + 4 * k0) (ix x2) x1) (fun s3 => c5 (x2 + (1 : Int32)) s3) else none)
def p_fill_tslots (k0 : Nat) (x1 : Int32) (s : XS) : Option XS :=
  lo2 (p_fill_tslots_B5 k0 x1 (1024 : Int32)) fuelN (0 : Int32) s
def p_fill_rs_B6 (k0 : Nat) (x1 : Int64) (x4 : Int32) (c6 : Int32 → XS → Option XS) (x3 : Int32) (s : XS) : Option XS :=
  (if x4 ≤ x3 then some s else if gIn x3 42 = true then lq (sJ s (38 + k0) (ix x3) x1) (fun s3 => c6 (x3 + (1 : Int32)) s3) else none)
def p_fill_rs (k0 : Nat) (x1 : Int64) (s : XS) : Option XS :=
  lo2 (p_fill_rs_B6 k0 x1 (42 : Int32)) fuelN (0 : Int32) s
def p_Plan_votesOf (k0 : Nat) (x1 : Int32) (s : XS) : Option Int32 :=
  bind1 (p_Plan_has k0 x1 s) (fun r2 => (if r2 = 0 then some (0 : Int32) else if gIn x1 12 = true then some (gM s (22 + 5 * k0) (ix x1)) else none))
def p_Plan_limitOf (k0 : Nat) (x1 : Int32) (s : XS) : Option Int32 :=
  bind1 (p_Plan_has k0 x1 s) (fun r2 => (if r2 = 0 then some (0 : Int32) else if gIn x1 12 = true then some (gM s (23 + 5 * k0) (ix x1)) else none))
def p_Poll_open (s : XS) : Option XS :=
  lq (sM s 12 1 (1 : Int32)) (fun s1 => lq (sM s1 12 2 (0 : Int32)) (fun s2 => lq (sM s2 12 3 (0 : Int32)) (fun s3 => lq (sM s3 12 4 (0 : Int32)) (fun s4 => bind1 (p_fill_pvotes (-1 : Int32) s4) (fun s7 => some s7)))))
def p_City_houseOf (x1 : Int32) (s : XS) : Option Int32 :=
  bind1 (p_City_has x1 s) (fun r2 => (if r2 = 0 then some (0 : Int32) else if gIn x1 40 = true then some (gM s 2 (ix x1)) else none))
def p_Sess_chosenOf (x1 : Int32) (s : XS) : Option Int32 :=
  bind1 (p_City_isHouse x1) (fun r2 => (if r2 = 0 then some (0 : Int32) else if gIn x1 12 = true then some (gM s 18 (ix x1)) else none))
def p_Poll_bar (s : XS) : Option XS :=
  lq (sM s 12 2 ((gM s 12 2) + (1 : Int32))) (fun s1 => some s1)
def p_City_areKin (x1 : Int32) (x2 : Int32) (s : XS) : Option Int32 :=
  bind1 (p_City_has x1 s) (fun r2 => (if r2 = 0 then some (0 : Int32) else bind1 (p_City_has x2 s) (fun r6 => (if r6 = 0 then some (0 : Int32) else (if x1 = x2 then some (0 : Int32) else if gIn x1 40 = true then if gIn x2 40 = true then (if (gM s 2 (ix x1)) = (gM s 2 (ix x2)) then some (1 : Int32) else bind1 (p_City_wasTold x1 x2 s) (fun r14 => (if r14 = 0 then some (0 : Int32) else some (1 : Int32)))) else none else none)))))
def p_City_partyOf (x1 : Int32) (s : XS) : Option Int32 :=
  bind1 (p_City_has x1 s) (fun r2 => (if r2 = 0 then some (0 : Int32) else if gIn x1 40 = true then some (gM s 3 (ix x1)) else none))
def p_City_saysYes (x1 : Int32) (x2 : Int32) (s : XS) : Option Int32 :=
  bind1 (p_City_isParty x1) (fun r2 => (if r2 = 0 then some (0 : Int32) else bind1 (p_City_isParty x2) (fun r6 => (if r6 = 0 then some (0 : Int32) else if gIn ((x1 * (4 : Int32)) + x2) 16 = true then (if (gM s 5 (ix ((x1 * (4 : Int32)) + x2))) = 0 then some (0 : Int32) else some (1 : Int32)) else none))))
def p_Sess_votesFor_K61 (c5 : Int32 → Int32 → Option Int32) (x1 : Int32) (x2 : Int32) (x3 : Int32) (x4 : Int32) (x5 : Int32) (t0 : Int32) (s : XS) : Option Int32 :=
  (if t0 = 0 then c5 x3 (x4 + (1 : Int32)) else bind1 (p_City_partyOf x5 s) (fun r3 => bind1 (p_City_partyOf x1 s) (fun r6 => bind1 (p_City_saysYes r3 r6 s) (fun r9 => (if r9 = 0 then c5 x3 (x4 + (1 : Int32)) else c5 (x3 + (1 : Int32)) (x4 + (1 : Int32)))))))
def p_Sess_votesFor_B5 (x1 : Int32) (x2 : Int32) (s : XS) (c5 : Int32 → Int32 → Option Int32) (x3 : Int32) (x4 : Int32) : Option Int32 :=
  (if x2 ≤ x4 then some x3 else if gIn (gM s 14 8) 13 = true then if gIn x4 40 = true then (if (gM s (48 + (ix (gM s 14 8))) (ix x4)) = x1 then p_Sess_votesFor_K61 c5 x1 x2 x3 x4 (gM s (48 + (ix (gM s 14 8))) (ix x4)) (0 : Int32) s else bind1 (p_City_isThere (gM s (48 + (ix (gM s 14 8))) (ix x4)) s) (fun r18 => (if r18 = 0 then p_Sess_votesFor_K61 c5 x1 x2 x3 x4 (gM s (48 + (ix (gM s 14 8))) (ix x4)) (0 : Int32) s else bind1 (p_City_areKin (gM s (48 + (ix (gM s 14 8))) (ix x4)) x1 s) (fun r22 => (if r22 = 0 then p_Sess_votesFor_K61 c5 x1 x2 x3 x4 (gM s (48 + (ix (gM s 14 8))) (ix x4)) (1 : Int32) s else p_Sess_votesFor_K61 c5 x1 x2 x3 x4 (gM s (48 + (ix (gM s 14 8))) (ix x4)) (0 : Int32) s))))) else none else none)
def p_Sess_votesFor (x1 : Int32) (x2 : Int32) (s : XS) : Option Int32 :=
  lo2 (p_Sess_votesFor_B5 x1 x2 s) fuelN (0 : Int32) (0 : Int32)
def p_Poll_note (x1 : Int32) (x2 : Int32) (x3 : Int32) (s : XS) : Option XS :=
  (if x1 < 0 then some s else (if x1 < (40 : Int32) then if gIn x1 40 = true then lq (sM s 13 (ix x1) x2) (fun s4 => lq (sM s4 12 3 ((gM s4 12 3) + (1 : Int32))) (fun s5 => (if x3 = 0 then some s5 else lq (sM s5 12 4 ((gM s5 12 4) + (1 : Int32))) (fun s7 => some s7)))) else none else some s))
def p_Sess_countHouse (x1 : Int32) (s : XS) : Option XS :=
  bind1 (p_City_isHouse x1) (fun r2 => (if r2 = 0 then some s else if gIn x1 12 = true then if gIn x1 12 = true then lq (sM s 18 (ix x1) ((gM s 18 (ix x1)) + (1 : Int32))) (fun s7 => some s7) else none else none))
def p_Sess_fillByVotes_K188 (x1 : Int32) (x5 : Int32) (s : XS) : Option (Int32 × XS) :=
  (if x5 < x1 then some ((0 : Int32), s) else some ((1 : Int32), s))
def p_Sess_fillByVotes_K148 (c51 : Int32 → Int32 → XS → Option (Int32 × XS)) (x1 : Int32) (x2 : Int32) (x3 : Int32) (x4 : Int32) (x5 : Int32) (x6 : Int32) (x7 : Int32) (x8 : Int32) (t0 : Int32) (t1 : Int32) (t2 : Int32) (s : XS) : Option (Int32 × XS) :=
  bind1 (p_Poll_note t2 t1 t0 s) (fun s4 => (if x8 < x2 then c51 x5 (x6 + (1 : Int32)) s4 else (if (40 : Int32) ≤ x5 then c51 x5 (x6 + (1 : Int32)) s4 else if gIn x5 40 = true then lq (sM s4 17 (ix x5) x6) (fun s8 => bind1 (p_Sess_countHouse x7 s8) (fun s11 => c51 (x5 + (1 : Int32)) (x6 + (1 : Int32)) s11)) else none)))
def p_Sess_fillByVotes_K119 (c51 : Int32 → Int32 → XS → Option (Int32 × XS)) (x1 : Int32) (x2 : Int32) (x3 : Int32) (x4 : Int32) (x5 : Int32) (x6 : Int32) (x7 : Int32) (s : XS) : Option (Int32 × XS) :=
  bind1 (p_Sess_votesFor x6 x4 s) (fun r13 => (if r13 < x2 then p_Sess_fillByVotes_K148 c51 x1 x2 x3 x4 x5 x6 x7 r13 (0 : Int32) r13 x6 s else p_Sess_fillByVotes_K148 c51 x1 x2 x3 x4 x5 x6 x7 r13 (1 : Int32) r13 x6 s))
def p_Sess_fillByVotes_B51 (x1 : Int32) (x2 : Int32) (x3 : Int32) (x4 : Int32) (c51 : Int32 → Int32 → XS → Option (Int32 × XS)) (x5 : Int32) (x6 : Int32) (s : XS) : Option (Int32 × XS) :=
  bind1 (p_City_size s) (fun r17 => (if r17 ≤ x6 then p_Sess_fillByVotes_K188 x1 x5 s else (if x1 ≤ x5 then p_Sess_fillByVotes_K188 x1 x5 s else bind1 (p_City_isThere x6 s) (fun r22 => (if r22 = 0 then c51 x5 (x6 + (1 : Int32)) s else bind1 (p_City_houseOf x6 s) (fun r26 => (if x3 ≤ 0 then p_Sess_fillByVotes_K119 c51 x1 x2 x3 x4 x5 x6 r26 s else bind1 (p_Sess_chosenOf r26 s) (fun r30 => (if r30 < x3 then p_Sess_fillByVotes_K119 c51 x1 x2 x3 x4 x5 x6 r26 s else bind1 (p_Poll_bar s) (fun s35 => c51 x5 (x6 + (1 : Int32)) s35))))))))))
def p_Sess_fillByVotes (x1 : Int32) (s : XS) : Option (Int32 × XS) :=
  bind1 (p_Plan_votesOf (gG s 14 7) (gM s 14 8) s) (fun r38 => bind1 (p_Plan_limitOf (gG s 14 7) (gM s 14 8) s) (fun r42 => bind2 (p_Sess_bodySize s) (fun r45 s46 => bind1 (p_Poll_open s46) (fun s49 => bind1 (p_fill_ofHouse (0 : Int32) s49) (fun s52 => lo3 (p_Sess_fillByVotes_B51 x1 r38 r42 r45) fuelN (0 : Int32) (0 : Int32) s52)))))
def p_Sess_choose (s : XS) : Option (Int32 × XS) :=
  bind1 (p_Plan_sizeOf (gG s 14 7) (gM s 14 8) s) (fun r3 => bind2 (p_Sess_fillByVotes r3 s) (fun r6 s7 => (if r6 = 0 then some ((2 : Int32), s7) else if gIn ((gM s7 14 8) + (1 : Int32)) 13 = true then if gCpy (0 : Int32) (0 : Int32) r3 40 40 = true then lq (sMR s7 (48 + (ix ((gM s7 14 8) + (1 : Int32)))) (va_cpy (gM s7 17) (gM s7 (48 + (ix ((gM s7 14 8) + (1 : Int32))))) (ix (0 : Int32)) (ix (0 : Int32)) (ix r3))) (fun s12 => bind1 (p_Sess_stand r3 s12) (fun s15 => some ((0 : Int32), s15))) else none else none)))
def p_Sess_elect (s : XS) : Option (Int32 × XS) :=
  bind2 (p_Sess_fillByVotes (1 : Int32) s) (fun r2 s3 => (if r2 = 0 then some ((2 : Int32), s3) else bind2 (p_Sess_bodySize s3) (fun r6 s7 => if gIn (gM s7 14 8) 13 = true then if gIn ((gM s7 14 8) + (1 : Int32)) 13 = true then if gCpy (0 : Int32) (0 : Int32) r6 40 40 = true then lq (sMR s7 (48 + (ix ((gM s7 14 8) + (1 : Int32)))) (va_cpy (gM s7 (48 + (ix (gM s7 14 8)))) (gM s7 (48 + (ix ((gM s7 14 8) + (1 : Int32))))) (ix (0 : Int32)) (ix (0 : Int32)) (ix r6))) (fun s13 => if gIn (0 : Int32) 40 = true then lq (sM s13 14 9 (gM s13 17 (ix (0 : Int32)))) (fun s15 => bind1 (p_Sess_stand r6 s15) (fun s18 => some ((0 : Int32), s18))) else none) else none else none else none)))
def p_Sess_doNext (s : XS) : Option (Int32 × XS) :=
  bind1 (p_Plan_length (gG s 14 7) s) (fun r3 => (if r3 ≤ (gM s 14 8) then some ((3 : Int32), s) else (if (gM s 14 8) < (12 : Int32) then bind1 (p_Plan_kindOf (gG s 14 7) (gM s 14 8) s) (fun r9 => (if r9 = (1 : Int32) then bind1 (p_Plan_sizeOf (gG s 14 7) (gM s 14 8) s) (fun r14 => bind2 (p_Sess_draw r14 s) (fun r17 s18 => some (r17, s18))) else (if r9 = (2 : Int32) then bind2 (p_Sess_choose s) (fun r21 s22 => some (r21, s22)) else bind2 (p_Sess_elect s) (fun r24 s25 => some (r24, s25))))) else some ((3 : Int32), s))))
def p_House_step (s : XS) : Option (Int32 × XS) :=
  bind2 (p_Sess_doNext s) (fun r2 s3 => some (r2, s3))
def p_Sess_undoFrom (x1 : Int32) (s : XS) : Option (Int32 × XS) :=
  (if x1 < 0 then some ((0 : Int32), s) else (if x1 < (gM s 14 8) then lq (sM s 14 8 x1) (fun s3 => lq (sM s3 14 9 (-1 : Int32)) (fun s4 => some ((1 : Int32), s4))) else some ((0 : Int32), s)))
def p_House_protest (x1 : Int32) (s : XS) : Option (Int32 × XS) :=
  bind2 (p_Sess_undoFrom x1 s) (fun r2 s3 => if gZ r2 = true then some (r2, s3) else none)
def p_Sess_member (x1 : Int32) (s : XS) : Option (Int32 × XS) :=
  (if x1 < 0 then some ((-1 : Int32), s) else bind2 (p_Sess_bodySize s) (fun r3 s4 => (if r3 ≤ x1 then some ((-1 : Int32), s4) else if gIn (gM s4 14 8) 13 = true then if gIn x1 40 = true then some ((gM s4 (48 + (ix (gM s4 14 8))) (ix x1)), s4) else none else none)))
def p_House_body (x1 : Int32) (s : XS) : Option (Int32 × XS) :=
  bind2 (p_Sess_member x1 s) (fun r2 s3 => some (r2, s3))
def p_Poll_votesAt_K18 (x1 : Int32) (t0 : Int32) (s : XS) : Option Int32 :=
  (if t0 = 0 then some (-1 : Int32) else if gIn (x1 - (100 : Int32)) 40 = true then some (gM s 13 (ix (x1 - (100 : Int32)))) else none)
def p_Poll_votesAt (x1 : Int32) (s : XS) : Option Int32 :=
  (if x1 < (100 : Int32) then p_Poll_votesAt_K18 x1 (0 : Int32) s else (if (140 : Int32) ≤ x1 then p_Poll_votesAt_K18 x1 (0 : Int32) s else p_Poll_votesAt_K18 x1 (1 : Int32) s))
def p_Poll_answer (x1 : Int32) (s : XS) : Option Int32 :=
  (if (gM s 12 1) = 0 then some (-1 : Int32) else (if x1 = (0 : Int32) then some (gM s 12 2) else (if x1 = (1 : Int32) then some (gM s 12 3) else (if x1 = (2 : Int32) then some (gM s 12 4) else bind1 (p_Poll_votesAt x1 s) (fun r6 => some r6)))))
def p_House_ballot (x1 : Int32) (s : XS) : Option Int32 :=
  bind1 (p_Poll_answer x1 s) (fun r2 => some r2)
def p_Sess_head (s : XS) : Option Int32 :=
  some (gM s 14 9)
def p_House_elected (s : XS) : Option Int32 :=
  bind1 (p_Sess_head s) (fun r2 => some r2)
def p_Sess_plan (s : XS) : Option Nat :=
  some (gG s 14 7)
def p_Odds_setsOf (x1 : Int32) (x2 : Int32) (s : XS) : Option Int64 :=
  (if x1 < 0 then some (0 : Int64) else (if (41 : Int32) ≤ x1 then some (0 : Int64) else (if x2 < 0 then some (0 : Int64) else (if x1 < x2 then some (0 : Int64) else if gIn ((x1 * (41 : Int32)) + x2) 1681 = true then some (gJ s 30 (ix ((x1 * (41 : Int32)) + x2))) else none))))
def p_Odds_setsOfStep_K23 (k1 : Nat) (x2 : Int32) (x3 : Int32) (t0 : Int32) (s : XS) : Option Int64 :=
  (if t0 = 0 then some (1 : Int64) else bind1 (p_Plan_sizeOf k1 x2 s) (fun r3 => bind1 (p_Odds_setsOf x3 r3 s) (fun r6 => some r6)))
def p_Odds_setsOfStep (k1 : Nat) (x2 : Int32) (x3 : Int32) (s : XS) : Option Int64 :=
  bind1 (p_Plan_kindOf k1 x2 s) (fun r9 => (if r9 = (1 : Int32) then bind1 (p_Plan_sizeOf k1 x2 s) (fun r13 => (if x3 < r13 then p_Odds_setsOfStep_K23 k1 x2 x3 (0 : Int32) s else p_Odds_setsOfStep_K23 k1 x2 x3 (1 : Int32) s)) else p_Odds_setsOfStep_K23 k1 x2 x3 (0 : Int32) s))
def p_Odds_countAllWays_K146 (c96 : Int64 → Int32 → XS → Option (Int32 × XS)) (k1 : Nat) (x2 : Int32) (x8 : Int32) (t0 : Int32) (t1 : Int32) (kt2 : Nat) (t4 : Int64) (s : XS) : Option (Int32 × XS) :=
  bind1 (p_Odds_setsOfStep kt2 t1 t0 s) (fun r2 => c96 (t4 * r2) (x8 + (-1 : Int32)) s)
def p_Odds_countAllWays_B96 (k1 : Nat) (x2 : Int32) (c96 : Int64 → Int32 → XS → Option (Int32 × XS)) (x6 : Int64) (x8 : Int32) (s : XS) : Option (Int32 × XS) :=
  (if x8 < x2 then some ((1 : Int32), s) else (if x8 < 0 then some ((1 : Int32), s) else if gIn x8 12 = true then lq (sJ s 31 (ix x8) x6) (fun s7 => (if x8 ≤ x2 then bind2 (p_Sess_bodySize s7) (fun r10 s11 => p_Odds_countAllWays_K146 c96 k1 x2 x8 r10 x8 k1 x6 s11) else bind1 (p_Plan_sizeOf k1 (x8 - (1 : Int32)) s7) (fun r13 => p_Odds_countAllWays_K146 c96 k1 x2 x8 r13 x8 k1 x6 s7))) else none))
def p_Odds_countAllWays_B14 (k1 : Nat) (x2 : Int32) (s : XS) (c14 : Int64 → Int32 → Int32 → Option (Int32 × XS)) (x3 : Int64) (x5 : Int32) (x6 : Int32) : Option (Int32 × XS) :=
  bind1 (p_Plan_length k1 s) (fun r16 => (if r16 ≤ x6 then if gIn (41 : Int32) 42 = true then lq (sJ s (38 + (gG s 29 12)) (ix (41 : Int32)) x3) (fun s21 => bind1 (p_Plan_length k1 s21) (fun r23 => lo3 (p_Odds_countAllWays_B96 k1 x2) fuelN (1 : Int64) ((if (12 : Int32) < r23 then (12 : Int32) else r23) - (1 : Int32)) s21)) else none else bind1 (p_Odds_setsOfStep k1 x6 x5 s) (fun r26 => (if (lg_cmp x3 (1 : Int64)) < 0 then some ((0 : Int32), s) else if x3 = 0 then none else (if (lg_cmp r26 ((1000000000000000 : Int64) / x3)) ≤ 0 then bind1 (p_Plan_sizeOf k1 x6 s) (fun r32 => c14 (x3 * r26) r32 (x6 + (1 : Int32))) else some ((0 : Int32), s))))))
def p_Odds_countAllWays (k1 : Nat) (x2 : Int32) (s : XS) : Option (Int32 × XS) :=
  bind2 (p_Sess_bodySize s) (fun r35 s36 => lo3 (p_Odds_countAllWays_B14 k1 x2 s36) fuelN (1 : Int64) r35 x2)
def p_Odds_lookAtCity_B48 (c48 : Int32 → XS → Option XS) (x1 : Int32) (s : XS) : Option XS :=
  bind1 (p_City_size s) (fun r2 => (if r2 ≤ x1 then some s else (if (40 : Int32) ≤ (gM s 29 10) then some s else bind1 (p_City_isThere x1 s) (fun r7 => (if r7 = 0 then c48 (x1 + (1 : Int32)) s else if gIn (gM s 29 10) 40 = true then lq (sM s 35 (ix (gM s 29 10)) x1) (fun s11 => bind1 (p_City_partyOf x1 s11) (fun r13 => if gIn (gM s11 29 10) 40 = true then lq (sM s11 36 (ix (gM s11 29 10)) r13) (fun s16 => lq (sM s16 29 10 ((gM s16 29 10) + (1 : Int32))) (fun s17 => c48 (x1 + (1 : Int32)) s17)) else none)) else none)))))
def p_Odds_lookAtCity_B2 (c2 : Int32 → XS → Option XS) (x1 : Int32) (s : XS) : Option XS :=
  (if (16 : Int32) ≤ x1 then lq (sM s 29 10 (0 : Int32)) (fun s19 => lo2 (p_Odds_lookAtCity_B48) fuelN (0 : Int32) s19) else bind1 (p_City_saysYes (x1 / (4 : Int32)) (x1 - x1 / (4 : Int32) * (4 : Int32)) s) (fun r23 => (if r23 = 0 then if gIn x1 16 = true then lq (sM s 37 (ix x1) (0 : Int32)) (fun s27 => c2 (x1 + (1 : Int32)) s27) else none else if gIn x1 16 = true then lq (sM s 37 (ix x1) (1 : Int32)) (fun s29 => c2 (x1 + (1 : Int32)) s29) else none)))
def p_Odds_lookAtCity (s : XS) : Option XS :=
  lo2 (p_Odds_lookAtCity_B2) fuelN (0 : Int32) s
def p_Odds_countParty (x1 : Int32) (s : XS) : Option XS :=
  bind1 (p_City_isParty x1) (fun r2 => (if r2 = 0 then some s else if gIn x1 4 = true then if gIn x1 4 = true then lq (sM s 33 (ix x1) ((gM s 33 (ix x1)) + (1 : Int32))) (fun s7 => some s7) else none else none))
def p_Tally_clear (k0 : Nat) (s : XS) : Option XS :=
  lq (sM s (40 + 4 * k0) 3 (0 : Int32)) (fun s1 => bind1 (p_fill_tslots k0 (0 : Int32) s1) (fun s4 => some s4))
def p_Odds_keyOfGets (s : XS) : Option Int32 :=
  if gIn (0 : Int32) 4 = true then if gIn (1 : Int32) 4 = true then if gIn (2 : Int32) 4 = true then some (((((gM s 33 (ix (0 : Int32))) * (41 : Int32)) + (gM s 33 (ix (1 : Int32)))) * (41 : Int32)) + (gM s 33 (ix (2 : Int32)))) else none else none else none
def p_Tally_add_K96 (k0 : Nat) (x1 : Int32) (x2 : Int64) (x4 : Int32) (s : XS) : Option (Int32 × XS) :=
  (if (gM s (40 + 4 * k0) 3) < (600 : Int32) then if gIn (gM s (40 + 4 * k0) 3) 600 = true then lq (sM s (41 + 4 * k0) (ix (gM s (40 + 4 * k0) 3)) x1) (fun s3 => if gIn (gM s3 (40 + 4 * k0) 3) 600 = true then lq (sJ s3 (42 + 4 * k0) (ix (gM s3 (40 + 4 * k0) 3)) x2) (fun s5 => lq (sM s5 (40 + 4 * k0) 3 ((gM s5 (40 + 4 * k0) 3) + (1 : Int32))) (fun s6 => if gIn x4 1024 = true then lq (sM s6 (43 + 4 * k0) (ix x4) (gM s6 (40 + 4 * k0) 3)) (fun s8 => some ((1 : Int32), s8)) else none)) else none) else none else some ((0 : Int32), s))
def p_Tally_add_B13 (k0 : Nat) (x1 : Int32) (x2 : Int64) (s : XS) (c13 : Int32 → Int32 → Option (Int32 × XS)) (x4 : Int32) (x5 : Int32) : Option (Int32 × XS) :=
  (if (1024 : Int32) ≤ x5 then p_Tally_add_K96 k0 x1 x2 x4 s else if gIn x4 1024 = true then (if (gM s (43 + 4 * k0) (ix x4)) = 0 then p_Tally_add_K96 k0 x1 x2 x4 s else if gIn x4 1024 = true then (if ((gM s (43 + 4 * k0) (ix x4)) - (1 : Int32)) < 0 then c13 ((x4 + (1 : Int32)) &&& (1023 : Int32)) (x5 + (1 : Int32)) else (if (gM s (40 + 4 * k0) 3) ≤ ((gM s (43 + 4 * k0) (ix x4)) - (1 : Int32)) then c13 ((x4 + (1 : Int32)) &&& (1023 : Int32)) (x5 + (1 : Int32)) else if gIn ((gM s (43 + 4 * k0) (ix x4)) - (1 : Int32)) 600 = true then (if (gM s (41 + 4 * k0) (ix ((gM s (43 + 4 * k0) (ix x4)) - (1 : Int32)))) = x1 then if gIn ((gM s (43 + 4 * k0) (ix x4)) - (1 : Int32)) 600 = true then if gIn ((gM s (43 + 4 * k0) (ix x4)) - (1 : Int32)) 600 = true then lq (sJ s (42 + 4 * k0) (ix ((gM s (43 + 4 * k0) (ix x4)) - (1 : Int32))) ((gJ s (42 + 4 * k0) (ix ((gM s (43 + 4 * k0) (ix x4)) - (1 : Int32)))) + x2)) (fun s19 => some ((1 : Int32), s19)) else none else none else c13 ((x4 + (1 : Int32)) &&& (1023 : Int32)) (x5 + (1 : Int32))) else none)) else none) else none)
def p_Tally_add (k0 : Nat) (x1 : Int32) (x2 : Int64) (s : XS) : Option (Int32 × XS) :=
  lo2 (p_Tally_add_B13 k0 x1 x2 s) fuelN ((x1 * (37 : Int32)) &&& (1023 : Int32)) (0 : Int32)
def p_Odds_startFromBody_B18 (x1 : Int32) (c18 : Int32 → XS → Option XS) (x2 : Int32) (s : XS) : Option XS :=
  (if x1 ≤ x2 then bind1 (p_Tally_clear (gG s 29 13) s) (fun s5 => bind1 (p_Odds_keyOfGets s5) (fun r8 => bind2 (p_Tally_add (gG s5 29 13) r8 (1 : Int64) s5) (fun r11 s12 => some s12))) else bind2 (p_Sess_member x2 s) (fun r14 s15 => bind1 (p_City_partyOf r14 s15) (fun r17 => bind1 (p_Odds_countParty r17 s15) (fun s21 => c18 (x2 + (1 : Int32)) s21))))
def p_Odds_startFromBody (s : XS) : Option XS :=
  bind1 (p_fill_ogets (0 : Int32) s) (fun s24 => bind2 (p_Sess_bodySize s24) (fun r26 s27 => lo2 (p_Odds_startFromBody_B18 r26) fuelN (0 : Int32) s27))
def p_Tally_length (k0 : Nat) (s : XS) : Option Int32 :=
  some (gM s (40 + 4 * k0) 3)
def p_Tally_keyAt (k0 : Nat) (x1 : Int32) (s : XS) : Option Int32 :=
  (if x1 < 0 then some (0 : Int32) else (if (gM s (40 + 4 * k0) 3) ≤ x1 then some (0 : Int32) else if gIn x1 600 = true then some (gM s (41 + 4 * k0) (ix x1)) else none))
def p_Odds_spreadKey (x1 : Int32) (x2 : Int32) (s : XS) : Option XS :=
  if gIn (0 : Int32) 4 = true then lq (sM s 32 (ix (0 : Int32)) (x1 / (1681 : Int32))) (fun s3 => if gIn (1 : Int32) 4 = true then lq (sM s3 32 (ix (1 : Int32)) ((x1 / (41 : Int32)) - (x1 / (41 : Int32)) / (41 : Int32) * (41 : Int32))) (fun s7 => if gIn (2 : Int32) 4 = true then lq (sM s7 32 (ix (2 : Int32)) (x1 - x1 / (41 : Int32) * (41 : Int32))) (fun s10 => if gIn (0 : Int32) 4 = true then if gIn (1 : Int32) 4 = true then if gIn (2 : Int32) 4 = true then if gIn (3 : Int32) 4 = true then lq (sM s10 32 (ix (3 : Int32)) (((x2 - (gM s10 32 (ix (0 : Int32)))) - (gM s10 32 (ix (1 : Int32)))) - (gM s10 32 (ix (2 : Int32))))) (fun s15 => some s15) else none else none else none else none) else none) else none) else none
def p_Tally_waysAt (k0 : Nat) (x1 : Int32) (s : XS) : Option Int64 :=
  (if x1 < 0 then some (0 : Int64) else (if (gM s (40 + 4 * k0) 3) ≤ x1 then some (0 : Int64) else if gIn x1 600 = true then some (gJ s (42 + 4 * k0) (ix x1)) else none))
def p_Odds_drawLastTwo_B14 (x1 : Int32) (x2 : Int64) (c14 : Int32 → XS → Option (Int32 × XS)) (x4 : Int32) (s : XS) : Option (Int32 × XS) :=
  if gIn (2 : Int32) 4 = true then (if (if x1 < (gM s 32 (ix (2 : Int32))) then x1 else (gM s 32 (ix (2 : Int32)))) < x4 then some ((1 : Int32), s) else if gIn (2 : Int32) 4 = true then lq (sM s 33 (ix (2 : Int32)) x4) (fun s4 => bind1 (p_Odds_keyOfGets s4) (fun r7 => if gIn (2 : Int32) 4 = true then bind1 (p_Odds_setsOf (gM s4 32 (ix (2 : Int32))) x4 s4) (fun r11 => if gIn (3 : Int32) 4 = true then bind1 (p_Odds_setsOf (gM s4 32 (ix (3 : Int32))) (x1 - x4) s4) (fun r15 => bind2 (p_Tally_add (gG s4 29 14) r7 ((x2 * r11) * r15) s4) (fun r18 s19 => (if r18 = 0 then some ((0 : Int32), s19) else c14 (x4 + (1 : Int32)) s19))) else none) else none)) else none) else none
def p_Odds_drawLastTwo (x1 : Int32) (x2 : Int64) (s : XS) : Option (Int32 × XS) :=
  if gIn (3 : Int32) 4 = true then lo2 (p_Odds_drawLastTwo_B14 x1 x2) fuelN (if (0 : Int32) < (x1 - (gM s 32 (ix (3 : Int32)))) then (x1 - (gM s 32 (ix (3 : Int32)))) else (0 : Int32)) s else none
def p_Odds_drawSets_B76 (x1 : Int32) (x2 : Int64) (x4 : Int32) (x5 : Int32) (x6 : Int64) (c32 : Int32 → XS → Option (Int32 × XS)) (c76 : Int32 → XS → Option (Int32 × XS)) (x8 : Int32) (s : XS) : Option (Int32 × XS) :=
  if gIn (1 : Int32) 4 = true then (if (if (x1 - x5) < (gM s 32 (ix (1 : Int32))) then (x1 - x5) else (gM s 32 (ix (1 : Int32)))) < x8 then c32 (x5 + (1 : Int32)) s else if gIn (1 : Int32) 4 = true then bind1 (p_Odds_setsOf (gM s 32 (ix (1 : Int32))) x8 s) (fun r5 => if gIn (0 : Int32) 4 = true then lq (sM s 33 (ix (0 : Int32)) x5) (fun s8 => if gIn (1 : Int32) 4 = true then lq (sM s8 33 (ix (1 : Int32)) x8) (fun s10 => bind2 (p_Odds_drawLastTwo ((x1 - x5) - x8) (x6 * r5) s10) (fun r12 s13 => (if r12 = 0 then some ((0 : Int32), s13) else c76 (x8 + (1 : Int32)) s13))) else none) else none) else none) else none
def p_Odds_drawSets_B32 (x1 : Int32) (x2 : Int64) (x4 : Int32) (c32 : Int32 → XS → Option (Int32 × XS)) (x5 : Int32) (s : XS) : Option (Int32 × XS) :=
  if gIn (0 : Int32) 4 = true then (if (if x1 < (gM s 32 (ix (0 : Int32))) then x1 else (gM s 32 (ix (0 : Int32)))) < x5 then some ((1 : Int32), s) else if gIn (0 : Int32) 4 = true then bind1 (p_Odds_setsOf (gM s 32 (ix (0 : Int32))) x5 s) (fun r19 => lo2 (p_Odds_drawSets_B76 x1 x2 x4 x5 (x2 * r19) c32) fuelN (if (0 : Int32) < ((x1 - x5) - x4) then ((x1 - x5) - x4) else (0 : Int32)) s) else none) else none
def p_Odds_drawSets (x1 : Int32) (x2 : Int64) (s : XS) : Option (Int32 × XS) :=
  if gIn (2 : Int32) 4 = true then if gIn (3 : Int32) 4 = true then if gIn (1 : Int32) 4 = true then lo2 (p_Odds_drawSets_B32 x1 x2 ((gM s 32 (ix (2 : Int32))) + (gM s 32 (ix (3 : Int32))))) fuelN (if (0 : Int32) < ((x1 - (gM s 32 (ix (1 : Int32)))) - ((gM s 32 (ix (2 : Int32))) + (gM s 32 (ix (3 : Int32))))) then ((x1 - (gM s 32 (ix (1 : Int32)))) - ((gM s 32 (ix (2 : Int32))) + (gM s 32 (ix (3 : Int32))))) else (0 : Int32)) s else none else none else none
def p_Odds_missStep (x1 : Int32) (x2 : Int64) (s : XS) : Option XS :=
  (if x1 < 0 then some s else (if (12 : Int32) ≤ x1 then some s else if gIn (40 : Int32) 42 = true then if gIn x1 12 = true then if gIn (40 : Int32) 42 = true then lq (sJ s (38 + (gG s 29 12)) (ix (40 : Int32)) ((gJ s (38 + (gG s 29 12)) (ix (40 : Int32))) + (x2 * (gJ s 31 (ix x1))))) (fun s7 => some s7) else none else none else none))
def p_Odds_findEnough_B12 (x1 : Int32) (x2 : Int32) (s : XS) (c2 : Int32 → XS → Option XS) (c12 : Int32 → Int32 → Option XS) (x3 : Int32) (x4 : Int32) : Option XS :=
  (if (4 : Int32) ≤ x4 then (if x3 < x1 then if gIn x2 4 = true then lq (sM s 34 (ix x2) (vp_nar .boolean (0 : Int32))) (fun s4 => c2 (x2 + (1 : Int32)) s4) else none else if gIn x2 4 = true then lq (sM s 34 (ix x2) (vp_nar .boolean (1 : Int32))) (fun s6 => c2 (x2 + (1 : Int32)) s6) else none) else if gIn ((x4 * (4 : Int32)) + x2) 16 = true then if gIn x4 4 = true then c12 (x3 + ((gM s 37 (ix ((x4 * (4 : Int32)) + x2))) * (gM s 32 (ix x4)))) (x4 + (1 : Int32)) else none else none)
def p_Odds_findEnough_B2 (x1 : Int32) (c2 : Int32 → XS → Option XS) (x2 : Int32) (s : XS) : Option XS :=
  (if (4 : Int32) ≤ x2 then some s else lo2 (p_Odds_findEnough_B12 x1 x2 s c2) fuelN (0 : Int32) (0 : Int32))
def p_Odds_findEnough (x1 : Int32) (s : XS) : Option XS :=
  lo2 (p_Odds_findEnough_B2 x1) fuelN (0 : Int32) s
def p_Odds_chooseFirst_B12 (x1 : Int32) (c12 : Int32 → Int32 → XS → Option (Int32 × XS)) (x2 : Int32) (x3 : Int32) (s : XS) : Option (Int32 × XS) :=
  (if (gM s 29 10) ≤ x3 then some ((-1 : Int32), s) else if gIn x3 40 = true then bind1 (p_City_isParty (gM s 36 (ix x3))) (fun r4 => (if r4 = 0 then c12 x2 (x3 + (1 : Int32)) s else if gIn (gM s 36 (ix x3)) 4 = true then (if (gM s 34 (ix (gM s 36 (ix x3)))) = 0 then c12 x2 (x3 + (1 : Int32)) s else if gIn (gM s 36 (ix x3)) 4 = true then if gIn (gM s 36 (ix x3)) 4 = true then lq (sM s 33 (ix (gM s 36 (ix x3))) ((gM s 33 (ix (gM s 36 (ix x3)))) + (1 : Int32))) (fun s11 => (if (x2 + (1 : Int32)) < x1 then c12 (x2 + (1 : Int32)) (x3 + (1 : Int32)) s11 else if gIn x3 40 = true then some ((gM s11 35 (ix x3)), s11) else none)) else none else none) else none)) else none)
def p_Odds_chooseFirst (x1 : Int32) (s : XS) : Option (Int32 × XS) :=
  bind1 (p_fill_ogets (0 : Int32) s) (fun s16 => lo3 (p_Odds_chooseFirst_B12 x1) fuelN (0 : Int32) (0 : Int32) s16)
def p_Odds_passBody_K69 (x2 : Int32) (x4 : Int64) (s : XS) : Option (Int32 × XS) :=
  bind1 (p_Odds_missStep x2 x4 s) (fun s3 => some ((1 : Int32), s3))
def p_Odds_passBody (k1 : Nat) (x2 : Int32) (x3 : Int32) (x4 : Int64) (s : XS) : Option (Int32 × XS) :=
  bind1 (p_Plan_sizeOf k1 x2 s) (fun r5 => bind1 (p_Plan_kindOf k1 x2 s) (fun r8 => (if r8 = (1 : Int32) then (if x3 < r5 then bind1 (p_Odds_missStep x2 x4 s) (fun s40 => some ((1 : Int32), s40)) else bind2 (p_Odds_drawSets r5 x4 s) (fun r42 s43 => if gZ r42 = true then some (r42, s43) else none)) else bind1 (p_Plan_votesOf k1 x2 s) (fun r12 => bind1 (p_Odds_findEnough r12 s) (fun s16 => bind2 (p_Odds_chooseFirst r5 s16) (fun r18 s19 => (if r18 < 0 then p_Odds_passBody_K69 x2 x4 s19 else (if r18 < (40 : Int32) then bind1 (p_Plan_kindOf k1 x2 s19) (fun r23 => (if r23 = (3 : Int32) then if gIn r18 42 = true then if gIn r18 42 = true then lq (sJ s19 (38 + (gG s19 29 12)) (ix r18) ((gJ s19 (38 + (gG s19 29 12)) (ix r18)) + x4)) (fun s36 => some ((1 : Int32), s36)) else none else none else bind1 (p_Odds_keyOfGets s19) (fun r28 => bind2 (p_Tally_add (gG s19 29 14) r28 x4 s19) (fun r31 s32 => if gZ r31 = true then some (r31, s32) else none)))) else p_Odds_passBody_K69 x2 x4 s19))))))))
def p_Odds_passStep_B10 (k1 : Nat) (x2 : Int32) (x3 : Int32) (c10 : Int32 → XS → Option (Int32 × XS)) (x4 : Int32) (s : XS) : Option (Int32 × XS) :=
  bind1 (p_Tally_length (gG s 29 13) s) (fun r3 => (if r3 ≤ x4 then lq (sG s 29 13 (gG s 29 14)) (fun s8 => lq (sG s8 29 14 (gG s 29 13)) (fun s9 => some ((1 : Int32), s9))) else bind1 (p_Tally_keyAt (gG s 29 13) x4 s) (fun r12 => bind1 (p_Odds_spreadKey r12 x3 s) (fun s16 => bind1 (p_Tally_waysAt (gG s16 29 13) x4 s16) (fun r19 => bind2 (p_Odds_passBody k1 x2 x3 r19 s16) (fun r22 s23 => (if r22 = 0 then some ((0 : Int32), s23) else c10 (x4 + (1 : Int32)) s23)))))))
def p_Odds_passStep (k1 : Nat) (x2 : Int32) (x3 : Int32) (s : XS) : Option (Int32 × XS) :=
  bind1 (p_Tally_clear (gG s 29 14) s) (fun s28 => lo2 (p_Odds_passStep_B10 k1 x2 x3) fuelN (0 : Int32) s28)
def p_Odds_reckon_B65 (k1 : Nat) (c65 : Int32 → Int32 → XS → Option (Int32 × XS)) (x3 : Int32) (x4 : Int32) (s : XS) : Option (Int32 × XS) :=
  bind1 (p_Plan_length k1 s) (fun r2 => (if r2 ≤ x4 then lq (sG s 29 11 (gG s 29 12)) (fun s7 => lq (sG s7 29 12 (gG s 29 11)) (fun s8 => lq (sM s8 29 15 (1 : Int32)) (fun s9 => some ((0 : Int32), s9)))) else bind2 (p_Odds_passStep k1 x4 x3 s) (fun r11 s12 => (if r11 = 0 then some ((-2 : Int32), s12) else bind1 (p_Plan_sizeOf k1 x4 s12) (fun r15 => c65 r15 (x4 + (1 : Int32)) s12)))))
def p_Odds_reckon (s : XS) : Option (Int32 × XS) :=
  bind1 (p_Sess_plan s) (fun r18 => if decide (r18 < 2) = true then bind1 (p_Sess_stepsDone s) (fun r22 => bind1 (p_Plan_length r18 s) (fun r25 => (if r22 < r25 then bind1 (p_fill_rs (gG s 29 12) (0 : Int64) s) (fun s31 => bind2 (p_Odds_countAllWays r18 r22 s31) (fun r33 s34 => (if r33 = 0 then some ((-2 : Int32), s34) else bind1 (p_Odds_lookAtCity s34) (fun s38 => bind1 (p_Odds_startFromBody s38) (fun s41 => bind2 (p_Sess_bodySize s41) (fun r43 s44 => lo3 (p_Odds_reckon_B65 r18) fuelN r43 r22 s44)))))) else some ((-1 : Int32), s)))) else none)
def p_House_chances (s : XS) : Option (Int32 × XS) :=
  bind2 (p_Odds_reckon s) (fun r2 s3 => some (r2, s3))
def p_Odds_answer (x1 : Int32) (s : XS) : Option Int64 :=
  (if (gM s 29 15) = 0 then some (-1 : Int64) else (if x1 < 0 then some (-1 : Int64) else (if (42 : Int32) ≤ x1 then some (-1 : Int64) else if gIn x1 42 = true then some (gJ s (38 + (gG s 29 11)) (ix x1)) else none)))
def p_House_ways (x1 : Int32) (s : XS) : Option Int64 :=
  bind1 (p_Odds_answer x1 s) (fun r2 => some r2)
def p_City_kinOf_B4 (x1 : Int32) (s : XS) (c4 : Int32 → Int32 → Option Int32) (x2 : Int32) (x3 : Int32) : Option Int32 :=
  (if (gM s 1 5) ≤ x3 then some x2 else bind1 (p_City_areKin x1 x3 s) (fun r3 => (if r3 = 0 then c4 x2 (x3 + (1 : Int32)) else c4 (x2 + (1 : Int32)) (x3 + (1 : Int32)))))
def p_City_kinOf (x1 : Int32) (s : XS) : Option Int32 :=
  lo2 (p_City_kinOf_B4 x1 s) fuelN (0 : Int32) (0 : Int32)
def p_House_about (x1 : Int32) (x2 : Int32) (s : XS) : Option Int32 :=
  bind1 (p_City_has x1 s) (fun r2 => (if r2 = 0 then some (-1 : Int32) else (if x2 = (0 : Int32) then bind1 (p_City_houseOf x1 s) (fun r7 => some r7) else (if x2 = (1 : Int32) then bind1 (p_City_partyOf x1 s) (fun r11 => some r11) else (if x2 = (2 : Int32) then bind1 (p_City_isThere x1 s) (fun r15 => (if r15 = 0 then some (0 : Int32) else some (1 : Int32))) else (if x2 = (3 : Int32) then bind1 (p_City_kinOf x1 s) (fun r20 => some r20) else some (-1 : Int32)))))))
def p_City_sizeThere_B4 (s : XS) (c4 : Int32 → Int32 → Option Int32) (x1 : Int32) (x2 : Int32) : Option Int32 :=
  (if (gM s 1 5) ≤ x2 then some x1 else bind1 (p_City_isThere x2 s) (fun r3 => (if r3 = 0 then c4 x1 (x2 + (1 : Int32)) else c4 (x1 + (1 : Int32)) (x2 + (1 : Int32)))))
def p_City_sizeThere (s : XS) : Option Int32 :=
  lo2 (p_City_sizeThere_B4 s) fuelN (0 : Int32) (0 : Int32)
def p_City_pairsTold (s : XS) : Option Int32 :=
  some (gM s 1 6)
def p_Lot_waiting (s : XS) : Option Int32 :=
  some (gM s 10 2)
def p_Lot_usedInAll (s : XS) : Option Int32 :=
  some (gM s 10 3)
def p_House_count (x1 : Int32) (s : XS) : Option (Int32 × XS) :=
  (if x1 = (0 : Int32) then bind1 (p_City_size s) (fun r3 => some (r3, s)) else (if x1 = (1 : Int32) then bind1 (p_City_sizeThere s) (fun r7 => some (r7, s)) else (if x1 = (2 : Int32) then bind1 (p_City_pairsTold s) (fun r11 => some (r11, s)) else (if x1 = (3 : Int32) then bind1 (p_Sess_stepsInAll s) (fun r15 => some (r15, s)) else (if x1 = (4 : Int32) then bind1 (p_Sess_stepsDone s) (fun r19 => some (r19, s)) else (if x1 = (5 : Int32) then bind2 (p_Sess_bodySize s) (fun r23 s24 => some (r23, s24)) else (if x1 = (6 : Int32) then bind1 (p_Lot_waiting s) (fun r27 => some (r27, s)) else (if x1 = (7 : Int32) then bind1 (p_Lot_usedInAll s) (fun r31 => some (r31, s)) else (if x1 = (8 : Int32) then bind1 (p_Tape_length s) (fun r35 => some (r35, s)) else some ((-1 : Int32), s))))))))))
def p_Model_in (x0 : Int32) (x1 : Int32) (x2 : Int32) : Option Int32 :=
  (if x0 < x1 then some (0 : Int32) else (if x2 < x0 then some (0 : Int32) else some (1 : Int32)))
def p_Model_isCitizen (x1 : Int32) (s : XS) : Option Int32 :=
  bind1 (p_Model_in x1 (0 : Int32) ((gM s 0 0) - (1 : Int32))) (fun r2 => if gZ r2 = true then some r2 else none)
def p_Model_begins_B17 (c17 : Int32 → XS → Option XS) (x1 : Int32) (s : XS) : Option XS :=
  (if (gM s 0 0) ≤ x1 then some s else if gIn x1 40 = true then (if (gM s 3 (ix x1)) = 0 then c17 (x1 + (1 : Int32)) s else if gIn (0 : Int32) 13 = true then if gIn (gM s 15 (ix (0 : Int32))) 520 = true then lq (sM s 16 (ix (gM s 15 (ix (0 : Int32)))) x1) (fun s6 => if gIn (0 : Int32) 13 = true then if gIn (0 : Int32) 13 = true then lq (sM s6 15 (ix (0 : Int32)) ((gM s6 15 (ix (0 : Int32))) + (1 : Int32))) (fun s9 => c17 (x1 + (1 : Int32)) s9) else none else none) else none else none) else none)
def p_Model_begins (s : XS) : Option XS :=
  (if (gM s 0 18) ≤ 0 then if gIn (0 : Int32) 13 = true then lq (sM s 15 (ix (0 : Int32)) (0 : Int32)) (fun s12 => lo2 (p_Model_begins_B17) fuelN (0 : Int32) s12) else none else some s)
def p_Model_citizen (x1 : Int32) (x2 : Int32) (s : XS) : Option (Int32 × XS) :=
  (if (gM s 0 0) = (40 : Int32) then some ((-1 : Int32), s) else bind1 (p_Model_in x1 (0 : Int32) (11 : Int32)) (fun r3 => (if r3 = 0 then some ((-1 : Int32), s) else bind1 (p_Model_in x2 (0 : Int32) (3 : Int32)) (fun r7 => (if r7 = 0 then some ((-1 : Int32), s) else (if (gM s 0 18) ≤ 0 then if gIn (gM s 0 0) 40 = true then lq (sM s 1 (ix (gM s 0 0)) x1) (fun s12 => if gIn (gM s12 0 0) 40 = true then lq (sM s12 2 (ix (gM s12 0 0)) x2) (fun s14 => if gIn (gM s14 0 0) 40 = true then lq (sM s14 3 (ix (gM s14 0 0)) (vp_nar .boolean (1 : Int32))) (fun s16 => lq (sM s16 0 0 ((gM s16 0 0) + (1 : Int32))) (fun s17 => bind1 (p_Model_begins s17) (fun s20 => some (((gM s20 0 0) - (1 : Int32)), s20)))) else none) else none) else none else some ((-1 : Int32), s)))))))
def p_Model_there (x1 : Int32) (x2 : Int32) (s : XS) : Option (Int32 × XS) :=
  bind1 (p_Model_isCitizen x1 s) (fun r2 => (if r2 = 0 then some ((0 : Int32), s) else if gIn x1 40 = true then (if (gM s 3 (ix x1)) = x2 then some ((0 : Int32), s) else if gIn x1 40 = true then lq (sM s 3 (ix x1) (vp_nar .boolean x2)) (fun s8 => bind1 (p_Model_begins s8) (fun s11 => some ((1 : Int32), s11))) else none) else none))
def p_Model_kin (x1 : Int32) (x2 : Int32) (s : XS) : Option (Int32 × XS) :=
  bind1 (p_Model_isCitizen x1 s) (fun r2 => (if r2 = 0 then some ((0 : Int32), s) else bind1 (p_Model_isCitizen x2 s) (fun r6 => (if r6 = 0 then some ((0 : Int32), s) else (if x1 = x2 then some ((0 : Int32), s) else if gIn (((40 : Int32) * x1) + x2) 1600 = true then (if (gM s 4 (ix (((40 : Int32) * x1) + x2))) = 0 then (if (gM s 0 5) = (60 : Int32) then some ((0 : Int32), s) else if gIn (((40 : Int32) * x1) + x2) 1600 = true then lq (sM s 4 (ix (((40 : Int32) * x1) + x2)) (vp_nar .boolean (1 : Int32))) (fun s14 => if gIn (((40 : Int32) * x2) + x1) 1600 = true then lq (sM s14 4 (ix (((40 : Int32) * x2) + x1)) (vp_nar .boolean (1 : Int32))) (fun s16 => lq (sM s16 0 5 ((gM s16 0 5) + (1 : Int32))) (fun s17 => some ((1 : Int32), s17))) else none) else none) else some ((0 : Int32), s)) else none)))))
def p_Model_says (x1 : Int32) (x2 : Int32) (x3 : Int32) (s : XS) : Option (Int32 × XS) :=
  bind1 (p_Model_in x1 (0 : Int32) (3 : Int32)) (fun r2 => (if r2 = 0 then some ((0 : Int32), s) else bind1 (p_Model_in x2 (0 : Int32) (3 : Int32)) (fun r6 => (if r6 = 0 then some ((0 : Int32), s) else if gIn (((4 : Int32) * x1) + x2) 16 = true then (if (gM s 5 (ix (((4 : Int32) * x1) + x2))) = x3 then some ((0 : Int32), s) else if gIn (((4 : Int32) * x1) + x2) 16 = true then lq (sM s 5 (ix (((4 : Int32) * x1) + x2)) (vp_nar .boolean x3)) (fun s12 => some ((1 : Int32), s12)) else none) else none))))
def p_Model_turn (x1 : Int32) (x2 : Int32) (x3 : Int32) (s : XS) : Option (Int32 × XS) :=
  bind1 (p_Model_isCitizen x1 s) (fun r2 => (if r2 = 0 then some ((0 : Int32), s) else bind1 (p_Model_in x2 (0 : Int32) (11 : Int32)) (fun r6 => (if r6 = 0 then some ((0 : Int32), s) else bind1 (p_Model_in x3 (0 : Int32) (3 : Int32)) (fun r10 => (if r10 = 0 then some ((0 : Int32), s) else if gIn x1 40 = true then lq (sM s 1 (ix x1) x2) (fun s14 => if gIn x1 40 = true then lq (sM s14 2 (ix x1) x3) (fun s16 => some ((1 : Int32), s16)) else none) else none))))))
def p_Model_four_B3 (x1 : Int32) (c3 : Int32 → XS → Option XS) (x2 : Int32) (s : XS) : Option XS :=
  (if x2 < 0 then some s else if gIn (gM s 0 8) 300 = true then lq (sM s 6 (ix (gM s 0 8)) (vp_nar .byte (((x1 >>> (x2 &&& 31))).toInt8.toInt32))) (fun s3 => lq (sM s3 0 8 ((gM s3 0 8) + (1 : Int32))) (fun s4 => c3 (x2 + (-8 : Int32)) s4)) else none)
def p_Model_four (x1 : Int32) (s : XS) : Option XS :=
  lo2 (p_Model_four_B3 x1) fuelN (24 : Int32) s
def p_Model_feed (x1 : Int32) (x2 : Int32) (x3 : Int32) (x4 : Int32) (x5 : Int32) (s : XS) : Option (Int32 × XS) :=
  (if ((gM s 0 8) + (20 : Int32)) ≤ (300 : Int32) then bind1 (p_Model_four x1 s) (fun s4 => bind1 (p_Model_four x2 s4) (fun s7 => bind1 (p_Model_four x3 s7) (fun s10 => bind1 (p_Model_four x4 s10) (fun s13 => bind1 (p_Model_four x5 s13) (fun s16 => some ((gM s16 0 8), s16)))))) else some ((-1 : Int32), s))
def p_Model_end (x1 : Int32) (s : XS) : Option (Int32 × XS) :=
  (if x1 < 0 then some ((-1 : Int32), s) else (if x1 ≤ (gM s 0 8) then lq (sM s 0 8 x1) (fun s3 => some (x1, s3)) else some ((-1 : Int32), s)))
def p_Model_fails (x1 : Int32) (x2 : Int32) (s : XS) : Option (Int32 × XS) :=
  (if (gM s 0 26) = 0 then lq (sM s 0 26 (((1 : Int32) + ((8 : Int32) * x2)) + x1)) (fun s2 => some ((0 : Int32), s2)) else some ((0 : Int32), s))
def p_Model_see_K38 (s : XS) : Option (Int32 × XS) :=
  (if (gM s 0 8) ≤ (gM s 0 25) then some ((-1 : Int32), s) else if gIn (gM s 0 25) 300 = true then some (((gM s 6 (ix (gM s 0 25))) &&& (255 : Int32)), s) else none)
def p_Model_see_B0 (c0 : XS → Option (Int32 × XS)) (s : XS) : Option (Int32 × XS) :=
  (if (gM s 0 8) ≤ (gM s 0 25) then p_Model_see_K38 s else if gIn (gM s 0 25) 300 = true then (if (gM s 6 (ix (gM s 0 25))) = (32 : Int32) then lq (sM s 0 25 ((gM s 0 25) + (1 : Int32))) (fun s6 => c0 s6) else p_Model_see_K38 s) else none)
def p_Model_see (s : XS) : Option (Int32 × XS) :=
  lo1 (p_Model_see_B0) fuelN s
def p_Model_looks_B18 (c18 : XS → Option XS) (s : XS) : Option XS :=
  (if (gM s 0 8) ≤ ((gM s 0 29) + (gM s 0 30)) then some s else if gIn ((gM s 0 29) + (gM s 0 30)) 300 = true then (if (gM s 6 (ix ((gM s 0 29) + (gM s 0 30)))) < (97 : Int32) then some s else if gIn ((gM s 0 29) + (gM s 0 30)) 300 = true then (if (122 : Int32) < (gM s 6 (ix ((gM s 0 29) + (gM s 0 30)))) then some s else lq (sM s 0 30 ((gM s 0 30) + (1 : Int32))) (fun s6 => c18 s6)) else none) else none)
def p_Model_looks (s : XS) : Option XS :=
  bind2 (p_Model_see s) (fun r8 s9 => lq (sM s9 0 29 (gM s9 0 25)) (fun s10 => lq (sM s10 0 30 (0 : Int32)) (fun s11 => lo1 (p_Model_looks_B18) fuelN s11)))
def p_Model_isWord_B85 (x7 : Int32) (s : XS) (c85 : Int32 → Option (Int32 × XS)) (x8 : Int32) : Option (Int32 × XS) :=
  (if x7 ≤ x8 then some ((1 : Int32), s) else if gIn ((gM s 0 29) + x8) 300 = true then if gIn x8 6 = true then (if (gM s 6 (ix ((gM s 0 29) + x8))) = (gM s 18 (ix x8)) then c85 (x8 + (1 : Int32)) else some ((0 : Int32), s)) else none else none)
def p_Model_isWord_K71 (x7 : Int32) (s : XS) : Option (Int32 × XS) :=
  (if x7 = (gM s 0 30) then lo1 (p_Model_isWord_B85 x7 s) fuelN (0 : Int32) else some ((0 : Int32), s))
def p_Model_isWord_B48 (s : XS) (c48 : Int32 → Option (Int32 × XS)) (x7 : Int32) : Option (Int32 × XS) :=
  (if (6 : Int32) ≤ x7 then p_Model_isWord_K71 x7 s else if gIn x7 6 = true then (if (gM s 18 (ix x7)) ≤ 0 then p_Model_isWord_K71 x7 s else c48 (x7 + (1 : Int32))) else none)
def p_Model_isWord (x1 : Int32) (x2 : Int32) (x3 : Int32) (x4 : Int32) (x5 : Int32) (x6 : Int32) (s : XS) : Option (Int32 × XS) :=
  if gIn (0 : Int32) 6 = true then lq (sM s 18 (ix (0 : Int32)) x1) (fun s10 => if gIn (1 : Int32) 6 = true then lq (sM s10 18 (ix (1 : Int32)) x2) (fun s12 => if gIn (2 : Int32) 6 = true then lq (sM s12 18 (ix (2 : Int32)) x3) (fun s14 => if gIn (3 : Int32) 6 = true then lq (sM s14 18 (ix (3 : Int32)) x4) (fun s16 => if gIn (4 : Int32) 6 = true then lq (sM s16 18 (ix (4 : Int32)) x5) (fun s18 => if gIn (5 : Int32) 6 = true then lq (sM s18 18 (ix (5 : Int32)) x6) (fun s20 => lo1 (p_Model_isWord_B48 s20) fuelN (0 : Int32)) else none) else none) else none) else none) else none) else none
def p_Model_number_K17 (s : XS) : Option (Int32 × XS) :=
  bind2 (p_Model_fails (0 : Int32) (gM s 0 25) s) (fun r2 s3 => if gZ r2 = true then some (r2, s3) else none)
def p_Model_number_K141 (s : XS) : Option (Int32 × XS) :=
  bind2 (p_Model_fails (1 : Int32) (gM s 0 28) s) (fun r5 s6 => (if r5 = 0 then some ((0 : Int32), s6) else some ((1 : Int32), s6)))
def p_Model_number_K120 (x1 : Int32) (x3 : Int32) (x4 : Int32) (s : XS) : Option (Int32 × XS) :=
  lq (sM s 0 27 x4) (fun s8 => (if (2 : Int32) < x3 then p_Model_number_K141 s8 else bind1 (p_Model_in x4 (1 : Int32) x1) (fun r11 => (if r11 = 0 then p_Model_number_K141 s8 else some ((1 : Int32), s8)))))
def p_Model_number_B40 (x1 : Int32) (c40 : Int32 → Int32 → XS → Option (Int32 × XS)) (x3 : Int32) (x4 : Int32) (s : XS) : Option (Int32 × XS) :=
  (if (gM s 0 8) ≤ (gM s 0 25) then p_Model_number_K120 x1 x3 x4 s else if gIn (gM s 0 25) 300 = true then (if (gM s 6 (ix (gM s 0 25))) < (48 : Int32) then p_Model_number_K120 x1 x3 x4 s else if gIn (gM s 0 25) 300 = true then (if (57 : Int32) < (gM s 6 (ix (gM s 0 25))) then p_Model_number_K120 x1 x3 x4 s else (if (2 : Int32) ≤ x3 then lq (sM s 0 25 ((gM s 0 25) + (1 : Int32))) (fun s20 => c40 (x3 + (1 : Int32)) x4 s20) else if gIn (gM s 0 25) 300 = true then lq (sM s 0 25 ((gM s 0 25) + (1 : Int32))) (fun s22 => c40 (x3 + (1 : Int32)) ((((10 : Int32) * x4) + (gM s 6 (ix (gM s 0 25)))) - (48 : Int32)) s22) else none)) else none) else none)
def p_Model_number (x1 : Int32) (s : XS) : Option (Int32 × XS) :=
  bind2 (p_Model_see s) (fun r24 s25 => (if r24 < (48 : Int32) then p_Model_number_K17 s25 else (if r24 ≤ (57 : Int32) then lq (sM s25 0 28 (gM s25 0 25)) (fun s28 => lo3 (p_Model_number_B40 x1) fuelN (0 : Int32) (0 : Int32) s28) else p_Model_number_K17 s25)))
def p_Model_by (s : XS) : Option (Int32 × XS) :=
  bind1 (p_Model_looks s) (fun s3 => bind2 (p_Model_isWord (98 : Int32) (121 : Int32) (0 : Int32) (0 : Int32) (0 : Int32) (0 : Int32) s3) (fun r5 s6 => (if r5 = 0 then bind2 (p_Model_fails (0 : Int32) (gM s6 0 29) s6) (fun r13 s14 => if gZ r13 = true then some (r13, s14) else none) else lq (sM s6 0 25 ((gM s6 0 29) + (gM s6 0 30))) (fun s8 => bind2 (p_Model_number (40 : Int32) s8) (fun r10 s11 => if gZ r10 = true then some (r10, s11) else none)))))
def p_Model_oneStep_K74 (s : XS) : Option (Int32 × XS) :=
  bind2 (p_Model_fails (0 : Int32) (gM s 0 29) s) (fun r2 s3 => if gZ r2 = true then some (r2, s3) else none)
def p_Model_oneStep_K212 (x1 : Int32) (x2 : Int32) (x4 : Int32) (s : XS) : Option (Int32 × XS) :=
  (if x2 = 0 then bind2 (p_Model_by s) (fun r6 s7 => (if r6 = 0 then some ((0 : Int32), s7) else (if (gM s7 0 27) ≤ (gM s7 0 32) then if gIn x1 13 = true then lq (sM s7 13 (ix x1) (gM s7 0 27)) (fun s11 => (if x4 = 0 then bind1 (p_Model_looks s11) (fun s15 => bind2 (p_Model_isWord (104 : Int32) (111 : Int32) (117 : Int32) (115 : Int32) (101 : Int32) (0 : Int32) s15) (fun r17 s18 => (if r17 = 0 then if gIn x1 13 = true then lq (sM s18 0 32 (gM s18 12 (ix x1))) (fun s21 => some ((1 : Int32), s21)) else none else lq (sM s18 0 25 ((gM s18 0 29) + (gM s18 0 30))) (fun s22 => bind2 (p_Model_number (9 : Int32) s22) (fun r24 s25 => (if r24 = 0 then some ((0 : Int32), s25) else if gIn x1 13 = true then lq (sM s25 14 (ix x1) (gM s25 0 27)) (fun s28 => if gIn x1 13 = true then lq (sM s28 0 32 (gM s28 12 (ix x1))) (fun s30 => some ((1 : Int32), s30)) else none) else none)))))) else some ((1 : Int32), s11))) else none else bind2 (p_Model_fails (3 : Int32) (gM s7 0 28) s7) (fun r32 s33 => if gZ r32 = true then some (r32, s33) else none)))) else lq (sM s 0 32 (gM s 0 27)) (fun s34 => some ((1 : Int32), s34)))
def p_Model_oneStep_K135 (x1 : Int32) (x2 : Int32) (x4 : Int32) (t0 : Int32) (t1 : Int32) (s : XS) : Option (Int32 × XS) :=
  if gIn t1 13 = true then lq (sM s 11 (ix t1) t0) (fun s36 => if gIn x1 13 = true then lq (sM s36 12 (ix x1) (1 : Int32)) (fun s38 => if gIn x1 13 = true then lq (sM s38 13 (ix x1) (0 : Int32)) (fun s40 => if gIn x1 13 = true then lq (sM s40 14 (ix x1) (0 : Int32)) (fun s42 => (if x4 = 0 then bind2 (p_Model_number (40 : Int32) s42) (fun r45 s46 => (if r45 = 0 then some ((0 : Int32), s46) else (if x2 = 0 then if gIn x1 13 = true then lq (sM s46 12 (ix x1) (gM s46 0 27)) (fun s50 => p_Model_oneStep_K212 x1 x2 x4 s50) else none else (if x1 ≤ 0 then if gIn x1 13 = true then lq (sM s46 12 (ix x1) (gM s46 0 27)) (fun s53 => p_Model_oneStep_K212 x1 x2 x4 s53) else none else (if (gM s46 0 27) ≤ (gM s46 0 32) then if gIn x1 13 = true then lq (sM s46 12 (ix x1) (gM s46 0 27)) (fun s56 => p_Model_oneStep_K212 x1 x2 x4 s56) else none else bind2 (p_Model_fails (3 : Int32) (gM s46 0 28) s46) (fun r58 s59 => if gZ r58 = true then some (r58, s59) else none)))))) else p_Model_oneStep_K212 x1 x2 x4 s42)) else none) else none) else none) else none
def p_Model_oneStep_K84 (x1 : Int32) (x2 : Int32) (x3 : Int32) (x4 : Int32) (s : XS) : Option (Int32 × XS) :=
  (if x1 = (12 : Int32) then bind2 (p_Model_fails (2 : Int32) (gM s 0 29) s) (fun r65 s66 => if gZ r65 = true then some (r65, s66) else none) else lq (sM s 0 25 ((gM s 0 29) + (gM s 0 30))) (fun s61 => (if x2 = 0 then (if x3 = 0 then p_Model_oneStep_K135 x1 x2 x4 (2 : Int32) x1 s61 else p_Model_oneStep_K135 x1 x2 x4 (1 : Int32) x1 s61) else p_Model_oneStep_K135 x1 x2 x4 (0 : Int32) x1 s61)))
def p_Model_oneStep_K66 (x1 : Int32) (x2 : Int32) (x3 : Int32) (x4 : Int32) (s : XS) : Option (Int32 × XS) :=
  (if x1 = 0 then (if x2 = 0 then p_Model_oneStep_K74 s else p_Model_oneStep_K84 x1 x2 x3 x4 s) else p_Model_oneStep_K84 x1 x2 x3 x4 s)
def p_Model_oneStep (x1 : Int32) (s : XS) : Option (Int32 × XS) :=
  bind1 (p_Model_looks s) (fun s71 => bind2 (p_Model_isWord (100 : Int32) (114 : Int32) (97 : Int32) (119 : Int32) (0 : Int32) (0 : Int32) s71) (fun r73 s74 => bind2 (p_Model_isWord (99 : Int32) (104 : Int32) (111 : Int32) (111 : Int32) (115 : Int32) (101 : Int32) s74) (fun r76 s77 => bind2 (p_Model_isWord (101 : Int32) (108 : Int32) (101 : Int32) (99 : Int32) (116 : Int32) (0 : Int32) s77) (fun r79 s80 => (if r73 = 0 then (if r76 = 0 then (if r79 = 0 then p_Model_oneStep_K74 s80 else p_Model_oneStep_K66 x1 r73 r76 r79 s80) else p_Model_oneStep_K66 x1 r73 r76 r79 s80) else p_Model_oneStep_K66 x1 r73 r76 r79 s80)))))
def p_Model_procedure_B161 (x1 : Int32) (c161 : Int32 → XS → Option (Int32 × XS)) (x4 : Int32) (s : XS) : Option (Int32 × XS) :=
  (if x1 ≤ x4 then lq (sM s 0 18 (0 : Int32)) (fun s2 => lq (sM s2 0 21 (-1 : Int32)) (fun s3 => bind1 (p_Model_begins s3) (fun s6 => some ((gM s6 0 9), s6)))) else if gIn x4 13 = true then if gIn x4 12 = true then lq (sM s 7 (ix x4) (gM s 11 (ix x4))) (fun s9 => if gIn x4 13 = true then if gIn x4 12 = true then lq (sM s9 8 (ix x4) (gM s9 12 (ix x4))) (fun s12 => if gIn x4 13 = true then if gIn x4 12 = true then lq (sM s12 9 (ix x4) (gM s12 13 (ix x4))) (fun s15 => if gIn x4 13 = true then if gIn x4 12 = true then lq (sM s15 10 (ix x4) (gM s15 14 (ix x4))) (fun s18 => c161 (x4 + (1 : Int32)) s18) else none else none) else none else none) else none else none) else none else none)
def p_Model_procedure_K136 (x1 : Int32) (x2 : Int32) (s : XS) : Option (Int32 × XS) :=
  lq (sM s 0 8 (0 : Int32)) (fun s19 => (if x2 = 0 then some (((-2 : Int32) - (gM s19 0 26)), s19) else lq (sM s19 0 9 x1) (fun s21 => lo2 (p_Model_procedure_B161 x1) fuelN (0 : Int32) s21)))
def p_Model_procedure_K58 (c22 : Int32 → Int32 → Int32 → XS → Option (Int32 × XS)) (x1 : Int32) (x2 : Int32) (x3 : Int32) (t0 : Int32) (s : XS) : Option (Int32 × XS) :=
  bind2 (p_Model_see s) (fun r23 s24 => (if t0 = 0 then (if r23 = (59 : Int32) then lq (sM s24 0 25 ((gM s24 0 25) + (1 : Int32))) (fun s27 => c22 (x1 + (1 : Int32)) x2 x3 s27) else bind2 (p_Model_fails (0 : Int32) (gM s24 0 25) s24) (fun r29 s30 => c22 (x1 + (1 : Int32)) r29 x3 s30)) else (if r23 = (-1 : Int32) then c22 (x1 + (1 : Int32)) (1 : Int32) (0 : Int32) s24 else bind2 (p_Model_fails (0 : Int32) (gM s24 0 25) s24) (fun r33 s34 => (if r33 = 0 then c22 (x1 + (1 : Int32)) (0 : Int32) (0 : Int32) s34 else c22 (x1 + (1 : Int32)) (1 : Int32) (0 : Int32) s34)))))
def p_Model_procedure_B22 (c22 : Int32 → Int32 → Int32 → XS → Option (Int32 × XS)) (x1 : Int32) (x2 : Int32) (x3 : Int32) (s : XS) : Option (Int32 × XS) :=
  (if x2 = 0 then p_Model_procedure_K136 x1 x2 s else (if x3 = 0 then p_Model_procedure_K136 x1 x2 s else bind2 (p_Model_oneStep x1 s) (fun r39 s40 => (if r39 = 0 then p_Model_procedure_K136 x1 r39 s40 else if gIn x1 13 = true then (if (gM s40 11 (ix x1)) = (2 : Int32) then p_Model_procedure_K58 c22 x1 r39 x3 (1 : Int32) s40 else p_Model_procedure_K58 c22 x1 r39 x3 (0 : Int32) s40) else none))))
def p_Model_procedure (s : XS) : Option (Int32 × XS) :=
  lq (sM s 0 25 (0 : Int32)) (fun s44 => lq (sM s44 0 26 (0 : Int32)) (fun s45 => lq (sM s45 0 32 (41 : Int32)) (fun s46 => lo4 (p_Model_procedure_B22) fuelN (0 : Int32) (1 : Int32) (1 : Int32) s46)))
def p_Model_lot (x1 : Int32) (s : XS) : Option (Int32 × XS) :=
  (if (gM s 0 23) = (500 : Int32) then some ((-1 : Int32), s) else bind1 (p_Model_in x1 (0 : Int32) (9999 : Int32)) (fun r3 => (if r3 = 0 then some ((-1 : Int32), s) else if gIn (gM s 0 23) 500 = true then lq (sM s 17 (ix (gM s 0 23)) x1) (fun s7 => lq (sM s7 0 23 ((gM s7 0 23) + (1 : Int32))) (fun s8 => some ((gM s8 0 23), s8))) else none)))
def p_Model_draws_B213 (x4 : Int32) (c213 : Int32 → XS → Option (Int32 × XS)) (x5 : Int32) (s : XS) : Option (Int32 × XS) :=
  (if (gM s 0 23) ≤ x5 then lq (sM s 0 23 ((gM s 0 23) - x4)) (fun s2 => lq (sM s2 0 24 ((gM s2 0 24) + x4)) (fun s3 => some ((0 : Int32), s3))) else if gIn x5 500 = true then if gIn (x5 - x4) 500 = true then lq (sM s 17 (ix (x5 - x4)) (gM s 17 (ix x5))) (fun s6 => c213 (x5 + (1 : Int32)) s6) else none else none)
def p_Model_draws_B160 (x1 : Int32) (x2 : Int32) (x3 : Int32) (x4 : Int32) (x5 : Int32) (x6 : Int32) (c65 : Int32 → Int32 → XS → Option (Int32 × XS)) (c160 : Int32 → XS → Option (Int32 × XS)) (x8 : Int32) (s : XS) : Option (Int32 × XS) :=
  (if (x6 - (1 : Int32)) ≤ x8 then c65 x4 (x5 + (1 : Int32)) s else if gIn (x8 + (1 : Int32)) 40 = true then if gIn x8 40 = true then lq (sM s 20 (ix x8) (gM s 20 (ix (x8 + (1 : Int32))))) (fun s10 => c160 (x8 + (1 : Int32)) s10) else none else none)
def p_Model_draws_K111 (c65 : Int32 → Int32 → XS → Option (Int32 × XS)) (x1 : Int32) (x2 : Int32) (x3 : Int32) (x4 : Int32) (x5 : Int32) (x6 : Int32) (s : XS) : Option (Int32 × XS) :=
  (if x4 = (gM s 0 23) then some ((1 : Int32), s) else if gIn x4 500 = true then if x6 = 0 then none else if gIn ((gM s 17 (ix x4)) - (gM s 17 (ix x4)) / x6 * x6) 40 = true then if gIn ((x2 + (40 : Int32)) + x5) 520 = true then lq (sM s 16 (ix ((x2 + (40 : Int32)) + x5)) (gM s 20 (ix ((gM s 17 (ix x4)) - (gM s 17 (ix x4)) / x6 * x6)))) (fun s16 => lo2 (p_Model_draws_B160 x1 x2 x3 (x4 + (1 : Int32)) x5 x6 c65) fuelN ((gM s 17 (ix x4)) - (gM s 17 (ix x4)) / x6 * x6) s16) else none else none else none)
def p_Model_draws_B77 (x1 : Int32) (x2 : Int32) (x3 : Int32) (x5 : Int32) (x6 : Int32) (s : XS) (c65 : Int32 → Int32 → XS → Option (Int32 × XS)) (c77 : Int32 → Option (Int32 × XS)) (x4 : Int32) : Option (Int32 × XS) :=
  (if (gM s 0 23) ≤ x4 then p_Model_draws_K111 c65 x1 x2 x3 x4 x5 x6 s else if gIn x4 500 = true then if x6 = 0 then none else (if (gM s 17 (ix x4)) < (x6 * ((10000 : Int32) / x6)) then p_Model_draws_K111 c65 x1 x2 x3 x4 x5 x6 s else c77 (x4 + (1 : Int32))) else none)
def p_Model_draws_B65 (x1 : Int32) (x2 : Int32) (x3 : Int32) (c65 : Int32 → Int32 → XS → Option (Int32 × XS)) (x4 : Int32) (x5 : Int32) (s : XS) : Option (Int32 × XS) :=
  (if x1 ≤ x5 then if gIn ((gM s 0 18) + (1 : Int32)) 13 = true then lq (sM s 15 (ix ((gM s 0 18) + (1 : Int32))) x1) (fun s23 => lo2 (p_Model_draws_B213 x4) fuelN x4 s23) else none else lo1 (p_Model_draws_B77 x1 x2 x3 x5 (x3 - x5) s c65) fuelN x4)
def p_Model_draws_B31 (x1 : Int32) (x2 : Int32) (x3 : Int32) (c31 : Int32 → XS → Option (Int32 × XS)) (x4 : Int32) (s : XS) : Option (Int32 × XS) :=
  (if x3 ≤ x4 then lo3 (p_Model_draws_B65 x1 x2 x3) fuelN (0 : Int32) (0 : Int32) s else if gIn (x2 + x4) 520 = true then if gIn x4 40 = true then lq (sM s 20 (ix x4) (gM s 16 (ix (x2 + x4)))) (fun s27 => c31 (x4 + (1 : Int32)) s27) else none else none)
def p_Model_draws (s : XS) : Option (Int32 × XS) :=
  if gIn (gM s 0 18) 12 = true then if gIn (gM s 0 18) 13 = true then lo2 (p_Model_draws_B31 (gM s 8 (ix (gM s 0 18))) ((40 : Int32) * (gM s 0 18)) (gM s 15 (ix (gM s 0 18)))) fuelN (0 : Int32) s else none else none
def p_Model_votesFor_B4 (x1 : Int32) (s : XS) (c4 : Int32 → Int32 → Option Int32) (x2 : Int32) (x3 : Int32) : Option Int32 :=
  if gIn (gM s 0 18) 13 = true then (if (gM s 15 (ix (gM s 0 18))) ≤ x3 then some x2 else if gIn (((40 : Int32) * (gM s 0 18)) + x3) 520 = true then if gIn (gM s 16 (ix (((40 : Int32) * (gM s 0 18)) + x3))) 40 = true then (if (gM s 3 (ix (gM s 16 (ix (((40 : Int32) * (gM s 0 18)) + x3))))) = 0 then c4 (x2 + (0 : Int32)) (x3 + (1 : Int32)) else (if (gM s 16 (ix (((40 : Int32) * (gM s 0 18)) + x3))) = x1 then c4 (x2 + (0 : Int32)) (x3 + (1 : Int32)) else if gIn (gM s 16 (ix (((40 : Int32) * (gM s 0 18)) + x3))) 40 = true then if gIn x1 40 = true then (if (gM s 1 (ix (gM s 16 (ix (((40 : Int32) * (gM s 0 18)) + x3))))) = (gM s 1 (ix x1)) then c4 (x2 + (0 : Int32)) (x3 + (1 : Int32)) else if gIn (((40 : Int32) * (gM s 16 (ix (((40 : Int32) * (gM s 0 18)) + x3)))) + x1) 1600 = true then (if (gM s 4 (ix (((40 : Int32) * (gM s 16 (ix (((40 : Int32) * (gM s 0 18)) + x3)))) + x1))) = 0 then if gIn (gM s 16 (ix (((40 : Int32) * (gM s 0 18)) + x3))) 40 = true then if gIn x1 40 = true then if gIn (((4 : Int32) * (gM s 2 (ix (gM s 16 (ix (((40 : Int32) * (gM s 0 18)) + x3)))))) + (gM s 2 (ix x1))) 16 = true then (if (gM s 5 (ix (((4 : Int32) * (gM s 2 (ix (gM s 16 (ix (((40 : Int32) * (gM s 0 18)) + x3)))))) + (gM s 2 (ix x1))))) = 0 then c4 (x2 + (0 : Int32)) (x3 + (1 : Int32)) else c4 (x2 + (1 : Int32)) (x3 + (1 : Int32))) else none else none else none else c4 (x2 + (0 : Int32)) (x3 + (1 : Int32))) else none) else none else none)) else none else none) else none
def p_Model_votesFor (x1 : Int32) (s : XS) : Option Int32 :=
  lo2 (p_Model_votesFor_B4 x1 s) fuelN (0 : Int32) (0 : Int32)
def p_Model_chooses_K254 (s : XS) : Option (Int32 × XS) :=
  if gIn (gM s 0 18) 12 = true then (if (gM s 0 36) = (gM s 8 (ix (gM s 0 18))) then some ((1 : Int32), s) else some ((0 : Int32), s)) else none
def p_Model_chooses_K176 (c46 : Int32 → XS → Option (Int32 × XS)) (x1 : Int32) (s : XS) : Option (Int32 × XS) :=
  lq (sM s 0 35 ((gM s 0 35) + (1 : Int32))) (fun s3 => bind1 (p_Model_votesFor x1 s3) (fun r5 => if gIn x1 40 = true then lq (sM s3 19 (ix x1) r5) (fun s8 => if gIn x1 40 = true then if gIn (gM s8 0 18) 12 = true then (if (gM s8 9 (ix (gM s8 0 18))) ≤ (gM s8 19 (ix x1)) then if gIn (((40 : Int32) * ((gM s8 0 18) + (1 : Int32))) + (gM s8 0 36)) 520 = true then lq (sM s8 16 (ix (((40 : Int32) * ((gM s8 0 18) + (1 : Int32))) + (gM s8 0 36))) x1) (fun s13 => lq (sM s13 0 36 ((gM s13 0 36) + (1 : Int32))) (fun s14 => c46 (x1 + (1 : Int32)) s14)) else none else c46 (x1 + (1 : Int32)) s8) else none else none) else none))
def p_Model_chooses_B86 (x1 : Int32) (s : XS) (c46 : Int32 → XS → Option (Int32 × XS)) (c86 : Int32 → Int32 → Option (Int32 × XS)) (x2 : Int32) (x3 : Int32) : Option (Int32 × XS) :=
  (if (gM s 0 36) ≤ x3 then if gIn (gM s 0 18) 12 = true then (if (gM s 10 (ix (gM s 0 18))) ≤ 0 then p_Model_chooses_K176 c46 x1 s else if gIn (gM s 0 18) 12 = true then (if x2 < (gM s 10 (ix (gM s 0 18))) then p_Model_chooses_K176 c46 x1 s else lq (sM s 0 34 ((gM s 0 34) + (1 : Int32))) (fun s20 => c46 (x1 + (1 : Int32)) s20)) else none) else none else if gIn (((40 : Int32) * ((gM s 0 18) + (1 : Int32))) + x3) 520 = true then if gIn (gM s 16 (ix (((40 : Int32) * ((gM s 0 18) + (1 : Int32))) + x3))) 40 = true then if gIn x1 40 = true then (if (gM s 1 (ix (gM s 16 (ix (((40 : Int32) * ((gM s 0 18) + (1 : Int32))) + x3))))) = (gM s 1 (ix x1)) then c86 (x2 + (1 : Int32)) (x3 + (1 : Int32)) else c86 (x2 + (0 : Int32)) (x3 + (1 : Int32))) else none else none else none)
def p_Model_chooses_B46 (c46 : Int32 → XS → Option (Int32 × XS)) (x1 : Int32) (s : XS) : Option (Int32 × XS) :=
  (if (gM s 0 0) ≤ x1 then p_Model_chooses_K254 s else if gIn (gM s 0 18) 12 = true then (if (gM s 8 (ix (gM s 0 18))) ≤ (gM s 0 36) then p_Model_chooses_K254 s else if gIn x1 40 = true then (if (gM s 3 (ix x1)) = 0 then c46 (x1 + (1 : Int32)) s else lo2 (p_Model_chooses_B86 x1 s c46) fuelN (0 : Int32) (0 : Int32)) else none) else none)
def p_Model_chooses_B25 (c25 : Int32 → XS → Option (Int32 × XS)) (x1 : Int32) (s : XS) : Option (Int32 × XS) :=
  (if (40 : Int32) ≤ x1 then lo2 (p_Model_chooses_B46) fuelN (0 : Int32) s else if gIn x1 40 = true then lq (sM s 19 (ix x1) (-1 : Int32)) (fun s32 => c25 (x1 + (1 : Int32)) s32) else none)
def p_Model_chooses (s : XS) : Option (Int32 × XS) :=
  lq (sM s 0 33 (gM s 0 18)) (fun s33 => lq (sM s33 0 34 (0 : Int32)) (fun s34 => lq (sM s34 0 35 (0 : Int32)) (fun s35 => lq (sM s35 0 36 (0 : Int32)) (fun s36 => lo2 (p_Model_chooses_B25) fuelN (0 : Int32) s36))))
def p_Model_step (s : XS) : Option (Int32 × XS) :=
  (if (gM s 0 9) = 0 then some ((3 : Int32), s) else (if (gM s 0 18) = (gM s 0 9) then some ((3 : Int32), s) else if gIn (gM s 0 18) 12 = true then (if (gM s 7 (ix (gM s 0 18))) = 0 then if gIn (gM s 0 18) 13 = true then if gIn (gM s 0 18) 12 = true then (if (gM s 8 (ix (gM s 0 18))) ≤ (gM s 15 (ix (gM s 0 18))) then bind2 (p_Model_draws s) (fun r21 s22 => (if r21 = (1 : Int32) then some ((1 : Int32), s22) else lq (sM s22 0 18 ((gM s22 0 18) + (1 : Int32))) (fun s24 => some ((0 : Int32), s24)))) else some ((2 : Int32), s)) else none else none else bind2 (p_Model_chooses s) (fun r6 s7 => (if r6 = 0 then some ((2 : Int32), s7) else if gIn ((gM s7 0 18) + (1 : Int32)) 13 = true then lq (sM s7 15 (ix ((gM s7 0 18) + (1 : Int32))) (gM s7 0 36)) (fun s10 => if gIn (gM s10 0 18) 12 = true then (if (gM s10 7 (ix (gM s10 0 18))) = (2 : Int32) then if gIn ((40 : Int32) * ((gM s10 0 18) + (1 : Int32))) 520 = true then lq (sM s10 0 21 (gM s10 16 (ix ((40 : Int32) * ((gM s10 0 18) + (1 : Int32)))))) (fun s15 => lq (sM s15 0 18 ((gM s15 0 18) + (1 : Int32))) (fun s16 => some ((0 : Int32), s16))) else none else lq (sM s10 0 18 ((gM s10 0 18) + (1 : Int32))) (fun s13 => some ((0 : Int32), s13))) else none) else none))) else none))
def p_Model_protest (x1 : Int32) (s : XS) : Option (Int32 × XS) :=
  bind1 (p_Model_in x1 (0 : Int32) ((gM s 0 18) - (1 : Int32))) (fun r2 => (if r2 = 0 then some ((0 : Int32), s) else lq (sM s 0 18 x1) (fun s5 => lq (sM s5 0 21 (-1 : Int32)) (fun s6 => bind1 (p_Model_begins s6) (fun s9 => some ((1 : Int32), s9))))))
def p_Model_row (s : XS) : Option Int32 :=
  (if (gM s 0 18) ≤ 0 then some (gM s 0 18) else if gIn ((gM s 0 18) - (1 : Int32)) 12 = true then (if (gM s 7 (ix ((gM s 0 18) - (1 : Int32)))) = (2 : Int32) then some ((gM s 0 18) - (1 : Int32)) else some (gM s 0 18)) else none)
def p_Model_bodyNow (s : XS) : Option Int32 :=
  bind1 (p_Model_row s) (fun r2 => if gIn r2 13 = true then some (gM s 15 (ix r2)) else none)
def p_Model_body (x1 : Int32) (s : XS) : Option Int32 :=
  bind1 (p_Model_bodyNow s) (fun r2 => bind1 (p_Model_in x1 (0 : Int32) (r2 - (1 : Int32))) (fun r5 => (if r5 = 0 then some (-1 : Int32) else bind1 (p_Model_row s) (fun r9 => if gIn (((40 : Int32) * r9) + x1) 520 = true then some (gM s 16 (ix (((40 : Int32) * r9) + x1))) else none))))
def p_Model_ballot (x1 : Int32) (s : XS) : Option Int32 :=
  (if (gM s 0 33) = (-1 : Int32) then some (-1 : Int32) else bind1 (p_Model_in x1 (100 : Int32) (139 : Int32)) (fun r3 => (if r3 = 0 then (if x1 = 0 then some (gM s 0 34) else (if x1 = (1 : Int32) then some (gM s 0 35) else (if x1 = (2 : Int32) then some (gM s 0 36) else some (-1 : Int32)))) else if gIn (x1 - (100 : Int32)) 40 = true then some (gM s 19 (ix (x1 - (100 : Int32)))) else none)))
def p_Model_elected (s : XS) : Option Int32 :=
  some (gM s 0 21)
def p_Model_partOf (x0 : Int32) (x1 : Int32) : Option Int32 :=
  some ((x0 >>> (((6 : Int32) * x1) &&& 31)) &&& (63 : Int32))
def p_Model_sizeOf (x0 : Int32) : Option Int32 :=
  bind1 (p_Model_partOf x0 (0 : Int32)) (fun r2 => bind1 (p_Model_partOf x0 (1 : Int32)) (fun r5 => bind1 (p_Model_partOf x0 (2 : Int32)) (fun r8 => bind1 (p_Model_partOf x0 (3 : Int32)) (fun r11 => some (((r2 + r5) + r8) + r11)))))
def p_Model_sets_B12 (x0 : Int32) (x1 : Int32) (c12 : Int64 → Int32 → Option Int64) (x2 : Int64) (x4 : Int32) : Option Int64 :=
  (if x1 < x4 then (if (lg_cmp x2 (1000000000000000 : Int64)) ≤ 0 then some x2 else some (1000000000000001 : Int64)) else if ((((x0 - x1) + x4)).toInt64) = 0 then none else (if (lg_cmp x2 ((9000000000000000000 : Int64) / ((((x0 - x1) + x4)).toInt64))) ≤ 0 then if ((x4).toInt64) = 0 then none else c12 ((x2 * ((((x0 - x1) + x4)).toInt64)) / ((x4).toInt64)) (x4 + (1 : Int32)) else some (1000000000000001 : Int64)))
def p_Model_sets (x0 : Int32) (x1 : Int32) : Option Int64 :=
  (if x1 ≤ x0 then lo2 (p_Model_sets_B12 x0 x1) fuelN (1 : Int64) (1 : Int32) else some (0 : Int64))
def p_Model_times (x0 : Int64) (x2 : Int64) : Option Int64 :=
  (if (lg_cmp x0 (0 : Int64)) = 0 then some (0 : Int64) else (if (lg_cmp x2 (0 : Int64)) = 0 then some (0 : Int64) else if x2 = 0 then none else (if (lg_cmp x0 ((1000000000000000 : Int64) / x2)) ≤ 0 then some (x0 * x2) else some (1000000000000001 : Int64))))
def p_Model_comes_K76 (x2 : Int64) (x4 : Int32) (s : XS) : Option (Int32 × XS) :=
  if gIn x4 601 = true then if gIn x4 601 = true then lq (sJ s 24 (ix x4) ((gJ s 24 (ix x4)) + x2)) (fun s3 => some ((1 : Int32), s3)) else none else none
def p_Model_comes_K29 (x1 : Int32) (x2 : Int64) (x4 : Int32) (s : XS) : Option (Int32 × XS) :=
  (if x4 = (gM s 0 42) then (if (gM s 0 42) = (600 : Int32) then some ((0 : Int32), s) else if gIn x4 601 = true then lq (sM s 23 (ix x4) x1) (fun s7 => if gIn x4 601 = true then lq (sJ s7 24 (ix x4) (0 : Int64)) (fun s9 => lq (sM s9 0 42 ((gM s9 0 42) + (1 : Int32))) (fun s10 => p_Model_comes_K76 x2 x4 s10)) else none) else none) else p_Model_comes_K76 x2 x4 s)
def p_Model_comes_B3 (x1 : Int32) (x2 : Int64) (s : XS) (c3 : Int32 → Option (Int32 × XS)) (x4 : Int32) : Option (Int32 × XS) :=
  (if (gM s 0 42) ≤ x4 then p_Model_comes_K29 x1 x2 x4 s else if gIn x4 601 = true then (if (gM s 23 (ix x4)) = x1 then p_Model_comes_K29 x1 x2 x4 s else c3 (x4 + (1 : Int32))) else none)
def p_Model_comes (x1 : Int32) (x2 : Int64) (s : XS) : Option (Int32 × XS) :=
  lo1 (p_Model_comes_B3 x1 x2 s) fuelN (0 : Int32)
def p_Model_drawn_B46 (x1 : Int32) (x2 : Int64) (x4 : Int32) (x5 : Int32) (x6 : Int32) (c23 : Int32 → XS → Option (Int32 × XS)) (c46 : Int32 → XS → Option (Int32 × XS)) (x7 : Int32) (s : XS) : Option (Int32 × XS) :=
  bind1 (p_Model_partOf x1 (2 : Int32)) (fun r2 => (if r2 < x7 then c23 (x6 + (1 : Int32)) s else (if x4 < ((x5 + x6) + x7) then c23 (x6 + (1 : Int32)) s else bind1 (p_Model_partOf x1 (3 : Int32)) (fun r7 => (if (((x4 - x5) - x6) - x7) ≤ r7 then bind1 (p_Model_partOf x1 (0 : Int32)) (fun r11 => bind1 (p_Model_sets r11 x5) (fun r14 => bind1 (p_Model_partOf x1 (1 : Int32)) (fun r17 => bind1 (p_Model_sets r17 x6) (fun r20 => bind1 (p_Model_times r14 r20) (fun r23 => bind1 (p_Model_partOf x1 (2 : Int32)) (fun r26 => bind1 (p_Model_sets r26 x7) (fun r29 => bind1 (p_Model_partOf x1 (3 : Int32)) (fun r32 => bind1 (p_Model_sets r32 (((x4 - x5) - x6) - x7)) (fun r35 => bind1 (p_Model_times r29 r35) (fun r38 => bind1 (p_Model_times r23 r38) (fun r41 => bind1 (p_Model_times x2 r41) (fun r44 => bind2 (p_Model_comes (((x5 ||| (x6 <<< ((6 : Int32) &&& 31))) ||| (x7 <<< ((12 : Int32) &&& 31))) ||| ((((x4 - x5) - x6) - x7) <<< ((18 : Int32) &&& 31))) r44 s) (fun r47 s48 => (if r47 = 0 then some ((0 : Int32), s48) else c46 (x7 + (1 : Int32)) s48)))))))))))))) else c46 (x7 + (1 : Int32)) s)))))
def p_Model_drawn_B23 (x1 : Int32) (x2 : Int64) (x4 : Int32) (x5 : Int32) (c3 : Int32 → XS → Option (Int32 × XS)) (c23 : Int32 → XS → Option (Int32 × XS)) (x6 : Int32) (s : XS) : Option (Int32 × XS) :=
  bind1 (p_Model_partOf x1 (1 : Int32)) (fun r51 => (if r51 < x6 then c3 (x5 + (1 : Int32)) s else (if x4 < (x5 + x6) then c3 (x5 + (1 : Int32)) s else lo2 (p_Model_drawn_B46 x1 x2 x4 x5 x6 c23) fuelN (0 : Int32) s)))
def p_Model_drawn_B3 (x1 : Int32) (x2 : Int64) (x4 : Int32) (c3 : Int32 → XS → Option (Int32 × XS)) (x5 : Int32) (s : XS) : Option (Int32 × XS) :=
  bind1 (p_Model_partOf x1 (0 : Int32)) (fun r56 => (if r56 < x5 then some ((1 : Int32), s) else (if x4 < x5 then some ((1 : Int32), s) else lo2 (p_Model_drawn_B23 x1 x2 x4 x5 c3) fuelN (0 : Int32) s)))
def p_Model_drawn (x1 : Int32) (x2 : Int64) (x4 : Int32) (s : XS) : Option (Int32 × XS) :=
  lo2 (p_Model_drawn_B3 x1 x2 x4) fuelN (0 : Int32) s
def p_Model_votesBy_B5 (x1 : Int32) (x2 : Int32) (s : XS) (c5 : Int32 → Int32 → Option Int32) (x3 : Int32) (x4 : Int32) : Option Int32 :=
  (if (4 : Int32) ≤ x4 then some x3 else if gIn (((4 : Int32) * x4) + x2) 16 = true then (if (gM s 5 (ix (((4 : Int32) * x4) + x2))) = 0 then c5 (x3 + (0 : Int32)) (x4 + (1 : Int32)) else bind1 (p_Model_partOf x1 x4) (fun r5 => c5 (x3 + r5) (x4 + (1 : Int32)))) else none)
def p_Model_votesBy (x1 : Int32) (x2 : Int32) (s : XS) : Option Int32 :=
  lo2 (p_Model_votesBy_B5 x1 x2 s) fuelN (0 : Int32) (0 : Int32)
def p_Model_chosenBy_K93 (x2 : Int32) (x3 : Int32) (x4 : Int32) (s : XS) : Option (Int32 × XS) :=
  if gIn x2 12 = true then (if x3 = (gM s 8 (ix x2)) then some (x4, s) else some ((-1 : Int32), s)) else none
def p_Model_chosenBy_B8 (x1 : Int32) (x2 : Int32) (c8 : Int32 → Int32 → Int32 → XS → Option (Int32 × XS)) (x3 : Int32) (x4 : Int32) (x5 : Int32) (s : XS) : Option (Int32 × XS) :=
  (if (gM s 0 0) ≤ x5 then p_Model_chosenBy_K93 x2 x3 x4 s else if gIn x2 12 = true then (if (gM s 8 (ix x2)) ≤ x3 then p_Model_chosenBy_K93 x2 x3 x4 s else if gIn x5 40 = true then (if (gM s 3 (ix x5)) = 0 then c8 x3 x4 (x5 + (1 : Int32)) s else if gIn x5 40 = true then bind1 (p_Model_votesBy x1 (gM s 2 (ix x5)) s) (fun r10 => if gIn x2 12 = true then (if (gM s 9 (ix x2)) ≤ r10 then if gIn x5 40 = true then lq (sM s 0 49 x5) (fun s15 => c8 (x3 + (1 : Int32)) (x4 + ((1 : Int32) <<< (((6 : Int32) * (gM s 2 (ix x5))) &&& 31))) (x5 + (1 : Int32)) s15) else none else c8 x3 x4 (x5 + (1 : Int32)) s) else none) else none) else none) else none)
def p_Model_chosenBy (x1 : Int32) (x2 : Int32) (s : XS) : Option (Int32 × XS) :=
  lo4 (p_Model_chosenBy_B8 x1 x2) fuelN (0 : Int32) (0 : Int32) (0 : Int32) s
def p_Model_chances_B489 (x1 : Int64) (c489 : Int32 → XS → Option (Int32 × XS)) (x3 : Int32) (s : XS) : Option (Int32 × XS) :=
  (if (40 : Int32) ≤ x3 then if gIn (40 : Int32) 42 = true then lq (sJ s 25 (ix (40 : Int32)) (gJ s 0 47)) (fun s3 => if gIn (41 : Int32) 42 = true then lq (sJ s3 25 (ix (41 : Int32)) x1) (fun s5 => some ((0 : Int32), s5)) else none) else none else if gIn x3 40 = true then if gIn x3 42 = true then lq (sJ s 25 (ix x3) (gJ s 26 (ix x3))) (fun s8 => c489 (x3 + (1 : Int32)) s8) else none else none)
def p_Model_chances_B433 (x1 : Int64) (x3 : Int32) (c126 : Int64 → Int32 → XS → Option (Int32 × XS)) (c433 : Int32 → XS → Option (Int32 × XS)) (x7 : Int32) (s : XS) : Option (Int32 × XS) :=
  (if (gM s 0 39) ≤ x7 then c126 x1 (x3 + (1 : Int32)) s else if gIn x7 601 = true then if gIn x7 600 = true then lq (sM s 21 (ix x7) (gM s 23 (ix x7))) (fun s12 => if gIn x7 601 = true then if gIn x7 600 = true then lq (sJ s12 22 (ix x7) (gJ s12 24 (ix x7))) (fun s15 => c433 (x7 + (1 : Int32)) s15) else none else none) else none else none)
def p_Model_chances_B240 (x1 : Int64) (x3 : Int32) (c126 : Int64 → Int32 → XS → Option (Int32 × XS)) (c240 : Int32 → XS → Option (Int32 × XS)) (x7 : Int32) (s : XS) : Option (Int32 × XS) :=
  (if (gM s 0 39) ≤ x7 then lq (sM s 0 39 (gM s 0 42)) (fun s17 => lo2 (p_Model_chances_B433 x1 x3 c126) fuelN (0 : Int32) s17) else if gIn x3 12 = true then (if (gM s 7 (ix x3)) = 0 then if gIn x7 600 = true then bind1 (p_Model_sizeOf (gM s 21 (ix x7))) (fun r40 => if gIn x3 12 = true then (if (gM s 8 (ix x3)) ≤ r40 then if gIn x7 600 = true then if gIn x7 600 = true then if gIn x3 12 = true then bind2 (p_Model_drawn (gM s 21 (ix x7)) (gJ s 22 (ix x7)) (gM s 8 (ix x3)) s) (fun r48 s49 => (if r48 = 0 then some ((-2 : Int32), s49) else c240 (x7 + (1 : Int32)) s49)) else none else none else none else if gIn x7 600 = true then lq (sJ s 0 47 ((gJ s 0 47) + (gJ s 22 (ix x7)))) (fun s52 => c240 (x7 + (1 : Int32)) s52) else none) else none) else none else if gIn x7 600 = true then bind2 (p_Model_chosenBy (gM s 21 (ix x7)) x3 s) (fun r22 s23 => (if r22 = (-1 : Int32) then if gIn x7 600 = true then lq (sJ s23 0 47 ((gJ s23 0 47) + (gJ s23 22 (ix x7)))) (fun s37 => c240 (x7 + (1 : Int32)) s37) else none else if gIn x3 12 = true then (if (gM s23 7 (ix x3)) = (2 : Int32) then if gIn (gM s23 0 49) 40 = true then if gIn x7 600 = true then if gIn (gM s23 0 49) 40 = true then lq (sJ s23 26 (ix (gM s23 0 49)) ((gJ s23 26 (ix (gM s23 0 49))) + (gJ s23 22 (ix x7)))) (fun s35 => c240 (x7 + (1 : Int32)) s35) else none else none else none else if gIn x7 600 = true then bind2 (p_Model_comes r22 (gJ s23 22 (ix x7)) s23) (fun r29 s30 => (if r29 = 0 then some ((-2 : Int32), s30) else c240 (x7 + (1 : Int32)) s30)) else none) else none)) else none) else none)
def p_Model_chances_K199 (c126 : Int64 → Int32 → XS → Option (Int32 × XS)) (x1 : Int64) (x3 : Int32) (t0 : Int64) (s : XS) : Option (Int32 × XS) :=
  bind1 (p_Model_times x1 t0) (fun r54 => (if (lg_cmp r54 (1000000000000000 : Int64)) ≤ 0 then bind1 (p_Model_times (gJ s 0 47) t0) (fun r58 => lq (sJ s 0 47 r58) (fun s60 => lq (sM s60 0 42 (0 : Int32)) (fun s61 => lo2 (p_Model_chances_B240 r54 x3 c126) fuelN (0 : Int32) s61))) else some ((-2 : Int32), s)))
def p_Model_chances_K162 (c126 : Int64 → Int32 → XS → Option (Int32 × XS)) (x1 : Int64) (x3 : Int32) (t0 : Int32) (s : XS) : Option (Int32 × XS) :=
  if gIn x3 12 = true then (if (gM s 7 (ix x3)) = 0 then if gIn x3 12 = true then (if (gM s 8 (ix x3)) ≤ t0 then if gIn x3 12 = true then bind1 (p_Model_sets t0 (gM s 8 (ix x3))) (fun r68 => p_Model_chances_K199 c126 x1 x3 r68 s) else none else p_Model_chances_K199 c126 x1 x3 (1 : Int64) s) else none else p_Model_chances_K199 c126 x1 x3 (1 : Int64) s) else none
def p_Model_chances_B126 (c126 : Int64 → Int32 → XS → Option (Int32 × XS)) (x1 : Int64) (x3 : Int32) (s : XS) : Option (Int32 × XS) :=
  (if (gM s 0 9) ≤ x3 then lq (sM s 0 46 (1 : Int32)) (fun s71 => lo2 (p_Model_chances_B489 x1) fuelN (0 : Int32) s71) else (if x3 = (gM s 0 18) then if gIn (gM s 0 18) 13 = true then p_Model_chances_K162 c126 x1 x3 (gM s 15 (ix (gM s 0 18))) s else none else if gIn (x3 - (1 : Int32)) 12 = true then p_Model_chances_K162 c126 x1 x3 (gM s 8 (ix (x3 - (1 : Int32)))) s else none))
def p_Model_chances_B100 (c100 : Int32 → XS → Option (Int32 × XS)) (x1 : Int32) (s : XS) : Option (Int32 × XS) :=
  (if (40 : Int32) ≤ x1 then lo3 (p_Model_chances_B126) fuelN (1 : Int64) (gM s 0 18) s else if gIn x1 40 = true then lq (sJ s 26 (ix x1) (0 : Int64)) (fun s77 => c100 (x1 + (1 : Int32)) s77) else none)
def p_Model_chances_B41 (c41 : Int32 → XS → Option (Int32 × XS)) (x1 : Int32) (s : XS) : Option (Int32 × XS) :=
  if gIn (gM s 0 18) 13 = true then (if (gM s 15 (ix (gM s 0 18))) ≤ x1 then lq (sJ s 0 47 (0 : Int64)) (fun s80 => lo2 (p_Model_chances_B100) fuelN (0 : Int32) s80) else if gIn (0 : Int32) 600 = true then if gIn (((40 : Int32) * (gM s 0 18)) + x1) 520 = true then if gIn (gM s 16 (ix (((40 : Int32) * (gM s 0 18)) + x1))) 40 = true then if gIn (0 : Int32) 600 = true then lq (sM s 21 (ix (0 : Int32)) ((gM s 21 (ix (0 : Int32))) + ((1 : Int32) <<< (((6 : Int32) * (gM s 2 (ix (gM s 16 (ix (((40 : Int32) * (gM s 0 18)) + x1)))))) &&& 31)))) (fun s85 => c41 (x1 + (1 : Int32)) s85) else none else none else none else none) else none
def p_Model_chances (s : XS) : Option (Int32 × XS) :=
  (if (gM s 0 9) = 0 then some ((-1 : Int32), s) else (if (gM s 0 18) = (gM s 0 9) then some ((-1 : Int32), s) else lq (sM s 0 39 (1 : Int32)) (fun s88 => if gIn (0 : Int32) 600 = true then lq (sM s88 21 (ix (0 : Int32)) (0 : Int32)) (fun s90 => if gIn (0 : Int32) 600 = true then lq (sJ s90 22 (ix (0 : Int32)) (1 : Int64)) (fun s92 => lo2 (p_Model_chances_B41) fuelN (0 : Int32) s92) else none) else none)))
def p_Model_ways (x1 : Int32) (s : XS) : Option Int64 :=
  (if (gM s 0 46) = 0 then some (-1 : Int64) else bind1 (p_Model_in x1 (0 : Int32) (41 : Int32)) (fun r3 => (if r3 = 0 then some (-1 : Int64) else if gIn x1 42 = true then some (gJ s 25 (ix x1)) else none)))
def p_Model_about_B15 (x1 : Int32) (x2 : Int32) (s : XS) (c15 : Int32 → Int32 → Option Int32) (x3 : Int32) (x4 : Int32) : Option Int32 :=
  (if (gM s 0 0) ≤ x4 then (if x2 = (0 : Int32) then if gIn x1 40 = true then some (gM s 1 (ix x1)) else none else (if x2 = (1 : Int32) then if gIn x1 40 = true then some (gM s 2 (ix x1)) else none else (if x2 = (2 : Int32) then if gIn x1 40 = true then (if (gM s 3 (ix x1)) = 0 then some (0 : Int32) else some (1 : Int32)) else none else (if x2 = (3 : Int32) then some x3 else some (-1 : Int32))))) else (if x4 = x1 then c15 (x3 + (0 : Int32)) (x4 + (1 : Int32)) else if gIn x4 40 = true then if gIn x1 40 = true then (if (gM s 1 (ix x4)) = (gM s 1 (ix x1)) then c15 (x3 + (1 : Int32)) (x4 + (1 : Int32)) else if gIn (((40 : Int32) * x4) + x1) 1600 = true then (if (gM s 4 (ix (((40 : Int32) * x4) + x1))) = 0 then c15 (x3 + (0 : Int32)) (x4 + (1 : Int32)) else c15 (x3 + (1 : Int32)) (x4 + (1 : Int32))) else none) else none else none))
def p_Model_about (x1 : Int32) (x2 : Int32) (s : XS) : Option Int32 :=
  bind1 (p_Model_isCitizen x1 s) (fun r17 => (if r17 = 0 then some (-1 : Int32) else lo2 (p_Model_about_B15 x1 x2 s) fuelN (0 : Int32) (0 : Int32)))
def p_Model_count_B59 (s : XS) (c59 : Int32 → Int32 → Option Int32) (x2 : Int32) (x3 : Int32) : Option Int32 :=
  (if (gM s 0 0) ≤ x3 then some x2 else if gIn x3 40 = true then (if (gM s 3 (ix x3)) = 0 then c59 (x2 + (0 : Int32)) (x3 + (1 : Int32)) else c59 (x2 + (1 : Int32)) (x3 + (1 : Int32))) else none)
def p_Model_count (x1 : Int32) (s : XS) : Option Int32 :=
  (if x1 = (0 : Int32) then some (gM s 0 0) else (if x1 = (1 : Int32) then lo2 (p_Model_count_B59 s) fuelN (0 : Int32) (0 : Int32) else (if x1 = (2 : Int32) then some (gM s 0 5) else (if x1 = (3 : Int32) then some (gM s 0 9) else (if x1 = (4 : Int32) then some (gM s 0 18) else (if x1 = (5 : Int32) then bind1 (p_Model_bodyNow s) (fun r11 => some r11) else (if x1 = (6 : Int32) then some (gM s 0 23) else (if x1 = (7 : Int32) then some (gM s 0 24) else (if x1 = (8 : Int32) then some (gM s 0 8) else some (-1 : Int32))))))))))
