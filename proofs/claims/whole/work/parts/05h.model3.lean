set_option maxHeartbeats 8000000 in
set_option maxRecDepth 100000 in
theorem c_Model_votesBy (l : Launch) (Z : ZT) (Q : Nat → Nat) (s : XS) (x1 : Int32) (x2 : Int32) {r : Int32} (hf : p_Model_votesBy x1 x2 s = some r) : KI l Z (wY Z Q) yX10_votesBy wsX10_votesBy { frames := 1, cells := 0, slots := 0, locals := 21 } [.ref (Q 0), .int x1, .int x2] s r s := by
  intro sz
  refine met_entry (cc := cX10_votesBy) (maxL := 5) (ret := (some .int)) (by decide) rfl (Nat.le_of_ble_eq_true rfl) sz rfl ?_
  generalize va_A (wY Z Q s) sz = A
  intro p e s0 m args below meth c ls F hr hlk h hl
  have hl : lv_has ls 5 [(0, .ref (Q 0)), (1, .int x1), (2, .int x2)] := hl
  obtain ⟨hx, hb, hml, hown, hts⟩ := id F
  have hinX10 : ∀ w ∈ wsX100, w ∈ wsX10_votesBy := by decide +kernel
  obtain ⟨H, eH⟩ : ∃ z, z = s0.heap := ⟨_, rfl⟩
  obtain ⟨locs, eL⟩ : ∃ z : List Loc, z = [] := ⟨_, rfl⟩
  rw [← eH, ← eL] at h ⊢
  unfold p_Model_votesBy at hf
  have lab5 : ∀ (x1 : Int32) (x2 : Int32) (n : Nat) (x3 : Int32) (x4 : Int32) (H : Heap) (locs : List Loc) (ls : Array Slot), lo2 (p_Model_votesBy_B5 x1 x2 s) n x3 x4 = some r → HW Z (wY Z Q) A s0 H locs s → lv_has ls 5 [(0, .ref (Q 0)), (1, .int x1), (2, .int x2), (3, .int x3), (4, .int x4)] → W p l e { frames := 1, cells := 0, slots := 0, locals := 21 } s0 m args below meth c H locs 0 0 (MQ below (QcI Z (wY Z Q) A r s) args s0 0 0 A) (F0 m 5 ls []) := by
    intro x1 x2 n
    induction n with
    | zero => intro x3 x4 H locs ls hf; exact absurd hf lo2_z
    | succ n ih5 =>
      intro x3 x4 H locs ls hf h hl
      have hf := lo2_s hf
      generalize lo2 (p_Model_votesBy_B5 x1 x2 s) n = c5 at hf ih5
      unfold p_Model_votesBy_B5 at hf
      refine lv_iload hx hb dX10_votesBy_5 (lv_at hl 4 rfl) ?_
      refine lv_iconst (v := (4 : Int32)) hx hb dX10_votesBy_7 (by decide) ?_
      refine lv_icmp_ge (tgt := 44) hx hb dX10_votesBy_8 (by decide) (fun c_1 => ?_) (fun c_1 => ?_)
      · have hf := ip c_1 hf
        refine lv_iload_n hx hb dX10_votesBy_44 rfl (lv_at hl 3 rfl) ?_
        exact retE_Ir F hr hlk h hf dX10_votesBy_45
      · have hf := im c_1 hf
        refine lv_iload_n hx hb dX10_votesBy_11 rfl (lv_at hl 3 rfl) ?_
        refine lv_aload_n hx hb dX10_votesBy_12 rfl (lv_at hl 0 rfl) ?_
        refine gY_Model_yes F h hinX10 (hts (.fieldLink RX10 23 "ElectionHouseModel" "yes" "[Z") (by decide +kernel)) dX10_votesBy_13 ?_
        refine lv_iconst (v := (4 : Int32)) hx hb dX10_votesBy_16 (by decide) ?_
        refine lv_iload hx hb dX10_votesBy_17 (lv_at hl 4 rfl) ?_
        refine lv_imul hx hb dX10_votesBy_19 ?_
        refine lv_iload_n hx hb dX10_votesBy_20 rfl (lv_at hl 2 rfl) ?_
        refine lv_iadd hx hb dX10_votesBy_21 ?_
        obtain ⟨gi2, hf⟩ := og hf
        refine lY_myes F h gi2 dX10_votesBy_22 ?_
        refine lv_if_eq (tgt := 35) hx hb dX10_votesBy_23 (by decide) (fun c_3 => ?_) (fun c_3 => ?_)
        · have hf := ip c_3 hf
          refine lv_iconst (v := (0 : Int32)) hx hb dX10_votesBy_35 (by decide) ?_
          refine lv_iadd hx hb dX10_votesBy_36 ?_
          refine lv_istore_n (lv' := [(3, .int (x3 + (0 : Int32))), (0, .ref (Q 0)), (1, .int x1), (2, .int x2), (4, .int x4)]) hx hb dX10_votesBy_37 rfl hl (by decide) rfl (fun ls hl => ?_)
          have hl := lv_sub (l' := [(0, .ref (Q 0)), (1, .int x1), (2, .int x2), (3, .int (x3 + (0 : Int32))), (4, .int x4)]) hl [1, 2, 3, 0, 4] rfl
          refine lv_iinc (v := (x4 + (1 : Int32))) (lv' := [(4, .int (x4 + (1 : Int32))), (0, .ref (Q 0)), (1, .int x1), (2, .int x2), (3, .int (x3 + (0 : Int32)))]) hx hb dX10_votesBy_38 hl (k := 4) rfl (congrArg (fun z => x4 + z) (by decide : Int32.ofInt (1) = (1 : Int32))) (by decide) rfl (fun ls hl => ?_)
          have hl := lv_sub (l' := [(0, .ref (Q 0)), (1, .int x1), (2, .int x2), (3, .int (x3 + (0 : Int32))), (4, .int (x4 + (1 : Int32)))]) hl [1, 2, 3, 4, 0] rfl
          refine lv_goto (tgt := 5) hx hb dX10_votesBy_41 (by decide) ?_
          exact ih5 (x3 + (0 : Int32)) (x4 + (1 : Int32)) H locs ls hf h (lv_sub hl [0, 1, 2, 3, 4] rfl)
        · have hf := im c_3 hf
          refine lv_iload_n hx hb dX10_votesBy_26 rfl (lv_at hl 1 rfl) ?_
          refine lv_iload hx hb dX10_votesBy_27 (lv_at hl 4 rfl) ?_
          obtain ⟨r5, hc4, hf⟩ := ob1 hf
          refine call_SI F (c_Model_partOf l Z (wY Z Q) s x1 x4 hc4) (va_cwS 2 hts gX10_votesBy_X10_partOf rfl rfl rfl (by decide +kernel) ⟨Nat.le_of_ble_eq_true rfl, Nat.le_of_ble_eq_true rfl⟩) h rfl hl.1 rfl (Nat.le_of_ble_eq_true rfl) ⟨Nat.zero_le _, Nat.zero_le _⟩ dX10_votesBy_29 (fun H locs h => ?_)
          refine lv_goto (tgt := 36) hx hb dX10_votesBy_32 (by decide) ?_
          refine lv_iadd hx hb dX10_votesBy_36 ?_
          refine lv_istore_n (lv' := [(3, .int (x3 + r5)), (0, .ref (Q 0)), (1, .int x1), (2, .int x2), (4, .int x4)]) hx hb dX10_votesBy_37 rfl hl (by decide) rfl (fun ls hl => ?_)
          have hl := lv_sub (l' := [(0, .ref (Q 0)), (1, .int x1), (2, .int x2), (3, .int (x3 + r5)), (4, .int x4)]) hl [1, 2, 3, 0, 4] rfl
          refine lv_iinc (v := (x4 + (1 : Int32))) (lv' := [(4, .int (x4 + (1 : Int32))), (0, .ref (Q 0)), (1, .int x1), (2, .int x2), (3, .int (x3 + r5))]) hx hb dX10_votesBy_38 hl (k := 4) rfl (congrArg (fun z => x4 + z) (by decide : Int32.ofInt (1) = (1 : Int32))) (by decide) rfl (fun ls hl => ?_)
          have hl := lv_sub (l' := [(0, .ref (Q 0)), (1, .int x1), (2, .int x2), (3, .int (x3 + r5)), (4, .int (x4 + (1 : Int32)))]) hl [1, 2, 3, 4, 0] rfl
          refine lv_goto (tgt := 5) hx hb dX10_votesBy_41 (by decide) ?_
          exact ih5 (x3 + r5) (x4 + (1 : Int32)) H locs ls hf h (lv_sub hl [0, 1, 2, 3, 4] rfl)
  refine lv_iconst (v := (0 : Int32)) hx hb dX10_votesBy_0 (by decide) ?_
  refine lv_istore_n (lv' := [(3, .int (0 : Int32)), (0, .ref (Q 0)), (1, .int x1), (2, .int x2)]) hx hb dX10_votesBy_1 rfl hl (by decide) rfl (fun ls hl => ?_)
  have hl := lv_sub (l' := [(0, .ref (Q 0)), (1, .int x1), (2, .int x2), (3, .int (0 : Int32))]) hl [1, 2, 3, 0] rfl
  refine lv_iconst (v := (0 : Int32)) hx hb dX10_votesBy_2 (by decide) ?_
  refine lv_istore (lv' := [(4, .int (0 : Int32)), (0, .ref (Q 0)), (1, .int x1), (2, .int x2), (3, .int (0 : Int32))]) hx hb dX10_votesBy_3 hl (by decide) rfl (fun ls hl => ?_)
  have hl := lv_sub (l' := [(0, .ref (Q 0)), (1, .int x1), (2, .int x2), (3, .int (0 : Int32)), (4, .int (0 : Int32))]) hl [1, 2, 3, 4, 0] rfl
  exact lab5 x1 x2 fuelN (0 : Int32) (0 : Int32) H locs ls hf h (lv_sub hl [0, 1, 2, 3, 4] rfl)

set_option maxHeartbeats 8000000 in
set_option maxRecDepth 100000 in
theorem c_Model_chosenBy (l : Launch) (Z : ZT) (Q : Nat → Nat) (s : XS) (x1 : Int32) (x2 : Int32) {r : Int32} {s' : XS} (hf : p_Model_chosenBy x1 x2 s = some (r, s')) : KI l Z (wY Z Q) yX10_chosenBy wsX10_chosenBy { frames := 2, cells := 0, slots := 0, locals := 45 } [.ref (Q 0), .int x1, .int x2] s r s' := by
  intro sz
  refine met_entry (cc := cX10_chosenBy) (maxL := 6) (ret := (some .int)) (by decide) rfl (Nat.le_of_ble_eq_true rfl) sz rfl ?_
  generalize va_A (wY Z Q s) sz = A
  intro p e s0 m args below meth c ls F hr hlk h hl
  have hl : lv_has ls 6 [(0, .ref (Q 0)), (1, .int x1), (2, .int x2)] := hl
  obtain ⟨hx, hb, hml, hown, hts⟩ := id F
  have hinX10 : ∀ w ∈ wsX100, w ∈ wsX10_chosenBy := by decide +kernel
  obtain ⟨H, eH⟩ : ∃ z, z = s0.heap := ⟨_, rfl⟩
  obtain ⟨locs, eL⟩ : ∃ z : List Loc, z = [] := ⟨_, rfl⟩
  rw [← eH, ← eL] at h ⊢
  unfold p_Model_chosenBy at hf
  have lab8 : ∀ (x1 : Int32) (x2 : Int32) (n : Nat) (x3 : Int32) (x4 : Int32) (x5 : Int32) (s : XS) (H : Heap) (locs : List Loc) (ls : Array Slot), lo4 (p_Model_chosenBy_B8 x1 x2) n x3 x4 x5 s = some (r, s') → HW Z (wY Z Q) A s0 H locs s → lv_has ls 6 [(0, .ref (Q 0)), (1, .int x1), (2, .int x2), (3, .int x3), (4, .int x4), (5, .int x5)] → W p l e { frames := 2, cells := 0, slots := 0, locals := 45 } s0 m args below meth c H locs 0 0 (MQ below (QcI Z (wY Z Q) A r s') args s0 0 0 A) (F0 m 8 ls []) := by
    intro x1 x2 n
    induction n with
    | zero => intro x3 x4 x5 s H locs ls hf; exact absurd hf lo4_z
    | succ n ih8 =>
      intro x3 x4 x5 s H locs ls hf h hl
      have hf := lo4_s hf
      generalize lo4 (p_Model_chosenBy_B8 x1 x2) n = c8 at hf ih8
      unfold p_Model_chosenBy_B8 at hf
      have lab93 : ∀ (x2 : Int32) (x3 : Int32) (x4 : Int32) (s : XS) (H : Heap) (locs : List Loc) (ls : Array Slot), p_Model_chosenBy_K93 x2 x3 x4 s = some (r, s') → HW Z (wY Z Q) A s0 H locs s → lv_has ls 6 [(0, .ref (Q 0)), (2, .int x2), (3, .int x3), (4, .int x4)] → W p l e { frames := 2, cells := 0, slots := 0, locals := 45 } s0 m args below meth c H locs 0 0 (MQ below (QcI Z (wY Z Q) A r s') args s0 0 0 A) (F0 m 93 ls []) := by
        intro x2 x3 x4 s H locs ls hf h hl
        unfold p_Model_chosenBy_K93 at hf
        refine lv_iload_n hx hb dX10_chosenBy_93 rfl (lv_at hl 2 rfl) ?_
        refine lv_aload_n hx hb dX10_chosenBy_94 rfl (lv_at hl 0 rfl) ?_
        refine gY_Model_many F h hinX10 (hts (.fieldLink RX10 33 "ElectionHouseModel" "many" "[I") (by decide +kernel)) dX10_chosenBy_95 ?_
        refine lv_iload_n hx hb dX10_chosenBy_98 rfl (lv_at hl 1 rfl) ?_
        obtain ⟨gi1, hf⟩ := og hf
        refine lY_mmany F h gi1 dX10_chosenBy_99 ?_
        refine lv_icmp_ne (tgt := 108) hx hb dX10_chosenBy_100 (by decide) (fun c_2 => ?_) (fun c_2 => ?_)
        · have hf := im c_2 hf
          refine lv_iconst (v := (-1 : Int32)) hx hb dX10_chosenBy_108 (by decide) ?_
          exact retE_I F hr hlk h hf dX10_chosenBy_109
        · have hf := ip c_2 hf
          refine lv_iload hx hb dX10_chosenBy_103 (lv_at hl 3 rfl) ?_
          refine lv_goto (tgt := 109) hx hb dX10_chosenBy_105 (by decide) ?_
          exact retE_I F hr hlk h hf dX10_chosenBy_109
      refine lv_iload hx hb dX10_chosenBy_8 (lv_at hl 5 rfl) ?_
      refine lv_aload_n hx hb dX10_chosenBy_10 rfl (lv_at hl 0 rfl) ?_
      refine gY_Model_citizens F h hinX10 (hts (.fieldLink RX10 98 "ElectionHouseModel" "citizens" "I") (by decide +kernel)) dX10_chosenBy_11 ?_
      refine lv_icmp_ge (tgt := 93) hx hb dX10_chosenBy_14 (by decide) (fun c_3 => ?_) (fun c_3 => ?_)
      · have hf := ip c_3 hf
        exact lab93 x2 x3 x4 s H locs ls hf h (lv_sub hl [0, 2, 3, 4] rfl)
      · have hf := im c_3 hf
        refine lv_iload_n hx hb dX10_chosenBy_17 rfl (lv_at hl 3 rfl) ?_
        refine lv_aload_n hx hb dX10_chosenBy_18 rfl (lv_at hl 0 rfl) ?_
        refine gY_Model_many F h hinX10 (hts (.fieldLink RX10 33 "ElectionHouseModel" "many" "[I") (by decide +kernel)) dX10_chosenBy_19 ?_
        refine lv_iload_n hx hb dX10_chosenBy_22 rfl (lv_at hl 2 rfl) ?_
        obtain ⟨gi4, hf⟩ := og hf
        refine lY_mmany F h gi4 dX10_chosenBy_23 ?_
        refine lv_icmp_ge (tgt := 93) hx hb dX10_chosenBy_24 (by decide) (fun c_5 => ?_) (fun c_5 => ?_)
        · have hf := ip c_5 hf
          exact lab93 x2 x3 x4 s H locs ls hf h (lv_sub hl [0, 2, 3, 4] rfl)
        · have hf := im c_5 hf
          refine lv_aload_n hx hb dX10_chosenBy_27 rfl (lv_at hl 0 rfl) ?_
          refine gY_Model_isThere F h hinX10 (hts (.fieldLink RX10 16 "ElectionHouseModel" "isThere" "[Z") (by decide +kernel)) dX10_chosenBy_28 ?_
          refine lv_iload hx hb dX10_chosenBy_31 (lv_at hl 5 rfl) ?_
          obtain ⟨gi6, hf⟩ := og hf
          refine lY_misThere F h gi6 dX10_chosenBy_33 ?_
          refine lv_if_eq (tgt := 87) hx hb dX10_chosenBy_34 (by decide) (fun c_7 => ?_) (fun c_7 => ?_)
          · have hf := ip c_7 hf
            refine lv_iinc (v := (x5 + (1 : Int32))) (lv' := [(5, .int (x5 + (1 : Int32))), (0, .ref (Q 0)), (1, .int x1), (2, .int x2), (3, .int x3), (4, .int x4)]) hx hb dX10_chosenBy_87 hl (k := 5) rfl (congrArg (fun z => x5 + z) (by decide : Int32.ofInt (1) = (1 : Int32))) (by decide) rfl (fun ls hl => ?_)
            have hl := lv_sub (l' := [(0, .ref (Q 0)), (1, .int x1), (2, .int x2), (3, .int x3), (4, .int x4), (5, .int (x5 + (1 : Int32)))]) hl [1, 2, 3, 4, 5, 0] rfl
            refine lv_goto (tgt := 8) hx hb dX10_chosenBy_90 (by decide) ?_
            exact ih8 x3 x4 (x5 + (1 : Int32)) s H locs ls hf h (lv_sub hl [0, 1, 2, 3, 4, 5] rfl)
          · have hf := im c_7 hf
            refine lv_aload_n hx hb dX10_chosenBy_37 rfl (lv_at hl 0 rfl) ?_
            refine lv_iload_n hx hb dX10_chosenBy_38 rfl (lv_at hl 1 rfl) ?_
            refine lv_aload_n hx hb dX10_chosenBy_39 rfl (lv_at hl 0 rfl) ?_
            refine gY_Model_party F h hinX10 (hts (.fieldLink RX10 13 "ElectionHouseModel" "party" "[I") (by decide +kernel)) dX10_chosenBy_40 ?_
            refine lv_iload hx hb dX10_chosenBy_43 (lv_at hl 5 rfl) ?_
            obtain ⟨gi8, hf⟩ := og hf
            refine lY_mparty F h gi8 dX10_chosenBy_45 ?_
            obtain ⟨r10, hc9, hf⟩ := ob1 hf
            refine call_VI F (c_Model_votesBy l Z Q s x1 (gM s 2 (ix x5)) hc9) (cwV 2 hts gX10_chosenBy_X10_votesBy rfl rfl rfl (by decide +kernel) ⟨Nat.le_of_ble_eq_true rfl, Nat.le_of_ble_eq_true rfl⟩) h (rcY_Model h) rfl hl.1 rfl (Nat.le_of_ble_eq_true rfl) ⟨Nat.zero_le _, Nat.zero_le _⟩ dX10_chosenBy_46 (fun H locs h => ?_)
            refine lv_aload_n hx hb dX10_chosenBy_49 rfl (lv_at hl 0 rfl) ?_
            refine gY_Model_votes F h hinX10 (hts (.fieldLink RX10 36 "ElectionHouseModel" "votes" "[I") (by decide +kernel)) dX10_chosenBy_50 ?_
            refine lv_iload_n hx hb dX10_chosenBy_53 rfl (lv_at hl 2 rfl) ?_
            obtain ⟨gi12, hf⟩ := og hf
            refine lY_mvotes F h gi12 dX10_chosenBy_54 ?_
            refine lv_icmp_ge (tgt := 61) hx hb dX10_chosenBy_55 (by decide) (fun c_13 => ?_) (fun c_13 => ?_)
            · have hf := ip c_13 hf
              refine lv_iload hx hb dX10_chosenBy_61 (lv_at hl 4 rfl) ?_
              refine lv_iconst (v := (1 : Int32)) hx hb dX10_chosenBy_63 (by decide) ?_
              refine lv_bipush (v := (6 : Int32)) hx hb dX10_chosenBy_64 (by decide) ?_
              refine lv_aload_n hx hb dX10_chosenBy_66 rfl (lv_at hl 0 rfl) ?_
              refine gY_Model_party F h hinX10 (hts (.fieldLink RX10 13 "ElectionHouseModel" "party" "[I") (by decide +kernel)) dX10_chosenBy_67 ?_
              refine lv_iload hx hb dX10_chosenBy_70 (lv_at hl 5 rfl) ?_
              obtain ⟨gi14, hf⟩ := og hf
              refine lY_mparty F h gi14 dX10_chosenBy_72 ?_
              refine lv_imul hx hb dX10_chosenBy_73 ?_
              refine lv_ishl hx hb dX10_chosenBy_74 ?_
              refine lv_iadd hx hb dX10_chosenBy_75 ?_
              refine lv_istore (lv' := [(4, .int (x4 + ((1 : Int32) <<< (((6 : Int32) * (gM s 2 (ix x5))) &&& 31)))), (0, .ref (Q 0)), (1, .int x1), (2, .int x2), (3, .int x3), (5, .int x5)]) hx hb dX10_chosenBy_76 hl (by decide) rfl (fun ls hl => ?_)
              have hl := lv_sub (l' := [(0, .ref (Q 0)), (1, .int x1), (2, .int x2), (3, .int x3), (4, .int (x4 + ((1 : Int32) <<< (((6 : Int32) * (gM s 2 (ix x5))) &&& 31)))), (5, .int x5)]) hl [1, 2, 3, 4, 0, 5] rfl
              refine lv_iinc (v := (x3 + (1 : Int32))) (lv' := [(3, .int (x3 + (1 : Int32))), (0, .ref (Q 0)), (1, .int x1), (2, .int x2), (4, .int (x4 + ((1 : Int32) <<< (((6 : Int32) * (gM s 2 (ix x5))) &&& 31)))), (5, .int x5)]) hx hb dX10_chosenBy_78 hl (k := 3) rfl (congrArg (fun z => x3 + z) (by decide : Int32.ofInt (1) = (1 : Int32))) (by decide) rfl (fun ls hl => ?_)
              have hl := lv_sub (l' := [(0, .ref (Q 0)), (1, .int x1), (2, .int x2), (3, .int (x3 + (1 : Int32))), (4, .int (x4 + ((1 : Int32) <<< (((6 : Int32) * (gM s 2 (ix x5))) &&& 31)))), (5, .int x5)]) hl [1, 2, 3, 0, 4, 5] rfl
              refine lv_aload_n hx hb dX10_chosenBy_81 rfl (lv_at hl 0 rfl) ?_
              refine lv_iload hx hb dX10_chosenBy_82 (lv_at hl 5 rfl) ?_
              refine pY_Model_lastChosen F h hinX10 (hts (.fieldLink RX10 233 "ElectionHouseModel" "lastChosen" "I") (by decide +kernel)) dX10_chosenBy_84 (fun H locs h => ?_)
              obtain ⟨s15, es, hf⟩ := olq hf
              rw [← es] at h
              refine lv_iinc (v := (x5 + (1 : Int32))) (lv' := [(5, .int (x5 + (1 : Int32))), (0, .ref (Q 0)), (1, .int x1), (2, .int x2), (3, .int (x3 + (1 : Int32))), (4, .int (x4 + ((1 : Int32) <<< (((6 : Int32) * (gM s 2 (ix x5))) &&& 31))))]) hx hb dX10_chosenBy_87 hl (k := 5) rfl (congrArg (fun z => x5 + z) (by decide : Int32.ofInt (1) = (1 : Int32))) (by decide) rfl (fun ls hl => ?_)
              have hl := lv_sub (l' := [(0, .ref (Q 0)), (1, .int x1), (2, .int x2), (3, .int (x3 + (1 : Int32))), (4, .int (x4 + ((1 : Int32) <<< (((6 : Int32) * (gM s 2 (ix x5))) &&& 31)))), (5, .int (x5 + (1 : Int32)))]) hl [1, 2, 3, 4, 5, 0] rfl
              refine lv_goto (tgt := 8) hx hb dX10_chosenBy_90 (by decide) ?_
              exact ih8 (x3 + (1 : Int32)) (x4 + ((1 : Int32) <<< (((6 : Int32) * (gM s 2 (ix x5))) &&& 31))) (x5 + (1 : Int32)) s15 H locs ls hf h (lv_sub hl [0, 1, 2, 3, 4, 5] rfl)
            · have hf := im c_13 hf
              refine lv_goto (tgt := 87) hx hb dX10_chosenBy_58 (by decide) ?_
              refine lv_iinc (v := (x5 + (1 : Int32))) (lv' := [(5, .int (x5 + (1 : Int32))), (0, .ref (Q 0)), (1, .int x1), (2, .int x2), (3, .int x3), (4, .int x4)]) hx hb dX10_chosenBy_87 hl (k := 5) rfl (congrArg (fun z => x5 + z) (by decide : Int32.ofInt (1) = (1 : Int32))) (by decide) rfl (fun ls hl => ?_)
              have hl := lv_sub (l' := [(0, .ref (Q 0)), (1, .int x1), (2, .int x2), (3, .int x3), (4, .int x4), (5, .int (x5 + (1 : Int32)))]) hl [1, 2, 3, 4, 5, 0] rfl
              refine lv_goto (tgt := 8) hx hb dX10_chosenBy_90 (by decide) ?_
              exact ih8 x3 x4 (x5 + (1 : Int32)) s H locs ls hf h (lv_sub hl [0, 1, 2, 3, 4, 5] rfl)
  refine lv_iconst (v := (0 : Int32)) hx hb dX10_chosenBy_0 (by decide) ?_
  refine lv_istore_n (lv' := [(3, .int (0 : Int32)), (0, .ref (Q 0)), (1, .int x1), (2, .int x2)]) hx hb dX10_chosenBy_1 rfl hl (by decide) rfl (fun ls hl => ?_)
  have hl := lv_sub (l' := [(0, .ref (Q 0)), (1, .int x1), (2, .int x2), (3, .int (0 : Int32))]) hl [1, 2, 3, 0] rfl
  refine lv_iconst (v := (0 : Int32)) hx hb dX10_chosenBy_2 (by decide) ?_
  refine lv_istore (lv' := [(4, .int (0 : Int32)), (0, .ref (Q 0)), (1, .int x1), (2, .int x2), (3, .int (0 : Int32))]) hx hb dX10_chosenBy_3 hl (by decide) rfl (fun ls hl => ?_)
  have hl := lv_sub (l' := [(0, .ref (Q 0)), (1, .int x1), (2, .int x2), (3, .int (0 : Int32)), (4, .int (0 : Int32))]) hl [1, 2, 3, 4, 0] rfl
  refine lv_iconst (v := (0 : Int32)) hx hb dX10_chosenBy_5 (by decide) ?_
  refine lv_istore (lv' := [(5, .int (0 : Int32)), (0, .ref (Q 0)), (1, .int x1), (2, .int x2), (3, .int (0 : Int32)), (4, .int (0 : Int32))]) hx hb dX10_chosenBy_6 hl (by decide) rfl (fun ls hl => ?_)
  have hl := lv_sub (l' := [(0, .ref (Q 0)), (1, .int x1), (2, .int x2), (3, .int (0 : Int32)), (4, .int (0 : Int32)), (5, .int (0 : Int32))]) hl [1, 2, 3, 4, 5, 0] rfl
  exact lab8 x1 x2 fuelN (0 : Int32) (0 : Int32) (0 : Int32) s H locs ls hf h (lv_sub hl [0, 1, 2, 3, 4, 5] rfl)

set_option maxHeartbeats 8000000 in
set_option maxRecDepth 100000 in
theorem c_Model_chances (l : Launch) (Z : ZT) (Q : Nat → Nat) (s : XS) {r : Int32} {s' : XS} (hf : p_Model_chances s = some (r, s')) : KI l Z (wY Z Q) yX10_chances wsX10_chances { frames := 3, cells := 0, slots := 0, locals := 70 } [.ref (Q 0)] s r s' := by
  intro sz
  refine met_entry (cc := cX10_chances) (maxL := 9) (ret := (some .int)) (by decide) rfl (Nat.le_of_ble_eq_true rfl) sz rfl ?_
  generalize va_A (wY Z Q s) sz = A
  intro p e s0 m args below meth c ls F hr hlk h hl
  have hl : lv_has ls 9 [(0, .ref (Q 0))] := hl
  obtain ⟨hx, hb, hml, hown, hts⟩ := id F
  have hinX10 : ∀ w ∈ wsX100, w ∈ wsX10_chances := by decide +kernel
  obtain ⟨H, eH⟩ : ∃ z, z = s0.heap := ⟨_, rfl⟩
  obtain ⟨locs, eL⟩ : ∃ z : List Loc, z = [] := ⟨_, rfl⟩
  rw [← eH, ← eL] at h ⊢
  unfold p_Model_chances at hf
  have lab41 : ∀ (n : Nat) (x1 : Int32) (s : XS) (H : Heap) (locs : List Loc) (ls : Array Slot), lo2 (p_Model_chances_B41) n x1 s = some (r, s') → HW Z (wY Z Q) A s0 H locs s → lv_has ls 9 [(0, .ref (Q 0)), (1, .int x1)] → W p l e { frames := 3, cells := 0, slots := 0, locals := 70 } s0 m args below meth c H locs 0 0 (MQ below (QcI Z (wY Z Q) A r s') args s0 0 0 A) (F0 m 41 ls []) := by
    intro n
    induction n with
    | zero => intro x1 s H locs ls hf; exact absurd hf lo2_z
    | succ n ih41 =>
      intro x1 s H locs ls hf h hl
      have hf := lo2_s hf
      generalize lo2 (p_Model_chances_B41) n = c41 at hf ih41
      unfold p_Model_chances_B41 at hf
      have lab100 : ∀ (n : Nat) (x1 : Int32) (s : XS) (H : Heap) (locs : List Loc) (ls : Array Slot), lo2 (p_Model_chances_B100) n x1 s = some (r, s') → HW Z (wY Z Q) A s0 H locs s → lv_has ls 9 [(0, .ref (Q 0)), (1, .int x1)] → W p l e { frames := 3, cells := 0, slots := 0, locals := 70 } s0 m args below meth c H locs 0 0 (MQ below (QcI Z (wY Z Q) A r s') args s0 0 0 A) (F0 m 100 ls []) := by
        intro n
        induction n with
        | zero => intro x1 s H locs ls hf; exact absurd hf lo2_z
        | succ n ih100 =>
          intro x1 s H locs ls hf h hl
          have hf := lo2_s hf
          generalize lo2 (p_Model_chances_B100) n = c100 at hf ih100
          unfold p_Model_chances_B100 at hf
          have lab126 : ∀ (n : Nat) (x1 : Int64) (x3 : Int32) (s : XS) (H : Heap) (locs : List Loc) (ls : Array Slot), lo3 (p_Model_chances_B126) n x1 x3 s = some (r, s') → HW Z (wY Z Q) A s0 H locs s → lv_has ls 9 [(0, .ref (Q 0)), (1, .long x1), (3, .int x3)] → W p l e { frames := 3, cells := 0, slots := 0, locals := 70 } s0 m args below meth c H locs 0 0 (MQ below (QcI Z (wY Z Q) A r s') args s0 0 0 A) (F0 m 126 ls []) := by
            intro n
            induction n with
            | zero => intro x1 x3 s H locs ls hf; exact absurd hf lo3_z
            | succ n ih126 =>
              intro x1 x3 s H locs ls hf h hl
              have hf := lo3_s hf
              generalize lo3 (p_Model_chances_B126) n = c126 at hf ih126
              unfold p_Model_chances_B126 at hf
              have lab489 : ∀ (x1 : Int64) (n : Nat) (x3 : Int32) (s : XS) (H : Heap) (locs : List Loc) (ls : Array Slot), lo2 (p_Model_chances_B489 x1) n x3 s = some (r, s') → HW Z (wY Z Q) A s0 H locs s → lv_has ls 9 [(0, .ref (Q 0)), (1, .long x1), (3, .int x3)] → W p l e { frames := 3, cells := 0, slots := 0, locals := 70 } s0 m args below meth c H locs 0 0 (MQ below (QcI Z (wY Z Q) A r s') args s0 0 0 A) (F0 m 489 ls []) := by
                intro x1 n
                induction n with
                | zero => intro x3 s H locs ls hf; exact absurd hf lo2_z
                | succ n ih489 =>
                  intro x3 s H locs ls hf h hl
                  have hf := lo2_s hf
                  generalize lo2 (p_Model_chances_B489 x1) n = c489 at hf ih489
                  unfold p_Model_chances_B489 at hf
                  refine lv_iload_n hx hb dX10_chances_489 rfl (lv_at hl 2 rfl) ?_
                  refine lv_bipush (v := (40 : Int32)) hx hb dX10_chances_490 (by decide) ?_
                  refine lv_icmp_ge (tgt := 513) hx hb dX10_chances_492 (by decide) (fun c_1 => ?_) (fun c_1 => ?_)
                  · have hf := ip c_1 hf
                    refine lv_aload_n hx hb dX10_chances_513 rfl (lv_at hl 0 rfl) ?_
                    refine gY_Model_told F h hinX10 (hts (.fieldLink RX10 92 "ElectionHouseModel" "told" "[J") (by decide +kernel)) dX10_chances_514 ?_
                    refine lv_bipush (v := (40 : Int32)) hx hb dX10_chances_517 (by decide) ?_
                    refine lv_aload_n hx hb dX10_chances_519 rfl (lv_at hl 0 rfl) ?_
                    refine gY_Model_none F h hinX10 (hts (.fieldLink RX10 239 "ElectionHouseModel" "none" "J") (by decide +kernel)) dX10_chances_520 ?_
                    obtain ⟨gi2, hf⟩ := og hf
                    refine sY_mtold F h gi2 dX10_chances_523 (fun H locs h => ?_)
                    obtain ⟨s3, es, hf⟩ := olq hf
                    rw [← es] at h
                    refine lv_aload_n hx hb dX10_chances_524 rfl (lv_at hl 0 rfl) ?_
                    refine gY_Model_told F h hinX10 (hts (.fieldLink RX10 92 "ElectionHouseModel" "told" "[J") (by decide +kernel)) dX10_chances_525 ?_
                    refine lv_bipush (v := (41 : Int32)) hx hb dX10_chances_528 (by decide) ?_
                    refine lv_lload_n hx hb dX10_chances_530 rfl (lv_at hl 1 rfl) ?_
                    obtain ⟨gi4, hf⟩ := og hf
                    refine sY_mtold F h gi4 dX10_chances_531 (fun H locs h => ?_)
                    obtain ⟨s5, es, hf⟩ := olq hf
                    rw [← es] at h
                    refine lv_iconst (v := (0 : Int32)) hx hb dX10_chances_532 (by decide) ?_
                    exact retE_I F hr hlk h hf dX10_chances_533
                  · have hf := im c_1 hf
                    refine lv_aload_n hx hb dX10_chances_495 rfl (lv_at hl 0 rfl) ?_
                    refine gY_Model_told F h hinX10 (hts (.fieldLink RX10 92 "ElectionHouseModel" "told" "[J") (by decide +kernel)) dX10_chances_496 ?_
                    refine lv_iload_n hx hb dX10_chances_499 rfl (lv_at hl 2 rfl) ?_
                    refine lv_aload_n hx hb dX10_chances_500 rfl (lv_at hl 0 rfl) ?_
                    refine gY_Model_electedBy F h hinX10 (hts (.fieldLink RX10 95 "ElectionHouseModel" "electedBy" "[J") (by decide +kernel)) dX10_chances_501 ?_
                    refine lv_iload_n hx hb dX10_chances_504 rfl (lv_at hl 2 rfl) ?_
                    obtain ⟨gi6, hf⟩ := og hf
                    refine lY_melectedBy F h gi6 dX10_chances_505 ?_
                    obtain ⟨gi7, hf⟩ := og hf
                    refine sY_mtold F h gi7 dX10_chances_506 (fun H locs h => ?_)
                    obtain ⟨s8, es, hf⟩ := olq hf
                    rw [← es] at h
                    refine lv_iinc (v := (x3 + (1 : Int32))) (lv' := [(3, .int (x3 + (1 : Int32))), (0, .ref (Q 0)), (1, .long x1)]) hx hb dX10_chances_507 hl (k := 2) rfl (congrArg (fun z => x3 + z) (by decide : Int32.ofInt (1) = (1 : Int32))) (by decide) rfl (fun ls hl => ?_)
                    have hl := lv_sub (l' := [(0, .ref (Q 0)), (1, .long x1), (3, .int (x3 + (1 : Int32)))]) hl [1, 2, 0] rfl
                    refine lv_goto (tgt := 489) hx hb dX10_chances_510 (by decide) ?_
                    exact ih489 (x3 + (1 : Int32)) s8 H locs ls hf h (lv_sub hl [0, 1, 2] rfl)
              have lab162 : ∀ (x1 : Int64) (x3 : Int32) (t0 : Int32) (s : XS) (H : Heap) (locs : List Loc) (ls : Array Slot), p_Model_chances_K162 c126 x1 x3 t0 s = some (r, s') → HW Z (wY Z Q) A s0 H locs s → lv_has ls 9 [(0, .ref (Q 0)), (1, .long x1), (3, .int x3)] → W p l e { frames := 3, cells := 0, slots := 0, locals := 70 } s0 m args below meth c H locs 0 0 (MQ below (QcI Z (wY Z Q) A r s') args s0 0 0 A) (F0 m 162 ls [.int t0]) := by
                intro x1 x3 t0 s H locs ls hf h hl
                unfold p_Model_chances_K162 at hf
                have lab199 : ∀ (x1 : Int64) (x3 : Int32) (t0 : Int64) (s : XS) (H : Heap) (locs : List Loc) (ls : Array Slot), p_Model_chances_K199 c126 x1 x3 t0 s = some (r, s') → HW Z (wY Z Q) A s0 H locs s → lv_has ls 9 [(0, .ref (Q 0)), (1, .long x1), (3, .int x3)] → W p l e { frames := 3, cells := 0, slots := 0, locals := 70 } s0 m args below meth c H locs 0 0 (MQ below (QcI Z (wY Z Q) A r s') args s0 0 0 A) (F0 m 199 ls [.long t0]) := by
                  intro x1 x3 t0 s H locs ls hf h hl
                  unfold p_Model_chances_K199 at hf
                  have lab240 : ∀ (x1 : Int64) (x3 : Int32) (n : Nat) (x7 : Int32) (s : XS) (H : Heap) (locs : List Loc) (ls : Array Slot), lo2 (p_Model_chances_B240 x1 x3 c126) n x7 s = some (r, s') → HW Z (wY Z Q) A s0 H locs s → lv_has ls 9 [(0, .ref (Q 0)), (1, .long x1), (3, .int x3), (7, .int x7)] → W p l e { frames := 3, cells := 0, slots := 0, locals := 70 } s0 m args below meth c H locs 0 0 (MQ below (QcI Z (wY Z Q) A r s') args s0 0 0 A) (F0 m 240 ls []) := by
                    intro x1 x3 n
                    induction n with
                    | zero => intro x7 s H locs ls hf; exact absurd hf lo2_z
                    | succ n ih240 =>
                      intro x7 s H locs ls hf h hl
                      have hf := lo2_s hf
                      generalize lo2 (p_Model_chances_B240 x1 x3 c126) n = c240 at hf ih240
                      unfold p_Model_chances_B240 at hf
                      have lab433 : ∀ (x1 : Int64) (x3 : Int32) (n : Nat) (x7 : Int32) (s : XS) (H : Heap) (locs : List Loc) (ls : Array Slot), lo2 (p_Model_chances_B433 x1 x3 c126) n x7 s = some (r, s') → HW Z (wY Z Q) A s0 H locs s → lv_has ls 9 [(0, .ref (Q 0)), (1, .long x1), (3, .int x3), (7, .int x7)] → W p l e { frames := 3, cells := 0, slots := 0, locals := 70 } s0 m args below meth c H locs 0 0 (MQ below (QcI Z (wY Z Q) A r s') args s0 0 0 A) (F0 m 433 ls []) := by
                        intro x1 x3 n
                        induction n with
                        | zero => intro x7 s H locs ls hf; exact absurd hf lo2_z
                        | succ n ih433 =>
                          intro x7 s H locs ls hf h hl
                          have hf := lo2_s hf
                          generalize lo2 (p_Model_chances_B433 x1 x3 c126) n = c433 at hf ih433
                          unfold p_Model_chances_B433 at hf
                          refine lv_iload hx hb dX10_chances_433 (lv_at hl 3 rfl) ?_
                          refine lv_aload_n hx hb dX10_chances_435 rfl (lv_at hl 0 rfl) ?_
                          refine gY_Model_rows F h hinX10 (hts (.fieldLink RX10 236 "ElectionHouseModel" "rows" "I") (by decide +kernel)) dX10_chances_436 ?_
                          refine lv_icmp_ge (tgt := 476) hx hb dX10_chances_439 (by decide) (fun c_9 => ?_) (fun c_9 => ?_)
                          · have hf := ip c_9 hf
                            refine lv_iinc (v := (x3 + (1 : Int32))) (lv' := [(3, .int (x3 + (1 : Int32))), (0, .ref (Q 0)), (1, .long x1), (7, .int x7)]) hx hb dX10_chances_476 hl (k := 2) rfl (congrArg (fun z => x3 + z) (by decide : Int32.ofInt (1) = (1 : Int32))) (by decide) rfl (fun ls hl => ?_)
                            have hl := lv_sub (l' := [(0, .ref (Q 0)), (1, .long x1), (3, .int (x3 + (1 : Int32))), (7, .int x7)]) hl [1, 2, 0, 3] rfl
                            refine lv_goto (tgt := 126) hx hb dX10_chances_479 (by decide) ?_
                            exact ih126 x1 (x3 + (1 : Int32)) s H locs ls hf h (lv_sub hl [0, 1, 2] rfl)
                          · have hf := im c_9 hf
                            refine lv_aload_n hx hb dX10_chances_442 rfl (lv_at hl 0 rfl) ?_
                            refine gY_Model_key F h hinX10 (hts (.fieldLink RX10 79 "ElectionHouseModel" "key" "[I") (by decide +kernel)) dX10_chances_443 ?_
                            refine lv_iload hx hb dX10_chances_446 (lv_at hl 3 rfl) ?_
                            refine lv_aload_n hx hb dX10_chances_448 rfl (lv_at hl 0 rfl) ?_
                            refine gY_Model_nextKey F h hinX10 (hts (.fieldLink RX10 86 "ElectionHouseModel" "nextKey" "[I") (by decide +kernel)) dX10_chances_449 ?_
                            refine lv_iload hx hb dX10_chances_452 (lv_at hl 3 rfl) ?_
                            obtain ⟨gi10, hf⟩ := og hf
                            refine lY_mnextKey F h gi10 dX10_chances_454 ?_
                            obtain ⟨gi11, hf⟩ := og hf
                            refine sY_mkey F h gi11 dX10_chances_455 (fun H locs h => ?_)
                            obtain ⟨s12, es, hf⟩ := olq hf
                            rw [← es] at h
                            refine lv_aload_n hx hb dX10_chances_456 rfl (lv_at hl 0 rfl) ?_
                            refine gY_Model_way F h hinX10 (hts (.fieldLink RX10 82 "ElectionHouseModel" "way" "[J") (by decide +kernel)) dX10_chances_457 ?_
                            refine lv_iload hx hb dX10_chances_460 (lv_at hl 3 rfl) ?_
                            refine lv_aload_n hx hb dX10_chances_462 rfl (lv_at hl 0 rfl) ?_
                            refine gY_Model_nextWay F h hinX10 (hts (.fieldLink RX10 89 "ElectionHouseModel" "nextWay" "[J") (by decide +kernel)) dX10_chances_463 ?_
                            refine lv_iload hx hb dX10_chances_466 (lv_at hl 3 rfl) ?_
                            obtain ⟨gi13, hf⟩ := og hf
                            refine lY_mnextWay F h gi13 dX10_chances_468 ?_
                            obtain ⟨gi14, hf⟩ := og hf
                            refine sY_mway F h gi14 dX10_chances_469 (fun H locs h => ?_)
                            obtain ⟨s15, es, hf⟩ := olq hf
                            rw [← es] at h
                            refine lv_iinc (v := (x7 + (1 : Int32))) (lv' := [(7, .int (x7 + (1 : Int32))), (0, .ref (Q 0)), (1, .long x1), (3, .int x3)]) hx hb dX10_chances_470 hl (k := 3) rfl (congrArg (fun z => x7 + z) (by decide : Int32.ofInt (1) = (1 : Int32))) (by decide) rfl (fun ls hl => ?_)
                            have hl := lv_sub (l' := [(0, .ref (Q 0)), (1, .long x1), (3, .int x3), (7, .int (x7 + (1 : Int32)))]) hl [1, 2, 3, 0] rfl
                            refine lv_goto (tgt := 433) hx hb dX10_chances_473 (by decide) ?_
                            exact ih433 (x7 + (1 : Int32)) s15 H locs ls hf h (lv_sub hl [0, 1, 2, 3] rfl)
                      refine lv_iload hx hb dX10_chances_240 (lv_at hl 3 rfl) ?_
                      refine lv_aload_n hx hb dX10_chances_242 rfl (lv_at hl 0 rfl) ?_
                      refine gY_Model_rows F h hinX10 (hts (.fieldLink RX10 236 "ElectionHouseModel" "rows" "I") (by decide +kernel)) dX10_chances_243 ?_
                      refine lv_icmp_ge (tgt := 422) hx hb dX10_chances_246 (by decide) (fun c_16 => ?_) (fun c_16 => ?_)
                      · have hf := ip c_16 hf
                        refine lv_aload_n hx hb dX10_chances_422 rfl (lv_at hl 0 rfl) ?_
                        refine lv_aload_n hx hb dX10_chances_423 rfl (lv_at hl 0 rfl) ?_
                        refine gY_Model_nextRows F h hinX10 (hts (.fieldLink RX10 215 "ElectionHouseModel" "nextRows" "I") (by decide +kernel)) dX10_chances_424 ?_
                        refine pY_Model_rows F h hinX10 (hts (.fieldLink RX10 236 "ElectionHouseModel" "rows" "I") (by decide +kernel)) dX10_chances_427 (fun H locs h => ?_)
                        obtain ⟨s17, es, hf⟩ := olq hf
                        rw [← es] at h
                        refine lv_iconst (v := (0 : Int32)) hx hb dX10_chances_430 (by decide) ?_
                        refine lv_istore (lv' := [(7, .int (0 : Int32)), (0, .ref (Q 0)), (1, .long x1), (3, .int x3)]) hx hb dX10_chances_431 hl (by decide) rfl (fun ls hl => ?_)
                        have hl := lv_sub (l' := [(0, .ref (Q 0)), (1, .long x1), (3, .int x3), (7, .int (0 : Int32))]) hl [1, 2, 3, 0] rfl
                        exact lab433 x1 x3 fuelN (0 : Int32) s17 H locs ls hf h (lv_sub hl [0, 1, 2, 3] rfl)
                      · have hf := im c_16 hf
                        refine lv_aload_n hx hb dX10_chances_249 rfl (lv_at hl 0 rfl) ?_
                        refine gY_Model_kind F h hinX10 (hts (.fieldLink RX10 30 "ElectionHouseModel" "kind" "[I") (by decide +kernel)) dX10_chances_250 ?_
                        refine lv_iload_n hx hb dX10_chances_253 rfl (lv_at hl 2 rfl) ?_
                        obtain ⟨gi18, hf⟩ := og hf
                        refine lY_mkind F h gi18 dX10_chances_254 ?_
                        refine lv_if_ne (tgt := 326) hx hb dX10_chances_255 (by decide) (fun c_19 => ?_) (fun c_19 => ?_)
                        · have hf := im c_19 hf
                          refine lv_aload_n hx hb dX10_chances_326 rfl (lv_at hl 0 rfl) ?_
                          refine lv_aload_n hx hb dX10_chances_327 rfl (lv_at hl 0 rfl) ?_
                          refine gY_Model_key F h hinX10 (hts (.fieldLink RX10 79 "ElectionHouseModel" "key" "[I") (by decide +kernel)) dX10_chances_328 ?_
                          refine lv_iload hx hb dX10_chances_331 (lv_at hl 3 rfl) ?_
                          obtain ⟨gi20, hf⟩ := og hf
                          refine lY_mkey F h gi20 dX10_chances_333 ?_
                          refine lv_iload_n hx hb dX10_chances_334 rfl (lv_at hl 2 rfl) ?_
                          obtain ⟨r22, s23, hc21, hf⟩ := ob2 hf
                          refine call_VI F (c_Model_chosenBy l Z Q s (gM s 21 (ix x7)) x3 hc21) (cwV 2 hts gX10_chances_X10_chosenBy rfl rfl rfl (by decide +kernel) ⟨Nat.le_of_ble_eq_true rfl, Nat.le_of_ble_eq_true rfl⟩) h (rcY_Model h) rfl hl.1 rfl (Nat.le_of_ble_eq_true rfl) ⟨Nat.zero_le _, Nat.zero_le _⟩ dX10_chances_335 (fun H locs h => ?_)
                          refine lv_istore (lv' := [(8, .int r22), (0, .ref (Q 0)), (1, .long x1), (3, .int x3), (7, .int x7)]) hx hb dX10_chances_338 hl (by decide) rfl (fun ls hl => ?_)
                          have hl := lv_sub (l' := [(0, .ref (Q 0)), (1, .long x1), (3, .int x3), (7, .int x7), (8, .int r22)]) hl [1, 2, 3, 4, 0] rfl
                          refine lv_iload hx hb dX10_chances_340 (lv_at hl 4 rfl) ?_
                          refine lv_iconst (v := (-1 : Int32)) hx hb dX10_chances_342 (by decide) ?_
                          refine lv_icmp_ne (tgt := 365) hx hb dX10_chances_343 (by decide) (fun c_24 => ?_) (fun c_24 => ?_)
                          · have hf := im c_24 hf
                            refine lv_aload_n hx hb dX10_chances_365 rfl (lv_at hl 0 rfl) ?_
                            refine gY_Model_kind F h hinX10 (hts (.fieldLink RX10 30 "ElectionHouseModel" "kind" "[I") (by decide +kernel)) dX10_chances_366 ?_
                            refine lv_iload_n hx hb dX10_chances_369 rfl (lv_at hl 2 rfl) ?_
                            obtain ⟨gi25, hf⟩ := og hf
                            refine lY_mkind F h gi25 dX10_chances_370 ?_
                            refine lv_iconst (v := (2 : Int32)) hx hb dX10_chances_371 (by decide) ?_
                            refine lv_icmp_ne (tgt := 397) hx hb dX10_chances_372 (by decide) (fun c_26 => ?_) (fun c_26 => ?_)
                            · have hf := im c_26 hf
                              refine lv_aload_n hx hb dX10_chances_397 rfl (lv_at hl 0 rfl) ?_
                              refine lv_iload hx hb dX10_chances_398 (lv_at hl 4 rfl) ?_
                              refine lv_aload_n hx hb dX10_chances_400 rfl (lv_at hl 0 rfl) ?_
                              refine gY_Model_way F h hinX10 (hts (.fieldLink RX10 82 "ElectionHouseModel" "way" "[J") (by decide +kernel)) dX10_chances_401 ?_
                              refine lv_iload hx hb dX10_chances_404 (lv_at hl 3 rfl) ?_
                              obtain ⟨gi27, hf⟩ := og hf
                              refine lY_mway F h gi27 dX10_chances_406 ?_
                              obtain ⟨r29, s30, hc28, hf⟩ := ob2 hf
                              refine call_VI F (c_Model_comes l Z Q s23 r22 (gJ s23 22 (ix x7)) hc28) (cwV 2 hts gX10_chances_X10_comes rfl rfl rfl (by decide +kernel) ⟨Nat.le_of_ble_eq_true rfl, Nat.le_of_ble_eq_true rfl⟩) h (rcY_Model h) rfl hl.1 rfl (Nat.le_of_ble_eq_true rfl) ⟨Nat.zero_le _, Nat.zero_le _⟩ dX10_chances_407 (fun H locs h => ?_)
                              refine lv_if_ne (tgt := 416) hx hb dX10_chances_410 (by decide) (fun c_31 => ?_) (fun c_31 => ?_)
                              · have hf := im c_31 hf
                                refine lv_iinc (v := (x7 + (1 : Int32))) (lv' := [(7, .int (x7 + (1 : Int32))), (0, .ref (Q 0)), (1, .long x1), (3, .int x3), (8, .int r22)]) hx hb dX10_chances_416 hl (k := 3) rfl (congrArg (fun z => x7 + z) (by decide : Int32.ofInt (1) = (1 : Int32))) (by decide) rfl (fun ls hl => ?_)
                                have hl := lv_sub (l' := [(0, .ref (Q 0)), (1, .long x1), (3, .int x3), (7, .int (x7 + (1 : Int32))), (8, .int r22)]) hl [1, 2, 3, 0, 4] rfl
                                refine lv_goto (tgt := 240) hx hb dX10_chances_419 (by decide) ?_
                                exact ih240 (x7 + (1 : Int32)) s30 H locs ls hf h (lv_sub hl [0, 1, 2, 3] rfl)
                              · have hf := ip c_31 hf
                                refine lv_bipush (v := (-2 : Int32)) hx hb dX10_chances_413 (by decide) ?_
                                exact retE_I F hr hlk h hf dX10_chances_415
                            · have hf := ip c_26 hf
                              refine lv_aload_n hx hb dX10_chances_375 rfl (lv_at hl 0 rfl) ?_
                              refine gY_Model_electedBy F h hinX10 (hts (.fieldLink RX10 95 "ElectionHouseModel" "electedBy" "[J") (by decide +kernel)) dX10_chances_376 ?_
                              refine lv_aload_n hx hb dX10_chances_379 rfl (lv_at hl 0 rfl) ?_
                              refine gY_Model_lastChosen F h hinX10 (hts (.fieldLink RX10 233 "ElectionHouseModel" "lastChosen" "I") (by decide +kernel)) dX10_chances_380 ?_
                              refine lv_dup2_11 hx hb dX10_chances_383 rfl rfl ?_
                              obtain ⟨gi32, hf⟩ := og hf
                              refine lY_melectedBy F h gi32 dX10_chances_384 ?_
                              refine lv_aload_n hx hb dX10_chances_385 rfl (lv_at hl 0 rfl) ?_
                              refine gY_Model_way F h hinX10 (hts (.fieldLink RX10 82 "ElectionHouseModel" "way" "[J") (by decide +kernel)) dX10_chances_386 ?_
                              refine lv_iload hx hb dX10_chances_389 (lv_at hl 3 rfl) ?_
                              obtain ⟨gi33, hf⟩ := og hf
                              refine lY_mway F h gi33 dX10_chances_391 ?_
                              refine lv_ladd hx hb dX10_chances_392 ?_
                              obtain ⟨gi34, hf⟩ := og hf
                              refine sY_melectedBy F h gi34 dX10_chances_393 (fun H locs h => ?_)
                              obtain ⟨s35, es, hf⟩ := olq hf
                              rw [← es] at h
                              refine lv_goto (tgt := 416) hx hb dX10_chances_394 (by decide) ?_
                              refine lv_iinc (v := (x7 + (1 : Int32))) (lv' := [(7, .int (x7 + (1 : Int32))), (0, .ref (Q 0)), (1, .long x1), (3, .int x3), (8, .int r22)]) hx hb dX10_chances_416 hl (k := 3) rfl (congrArg (fun z => x7 + z) (by decide : Int32.ofInt (1) = (1 : Int32))) (by decide) rfl (fun ls hl => ?_)
                              have hl := lv_sub (l' := [(0, .ref (Q 0)), (1, .long x1), (3, .int x3), (7, .int (x7 + (1 : Int32))), (8, .int r22)]) hl [1, 2, 3, 0, 4] rfl
                              refine lv_goto (tgt := 240) hx hb dX10_chances_419 (by decide) ?_
                              exact ih240 (x7 + (1 : Int32)) s35 H locs ls hf h (lv_sub hl [0, 1, 2, 3] rfl)
                          · have hf := ip c_24 hf
                            refine lv_aload_n hx hb dX10_chances_346 rfl (lv_at hl 0 rfl) ?_
                            refine lv_dup hx hb dX10_chances_347 rfl ?_
                            refine gY_Model_none F h hinX10 (hts (.fieldLink RX10 239 "ElectionHouseModel" "none" "J") (by decide +kernel)) dX10_chances_348 ?_
                            refine lv_aload_n hx hb dX10_chances_351 rfl (lv_at hl 0 rfl) ?_
                            refine gY_Model_way F h hinX10 (hts (.fieldLink RX10 82 "ElectionHouseModel" "way" "[J") (by decide +kernel)) dX10_chances_352 ?_
                            refine lv_iload hx hb dX10_chances_355 (lv_at hl 3 rfl) ?_
                            obtain ⟨gi36, hf⟩ := og hf
                            refine lY_mway F h gi36 dX10_chances_357 ?_
                            refine lv_ladd hx hb dX10_chances_358 ?_
                            refine pY_Model_none F h hinX10 (hts (.fieldLink RX10 239 "ElectionHouseModel" "none" "J") (by decide +kernel)) dX10_chances_359 (fun H locs h => ?_)
                            obtain ⟨s37, es, hf⟩ := olq hf
                            rw [← es] at h
                            refine lv_goto (tgt := 416) hx hb dX10_chances_362 (by decide) ?_
                            refine lv_iinc (v := (x7 + (1 : Int32))) (lv' := [(7, .int (x7 + (1 : Int32))), (0, .ref (Q 0)), (1, .long x1), (3, .int x3), (8, .int r22)]) hx hb dX10_chances_416 hl (k := 3) rfl (congrArg (fun z => x7 + z) (by decide : Int32.ofInt (1) = (1 : Int32))) (by decide) rfl (fun ls hl => ?_)
                            have hl := lv_sub (l' := [(0, .ref (Q 0)), (1, .long x1), (3, .int x3), (7, .int (x7 + (1 : Int32))), (8, .int r22)]) hl [1, 2, 3, 0, 4] rfl
                            refine lv_goto (tgt := 240) hx hb dX10_chances_419 (by decide) ?_
                            exact ih240 (x7 + (1 : Int32)) s37 H locs ls hf h (lv_sub hl [0, 1, 2, 3] rfl)
                        · have hf := ip c_19 hf
                          refine lv_aload_n hx hb dX10_chances_258 rfl (lv_at hl 0 rfl) ?_
                          refine gY_Model_key F h hinX10 (hts (.fieldLink RX10 79 "ElectionHouseModel" "key" "[I") (by decide +kernel)) dX10_chances_259 ?_
                          refine lv_iload hx hb dX10_chances_262 (lv_at hl 3 rfl) ?_
                          obtain ⟨gi38, hf⟩ := og hf
                          refine lY_mkey F h gi38 dX10_chances_264 ?_
                          obtain ⟨r40, hc39, hf⟩ := ob1 hf
                          refine call_SI F (c_Model_sizeOf l Z (wY Z Q) s (gM s 21 (ix x7)) hc39) (va_cwS 1 hts gX10_chances_X10_sizeOf rfl rfl rfl (by decide +kernel) ⟨Nat.le_of_ble_eq_true rfl, Nat.le_of_ble_eq_true rfl⟩) h rfl hl.1 rfl (Nat.le_of_ble_eq_true rfl) ⟨Nat.zero_le _, Nat.zero_le _⟩ dX10_chances_265 (fun H locs h => ?_)
                          refine lv_aload_n hx hb dX10_chances_268 rfl (lv_at hl 0 rfl) ?_
                          refine gY_Model_many F h hinX10 (hts (.fieldLink RX10 33 "ElectionHouseModel" "many" "[I") (by decide +kernel)) dX10_chances_269 ?_
                          refine lv_iload_n hx hb dX10_chances_272 rfl (lv_at hl 2 rfl) ?_
                          obtain ⟨gi42, hf⟩ := og hf
                          refine lY_mmany F h gi42 dX10_chances_273 ?_
                          refine lv_icmp_ge (tgt := 296) hx hb dX10_chances_274 (by decide) (fun c_43 => ?_) (fun c_43 => ?_)
                          · have hf := ip c_43 hf
                            refine lv_aload_n hx hb dX10_chances_296 rfl (lv_at hl 0 rfl) ?_
                            refine lv_aload_n hx hb dX10_chances_297 rfl (lv_at hl 0 rfl) ?_
                            refine gY_Model_key F h hinX10 (hts (.fieldLink RX10 79 "ElectionHouseModel" "key" "[I") (by decide +kernel)) dX10_chances_298 ?_
                            refine lv_iload hx hb dX10_chances_301 (lv_at hl 3 rfl) ?_
                            obtain ⟨gi44, hf⟩ := og hf
                            refine lY_mkey F h gi44 dX10_chances_303 ?_
                            refine lv_aload_n hx hb dX10_chances_304 rfl (lv_at hl 0 rfl) ?_
                            refine gY_Model_way F h hinX10 (hts (.fieldLink RX10 82 "ElectionHouseModel" "way" "[J") (by decide +kernel)) dX10_chances_305 ?_
                            refine lv_iload hx hb dX10_chances_308 (lv_at hl 3 rfl) ?_
                            obtain ⟨gi45, hf⟩ := og hf
                            refine lY_mway F h gi45 dX10_chances_310 ?_
                            refine lv_aload_n hx hb dX10_chances_311 rfl (lv_at hl 0 rfl) ?_
                            refine gY_Model_many F h hinX10 (hts (.fieldLink RX10 33 "ElectionHouseModel" "many" "[I") (by decide +kernel)) dX10_chances_312 ?_
                            refine lv_iload_n hx hb dX10_chances_315 rfl (lv_at hl 2 rfl) ?_
                            obtain ⟨gi46, hf⟩ := og hf
                            refine lY_mmany F h gi46 dX10_chances_316 ?_
                            obtain ⟨r48, s49, hc47, hf⟩ := ob2 hf
                            refine call_VI F (c_Model_drawn l Z Q s (gM s 21 (ix x7)) (gJ s 22 (ix x7)) (gM s 8 (ix x3)) hc47) (cwV 3 hts gX10_chances_X10_drawn rfl rfl rfl (by decide +kernel) ⟨Nat.le_of_ble_eq_true rfl, Nat.le_of_ble_eq_true rfl⟩) h (rcY_Model h) rfl hl.1 rfl (Nat.le_of_ble_eq_true rfl) ⟨Nat.zero_le _, Nat.zero_le _⟩ dX10_chances_317 (fun H locs h => ?_)
                            refine lv_if_ne (tgt := 416) hx hb dX10_chances_320 (by decide) (fun c_50 => ?_) (fun c_50 => ?_)
                            · have hf := im c_50 hf
                              refine lv_iinc (v := (x7 + (1 : Int32))) (lv' := [(7, .int (x7 + (1 : Int32))), (0, .ref (Q 0)), (1, .long x1), (3, .int x3)]) hx hb dX10_chances_416 hl (k := 3) rfl (congrArg (fun z => x7 + z) (by decide : Int32.ofInt (1) = (1 : Int32))) (by decide) rfl (fun ls hl => ?_)
                              have hl := lv_sub (l' := [(0, .ref (Q 0)), (1, .long x1), (3, .int x3), (7, .int (x7 + (1 : Int32)))]) hl [1, 2, 3, 0] rfl
                              refine lv_goto (tgt := 240) hx hb dX10_chances_419 (by decide) ?_
                              exact ih240 (x7 + (1 : Int32)) s49 H locs ls hf h (lv_sub hl [0, 1, 2, 3] rfl)
                            · have hf := ip c_50 hf
                              refine lv_bipush (v := (-2 : Int32)) hx hb dX10_chances_323 (by decide) ?_
                              exact retE_I F hr hlk h hf dX10_chances_325
                          · have hf := im c_43 hf
                            refine lv_aload_n hx hb dX10_chances_277 rfl (lv_at hl 0 rfl) ?_
                            refine lv_dup hx hb dX10_chances_278 rfl ?_
                            refine gY_Model_none F h hinX10 (hts (.fieldLink RX10 239 "ElectionHouseModel" "none" "J") (by decide +kernel)) dX10_chances_279 ?_
                            refine lv_aload_n hx hb dX10_chances_282 rfl (lv_at hl 0 rfl) ?_
                            refine gY_Model_way F h hinX10 (hts (.fieldLink RX10 82 "ElectionHouseModel" "way" "[J") (by decide +kernel)) dX10_chances_283 ?_
                            refine lv_iload hx hb dX10_chances_286 (lv_at hl 3 rfl) ?_
                            obtain ⟨gi51, hf⟩ := og hf
                            refine lY_mway F h gi51 dX10_chances_288 ?_
                            refine lv_ladd hx hb dX10_chances_289 ?_
                            refine pY_Model_none F h hinX10 (hts (.fieldLink RX10 239 "ElectionHouseModel" "none" "J") (by decide +kernel)) dX10_chances_290 (fun H locs h => ?_)
                            obtain ⟨s52, es, hf⟩ := olq hf
                            rw [← es] at h
                            refine lv_goto (tgt := 416) hx hb dX10_chances_293 (by decide) ?_
                            refine lv_iinc (v := (x7 + (1 : Int32))) (lv' := [(7, .int (x7 + (1 : Int32))), (0, .ref (Q 0)), (1, .long x1), (3, .int x3)]) hx hb dX10_chances_416 hl (k := 3) rfl (congrArg (fun z => x7 + z) (by decide : Int32.ofInt (1) = (1 : Int32))) (by decide) rfl (fun ls hl => ?_)
                            have hl := lv_sub (l' := [(0, .ref (Q 0)), (1, .long x1), (3, .int x3), (7, .int (x7 + (1 : Int32)))]) hl [1, 2, 3, 0] rfl
                            refine lv_goto (tgt := 240) hx hb dX10_chances_419 (by decide) ?_
                            exact ih240 (x7 + (1 : Int32)) s52 H locs ls hf h (lv_sub hl [0, 1, 2, 3] rfl)
                  refine lv_lstore (lv' := [(5, .long t0), (0, .ref (Q 0)), (1, .long x1), (3, .int x3)]) hx hb dX10_chances_199 hl (by decide) rfl (fun ls hl => ?_)
                  have hl := lv_sub (l' := [(0, .ref (Q 0)), (1, .long x1), (3, .int x3), (5, .long t0)]) hl [1, 2, 3, 0] rfl
                  refine lv_lload_n hx hb dX10_chances_201 rfl (lv_at hl 1 rfl) ?_
                  refine lv_lload hx hb dX10_chances_202 (lv_at hl 3 rfl) ?_
                  obtain ⟨r54, hc53, hf⟩ := ob1 hf
                  refine call_SL F (c_Model_times l Z (wY Z Q) s x1 t0 hc53) (va_cwS 2 hts gX10_chances_X10_times rfl rfl rfl (by decide +kernel) ⟨Nat.le_of_ble_eq_true rfl, Nat.le_of_ble_eq_true rfl⟩) h rfl hl.1 rfl (Nat.le_of_ble_eq_true rfl) ⟨Nat.zero_le _, Nat.zero_le _⟩ dX10_chances_204 (fun H locs h => ?_)
                  refine lv_lstore_n (lv' := [(1, .long r54), (0, .ref (Q 0)), (3, .int x3), (5, .long t0)]) hx hb dX10_chances_207 rfl hl (by decide) rfl (fun ls hl => ?_)
                  have hl := lv_sub (l' := [(0, .ref (Q 0)), (1, .long r54), (3, .int x3), (5, .long t0)]) hl [1, 0, 2, 3] rfl
                  refine lv_lload_n hx hb dX10_chances_208 rfl (lv_at hl 1 rfl) ?_
                  refine lv_ldc2 (v := (1000000000000000 : Int64)) hx hb hown (hts (.constantLong RX10 213 (1000000000000000 : Int64)) (by decide +kernel)) dX10_chances_209 ?_
                  refine W.lcmp hx hb dX10_chances_212 ?_
                  refine lv_if_le (tgt := 219) hx hb dX10_chances_213 (by decide) (fun c_56 => ?_) (fun c_56 => ?_)
                  · have hf := ip c_56 hf
                    refine lv_aload_n hx hb dX10_chances_219 rfl (lv_at hl 0 rfl) ?_
                    refine lv_aload_n hx hb dX10_chances_220 rfl (lv_at hl 0 rfl) ?_
                    refine gY_Model_none F h hinX10 (hts (.fieldLink RX10 239 "ElectionHouseModel" "none" "J") (by decide +kernel)) dX10_chances_221 ?_
                    refine lv_lload hx hb dX10_chances_224 (lv_at hl 3 rfl) ?_
                    obtain ⟨r58, hc57, hf⟩ := ob1 hf
                    refine call_SL F (c_Model_times l Z (wY Z Q) s (gJ s 0 47) t0 hc57) (va_cwS 2 hts gX10_chances_X10_times rfl rfl rfl (by decide +kernel) ⟨Nat.le_of_ble_eq_true rfl, Nat.le_of_ble_eq_true rfl⟩) h rfl hl.1 rfl (Nat.le_of_ble_eq_true rfl) ⟨Nat.zero_le _, Nat.zero_le _⟩ dX10_chances_226 (fun H locs h => ?_)
                    refine pY_Model_none F h hinX10 (hts (.fieldLink RX10 239 "ElectionHouseModel" "none" "J") (by decide +kernel)) dX10_chances_229 (fun H locs h => ?_)
                    obtain ⟨s60, es, hf⟩ := olq hf
                    rw [← es] at h
                    refine lv_aload_n hx hb dX10_chances_232 rfl (lv_at hl 0 rfl) ?_
                    refine lv_iconst (v := (0 : Int32)) hx hb dX10_chances_233 (by decide) ?_
                    refine pY_Model_nextRows F h hinX10 (hts (.fieldLink RX10 215 "ElectionHouseModel" "nextRows" "I") (by decide +kernel)) dX10_chances_234 (fun H locs h => ?_)
                    obtain ⟨s61, es, hf⟩ := olq hf
                    rw [← es] at h
                    refine lv_iconst (v := (0 : Int32)) hx hb dX10_chances_237 (by decide) ?_
                    refine lv_istore (lv' := [(7, .int (0 : Int32)), (0, .ref (Q 0)), (1, .long r54), (3, .int x3), (5, .long t0)]) hx hb dX10_chances_238 hl (by decide) rfl (fun ls hl => ?_)
                    have hl := lv_sub (l' := [(0, .ref (Q 0)), (1, .long r54), (3, .int x3), (5, .long t0), (7, .int (0 : Int32))]) hl [1, 2, 3, 4, 0] rfl
                    exact lab240 r54 x3 fuelN (0 : Int32) s61 H locs ls hf h (lv_sub hl [0, 1, 2, 4] rfl)
                  · have hf := im c_56 hf
                    refine lv_bipush (v := (-2 : Int32)) hx hb dX10_chances_216 (by decide) ?_
                    exact retE_I F hr hlk h hf dX10_chances_218
                refine lv_istore (lv' := [(4, .int t0), (0, .ref (Q 0)), (1, .long x1), (3, .int x3)]) hx hb dX10_chances_162 hl (by decide) rfl (fun ls hl => ?_)
                have hl := lv_sub (l' := [(0, .ref (Q 0)), (1, .long x1), (3, .int x3), (4, .int t0)]) hl [1, 2, 3, 0] rfl
                refine lv_aload_n hx hb dX10_chances_164 rfl (lv_at hl 0 rfl) ?_
                refine gY_Model_kind F h hinX10 (hts (.fieldLink RX10 30 "ElectionHouseModel" "kind" "[I") (by decide +kernel)) dX10_chances_165 ?_
                refine lv_iload_n hx hb dX10_chances_168 rfl (lv_at hl 2 rfl) ?_
                obtain ⟨gi62, hf⟩ := og hf
                refine lY_mkind F h gi62 dX10_chances_169 ?_
                refine lv_if_ne (tgt := 184) hx hb dX10_chances_170 (by decide) (fun c_63 => ?_) (fun c_63 => ?_)
                · have hf := im c_63 hf
                  refine lv_lconst (v := (1 : Int64)) hx hb dX10_chances_184 (by decide) ?_
                  refine lv_goto (tgt := 199) hx hb dX10_chances_185 (by decide) ?_
                  exact lab199 x1 x3 (1 : Int64) s H locs ls hf h (lv_sub hl [0, 1, 2] rfl)
                · have hf := ip c_63 hf
                  refine lv_iload hx hb dX10_chances_173 (lv_at hl 3 rfl) ?_
                  refine lv_aload_n hx hb dX10_chances_175 rfl (lv_at hl 0 rfl) ?_
                  refine gY_Model_many F h hinX10 (hts (.fieldLink RX10 33 "ElectionHouseModel" "many" "[I") (by decide +kernel)) dX10_chances_176 ?_
                  refine lv_iload_n hx hb dX10_chances_179 rfl (lv_at hl 2 rfl) ?_
                  obtain ⟨gi64, hf⟩ := og hf
                  refine lY_mmany F h gi64 dX10_chances_180 ?_
                  refine lv_icmp_ge (tgt := 188) hx hb dX10_chances_181 (by decide) (fun c_65 => ?_) (fun c_65 => ?_)
                  · have hf := ip c_65 hf
                    refine lv_iload hx hb dX10_chances_188 (lv_at hl 3 rfl) ?_
                    refine lv_aload_n hx hb dX10_chances_190 rfl (lv_at hl 0 rfl) ?_
                    refine gY_Model_many F h hinX10 (hts (.fieldLink RX10 33 "ElectionHouseModel" "many" "[I") (by decide +kernel)) dX10_chances_191 ?_
                    refine lv_iload_n hx hb dX10_chances_194 rfl (lv_at hl 2 rfl) ?_
                    obtain ⟨gi66, hf⟩ := og hf
                    refine lY_mmany F h gi66 dX10_chances_195 ?_
                    obtain ⟨r68, hc67, hf⟩ := ob1 hf
                    refine call_SL F (c_Model_sets l Z (wY Z Q) s t0 (gM s 8 (ix x3)) hc67) (va_cwS 2 hts gX10_chances_X10_sets rfl rfl rfl (by decide +kernel) ⟨Nat.le_of_ble_eq_true rfl, Nat.le_of_ble_eq_true rfl⟩) h rfl hl.1 rfl (Nat.le_of_ble_eq_true rfl) ⟨Nat.zero_le _, Nat.zero_le _⟩ dX10_chances_196 (fun H locs h => ?_)
                    exact lab199 x1 x3 r68 s H locs ls hf h (lv_sub hl [0, 1, 2] rfl)
                  · have hf := im c_65 hf
                    refine lv_lconst (v := (1 : Int64)) hx hb dX10_chances_184 (by decide) ?_
                    refine lv_goto (tgt := 199) hx hb dX10_chances_185 (by decide) ?_
                    exact lab199 x1 x3 (1 : Int64) s H locs ls hf h (lv_sub hl [0, 1, 2] rfl)
              refine lv_iload_n hx hb dX10_chances_126 rfl (lv_at hl 2 rfl) ?_
              refine lv_aload_n hx hb dX10_chances_127 rfl (lv_at hl 0 rfl) ?_
              refine gY_Model_steps F h hinX10 (hts (.fieldLink RX10 171 "ElectionHouseModel" "steps" "I") (by decide +kernel)) dX10_chances_128 ?_
              refine lv_icmp_ge (tgt := 482) hx hb dX10_chances_131 (by decide) (fun c_70 => ?_) (fun c_70 => ?_)
              · have hf := ip c_70 hf
                refine lv_aload_n hx hb dX10_chances_482 rfl (lv_at hl 0 rfl) ?_
                refine lv_iconst (v := (1 : Int32)) hx hb dX10_chances_483 (by decide) ?_
                refine pY_Model_isTold (by decide) F h hinX10 (hts (.fieldLink RX10 253 "ElectionHouseModel" "isTold" "Z") (by decide +kernel)) dX10_chances_484 (fun H locs h => ?_)
                obtain ⟨s71, es, hf⟩ := olq hf
                rw [← es] at h
                refine lv_iconst (v := (0 : Int32)) hx hb dX10_chances_487 (by decide) ?_
                refine lv_istore_n (lv' := [(3, .int (0 : Int32)), (0, .ref (Q 0)), (1, .long x1)]) hx hb dX10_chances_488 rfl hl (by decide) rfl (fun ls hl => ?_)
                have hl := lv_sub (l' := [(0, .ref (Q 0)), (1, .long x1), (3, .int (0 : Int32))]) hl [1, 2, 0] rfl
                exact lab489 x1 fuelN (0 : Int32) s71 H locs ls hf h (lv_sub hl [0, 1, 2] rfl)
              · have hf := im c_70 hf
                refine lv_iload_n hx hb dX10_chances_134 rfl (lv_at hl 2 rfl) ?_
                refine lv_aload_n hx hb dX10_chances_135 rfl (lv_at hl 0 rfl) ?_
                refine gY_Model_done F h hinX10 (hts (.fieldLink RX10 105 "ElectionHouseModel" "done" "I") (by decide +kernel)) dX10_chances_136 ?_
                refine lv_icmp_ne (tgt := 154) hx hb dX10_chances_139 (by decide) (fun c_72 => ?_) (fun c_72 => ?_)
                · have hf := im c_72 hf
                  refine lv_aload_n hx hb dX10_chances_154 rfl (lv_at hl 0 rfl) ?_
                  refine gY_Model_many F h hinX10 (hts (.fieldLink RX10 33 "ElectionHouseModel" "many" "[I") (by decide +kernel)) dX10_chances_155 ?_
                  refine lv_iload_n hx hb dX10_chances_158 rfl (lv_at hl 2 rfl) ?_
                  refine lv_iconst (v := (1 : Int32)) hx hb dX10_chances_159 (by decide) ?_
                  refine lv_isub hx hb dX10_chances_160 ?_
                  obtain ⟨gi73, hf⟩ := og hf
                  refine lY_mmany F h gi73 dX10_chances_161 ?_
                  exact lab162 x1 x3 (gM s 8 (ix (x3 - (1 : Int32)))) s H locs ls hf h (lv_sub hl [0, 1, 2] rfl)
                · have hf := ip c_72 hf
                  refine lv_aload_n hx hb dX10_chances_142 rfl (lv_at hl 0 rfl) ?_
                  refine gY_Model_bodyMany F h hinX10 (hts (.fieldLink RX10 54 "ElectionHouseModel" "bodyMany" "[I") (by decide +kernel)) dX10_chances_143 ?_
                  refine lv_aload_n hx hb dX10_chances_146 rfl (lv_at hl 0 rfl) ?_
                  refine gY_Model_done F h hinX10 (hts (.fieldLink RX10 105 "ElectionHouseModel" "done" "I") (by decide +kernel)) dX10_chances_147 ?_
                  obtain ⟨gi74, hf⟩ := og hf
                  refine lY_mbodyMany F h gi74 dX10_chances_150 ?_
                  refine lv_goto (tgt := 162) hx hb dX10_chances_151 (by decide) ?_
                  exact lab162 x1 x3 (gM s 15 (ix (gM s 0 18))) s H locs ls hf h (lv_sub hl [0, 1, 2] rfl)
          refine lv_iload_n hx hb dX10_chances_100 rfl (lv_at hl 1 rfl) ?_
          refine lv_bipush (v := (40 : Int32)) hx hb dX10_chances_101 (by decide) ?_
          refine lv_icmp_ge (tgt := 119) hx hb dX10_chances_103 (by decide) (fun c_75 => ?_) (fun c_75 => ?_)
          · have hf := ip c_75 hf
            refine lv_lconst (v := (1 : Int64)) hx hb dX10_chances_119 (by decide) ?_
            refine lv_lstore_n (lv' := [(1, .long (1 : Int64)), (0, .ref (Q 0))]) hx hb dX10_chances_120 rfl hl (by decide) rfl (fun ls hl => ?_)
            have hl := lv_sub (l' := [(0, .ref (Q 0)), (1, .long (1 : Int64))]) hl [1, 0] rfl
            refine lv_aload_n hx hb dX10_chances_121 rfl (lv_at hl 0 rfl) ?_
            refine gY_Model_done F h hinX10 (hts (.fieldLink RX10 105 "ElectionHouseModel" "done" "I") (by decide +kernel)) dX10_chances_122 ?_
            refine lv_istore_n (lv' := [(3, .int (gM s 0 18)), (0, .ref (Q 0)), (1, .long (1 : Int64))]) hx hb dX10_chances_125 rfl hl (by decide) rfl (fun ls hl => ?_)
            have hl := lv_sub (l' := [(0, .ref (Q 0)), (1, .long (1 : Int64)), (3, .int (gM s 0 18))]) hl [1, 2, 0] rfl
            exact lab126 fuelN (1 : Int64) (gM s 0 18) s H locs ls hf h (lv_sub hl [0, 1, 2] rfl)
          · have hf := im c_75 hf
            refine lv_aload_n hx hb dX10_chances_106 rfl (lv_at hl 0 rfl) ?_
            refine gY_Model_electedBy F h hinX10 (hts (.fieldLink RX10 95 "ElectionHouseModel" "electedBy" "[J") (by decide +kernel)) dX10_chances_107 ?_
            refine lv_iload_n hx hb dX10_chances_110 rfl (lv_at hl 1 rfl) ?_
            refine lv_lconst (v := (0 : Int64)) hx hb dX10_chances_111 (by decide) ?_
            obtain ⟨gi76, hf⟩ := og hf
            refine sY_melectedBy F h gi76 dX10_chances_112 (fun H locs h => ?_)
            obtain ⟨s77, es, hf⟩ := olq hf
            rw [← es] at h
            refine lv_iinc (v := (x1 + (1 : Int32))) (lv' := [(1, .int (x1 + (1 : Int32))), (0, .ref (Q 0))]) hx hb dX10_chances_113 hl (k := 1) rfl (congrArg (fun z => x1 + z) (by decide : Int32.ofInt (1) = (1 : Int32))) (by decide) rfl (fun ls hl => ?_)
            have hl := lv_sub (l' := [(0, .ref (Q 0)), (1, .int (x1 + (1 : Int32)))]) hl [1, 0] rfl
            refine lv_goto (tgt := 100) hx hb dX10_chances_116 (by decide) ?_
            exact ih100 (x1 + (1 : Int32)) s77 H locs ls hf h (lv_sub hl [0, 1] rfl)
      refine lv_iload_n hx hb dX10_chances_41 rfl (lv_at hl 1 rfl) ?_
      refine lv_aload_n hx hb dX10_chances_42 rfl (lv_at hl 0 rfl) ?_
      refine gY_Model_bodyMany F h hinX10 (hts (.fieldLink RX10 54 "ElectionHouseModel" "bodyMany" "[I") (by decide +kernel)) dX10_chances_43 ?_
      refine lv_aload_n hx hb dX10_chances_46 rfl (lv_at hl 0 rfl) ?_
      refine gY_Model_done F h hinX10 (hts (.fieldLink RX10 105 "ElectionHouseModel" "done" "I") (by decide +kernel)) dX10_chances_47 ?_
      obtain ⟨gi78, hf⟩ := og hf
      refine lY_mbodyMany F h gi78 dX10_chances_50 ?_
      refine lv_icmp_ge (tgt := 93) hx hb dX10_chances_51 (by decide) (fun c_79 => ?_) (fun c_79 => ?_)
      · have hf := ip c_79 hf
        refine lv_aload_n hx hb dX10_chances_93 rfl (lv_at hl 0 rfl) ?_
        refine lv_lconst (v := (0 : Int64)) hx hb dX10_chances_94 (by decide) ?_
        refine pY_Model_none F h hinX10 (hts (.fieldLink RX10 239 "ElectionHouseModel" "none" "J") (by decide +kernel)) dX10_chances_95 (fun H locs h => ?_)
        obtain ⟨s80, es, hf⟩ := olq hf
        rw [← es] at h
        refine lv_iconst (v := (0 : Int32)) hx hb dX10_chances_98 (by decide) ?_
        refine lv_istore_n (lv' := [(1, .int (0 : Int32)), (0, .ref (Q 0))]) hx hb dX10_chances_99 rfl hl (by decide) rfl (fun ls hl => ?_)
        have hl := lv_sub (l' := [(0, .ref (Q 0)), (1, .int (0 : Int32))]) hl [1, 0] rfl
        exact lab100 fuelN (0 : Int32) s80 H locs ls hf h (lv_sub hl [0, 1] rfl)
      · have hf := im c_79 hf
        refine lv_aload_n hx hb dX10_chances_54 rfl (lv_at hl 0 rfl) ?_
        refine gY_Model_key F h hinX10 (hts (.fieldLink RX10 79 "ElectionHouseModel" "key" "[I") (by decide +kernel)) dX10_chances_55 ?_
        refine lv_iconst (v := (0 : Int32)) hx hb dX10_chances_58 (by decide) ?_
        refine lv_dup2_11 hx hb dX10_chances_59 rfl rfl ?_
        obtain ⟨gi81, hf⟩ := og hf
        refine lY_mkey F h gi81 dX10_chances_60 ?_
        refine lv_iconst (v := (1 : Int32)) hx hb dX10_chances_61 (by decide) ?_
        refine lv_bipush (v := (6 : Int32)) hx hb dX10_chances_62 (by decide) ?_
        refine lv_aload_n hx hb dX10_chances_64 rfl (lv_at hl 0 rfl) ?_
        refine gY_Model_party F h hinX10 (hts (.fieldLink RX10 13 "ElectionHouseModel" "party" "[I") (by decide +kernel)) dX10_chances_65 ?_
        refine lv_aload_n hx hb dX10_chances_68 rfl (lv_at hl 0 rfl) ?_
        refine gY_Model_bodies F h hinX10 (hts (.fieldLink RX10 57 "ElectionHouseModel" "bodies" "[I") (by decide +kernel)) dX10_chances_69 ?_
        refine lv_bipush (v := (40 : Int32)) hx hb dX10_chances_72 (by decide) ?_
        refine lv_aload_n hx hb dX10_chances_74 rfl (lv_at hl 0 rfl) ?_
        refine gY_Model_done F h hinX10 (hts (.fieldLink RX10 105 "ElectionHouseModel" "done" "I") (by decide +kernel)) dX10_chances_75 ?_
        refine lv_imul hx hb dX10_chances_78 ?_
        refine lv_iload_n hx hb dX10_chances_79 rfl (lv_at hl 1 rfl) ?_
        refine lv_iadd hx hb dX10_chances_80 ?_
        obtain ⟨gi82, hf⟩ := og hf
        refine lY_mbodies F h gi82 dX10_chances_81 ?_
        obtain ⟨gi83, hf⟩ := og hf
        refine lY_mparty F h gi83 dX10_chances_82 ?_
        refine lv_imul hx hb dX10_chances_83 ?_
        refine lv_ishl hx hb dX10_chances_84 ?_
        refine lv_iadd hx hb dX10_chances_85 ?_
        obtain ⟨gi84, hf⟩ := og hf
        refine sY_mkey F h gi84 dX10_chances_86 (fun H locs h => ?_)
        obtain ⟨s85, es, hf⟩ := olq hf
        rw [← es] at h
        refine lv_iinc (v := (x1 + (1 : Int32))) (lv' := [(1, .int (x1 + (1 : Int32))), (0, .ref (Q 0))]) hx hb dX10_chances_87 hl (k := 1) rfl (congrArg (fun z => x1 + z) (by decide : Int32.ofInt (1) = (1 : Int32))) (by decide) rfl (fun ls hl => ?_)
        have hl := lv_sub (l' := [(0, .ref (Q 0)), (1, .int (x1 + (1 : Int32)))]) hl [1, 0] rfl
        refine lv_goto (tgt := 41) hx hb dX10_chances_90 (by decide) ?_
        exact ih41 (x1 + (1 : Int32)) s85 H locs ls hf h (lv_sub hl [0, 1] rfl)
  refine lv_aload_n hx hb dX10_chances_0 rfl (lv_at hl 0 rfl) ?_
  refine gY_Model_steps F h hinX10 (hts (.fieldLink RX10 171 "ElectionHouseModel" "steps" "I") (by decide +kernel)) dX10_chances_1 ?_
  refine lv_if_eq (tgt := 18) hx hb dX10_chances_4 (by decide) (fun c_86 => ?_) (fun c_86 => ?_)
  · have hf := ip c_86 hf
    refine lv_iconst (v := (-1 : Int32)) hx hb dX10_chances_18 (by decide) ?_
    exact retE_I F hr hlk h hf dX10_chances_19
  · have hf := im c_86 hf
    refine lv_aload_n hx hb dX10_chances_7 rfl (lv_at hl 0 rfl) ?_
    refine gY_Model_done F h hinX10 (hts (.fieldLink RX10 105 "ElectionHouseModel" "done" "I") (by decide +kernel)) dX10_chances_8 ?_
    refine lv_aload_n hx hb dX10_chances_11 rfl (lv_at hl 0 rfl) ?_
    refine gY_Model_steps F h hinX10 (hts (.fieldLink RX10 171 "ElectionHouseModel" "steps" "I") (by decide +kernel)) dX10_chances_12 ?_
    refine lv_icmp_ne (tgt := 20) hx hb dX10_chances_15 (by decide) (fun c_87 => ?_) (fun c_87 => ?_)
    · have hf := im c_87 hf
      refine lv_aload_n hx hb dX10_chances_20 rfl (lv_at hl 0 rfl) ?_
      refine lv_iconst (v := (1 : Int32)) hx hb dX10_chances_21 (by decide) ?_
      refine pY_Model_rows F h hinX10 (hts (.fieldLink RX10 236 "ElectionHouseModel" "rows" "I") (by decide +kernel)) dX10_chances_22 (fun H locs h => ?_)
      obtain ⟨s88, es, hf⟩ := olq hf
      rw [← es] at h
      refine lv_aload_n hx hb dX10_chances_25 rfl (lv_at hl 0 rfl) ?_
      refine gY_Model_key F h hinX10 (hts (.fieldLink RX10 79 "ElectionHouseModel" "key" "[I") (by decide +kernel)) dX10_chances_26 ?_
      refine lv_iconst (v := (0 : Int32)) hx hb dX10_chances_29 (by decide) ?_
      refine lv_iconst (v := (0 : Int32)) hx hb dX10_chances_30 (by decide) ?_
      obtain ⟨gi89, hf⟩ := og hf
      refine sY_mkey F h gi89 dX10_chances_31 (fun H locs h => ?_)
      obtain ⟨s90, es, hf⟩ := olq hf
      rw [← es] at h
      refine lv_aload_n hx hb dX10_chances_32 rfl (lv_at hl 0 rfl) ?_
      refine gY_Model_way F h hinX10 (hts (.fieldLink RX10 82 "ElectionHouseModel" "way" "[J") (by decide +kernel)) dX10_chances_33 ?_
      refine lv_iconst (v := (0 : Int32)) hx hb dX10_chances_36 (by decide) ?_
      refine lv_lconst (v := (1 : Int64)) hx hb dX10_chances_37 (by decide) ?_
      obtain ⟨gi91, hf⟩ := og hf
      refine sY_mway F h gi91 dX10_chances_38 (fun H locs h => ?_)
      obtain ⟨s92, es, hf⟩ := olq hf
      rw [← es] at h
      refine lv_iconst (v := (0 : Int32)) hx hb dX10_chances_39 (by decide) ?_
      refine lv_istore_n (lv' := [(1, .int (0 : Int32)), (0, .ref (Q 0))]) hx hb dX10_chances_40 rfl hl (by decide) rfl (fun ls hl => ?_)
      have hl := lv_sub (l' := [(0, .ref (Q 0)), (1, .int (0 : Int32))]) hl [1, 0] rfl
      exact lab41 fuelN (0 : Int32) s92 H locs ls hf h (lv_sub hl [0, 1] rfl)
    · have hf := ip c_87 hf
      refine lv_iconst (v := (-1 : Int32)) hx hb dX10_chances_18 (by decide) ?_
      exact retE_I F hr hlk h hf dX10_chances_19

set_option maxHeartbeats 8000000 in
set_option maxRecDepth 100000 in
theorem c_Model_ways (l : Launch) (Z : ZT) (Q : Nat → Nat) (s : XS) (x1 : Int32) {r : Int64} (hf : p_Model_ways x1 s = some r) : KL l Z (wY Z Q) yX10_ways wsX10_ways { frames := 1, cells := 0, slots := 0, locals := 22 } [.ref (Q 0), .int x1] s r s := by
  intro sz
  refine met_entry (cc := cX10_ways) (maxL := 2) (ret := (some .long)) (by decide) rfl (Nat.le_of_ble_eq_true rfl) sz rfl ?_
  generalize va_A (wY Z Q s) sz = A
  intro p e s0 m args below meth c ls F hr hlk h hl
  have hl : lv_has ls 2 [(0, .ref (Q 0)), (1, .int x1)] := hl
  obtain ⟨hx, hb, hml, hown, hts⟩ := id F
  have hinX10 : ∀ w ∈ wsX100, w ∈ wsX10_ways := by decide +kernel
  obtain ⟨H, eH⟩ : ∃ z, z = s0.heap := ⟨_, rfl⟩
  obtain ⟨locs, eL⟩ : ∃ z : List Loc, z = [] := ⟨_, rfl⟩
  rw [← eH, ← eL] at h ⊢
  unfold p_Model_ways at hf
  refine lv_aload_n hx hb dX10_ways_0 rfl (lv_at hl 0 rfl) ?_
  refine gY_Model_isTold F h hinX10 (hts (.fieldLink RX10 253 "ElectionHouseModel" "isTold" "Z") (by decide +kernel)) dX10_ways_1 ?_
  refine lv_if_eq (tgt := 26) hx hb dX10_ways_4 (by decide) (fun c_1 => ?_) (fun c_1 => ?_)
  · have hf := ip c_1 hf
    refine lv_ldc2 (v := (-1 : Int64)) hx hb hown (hts (.constantLong RX10 257 (-1 : Int64)) (by decide +kernel)) dX10_ways_26 ?_
    exact retE_Lr F hr hlk h hf dX10_ways_29
  · have hf := im c_1 hf
    refine lv_iload_n hx hb dX10_ways_7 rfl (lv_at hl 1 rfl) ?_
    refine lv_iconst (v := (0 : Int32)) hx hb dX10_ways_8 (by decide) ?_
    refine lv_bipush (v := (41 : Int32)) hx hb dX10_ways_9 (by decide) ?_
    obtain ⟨r3, hc2, hf⟩ := ob1 hf
    refine call_SI F (c_Model_in l Z (wY Z Q) s x1 (0 : Int32) (41 : Int32) hc2) (va_cwS 3 hts gX10_ways_X10_in rfl rfl rfl (by decide +kernel) ⟨Nat.le_of_ble_eq_true rfl, Nat.le_of_ble_eq_true rfl⟩) h rfl hl.1 rfl (Nat.le_of_ble_eq_true rfl) ⟨Nat.zero_le _, Nat.zero_le _⟩ dX10_ways_11 (fun H locs h => ?_)
    refine lv_if_eq (tgt := 26) hx hb dX10_ways_14 (by decide) (fun c_5 => ?_) (fun c_5 => ?_)
    · have hf := ip c_5 hf
      refine lv_ldc2 (v := (-1 : Int64)) hx hb hown (hts (.constantLong RX10 257 (-1 : Int64)) (by decide +kernel)) dX10_ways_26 ?_
      exact retE_Lr F hr hlk h hf dX10_ways_29
    · have hf := im c_5 hf
      refine lv_aload_n hx hb dX10_ways_17 rfl (lv_at hl 0 rfl) ?_
      refine gY_Model_told F h hinX10 (hts (.fieldLink RX10 92 "ElectionHouseModel" "told" "[J") (by decide +kernel)) dX10_ways_18 ?_
      refine lv_iload_n hx hb dX10_ways_21 rfl (lv_at hl 1 rfl) ?_
      obtain ⟨gi6, hf⟩ := og hf
      refine lY_mtold F h gi6 dX10_ways_22 ?_
      refine lv_goto (tgt := 29) hx hb dX10_ways_23 (by decide) ?_
      exact retE_Lr F hr hlk h hf dX10_ways_29

set_option maxHeartbeats 8000000 in
set_option maxRecDepth 100000 in
theorem c_Model_about (l : Launch) (Z : ZT) (Q : Nat → Nat) (s : XS) (x1 : Int32) (x2 : Int32) {r : Int32} (hf : p_Model_about x1 x2 s = some r) : KI l Z (wY Z Q) yX10_about wsX10_about { frames := 2, cells := 0, slots := 0, locals := 43 } [.ref (Q 0), .int x1, .int x2] s r s := by
  intro sz
  refine met_entry (cc := cX10_about) (maxL := 5) (ret := (some .int)) (by decide) rfl (Nat.le_of_ble_eq_true rfl) sz rfl ?_
  generalize va_A (wY Z Q s) sz = A
  intro p e s0 m args below meth c ls F hr hlk h hl
  have hl : lv_has ls 5 [(0, .ref (Q 0)), (1, .int x1), (2, .int x2)] := hl
  obtain ⟨hx, hb, hml, hown, hts⟩ := id F
  have hinX10 : ∀ w ∈ wsX100, w ∈ wsX10_about := by decide +kernel
  obtain ⟨H, eH⟩ : ∃ z, z = s0.heap := ⟨_, rfl⟩
  obtain ⟨locs, eL⟩ : ∃ z : List Loc, z = [] := ⟨_, rfl⟩
  rw [← eH, ← eL] at h ⊢
  unfold p_Model_about at hf
  have lab15 : ∀ (x1 : Int32) (x2 : Int32) (n : Nat) (x3 : Int32) (x4 : Int32) (H : Heap) (locs : List Loc) (ls : Array Slot), lo2 (p_Model_about_B15 x1 x2 s) n x3 x4 = some r → HW Z (wY Z Q) A s0 H locs s → lv_has ls 5 [(0, .ref (Q 0)), (1, .int x1), (2, .int x2), (3, .int x3), (4, .int x4)] → W p l e { frames := 2, cells := 0, slots := 0, locals := 43 } s0 m args below meth c H locs 0 0 (MQ below (QcI Z (wY Z Q) A r s) args s0 0 0 A) (F0 m 15 ls []) := by
    intro x1 x2 n
    induction n with
    | zero => intro x3 x4 H locs ls hf; exact absurd hf lo2_z
    | succ n ih15 =>
      intro x3 x4 H locs ls hf h hl
      have hf := lo2_s hf
      generalize lo2 (p_Model_about_B15 x1 x2 s) n = c15 at hf ih15
      unfold p_Model_about_B15 at hf
      refine lv_iload hx hb dX10_about_15 (lv_at hl 4 rfl) ?_
      refine lv_aload_n hx hb dX10_about_17 rfl (lv_at hl 0 rfl) ?_
      refine gY_Model_citizens F h hinX10 (hts (.fieldLink RX10 98 "ElectionHouseModel" "citizens" "I") (by decide +kernel)) dX10_about_18 ?_
      refine lv_icmp_ge (tgt := 75) hx hb dX10_about_21 (by decide) (fun c_1 => ?_) (fun c_1 => ?_)
      · have hf := ip c_1 hf
        refine lv_iload_n hx hb dX10_about_75 rfl (lv_at hl 2 rfl) ?_
        by_cases c_2 : x2 = (0 : Int32)
        · have hf := ip c_2 hf
          refine lv_tableIn (off := 32) (tgt := 108) hx hb dX10_about_76 (by rw [c_2]; decide) (by rw [c_2]; decide) (by rw [c_2]; rfl) (by decide) ?_
          refine lv_aload_n hx hb dX10_about_108 rfl (lv_at hl 0 rfl) ?_
          refine gY_Model_house F h hinX10 (hts (.fieldLink RX10 7 "ElectionHouseModel" "house" "[I") (by decide +kernel)) dX10_about_109 ?_
          refine lv_iload_n hx hb dX10_about_112 rfl (lv_at hl 1 rfl) ?_
          obtain ⟨gi3, hf⟩ := og hf
          refine lY_mhouse F h gi3 dX10_about_113 ?_
          exact retE_Ir F hr hlk h hf dX10_about_114
        · have hf := im c_2 hf
          by_cases c_4 : x2 = (1 : Int32)
          · have hf := ip c_4 hf
            refine lv_tableIn (off := 39) (tgt := 115) hx hb dX10_about_76 (by rw [c_4]; decide) (by rw [c_4]; decide) (by rw [c_4]; rfl) (by decide) ?_
            refine lv_aload_n hx hb dX10_about_115 rfl (lv_at hl 0 rfl) ?_
            refine gY_Model_party F h hinX10 (hts (.fieldLink RX10 13 "ElectionHouseModel" "party" "[I") (by decide +kernel)) dX10_about_116 ?_
            refine lv_iload_n hx hb dX10_about_119 rfl (lv_at hl 1 rfl) ?_
            obtain ⟨gi5, hf⟩ := og hf
            refine lY_mparty F h gi5 dX10_about_120 ?_
            exact retE_Ir F hr hlk h hf dX10_about_121
          · have hf := im c_4 hf
            by_cases c_6 : x2 = (2 : Int32)
            · have hf := ip c_6 hf
              refine lv_tableIn (off := 46) (tgt := 122) hx hb dX10_about_76 (by rw [c_6]; decide) (by rw [c_6]; decide) (by rw [c_6]; rfl) (by decide) ?_
              refine lv_aload_n hx hb dX10_about_122 rfl (lv_at hl 0 rfl) ?_
              refine gY_Model_isThere F h hinX10 (hts (.fieldLink RX10 16 "ElectionHouseModel" "isThere" "[Z") (by decide +kernel)) dX10_about_123 ?_
              refine lv_iload_n hx hb dX10_about_126 rfl (lv_at hl 1 rfl) ?_
              obtain ⟨gi7, hf⟩ := og hf
              refine lY_misThere F h gi7 dX10_about_127 ?_
              refine lv_if_eq (tgt := 135) hx hb dX10_about_128 (by decide) (fun c_8 => ?_) (fun c_8 => ?_)
              · have hf := ip c_8 hf
                refine lv_iconst (v := (0 : Int32)) hx hb dX10_about_135 (by decide) ?_
                exact retE_Ir F hr hlk h hf dX10_about_136
              · have hf := im c_8 hf
                refine lv_iconst (v := (1 : Int32)) hx hb dX10_about_131 (by decide) ?_
                refine lv_goto (tgt := 136) hx hb dX10_about_132 (by decide) ?_
                exact retE_Ir F hr hlk h hf dX10_about_136
            · have hf := im c_6 hf
              by_cases c_9 : x2 = (3 : Int32)
              · have hf := ip c_9 hf
                refine lv_tableIn (off := 61) (tgt := 137) hx hb dX10_about_76 (by rw [c_9]; decide) (by rw [c_9]; decide) (by rw [c_9]; rfl) (by decide) ?_
                refine lv_iload_n hx hb dX10_about_137 rfl (lv_at hl 3 rfl) ?_
                exact retE_Ir F hr hlk h hf dX10_about_138
              · have hf := im c_9 hf
                have nc_2 := lv_neT c_2 (show ((0 : Int32)).toInt = 0 by decide)
                have nc_4 := lv_neT c_4 (show ((1 : Int32)).toInt = 1 by decide)
                have nc_6 := lv_neT c_6 (show ((2 : Int32)).toInt = 2 by decide)
                have nc_9 := lv_neT c_9 (show ((3 : Int32)).toInt = 3 by decide)
                refine lv_tableOut (tgt := 139) hx hb dX10_about_76 (by omega) (by decide) ?_
                refine lv_iconst (v := (-1 : Int32)) hx hb dX10_about_139 (by decide) ?_
                exact retE_Ir F hr hlk h hf dX10_about_140
      · have hf := im c_1 hf
        refine lv_iload_n hx hb dX10_about_24 rfl (lv_at hl 3 rfl) ?_
        refine lv_iload hx hb dX10_about_25 (lv_at hl 4 rfl) ?_
        refine lv_iload_n hx hb dX10_about_27 rfl (lv_at hl 1 rfl) ?_
        refine lv_icmp_eq (tgt := 66) hx hb dX10_about_28 (by decide) (fun c_10 => ?_) (fun c_10 => ?_)
        · have hf := ip c_10 hf
          refine lv_iconst (v := (0 : Int32)) hx hb dX10_about_66 (by decide) ?_
          refine lv_iadd hx hb dX10_about_67 ?_
          refine lv_istore_n (lv' := [(3, .int (x3 + (0 : Int32))), (0, .ref (Q 0)), (1, .int x1), (2, .int x2), (4, .int x4)]) hx hb dX10_about_68 rfl hl (by decide) rfl (fun ls hl => ?_)
          have hl := lv_sub (l' := [(0, .ref (Q 0)), (1, .int x1), (2, .int x2), (3, .int (x3 + (0 : Int32))), (4, .int x4)]) hl [1, 2, 3, 0, 4] rfl
          refine lv_iinc (v := (x4 + (1 : Int32))) (lv' := [(4, .int (x4 + (1 : Int32))), (0, .ref (Q 0)), (1, .int x1), (2, .int x2), (3, .int (x3 + (0 : Int32)))]) hx hb dX10_about_69 hl (k := 4) rfl (congrArg (fun z => x4 + z) (by decide : Int32.ofInt (1) = (1 : Int32))) (by decide) rfl (fun ls hl => ?_)
          have hl := lv_sub (l' := [(0, .ref (Q 0)), (1, .int x1), (2, .int x2), (3, .int (x3 + (0 : Int32))), (4, .int (x4 + (1 : Int32)))]) hl [1, 2, 3, 4, 0] rfl
          refine lv_goto (tgt := 15) hx hb dX10_about_72 (by decide) ?_
          exact ih15 (x3 + (0 : Int32)) (x4 + (1 : Int32)) H locs ls hf h (lv_sub hl [0, 1, 2, 3, 4] rfl)
        · have hf := im c_10 hf
          refine lv_aload_n hx hb dX10_about_31 rfl (lv_at hl 0 rfl) ?_
          refine gY_Model_house F h hinX10 (hts (.fieldLink RX10 7 "ElectionHouseModel" "house" "[I") (by decide +kernel)) dX10_about_32 ?_
          refine lv_iload hx hb dX10_about_35 (lv_at hl 4 rfl) ?_
          obtain ⟨gi11, hf⟩ := og hf
          refine lY_mhouse F h gi11 dX10_about_37 ?_
          refine lv_aload_n hx hb dX10_about_38 rfl (lv_at hl 0 rfl) ?_
          refine gY_Model_house F h hinX10 (hts (.fieldLink RX10 7 "ElectionHouseModel" "house" "[I") (by decide +kernel)) dX10_about_39 ?_
          refine lv_iload_n hx hb dX10_about_42 rfl (lv_at hl 1 rfl) ?_
          obtain ⟨gi12, hf⟩ := og hf
          refine lY_mhouse F h gi12 dX10_about_43 ?_
          refine lv_icmp_eq (tgt := 62) hx hb dX10_about_44 (by decide) (fun c_13 => ?_) (fun c_13 => ?_)
          · have hf := ip c_13 hf
            refine lv_iconst (v := (1 : Int32)) hx hb dX10_about_62 (by decide) ?_
            refine lv_goto (tgt := 67) hx hb dX10_about_63 (by decide) ?_
            refine lv_iadd hx hb dX10_about_67 ?_
            refine lv_istore_n (lv' := [(3, .int (x3 + (1 : Int32))), (0, .ref (Q 0)), (1, .int x1), (2, .int x2), (4, .int x4)]) hx hb dX10_about_68 rfl hl (by decide) rfl (fun ls hl => ?_)
            have hl := lv_sub (l' := [(0, .ref (Q 0)), (1, .int x1), (2, .int x2), (3, .int (x3 + (1 : Int32))), (4, .int x4)]) hl [1, 2, 3, 0, 4] rfl
            refine lv_iinc (v := (x4 + (1 : Int32))) (lv' := [(4, .int (x4 + (1 : Int32))), (0, .ref (Q 0)), (1, .int x1), (2, .int x2), (3, .int (x3 + (1 : Int32)))]) hx hb dX10_about_69 hl (k := 4) rfl (congrArg (fun z => x4 + z) (by decide : Int32.ofInt (1) = (1 : Int32))) (by decide) rfl (fun ls hl => ?_)
            have hl := lv_sub (l' := [(0, .ref (Q 0)), (1, .int x1), (2, .int x2), (3, .int (x3 + (1 : Int32))), (4, .int (x4 + (1 : Int32)))]) hl [1, 2, 3, 4, 0] rfl
            refine lv_goto (tgt := 15) hx hb dX10_about_72 (by decide) ?_
            exact ih15 (x3 + (1 : Int32)) (x4 + (1 : Int32)) H locs ls hf h (lv_sub hl [0, 1, 2, 3, 4] rfl)
          · have hf := im c_13 hf
            refine lv_aload_n hx hb dX10_about_47 rfl (lv_at hl 0 rfl) ?_
            refine gY_Model_isKin F h hinX10 (hts (.fieldLink RX10 20 "ElectionHouseModel" "isKin" "[Z") (by decide +kernel)) dX10_about_48 ?_
            refine lv_bipush (v := (40 : Int32)) hx hb dX10_about_51 (by decide) ?_
            refine lv_iload hx hb dX10_about_53 (lv_at hl 4 rfl) ?_
            refine lv_imul hx hb dX10_about_55 ?_
            refine lv_iload_n hx hb dX10_about_56 rfl (lv_at hl 1 rfl) ?_
            refine lv_iadd hx hb dX10_about_57 ?_
            obtain ⟨gi14, hf⟩ := og hf
            refine lY_misKin F h gi14 dX10_about_58 ?_
            refine lv_if_eq (tgt := 66) hx hb dX10_about_59 (by decide) (fun c_15 => ?_) (fun c_15 => ?_)
            · have hf := ip c_15 hf
              refine lv_iconst (v := (0 : Int32)) hx hb dX10_about_66 (by decide) ?_
              refine lv_iadd hx hb dX10_about_67 ?_
              refine lv_istore_n (lv' := [(3, .int (x3 + (0 : Int32))), (0, .ref (Q 0)), (1, .int x1), (2, .int x2), (4, .int x4)]) hx hb dX10_about_68 rfl hl (by decide) rfl (fun ls hl => ?_)
              have hl := lv_sub (l' := [(0, .ref (Q 0)), (1, .int x1), (2, .int x2), (3, .int (x3 + (0 : Int32))), (4, .int x4)]) hl [1, 2, 3, 0, 4] rfl
              refine lv_iinc (v := (x4 + (1 : Int32))) (lv' := [(4, .int (x4 + (1 : Int32))), (0, .ref (Q 0)), (1, .int x1), (2, .int x2), (3, .int (x3 + (0 : Int32)))]) hx hb dX10_about_69 hl (k := 4) rfl (congrArg (fun z => x4 + z) (by decide : Int32.ofInt (1) = (1 : Int32))) (by decide) rfl (fun ls hl => ?_)
              have hl := lv_sub (l' := [(0, .ref (Q 0)), (1, .int x1), (2, .int x2), (3, .int (x3 + (0 : Int32))), (4, .int (x4 + (1 : Int32)))]) hl [1, 2, 3, 4, 0] rfl
              refine lv_goto (tgt := 15) hx hb dX10_about_72 (by decide) ?_
              exact ih15 (x3 + (0 : Int32)) (x4 + (1 : Int32)) H locs ls hf h (lv_sub hl [0, 1, 2, 3, 4] rfl)
            · have hf := im c_15 hf
              refine lv_iconst (v := (1 : Int32)) hx hb dX10_about_62 (by decide) ?_
              refine lv_goto (tgt := 67) hx hb dX10_about_63 (by decide) ?_
              refine lv_iadd hx hb dX10_about_67 ?_
              refine lv_istore_n (lv' := [(3, .int (x3 + (1 : Int32))), (0, .ref (Q 0)), (1, .int x1), (2, .int x2), (4, .int x4)]) hx hb dX10_about_68 rfl hl (by decide) rfl (fun ls hl => ?_)
              have hl := lv_sub (l' := [(0, .ref (Q 0)), (1, .int x1), (2, .int x2), (3, .int (x3 + (1 : Int32))), (4, .int x4)]) hl [1, 2, 3, 0, 4] rfl
              refine lv_iinc (v := (x4 + (1 : Int32))) (lv' := [(4, .int (x4 + (1 : Int32))), (0, .ref (Q 0)), (1, .int x1), (2, .int x2), (3, .int (x3 + (1 : Int32)))]) hx hb dX10_about_69 hl (k := 4) rfl (congrArg (fun z => x4 + z) (by decide : Int32.ofInt (1) = (1 : Int32))) (by decide) rfl (fun ls hl => ?_)
              have hl := lv_sub (l' := [(0, .ref (Q 0)), (1, .int x1), (2, .int x2), (3, .int (x3 + (1 : Int32))), (4, .int (x4 + (1 : Int32)))]) hl [1, 2, 3, 4, 0] rfl
              refine lv_goto (tgt := 15) hx hb dX10_about_72 (by decide) ?_
              exact ih15 (x3 + (1 : Int32)) (x4 + (1 : Int32)) H locs ls hf h (lv_sub hl [0, 1, 2, 3, 4] rfl)
  refine lv_aload_n hx hb dX10_about_0 rfl (lv_at hl 0 rfl) ?_
  refine lv_iload_n hx hb dX10_about_1 rfl (lv_at hl 1 rfl) ?_
  obtain ⟨r17, hc16, hf⟩ := ob1 hf
  refine call_VI F (c_Model_isCitizen l Z Q s x1 hc16) (cwV 1 hts gX10_about_X10_isCitizen rfl rfl rfl (by decide +kernel) ⟨Nat.le_of_ble_eq_true rfl, Nat.le_of_ble_eq_true rfl⟩) h (rcY_Model h) rfl hl.1 rfl (Nat.le_of_ble_eq_true rfl) ⟨Nat.zero_le _, Nat.zero_le _⟩ dX10_about_2 (fun H locs h => ?_)
  refine lv_if_ne (tgt := 10) hx hb dX10_about_5 (by decide) (fun c_19 => ?_) (fun c_19 => ?_)
  · have hf := im c_19 hf
    refine lv_iconst (v := (0 : Int32)) hx hb dX10_about_10 (by decide) ?_
    refine lv_istore_n (lv' := [(3, .int (0 : Int32)), (0, .ref (Q 0)), (1, .int x1), (2, .int x2)]) hx hb dX10_about_11 rfl hl (by decide) rfl (fun ls hl => ?_)
    have hl := lv_sub (l' := [(0, .ref (Q 0)), (1, .int x1), (2, .int x2), (3, .int (0 : Int32))]) hl [1, 2, 3, 0] rfl
    refine lv_iconst (v := (0 : Int32)) hx hb dX10_about_12 (by decide) ?_
    refine lv_istore (lv' := [(4, .int (0 : Int32)), (0, .ref (Q 0)), (1, .int x1), (2, .int x2), (3, .int (0 : Int32))]) hx hb dX10_about_13 hl (by decide) rfl (fun ls hl => ?_)
    have hl := lv_sub (l' := [(0, .ref (Q 0)), (1, .int x1), (2, .int x2), (3, .int (0 : Int32)), (4, .int (0 : Int32))]) hl [1, 2, 3, 4, 0] rfl
    exact lab15 x1 x2 fuelN (0 : Int32) (0 : Int32) H locs ls hf h (lv_sub hl [0, 1, 2, 3, 4] rfl)
  · have hf := ip c_19 hf
    refine lv_iconst (v := (-1 : Int32)) hx hb dX10_about_8 (by decide) ?_
    exact retE_Ir F hr hlk h hf dX10_about_9

set_option maxHeartbeats 8000000 in
set_option maxRecDepth 100000 in
theorem c_Model_count (l : Launch) (Z : ZT) (Q : Nat → Nat) (s : XS) (x1 : Int32) {r : Int32} (hf : p_Model_count x1 s = some r) : KI l Z (wY Z Q) yX10_count wsX10_count { frames := 2, cells := 0, slots := 0, locals := 40 } [.ref (Q 0), .int x1] s r s := by
  intro sz
  refine met_entry (cc := cX10_count) (maxL := 4) (ret := (some .int)) (by decide) rfl (Nat.le_of_ble_eq_true rfl) sz rfl ?_
  generalize va_A (wY Z Q s) sz = A
  intro p e s0 m args below meth c ls F hr hlk h hl
  have hl : lv_has ls 4 [(0, .ref (Q 0)), (1, .int x1)] := hl
  obtain ⟨hx, hb, hml, hown, hts⟩ := id F
  have hinX10 : ∀ w ∈ wsX100, w ∈ wsX10_count := by decide +kernel
  obtain ⟨H, eH⟩ : ∃ z, z = s0.heap := ⟨_, rfl⟩
  obtain ⟨locs, eL⟩ : ∃ z : List Loc, z = [] := ⟨_, rfl⟩
  rw [← eH, ← eL] at h ⊢
  unfold p_Model_count at hf
  have lab59 : ∀ (n : Nat) (x2 : Int32) (x3 : Int32) (H : Heap) (locs : List Loc) (ls : Array Slot), lo2 (p_Model_count_B59 s) n x2 x3 = some r → HW Z (wY Z Q) A s0 H locs s → lv_has ls 4 [(0, .ref (Q 0)), (2, .int x2), (3, .int x3)] → W p l e { frames := 2, cells := 0, slots := 0, locals := 40 } s0 m args below meth c H locs 0 0 (MQ below (QcI Z (wY Z Q) A r s) args s0 0 0 A) (F0 m 59 ls []) := by
    intro n
    induction n with
    | zero => intro x2 x3 H locs ls hf; exact absurd hf lo2_z
    | succ n ih59 =>
      intro x2 x3 H locs ls hf h hl
      have hf := lo2_s hf
      generalize lo2 (p_Model_count_B59 s) n = c59 at hf ih59
      unfold p_Model_count_B59 at hf
      refine lv_iload_n hx hb dX10_count_59 rfl (lv_at hl 2 rfl) ?_
      refine lv_aload_n hx hb dX10_count_60 rfl (lv_at hl 0 rfl) ?_
      refine gY_Model_citizens F h hinX10 (hts (.fieldLink RX10 98 "ElectionHouseModel" "citizens" "I") (by decide +kernel)) dX10_count_61 ?_
      refine lv_icmp_ge (tgt := 90) hx hb dX10_count_64 (by decide) (fun c_1 => ?_) (fun c_1 => ?_)
      · have hf := ip c_1 hf
        refine lv_iload_n hx hb dX10_count_90 rfl (lv_at hl 1 rfl) ?_
        exact retE_Ir F hr hlk h hf dX10_count_91
      · have hf := im c_1 hf
        refine lv_iload_n hx hb dX10_count_67 rfl (lv_at hl 1 rfl) ?_
        refine lv_aload_n hx hb dX10_count_68 rfl (lv_at hl 0 rfl) ?_
        refine gY_Model_isThere F h hinX10 (hts (.fieldLink RX10 16 "ElectionHouseModel" "isThere" "[Z") (by decide +kernel)) dX10_count_69 ?_
        refine lv_iload_n hx hb dX10_count_72 rfl (lv_at hl 2 rfl) ?_
        obtain ⟨gi2, hf⟩ := og hf
        refine lY_misThere F h gi2 dX10_count_73 ?_
        refine lv_if_eq (tgt := 81) hx hb dX10_count_74 (by decide) (fun c_3 => ?_) (fun c_3 => ?_)
        · have hf := ip c_3 hf
          refine lv_iconst (v := (0 : Int32)) hx hb dX10_count_81 (by decide) ?_
          refine lv_iadd hx hb dX10_count_82 ?_
          refine lv_istore_n (lv' := [(2, .int (x2 + (0 : Int32))), (0, .ref (Q 0)), (3, .int x3)]) hx hb dX10_count_83 rfl hl (by decide) rfl (fun ls hl => ?_)
          have hl := lv_sub (l' := [(0, .ref (Q 0)), (2, .int (x2 + (0 : Int32))), (3, .int x3)]) hl [1, 0, 2] rfl
          refine lv_iinc (v := (x3 + (1 : Int32))) (lv' := [(3, .int (x3 + (1 : Int32))), (0, .ref (Q 0)), (2, .int (x2 + (0 : Int32)))]) hx hb dX10_count_84 hl (k := 2) rfl (congrArg (fun z => x3 + z) (by decide : Int32.ofInt (1) = (1 : Int32))) (by decide) rfl (fun ls hl => ?_)
          have hl := lv_sub (l' := [(0, .ref (Q 0)), (2, .int (x2 + (0 : Int32))), (3, .int (x3 + (1 : Int32)))]) hl [1, 2, 0] rfl
          refine lv_goto (tgt := 59) hx hb dX10_count_87 (by decide) ?_
          exact ih59 (x2 + (0 : Int32)) (x3 + (1 : Int32)) H locs ls hf h (lv_sub hl [0, 1, 2] rfl)
        · have hf := im c_3 hf
          refine lv_iconst (v := (1 : Int32)) hx hb dX10_count_77 (by decide) ?_
          refine lv_goto (tgt := 82) hx hb dX10_count_78 (by decide) ?_
          refine lv_iadd hx hb dX10_count_82 ?_
          refine lv_istore_n (lv' := [(2, .int (x2 + (1 : Int32))), (0, .ref (Q 0)), (3, .int x3)]) hx hb dX10_count_83 rfl hl (by decide) rfl (fun ls hl => ?_)
          have hl := lv_sub (l' := [(0, .ref (Q 0)), (2, .int (x2 + (1 : Int32))), (3, .int x3)]) hl [1, 0, 2] rfl
          refine lv_iinc (v := (x3 + (1 : Int32))) (lv' := [(3, .int (x3 + (1 : Int32))), (0, .ref (Q 0)), (2, .int (x2 + (1 : Int32)))]) hx hb dX10_count_84 hl (k := 2) rfl (congrArg (fun z => x3 + z) (by decide : Int32.ofInt (1) = (1 : Int32))) (by decide) rfl (fun ls hl => ?_)
          have hl := lv_sub (l' := [(0, .ref (Q 0)), (2, .int (x2 + (1 : Int32))), (3, .int (x3 + (1 : Int32)))]) hl [1, 2, 0] rfl
          refine lv_goto (tgt := 59) hx hb dX10_count_87 (by decide) ?_
          exact ih59 (x2 + (1 : Int32)) (x3 + (1 : Int32)) H locs ls hf h (lv_sub hl [0, 1, 2] rfl)
  refine lv_iconst (v := (0 : Int32)) hx hb dX10_count_0 (by decide) ?_
  refine lv_istore_n (lv' := [(2, .int (0 : Int32)), (0, .ref (Q 0)), (1, .int x1)]) hx hb dX10_count_1 rfl hl (by decide) rfl (fun ls hl => ?_)
  have hl := lv_sub (l' := [(0, .ref (Q 0)), (1, .int x1), (2, .int (0 : Int32))]) hl [1, 2, 0] rfl
  refine lv_iload_n hx hb dX10_count_2 rfl (lv_at hl 1 rfl) ?_
  by_cases c_4 : x1 = (0 : Int32)
  · have hf := ip c_4 hf
    refine lv_tableIn (off := 49) (tgt := 52) hx hb dX10_count_3 (by rw [c_4]; decide) (by rw [c_4]; decide) (by rw [c_4]; rfl) (by decide) ?_
    refine lv_aload_n hx hb dX10_count_52 rfl (lv_at hl 0 rfl) ?_
    refine gY_Model_citizens F h hinX10 (hts (.fieldLink RX10 98 "ElectionHouseModel" "citizens" "I") (by decide +kernel)) dX10_count_53 ?_
    exact retE_Ir F hr hlk h hf dX10_count_56
  · have hf := im c_4 hf
    by_cases c_5 : x1 = (1 : Int32)
    · have hf := ip c_5 hf
      refine lv_tableIn (off := 54) (tgt := 57) hx hb dX10_count_3 (by rw [c_5]; decide) (by rw [c_5]; decide) (by rw [c_5]; rfl) (by decide) ?_
      refine lv_iconst (v := (0 : Int32)) hx hb dX10_count_57 (by decide) ?_
      refine lv_istore_n (lv' := [(3, .int (0 : Int32)), (0, .ref (Q 0)), (1, .int x1), (2, .int (0 : Int32))]) hx hb dX10_count_58 rfl hl (by decide) rfl (fun ls hl => ?_)
      have hl := lv_sub (l' := [(0, .ref (Q 0)), (1, .int x1), (2, .int (0 : Int32)), (3, .int (0 : Int32))]) hl [1, 2, 3, 0] rfl
      exact lab59 fuelN (0 : Int32) (0 : Int32) H locs ls hf h (lv_sub hl [0, 2, 3] rfl)
    · have hf := im c_5 hf
      by_cases c_6 : x1 = (2 : Int32)
      · have hf := ip c_6 hf
        refine lv_tableIn (off := 89) (tgt := 92) hx hb dX10_count_3 (by rw [c_6]; decide) (by rw [c_6]; decide) (by rw [c_6]; rfl) (by decide) ?_
        refine lv_aload_n hx hb dX10_count_92 rfl (lv_at hl 0 rfl) ?_
        refine gY_Model_pairs F h hinX10 (hts (.fieldLink RX10 115 "ElectionHouseModel" "pairs" "I") (by decide +kernel)) dX10_count_93 ?_
        exact retE_Ir F hr hlk h hf dX10_count_96
      · have hf := im c_6 hf
        by_cases c_7 : x1 = (3 : Int32)
        · have hf := ip c_7 hf
          refine lv_tableIn (off := 94) (tgt := 97) hx hb dX10_count_3 (by rw [c_7]; decide) (by rw [c_7]; decide) (by rw [c_7]; rfl) (by decide) ?_
          refine lv_aload_n hx hb dX10_count_97 rfl (lv_at hl 0 rfl) ?_
          refine gY_Model_steps F h hinX10 (hts (.fieldLink RX10 171 "ElectionHouseModel" "steps" "I") (by decide +kernel)) dX10_count_98 ?_
          exact retE_Ir F hr hlk h hf dX10_count_101
        · have hf := im c_7 hf
          by_cases c_8 : x1 = (4 : Int32)
          · have hf := ip c_8 hf
            refine lv_tableIn (off := 99) (tgt := 102) hx hb dX10_count_3 (by rw [c_8]; decide) (by rw [c_8]; decide) (by rw [c_8]; rfl) (by decide) ?_
            refine lv_aload_n hx hb dX10_count_102 rfl (lv_at hl 0 rfl) ?_
            refine gY_Model_done F h hinX10 (hts (.fieldLink RX10 105 "ElectionHouseModel" "done" "I") (by decide +kernel)) dX10_count_103 ?_
            exact retE_Ir F hr hlk h hf dX10_count_106
          · have hf := im c_8 hf
            by_cases c_9 : x1 = (5 : Int32)
            · have hf := ip c_9 hf
              refine lv_tableIn (off := 104) (tgt := 107) hx hb dX10_count_3 (by rw [c_9]; decide) (by rw [c_9]; decide) (by rw [c_9]; rfl) (by decide) ?_
              refine lv_aload_n hx hb dX10_count_107 rfl (lv_at hl 0 rfl) ?_
              obtain ⟨r11, hc10, hf⟩ := ob1 hf
              refine call_VI F (c_Model_bodyNow l Z Q s hc10) (cwV 0 hts gX10_count_X10_bodyNow rfl rfl rfl (by decide +kernel) ⟨Nat.le_of_ble_eq_true rfl, Nat.le_of_ble_eq_true rfl⟩) h (rcY_Model h) rfl hl.1 rfl (Nat.le_of_ble_eq_true rfl) ⟨Nat.zero_le _, Nat.zero_le _⟩ dX10_count_108 (fun H locs h => ?_)
              exact retE_Ir F hr hlk h hf dX10_count_111
            · have hf := im c_9 hf
              by_cases c_13 : x1 = (6 : Int32)
              · have hf := ip c_13 hf
                refine lv_tableIn (off := 109) (tgt := 112) hx hb dX10_count_3 (by rw [c_13]; decide) (by rw [c_13]; decide) (by rw [c_13]; rfl) (by decide) ?_
                refine lv_aload_n hx hb dX10_count_112 rfl (lv_at hl 0 rfl) ?_
                refine gY_Model_waiting F h hinX10 (hts (.fieldLink RX10 174 "ElectionHouseModel" "waiting" "I") (by decide +kernel)) dX10_count_113 ?_
                exact retE_Ir F hr hlk h hf dX10_count_116
              · have hf := im c_13 hf
                by_cases c_14 : x1 = (7 : Int32)
                · have hf := ip c_14 hf
                  refine lv_tableIn (off := 114) (tgt := 117) hx hb dX10_count_3 (by rw [c_14]; decide) (by rw [c_14]; decide) (by rw [c_14]; rfl) (by decide) ?_
                  refine lv_aload_n hx hb dX10_count_117 rfl (lv_at hl 0 rfl) ?_
                  refine gY_Model_used F h hinX10 (hts (.fieldLink RX10 177 "ElectionHouseModel" "used" "I") (by decide +kernel)) dX10_count_118 ?_
                  exact retE_Ir F hr hlk h hf dX10_count_121
                · have hf := im c_14 hf
                  by_cases c_15 : x1 = (8 : Int32)
                  · have hf := ip c_15 hf
                    refine lv_tableIn (off := 119) (tgt := 122) hx hb dX10_count_3 (by rw [c_15]; decide) (by rw [c_15]; decide) (by rw [c_15]; rfl) (by decide) ?_
                    refine lv_aload_n hx hb dX10_count_122 rfl (lv_at hl 0 rfl) ?_
                    refine gY_Model_taped F h hinX10 (hts (.fieldLink RX10 118 "ElectionHouseModel" "taped" "I") (by decide +kernel)) dX10_count_123 ?_
                    exact retE_Ir F hr hlk h hf dX10_count_126
                  · have hf := im c_15 hf
                    have nc_4 := lv_neT c_4 (show ((0 : Int32)).toInt = 0 by decide)
                    have nc_5 := lv_neT c_5 (show ((1 : Int32)).toInt = 1 by decide)
                    have nc_6 := lv_neT c_6 (show ((2 : Int32)).toInt = 2 by decide)
                    have nc_7 := lv_neT c_7 (show ((3 : Int32)).toInt = 3 by decide)
                    have nc_8 := lv_neT c_8 (show ((4 : Int32)).toInt = 4 by decide)
                    have nc_9 := lv_neT c_9 (show ((5 : Int32)).toInt = 5 by decide)
                    have nc_13 := lv_neT c_13 (show ((6 : Int32)).toInt = 6 by decide)
                    have nc_14 := lv_neT c_14 (show ((7 : Int32)).toInt = 7 by decide)
                    have nc_15 := lv_neT c_15 (show ((8 : Int32)).toInt = 8 by decide)
                    refine lv_tableOut (tgt := 127) hx hb dX10_count_3 (by omega) (by decide) ?_
                    refine lv_iconst (v := (-1 : Int32)) hx hb dX10_count_127 (by decide) ?_
                    exact retE_Ir F hr hlk h hf dX10_count_128

