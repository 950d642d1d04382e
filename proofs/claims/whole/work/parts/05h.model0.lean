set_option maxHeartbeats 8000000 in
set_option maxRecDepth 100000 in
theorem c_Model_in (l : Launch) (Z : ZT) (V : XS → va_W) (s : XS) (x0 : Int32) (x1 : Int32) (x2 : Int32) {r : Int32} (hf : p_Model_in x0 x1 x2 = some r) : KI l Z V yX10_in wsX10_in { frames := 0, cells := 0, slots := 0, locals := 0 } [.int x0, .int x1, .int x2] s r s := by
  intro sz
  refine met_entry (cc := cX10_in) (maxL := 3) (ret := (some .boolean)) (by decide) rfl (Nat.le_of_ble_eq_true rfl) sz rfl ?_
  generalize va_A (V s) sz = A
  intro p e s0 m args below meth c ls F hr hlk h hl
  have hl : lv_has ls 3 [(0, .int x0), (1, .int x1), (2, .int x2)] := hl
  obtain ⟨hx, hb, hml, hown, hts⟩ := id F
  obtain ⟨H, eH⟩ : ∃ z, z = s0.heap := ⟨_, rfl⟩
  obtain ⟨locs, eL⟩ : ∃ z : List Loc, z = [] := ⟨_, rfl⟩
  rw [← eH, ← eL] at h ⊢
  unfold p_Model_in at hf
  refine lv_iload_n hx hb dX10_in_0 rfl (lv_at hl 0 rfl) ?_
  refine lv_iload_n hx hb dX10_in_1 rfl (lv_at hl 1 rfl) ?_
  refine lv_icmp_lt (tgt := 14) hx hb dX10_in_2 (by decide) (fun c_1 => ?_) (fun c_1 => ?_)
  · have hf := ip c_1 hf
    refine lv_iconst (v := (0 : Int32)) hx hb dX10_in_14 (by decide) ?_
    exact retE_Zr F hr hlk (by decide) h hf dX10_in_15
  · have hf := im c_1 hf
    refine lv_iload_n hx hb dX10_in_5 rfl (lv_at hl 0 rfl) ?_
    refine lv_iload_n hx hb dX10_in_6 rfl (lv_at hl 2 rfl) ?_
    refine lv_icmp_gt (tgt := 14) hx hb dX10_in_7 (by decide) (fun c_2 => ?_) (fun c_2 => ?_)
    · have hf := ip c_2 hf
      refine lv_iconst (v := (0 : Int32)) hx hb dX10_in_14 (by decide) ?_
      exact retE_Zr F hr hlk (by decide) h hf dX10_in_15
    · have hf := im c_2 hf
      refine lv_iconst (v := (1 : Int32)) hx hb dX10_in_10 (by decide) ?_
      refine lv_goto (tgt := 15) hx hb dX10_in_11 (by decide) ?_
      exact retE_Zr F hr hlk (by decide) h hf dX10_in_15

set_option maxHeartbeats 8000000 in
set_option maxRecDepth 100000 in
theorem c_Model_isCitizen (l : Launch) (Z : ZT) (Q : Nat → Nat) (s : XS) (x1 : Int32) {r : Int32} (hf : p_Model_isCitizen x1 s = some r) : KI l Z (wY Z Q) yX10_isCitizen wsX10_isCitizen { frames := 1, cells := 0, slots := 0, locals := 22 } [.ref (Q 0), .int x1] s r s := by
  intro sz
  refine met_entry (cc := cX10_isCitizen) (maxL := 2) (ret := (some .boolean)) (by decide) rfl (Nat.le_of_ble_eq_true rfl) sz rfl ?_
  generalize va_A (wY Z Q s) sz = A
  intro p e s0 m args below meth c ls F hr hlk h hl
  have hl : lv_has ls 2 [(0, .ref (Q 0)), (1, .int x1)] := hl
  obtain ⟨hx, hb, hml, hown, hts⟩ := id F
  have hinX10 : ∀ w ∈ wsX100, w ∈ wsX10_isCitizen := by decide +kernel
  obtain ⟨H, eH⟩ : ∃ z, z = s0.heap := ⟨_, rfl⟩
  obtain ⟨locs, eL⟩ : ∃ z : List Loc, z = [] := ⟨_, rfl⟩
  rw [← eH, ← eL] at h ⊢
  unfold p_Model_isCitizen at hf
  refine lv_iload_n hx hb dX10_isCitizen_0 rfl (lv_at hl 1 rfl) ?_
  refine lv_iconst (v := (0 : Int32)) hx hb dX10_isCitizen_1 (by decide) ?_
  refine lv_aload_n hx hb dX10_isCitizen_2 rfl (lv_at hl 0 rfl) ?_
  refine gY_Model_citizens F h hinX10 (hts (.fieldLink RX10 98 "ElectionHouseModel" "citizens" "I") (by decide +kernel)) dX10_isCitizen_3 ?_
  refine lv_iconst (v := (1 : Int32)) hx hb dX10_isCitizen_6 (by decide) ?_
  refine lv_isub hx hb dX10_isCitizen_7 ?_
  obtain ⟨r2, hc1, hf⟩ := ob1 hf
  refine call_SI F (c_Model_in l Z (wY Z Q) s x1 (0 : Int32) ((gM s 0 0) - (1 : Int32)) hc1) (va_cwS 3 hts gX10_isCitizen_X10_in rfl rfl rfl (by decide +kernel) ⟨Nat.le_of_ble_eq_true rfl, Nat.le_of_ble_eq_true rfl⟩) h rfl hl.1 rfl (Nat.le_of_ble_eq_true rfl) ⟨Nat.zero_le _, Nat.zero_le _⟩ dX10_isCitizen_8 (fun H locs h => ?_)
  obtain ⟨gz, hf⟩ := og hf
  exact retE_Zr F hr hlk gz h hf dX10_isCitizen_11

set_option maxHeartbeats 8000000 in
set_option maxRecDepth 100000 in
theorem c_Model_begins (l : Launch) (Z : ZT) (Q : Nat → Nat) (s : XS) {s' : XS} (hf : p_Model_begins s = some s') : KV l Z (wY Z Q) yX10_begins wsX10_begins { frames := 0, cells := 0, slots := 0, locals := 0 } [.ref (Q 0)] s s' := by
  intro sz
  refine met_entry (cc := cX10_begins) (maxL := 2) (ret := none) (by decide) rfl (Nat.le_of_ble_eq_true rfl) sz rfl ?_
  generalize va_A (wY Z Q s) sz = A
  intro p e s0 m args below meth c ls F hr hlk h hl
  have hl : lv_has ls 2 [(0, .ref (Q 0))] := hl
  obtain ⟨hx, hb, hml, hown, hts⟩ := id F
  have hinX10 : ∀ w ∈ wsX100, w ∈ wsX10_begins := by decide +kernel
  obtain ⟨H, eH⟩ : ∃ z, z = s0.heap := ⟨_, rfl⟩
  obtain ⟨locs, eL⟩ : ∃ z : List Loc, z = [] := ⟨_, rfl⟩
  rw [← eH, ← eL] at h ⊢
  unfold p_Model_begins at hf
  have lab17 : ∀ (n : Nat) (x1 : Int32) (s : XS) (H : Heap) (locs : List Loc) (ls : Array Slot), lo2 (p_Model_begins_B17) n x1 s = some s' → HW Z (wY Z Q) A s0 H locs s → lv_has ls 2 [(0, .ref (Q 0)), (1, .int x1)] → W p l e { frames := 0, cells := 0, slots := 0, locals := 0 } s0 m args below meth c H locs 0 0 (MQ below (QcV Z (wY Z Q) A s') args s0 0 0 A) (F0 m 17 ls []) := by
    intro n
    induction n with
    | zero => intro x1 s H locs ls hf; exact absurd hf lo2_z
    | succ n ih17 =>
      intro x1 s H locs ls hf h hl
      have hf := lo2_s hf
      generalize lo2 (p_Model_begins_B17) n = c17 at hf ih17
      unfold p_Model_begins_B17 at hf
      refine lv_iload_n hx hb dX10_begins_17 rfl (lv_at hl 1 rfl) ?_
      refine lv_aload_n hx hb dX10_begins_18 rfl (lv_at hl 0 rfl) ?_
      refine gY_Model_citizens F h hinX10 (hts (.fieldLink RX10 98 "ElectionHouseModel" "citizens" "I") (by decide +kernel)) dX10_begins_19 ?_
      refine lv_icmp_ge (tgt := 65) hx hb dX10_begins_22 (by decide) (fun c_1 => ?_) (fun c_1 => ?_)
      · have hf := ip c_1 hf
        exact retE_V F hr hlk h hf dX10_begins_65
      · have hf := im c_1 hf
        refine lv_aload_n hx hb dX10_begins_25 rfl (lv_at hl 0 rfl) ?_
        refine gY_Model_isThere F h hinX10 (hts (.fieldLink RX10 16 "ElectionHouseModel" "isThere" "[Z") (by decide +kernel)) dX10_begins_26 ?_
        refine lv_iload_n hx hb dX10_begins_29 rfl (lv_at hl 1 rfl) ?_
        obtain ⟨gi2, hf⟩ := og hf
        refine lY_misThere F h gi2 dX10_begins_30 ?_
        refine lv_if_ne (tgt := 37) hx hb dX10_begins_31 (by decide) (fun c_3 => ?_) (fun c_3 => ?_)
        · have hf := im c_3 hf
          refine lv_aload_n hx hb dX10_begins_37 rfl (lv_at hl 0 rfl) ?_
          refine gY_Model_bodies F h hinX10 (hts (.fieldLink RX10 57 "ElectionHouseModel" "bodies" "[I") (by decide +kernel)) dX10_begins_38 ?_
          refine lv_aload_n hx hb dX10_begins_41 rfl (lv_at hl 0 rfl) ?_
          refine gY_Model_bodyMany F h hinX10 (hts (.fieldLink RX10 54 "ElectionHouseModel" "bodyMany" "[I") (by decide +kernel)) dX10_begins_42 ?_
          refine lv_iconst (v := (0 : Int32)) hx hb dX10_begins_45 (by decide) ?_
          obtain ⟨gi4, hf⟩ := og hf
          refine lY_mbodyMany F h gi4 dX10_begins_46 ?_
          refine lv_iload_n hx hb dX10_begins_47 rfl (lv_at hl 1 rfl) ?_
          obtain ⟨gi5, hf⟩ := og hf
          refine sY_mbodies F h gi5 dX10_begins_48 (fun H locs h => ?_)
          obtain ⟨s6, es, hf⟩ := olq hf
          rw [← es] at h
          refine lv_aload_n hx hb dX10_begins_49 rfl (lv_at hl 0 rfl) ?_
          refine gY_Model_bodyMany F h hinX10 (hts (.fieldLink RX10 54 "ElectionHouseModel" "bodyMany" "[I") (by decide +kernel)) dX10_begins_50 ?_
          refine lv_iconst (v := (0 : Int32)) hx hb dX10_begins_53 (by decide) ?_
          refine lv_dup2_11 hx hb dX10_begins_54 rfl rfl ?_
          obtain ⟨gi7, hf⟩ := og hf
          refine lY_mbodyMany F h gi7 dX10_begins_55 ?_
          refine lv_iconst (v := (1 : Int32)) hx hb dX10_begins_56 (by decide) ?_
          refine lv_iadd hx hb dX10_begins_57 ?_
          obtain ⟨gi8, hf⟩ := og hf
          refine sY_mbodyMany F h gi8 dX10_begins_58 (fun H locs h => ?_)
          obtain ⟨s9, es, hf⟩ := olq hf
          rw [← es] at h
          refine lv_iinc (v := (x1 + (1 : Int32))) (lv' := [(1, .int (x1 + (1 : Int32))), (0, .ref (Q 0))]) hx hb dX10_begins_59 hl (k := 1) rfl (congrArg (fun z => x1 + z) (by decide : Int32.ofInt (1) = (1 : Int32))) (by decide) rfl (fun ls hl => ?_)
          have hl := lv_sub (l' := [(0, .ref (Q 0)), (1, .int (x1 + (1 : Int32)))]) hl [1, 0] rfl
          refine lv_goto (tgt := 17) hx hb dX10_begins_62 (by decide) ?_
          exact ih17 (x1 + (1 : Int32)) s9 H locs ls hf h (lv_sub hl [0, 1] rfl)
        · have hf := ip c_3 hf
          refine lv_goto (tgt := 59) hx hb dX10_begins_34 (by decide) ?_
          refine lv_iinc (v := (x1 + (1 : Int32))) (lv' := [(1, .int (x1 + (1 : Int32))), (0, .ref (Q 0))]) hx hb dX10_begins_59 hl (k := 1) rfl (congrArg (fun z => x1 + z) (by decide : Int32.ofInt (1) = (1 : Int32))) (by decide) rfl (fun ls hl => ?_)
          have hl := lv_sub (l' := [(0, .ref (Q 0)), (1, .int (x1 + (1 : Int32)))]) hl [1, 0] rfl
          refine lv_goto (tgt := 17) hx hb dX10_begins_62 (by decide) ?_
          exact ih17 (x1 + (1 : Int32)) s H locs ls hf h (lv_sub hl [0, 1] rfl)
  refine lv_aload_n hx hb dX10_begins_0 rfl (lv_at hl 0 rfl) ?_
  refine gY_Model_done F h hinX10 (hts (.fieldLink RX10 105 "ElectionHouseModel" "done" "I") (by decide +kernel)) dX10_begins_1 ?_
  refine lv_if_le (tgt := 8) hx hb dX10_begins_4 (by decide) (fun c_10 => ?_) (fun c_10 => ?_)
  · have hf := ip c_10 hf
    refine lv_aload_n hx hb dX10_begins_8 rfl (lv_at hl 0 rfl) ?_
    refine gY_Model_bodyMany F h hinX10 (hts (.fieldLink RX10 54 "ElectionHouseModel" "bodyMany" "[I") (by decide +kernel)) dX10_begins_9 ?_
    refine lv_iconst (v := (0 : Int32)) hx hb dX10_begins_12 (by decide) ?_
    refine lv_iconst (v := (0 : Int32)) hx hb dX10_begins_13 (by decide) ?_
    obtain ⟨gi11, hf⟩ := og hf
    refine sY_mbodyMany F h gi11 dX10_begins_14 (fun H locs h => ?_)
    obtain ⟨s12, es, hf⟩ := olq hf
    rw [← es] at h
    refine lv_iconst (v := (0 : Int32)) hx hb dX10_begins_15 (by decide) ?_
    refine lv_istore_n (lv' := [(1, .int (0 : Int32)), (0, .ref (Q 0))]) hx hb dX10_begins_16 rfl hl (by decide) rfl (fun ls hl => ?_)
    have hl := lv_sub (l' := [(0, .ref (Q 0)), (1, .int (0 : Int32))]) hl [1, 0] rfl
    exact lab17 fuelN (0 : Int32) s12 H locs ls hf h (lv_sub hl [0, 1] rfl)
  · have hf := im c_10 hf
    exact retE_V F hr hlk h hf dX10_begins_7

set_option maxHeartbeats 8000000 in
set_option maxRecDepth 100000 in
theorem c_Model_citizen (l : Launch) (Z : ZT) (Q : Nat → Nat) (s : XS) (x1 : Int32) (x2 : Int32) {r : Int32} {s' : XS} (hf : p_Model_citizen x1 x2 s = some (r, s')) : KI l Z (wY Z Q) yX10_citizen wsX10_citizen { frames := 1, cells := 0, slots := 0, locals := 22 } [.ref (Q 0), .int x1, .int x2] s r s' := by
  intro sz
  refine met_entry (cc := cX10_citizen) (maxL := 3) (ret := (some .int)) (by decide) rfl (Nat.le_of_ble_eq_true rfl) sz rfl ?_
  generalize va_A (wY Z Q s) sz = A
  intro p e s0 m args below meth c ls F hr hlk h hl
  have hl : lv_has ls 3 [(0, .ref (Q 0)), (1, .int x1), (2, .int x2)] := hl
  obtain ⟨hx, hb, hml, hown, hts⟩ := id F
  have hinX10 : ∀ w ∈ wsX100, w ∈ wsX10_citizen := by decide +kernel
  obtain ⟨H, eH⟩ : ∃ z, z = s0.heap := ⟨_, rfl⟩
  obtain ⟨locs, eL⟩ : ∃ z : List Loc, z = [] := ⟨_, rfl⟩
  rw [← eH, ← eL] at h ⊢
  unfold p_Model_citizen at hf
  refine lv_aload_n hx hb dX10_citizen_0 rfl (lv_at hl 0 rfl) ?_
  refine gY_Model_citizens F h hinX10 (hts (.fieldLink RX10 98 "ElectionHouseModel" "citizens" "I") (by decide +kernel)) dX10_citizen_1 ?_
  refine lv_bipush (v := (40 : Int32)) hx hb dX10_citizen_4 (by decide) ?_
  refine lv_icmp_eq (tgt := 35) hx hb dX10_citizen_6 (by decide) (fun c_1 => ?_) (fun c_1 => ?_)
  · have hf := ip c_1 hf
    refine lv_iconst (v := (-1 : Int32)) hx hb dX10_citizen_35 (by decide) ?_
    exact retE_I F hr hlk h hf dX10_citizen_36
  · have hf := im c_1 hf
    refine lv_iload_n hx hb dX10_citizen_9 rfl (lv_at hl 1 rfl) ?_
    refine lv_iconst (v := (0 : Int32)) hx hb dX10_citizen_10 (by decide) ?_
    refine lv_bipush (v := (11 : Int32)) hx hb dX10_citizen_11 (by decide) ?_
    obtain ⟨r3, hc2, hf⟩ := ob1 hf
    refine call_SI F (c_Model_in l Z (wY Z Q) s x1 (0 : Int32) (11 : Int32) hc2) (va_cwS 3 hts gX10_citizen_X10_in rfl rfl rfl (by decide +kernel) ⟨Nat.le_of_ble_eq_true rfl, Nat.le_of_ble_eq_true rfl⟩) h rfl hl.1 rfl (Nat.le_of_ble_eq_true rfl) ⟨Nat.zero_le _, Nat.zero_le _⟩ dX10_citizen_13 (fun H locs h => ?_)
    refine lv_if_eq (tgt := 35) hx hb dX10_citizen_16 (by decide) (fun c_5 => ?_) (fun c_5 => ?_)
    · have hf := ip c_5 hf
      refine lv_iconst (v := (-1 : Int32)) hx hb dX10_citizen_35 (by decide) ?_
      exact retE_I F hr hlk h hf dX10_citizen_36
    · have hf := im c_5 hf
      refine lv_iload_n hx hb dX10_citizen_19 rfl (lv_at hl 2 rfl) ?_
      refine lv_iconst (v := (0 : Int32)) hx hb dX10_citizen_20 (by decide) ?_
      refine lv_iconst (v := (3 : Int32)) hx hb dX10_citizen_21 (by decide) ?_
      obtain ⟨r7, hc6, hf⟩ := ob1 hf
      refine call_SI F (c_Model_in l Z (wY Z Q) s x2 (0 : Int32) (3 : Int32) hc6) (va_cwS 3 hts gX10_citizen_X10_in rfl rfl rfl (by decide +kernel) ⟨Nat.le_of_ble_eq_true rfl, Nat.le_of_ble_eq_true rfl⟩) h rfl hl.1 rfl (Nat.le_of_ble_eq_true rfl) ⟨Nat.zero_le _, Nat.zero_le _⟩ dX10_citizen_22 (fun H locs h => ?_)
      refine lv_if_eq (tgt := 35) hx hb dX10_citizen_25 (by decide) (fun c_9 => ?_) (fun c_9 => ?_)
      · have hf := ip c_9 hf
        refine lv_iconst (v := (-1 : Int32)) hx hb dX10_citizen_35 (by decide) ?_
        exact retE_I F hr hlk h hf dX10_citizen_36
      · have hf := im c_9 hf
        refine lv_aload_n hx hb dX10_citizen_28 rfl (lv_at hl 0 rfl) ?_
        refine gY_Model_done F h hinX10 (hts (.fieldLink RX10 105 "ElectionHouseModel" "done" "I") (by decide +kernel)) dX10_citizen_29 ?_
        refine lv_if_le (tgt := 37) hx hb dX10_citizen_32 (by decide) (fun c_10 => ?_) (fun c_10 => ?_)
        · have hf := ip c_10 hf
          refine lv_aload_n hx hb dX10_citizen_37 rfl (lv_at hl 0 rfl) ?_
          refine gY_Model_house F h hinX10 (hts (.fieldLink RX10 7 "ElectionHouseModel" "house" "[I") (by decide +kernel)) dX10_citizen_38 ?_
          refine lv_aload_n hx hb dX10_citizen_41 rfl (lv_at hl 0 rfl) ?_
          refine gY_Model_citizens F h hinX10 (hts (.fieldLink RX10 98 "ElectionHouseModel" "citizens" "I") (by decide +kernel)) dX10_citizen_42 ?_
          refine lv_iload_n hx hb dX10_citizen_45 rfl (lv_at hl 1 rfl) ?_
          obtain ⟨gi11, hf⟩ := og hf
          refine sY_mhouse F h gi11 dX10_citizen_46 (fun H locs h => ?_)
          obtain ⟨s12, es, hf⟩ := olq hf
          rw [← es] at h
          refine lv_aload_n hx hb dX10_citizen_47 rfl (lv_at hl 0 rfl) ?_
          refine gY_Model_party F h hinX10 (hts (.fieldLink RX10 13 "ElectionHouseModel" "party" "[I") (by decide +kernel)) dX10_citizen_48 ?_
          refine lv_aload_n hx hb dX10_citizen_51 rfl (lv_at hl 0 rfl) ?_
          refine gY_Model_citizens F h hinX10 (hts (.fieldLink RX10 98 "ElectionHouseModel" "citizens" "I") (by decide +kernel)) dX10_citizen_52 ?_
          refine lv_iload_n hx hb dX10_citizen_55 rfl (lv_at hl 2 rfl) ?_
          obtain ⟨gi13, hf⟩ := og hf
          refine sY_mparty F h gi13 dX10_citizen_56 (fun H locs h => ?_)
          obtain ⟨s14, es, hf⟩ := olq hf
          rw [← es] at h
          refine lv_aload_n hx hb dX10_citizen_57 rfl (lv_at hl 0 rfl) ?_
          refine gY_Model_isThere F h hinX10 (hts (.fieldLink RX10 16 "ElectionHouseModel" "isThere" "[Z") (by decide +kernel)) dX10_citizen_58 ?_
          refine lv_aload_n hx hb dX10_citizen_61 rfl (lv_at hl 0 rfl) ?_
          refine gY_Model_citizens F h hinX10 (hts (.fieldLink RX10 98 "ElectionHouseModel" "citizens" "I") (by decide +kernel)) dX10_citizen_62 ?_
          refine lv_iconst (v := (1 : Int32)) hx hb dX10_citizen_65 (by decide) ?_
          obtain ⟨gi15, hf⟩ := og hf
          refine sY_misThere F h gi15 dX10_citizen_66 (fun H locs h => ?_)
          obtain ⟨s16, es, hf⟩ := olq hf
          rw [← es] at h
          refine lv_aload_n hx hb dX10_citizen_67 rfl (lv_at hl 0 rfl) ?_
          refine lv_dup hx hb dX10_citizen_68 rfl ?_
          refine gY_Model_citizens F h hinX10 (hts (.fieldLink RX10 98 "ElectionHouseModel" "citizens" "I") (by decide +kernel)) dX10_citizen_69 ?_
          refine lv_iconst (v := (1 : Int32)) hx hb dX10_citizen_72 (by decide) ?_
          refine lv_iadd hx hb dX10_citizen_73 ?_
          refine pY_Model_citizens F h hinX10 (hts (.fieldLink RX10 98 "ElectionHouseModel" "citizens" "I") (by decide +kernel)) dX10_citizen_74 (fun H locs h => ?_)
          obtain ⟨s17, es, hf⟩ := olq hf
          rw [← es] at h
          refine lv_aload_n hx hb dX10_citizen_77 rfl (lv_at hl 0 rfl) ?_
          obtain ⟨s20, hc18, hf⟩ := ob1 hf
          refine call_VV F (c_Model_begins l Z Q s17 hc18) (cwV 0 hts gX10_citizen_X10_begins rfl rfl rfl (by decide +kernel) ⟨Nat.le_of_ble_eq_true rfl, Nat.le_of_ble_eq_true rfl⟩) h (rcY_Model h) rfl hl.1 rfl (Nat.le_of_ble_eq_true rfl) ⟨Nat.zero_le _, Nat.zero_le _⟩ dX10_citizen_78 (fun H locs h => ?_)
          refine lv_aload_n hx hb dX10_citizen_81 rfl (lv_at hl 0 rfl) ?_
          refine gY_Model_citizens F h hinX10 (hts (.fieldLink RX10 98 "ElectionHouseModel" "citizens" "I") (by decide +kernel)) dX10_citizen_82 ?_
          refine lv_iconst (v := (1 : Int32)) hx hb dX10_citizen_85 (by decide) ?_
          refine lv_isub hx hb dX10_citizen_86 ?_
          exact retE_I F hr hlk h hf dX10_citizen_87
        · have hf := im c_10 hf
          refine lv_iconst (v := (-1 : Int32)) hx hb dX10_citizen_35 (by decide) ?_
          exact retE_I F hr hlk h hf dX10_citizen_36

set_option maxHeartbeats 8000000 in
set_option maxRecDepth 100000 in
theorem c_Model_there (l : Launch) (Z : ZT) (Q : Nat → Nat) (s : XS) (x1 : Int32) (x2 : Int32) {r : Int32} {s' : XS} (hf : p_Model_there x1 x2 s = some (r, s')) : KI l Z (wY Z Q) yX10_there wsX10_there { frames := 2, cells := 0, slots := 0, locals := 43 } [.ref (Q 0), .int x1, .int x2] s r s' := by
  intro sz
  refine met_entry (cc := cX10_there) (maxL := 3) (ret := (some .boolean)) (by decide) rfl (Nat.le_of_ble_eq_true rfl) sz rfl ?_
  generalize va_A (wY Z Q s) sz = A
  intro p e s0 m args below meth c ls F hr hlk h hl
  have hl : lv_has ls 3 [(0, .ref (Q 0)), (1, .int x1), (2, .int x2)] := hl
  obtain ⟨hx, hb, hml, hown, hts⟩ := id F
  have hinX10 : ∀ w ∈ wsX100, w ∈ wsX10_there := by decide +kernel
  obtain ⟨H, eH⟩ : ∃ z, z = s0.heap := ⟨_, rfl⟩
  obtain ⟨locs, eL⟩ : ∃ z : List Loc, z = [] := ⟨_, rfl⟩
  rw [← eH, ← eL] at h ⊢
  unfold p_Model_there at hf
  refine lv_aload_n hx hb dX10_there_0 rfl (lv_at hl 0 rfl) ?_
  refine lv_iload_n hx hb dX10_there_1 rfl (lv_at hl 1 rfl) ?_
  obtain ⟨r2, hc1, hf⟩ := ob1 hf
  refine call_VI F (c_Model_isCitizen l Z Q s x1 hc1) (cwV 1 hts gX10_there_X10_isCitizen rfl rfl rfl (by decide +kernel) ⟨Nat.le_of_ble_eq_true rfl, Nat.le_of_ble_eq_true rfl⟩) h (rcY_Model h) rfl hl.1 rfl (Nat.le_of_ble_eq_true rfl) ⟨Nat.zero_le _, Nat.zero_le _⟩ dX10_there_2 (fun H locs h => ?_)
  refine lv_if_eq (tgt := 18) hx hb dX10_there_5 (by decide) (fun c_4 => ?_) (fun c_4 => ?_)
  · have hf := ip c_4 hf
    refine lv_iconst (v := (0 : Int32)) hx hb dX10_there_18 (by decide) ?_
    exact retE_Z F hr hlk (by decide) h hf dX10_there_19
  · have hf := im c_4 hf
    refine lv_aload_n hx hb dX10_there_8 rfl (lv_at hl 0 rfl) ?_
    refine gY_Model_isThere F h hinX10 (hts (.fieldLink RX10 16 "ElectionHouseModel" "isThere" "[Z") (by decide +kernel)) dX10_there_9 ?_
    refine lv_iload_n hx hb dX10_there_12 rfl (lv_at hl 1 rfl) ?_
    obtain ⟨gi5, hf⟩ := og hf
    refine lY_misThere F h gi5 dX10_there_13 ?_
    refine lv_iload_n hx hb dX10_there_14 rfl (lv_at hl 2 rfl) ?_
    refine lv_icmp_ne (tgt := 20) hx hb dX10_there_15 (by decide) (fun c_6 => ?_) (fun c_6 => ?_)
    · have hf := im c_6 hf
      refine lv_aload_n hx hb dX10_there_20 rfl (lv_at hl 0 rfl) ?_
      refine gY_Model_isThere F h hinX10 (hts (.fieldLink RX10 16 "ElectionHouseModel" "isThere" "[Z") (by decide +kernel)) dX10_there_21 ?_
      refine lv_iload_n hx hb dX10_there_24 rfl (lv_at hl 1 rfl) ?_
      refine lv_iload_n hx hb dX10_there_25 rfl (lv_at hl 2 rfl) ?_
      obtain ⟨gi7, hf⟩ := og hf
      refine sY_misThere F h gi7 dX10_there_26 (fun H locs h => ?_)
      obtain ⟨s8, es, hf⟩ := olq hf
      rw [← es] at h
      refine lv_aload_n hx hb dX10_there_27 rfl (lv_at hl 0 rfl) ?_
      obtain ⟨s11, hc9, hf⟩ := ob1 hf
      refine call_VV F (c_Model_begins l Z Q s8 hc9) (cwV 0 hts gX10_there_X10_begins rfl rfl rfl (by decide +kernel) ⟨Nat.le_of_ble_eq_true rfl, Nat.le_of_ble_eq_true rfl⟩) h (rcY_Model h) rfl hl.1 rfl (Nat.le_of_ble_eq_true rfl) ⟨Nat.zero_le _, Nat.zero_le _⟩ dX10_there_28 (fun H locs h => ?_)
      refine lv_iconst (v := (1 : Int32)) hx hb dX10_there_31 (by decide) ?_
      exact retE_Z F hr hlk (by decide) h hf dX10_there_32
    · have hf := ip c_6 hf
      refine lv_iconst (v := (0 : Int32)) hx hb dX10_there_18 (by decide) ?_
      exact retE_Z F hr hlk (by decide) h hf dX10_there_19

set_option maxHeartbeats 8000000 in
set_option maxRecDepth 100000 in
theorem c_Model_kin (l : Launch) (Z : ZT) (Q : Nat → Nat) (s : XS) (x1 : Int32) (x2 : Int32) {r : Int32} {s' : XS} (hf : p_Model_kin x1 x2 s = some (r, s')) : KI l Z (wY Z Q) yX10_kin wsX10_kin { frames := 2, cells := 0, slots := 0, locals := 43 } [.ref (Q 0), .int x1, .int x2] s r s' := by
  intro sz
  refine met_entry (cc := cX10_kin) (maxL := 3) (ret := (some .boolean)) (by decide) rfl (Nat.le_of_ble_eq_true rfl) sz rfl ?_
  generalize va_A (wY Z Q s) sz = A
  intro p e s0 m args below meth c ls F hr hlk h hl
  have hl : lv_has ls 3 [(0, .ref (Q 0)), (1, .int x1), (2, .int x2)] := hl
  obtain ⟨hx, hb, hml, hown, hts⟩ := id F
  have hinX10 : ∀ w ∈ wsX100, w ∈ wsX10_kin := by decide +kernel
  obtain ⟨H, eH⟩ : ∃ z, z = s0.heap := ⟨_, rfl⟩
  obtain ⟨locs, eL⟩ : ∃ z : List Loc, z = [] := ⟨_, rfl⟩
  rw [← eH, ← eL] at h ⊢
  unfold p_Model_kin at hf
  refine lv_aload_n hx hb dX10_kin_0 rfl (lv_at hl 0 rfl) ?_
  refine lv_iload_n hx hb dX10_kin_1 rfl (lv_at hl 1 rfl) ?_
  obtain ⟨r2, hc1, hf⟩ := ob1 hf
  refine call_VI F (c_Model_isCitizen l Z Q s x1 hc1) (cwV 1 hts gX10_kin_X10_isCitizen rfl rfl rfl (by decide +kernel) ⟨Nat.le_of_ble_eq_true rfl, Nat.le_of_ble_eq_true rfl⟩) h (rcY_Model h) rfl hl.1 rfl (Nat.le_of_ble_eq_true rfl) ⟨Nat.zero_le _, Nat.zero_le _⟩ dX10_kin_2 (fun H locs h => ?_)
  refine lv_if_eq (tgt := 44) hx hb dX10_kin_5 (by decide) (fun c_4 => ?_) (fun c_4 => ?_)
  · have hf := ip c_4 hf
    refine lv_iconst (v := (0 : Int32)) hx hb dX10_kin_44 (by decide) ?_
    exact retE_Z F hr hlk (by decide) h hf dX10_kin_45
  · have hf := im c_4 hf
    refine lv_aload_n hx hb dX10_kin_8 rfl (lv_at hl 0 rfl) ?_
    refine lv_iload_n hx hb dX10_kin_9 rfl (lv_at hl 2 rfl) ?_
    obtain ⟨r6, hc5, hf⟩ := ob1 hf
    refine call_VI F (c_Model_isCitizen l Z Q s x2 hc5) (cwV 1 hts gX10_kin_X10_isCitizen rfl rfl rfl (by decide +kernel) ⟨Nat.le_of_ble_eq_true rfl, Nat.le_of_ble_eq_true rfl⟩) h (rcY_Model h) rfl hl.1 rfl (Nat.le_of_ble_eq_true rfl) ⟨Nat.zero_le _, Nat.zero_le _⟩ dX10_kin_10 (fun H locs h => ?_)
    refine lv_if_eq (tgt := 44) hx hb dX10_kin_13 (by decide) (fun c_8 => ?_) (fun c_8 => ?_)
    · have hf := ip c_8 hf
      refine lv_iconst (v := (0 : Int32)) hx hb dX10_kin_44 (by decide) ?_
      exact retE_Z F hr hlk (by decide) h hf dX10_kin_45
    · have hf := im c_8 hf
      refine lv_iload_n hx hb dX10_kin_16 rfl (lv_at hl 1 rfl) ?_
      refine lv_iload_n hx hb dX10_kin_17 rfl (lv_at hl 2 rfl) ?_
      refine lv_icmp_eq (tgt := 44) hx hb dX10_kin_18 (by decide) (fun c_9 => ?_) (fun c_9 => ?_)
      · have hf := ip c_9 hf
        refine lv_iconst (v := (0 : Int32)) hx hb dX10_kin_44 (by decide) ?_
        exact retE_Z F hr hlk (by decide) h hf dX10_kin_45
      · have hf := im c_9 hf
        refine lv_aload_n hx hb dX10_kin_21 rfl (lv_at hl 0 rfl) ?_
        refine gY_Model_isKin F h hinX10 (hts (.fieldLink RX10 20 "ElectionHouseModel" "isKin" "[Z") (by decide +kernel)) dX10_kin_22 ?_
        refine lv_bipush (v := (40 : Int32)) hx hb dX10_kin_25 (by decide) ?_
        refine lv_iload_n hx hb dX10_kin_27 rfl (lv_at hl 1 rfl) ?_
        refine lv_imul hx hb dX10_kin_28 ?_
        refine lv_iload_n hx hb dX10_kin_29 rfl (lv_at hl 2 rfl) ?_
        refine lv_iadd hx hb dX10_kin_30 ?_
        obtain ⟨gi10, hf⟩ := og hf
        refine lY_misKin F h gi10 dX10_kin_31 ?_
        refine lv_if_ne (tgt := 44) hx hb dX10_kin_32 (by decide) (fun c_11 => ?_) (fun c_11 => ?_)
        · have hf := im c_11 hf
          refine lv_iconst (v := (0 : Int32)) hx hb dX10_kin_44 (by decide) ?_
          exact retE_Z F hr hlk (by decide) h hf dX10_kin_45
        · have hf := ip c_11 hf
          refine lv_aload_n hx hb dX10_kin_35 rfl (lv_at hl 0 rfl) ?_
          refine gY_Model_pairs F h hinX10 (hts (.fieldLink RX10 115 "ElectionHouseModel" "pairs" "I") (by decide +kernel)) dX10_kin_36 ?_
          refine lv_bipush (v := (60 : Int32)) hx hb dX10_kin_39 (by decide) ?_
          refine lv_icmp_ne (tgt := 46) hx hb dX10_kin_41 (by decide) (fun c_12 => ?_) (fun c_12 => ?_)
          · have hf := im c_12 hf
            refine lv_aload_n hx hb dX10_kin_46 rfl (lv_at hl 0 rfl) ?_
            refine gY_Model_isKin F h hinX10 (hts (.fieldLink RX10 20 "ElectionHouseModel" "isKin" "[Z") (by decide +kernel)) dX10_kin_47 ?_
            refine lv_bipush (v := (40 : Int32)) hx hb dX10_kin_50 (by decide) ?_
            refine lv_iload_n hx hb dX10_kin_52 rfl (lv_at hl 1 rfl) ?_
            refine lv_imul hx hb dX10_kin_53 ?_
            refine lv_iload_n hx hb dX10_kin_54 rfl (lv_at hl 2 rfl) ?_
            refine lv_iadd hx hb dX10_kin_55 ?_
            refine lv_iconst (v := (1 : Int32)) hx hb dX10_kin_56 (by decide) ?_
            obtain ⟨gi13, hf⟩ := og hf
            refine sY_misKin F h gi13 dX10_kin_57 (fun H locs h => ?_)
            obtain ⟨s14, es, hf⟩ := olq hf
            rw [← es] at h
            refine lv_aload_n hx hb dX10_kin_58 rfl (lv_at hl 0 rfl) ?_
            refine gY_Model_isKin F h hinX10 (hts (.fieldLink RX10 20 "ElectionHouseModel" "isKin" "[Z") (by decide +kernel)) dX10_kin_59 ?_
            refine lv_bipush (v := (40 : Int32)) hx hb dX10_kin_62 (by decide) ?_
            refine lv_iload_n hx hb dX10_kin_64 rfl (lv_at hl 2 rfl) ?_
            refine lv_imul hx hb dX10_kin_65 ?_
            refine lv_iload_n hx hb dX10_kin_66 rfl (lv_at hl 1 rfl) ?_
            refine lv_iadd hx hb dX10_kin_67 ?_
            refine lv_iconst (v := (1 : Int32)) hx hb dX10_kin_68 (by decide) ?_
            obtain ⟨gi15, hf⟩ := og hf
            refine sY_misKin F h gi15 dX10_kin_69 (fun H locs h => ?_)
            obtain ⟨s16, es, hf⟩ := olq hf
            rw [← es] at h
            refine lv_aload_n hx hb dX10_kin_70 rfl (lv_at hl 0 rfl) ?_
            refine lv_dup hx hb dX10_kin_71 rfl ?_
            refine gY_Model_pairs F h hinX10 (hts (.fieldLink RX10 115 "ElectionHouseModel" "pairs" "I") (by decide +kernel)) dX10_kin_72 ?_
            refine lv_iconst (v := (1 : Int32)) hx hb dX10_kin_75 (by decide) ?_
            refine lv_iadd hx hb dX10_kin_76 ?_
            refine pY_Model_pairs F h hinX10 (hts (.fieldLink RX10 115 "ElectionHouseModel" "pairs" "I") (by decide +kernel)) dX10_kin_77 (fun H locs h => ?_)
            obtain ⟨s17, es, hf⟩ := olq hf
            rw [← es] at h
            refine lv_iconst (v := (1 : Int32)) hx hb dX10_kin_80 (by decide) ?_
            exact retE_Z F hr hlk (by decide) h hf dX10_kin_81
          · have hf := ip c_12 hf
            refine lv_iconst (v := (0 : Int32)) hx hb dX10_kin_44 (by decide) ?_
            exact retE_Z F hr hlk (by decide) h hf dX10_kin_45

set_option maxHeartbeats 8000000 in
set_option maxRecDepth 100000 in
theorem c_Model_says (l : Launch) (Z : ZT) (Q : Nat → Nat) (s : XS) (x1 : Int32) (x2 : Int32) (x3 : Int32) {r : Int32} {s' : XS} (hf : p_Model_says x1 x2 x3 s = some (r, s')) : KI l Z (wY Z Q) yX10_says wsX10_says { frames := 1, cells := 0, slots := 0, locals := 22 } [.ref (Q 0), .int x1, .int x2, .int x3] s r s' := by
  intro sz
  refine met_entry (cc := cX10_says) (maxL := 4) (ret := (some .boolean)) (by decide) rfl (Nat.le_of_ble_eq_true rfl) sz rfl ?_
  generalize va_A (wY Z Q s) sz = A
  intro p e s0 m args below meth c ls F hr hlk h hl
  have hl : lv_has ls 4 [(0, .ref (Q 0)), (1, .int x1), (2, .int x2), (3, .int x3)] := hl
  obtain ⟨hx, hb, hml, hown, hts⟩ := id F
  have hinX10 : ∀ w ∈ wsX100, w ∈ wsX10_says := by decide +kernel
  obtain ⟨H, eH⟩ : ∃ z, z = s0.heap := ⟨_, rfl⟩
  obtain ⟨locs, eL⟩ : ∃ z : List Loc, z = [] := ⟨_, rfl⟩
  rw [← eH, ← eL] at h ⊢
  unfold p_Model_says at hf
  refine lv_iload_n hx hb dX10_says_0 rfl (lv_at hl 1 rfl) ?_
  refine lv_iconst (v := (0 : Int32)) hx hb dX10_says_1 (by decide) ?_
  refine lv_iconst (v := (3 : Int32)) hx hb dX10_says_2 (by decide) ?_
  obtain ⟨r2, hc1, hf⟩ := ob1 hf
  refine call_SI F (c_Model_in l Z (wY Z Q) s x1 (0 : Int32) (3 : Int32) hc1) (va_cwS 3 hts gX10_says_X10_in rfl rfl rfl (by decide +kernel) ⟨Nat.le_of_ble_eq_true rfl, Nat.le_of_ble_eq_true rfl⟩) h rfl hl.1 rfl (Nat.le_of_ble_eq_true rfl) ⟨Nat.zero_le _, Nat.zero_le _⟩ dX10_says_3 (fun H locs h => ?_)
  refine lv_if_eq (tgt := 32) hx hb dX10_says_6 (by decide) (fun c_4 => ?_) (fun c_4 => ?_)
  · have hf := ip c_4 hf
    refine lv_iconst (v := (0 : Int32)) hx hb dX10_says_32 (by decide) ?_
    exact retE_Z F hr hlk (by decide) h hf dX10_says_33
  · have hf := im c_4 hf
    refine lv_iload_n hx hb dX10_says_9 rfl (lv_at hl 2 rfl) ?_
    refine lv_iconst (v := (0 : Int32)) hx hb dX10_says_10 (by decide) ?_
    refine lv_iconst (v := (3 : Int32)) hx hb dX10_says_11 (by decide) ?_
    obtain ⟨r6, hc5, hf⟩ := ob1 hf
    refine call_SI F (c_Model_in l Z (wY Z Q) s x2 (0 : Int32) (3 : Int32) hc5) (va_cwS 3 hts gX10_says_X10_in rfl rfl rfl (by decide +kernel) ⟨Nat.le_of_ble_eq_true rfl, Nat.le_of_ble_eq_true rfl⟩) h rfl hl.1 rfl (Nat.le_of_ble_eq_true rfl) ⟨Nat.zero_le _, Nat.zero_le _⟩ dX10_says_12 (fun H locs h => ?_)
    refine lv_if_eq (tgt := 32) hx hb dX10_says_15 (by decide) (fun c_8 => ?_) (fun c_8 => ?_)
    · have hf := ip c_8 hf
      refine lv_iconst (v := (0 : Int32)) hx hb dX10_says_32 (by decide) ?_
      exact retE_Z F hr hlk (by decide) h hf dX10_says_33
    · have hf := im c_8 hf
      refine lv_aload_n hx hb dX10_says_18 rfl (lv_at hl 0 rfl) ?_
      refine gY_Model_yes F h hinX10 (hts (.fieldLink RX10 23 "ElectionHouseModel" "yes" "[Z") (by decide +kernel)) dX10_says_19 ?_
      refine lv_iconst (v := (4 : Int32)) hx hb dX10_says_22 (by decide) ?_
      refine lv_iload_n hx hb dX10_says_23 rfl (lv_at hl 1 rfl) ?_
      refine lv_imul hx hb dX10_says_24 ?_
      refine lv_iload_n hx hb dX10_says_25 rfl (lv_at hl 2 rfl) ?_
      refine lv_iadd hx hb dX10_says_26 ?_
      obtain ⟨gi9, hf⟩ := og hf
      refine lY_myes F h gi9 dX10_says_27 ?_
      refine lv_iload_n hx hb dX10_says_28 rfl (lv_at hl 3 rfl) ?_
      refine lv_icmp_ne (tgt := 34) hx hb dX10_says_29 (by decide) (fun c_10 => ?_) (fun c_10 => ?_)
      · have hf := im c_10 hf
        refine lv_aload_n hx hb dX10_says_34 rfl (lv_at hl 0 rfl) ?_
        refine gY_Model_yes F h hinX10 (hts (.fieldLink RX10 23 "ElectionHouseModel" "yes" "[Z") (by decide +kernel)) dX10_says_35 ?_
        refine lv_iconst (v := (4 : Int32)) hx hb dX10_says_38 (by decide) ?_
        refine lv_iload_n hx hb dX10_says_39 rfl (lv_at hl 1 rfl) ?_
        refine lv_imul hx hb dX10_says_40 ?_
        refine lv_iload_n hx hb dX10_says_41 rfl (lv_at hl 2 rfl) ?_
        refine lv_iadd hx hb dX10_says_42 ?_
        refine lv_iload_n hx hb dX10_says_43 rfl (lv_at hl 3 rfl) ?_
        obtain ⟨gi11, hf⟩ := og hf
        refine sY_myes F h gi11 dX10_says_44 (fun H locs h => ?_)
        obtain ⟨s12, es, hf⟩ := olq hf
        rw [← es] at h
        refine lv_iconst (v := (1 : Int32)) hx hb dX10_says_45 (by decide) ?_
        exact retE_Z F hr hlk (by decide) h hf dX10_says_46
      · have hf := ip c_10 hf
        refine lv_iconst (v := (0 : Int32)) hx hb dX10_says_32 (by decide) ?_
        exact retE_Z F hr hlk (by decide) h hf dX10_says_33

set_option maxHeartbeats 8000000 in
set_option maxRecDepth 100000 in
theorem c_Model_turn (l : Launch) (Z : ZT) (Q : Nat → Nat) (s : XS) (x1 : Int32) (x2 : Int32) (x3 : Int32) {r : Int32} {s' : XS} (hf : p_Model_turn x1 x2 x3 s = some (r, s')) : KI l Z (wY Z Q) yX10_turn wsX10_turn { frames := 2, cells := 0, slots := 0, locals := 43 } [.ref (Q 0), .int x1, .int x2, .int x3] s r s' := by
  intro sz
  refine met_entry (cc := cX10_turn) (maxL := 4) (ret := (some .boolean)) (by decide) rfl (Nat.le_of_ble_eq_true rfl) sz rfl ?_
  generalize va_A (wY Z Q s) sz = A
  intro p e s0 m args below meth c ls F hr hlk h hl
  have hl : lv_has ls 4 [(0, .ref (Q 0)), (1, .int x1), (2, .int x2), (3, .int x3)] := hl
  obtain ⟨hx, hb, hml, hown, hts⟩ := id F
  have hinX10 : ∀ w ∈ wsX100, w ∈ wsX10_turn := by decide +kernel
  obtain ⟨H, eH⟩ : ∃ z, z = s0.heap := ⟨_, rfl⟩
  obtain ⟨locs, eL⟩ : ∃ z : List Loc, z = [] := ⟨_, rfl⟩
  rw [← eH, ← eL] at h ⊢
  unfold p_Model_turn at hf
  refine lv_aload_n hx hb dX10_turn_0 rfl (lv_at hl 0 rfl) ?_
  refine lv_iload_n hx hb dX10_turn_1 rfl (lv_at hl 1 rfl) ?_
  obtain ⟨r2, hc1, hf⟩ := ob1 hf
  refine call_VI F (c_Model_isCitizen l Z Q s x1 hc1) (cwV 1 hts gX10_turn_X10_isCitizen rfl rfl rfl (by decide +kernel) ⟨Nat.le_of_ble_eq_true rfl, Nat.le_of_ble_eq_true rfl⟩) h (rcY_Model h) rfl hl.1 rfl (Nat.le_of_ble_eq_true rfl) ⟨Nat.zero_le _, Nat.zero_le _⟩ dX10_turn_2 (fun H locs h => ?_)
  refine lv_if_eq (tgt := 27) hx hb dX10_turn_5 (by decide) (fun c_4 => ?_) (fun c_4 => ?_)
  · have hf := ip c_4 hf
    refine lv_iconst (v := (0 : Int32)) hx hb dX10_turn_27 (by decide) ?_
    exact retE_Z F hr hlk (by decide) h hf dX10_turn_28
  · have hf := im c_4 hf
    refine lv_iload_n hx hb dX10_turn_8 rfl (lv_at hl 2 rfl) ?_
    refine lv_iconst (v := (0 : Int32)) hx hb dX10_turn_9 (by decide) ?_
    refine lv_bipush (v := (11 : Int32)) hx hb dX10_turn_10 (by decide) ?_
    obtain ⟨r6, hc5, hf⟩ := ob1 hf
    refine call_SI F (c_Model_in l Z (wY Z Q) s x2 (0 : Int32) (11 : Int32) hc5) (va_cwS 3 hts gX10_turn_X10_in rfl rfl rfl (by decide +kernel) ⟨Nat.le_of_ble_eq_true rfl, Nat.le_of_ble_eq_true rfl⟩) h rfl hl.1 rfl (Nat.le_of_ble_eq_true rfl) ⟨Nat.zero_le _, Nat.zero_le _⟩ dX10_turn_12 (fun H locs h => ?_)
    refine lv_if_eq (tgt := 27) hx hb dX10_turn_15 (by decide) (fun c_8 => ?_) (fun c_8 => ?_)
    · have hf := ip c_8 hf
      refine lv_iconst (v := (0 : Int32)) hx hb dX10_turn_27 (by decide) ?_
      exact retE_Z F hr hlk (by decide) h hf dX10_turn_28
    · have hf := im c_8 hf
      refine lv_iload_n hx hb dX10_turn_18 rfl (lv_at hl 3 rfl) ?_
      refine lv_iconst (v := (0 : Int32)) hx hb dX10_turn_19 (by decide) ?_
      refine lv_iconst (v := (3 : Int32)) hx hb dX10_turn_20 (by decide) ?_
      obtain ⟨r10, hc9, hf⟩ := ob1 hf
      refine call_SI F (c_Model_in l Z (wY Z Q) s x3 (0 : Int32) (3 : Int32) hc9) (va_cwS 3 hts gX10_turn_X10_in rfl rfl rfl (by decide +kernel) ⟨Nat.le_of_ble_eq_true rfl, Nat.le_of_ble_eq_true rfl⟩) h rfl hl.1 rfl (Nat.le_of_ble_eq_true rfl) ⟨Nat.zero_le _, Nat.zero_le _⟩ dX10_turn_21 (fun H locs h => ?_)
      refine lv_if_ne (tgt := 29) hx hb dX10_turn_24 (by decide) (fun c_12 => ?_) (fun c_12 => ?_)
      · have hf := im c_12 hf
        refine lv_aload_n hx hb dX10_turn_29 rfl (lv_at hl 0 rfl) ?_
        refine gY_Model_house F h hinX10 (hts (.fieldLink RX10 7 "ElectionHouseModel" "house" "[I") (by decide +kernel)) dX10_turn_30 ?_
        refine lv_iload_n hx hb dX10_turn_33 rfl (lv_at hl 1 rfl) ?_
        refine lv_iload_n hx hb dX10_turn_34 rfl (lv_at hl 2 rfl) ?_
        obtain ⟨gi13, hf⟩ := og hf
        refine sY_mhouse F h gi13 dX10_turn_35 (fun H locs h => ?_)
        obtain ⟨s14, es, hf⟩ := olq hf
        rw [← es] at h
        refine lv_aload_n hx hb dX10_turn_36 rfl (lv_at hl 0 rfl) ?_
        refine gY_Model_party F h hinX10 (hts (.fieldLink RX10 13 "ElectionHouseModel" "party" "[I") (by decide +kernel)) dX10_turn_37 ?_
        refine lv_iload_n hx hb dX10_turn_40 rfl (lv_at hl 1 rfl) ?_
        refine lv_iload_n hx hb dX10_turn_41 rfl (lv_at hl 3 rfl) ?_
        obtain ⟨gi15, hf⟩ := og hf
        refine sY_mparty F h gi15 dX10_turn_42 (fun H locs h => ?_)
        obtain ⟨s16, es, hf⟩ := olq hf
        rw [← es] at h
        refine lv_iconst (v := (1 : Int32)) hx hb dX10_turn_43 (by decide) ?_
        exact retE_Z F hr hlk (by decide) h hf dX10_turn_44
      · have hf := ip c_12 hf
        refine lv_iconst (v := (0 : Int32)) hx hb dX10_turn_27 (by decide) ?_
        exact retE_Z F hr hlk (by decide) h hf dX10_turn_28

set_option maxHeartbeats 8000000 in
set_option maxRecDepth 100000 in
theorem c_Model_four (l : Launch) (Z : ZT) (Q : Nat → Nat) (s : XS) (x1 : Int32) {s' : XS} (hf : p_Model_four x1 s = some s') : KV l Z (wY Z Q) yX10_four wsX10_four { frames := 0, cells := 0, slots := 0, locals := 0 } [.ref (Q 0), .int x1] s s' := by
  intro sz
  refine met_entry (cc := cX10_four) (maxL := 3) (ret := none) (by decide) rfl (Nat.le_of_ble_eq_true rfl) sz rfl ?_
  generalize va_A (wY Z Q s) sz = A
  intro p e s0 m args below meth c ls F hr hlk h hl
  have hl : lv_has ls 3 [(0, .ref (Q 0)), (1, .int x1)] := hl
  obtain ⟨hx, hb, hml, hown, hts⟩ := id F
  have hinX10 : ∀ w ∈ wsX100, w ∈ wsX10_four := by decide +kernel
  obtain ⟨H, eH⟩ : ∃ z, z = s0.heap := ⟨_, rfl⟩
  obtain ⟨locs, eL⟩ : ∃ z : List Loc, z = [] := ⟨_, rfl⟩
  rw [← eH, ← eL] at h ⊢
  unfold p_Model_four at hf
  have lab3 : ∀ (x1 : Int32) (n : Nat) (x2 : Int32) (s : XS) (H : Heap) (locs : List Loc) (ls : Array Slot), lo2 (p_Model_four_B3 x1) n x2 s = some s' → HW Z (wY Z Q) A s0 H locs s → lv_has ls 3 [(0, .ref (Q 0)), (1, .int x1), (2, .int x2)] → W p l e { frames := 0, cells := 0, slots := 0, locals := 0 } s0 m args below meth c H locs 0 0 (MQ below (QcV Z (wY Z Q) A s') args s0 0 0 A) (F0 m 3 ls []) := by
    intro x1 n
    induction n with
    | zero => intro x2 s H locs ls hf; exact absurd hf lo2_z
    | succ n ih3 =>
      intro x2 s H locs ls hf h hl
      have hf := lo2_s hf
      generalize lo2 (p_Model_four_B3 x1) n = c3 at hf ih3
      unfold p_Model_four_B3 at hf
      refine lv_iload_n hx hb dX10_four_3 rfl (lv_at hl 2 rfl) ?_
      refine lv_if_lt (tgt := 36) hx hb dX10_four_4 (by decide) (fun c_1 => ?_) (fun c_1 => ?_)
      · have hf := ip c_1 hf
        exact retE_V F hr hlk h hf dX10_four_36
      · have hf := im c_1 hf
        refine lv_aload_n hx hb dX10_four_7 rfl (lv_at hl 0 rfl) ?_
        refine gY_Model_tape F h hinX10 (hts (.fieldLink RX10 26 "ElectionHouseModel" "tape" "[B") (by decide +kernel)) dX10_four_8 ?_
        refine lv_aload_n hx hb dX10_four_11 rfl (lv_at hl 0 rfl) ?_
        refine gY_Model_taped F h hinX10 (hts (.fieldLink RX10 118 "ElectionHouseModel" "taped" "I") (by decide +kernel)) dX10_four_12 ?_
        refine lv_iload_n hx hb dX10_four_15 rfl (lv_at hl 1 rfl) ?_
        refine lv_iload_n hx hb dX10_four_16 rfl (lv_at hl 2 rfl) ?_
        refine lv_ishr hx hb dX10_four_17 ?_
        refine lv_i2b (v := ((x1 >>> (x2 &&& 31))).toInt8.toInt32) hx hb dX10_four_18 rfl ?_
        obtain ⟨gi2, hf⟩ := og hf
        refine sY_mtape F h gi2 dX10_four_19 (fun H locs h => ?_)
        obtain ⟨s3, es, hf⟩ := olq hf
        rw [← es] at h
        refine lv_aload_n hx hb dX10_four_20 rfl (lv_at hl 0 rfl) ?_
        refine lv_dup hx hb dX10_four_21 rfl ?_
        refine gY_Model_taped F h hinX10 (hts (.fieldLink RX10 118 "ElectionHouseModel" "taped" "I") (by decide +kernel)) dX10_four_22 ?_
        refine lv_iconst (v := (1 : Int32)) hx hb dX10_four_25 (by decide) ?_
        refine lv_iadd hx hb dX10_four_26 ?_
        refine pY_Model_taped F h hinX10 (hts (.fieldLink RX10 118 "ElectionHouseModel" "taped" "I") (by decide +kernel)) dX10_four_27 (fun H locs h => ?_)
        obtain ⟨s4, es, hf⟩ := olq hf
        rw [← es] at h
        refine lv_iinc (v := (x2 + (-8 : Int32))) (lv' := [(2, .int (x2 + (-8 : Int32))), (0, .ref (Q 0)), (1, .int x1)]) hx hb dX10_four_30 hl (k := 2) rfl (congrArg (fun z => x2 + z) (by decide : Int32.ofInt (-8) = (-8 : Int32))) (by decide) rfl (fun ls hl => ?_)
        have hl := lv_sub (l' := [(0, .ref (Q 0)), (1, .int x1), (2, .int (x2 + (-8 : Int32)))]) hl [1, 2, 0] rfl
        refine lv_goto (tgt := 3) hx hb dX10_four_33 (by decide) ?_
        exact ih3 (x2 + (-8 : Int32)) s4 H locs ls hf h (lv_sub hl [0, 1, 2] rfl)
  refine lv_bipush (v := (24 : Int32)) hx hb dX10_four_0 (by decide) ?_
  refine lv_istore_n (lv' := [(2, .int (24 : Int32)), (0, .ref (Q 0)), (1, .int x1)]) hx hb dX10_four_2 rfl hl (by decide) rfl (fun ls hl => ?_)
  have hl := lv_sub (l' := [(0, .ref (Q 0)), (1, .int x1), (2, .int (24 : Int32))]) hl [1, 2, 0] rfl
  exact lab3 x1 fuelN (24 : Int32) s H locs ls hf h (lv_sub hl [0, 1, 2] rfl)

set_option maxHeartbeats 8000000 in
set_option maxRecDepth 100000 in
theorem c_Model_feed (l : Launch) (Z : ZT) (Q : Nat → Nat) (s : XS) (x1 : Int32) (x2 : Int32) (x3 : Int32) (x4 : Int32) (x5 : Int32) {r : Int32} {s' : XS} (hf : p_Model_feed x1 x2 x3 x4 x5 s = some (r, s')) : KI l Z (wY Z Q) yX10_feed wsX10_feed { frames := 1, cells := 0, slots := 0, locals := 22 } [.ref (Q 0), .int x1, .int x2, .int x3, .int x4, .int x5] s r s' := by
  intro sz
  refine met_entry (cc := cX10_feed) (maxL := 6) (ret := (some .int)) (by decide) rfl (Nat.le_of_ble_eq_true rfl) sz rfl ?_
  generalize va_A (wY Z Q s) sz = A
  intro p e s0 m args below meth c ls F hr hlk h hl
  have hl : lv_has ls 6 [(0, .ref (Q 0)), (1, .int x1), (2, .int x2), (3, .int x3), (4, .int x4), (5, .int x5)] := hl
  obtain ⟨hx, hb, hml, hown, hts⟩ := id F
  have hinX10 : ∀ w ∈ wsX100, w ∈ wsX10_feed := by decide +kernel
  obtain ⟨H, eH⟩ : ∃ z, z = s0.heap := ⟨_, rfl⟩
  obtain ⟨locs, eL⟩ : ∃ z : List Loc, z = [] := ⟨_, rfl⟩
  rw [← eH, ← eL] at h ⊢
  unfold p_Model_feed at hf
  refine lv_aload_n hx hb dX10_feed_0 rfl (lv_at hl 0 rfl) ?_
  refine gY_Model_taped F h hinX10 (hts (.fieldLink RX10 118 "ElectionHouseModel" "taped" "I") (by decide +kernel)) dX10_feed_1 ?_
  refine lv_bipush (v := (20 : Int32)) hx hb dX10_feed_4 (by decide) ?_
  refine lv_iadd hx hb dX10_feed_6 ?_
  refine lv_sipush (v := (300 : Int32)) hx hb dX10_feed_7 (by decide) ?_
  refine lv_icmp_le (tgt := 15) hx hb dX10_feed_10 (by decide) (fun c_1 => ?_) (fun c_1 => ?_)
  · have hf := ip c_1 hf
    refine lv_aload_n hx hb dX10_feed_15 rfl (lv_at hl 0 rfl) ?_
    refine lv_iload_n hx hb dX10_feed_16 rfl (lv_at hl 1 rfl) ?_
    obtain ⟨s4, hc2, hf⟩ := ob1 hf
    refine call_VV F (c_Model_four l Z Q s x1 hc2) (cwV 1 hts gX10_feed_X10_four rfl rfl rfl (by decide +kernel) ⟨Nat.le_of_ble_eq_true rfl, Nat.le_of_ble_eq_true rfl⟩) h (rcY_Model h) rfl hl.1 rfl (Nat.le_of_ble_eq_true rfl) ⟨Nat.zero_le _, Nat.zero_le _⟩ dX10_feed_17 (fun H locs h => ?_)
    refine lv_aload_n hx hb dX10_feed_20 rfl (lv_at hl 0 rfl) ?_
    refine lv_iload_n hx hb dX10_feed_21 rfl (lv_at hl 2 rfl) ?_
    obtain ⟨s7, hc5, hf⟩ := ob1 hf
    refine call_VV F (c_Model_four l Z Q s4 x2 hc5) (cwV 1 hts gX10_feed_X10_four rfl rfl rfl (by decide +kernel) ⟨Nat.le_of_ble_eq_true rfl, Nat.le_of_ble_eq_true rfl⟩) h (rcY_Model h) rfl hl.1 rfl (Nat.le_of_ble_eq_true rfl) ⟨Nat.zero_le _, Nat.zero_le _⟩ dX10_feed_22 (fun H locs h => ?_)
    refine lv_aload_n hx hb dX10_feed_25 rfl (lv_at hl 0 rfl) ?_
    refine lv_iload_n hx hb dX10_feed_26 rfl (lv_at hl 3 rfl) ?_
    obtain ⟨s10, hc8, hf⟩ := ob1 hf
    refine call_VV F (c_Model_four l Z Q s7 x3 hc8) (cwV 1 hts gX10_feed_X10_four rfl rfl rfl (by decide +kernel) ⟨Nat.le_of_ble_eq_true rfl, Nat.le_of_ble_eq_true rfl⟩) h (rcY_Model h) rfl hl.1 rfl (Nat.le_of_ble_eq_true rfl) ⟨Nat.zero_le _, Nat.zero_le _⟩ dX10_feed_27 (fun H locs h => ?_)
    refine lv_aload_n hx hb dX10_feed_30 rfl (lv_at hl 0 rfl) ?_
    refine lv_iload hx hb dX10_feed_31 (lv_at hl 4 rfl) ?_
    obtain ⟨s13, hc11, hf⟩ := ob1 hf
    refine call_VV F (c_Model_four l Z Q s10 x4 hc11) (cwV 1 hts gX10_feed_X10_four rfl rfl rfl (by decide +kernel) ⟨Nat.le_of_ble_eq_true rfl, Nat.le_of_ble_eq_true rfl⟩) h (rcY_Model h) rfl hl.1 rfl (Nat.le_of_ble_eq_true rfl) ⟨Nat.zero_le _, Nat.zero_le _⟩ dX10_feed_33 (fun H locs h => ?_)
    refine lv_aload_n hx hb dX10_feed_36 rfl (lv_at hl 0 rfl) ?_
    refine lv_iload hx hb dX10_feed_37 (lv_at hl 5 rfl) ?_
    obtain ⟨s16, hc14, hf⟩ := ob1 hf
    refine call_VV F (c_Model_four l Z Q s13 x5 hc14) (cwV 1 hts gX10_feed_X10_four rfl rfl rfl (by decide +kernel) ⟨Nat.le_of_ble_eq_true rfl, Nat.le_of_ble_eq_true rfl⟩) h (rcY_Model h) rfl hl.1 rfl (Nat.le_of_ble_eq_true rfl) ⟨Nat.zero_le _, Nat.zero_le _⟩ dX10_feed_39 (fun H locs h => ?_)
    refine lv_aload_n hx hb dX10_feed_42 rfl (lv_at hl 0 rfl) ?_
    refine gY_Model_taped F h hinX10 (hts (.fieldLink RX10 118 "ElectionHouseModel" "taped" "I") (by decide +kernel)) dX10_feed_43 ?_
    exact retE_I F hr hlk h hf dX10_feed_46
  · have hf := im c_1 hf
    refine lv_iconst (v := (-1 : Int32)) hx hb dX10_feed_13 (by decide) ?_
    exact retE_I F hr hlk h hf dX10_feed_14

set_option maxHeartbeats 8000000 in
set_option maxRecDepth 100000 in
theorem c_Model_end (l : Launch) (Z : ZT) (Q : Nat → Nat) (s : XS) (x1 : Int32) {r : Int32} {s' : XS} (hf : p_Model_end x1 s = some (r, s')) : KI l Z (wY Z Q) yX10_end wsX10_end { frames := 0, cells := 0, slots := 0, locals := 0 } [.ref (Q 0), .int x1] s r s' := by
  intro sz
  refine met_entry (cc := cX10_end) (maxL := 2) (ret := (some .int)) (by decide) rfl (Nat.le_of_ble_eq_true rfl) sz rfl ?_
  generalize va_A (wY Z Q s) sz = A
  intro p e s0 m args below meth c ls F hr hlk h hl
  have hl : lv_has ls 2 [(0, .ref (Q 0)), (1, .int x1)] := hl
  obtain ⟨hx, hb, hml, hown, hts⟩ := id F
  have hinX10 : ∀ w ∈ wsX100, w ∈ wsX10_end := by decide +kernel
  obtain ⟨H, eH⟩ : ∃ z, z = s0.heap := ⟨_, rfl⟩
  obtain ⟨locs, eL⟩ : ∃ z : List Loc, z = [] := ⟨_, rfl⟩
  rw [← eH, ← eL] at h ⊢
  unfold p_Model_end at hf
  refine lv_iload_n hx hb dX10_end_0 rfl (lv_at hl 1 rfl) ?_
  refine lv_if_lt (tgt := 12) hx hb dX10_end_1 (by decide) (fun c_1 => ?_) (fun c_1 => ?_)
  · have hf := ip c_1 hf
    refine lv_iconst (v := (-1 : Int32)) hx hb dX10_end_12 (by decide) ?_
    exact retE_I F hr hlk h hf dX10_end_13
  · have hf := im c_1 hf
    refine lv_iload_n hx hb dX10_end_4 rfl (lv_at hl 1 rfl) ?_
    refine lv_aload_n hx hb dX10_end_5 rfl (lv_at hl 0 rfl) ?_
    refine gY_Model_taped F h hinX10 (hts (.fieldLink RX10 118 "ElectionHouseModel" "taped" "I") (by decide +kernel)) dX10_end_6 ?_
    refine lv_icmp_le (tgt := 14) hx hb dX10_end_9 (by decide) (fun c_2 => ?_) (fun c_2 => ?_)
    · have hf := ip c_2 hf
      refine lv_aload_n hx hb dX10_end_14 rfl (lv_at hl 0 rfl) ?_
      refine lv_iload_n hx hb dX10_end_15 rfl (lv_at hl 1 rfl) ?_
      refine pY_Model_taped F h hinX10 (hts (.fieldLink RX10 118 "ElectionHouseModel" "taped" "I") (by decide +kernel)) dX10_end_16 (fun H locs h => ?_)
      obtain ⟨s3, es, hf⟩ := olq hf
      rw [← es] at h
      refine lv_iload_n hx hb dX10_end_19 rfl (lv_at hl 1 rfl) ?_
      exact retE_I F hr hlk h hf dX10_end_20
    · have hf := im c_2 hf
      refine lv_iconst (v := (-1 : Int32)) hx hb dX10_end_12 (by decide) ?_
      exact retE_I F hr hlk h hf dX10_end_13

set_option maxHeartbeats 8000000 in
set_option maxRecDepth 100000 in
theorem c_Model_fails (l : Launch) (Z : ZT) (Q : Nat → Nat) (s : XS) (x1 : Int32) (x2 : Int32) {r : Int32} {s' : XS} (hf : p_Model_fails x1 x2 s = some (r, s')) : KI l Z (wY Z Q) yX10_fails wsX10_fails { frames := 0, cells := 0, slots := 0, locals := 0 } [.ref (Q 0), .int x1, .int x2] s r s' := by
  intro sz
  refine met_entry (cc := cX10_fails) (maxL := 3) (ret := (some .boolean)) (by decide) rfl (Nat.le_of_ble_eq_true rfl) sz rfl ?_
  generalize va_A (wY Z Q s) sz = A
  intro p e s0 m args below meth c ls F hr hlk h hl
  have hl : lv_has ls 3 [(0, .ref (Q 0)), (1, .int x1), (2, .int x2)] := hl
  obtain ⟨hx, hb, hml, hown, hts⟩ := id F
  have hinX10 : ∀ w ∈ wsX100, w ∈ wsX10_fails := by decide +kernel
  obtain ⟨H, eH⟩ : ∃ z, z = s0.heap := ⟨_, rfl⟩
  obtain ⟨locs, eL⟩ : ∃ z : List Loc, z = [] := ⟨_, rfl⟩
  rw [← eH, ← eL] at h ⊢
  unfold p_Model_fails at hf
  refine lv_aload_n hx hb dX10_fails_0 rfl (lv_at hl 0 rfl) ?_
  refine gY_Model_fault F h hinX10 (hts (.fieldLink RX10 125 "ElectionHouseModel" "fault" "I") (by decide +kernel)) dX10_fails_1 ?_
  refine lv_if_ne (tgt := 19) hx hb dX10_fails_4 (by decide) (fun c_1 => ?_) (fun c_1 => ?_)
  · have hf := im c_1 hf
    refine lv_iconst (v := (0 : Int32)) hx hb dX10_fails_19 (by decide) ?_
    exact retE_Z F hr hlk (by decide) h hf dX10_fails_20
  · have hf := ip c_1 hf
    refine lv_aload_n hx hb dX10_fails_7 rfl (lv_at hl 0 rfl) ?_
    refine lv_iconst (v := (1 : Int32)) hx hb dX10_fails_8 (by decide) ?_
    refine lv_bipush (v := (8 : Int32)) hx hb dX10_fails_9 (by decide) ?_
    refine lv_iload_n hx hb dX10_fails_11 rfl (lv_at hl 2 rfl) ?_
    refine lv_imul hx hb dX10_fails_12 ?_
    refine lv_iadd hx hb dX10_fails_13 ?_
    refine lv_iload_n hx hb dX10_fails_14 rfl (lv_at hl 1 rfl) ?_
    refine lv_iadd hx hb dX10_fails_15 ?_
    refine pY_Model_fault F h hinX10 (hts (.fieldLink RX10 125 "ElectionHouseModel" "fault" "I") (by decide +kernel)) dX10_fails_16 (fun H locs h => ?_)
    obtain ⟨s2, es, hf⟩ := olq hf
    rw [← es] at h
    refine lv_iconst (v := (0 : Int32)) hx hb dX10_fails_19 (by decide) ?_
    exact retE_Z F hr hlk (by decide) h hf dX10_fails_20

set_option maxHeartbeats 8000000 in
set_option maxRecDepth 100000 in
theorem c_Model_see (l : Launch) (Z : ZT) (Q : Nat → Nat) (s : XS) {r : Int32} {s' : XS} (hf : p_Model_see s = some (r, s')) : KI l Z (wY Z Q) yX10_see wsX10_see { frames := 0, cells := 0, slots := 0, locals := 0 } [.ref (Q 0)] s r s' := by
  intro sz
  refine met_entry (cc := cX10_see) (maxL := 1) (ret := (some .int)) (by decide) rfl (Nat.le_of_ble_eq_true rfl) sz rfl ?_
  generalize va_A (wY Z Q s) sz = A
  intro p e s0 m args below meth c ls F hr hlk h hl
  have hl : lv_has ls 1 [(0, .ref (Q 0))] := hl
  obtain ⟨hx, hb, hml, hown, hts⟩ := id F
  have hinX10 : ∀ w ∈ wsX100, w ∈ wsX10_see := by decide +kernel
  obtain ⟨H, eH⟩ : ∃ z, z = s0.heap := ⟨_, rfl⟩
  obtain ⟨locs, eL⟩ : ∃ z : List Loc, z = [] := ⟨_, rfl⟩
  rw [← eH, ← eL] at h ⊢
  unfold p_Model_see at hf
  have lab0 : ∀ (n : Nat) (s : XS) (H : Heap) (locs : List Loc) (ls : Array Slot), lo1 (p_Model_see_B0) n s = some (r, s') → HW Z (wY Z Q) A s0 H locs s → lv_has ls 1 [(0, .ref (Q 0))] → W p l e { frames := 0, cells := 0, slots := 0, locals := 0 } s0 m args below meth c H locs 0 0 (MQ below (QcI Z (wY Z Q) A r s') args s0 0 0 A) (F0 m 0 ls []) := by
    intro n
    induction n with
    | zero => intro s H locs ls hf; exact absurd hf lo1_z
    | succ n ih0 =>
      intro s H locs ls hf h hl
      have hf := lo1_s hf
      generalize lo1 (p_Model_see_B0) n = c0 at hf ih0
      unfold p_Model_see_B0 at hf
      have lab38 : ∀ (s : XS) (H : Heap) (locs : List Loc) (ls : Array Slot), p_Model_see_K38 s = some (r, s') → HW Z (wY Z Q) A s0 H locs s → lv_has ls 1 [(0, .ref (Q 0))] → W p l e { frames := 0, cells := 0, slots := 0, locals := 0 } s0 m args below meth c H locs 0 0 (MQ below (QcI Z (wY Z Q) A r s') args s0 0 0 A) (F0 m 38 ls []) := by
        intro s H locs ls hf h hl
        unfold p_Model_see_K38 at hf
        refine lv_aload_n hx hb dX10_see_38 rfl (lv_at hl 0 rfl) ?_
        refine gY_Model_next F h hinX10 (hts (.fieldLink RX10 128 "ElectionHouseModel" "next" "I") (by decide +kernel)) dX10_see_39 ?_
        refine lv_aload_n hx hb dX10_see_42 rfl (lv_at hl 0 rfl) ?_
        refine gY_Model_taped F h hinX10 (hts (.fieldLink RX10 118 "ElectionHouseModel" "taped" "I") (by decide +kernel)) dX10_see_43 ?_
        refine lv_icmp_ge (tgt := 65) hx hb dX10_see_46 (by decide) (fun c_1 => ?_) (fun c_1 => ?_)
        · have hf := ip c_1 hf
          refine lv_iconst (v := (-1 : Int32)) hx hb dX10_see_65 (by decide) ?_
          exact retE_I F hr hlk h hf dX10_see_66
        · have hf := im c_1 hf
          refine lv_aload_n hx hb dX10_see_49 rfl (lv_at hl 0 rfl) ?_
          refine gY_Model_tape F h hinX10 (hts (.fieldLink RX10 26 "ElectionHouseModel" "tape" "[B") (by decide +kernel)) dX10_see_50 ?_
          refine lv_aload_n hx hb dX10_see_53 rfl (lv_at hl 0 rfl) ?_
          refine gY_Model_next F h hinX10 (hts (.fieldLink RX10 128 "ElectionHouseModel" "next" "I") (by decide +kernel)) dX10_see_54 ?_
          obtain ⟨gi2, hf⟩ := og hf
          refine lY_mtape F h gi2 dX10_see_57 ?_
          refine lv_sipush (v := (255 : Int32)) hx hb dX10_see_58 (by decide) ?_
          refine lv_iand hx hb dX10_see_61 ?_
          refine lv_goto (tgt := 66) hx hb dX10_see_62 (by decide) ?_
          exact retE_I F hr hlk h hf dX10_see_66
      refine lv_aload_n hx hb dX10_see_0 rfl (lv_at hl 0 rfl) ?_
      refine gY_Model_next F h hinX10 (hts (.fieldLink RX10 128 "ElectionHouseModel" "next" "I") (by decide +kernel)) dX10_see_1 ?_
      refine lv_aload_n hx hb dX10_see_4 rfl (lv_at hl 0 rfl) ?_
      refine gY_Model_taped F h hinX10 (hts (.fieldLink RX10 118 "ElectionHouseModel" "taped" "I") (by decide +kernel)) dX10_see_5 ?_
      refine lv_icmp_ge (tgt := 38) hx hb dX10_see_8 (by decide) (fun c_3 => ?_) (fun c_3 => ?_)
      · have hf := ip c_3 hf
        exact lab38 s H locs ls hf h (lv_sub hl [0] rfl)
      · have hf := im c_3 hf
        refine lv_aload_n hx hb dX10_see_11 rfl (lv_at hl 0 rfl) ?_
        refine gY_Model_tape F h hinX10 (hts (.fieldLink RX10 26 "ElectionHouseModel" "tape" "[B") (by decide +kernel)) dX10_see_12 ?_
        refine lv_aload_n hx hb dX10_see_15 rfl (lv_at hl 0 rfl) ?_
        refine gY_Model_next F h hinX10 (hts (.fieldLink RX10 128 "ElectionHouseModel" "next" "I") (by decide +kernel)) dX10_see_16 ?_
        obtain ⟨gi4, hf⟩ := og hf
        refine lY_mtape F h gi4 dX10_see_19 ?_
        refine lv_bipush (v := (32 : Int32)) hx hb dX10_see_20 (by decide) ?_
        refine lv_icmp_ne (tgt := 38) hx hb dX10_see_22 (by decide) (fun c_5 => ?_) (fun c_5 => ?_)
        · have hf := im c_5 hf
          exact lab38 s H locs ls hf h (lv_sub hl [0] rfl)
        · have hf := ip c_5 hf
          refine lv_aload_n hx hb dX10_see_25 rfl (lv_at hl 0 rfl) ?_
          refine lv_dup hx hb dX10_see_26 rfl ?_
          refine gY_Model_next F h hinX10 (hts (.fieldLink RX10 128 "ElectionHouseModel" "next" "I") (by decide +kernel)) dX10_see_27 ?_
          refine lv_iconst (v := (1 : Int32)) hx hb dX10_see_30 (by decide) ?_
          refine lv_iadd hx hb dX10_see_31 ?_
          refine pY_Model_next F h hinX10 (hts (.fieldLink RX10 128 "ElectionHouseModel" "next" "I") (by decide +kernel)) dX10_see_32 (fun H locs h => ?_)
          obtain ⟨s6, es, hf⟩ := olq hf
          rw [← es] at h
          refine lv_goto (tgt := 0) hx hb dX10_see_35 (by decide) ?_
          exact ih0 s6 H locs ls hf h (lv_sub hl [0] rfl)
  exact lab0 fuelN s H locs ls hf h (lv_sub hl [0] rfl)

set_option maxHeartbeats 8000000 in
set_option maxRecDepth 100000 in
theorem c_Model_looks (l : Launch) (Z : ZT) (Q : Nat → Nat) (s : XS) {s' : XS} (hf : p_Model_looks s = some s') : KV l Z (wY Z Q) yX10_looks wsX10_looks { frames := 1, cells := 0, slots := 0, locals := 20 } [.ref (Q 0)] s s' := by
  intro sz
  refine met_entry (cc := cX10_looks) (maxL := 2) (ret := none) (by decide) rfl (Nat.le_of_ble_eq_true rfl) sz rfl ?_
  generalize va_A (wY Z Q s) sz = A
  intro p e s0 m args below meth c ls F hr hlk h hl
  have hl : lv_has ls 2 [(0, .ref (Q 0))] := hl
  obtain ⟨hx, hb, hml, hown, hts⟩ := id F
  have hinX10 : ∀ w ∈ wsX100, w ∈ wsX10_looks := by decide +kernel
  obtain ⟨H, eH⟩ : ∃ z, z = s0.heap := ⟨_, rfl⟩
  obtain ⟨locs, eL⟩ : ∃ z : List Loc, z = [] := ⟨_, rfl⟩
  rw [← eH, ← eL] at h ⊢
  unfold p_Model_looks at hf
  have lab18 : ∀ (n : Nat) (s : XS) (H : Heap) (locs : List Loc) (ls : Array Slot), lo1 (p_Model_looks_B18) n s = some s' → HW Z (wY Z Q) A s0 H locs s → lv_has ls 2 [(0, .ref (Q 0))] → W p l e { frames := 1, cells := 0, slots := 0, locals := 20 } s0 m args below meth c H locs 0 0 (MQ below (QcV Z (wY Z Q) A s') args s0 0 0 A) (F0 m 18 ls []) := by
    intro n
    induction n with
    | zero => intro s H locs ls hf; exact absurd hf lo1_z
    | succ n ih18 =>
      intro s H locs ls hf h hl
      have hf := lo1_s hf
      generalize lo1 (p_Model_looks_B18) n = c18 at hf ih18
      unfold p_Model_looks_B18 at hf
      refine lv_aload_n hx hb dX10_looks_18 rfl (lv_at hl 0 rfl) ?_
      refine gY_Model_wordAt F h hinX10 (hts (.fieldLink RX10 135 "ElectionHouseModel" "wordAt" "I") (by decide +kernel)) dX10_looks_19 ?_
      refine lv_aload_n hx hb dX10_looks_22 rfl (lv_at hl 0 rfl) ?_
      refine gY_Model_wordSize F h hinX10 (hts (.fieldLink RX10 138 "ElectionHouseModel" "wordSize" "I") (by decide +kernel)) dX10_looks_23 ?_
      refine lv_iadd hx hb dX10_looks_26 ?_
      refine lv_aload_n hx hb dX10_looks_27 rfl (lv_at hl 0 rfl) ?_
      refine gY_Model_taped F h hinX10 (hts (.fieldLink RX10 118 "ElectionHouseModel" "taped" "I") (by decide +kernel)) dX10_looks_28 ?_
      refine lv_icmp_ge (tgt := 85) hx hb dX10_looks_31 (by decide) (fun c_1 => ?_) (fun c_1 => ?_)
      · have hf := ip c_1 hf
        exact retE_V F hr hlk h hf dX10_looks_85
      · have hf := im c_1 hf
        refine lv_aload_n hx hb dX10_looks_34 rfl (lv_at hl 0 rfl) ?_
        refine gY_Model_tape F h hinX10 (hts (.fieldLink RX10 26 "ElectionHouseModel" "tape" "[B") (by decide +kernel)) dX10_looks_35 ?_
        refine lv_aload_n hx hb dX10_looks_38 rfl (lv_at hl 0 rfl) ?_
        refine gY_Model_wordAt F h hinX10 (hts (.fieldLink RX10 135 "ElectionHouseModel" "wordAt" "I") (by decide +kernel)) dX10_looks_39 ?_
        refine lv_aload_n hx hb dX10_looks_42 rfl (lv_at hl 0 rfl) ?_
        refine gY_Model_wordSize F h hinX10 (hts (.fieldLink RX10 138 "ElectionHouseModel" "wordSize" "I") (by decide +kernel)) dX10_looks_43 ?_
        refine lv_iadd hx hb dX10_looks_46 ?_
        obtain ⟨gi2, hf⟩ := og hf
        refine lY_mtape F h gi2 dX10_looks_47 ?_
        refine lv_bipush (v := (97 : Int32)) hx hb dX10_looks_48 (by decide) ?_
        refine lv_icmp_lt (tgt := 85) hx hb dX10_looks_50 (by decide) (fun c_3 => ?_) (fun c_3 => ?_)
        · have hf := ip c_3 hf
          exact retE_V F hr hlk h hf dX10_looks_85
        · have hf := im c_3 hf
          refine lv_aload_n hx hb dX10_looks_53 rfl (lv_at hl 0 rfl) ?_
          refine gY_Model_tape F h hinX10 (hts (.fieldLink RX10 26 "ElectionHouseModel" "tape" "[B") (by decide +kernel)) dX10_looks_54 ?_
          refine lv_aload_n hx hb dX10_looks_57 rfl (lv_at hl 0 rfl) ?_
          refine gY_Model_wordAt F h hinX10 (hts (.fieldLink RX10 135 "ElectionHouseModel" "wordAt" "I") (by decide +kernel)) dX10_looks_58 ?_
          refine lv_aload_n hx hb dX10_looks_61 rfl (lv_at hl 0 rfl) ?_
          refine gY_Model_wordSize F h hinX10 (hts (.fieldLink RX10 138 "ElectionHouseModel" "wordSize" "I") (by decide +kernel)) dX10_looks_62 ?_
          refine lv_iadd hx hb dX10_looks_65 ?_
          obtain ⟨gi4, hf⟩ := og hf
          refine lY_mtape F h gi4 dX10_looks_66 ?_
          refine lv_bipush (v := (122 : Int32)) hx hb dX10_looks_67 (by decide) ?_
          refine lv_icmp_gt (tgt := 85) hx hb dX10_looks_69 (by decide) (fun c_5 => ?_) (fun c_5 => ?_)
          · have hf := ip c_5 hf
            exact retE_V F hr hlk h hf dX10_looks_85
          · have hf := im c_5 hf
            refine lv_aload_n hx hb dX10_looks_72 rfl (lv_at hl 0 rfl) ?_
            refine lv_dup hx hb dX10_looks_73 rfl ?_
            refine gY_Model_wordSize F h hinX10 (hts (.fieldLink RX10 138 "ElectionHouseModel" "wordSize" "I") (by decide +kernel)) dX10_looks_74 ?_
            refine lv_iconst (v := (1 : Int32)) hx hb dX10_looks_77 (by decide) ?_
            refine lv_iadd hx hb dX10_looks_78 ?_
            refine pY_Model_wordSize F h hinX10 (hts (.fieldLink RX10 138 "ElectionHouseModel" "wordSize" "I") (by decide +kernel)) dX10_looks_79 (fun H locs h => ?_)
            obtain ⟨s6, es, hf⟩ := olq hf
            rw [← es] at h
            refine lv_goto (tgt := 18) hx hb dX10_looks_82 (by decide) ?_
            exact ih18 s6 H locs ls hf h (lv_sub hl [0] rfl)
  refine lv_aload_n hx hb dX10_looks_0 rfl (lv_at hl 0 rfl) ?_
  obtain ⟨r8, s9, hc7, hf⟩ := ob2 hf
  refine call_VI F (c_Model_see l Z Q s hc7) (cwV 0 hts gX10_looks_X10_see rfl rfl rfl (by decide +kernel) ⟨Nat.le_of_ble_eq_true rfl, Nat.le_of_ble_eq_true rfl⟩) h (rcY_Model h) rfl hl.1 rfl (Nat.le_of_ble_eq_true rfl) ⟨Nat.zero_le _, Nat.zero_le _⟩ dX10_looks_1 (fun H locs h => ?_)
  refine lv_istore_n (lv' := [(1, .int r8), (0, .ref (Q 0))]) hx hb dX10_looks_4 rfl hl (by decide) rfl (fun ls hl => ?_)
  have hl := lv_sub (l' := [(0, .ref (Q 0)), (1, .int r8)]) hl [1, 0] rfl
  refine lv_aload_n hx hb dX10_looks_5 rfl (lv_at hl 0 rfl) ?_
  refine lv_aload_n hx hb dX10_looks_6 rfl (lv_at hl 0 rfl) ?_
  refine gY_Model_next F h hinX10 (hts (.fieldLink RX10 128 "ElectionHouseModel" "next" "I") (by decide +kernel)) dX10_looks_7 ?_
  refine pY_Model_wordAt F h hinX10 (hts (.fieldLink RX10 135 "ElectionHouseModel" "wordAt" "I") (by decide +kernel)) dX10_looks_10 (fun H locs h => ?_)
  obtain ⟨s10, es, hf⟩ := olq hf
  rw [← es] at h
  refine lv_aload_n hx hb dX10_looks_13 rfl (lv_at hl 0 rfl) ?_
  refine lv_iconst (v := (0 : Int32)) hx hb dX10_looks_14 (by decide) ?_
  refine pY_Model_wordSize F h hinX10 (hts (.fieldLink RX10 138 "ElectionHouseModel" "wordSize" "I") (by decide +kernel)) dX10_looks_15 (fun H locs h => ?_)
  obtain ⟨s11, es, hf⟩ := olq hf
  rw [← es] at h
  exact lab18 fuelN s11 H locs ls hf h (lv_sub hl [0] rfl)

set_option maxHeartbeats 8000000 in
set_option maxRecDepth 100000 in
theorem c_Model_isWord (l : Launch) (Z : ZT) (Q : Nat → Nat) (s : XS) (x1 : Int32) (x2 : Int32) (x3 : Int32) (x4 : Int32) (x5 : Int32) (x6 : Int32) {r : Int32} {s' : XS} (hf : p_Model_isWord x1 x2 x3 x4 x5 x6 s = some (r, s')) : KI l Z (wY Z Q) yX10_isWord wsX10_isWord { frames := 0, cells := 0, slots := 0, locals := 0 } [.ref (Q 0), .int x1, .int x2, .int x3, .int x4, .int x5, .int x6] s r s' := by
  intro sz
  refine met_entry (cc := cX10_isWord) (maxL := 9) (ret := (some .boolean)) (by decide) rfl (Nat.le_of_ble_eq_true rfl) sz rfl ?_
  generalize va_A (wY Z Q s) sz = A
  intro p e s0 m args below meth c ls F hr hlk h hl
  have hl : lv_has ls 9 [(0, .ref (Q 0)), (1, .int x1), (2, .int x2), (3, .int x3), (4, .int x4), (5, .int x5), (6, .int x6)] := hl
  obtain ⟨hx, hb, hml, hown, hts⟩ := id F
  have hinX10 : ∀ w ∈ wsX100, w ∈ wsX10_isWord := by decide +kernel
  obtain ⟨H, eH⟩ : ∃ z, z = s0.heap := ⟨_, rfl⟩
  obtain ⟨locs, eL⟩ : ∃ z : List Loc, z = [] := ⟨_, rfl⟩
  rw [← eH, ← eL] at h ⊢
  unfold p_Model_isWord at hf
  have lab48 : ∀ (s : XS) (n : Nat) (x7 : Int32) (H : Heap) (locs : List Loc) (ls : Array Slot), lo1 (p_Model_isWord_B48 s) n x7 = some (r, s') → HW Z (wY Z Q) A s0 H locs s → lv_has ls 9 [(0, .ref (Q 0)), (7, .int x7)] → W p l e { frames := 0, cells := 0, slots := 0, locals := 0 } s0 m args below meth c H locs 0 0 (MQ below (QcI Z (wY Z Q) A r s') args s0 0 0 A) (F0 m 48 ls []) := by
    intro s n
    induction n with
    | zero => intro x7 H locs ls hf; exact absurd hf lo1_z
    | succ n ih48 =>
      intro x7 H locs ls hf h hl
      have hf := lo1_s hf
      generalize lo1 (p_Model_isWord_B48 s) n = c48 at hf ih48
      unfold p_Model_isWord_B48 at hf
      have lab71 : ∀ (x7 : Int32) (s : XS) (H : Heap) (locs : List Loc) (ls : Array Slot), p_Model_isWord_K71 x7 s = some (r, s') → HW Z (wY Z Q) A s0 H locs s → lv_has ls 9 [(0, .ref (Q 0)), (7, .int x7)] → W p l e { frames := 0, cells := 0, slots := 0, locals := 0 } s0 m args below meth c H locs 0 0 (MQ below (QcI Z (wY Z Q) A r s') args s0 0 0 A) (F0 m 71 ls []) := by
        intro x7 s H locs ls hf h hl
        unfold p_Model_isWord_K71 at hf
        have lab85 : ∀ (x7 : Int32) (s : XS) (n : Nat) (x8 : Int32) (H : Heap) (locs : List Loc) (ls : Array Slot), lo1 (p_Model_isWord_B85 x7 s) n x8 = some (r, s') → HW Z (wY Z Q) A s0 H locs s → lv_has ls 9 [(0, .ref (Q 0)), (7, .int x7), (8, .int x8)] → W p l e { frames := 0, cells := 0, slots := 0, locals := 0 } s0 m args below meth c H locs 0 0 (MQ below (QcI Z (wY Z Q) A r s') args s0 0 0 A) (F0 m 85 ls []) := by
          intro x7 s n
          induction n with
          | zero => intro x8 H locs ls hf; exact absurd hf lo1_z
          | succ n ih85 =>
            intro x8 H locs ls hf h hl
            have hf := lo1_s hf
            generalize lo1 (p_Model_isWord_B85 x7 s) n = c85 at hf ih85
            unfold p_Model_isWord_B85 at hf
            refine lv_iload hx hb dX10_isWord_85 (lv_at hl 2 rfl) ?_
            refine lv_iload hx hb dX10_isWord_87 (lv_at hl 1 rfl) ?_
            refine lv_icmp_ge (tgt := 122) hx hb dX10_isWord_89 (by decide) (fun c_1 => ?_) (fun c_1 => ?_)
            · have hf := ip c_1 hf
              refine lv_iconst (v := (1 : Int32)) hx hb dX10_isWord_122 (by decide) ?_
              exact retE_Z F hr hlk (by decide) h hf dX10_isWord_123
            · have hf := im c_1 hf
              refine lv_aload_n hx hb dX10_isWord_92 rfl (lv_at hl 0 rfl) ?_
              refine gY_Model_tape F h hinX10 (hts (.fieldLink RX10 26 "ElectionHouseModel" "tape" "[B") (by decide +kernel)) dX10_isWord_93 ?_
              refine lv_aload_n hx hb dX10_isWord_96 rfl (lv_at hl 0 rfl) ?_
              refine gY_Model_wordAt F h hinX10 (hts (.fieldLink RX10 135 "ElectionHouseModel" "wordAt" "I") (by decide +kernel)) dX10_isWord_97 ?_
              refine lv_iload hx hb dX10_isWord_100 (lv_at hl 2 rfl) ?_
              refine lv_iadd hx hb dX10_isWord_102 ?_
              obtain ⟨gi2, hf⟩ := og hf
              refine lY_mtape F h gi2 dX10_isWord_103 ?_
              refine lv_aload_n hx hb dX10_isWord_104 rfl (lv_at hl 0 rfl) ?_
              refine gY_Model_letters F h hinX10 (hts (.fieldLink RX10 67 "ElectionHouseModel" "letters" "[I") (by decide +kernel)) dX10_isWord_105 ?_
              refine lv_iload hx hb dX10_isWord_108 (lv_at hl 2 rfl) ?_
              obtain ⟨gi3, hf⟩ := og hf
              refine lY_mletters F h gi3 dX10_isWord_110 ?_
              refine lv_icmp_eq (tgt := 116) hx hb dX10_isWord_111 (by decide) (fun c_4 => ?_) (fun c_4 => ?_)
              · have hf := ip c_4 hf
                refine lv_iinc (v := (x8 + (1 : Int32))) (lv' := [(8, .int (x8 + (1 : Int32))), (0, .ref (Q 0)), (7, .int x7)]) hx hb dX10_isWord_116 hl (k := 2) rfl (congrArg (fun z => x8 + z) (by decide : Int32.ofInt (1) = (1 : Int32))) (by decide) rfl (fun ls hl => ?_)
                have hl := lv_sub (l' := [(0, .ref (Q 0)), (7, .int x7), (8, .int (x8 + (1 : Int32)))]) hl [1, 2, 0] rfl
                refine lv_goto (tgt := 85) hx hb dX10_isWord_119 (by decide) ?_
                exact ih85 (x8 + (1 : Int32)) H locs ls hf h (lv_sub hl [0, 1, 2] rfl)
              · have hf := im c_4 hf
                refine lv_iconst (v := (0 : Int32)) hx hb dX10_isWord_114 (by decide) ?_
                exact retE_Z F hr hlk (by decide) h hf dX10_isWord_115
        refine lv_iload hx hb dX10_isWord_71 (lv_at hl 1 rfl) ?_
        refine lv_aload_n hx hb dX10_isWord_73 rfl (lv_at hl 0 rfl) ?_
        refine gY_Model_wordSize F h hinX10 (hts (.fieldLink RX10 138 "ElectionHouseModel" "wordSize" "I") (by decide +kernel)) dX10_isWord_74 ?_
        refine lv_icmp_eq (tgt := 82) hx hb dX10_isWord_77 (by decide) (fun c_5 => ?_) (fun c_5 => ?_)
        · have hf := ip c_5 hf
          refine lv_iconst (v := (0 : Int32)) hx hb dX10_isWord_82 (by decide) ?_
          refine lv_istore (lv' := [(8, .int (0 : Int32)), (0, .ref (Q 0)), (7, .int x7)]) hx hb dX10_isWord_83 hl (by decide) rfl (fun ls hl => ?_)
          have hl := lv_sub (l' := [(0, .ref (Q 0)), (7, .int x7), (8, .int (0 : Int32))]) hl [1, 2, 0] rfl
          exact lab85 x7 s fuelN (0 : Int32) H locs ls hf h (lv_sub hl [0, 1, 2] rfl)
        · have hf := im c_5 hf
          refine lv_iconst (v := (0 : Int32)) hx hb dX10_isWord_80 (by decide) ?_
          exact retE_Z F hr hlk (by decide) h hf dX10_isWord_81
      refine lv_iload hx hb dX10_isWord_48 (lv_at hl 1 rfl) ?_
      refine lv_bipush (v := (6 : Int32)) hx hb dX10_isWord_50 (by decide) ?_
      refine lv_icmp_ge (tgt := 71) hx hb dX10_isWord_52 (by decide) (fun c_6 => ?_) (fun c_6 => ?_)
      · have hf := ip c_6 hf
        exact lab71 x7 s H locs ls hf h (lv_sub hl [0, 1] rfl)
      · have hf := im c_6 hf
        refine lv_aload_n hx hb dX10_isWord_55 rfl (lv_at hl 0 rfl) ?_
        refine gY_Model_letters F h hinX10 (hts (.fieldLink RX10 67 "ElectionHouseModel" "letters" "[I") (by decide +kernel)) dX10_isWord_56 ?_
        refine lv_iload hx hb dX10_isWord_59 (lv_at hl 1 rfl) ?_
        obtain ⟨gi7, hf⟩ := og hf
        refine lY_mletters F h gi7 dX10_isWord_61 ?_
        refine lv_if_le (tgt := 71) hx hb dX10_isWord_62 (by decide) (fun c_8 => ?_) (fun c_8 => ?_)
        · have hf := ip c_8 hf
          exact lab71 x7 s H locs ls hf h (lv_sub hl [0, 1] rfl)
        · have hf := im c_8 hf
          refine lv_iinc (v := (x7 + (1 : Int32))) (lv' := [(7, .int (x7 + (1 : Int32))), (0, .ref (Q 0))]) hx hb dX10_isWord_65 hl (k := 1) rfl (congrArg (fun z => x7 + z) (by decide : Int32.ofInt (1) = (1 : Int32))) (by decide) rfl (fun ls hl => ?_)
          have hl := lv_sub (l' := [(0, .ref (Q 0)), (7, .int (x7 + (1 : Int32)))]) hl [1, 0] rfl
          refine lv_goto (tgt := 48) hx hb dX10_isWord_68 (by decide) ?_
          exact ih48 (x7 + (1 : Int32)) H locs ls hf h (lv_sub hl [0, 1] rfl)
  refine lv_aload_n hx hb dX10_isWord_0 rfl (lv_at hl 0 rfl) ?_
  refine gY_Model_letters F h hinX10 (hts (.fieldLink RX10 67 "ElectionHouseModel" "letters" "[I") (by decide +kernel)) dX10_isWord_1 ?_
  refine lv_iconst (v := (0 : Int32)) hx hb dX10_isWord_4 (by decide) ?_
  refine lv_iload_n hx hb dX10_isWord_5 rfl (lv_at hl 1 rfl) ?_
  obtain ⟨gi9, hf⟩ := og hf
  refine sY_mletters F h gi9 dX10_isWord_6 (fun H locs h => ?_)
  obtain ⟨s10, es, hf⟩ := olq hf
  rw [← es] at h
  refine lv_aload_n hx hb dX10_isWord_7 rfl (lv_at hl 0 rfl) ?_
  refine gY_Model_letters F h hinX10 (hts (.fieldLink RX10 67 "ElectionHouseModel" "letters" "[I") (by decide +kernel)) dX10_isWord_8 ?_
  refine lv_iconst (v := (1 : Int32)) hx hb dX10_isWord_11 (by decide) ?_
  refine lv_iload_n hx hb dX10_isWord_12 rfl (lv_at hl 2 rfl) ?_
  obtain ⟨gi11, hf⟩ := og hf
  refine sY_mletters F h gi11 dX10_isWord_13 (fun H locs h => ?_)
  obtain ⟨s12, es, hf⟩ := olq hf
  rw [← es] at h
  refine lv_aload_n hx hb dX10_isWord_14 rfl (lv_at hl 0 rfl) ?_
  refine gY_Model_letters F h hinX10 (hts (.fieldLink RX10 67 "ElectionHouseModel" "letters" "[I") (by decide +kernel)) dX10_isWord_15 ?_
  refine lv_iconst (v := (2 : Int32)) hx hb dX10_isWord_18 (by decide) ?_
  refine lv_iload_n hx hb dX10_isWord_19 rfl (lv_at hl 3 rfl) ?_
  obtain ⟨gi13, hf⟩ := og hf
  refine sY_mletters F h gi13 dX10_isWord_20 (fun H locs h => ?_)
  obtain ⟨s14, es, hf⟩ := olq hf
  rw [← es] at h
  refine lv_aload_n hx hb dX10_isWord_21 rfl (lv_at hl 0 rfl) ?_
  refine gY_Model_letters F h hinX10 (hts (.fieldLink RX10 67 "ElectionHouseModel" "letters" "[I") (by decide +kernel)) dX10_isWord_22 ?_
  refine lv_iconst (v := (3 : Int32)) hx hb dX10_isWord_25 (by decide) ?_
  refine lv_iload hx hb dX10_isWord_26 (lv_at hl 4 rfl) ?_
  obtain ⟨gi15, hf⟩ := og hf
  refine sY_mletters F h gi15 dX10_isWord_28 (fun H locs h => ?_)
  obtain ⟨s16, es, hf⟩ := olq hf
  rw [← es] at h
  refine lv_aload_n hx hb dX10_isWord_29 rfl (lv_at hl 0 rfl) ?_
  refine gY_Model_letters F h hinX10 (hts (.fieldLink RX10 67 "ElectionHouseModel" "letters" "[I") (by decide +kernel)) dX10_isWord_30 ?_
  refine lv_iconst (v := (4 : Int32)) hx hb dX10_isWord_33 (by decide) ?_
  refine lv_iload hx hb dX10_isWord_34 (lv_at hl 5 rfl) ?_
  obtain ⟨gi17, hf⟩ := og hf
  refine sY_mletters F h gi17 dX10_isWord_36 (fun H locs h => ?_)
  obtain ⟨s18, es, hf⟩ := olq hf
  rw [← es] at h
  refine lv_aload_n hx hb dX10_isWord_37 rfl (lv_at hl 0 rfl) ?_
  refine gY_Model_letters F h hinX10 (hts (.fieldLink RX10 67 "ElectionHouseModel" "letters" "[I") (by decide +kernel)) dX10_isWord_38 ?_
  refine lv_iconst (v := (5 : Int32)) hx hb dX10_isWord_41 (by decide) ?_
  refine lv_iload hx hb dX10_isWord_42 (lv_at hl 6 rfl) ?_
  obtain ⟨gi19, hf⟩ := og hf
  refine sY_mletters F h gi19 dX10_isWord_44 (fun H locs h => ?_)
  obtain ⟨s20, es, hf⟩ := olq hf
  rw [← es] at h
  refine lv_iconst (v := (0 : Int32)) hx hb dX10_isWord_45 (by decide) ?_
  refine lv_istore (lv' := [(7, .int (0 : Int32)), (0, .ref (Q 0)), (1, .int x1), (2, .int x2), (3, .int x3), (4, .int x4), (5, .int x5), (6, .int x6)]) hx hb dX10_isWord_46 hl (by decide) rfl (fun ls hl => ?_)
  have hl := lv_sub (l' := [(0, .ref (Q 0)), (1, .int x1), (2, .int x2), (3, .int x3), (4, .int x4), (5, .int x5), (6, .int x6), (7, .int (0 : Int32))]) hl [1, 2, 3, 4, 5, 6, 7, 0] rfl
  exact lab48 s20 fuelN (0 : Int32) H locs ls hf h (lv_sub hl [0, 7] rfl)

set_option maxHeartbeats 8000000 in
set_option maxRecDepth 100000 in
theorem c_Model_number (l : Launch) (Z : ZT) (Q : Nat → Nat) (s : XS) (x1 : Int32) {r : Int32} {s' : XS} (hf : p_Model_number x1 s = some (r, s')) : KI l Z (wY Z Q) yX10_number wsX10_number { frames := 1, cells := 0, slots := 0, locals := 22 } [.ref (Q 0), .int x1] s r s' := by
  intro sz
  refine met_entry (cc := cX10_number) (maxL := 5) (ret := (some .boolean)) (by decide) rfl (Nat.le_of_ble_eq_true rfl) sz rfl ?_
  generalize va_A (wY Z Q s) sz = A
  intro p e s0 m args below meth c ls F hr hlk h hl
  have hl : lv_has ls 5 [(0, .ref (Q 0)), (1, .int x1)] := hl
  obtain ⟨hx, hb, hml, hown, hts⟩ := id F
  have hinX10 : ∀ w ∈ wsX100, w ∈ wsX10_number := by decide +kernel
  obtain ⟨H, eH⟩ : ∃ z, z = s0.heap := ⟨_, rfl⟩
  obtain ⟨locs, eL⟩ : ∃ z : List Loc, z = [] := ⟨_, rfl⟩
  rw [← eH, ← eL] at h ⊢
  unfold p_Model_number at hf
  have lab17 : ∀ (s : XS) (H : Heap) (locs : List Loc) (ls : Array Slot), p_Model_number_K17 s = some (r, s') → HW Z (wY Z Q) A s0 H locs s → lv_has ls 5 [(0, .ref (Q 0))] → W p l e { frames := 1, cells := 0, slots := 0, locals := 22 } s0 m args below meth c H locs 0 0 (MQ below (QcI Z (wY Z Q) A r s') args s0 0 0 A) (F0 m 17 ls []) := by
    intro s H locs ls hf h hl
    unfold p_Model_number_K17 at hf
    refine lv_aload_n hx hb dX10_number_17 rfl (lv_at hl 0 rfl) ?_
    refine lv_iconst (v := (0 : Int32)) hx hb dX10_number_18 (by decide) ?_
    refine lv_aload_n hx hb dX10_number_19 rfl (lv_at hl 0 rfl) ?_
    refine gY_Model_next F h hinX10 (hts (.fieldLink RX10 128 "ElectionHouseModel" "next" "I") (by decide +kernel)) dX10_number_20 ?_
    obtain ⟨r2, s3, hc1, hf⟩ := ob2 hf
    refine call_VI F (c_Model_fails l Z Q s (0 : Int32) (gM s 0 25) hc1) (cwV 2 hts gX10_number_X10_fails rfl rfl rfl (by decide +kernel) ⟨Nat.le_of_ble_eq_true rfl, Nat.le_of_ble_eq_true rfl⟩) h (rcY_Model h) rfl hl.1 rfl (Nat.le_of_ble_eq_true rfl) ⟨Nat.zero_le _, Nat.zero_le _⟩ dX10_number_23 (fun H locs h => ?_)
    obtain ⟨gz, hf⟩ := og hf
    exact retE_Z F hr hlk gz h hf dX10_number_26
  have lab40 : ∀ (x1 : Int32) (n : Nat) (x3 : Int32) (x4 : Int32) (s : XS) (H : Heap) (locs : List Loc) (ls : Array Slot), lo3 (p_Model_number_B40 x1) n x3 x4 s = some (r, s') → HW Z (wY Z Q) A s0 H locs s → lv_has ls 5 [(0, .ref (Q 0)), (1, .int x1), (3, .int x3), (4, .int x4)] → W p l e { frames := 1, cells := 0, slots := 0, locals := 22 } s0 m args below meth c H locs 0 0 (MQ below (QcI Z (wY Z Q) A r s') args s0 0 0 A) (F0 m 40 ls []) := by
    intro x1 n
    induction n with
    | zero => intro x3 x4 s H locs ls hf; exact absurd hf lo3_z
    | succ n ih40 =>
      intro x3 x4 s H locs ls hf h hl
      have hf := lo3_s hf
      generalize lo3 (p_Model_number_B40 x1) n = c40 at hf ih40
      unfold p_Model_number_B40 at hf
      have lab120 : ∀ (x1 : Int32) (x3 : Int32) (x4 : Int32) (s : XS) (H : Heap) (locs : List Loc) (ls : Array Slot), p_Model_number_K120 x1 x3 x4 s = some (r, s') → HW Z (wY Z Q) A s0 H locs s → lv_has ls 5 [(0, .ref (Q 0)), (1, .int x1), (3, .int x3), (4, .int x4)] → W p l e { frames := 1, cells := 0, slots := 0, locals := 22 } s0 m args below meth c H locs 0 0 (MQ below (QcI Z (wY Z Q) A r s') args s0 0 0 A) (F0 m 120 ls []) := by
        intro x1 x3 x4 s H locs ls hf h hl
        unfold p_Model_number_K120 at hf
        have lab141 : ∀ (s : XS) (H : Heap) (locs : List Loc) (ls : Array Slot), p_Model_number_K141 s = some (r, s') → HW Z (wY Z Q) A s0 H locs s → lv_has ls 5 [(0, .ref (Q 0))] → W p l e { frames := 1, cells := 0, slots := 0, locals := 22 } s0 m args below meth c H locs 0 0 (MQ below (QcI Z (wY Z Q) A r s') args s0 0 0 A) (F0 m 141 ls []) := by
          intro s H locs ls hf h hl
          unfold p_Model_number_K141 at hf
          refine lv_aload_n hx hb dX10_number_141 rfl (lv_at hl 0 rfl) ?_
          refine lv_iconst (v := (1 : Int32)) hx hb dX10_number_142 (by decide) ?_
          refine lv_aload_n hx hb dX10_number_143 rfl (lv_at hl 0 rfl) ?_
          refine gY_Model_saidAt F h hinX10 (hts (.fieldLink RX10 145 "ElectionHouseModel" "saidAt" "I") (by decide +kernel)) dX10_number_144 ?_
          obtain ⟨r5, s6, hc4, hf⟩ := ob2 hf
          refine call_VI F (c_Model_fails l Z Q s (1 : Int32) (gM s 0 28) hc4) (cwV 2 hts gX10_number_X10_fails rfl rfl rfl (by decide +kernel) ⟨Nat.le_of_ble_eq_true rfl, Nat.le_of_ble_eq_true rfl⟩) h (rcY_Model h) rfl hl.1 rfl (Nat.le_of_ble_eq_true rfl) ⟨Nat.zero_le _, Nat.zero_le _⟩ dX10_number_147 (fun H locs h => ?_)
          refine lv_if_eq (tgt := 157) hx hb dX10_number_150 (by decide) (fun c_7 => ?_) (fun c_7 => ?_)
          · have hf := ip c_7 hf
            refine lv_iconst (v := (0 : Int32)) hx hb dX10_number_157 (by decide) ?_
            exact retE_Z F hr hlk (by decide) h hf dX10_number_158
          · have hf := im c_7 hf
            refine lv_iconst (v := (1 : Int32)) hx hb dX10_number_153 (by decide) ?_
            refine lv_goto (tgt := 158) hx hb dX10_number_154 (by decide) ?_
            exact retE_Z F hr hlk (by decide) h hf dX10_number_158
        refine lv_aload_n hx hb dX10_number_120 rfl (lv_at hl 0 rfl) ?_
        refine lv_iload hx hb dX10_number_121 (lv_at hl 3 rfl) ?_
        refine pY_Model_said F h hinX10 (hts (.fieldLink RX10 148 "ElectionHouseModel" "said" "I") (by decide +kernel)) dX10_number_123 (fun H locs h => ?_)
        obtain ⟨s8, es, hf⟩ := olq hf
        rw [← es] at h
        refine lv_iload_n hx hb dX10_number_126 rfl (lv_at hl 2 rfl) ?_
        refine lv_iconst (v := (2 : Int32)) hx hb dX10_number_127 (by decide) ?_
        refine lv_icmp_gt (tgt := 141) hx hb dX10_number_128 (by decide) (fun c_9 => ?_) (fun c_9 => ?_)
        · have hf := ip c_9 hf
          exact lab141 s8 H locs ls hf h (lv_sub hl [0] rfl)
        · have hf := im c_9 hf
          refine lv_iload hx hb dX10_number_131 (lv_at hl 3 rfl) ?_
          refine lv_iconst (v := (1 : Int32)) hx hb dX10_number_133 (by decide) ?_
          refine lv_iload_n hx hb dX10_number_134 rfl (lv_at hl 1 rfl) ?_
          obtain ⟨r11, hc10, hf⟩ := ob1 hf
          refine call_SI F (c_Model_in l Z (wY Z Q) s8 x4 (1 : Int32) x1 hc10) (va_cwS 3 hts gX10_number_X10_in rfl rfl rfl (by decide +kernel) ⟨Nat.le_of_ble_eq_true rfl, Nat.le_of_ble_eq_true rfl⟩) h rfl hl.1 rfl (Nat.le_of_ble_eq_true rfl) ⟨Nat.zero_le _, Nat.zero_le _⟩ dX10_number_135 (fun H locs h => ?_)
          refine lv_if_ne (tgt := 153) hx hb dX10_number_138 (by decide) (fun c_13 => ?_) (fun c_13 => ?_)
          · have hf := im c_13 hf
            refine lv_iconst (v := (1 : Int32)) hx hb dX10_number_153 (by decide) ?_
            refine lv_goto (tgt := 158) hx hb dX10_number_154 (by decide) ?_
            exact retE_Z F hr hlk (by decide) h hf dX10_number_158
          · have hf := ip c_13 hf
            exact lab141 s8 H locs ls hf h (lv_sub hl [0] rfl)
      refine lv_aload_n hx hb dX10_number_40 rfl (lv_at hl 0 rfl) ?_
      refine gY_Model_next F h hinX10 (hts (.fieldLink RX10 128 "ElectionHouseModel" "next" "I") (by decide +kernel)) dX10_number_41 ?_
      refine lv_aload_n hx hb dX10_number_44 rfl (lv_at hl 0 rfl) ?_
      refine gY_Model_taped F h hinX10 (hts (.fieldLink RX10 118 "ElectionHouseModel" "taped" "I") (by decide +kernel)) dX10_number_45 ?_
      refine lv_icmp_ge (tgt := 120) hx hb dX10_number_48 (by decide) (fun c_14 => ?_) (fun c_14 => ?_)
      · have hf := ip c_14 hf
        exact lab120 x1 x3 x4 s H locs ls hf h (lv_sub hl [0, 1, 2, 3] rfl)
      · have hf := im c_14 hf
        refine lv_aload_n hx hb dX10_number_51 rfl (lv_at hl 0 rfl) ?_
        refine gY_Model_tape F h hinX10 (hts (.fieldLink RX10 26 "ElectionHouseModel" "tape" "[B") (by decide +kernel)) dX10_number_52 ?_
        refine lv_aload_n hx hb dX10_number_55 rfl (lv_at hl 0 rfl) ?_
        refine gY_Model_next F h hinX10 (hts (.fieldLink RX10 128 "ElectionHouseModel" "next" "I") (by decide +kernel)) dX10_number_56 ?_
        obtain ⟨gi15, hf⟩ := og hf
        refine lY_mtape F h gi15 dX10_number_59 ?_
        refine lv_bipush (v := (48 : Int32)) hx hb dX10_number_60 (by decide) ?_
        refine lv_icmp_lt (tgt := 120) hx hb dX10_number_62 (by decide) (fun c_16 => ?_) (fun c_16 => ?_)
        · have hf := ip c_16 hf
          exact lab120 x1 x3 x4 s H locs ls hf h (lv_sub hl [0, 1, 2, 3] rfl)
        · have hf := im c_16 hf
          refine lv_aload_n hx hb dX10_number_65 rfl (lv_at hl 0 rfl) ?_
          refine gY_Model_tape F h hinX10 (hts (.fieldLink RX10 26 "ElectionHouseModel" "tape" "[B") (by decide +kernel)) dX10_number_66 ?_
          refine lv_aload_n hx hb dX10_number_69 rfl (lv_at hl 0 rfl) ?_
          refine gY_Model_next F h hinX10 (hts (.fieldLink RX10 128 "ElectionHouseModel" "next" "I") (by decide +kernel)) dX10_number_70 ?_
          obtain ⟨gi17, hf⟩ := og hf
          refine lY_mtape F h gi17 dX10_number_73 ?_
          refine lv_bipush (v := (57 : Int32)) hx hb dX10_number_74 (by decide) ?_
          refine lv_icmp_gt (tgt := 120) hx hb dX10_number_76 (by decide) (fun c_18 => ?_) (fun c_18 => ?_)
          · have hf := ip c_18 hf
            exact lab120 x1 x3 x4 s H locs ls hf h (lv_sub hl [0, 1, 2, 3] rfl)
          · have hf := im c_18 hf
            refine lv_iload_n hx hb dX10_number_79 rfl (lv_at hl 2 rfl) ?_
            refine lv_iconst (v := (2 : Int32)) hx hb dX10_number_80 (by decide) ?_
            refine lv_icmp_ge (tgt := 104) hx hb dX10_number_81 (by decide) (fun c_19 => ?_) (fun c_19 => ?_)
            · have hf := ip c_19 hf
              refine lv_iinc (v := (x3 + (1 : Int32))) (lv' := [(3, .int (x3 + (1 : Int32))), (0, .ref (Q 0)), (1, .int x1), (4, .int x4)]) hx hb dX10_number_104 hl (k := 2) rfl (congrArg (fun z => x3 + z) (by decide : Int32.ofInt (1) = (1 : Int32))) (by decide) rfl (fun ls hl => ?_)
              have hl := lv_sub (l' := [(0, .ref (Q 0)), (1, .int x1), (3, .int (x3 + (1 : Int32))), (4, .int x4)]) hl [1, 2, 0, 3] rfl
              refine lv_aload_n hx hb dX10_number_107 rfl (lv_at hl 0 rfl) ?_
              refine lv_dup hx hb dX10_number_108 rfl ?_
              refine gY_Model_next F h hinX10 (hts (.fieldLink RX10 128 "ElectionHouseModel" "next" "I") (by decide +kernel)) dX10_number_109 ?_
              refine lv_iconst (v := (1 : Int32)) hx hb dX10_number_112 (by decide) ?_
              refine lv_iadd hx hb dX10_number_113 ?_
              refine pY_Model_next F h hinX10 (hts (.fieldLink RX10 128 "ElectionHouseModel" "next" "I") (by decide +kernel)) dX10_number_114 (fun H locs h => ?_)
              obtain ⟨s20, es, hf⟩ := olq hf
              rw [← es] at h
              refine lv_goto (tgt := 40) hx hb dX10_number_117 (by decide) ?_
              exact ih40 (x3 + (1 : Int32)) x4 s20 H locs ls hf h (lv_sub hl [0, 1, 2, 3] rfl)
            · have hf := im c_19 hf
              refine lv_bipush (v := (10 : Int32)) hx hb dX10_number_84 (by decide) ?_
              refine lv_iload hx hb dX10_number_86 (lv_at hl 3 rfl) ?_
              refine lv_imul hx hb dX10_number_88 ?_
              refine lv_aload_n hx hb dX10_number_89 rfl (lv_at hl 0 rfl) ?_
              refine gY_Model_tape F h hinX10 (hts (.fieldLink RX10 26 "ElectionHouseModel" "tape" "[B") (by decide +kernel)) dX10_number_90 ?_
              refine lv_aload_n hx hb dX10_number_93 rfl (lv_at hl 0 rfl) ?_
              refine gY_Model_next F h hinX10 (hts (.fieldLink RX10 128 "ElectionHouseModel" "next" "I") (by decide +kernel)) dX10_number_94 ?_
              obtain ⟨gi21, hf⟩ := og hf
              refine lY_mtape F h gi21 dX10_number_97 ?_
              refine lv_iadd hx hb dX10_number_98 ?_
              refine lv_bipush (v := (48 : Int32)) hx hb dX10_number_99 (by decide) ?_
              refine lv_isub hx hb dX10_number_101 ?_
              refine lv_istore (lv' := [(4, .int ((((10 : Int32) * x4) + (gM s 6 (ix (gM s 0 25)))) - (48 : Int32))), (0, .ref (Q 0)), (1, .int x1), (3, .int x3)]) hx hb dX10_number_102 hl (by decide) rfl (fun ls hl => ?_)
              have hl := lv_sub (l' := [(0, .ref (Q 0)), (1, .int x1), (3, .int x3), (4, .int ((((10 : Int32) * x4) + (gM s 6 (ix (gM s 0 25)))) - (48 : Int32)))]) hl [1, 2, 3, 0] rfl
              refine lv_iinc (v := (x3 + (1 : Int32))) (lv' := [(3, .int (x3 + (1 : Int32))), (0, .ref (Q 0)), (1, .int x1), (4, .int ((((10 : Int32) * x4) + (gM s 6 (ix (gM s 0 25)))) - (48 : Int32)))]) hx hb dX10_number_104 hl (k := 2) rfl (congrArg (fun z => x3 + z) (by decide : Int32.ofInt (1) = (1 : Int32))) (by decide) rfl (fun ls hl => ?_)
              have hl := lv_sub (l' := [(0, .ref (Q 0)), (1, .int x1), (3, .int (x3 + (1 : Int32))), (4, .int ((((10 : Int32) * x4) + (gM s 6 (ix (gM s 0 25)))) - (48 : Int32)))]) hl [1, 2, 0, 3] rfl
              refine lv_aload_n hx hb dX10_number_107 rfl (lv_at hl 0 rfl) ?_
              refine lv_dup hx hb dX10_number_108 rfl ?_
              refine gY_Model_next F h hinX10 (hts (.fieldLink RX10 128 "ElectionHouseModel" "next" "I") (by decide +kernel)) dX10_number_109 ?_
              refine lv_iconst (v := (1 : Int32)) hx hb dX10_number_112 (by decide) ?_
              refine lv_iadd hx hb dX10_number_113 ?_
              refine pY_Model_next F h hinX10 (hts (.fieldLink RX10 128 "ElectionHouseModel" "next" "I") (by decide +kernel)) dX10_number_114 (fun H locs h => ?_)
              obtain ⟨s22, es, hf⟩ := olq hf
              rw [← es] at h
              refine lv_goto (tgt := 40) hx hb dX10_number_117 (by decide) ?_
              exact ih40 (x3 + (1 : Int32)) ((((10 : Int32) * x4) + (gM s 6 (ix (gM s 0 25)))) - (48 : Int32)) s22 H locs ls hf h (lv_sub hl [0, 1, 2, 3] rfl)
  refine lv_aload_n hx hb dX10_number_0 rfl (lv_at hl 0 rfl) ?_
  obtain ⟨r24, s25, hc23, hf⟩ := ob2 hf
  refine call_VI F (c_Model_see l Z Q s hc23) (cwV 0 hts gX10_number_X10_see rfl rfl rfl (by decide +kernel) ⟨Nat.le_of_ble_eq_true rfl, Nat.le_of_ble_eq_true rfl⟩) h (rcY_Model h) rfl hl.1 rfl (Nat.le_of_ble_eq_true rfl) ⟨Nat.zero_le _, Nat.zero_le _⟩ dX10_number_1 (fun H locs h => ?_)
  refine lv_istore_n (lv' := [(2, .int r24), (0, .ref (Q 0)), (1, .int x1)]) hx hb dX10_number_4 rfl hl (by decide) rfl (fun ls hl => ?_)
  have hl := lv_sub (l' := [(0, .ref (Q 0)), (1, .int x1), (2, .int r24)]) hl [1, 2, 0] rfl
  refine lv_iload_n hx hb dX10_number_5 rfl (lv_at hl 2 rfl) ?_
  refine lv_bipush (v := (48 : Int32)) hx hb dX10_number_6 (by decide) ?_
  refine lv_icmp_lt (tgt := 17) hx hb dX10_number_8 (by decide) (fun c_26 => ?_) (fun c_26 => ?_)
  · have hf := ip c_26 hf
    exact lab17 s25 H locs ls hf h (lv_sub hl [0] rfl)
  · have hf := im c_26 hf
    refine lv_iload_n hx hb dX10_number_11 rfl (lv_at hl 2 rfl) ?_
    refine lv_bipush (v := (57 : Int32)) hx hb dX10_number_12 (by decide) ?_
    refine lv_icmp_le (tgt := 27) hx hb dX10_number_14 (by decide) (fun c_27 => ?_) (fun c_27 => ?_)
    · have hf := ip c_27 hf
      refine lv_aload_n hx hb dX10_number_27 rfl (lv_at hl 0 rfl) ?_
      refine lv_aload_n hx hb dX10_number_28 rfl (lv_at hl 0 rfl) ?_
      refine gY_Model_next F h hinX10 (hts (.fieldLink RX10 128 "ElectionHouseModel" "next" "I") (by decide +kernel)) dX10_number_29 ?_
      refine pY_Model_saidAt F h hinX10 (hts (.fieldLink RX10 145 "ElectionHouseModel" "saidAt" "I") (by decide +kernel)) dX10_number_32 (fun H locs h => ?_)
      obtain ⟨s28, es, hf⟩ := olq hf
      rw [← es] at h
      refine lv_iconst (v := (0 : Int32)) hx hb dX10_number_35 (by decide) ?_
      refine lv_istore_n (lv' := [(3, .int (0 : Int32)), (0, .ref (Q 0)), (1, .int x1), (2, .int r24)]) hx hb dX10_number_36 rfl hl (by decide) rfl (fun ls hl => ?_)
      have hl := lv_sub (l' := [(0, .ref (Q 0)), (1, .int x1), (2, .int r24), (3, .int (0 : Int32))]) hl [1, 2, 3, 0] rfl
      refine lv_iconst (v := (0 : Int32)) hx hb dX10_number_37 (by decide) ?_
      refine lv_istore (lv' := [(4, .int (0 : Int32)), (0, .ref (Q 0)), (1, .int x1), (2, .int r24), (3, .int (0 : Int32))]) hx hb dX10_number_38 hl (by decide) rfl (fun ls hl => ?_)
      have hl := lv_sub (l' := [(0, .ref (Q 0)), (1, .int x1), (2, .int r24), (3, .int (0 : Int32)), (4, .int (0 : Int32))]) hl [1, 2, 3, 4, 0] rfl
      exact lab40 x1 fuelN (0 : Int32) (0 : Int32) s28 H locs ls hf h (lv_sub hl [0, 1, 3, 4] rfl)
    · have hf := im c_27 hf
      exact lab17 s25 H locs ls hf h (lv_sub hl [0] rfl)

set_option maxHeartbeats 8000000 in
set_option maxRecDepth 100000 in
theorem c_Model_by (l : Launch) (Z : ZT) (Q : Nat → Nat) (s : XS) {r : Int32} {s' : XS} (hf : p_Model_by s = some (r, s')) : KI l Z (wY Z Q) yX10_by wsX10_by { frames := 2, cells := 0, slots := 0, locals := 46 } [.ref (Q 0)] s r s' := by
  intro sz
  refine met_entry (cc := cX10_by) (maxL := 1) (ret := (some .boolean)) (by decide) rfl (Nat.le_of_ble_eq_true rfl) sz rfl ?_
  generalize va_A (wY Z Q s) sz = A
  intro p e s0 m args below meth c ls F hr hlk h hl
  have hl : lv_has ls 1 [(0, .ref (Q 0))] := hl
  obtain ⟨hx, hb, hml, hown, hts⟩ := id F
  have hinX10 : ∀ w ∈ wsX100, w ∈ wsX10_by := by decide +kernel
  obtain ⟨H, eH⟩ : ∃ z, z = s0.heap := ⟨_, rfl⟩
  obtain ⟨locs, eL⟩ : ∃ z : List Loc, z = [] := ⟨_, rfl⟩
  rw [← eH, ← eL] at h ⊢
  unfold p_Model_by at hf
  refine lv_aload_n hx hb dX10_by_0 rfl (lv_at hl 0 rfl) ?_
  obtain ⟨s3, hc1, hf⟩ := ob1 hf
  refine call_VV F (c_Model_looks l Z Q s hc1) (cwV 0 hts gX10_by_X10_looks rfl rfl rfl (by decide +kernel) ⟨Nat.le_of_ble_eq_true rfl, Nat.le_of_ble_eq_true rfl⟩) h (rcY_Model h) rfl hl.1 rfl (Nat.le_of_ble_eq_true rfl) ⟨Nat.zero_le _, Nat.zero_le _⟩ dX10_by_1 (fun H locs h => ?_)
  refine lv_aload_n hx hb dX10_by_4 rfl (lv_at hl 0 rfl) ?_
  refine lv_bipush (v := (98 : Int32)) hx hb dX10_by_5 (by decide) ?_
  refine lv_bipush (v := (121 : Int32)) hx hb dX10_by_7 (by decide) ?_
  refine lv_iconst (v := (0 : Int32)) hx hb dX10_by_9 (by decide) ?_
  refine lv_iconst (v := (0 : Int32)) hx hb dX10_by_10 (by decide) ?_
  refine lv_iconst (v := (0 : Int32)) hx hb dX10_by_11 (by decide) ?_
  refine lv_iconst (v := (0 : Int32)) hx hb dX10_by_12 (by decide) ?_
  obtain ⟨r5, s6, hc4, hf⟩ := ob2 hf
  refine call_VI F (c_Model_isWord l Z Q s3 (98 : Int32) (121 : Int32) (0 : Int32) (0 : Int32) (0 : Int32) (0 : Int32) hc4) (cwV 6 hts gX10_by_X10_isWord rfl rfl rfl (by decide +kernel) ⟨Nat.le_of_ble_eq_true rfl, Nat.le_of_ble_eq_true rfl⟩) h (rcY_Model h) rfl hl.1 rfl (Nat.le_of_ble_eq_true rfl) ⟨Nat.zero_le _, Nat.zero_le _⟩ dX10_by_13 (fun H locs h => ?_)
  refine lv_if_ne (tgt := 29) hx hb dX10_by_16 (by decide) (fun c_7 => ?_) (fun c_7 => ?_)
  · have hf := im c_7 hf
    refine lv_aload_n hx hb dX10_by_29 rfl (lv_at hl 0 rfl) ?_
    refine lv_aload_n hx hb dX10_by_30 rfl (lv_at hl 0 rfl) ?_
    refine gY_Model_wordAt F h hinX10 (hts (.fieldLink RX10 135 "ElectionHouseModel" "wordAt" "I") (by decide +kernel)) dX10_by_31 ?_
    refine lv_aload_n hx hb dX10_by_34 rfl (lv_at hl 0 rfl) ?_
    refine gY_Model_wordSize F h hinX10 (hts (.fieldLink RX10 138 "ElectionHouseModel" "wordSize" "I") (by decide +kernel)) dX10_by_35 ?_
    refine lv_iadd hx hb dX10_by_38 ?_
    refine pY_Model_next F h hinX10 (hts (.fieldLink RX10 128 "ElectionHouseModel" "next" "I") (by decide +kernel)) dX10_by_39 (fun H locs h => ?_)
    obtain ⟨s8, es, hf⟩ := olq hf
    rw [← es] at h
    refine lv_aload_n hx hb dX10_by_42 rfl (lv_at hl 0 rfl) ?_
    refine lv_bipush (v := (40 : Int32)) hx hb dX10_by_43 (by decide) ?_
    obtain ⟨r10, s11, hc9, hf⟩ := ob2 hf
    refine call_VI F (c_Model_number l Z Q s8 (40 : Int32) hc9) (cwV 1 hts gX10_by_X10_number rfl rfl rfl (by decide +kernel) ⟨Nat.le_of_ble_eq_true rfl, Nat.le_of_ble_eq_true rfl⟩) h (rcY_Model h) rfl hl.1 rfl (Nat.le_of_ble_eq_true rfl) ⟨Nat.zero_le _, Nat.zero_le _⟩ dX10_by_45 (fun H locs h => ?_)
    obtain ⟨gz, hf⟩ := og hf
    exact retE_Z F hr hlk gz h hf dX10_by_48
  · have hf := ip c_7 hf
    refine lv_aload_n hx hb dX10_by_19 rfl (lv_at hl 0 rfl) ?_
    refine lv_iconst (v := (0 : Int32)) hx hb dX10_by_20 (by decide) ?_
    refine lv_aload_n hx hb dX10_by_21 rfl (lv_at hl 0 rfl) ?_
    refine gY_Model_wordAt F h hinX10 (hts (.fieldLink RX10 135 "ElectionHouseModel" "wordAt" "I") (by decide +kernel)) dX10_by_22 ?_
    obtain ⟨r13, s14, hc12, hf⟩ := ob2 hf
    refine call_VI F (c_Model_fails l Z Q s6 (0 : Int32) (gM s6 0 29) hc12) (cwV 2 hts gX10_by_X10_fails rfl rfl rfl (by decide +kernel) ⟨Nat.le_of_ble_eq_true rfl, Nat.le_of_ble_eq_true rfl⟩) h (rcY_Model h) rfl hl.1 rfl (Nat.le_of_ble_eq_true rfl) ⟨Nat.zero_le _, Nat.zero_le _⟩ dX10_by_25 (fun H locs h => ?_)
    obtain ⟨gz, hf⟩ := og hf
    exact retE_Z F hr hlk gz h hf dX10_by_28

