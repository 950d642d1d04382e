set_option maxHeartbeats 8000000 in
set_option maxRecDepth 100000 in
theorem c_Tape_hasRoom (l : Launch) (Z : ZT) (Q : Nat → Nat) (s : XS) (x1 : Int32) {r : Int32} (hf : p_Tape_hasRoom x1 s = some r) : KI l Z (wX Z Q) yX8_hasRoom wsX8_hasRoom { frames := 0, cells := 0, slots := 0, locals := 0 } [.ref (Q 7), .int x1] s r s := by
  intro sz
  refine met_entry (cc := cX8_hasRoom) (maxL := 2) (ret := (some .boolean)) (by decide) rfl (Nat.le_of_ble_eq_true rfl) sz rfl ?_
  generalize va_A (wX Z Q s) sz = A
  intro p e s0 m args below meth c ls F hr hlk h hl
  have hl : lv_has ls 2 [(0, .ref (Q 7)), (1, .int x1)] := hl
  obtain ⟨hx, hb, hml, hown, hts⟩ := id F
  have hinX8 : ∀ w ∈ wsX80, w ∈ wsX8_hasRoom := by decide +kernel
  obtain ⟨H, eH⟩ : ∃ z, z = s0.heap := ⟨_, rfl⟩
  obtain ⟨locs, eL⟩ : ∃ z : List Loc, z = [] := ⟨_, rfl⟩
  rw [← eH, ← eL] at h ⊢
  unfold p_Tape_hasRoom at hf
  refine lv_iload_n hx hb dX8_hasRoom_0 rfl (lv_at hl 1 rfl) ?_
  refine lv_sipush (v := (300 : Int32)) hx hb dX8_hasRoom_1 (by decide) ?_
  refine lv_aload_n hx hb dX8_hasRoom_4 rfl (lv_at hl 0 rfl) ?_
  refine gX_Tape_length F h hinX8 (hts (.fieldLink RX8 15 "ElectionHouse$Tape" "length" "I") (by decide +kernel)) dX8_hasRoom_5 ?_
  refine lv_isub hx hb dX8_hasRoom_8 ?_
  refine lv_icmp_gt (tgt := 16) hx hb dX8_hasRoom_9 (by decide) (fun c_1 => ?_) (fun c_1 => ?_)
  · have hf := ip c_1 hf
    refine lv_iconst (v := (0 : Int32)) hx hb dX8_hasRoom_16 (by decide) ?_
    exact retE_Zr F hr hlk (by decide) h hf dX8_hasRoom_17
  · have hf := im c_1 hf
    refine lv_iconst (v := (1 : Int32)) hx hb dX8_hasRoom_12 (by decide) ?_
    refine lv_goto (tgt := 17) hx hb dX8_hasRoom_13 (by decide) ?_
    exact retE_Zr F hr hlk (by decide) h hf dX8_hasRoom_17

set_option maxHeartbeats 8000000 in
set_option maxRecDepth 100000 in
theorem c_Tape_append (l : Launch) (Z : ZT) (Q : Nat → Nat) (s : XS) (x1 : Int32) {s' : XS} (hf : p_Tape_append x1 s = some s') : KV l Z (wX Z Q) yX8_append wsX8_append { frames := 1, cells := 0, slots := 0, locals := 21 } [.ref (Q 7), .int x1] s s' := by
  intro sz
  refine met_entry (cc := cX8_append) (maxL := 3) (ret := none) (by decide) rfl (Nat.le_of_ble_eq_true rfl) sz rfl ?_
  generalize va_A (wX Z Q s) sz = A
  intro p e s0 m args below meth c ls F hr hlk h hl
  have hl : lv_has ls 3 [(0, .ref (Q 7)), (1, .int x1)] := hl
  obtain ⟨hx, hb, hml, hown, hts⟩ := id F
  have hinX8 : ∀ w ∈ wsX80, w ∈ wsX8_append := by decide +kernel
  obtain ⟨H, eH⟩ : ∃ z, z = s0.heap := ⟨_, rfl⟩
  obtain ⟨locs, eL⟩ : ∃ z : List Loc, z = [] := ⟨_, rfl⟩
  rw [← eH, ← eL] at h ⊢
  unfold p_Tape_append at hf
  have lab3 : ∀ (x1 : Int32) (n : Nat) (x2 : Int32) (s : XS) (H : Heap) (locs : List Loc) (ls : Array Slot), lo2 (p_Tape_append_B3 x1) n x2 s = some s' → HW Z (wX Z Q) A s0 H locs s → lv_has ls 3 [(0, .ref (Q 7)), (1, .int x1), (2, .int x2)] → W p l e { frames := 1, cells := 0, slots := 0, locals := 21 } s0 m args below meth c H locs 0 0 (MQ below (QcV Z (wX Z Q) A s') args s0 0 0 A) (F0 m 3 ls []) := by
    intro x1 n
    induction n with
    | zero => intro x2 s H locs ls hf; exact absurd hf lo2_z
    | succ n ih3 =>
      intro x2 s H locs ls hf h hl
      have hf := lo2_s hf
      generalize lo2 (p_Tape_append_B3 x1) n = c3 at hf ih3
      unfold p_Tape_append_B3 at hf
      refine lv_iload_n hx hb dX8_append_3 rfl (lv_at hl 2 rfl) ?_
      refine lv_if_lt (tgt := 47) hx hb dX8_append_4 (by decide) (fun c_1 => ?_) (fun c_1 => ?_)
      · have hf := ip c_1 hf
        exact retE_V F hr hlk h hf dX8_append_47
      · have hf := im c_1 hf
        refine lv_aload_n hx hb dX8_append_7 rfl (lv_at hl 0 rfl) ?_
        refine lv_iconst (v := (1 : Int32)) hx hb dX8_append_8 (by decide) ?_
        obtain ⟨r3, hc2, hf⟩ := ob1 hf
        refine call_VI F (c_Tape_hasRoom l Z Q s (1 : Int32) hc2) (cwV 1 hts gX8_append_X8_hasRoom rfl rfl rfl (by decide +kernel) ⟨Nat.le_of_ble_eq_true rfl, Nat.le_of_ble_eq_true rfl⟩) h (rcX_Tape h) rfl hl.1 rfl (Nat.le_of_ble_eq_true rfl) ⟨Nat.zero_le _, Nat.zero_le _⟩ dX8_append_9 (fun H locs h => ?_)
        refine lv_if_eq (tgt := 41) hx hb dX8_append_12 (by decide) (fun c_5 => ?_) (fun c_5 => ?_)
        · have hf := ip c_5 hf
          refine lv_iinc (v := (x2 + (-8 : Int32))) (lv' := [(2, .int (x2 + (-8 : Int32))), (0, .ref (Q 7)), (1, .int x1)]) hx hb dX8_append_41 hl (k := 2) rfl (congrArg (fun z => x2 + z) (by decide : Int32.ofInt (-8) = (-8 : Int32))) (by decide) rfl (fun ls hl => ?_)
          have hl := lv_sub (l' := [(0, .ref (Q 7)), (1, .int x1), (2, .int (x2 + (-8 : Int32)))]) hl [1, 2, 0] rfl
          refine lv_goto (tgt := 3) hx hb dX8_append_44 (by decide) ?_
          exact ih3 (x2 + (-8 : Int32)) s H locs ls hf h (lv_sub hl [0, 1, 2] rfl)
        · have hf := im c_5 hf
          refine lv_aload_n hx hb dX8_append_15 rfl (lv_at hl 0 rfl) ?_
          refine gX_Tape_bytes F h hinX8 (hts (.fieldLink RX8 9 "ElectionHouse$Tape" "bytes" "[I") (by decide +kernel)) dX8_append_16 ?_
          refine lv_aload_n hx hb dX8_append_19 rfl (lv_at hl 0 rfl) ?_
          refine gX_Tape_length F h hinX8 (hts (.fieldLink RX8 15 "ElectionHouse$Tape" "length" "I") (by decide +kernel)) dX8_append_20 ?_
          refine lv_iload_n hx hb dX8_append_23 rfl (lv_at hl 1 rfl) ?_
          refine lv_iload_n hx hb dX8_append_24 rfl (lv_at hl 2 rfl) ?_
          refine lv_iushr (v := ((x1).toUInt32 >>> ((x2).toUInt32 &&& Int32.toUInt32 31)).toInt32) hx hb dX8_append_25 rfl ?_
          refine lv_sipush (v := (255 : Int32)) hx hb dX8_append_26 (by decide) ?_
          refine lv_iand hx hb dX8_append_29 ?_
          obtain ⟨gi6, hf⟩ := og hf
          refine sX_bytes F h gi6 dX8_append_30 (fun H locs h => ?_)
          obtain ⟨s7, es, hf⟩ := olq hf
          rw [← es] at h
          refine lv_aload_n hx hb dX8_append_31 rfl (lv_at hl 0 rfl) ?_
          refine lv_dup hx hb dX8_append_32 rfl ?_
          refine gX_Tape_length F h hinX8 (hts (.fieldLink RX8 15 "ElectionHouse$Tape" "length" "I") (by decide +kernel)) dX8_append_33 ?_
          refine lv_iconst (v := (1 : Int32)) hx hb dX8_append_36 (by decide) ?_
          refine lv_iadd hx hb dX8_append_37 ?_
          refine pX_Tape_length F h hinX8 (hts (.fieldLink RX8 15 "ElectionHouse$Tape" "length" "I") (by decide +kernel)) dX8_append_38 (fun H locs h => ?_)
          obtain ⟨s8, es, hf⟩ := olq hf
          rw [← es] at h
          refine lv_iinc (v := (x2 + (-8 : Int32))) (lv' := [(2, .int (x2 + (-8 : Int32))), (0, .ref (Q 7)), (1, .int x1)]) hx hb dX8_append_41 hl (k := 2) rfl (congrArg (fun z => x2 + z) (by decide : Int32.ofInt (-8) = (-8 : Int32))) (by decide) rfl (fun ls hl => ?_)
          have hl := lv_sub (l' := [(0, .ref (Q 7)), (1, .int x1), (2, .int (x2 + (-8 : Int32)))]) hl [1, 2, 0] rfl
          refine lv_goto (tgt := 3) hx hb dX8_append_44 (by decide) ?_
          exact ih3 (x2 + (-8 : Int32)) s8 H locs ls hf h (lv_sub hl [0, 1, 2] rfl)
  refine lv_bipush (v := (24 : Int32)) hx hb dX8_append_0 (by decide) ?_
  refine lv_istore_n (lv' := [(2, .int (24 : Int32)), (0, .ref (Q 7)), (1, .int x1)]) hx hb dX8_append_2 rfl hl (by decide) rfl (fun ls hl => ?_)
  have hl := lv_sub (l' := [(0, .ref (Q 7)), (1, .int x1), (2, .int (24 : Int32))]) hl [1, 2, 0] rfl
  exact lab3 x1 fuelN (24 : Int32) s H locs ls hf h (lv_sub hl [0, 1, 2] rfl)

set_option maxHeartbeats 8000000 in
set_option maxRecDepth 100000 in
theorem c_Tape_length (l : Launch) (Z : ZT) (Q : Nat → Nat) (s : XS) {r : Int32} (hf : p_Tape_length s = some r) : KI l Z (wX Z Q) yX8_length wsX8_length { frames := 0, cells := 0, slots := 0, locals := 0 } [.ref (Q 7)] s r s := by
  intro sz
  refine met_entry (cc := cX8_length) (maxL := 1) (ret := (some .int)) (by decide) rfl (Nat.le_of_ble_eq_true rfl) sz rfl ?_
  generalize va_A (wX Z Q s) sz = A
  intro p e s0 m args below meth c ls F hr hlk h hl
  have hl : lv_has ls 1 [(0, .ref (Q 7))] := hl
  obtain ⟨hx, hb, hml, hown, hts⟩ := id F
  have hinX8 : ∀ w ∈ wsX80, w ∈ wsX8_length := by decide +kernel
  obtain ⟨H, eH⟩ : ∃ z, z = s0.heap := ⟨_, rfl⟩
  obtain ⟨locs, eL⟩ : ∃ z : List Loc, z = [] := ⟨_, rfl⟩
  rw [← eH, ← eL] at h ⊢
  unfold p_Tape_length at hf
  refine lv_aload_n hx hb dX8_length_0 rfl (lv_at hl 0 rfl) ?_
  refine gX_Tape_length F h hinX8 (hts (.fieldLink RX8 15 "ElectionHouse$Tape" "length" "I") (by decide +kernel)) dX8_length_1 ?_
  exact retE_Ir F hr hlk h hf dX8_length_4

set_option maxHeartbeats 8000000 in
set_option maxRecDepth 100000 in
theorem c_Tape_cut (l : Launch) (Z : ZT) (Q : Nat → Nat) (s : XS) (x1 : Int32) {r : Int32} {s' : XS} (hf : p_Tape_cut x1 s = some (r, s')) : KI l Z (wX Z Q) yX8_cut wsX8_cut { frames := 0, cells := 0, slots := 0, locals := 0 } [.ref (Q 7), .int x1] s r s' := by
  intro sz
  refine met_entry (cc := cX8_cut) (maxL := 2) (ret := (some .boolean)) (by decide) rfl (Nat.le_of_ble_eq_true rfl) sz rfl ?_
  generalize va_A (wX Z Q s) sz = A
  intro p e s0 m args below meth c ls F hr hlk h hl
  have hl : lv_has ls 2 [(0, .ref (Q 7)), (1, .int x1)] := hl
  obtain ⟨hx, hb, hml, hown, hts⟩ := id F
  have hinX8 : ∀ w ∈ wsX80, w ∈ wsX8_cut := by decide +kernel
  obtain ⟨H, eH⟩ : ∃ z, z = s0.heap := ⟨_, rfl⟩
  obtain ⟨locs, eL⟩ : ∃ z : List Loc, z = [] := ⟨_, rfl⟩
  rw [← eH, ← eL] at h ⊢
  unfold p_Tape_cut at hf
  refine lv_iload_n hx hb dX8_cut_0 rfl (lv_at hl 1 rfl) ?_
  refine lv_if_lt (tgt := 12) hx hb dX8_cut_1 (by decide) (fun c_1 => ?_) (fun c_1 => ?_)
  · have hf := ip c_1 hf
    refine lv_iconst (v := (0 : Int32)) hx hb dX8_cut_12 (by decide) ?_
    exact retE_Z F hr hlk (by decide) h hf dX8_cut_13
  · have hf := im c_1 hf
    refine lv_iload_n hx hb dX8_cut_4 rfl (lv_at hl 1 rfl) ?_
    refine lv_aload_n hx hb dX8_cut_5 rfl (lv_at hl 0 rfl) ?_
    refine gX_Tape_length F h hinX8 (hts (.fieldLink RX8 15 "ElectionHouse$Tape" "length" "I") (by decide +kernel)) dX8_cut_6 ?_
    refine lv_icmp_le (tgt := 14) hx hb dX8_cut_9 (by decide) (fun c_2 => ?_) (fun c_2 => ?_)
    · have hf := ip c_2 hf
      refine lv_aload_n hx hb dX8_cut_14 rfl (lv_at hl 0 rfl) ?_
      refine lv_iload_n hx hb dX8_cut_15 rfl (lv_at hl 1 rfl) ?_
      refine pX_Tape_length F h hinX8 (hts (.fieldLink RX8 15 "ElectionHouse$Tape" "length" "I") (by decide +kernel)) dX8_cut_16 (fun H locs h => ?_)
      obtain ⟨s3, es, hf⟩ := olq hf
      rw [← es] at h
      refine lv_iconst (v := (1 : Int32)) hx hb dX8_cut_19 (by decide) ?_
      exact retE_Z F hr hlk (by decide) h hf dX8_cut_20
    · have hf := im c_2 hf
      refine lv_iconst (v := (0 : Int32)) hx hb dX8_cut_12 (by decide) ?_
      exact retE_Z F hr hlk (by decide) h hf dX8_cut_13

set_option maxHeartbeats 8000000 in
set_option maxRecDepth 100000 in
theorem c_Plan_clear (l : Launch) (Z : ZT) (Q : Nat → Nat) (s : XS) (k0 : Nat) (hk0 : k0 < 2) {s' : XS} (hf : p_Plan_clear k0 s = some s') : KV l Z (wX Z Q) yX3_clear wsX3_clear { frames := 0, cells := 0, slots := 0, locals := 0 } [.ref (Q (19 + 5 * k0))] s s' := by
  intro sz
  refine met_entry (cc := cX3_clear) (maxL := 1) (ret := none) (by decide) rfl (Nat.le_of_ble_eq_true rfl) sz rfl ?_
  generalize va_A (wX Z Q s) sz = A
  intro p e s0 m args below meth c ls F hr hlk h hl
  have hl : lv_has ls 1 [(0, .ref (Q (19 + 5 * k0)))] := hl
  obtain ⟨hx, hb, hml, hown, hts⟩ := id F
  have hinX3 : ∀ w ∈ wsX30, w ∈ wsX3_clear := by decide +kernel
  obtain ⟨H, eH⟩ : ∃ z, z = s0.heap := ⟨_, rfl⟩
  obtain ⟨locs, eL⟩ : ∃ z : List Loc, z = [] := ⟨_, rfl⟩
  rw [← eH, ← eL] at h ⊢
  unfold p_Plan_clear at hf
  refine lv_aload_n hx hb dX3_clear_0 rfl (lv_at hl 0 rfl) ?_
  refine lv_iconst (v := (0 : Int32)) hx hb dX3_clear_1 (by decide) ?_
  refine pX_Plan_length hk0 F h hinX3 (hts (.fieldLink RX3 24 "ElectionHouse$Plan" "length" "I") (by decide +kernel)) dX3_clear_2 (fun H locs h => ?_)
  obtain ⟨s1, es, hf⟩ := olq hf
  rw [← es] at h
  exact retE_V F hr hlk h hf dX3_clear_5

set_option maxHeartbeats 8000000 in
set_option maxRecDepth 100000 in
theorem c_Tape_at (l : Launch) (Z : ZT) (Q : Nat → Nat) (s : XS) (x1 : Int32) {r : Int32} (hf : p_Tape_at x1 s = some r) : KI l Z (wX Z Q) yX8_at wsX8_at { frames := 0, cells := 0, slots := 0, locals := 0 } [.ref (Q 7), .int x1] s r s := by
  intro sz
  refine met_entry (cc := cX8_at) (maxL := 2) (ret := (some .int)) (by decide) rfl (Nat.le_of_ble_eq_true rfl) sz rfl ?_
  generalize va_A (wX Z Q s) sz = A
  intro p e s0 m args below meth c ls F hr hlk h hl
  have hl : lv_has ls 2 [(0, .ref (Q 7)), (1, .int x1)] := hl
  obtain ⟨hx, hb, hml, hown, hts⟩ := id F
  have hinX8 : ∀ w ∈ wsX80, w ∈ wsX8_at := by decide +kernel
  obtain ⟨H, eH⟩ : ∃ z, z = s0.heap := ⟨_, rfl⟩
  obtain ⟨locs, eL⟩ : ∃ z : List Loc, z = [] := ⟨_, rfl⟩
  rw [← eH, ← eL] at h ⊢
  unfold p_Tape_at at hf
  refine lv_iload_n hx hb dX8_at_0 rfl (lv_at hl 1 rfl) ?_
  refine lv_if_lt (tgt := 21) hx hb dX8_at_1 (by decide) (fun c_1 => ?_) (fun c_1 => ?_)
  · have hf := ip c_1 hf
    refine lv_iconst (v := (-1 : Int32)) hx hb dX8_at_21 (by decide) ?_
    exact retE_Ir F hr hlk h hf dX8_at_22
  · have hf := im c_1 hf
    refine lv_iload_n hx hb dX8_at_4 rfl (lv_at hl 1 rfl) ?_
    refine lv_aload_n hx hb dX8_at_5 rfl (lv_at hl 0 rfl) ?_
    refine gX_Tape_length F h hinX8 (hts (.fieldLink RX8 15 "ElectionHouse$Tape" "length" "I") (by decide +kernel)) dX8_at_6 ?_
    refine lv_icmp_ge (tgt := 21) hx hb dX8_at_9 (by decide) (fun c_2 => ?_) (fun c_2 => ?_)
    · have hf := ip c_2 hf
      refine lv_iconst (v := (-1 : Int32)) hx hb dX8_at_21 (by decide) ?_
      exact retE_Ir F hr hlk h hf dX8_at_22
    · have hf := im c_2 hf
      refine lv_aload_n hx hb dX8_at_12 rfl (lv_at hl 0 rfl) ?_
      refine gX_Tape_bytes F h hinX8 (hts (.fieldLink RX8 9 "ElectionHouse$Tape" "bytes" "[I") (by decide +kernel)) dX8_at_13 ?_
      refine lv_iload_n hx hb dX8_at_16 rfl (lv_at hl 1 rfl) ?_
      obtain ⟨gi3, hf⟩ := og hf
      refine lX_bytes F h gi3 dX8_at_17 ?_
      refine lv_goto (tgt := 22) hx hb dX8_at_18 (by decide) ?_
      exact retE_Ir F hr hlk h hf dX8_at_22

set_option maxHeartbeats 8000000 in
set_option maxRecDepth 100000 in
theorem c_Plan_add (l : Launch) (Z : ZT) (Q : Nat → Nat) (s : XS) (k0 : Nat) (x1 : Int32) (x2 : Int32) (x3 : Int32) (x4 : Int32) (hk0 : k0 < 2) {s' : XS} (hf : p_Plan_add k0 x1 x2 x3 x4 s = some s') : KV l Z (wX Z Q) yX3_add wsX3_add { frames := 0, cells := 0, slots := 0, locals := 0 } [.ref (Q (19 + 5 * k0)), .int x1, .int x2, .int x3, .int x4] s s' := by
  intro sz
  refine met_entry (cc := cX3_add) (maxL := 5) (ret := none) (by decide) rfl (Nat.le_of_ble_eq_true rfl) sz rfl ?_
  generalize va_A (wX Z Q s) sz = A
  intro p e s0 m args below meth c ls F hr hlk h hl
  have hl : lv_has ls 5 [(0, .ref (Q (19 + 5 * k0))), (1, .int x1), (2, .int x2), (3, .int x3), (4, .int x4)] := hl
  obtain ⟨hx, hb, hml, hown, hts⟩ := id F
  have hinX3 : ∀ w ∈ wsX30, w ∈ wsX3_add := by decide +kernel
  obtain ⟨H, eH⟩ : ∃ z, z = s0.heap := ⟨_, rfl⟩
  obtain ⟨locs, eL⟩ : ∃ z : List Loc, z = [] := ⟨_, rfl⟩
  rw [← eH, ← eL] at h ⊢
  unfold p_Plan_add at hf
  refine lv_aload_n hx hb dX3_add_0 rfl (lv_at hl 0 rfl) ?_
  refine gX_Plan_length hk0 F h hinX3 (hts (.fieldLink RX3 24 "ElectionHouse$Plan" "length" "I") (by decide +kernel)) dX3_add_1 ?_
  refine lv_bipush (v := (12 : Int32)) hx hb dX3_add_4 (by decide) ?_
  refine lv_icmp_ge (tgt := 60) hx hb dX3_add_6 (by decide) (fun c_1 => ?_) (fun c_1 => ?_)
  · have hf := ip c_1 hf
    exact retE_V F hr hlk h hf dX3_add_60
  · have hf := im c_1 hf
    refine lv_aload_n hx hb dX3_add_9 rfl (lv_at hl 0 rfl) ?_
    refine gX_Plan_kinds hk0 F h hinX3 (hts (.fieldLink RX3 9 "ElectionHouse$Plan" "kinds" "[I") (by decide +kernel)) dX3_add_10 ?_
    refine lv_aload_n hx hb dX3_add_13 rfl (lv_at hl 0 rfl) ?_
    refine gX_Plan_length hk0 F h hinX3 (hts (.fieldLink RX3 24 "ElectionHouse$Plan" "length" "I") (by decide +kernel)) dX3_add_14 ?_
    refine lv_iload_n hx hb dX3_add_17 rfl (lv_at hl 1 rfl) ?_
    obtain ⟨gi2, hf⟩ := og hf
    refine sX_pkinds hk0 F h gi2 dX3_add_18 (fun H locs h => ?_)
    obtain ⟨s3, es, hf⟩ := olq hf
    rw [← es] at h
    refine lv_aload_n hx hb dX3_add_19 rfl (lv_at hl 0 rfl) ?_
    refine gX_Plan_sizes hk0 F h hinX3 (hts (.fieldLink RX3 15 "ElectionHouse$Plan" "sizes" "[I") (by decide +kernel)) dX3_add_20 ?_
    refine lv_aload_n hx hb dX3_add_23 rfl (lv_at hl 0 rfl) ?_
    refine gX_Plan_length hk0 F h hinX3 (hts (.fieldLink RX3 24 "ElectionHouse$Plan" "length" "I") (by decide +kernel)) dX3_add_24 ?_
    refine lv_iload_n hx hb dX3_add_27 rfl (lv_at hl 2 rfl) ?_
    obtain ⟨gi4, hf⟩ := og hf
    refine sX_psizes hk0 F h gi4 dX3_add_28 (fun H locs h => ?_)
    obtain ⟨s5, es, hf⟩ := olq hf
    rw [← es] at h
    refine lv_aload_n hx hb dX3_add_29 rfl (lv_at hl 0 rfl) ?_
    refine gX_Plan_votes hk0 F h hinX3 (hts (.fieldLink RX3 18 "ElectionHouse$Plan" "votes" "[I") (by decide +kernel)) dX3_add_30 ?_
    refine lv_aload_n hx hb dX3_add_33 rfl (lv_at hl 0 rfl) ?_
    refine gX_Plan_length hk0 F h hinX3 (hts (.fieldLink RX3 24 "ElectionHouse$Plan" "length" "I") (by decide +kernel)) dX3_add_34 ?_
    refine lv_iload_n hx hb dX3_add_37 rfl (lv_at hl 3 rfl) ?_
    obtain ⟨gi6, hf⟩ := og hf
    refine sX_pvot hk0 F h gi6 dX3_add_38 (fun H locs h => ?_)
    obtain ⟨s7, es, hf⟩ := olq hf
    rw [← es] at h
    refine lv_aload_n hx hb dX3_add_39 rfl (lv_at hl 0 rfl) ?_
    refine gX_Plan_limits hk0 F h hinX3 (hts (.fieldLink RX3 21 "ElectionHouse$Plan" "limits" "[I") (by decide +kernel)) dX3_add_40 ?_
    refine lv_aload_n hx hb dX3_add_43 rfl (lv_at hl 0 rfl) ?_
    refine gX_Plan_length hk0 F h hinX3 (hts (.fieldLink RX3 24 "ElectionHouse$Plan" "length" "I") (by decide +kernel)) dX3_add_44 ?_
    refine lv_iload hx hb dX3_add_47 (lv_at hl 4 rfl) ?_
    obtain ⟨gi8, hf⟩ := og hf
    refine sX_plim hk0 F h gi8 dX3_add_49 (fun H locs h => ?_)
    obtain ⟨s9, es, hf⟩ := olq hf
    rw [← es] at h
    refine lv_aload_n hx hb dX3_add_50 rfl (lv_at hl 0 rfl) ?_
    refine lv_dup hx hb dX3_add_51 rfl ?_
    refine gX_Plan_length hk0 F h hinX3 (hts (.fieldLink RX3 24 "ElectionHouse$Plan" "length" "I") (by decide +kernel)) dX3_add_52 ?_
    refine lv_iconst (v := (1 : Int32)) hx hb dX3_add_55 (by decide) ?_
    refine lv_iadd hx hb dX3_add_56 ?_
    refine pX_Plan_length hk0 F h hinX3 (hts (.fieldLink RX3 24 "ElectionHouse$Plan" "length" "I") (by decide +kernel)) dX3_add_57 (fun H locs h => ?_)
    obtain ⟨s10, es, hf⟩ := olq hf
    rw [← es] at h
    exact retE_V F hr hlk h hf dX3_add_60

set_option maxHeartbeats 8000000 in
set_option maxRecDepth 100000 in
theorem c_Plan_length (l : Launch) (Z : ZT) (Q : Nat → Nat) (s : XS) (k0 : Nat) (hk0 : k0 < 2) {r : Int32} (hf : p_Plan_length k0 s = some r) : KI l Z (wX Z Q) yX3_length wsX3_length { frames := 0, cells := 0, slots := 0, locals := 0 } [.ref (Q (19 + 5 * k0))] s r s := by
  intro sz
  refine met_entry (cc := cX3_length) (maxL := 1) (ret := (some .int)) (by decide) rfl (Nat.le_of_ble_eq_true rfl) sz rfl ?_
  generalize va_A (wX Z Q s) sz = A
  intro p e s0 m args below meth c ls F hr hlk h hl
  have hl : lv_has ls 1 [(0, .ref (Q (19 + 5 * k0)))] := hl
  obtain ⟨hx, hb, hml, hown, hts⟩ := id F
  have hinX3 : ∀ w ∈ wsX30, w ∈ wsX3_length := by decide +kernel
  obtain ⟨H, eH⟩ : ∃ z, z = s0.heap := ⟨_, rfl⟩
  obtain ⟨locs, eL⟩ : ∃ z : List Loc, z = [] := ⟨_, rfl⟩
  rw [← eH, ← eL] at h ⊢
  unfold p_Plan_length at hf
  refine lv_aload_n hx hb dX3_length_0 rfl (lv_at hl 0 rfl) ?_
  refine gX_Plan_length hk0 F h hinX3 (hts (.fieldLink RX3 24 "ElectionHouse$Plan" "length" "I") (by decide +kernel)) dX3_length_1 ?_
  exact retE_Ir F hr hlk h hf dX3_length_4

set_option maxHeartbeats 8000000 in
set_option maxRecDepth 100000 in
theorem c_Lot_tell (l : Launch) (Z : ZT) (Q : Nat → Nat) (s : XS) (x1 : Int32) {r : Int32} {s' : XS} (hf : p_Lot_tell x1 s = some (r, s')) : KI l Z (wX Z Q) yX1_tell wsX1_tell { frames := 0, cells := 0, slots := 0, locals := 0 } [.ref (Q 10), .int x1] s r s' := by
  intro sz
  refine met_entry (cc := cX1_tell) (maxL := 2) (ret := (some .int)) (by decide) rfl (Nat.le_of_ble_eq_true rfl) sz rfl ?_
  generalize va_A (wX Z Q s) sz = A
  intro p e s0 m args below meth c ls F hr hlk h hl
  have hl : lv_has ls 2 [(0, .ref (Q 10)), (1, .int x1)] := hl
  obtain ⟨hx, hb, hml, hown, hts⟩ := id F
  have hinX1 : ∀ w ∈ wsX10, w ∈ wsX1_tell := by decide +kernel
  obtain ⟨H, eH⟩ : ∃ z, z = s0.heap := ⟨_, rfl⟩
  obtain ⟨locs, eL⟩ : ∃ z : List Loc, z = [] := ⟨_, rfl⟩
  rw [← eH, ← eL] at h ⊢
  unfold p_Lot_tell at hf
  refine lv_aload_n hx hb dX1_tell_0 rfl (lv_at hl 0 rfl) ?_
  refine gX_Lot_waiting F h hinX1 (hts (.fieldLink RX1 15 "ElectionHouse$LotRow" "waiting" "I") (by decide +kernel)) dX1_tell_1 ?_
  refine lv_sipush (v := (500 : Int32)) hx hb dX1_tell_4 (by decide) ?_
  refine lv_icmp_ge (tgt := 21) hx hb dX1_tell_7 (by decide) (fun c_1 => ?_) (fun c_1 => ?_)
  · have hf := ip c_1 hf
    refine lv_iconst (v := (-1 : Int32)) hx hb dX1_tell_21 (by decide) ?_
    exact retE_I F hr hlk h hf dX1_tell_22
  · have hf := im c_1 hf
    refine lv_iload_n hx hb dX1_tell_10 rfl (lv_at hl 1 rfl) ?_
    refine lv_if_lt (tgt := 21) hx hb dX1_tell_11 (by decide) (fun c_2 => ?_) (fun c_2 => ?_)
    · have hf := ip c_2 hf
      refine lv_iconst (v := (-1 : Int32)) hx hb dX1_tell_21 (by decide) ?_
      exact retE_I F hr hlk h hf dX1_tell_22
    · have hf := im c_2 hf
      refine lv_iload_n hx hb dX1_tell_14 rfl (lv_at hl 1 rfl) ?_
      refine lv_sipush (v := (10000 : Int32)) hx hb dX1_tell_15 (by decide) ?_
      refine lv_icmp_lt (tgt := 23) hx hb dX1_tell_18 (by decide) (fun c_3 => ?_) (fun c_3 => ?_)
      · have hf := ip c_3 hf
        refine lv_aload_n hx hb dX1_tell_23 rfl (lv_at hl 0 rfl) ?_
        refine gX_Lot_ring F h hinX1 (hts (.fieldLink RX1 9 "ElectionHouse$LotRow" "ring" "[I") (by decide +kernel)) dX1_tell_24 ?_
        refine lv_aload_n hx hb dX1_tell_27 rfl (lv_at hl 0 rfl) ?_
        refine gX_Lot_first F h hinX1 (hts (.fieldLink RX1 22 "ElectionHouse$LotRow" "first" "I") (by decide +kernel)) dX1_tell_28 ?_
        refine lv_aload_n hx hb dX1_tell_31 rfl (lv_at hl 0 rfl) ?_
        refine gX_Lot_waiting F h hinX1 (hts (.fieldLink RX1 15 "ElectionHouse$LotRow" "waiting" "I") (by decide +kernel)) dX1_tell_32 ?_
        refine lv_iadd hx hb dX1_tell_35 ?_
        refine lv_sipush (v := (500 : Int32)) hx hb dX1_tell_36 (by decide) ?_
        refine lv_irem hx hb dX1_tell_39 (by decide) ?_
        refine lv_iload_n hx hb dX1_tell_40 rfl (lv_at hl 1 rfl) ?_
        obtain ⟨gi5, hf⟩ := og hf
        refine sX_ring F h gi5 dX1_tell_41 (fun H locs h => ?_)
        obtain ⟨s6, es, hf⟩ := olq hf
        rw [← es] at h
        refine lv_aload_n hx hb dX1_tell_42 rfl (lv_at hl 0 rfl) ?_
        refine lv_dup hx hb dX1_tell_43 rfl ?_
        refine gX_Lot_waiting F h hinX1 (hts (.fieldLink RX1 15 "ElectionHouse$LotRow" "waiting" "I") (by decide +kernel)) dX1_tell_44 ?_
        refine lv_iconst (v := (1 : Int32)) hx hb dX1_tell_47 (by decide) ?_
        refine lv_iadd hx hb dX1_tell_48 ?_
        refine pX_Lot_waiting F h hinX1 (hts (.fieldLink RX1 15 "ElectionHouse$LotRow" "waiting" "I") (by decide +kernel)) dX1_tell_49 (fun H locs h => ?_)
        obtain ⟨s7, es, hf⟩ := olq hf
        rw [← es] at h
        refine lv_aload_n hx hb dX1_tell_52 rfl (lv_at hl 0 rfl) ?_
        refine gX_Lot_waiting F h hinX1 (hts (.fieldLink RX1 15 "ElectionHouse$LotRow" "waiting" "I") (by decide +kernel)) dX1_tell_53 ?_
        exact retE_I F hr hlk h hf dX1_tell_56
      · have hf := im c_3 hf
        refine lv_iconst (v := (-1 : Int32)) hx hb dX1_tell_21 (by decide) ?_
        exact retE_I F hr hlk h hf dX1_tell_22

set_option maxHeartbeats 8000000 in
set_option maxRecDepth 100000 in
theorem c_Plan_has (l : Launch) (Z : ZT) (Q : Nat → Nat) (s : XS) (k0 : Nat) (x1 : Int32) (hk0 : k0 < 2) {r : Int32} (hf : p_Plan_has k0 x1 s = some r) : KI l Z (wX Z Q) yX3_has wsX3_has { frames := 0, cells := 0, slots := 0, locals := 0 } [.ref (Q (19 + 5 * k0)), .int x1] s r s := by
  intro sz
  refine met_entry (cc := cX3_has) (maxL := 2) (ret := (some .boolean)) (by decide) rfl (Nat.le_of_ble_eq_true rfl) sz rfl ?_
  generalize va_A (wX Z Q s) sz = A
  intro p e s0 m args below meth c ls F hr hlk h hl
  have hl : lv_has ls 2 [(0, .ref (Q (19 + 5 * k0))), (1, .int x1)] := hl
  obtain ⟨hx, hb, hml, hown, hts⟩ := id F
  have hinX3 : ∀ w ∈ wsX30, w ∈ wsX3_has := by decide +kernel
  obtain ⟨H, eH⟩ : ∃ z, z = s0.heap := ⟨_, rfl⟩
  obtain ⟨locs, eL⟩ : ∃ z : List Loc, z = [] := ⟨_, rfl⟩
  rw [← eH, ← eL] at h ⊢
  unfold p_Plan_has at hf
  refine lv_iload_n hx hb dX3_has_0 rfl (lv_at hl 1 rfl) ?_
  refine lv_if_lt (tgt := 16) hx hb dX3_has_1 (by decide) (fun c_1 => ?_) (fun c_1 => ?_)
  · have hf := ip c_1 hf
    refine lv_iconst (v := (0 : Int32)) hx hb dX3_has_16 (by decide) ?_
    exact retE_Zr F hr hlk (by decide) h hf dX3_has_17
  · have hf := im c_1 hf
    refine lv_iload_n hx hb dX3_has_4 rfl (lv_at hl 1 rfl) ?_
    refine lv_aload_n hx hb dX3_has_5 rfl (lv_at hl 0 rfl) ?_
    refine gX_Plan_length hk0 F h hinX3 (hts (.fieldLink RX3 24 "ElectionHouse$Plan" "length" "I") (by decide +kernel)) dX3_has_6 ?_
    refine lv_icmp_ge (tgt := 16) hx hb dX3_has_9 (by decide) (fun c_2 => ?_) (fun c_2 => ?_)
    · have hf := ip c_2 hf
      refine lv_iconst (v := (0 : Int32)) hx hb dX3_has_16 (by decide) ?_
      exact retE_Zr F hr hlk (by decide) h hf dX3_has_17
    · have hf := im c_2 hf
      refine lv_iconst (v := (1 : Int32)) hx hb dX3_has_12 (by decide) ?_
      refine lv_goto (tgt := 17) hx hb dX3_has_13 (by decide) ?_
      exact retE_Zr F hr hlk (by decide) h hf dX3_has_17

set_option maxHeartbeats 8000000 in
set_option maxRecDepth 100000 in
theorem c_Plan_kindOf (l : Launch) (Z : ZT) (Q : Nat → Nat) (s : XS) (k0 : Nat) (x1 : Int32) (hk0 : k0 < 2) {r : Int32} (hf : p_Plan_kindOf k0 x1 s = some r) : KI l Z (wX Z Q) yX3_kindOf wsX3_kindOf { frames := 1, cells := 0, slots := 0, locals := 21 } [.ref (Q (19 + 5 * k0)), .int x1] s r s := by
  intro sz
  refine met_entry (cc := cX3_kindOf) (maxL := 2) (ret := (some .int)) (by decide) rfl (Nat.le_of_ble_eq_true rfl) sz rfl ?_
  generalize va_A (wX Z Q s) sz = A
  intro p e s0 m args below meth c ls F hr hlk h hl
  have hl : lv_has ls 2 [(0, .ref (Q (19 + 5 * k0))), (1, .int x1)] := hl
  obtain ⟨hx, hb, hml, hown, hts⟩ := id F
  have hinX3 : ∀ w ∈ wsX30, w ∈ wsX3_kindOf := by decide +kernel
  obtain ⟨H, eH⟩ : ∃ z, z = s0.heap := ⟨_, rfl⟩
  obtain ⟨locs, eL⟩ : ∃ z : List Loc, z = [] := ⟨_, rfl⟩
  rw [← eH, ← eL] at h ⊢
  unfold p_Plan_kindOf at hf
  refine lv_aload_n hx hb dX3_kindOf_0 rfl (lv_at hl 0 rfl) ?_
  refine lv_iload_n hx hb dX3_kindOf_1 rfl (lv_at hl 1 rfl) ?_
  obtain ⟨r2, hc1, hf⟩ := ob1 hf
  refine call_VI F (c_Plan_has l Z Q s k0 x1 hk0 hc1) (cwV 1 hts gX3_kindOf_X3_has rfl rfl rfl (by decide +kernel) ⟨Nat.le_of_ble_eq_true rfl, Nat.le_of_ble_eq_true rfl⟩) h (rcX_Plan hk0 h) rfl hl.1 rfl (Nat.le_of_ble_eq_true rfl) ⟨Nat.zero_le _, Nat.zero_le _⟩ dX3_kindOf_2 (fun H locs h => ?_)
  refine lv_if_eq (tgt := 17) hx hb dX3_kindOf_5 (by decide) (fun c_4 => ?_) (fun c_4 => ?_)
  · have hf := ip c_4 hf
    refine lv_iconst (v := (0 : Int32)) hx hb dX3_kindOf_17 (by decide) ?_
    exact retE_Ir F hr hlk h hf dX3_kindOf_18
  · have hf := im c_4 hf
    refine lv_aload_n hx hb dX3_kindOf_8 rfl (lv_at hl 0 rfl) ?_
    refine gX_Plan_kinds hk0 F h hinX3 (hts (.fieldLink RX3 9 "ElectionHouse$Plan" "kinds" "[I") (by decide +kernel)) dX3_kindOf_9 ?_
    refine lv_iload_n hx hb dX3_kindOf_12 rfl (lv_at hl 1 rfl) ?_
    obtain ⟨gi5, hf⟩ := og hf
    refine lX_pkinds hk0 F h gi5 dX3_kindOf_13 ?_
    refine lv_goto (tgt := 18) hx hb dX3_kindOf_14 (by decide) ?_
    exact retE_Ir F hr hlk h hf dX3_kindOf_18

set_option maxHeartbeats 8000000 in
set_option maxRecDepth 100000 in
theorem c_Plan_sizeOf (l : Launch) (Z : ZT) (Q : Nat → Nat) (s : XS) (k0 : Nat) (x1 : Int32) (hk0 : k0 < 2) {r : Int32} (hf : p_Plan_sizeOf k0 x1 s = some r) : KI l Z (wX Z Q) yX3_sizeOf wsX3_sizeOf { frames := 1, cells := 0, slots := 0, locals := 21 } [.ref (Q (19 + 5 * k0)), .int x1] s r s := by
  intro sz
  refine met_entry (cc := cX3_sizeOf) (maxL := 2) (ret := (some .int)) (by decide) rfl (Nat.le_of_ble_eq_true rfl) sz rfl ?_
  generalize va_A (wX Z Q s) sz = A
  intro p e s0 m args below meth c ls F hr hlk h hl
  have hl : lv_has ls 2 [(0, .ref (Q (19 + 5 * k0))), (1, .int x1)] := hl
  obtain ⟨hx, hb, hml, hown, hts⟩ := id F
  have hinX3 : ∀ w ∈ wsX30, w ∈ wsX3_sizeOf := by decide +kernel
  obtain ⟨H, eH⟩ : ∃ z, z = s0.heap := ⟨_, rfl⟩
  obtain ⟨locs, eL⟩ : ∃ z : List Loc, z = [] := ⟨_, rfl⟩
  rw [← eH, ← eL] at h ⊢
  unfold p_Plan_sizeOf at hf
  refine lv_aload_n hx hb dX3_sizeOf_0 rfl (lv_at hl 0 rfl) ?_
  refine lv_iload_n hx hb dX3_sizeOf_1 rfl (lv_at hl 1 rfl) ?_
  obtain ⟨r2, hc1, hf⟩ := ob1 hf
  refine call_VI F (c_Plan_has l Z Q s k0 x1 hk0 hc1) (cwV 1 hts gX3_sizeOf_X3_has rfl rfl rfl (by decide +kernel) ⟨Nat.le_of_ble_eq_true rfl, Nat.le_of_ble_eq_true rfl⟩) h (rcX_Plan hk0 h) rfl hl.1 rfl (Nat.le_of_ble_eq_true rfl) ⟨Nat.zero_le _, Nat.zero_le _⟩ dX3_sizeOf_2 (fun H locs h => ?_)
  refine lv_if_eq (tgt := 17) hx hb dX3_sizeOf_5 (by decide) (fun c_4 => ?_) (fun c_4 => ?_)
  · have hf := ip c_4 hf
    refine lv_iconst (v := (0 : Int32)) hx hb dX3_sizeOf_17 (by decide) ?_
    exact retE_Ir F hr hlk h hf dX3_sizeOf_18
  · have hf := im c_4 hf
    refine lv_aload_n hx hb dX3_sizeOf_8 rfl (lv_at hl 0 rfl) ?_
    refine gX_Plan_sizes hk0 F h hinX3 (hts (.fieldLink RX3 15 "ElectionHouse$Plan" "sizes" "[I") (by decide +kernel)) dX3_sizeOf_9 ?_
    refine lv_iload_n hx hb dX3_sizeOf_12 rfl (lv_at hl 1 rfl) ?_
    obtain ⟨gi5, hf⟩ := og hf
    refine lX_psizes hk0 F h gi5 dX3_sizeOf_13 ?_
    refine lv_goto (tgt := 18) hx hb dX3_sizeOf_14 (by decide) ?_
    exact retE_Ir F hr hlk h hf dX3_sizeOf_18

set_option maxHeartbeats 8000000 in
set_option maxRecDepth 100000 in
theorem c_Lot_at (l : Launch) (Z : ZT) (Q : Nat → Nat) (s : XS) (x1 : Int32) {r : Int32} (hf : p_Lot_at x1 s = some r) : KI l Z (wX Z Q) yX1_at wsX1_at { frames := 0, cells := 0, slots := 0, locals := 0 } [.ref (Q 10), .int x1] s r s := by
  intro sz
  refine met_entry (cc := cX1_at) (maxL := 2) (ret := (some .int)) (by decide) rfl (Nat.le_of_ble_eq_true rfl) sz rfl ?_
  generalize va_A (wX Z Q s) sz = A
  intro p e s0 m args below meth c ls F hr hlk h hl
  have hl : lv_has ls 2 [(0, .ref (Q 10)), (1, .int x1)] := hl
  obtain ⟨hx, hb, hml, hown, hts⟩ := id F
  have hinX1 : ∀ w ∈ wsX10, w ∈ wsX1_at := by decide +kernel
  obtain ⟨H, eH⟩ : ∃ z, z = s0.heap := ⟨_, rfl⟩
  obtain ⟨locs, eL⟩ : ∃ z : List Loc, z = [] := ⟨_, rfl⟩
  rw [← eH, ← eL] at h ⊢
  unfold p_Lot_at at hf
  refine lv_iload_n hx hb dX1_at_0 rfl (lv_at hl 1 rfl) ?_
  refine lv_if_lt (tgt := 30) hx hb dX1_at_1 (by decide) (fun c_1 => ?_) (fun c_1 => ?_)
  · have hf := ip c_1 hf
    refine lv_iconst (v := (-1 : Int32)) hx hb dX1_at_30 (by decide) ?_
    exact retE_Ir F hr hlk h hf dX1_at_31
  · have hf := im c_1 hf
    refine lv_iload_n hx hb dX1_at_4 rfl (lv_at hl 1 rfl) ?_
    refine lv_aload_n hx hb dX1_at_5 rfl (lv_at hl 0 rfl) ?_
    refine gX_Lot_waiting F h hinX1 (hts (.fieldLink RX1 15 "ElectionHouse$LotRow" "waiting" "I") (by decide +kernel)) dX1_at_6 ?_
    refine lv_icmp_ge (tgt := 30) hx hb dX1_at_9 (by decide) (fun c_2 => ?_) (fun c_2 => ?_)
    · have hf := ip c_2 hf
      refine lv_iconst (v := (-1 : Int32)) hx hb dX1_at_30 (by decide) ?_
      exact retE_Ir F hr hlk h hf dX1_at_31
    · have hf := im c_2 hf
      refine lv_aload_n hx hb dX1_at_12 rfl (lv_at hl 0 rfl) ?_
      refine gX_Lot_ring F h hinX1 (hts (.fieldLink RX1 9 "ElectionHouse$LotRow" "ring" "[I") (by decide +kernel)) dX1_at_13 ?_
      refine lv_aload_n hx hb dX1_at_16 rfl (lv_at hl 0 rfl) ?_
      refine gX_Lot_first F h hinX1 (hts (.fieldLink RX1 22 "ElectionHouse$LotRow" "first" "I") (by decide +kernel)) dX1_at_17 ?_
      refine lv_iload_n hx hb dX1_at_20 rfl (lv_at hl 1 rfl) ?_
      refine lv_iadd hx hb dX1_at_21 ?_
      refine lv_sipush (v := (500 : Int32)) hx hb dX1_at_22 (by decide) ?_
      refine lv_irem hx hb dX1_at_25 (by decide) ?_
      obtain ⟨gi4, hf⟩ := og hf
      refine lX_ring F h gi4 dX1_at_26 ?_
      refine lv_goto (tgt := 31) hx hb dX1_at_27 (by decide) ?_
      exact retE_Ir F hr hlk h hf dX1_at_31

set_option maxHeartbeats 8000000 in
set_option maxRecDepth 100000 in
theorem c_Lot_seekFair (l : Launch) (Z : ZT) (Q : Nat → Nat) (s : XS) (x1 : Int32) (x2 : Int32) {r : Int32} (hf : p_Lot_seekFair x1 x2 s = some r) : KI l Z (wX Z Q) yX1_seekFair wsX1_seekFair { frames := 1, cells := 0, slots := 0, locals := 21 } [.ref (Q 10), .int x1, .int x2] s r s := by
  intro sz
  refine met_entry (cc := cX1_seekFair) (maxL := 5) (ret := (some .int)) (by decide) rfl (Nat.le_of_ble_eq_true rfl) sz rfl ?_
  generalize va_A (wX Z Q s) sz = A
  intro p e s0 m args below meth c ls F hr hlk h hl
  have hl : lv_has ls 5 [(0, .ref (Q 10)), (1, .int x1), (2, .int x2)] := hl
  obtain ⟨hx, hb, hml, hown, hts⟩ := id F
  have hinX1 : ∀ w ∈ wsX10, w ∈ wsX1_seekFair := by decide +kernel
  obtain ⟨H, eH⟩ : ∃ z, z = s0.heap := ⟨_, rfl⟩
  obtain ⟨locs, eL⟩ : ∃ z : List Loc, z = [] := ⟨_, rfl⟩
  rw [← eH, ← eL] at h ⊢
  unfold p_Lot_seekFair at hf
  have lab22 : ∀ (x3 : Int32) (n : Nat) (x4 : Int32) (H : Heap) (locs : List Loc) (ls : Array Slot), lo1 (p_Lot_seekFair_B22 x3 s) n x4 = some r → HW Z (wX Z Q) A s0 H locs s → lv_has ls 5 [(0, .ref (Q 10)), (3, .int x3), (4, .int x4)] → W p l e { frames := 1, cells := 0, slots := 0, locals := 21 } s0 m args below meth c H locs 0 0 (MQ below (QcI Z (wX Z Q) A r s) args s0 0 0 A) (F0 m 22 ls []) := by
    intro x3 n
    induction n with
    | zero => intro x4 H locs ls hf; exact absurd hf lo1_z
    | succ n ih22 =>
      intro x4 H locs ls hf h hl
      have hf := lo1_s hf
      generalize lo1 (p_Lot_seekFair_B22 x3 s) n = c22 at hf ih22
      unfold p_Lot_seekFair_B22 at hf
      refine lv_iload hx hb dX1_seekFair_22 (lv_at hl 2 rfl) ?_
      refine lv_aload_n hx hb dX1_seekFair_24 rfl (lv_at hl 0 rfl) ?_
      refine gX_Lot_waiting F h hinX1 (hts (.fieldLink RX1 15 "ElectionHouse$LotRow" "waiting" "I") (by decide +kernel)) dX1_seekFair_25 ?_
      refine lv_icmp_ge (tgt := 50) hx hb dX1_seekFair_28 (by decide) (fun c_1 => ?_) (fun c_1 => ?_)
      · have hf := ip c_1 hf
        refine lv_iconst (v := (-1 : Int32)) hx hb dX1_seekFair_50 (by decide) ?_
        exact retE_Ir F hr hlk h hf dX1_seekFair_51
      · have hf := im c_1 hf
        refine lv_aload_n hx hb dX1_seekFair_31 rfl (lv_at hl 0 rfl) ?_
        refine lv_iload hx hb dX1_seekFair_32 (lv_at hl 2 rfl) ?_
        obtain ⟨r3, hc2, hf⟩ := ob1 hf
        refine call_VI F (c_Lot_at l Z Q s x4 hc2) (cwV 1 hts gX1_seekFair_X1_at rfl rfl rfl (by decide +kernel) ⟨Nat.le_of_ble_eq_true rfl, Nat.le_of_ble_eq_true rfl⟩) h (rcX_Lot h) rfl hl.1 rfl (Nat.le_of_ble_eq_true rfl) ⟨Nat.zero_le _, Nat.zero_le _⟩ dX1_seekFair_34 (fun H locs h => ?_)
        refine lv_iload_n hx hb dX1_seekFair_37 rfl (lv_at hl 1 rfl) ?_
        refine lv_icmp_ge (tgt := 44) hx hb dX1_seekFair_38 (by decide) (fun c_5 => ?_) (fun c_5 => ?_)
        · have hf := ip c_5 hf
          refine lv_iinc (v := (x4 + (1 : Int32))) (lv' := [(4, .int (x4 + (1 : Int32))), (0, .ref (Q 10)), (3, .int x3)]) hx hb dX1_seekFair_44 hl (k := 2) rfl (congrArg (fun z => x4 + z) (by decide : Int32.ofInt (1) = (1 : Int32))) (by decide) rfl (fun ls hl => ?_)
          have hl := lv_sub (l' := [(0, .ref (Q 10)), (3, .int x3), (4, .int (x4 + (1 : Int32)))]) hl [1, 2, 0] rfl
          refine lv_goto (tgt := 22) hx hb dX1_seekFair_47 (by decide) ?_
          exact ih22 (x4 + (1 : Int32)) H locs ls hf h (lv_sub hl [0, 1, 2] rfl)
        · have hf := im c_5 hf
          refine lv_iload hx hb dX1_seekFair_41 (lv_at hl 2 rfl) ?_
          exact retE_Ir F hr hlk h hf dX1_seekFair_43
  refine lv_iload_n hx hb dX1_seekFair_0 rfl (lv_at hl 2 rfl) ?_
  refine lv_iconst (v := (1 : Int32)) hx hb dX1_seekFair_1 (by decide) ?_
  refine lv_icmp_ge (tgt := 7) hx hb dX1_seekFair_2 (by decide) (fun c_6 => ?_) (fun c_6 => ?_)
  · have hf := ip c_6 hf
    refine lv_iload_n hx hb dX1_seekFair_7 rfl (lv_at hl 2 rfl) ?_
    refine lv_sipush (v := (10000 : Int32)) hx hb dX1_seekFair_8 (by decide) ?_
    refine lv_iload_n hx hb dX1_seekFair_11 rfl (lv_at hl 2 rfl) ?_
    obtain ⟨gd7, hf⟩ := og0 hf
    refine lv_idiv hx hb dX1_seekFair_12 gd7 ?_
    refine lv_imul hx hb dX1_seekFair_13 ?_
    refine lv_istore_n (lv' := [(3, .int (x2 * ((10000 : Int32) / x2))), (0, .ref (Q 10)), (1, .int x1), (2, .int x2)]) hx hb dX1_seekFair_14 rfl hl (by decide) rfl (fun ls hl => ?_)
    have hl := lv_sub (l' := [(0, .ref (Q 10)), (1, .int x1), (2, .int x2), (3, .int (x2 * ((10000 : Int32) / x2)))]) hl [1, 2, 3, 0] rfl
    refine lv_iload_n hx hb dX1_seekFair_15 rfl (lv_at hl 1 rfl) ?_
    refine lv_iconst (v := (0 : Int32)) hx hb dX1_seekFair_16 (by decide) ?_
    refine va_mmax hx hb (by rw [hml]; exact hl.1.symm) hown (hts (.methodLink RX1 25 Lib.Math.max.name) (by decide +kernel)) (hts (.static Lib.Math.max.name) (by decide +kernel)) (hts (.initialized "java/lang/Math") (by decide +kernel)) (hts (.code Lib.Math.max.name Lib.Math.max.code 2 (some .int)) (by decide +kernel)) (Nat.le_of_ble_eq_true rfl) (Nat.le_of_ble_eq_true rfl) (Nat.zero_le _) (Nat.zero_le _) dX1_seekFair_17 ?_
    refine lv_istore (lv' := [(4, .int (if x1 < (0 : Int32) then (0 : Int32) else x1)), (0, .ref (Q 10)), (1, .int x1), (2, .int x2), (3, .int (x2 * ((10000 : Int32) / x2)))]) hx hb dX1_seekFair_20 hl (by decide) rfl (fun ls hl => ?_)
    have hl := lv_sub (l' := [(0, .ref (Q 10)), (1, .int x1), (2, .int x2), (3, .int (x2 * ((10000 : Int32) / x2))), (4, .int (if x1 < (0 : Int32) then (0 : Int32) else x1))]) hl [1, 2, 3, 4, 0] rfl
    exact lab22 (x2 * ((10000 : Int32) / x2)) fuelN (if x1 < (0 : Int32) then (0 : Int32) else x1) H locs ls hf h (lv_sub hl [0, 3, 4] rfl)
  · have hf := im c_6 hf
    refine lv_iconst (v := (-1 : Int32)) hx hb dX1_seekFair_5 (by decide) ?_
    exact retE_Ir F hr hlk h hf dX1_seekFair_6

set_option maxHeartbeats 8000000 in
set_option maxRecDepth 100000 in
theorem c_Lot_pick (l : Launch) (Z : ZT) (Q : Nat → Nat) (s : XS) (x1 : Int32) (x2 : Int32) {r : Int32} (hf : p_Lot_pick x1 x2 s = some r) : KI l Z (wX Z Q) yX1_pick wsX1_pick { frames := 1, cells := 0, slots := 0, locals := 21 } [.ref (Q 10), .int x1, .int x2] s r s := by
  intro sz
  refine met_entry (cc := cX1_pick) (maxL := 4) (ret := (some .int)) (by decide) rfl (Nat.le_of_ble_eq_true rfl) sz rfl ?_
  generalize va_A (wX Z Q s) sz = A
  intro p e s0 m args below meth c ls F hr hlk h hl
  have hl : lv_has ls 4 [(0, .ref (Q 10)), (1, .int x1), (2, .int x2)] := hl
  obtain ⟨hx, hb, hml, hown, hts⟩ := id F
  obtain ⟨H, eH⟩ : ∃ z, z = s0.heap := ⟨_, rfl⟩
  obtain ⟨locs, eL⟩ : ∃ z : List Loc, z = [] := ⟨_, rfl⟩
  rw [← eH, ← eL] at h ⊢
  unfold p_Lot_pick at hf
  refine lv_aload_n hx hb dX1_pick_0 rfl (lv_at hl 0 rfl) ?_
  refine lv_iload_n hx hb dX1_pick_1 rfl (lv_at hl 1 rfl) ?_
  obtain ⟨r2, hc1, hf⟩ := ob1 hf
  refine call_VI F (c_Lot_at l Z Q s x1 hc1) (cwV 1 hts gX1_pick_X1_at rfl rfl rfl (by decide +kernel) ⟨Nat.le_of_ble_eq_true rfl, Nat.le_of_ble_eq_true rfl⟩) h (rcX_Lot h) rfl hl.1 rfl (Nat.le_of_ble_eq_true rfl) ⟨Nat.zero_le _, Nat.zero_le _⟩ dX1_pick_2 (fun H locs h => ?_)
  refine lv_istore_n (lv' := [(3, .int r2), (0, .ref (Q 10)), (1, .int x1), (2, .int x2)]) hx hb dX1_pick_5 rfl hl (by decide) rfl (fun ls hl => ?_)
  have hl := lv_sub (l' := [(0, .ref (Q 10)), (1, .int x1), (2, .int x2), (3, .int r2)]) hl [1, 2, 3, 0] rfl
  refine lv_iload_n hx hb dX1_pick_6 rfl (lv_at hl 2 rfl) ?_
  refine lv_iconst (v := (1 : Int32)) hx hb dX1_pick_7 (by decide) ?_
  refine lv_icmp_lt (tgt := 15) hx hb dX1_pick_8 (by decide) (fun c_4 => ?_) (fun c_4 => ?_)
  · have hf := ip c_4 hf
    refine lv_iconst (v := (0 : Int32)) hx hb dX1_pick_15 (by decide) ?_
    refine lv_goto (tgt := 22) hx hb dX1_pick_16 (by decide) ?_
    exact retE_Ir F hr hlk h hf dX1_pick_22
  · have hf := im c_4 hf
    refine lv_iload_n hx hb dX1_pick_11 rfl (lv_at hl 3 rfl) ?_
    refine lv_if_ge (tgt := 19) hx hb dX1_pick_12 (by decide) (fun c_5 => ?_) (fun c_5 => ?_)
    · have hf := ip c_5 hf
      refine lv_iload_n hx hb dX1_pick_19 rfl (lv_at hl 3 rfl) ?_
      refine lv_iload_n hx hb dX1_pick_20 rfl (lv_at hl 2 rfl) ?_
      obtain ⟨gd6, hf⟩ := og0 hf
      refine lv_irem hx hb dX1_pick_21 gd6 ?_
      exact retE_Ir F hr hlk h hf dX1_pick_22
    · have hf := im c_5 hf
      refine lv_iconst (v := (0 : Int32)) hx hb dX1_pick_15 (by decide) ?_
      refine lv_goto (tgt := 22) hx hb dX1_pick_16 (by decide) ?_
      exact retE_Ir F hr hlk h hf dX1_pick_22

set_option maxHeartbeats 8000000 in
set_option maxRecDepth 100000 in
theorem c_Lot_use (l : Launch) (Z : ZT) (Q : Nat → Nat) (s : XS) (x1 : Int32) {s' : XS} (hf : p_Lot_use x1 s = some s') : KV l Z (wX Z Q) yX1_use wsX1_use { frames := 0, cells := 0, slots := 0, locals := 0 } [.ref (Q 10), .int x1] s s' := by
  intro sz
  refine met_entry (cc := cX1_use) (maxL := 2) (ret := none) (by decide) rfl (Nat.le_of_ble_eq_true rfl) sz rfl ?_
  generalize va_A (wX Z Q s) sz = A
  intro p e s0 m args below meth c ls F hr hlk h hl
  have hl : lv_has ls 2 [(0, .ref (Q 10)), (1, .int x1)] := hl
  obtain ⟨hx, hb, hml, hown, hts⟩ := id F
  have hinX1 : ∀ w ∈ wsX10, w ∈ wsX1_use := by decide +kernel
  obtain ⟨H, eH⟩ : ∃ z, z = s0.heap := ⟨_, rfl⟩
  obtain ⟨locs, eL⟩ : ∃ z : List Loc, z = [] := ⟨_, rfl⟩
  rw [← eH, ← eL] at h ⊢
  unfold p_Lot_use at hf
  refine lv_iload_n hx hb dX1_use_0 rfl (lv_at hl 1 rfl) ?_
  refine lv_if_le (tgt := 46) hx hb dX1_use_1 (by decide) (fun c_1 => ?_) (fun c_1 => ?_)
  · have hf := ip c_1 hf
    exact retE_V F hr hlk h hf dX1_use_46
  · have hf := im c_1 hf
    refine lv_iload_n hx hb dX1_use_4 rfl (lv_at hl 1 rfl) ?_
    refine lv_aload_n hx hb dX1_use_5 rfl (lv_at hl 0 rfl) ?_
    refine gX_Lot_waiting F h hinX1 (hts (.fieldLink RX1 15 "ElectionHouse$LotRow" "waiting" "I") (by decide +kernel)) dX1_use_6 ?_
    refine lv_icmp_gt (tgt := 46) hx hb dX1_use_9 (by decide) (fun c_2 => ?_) (fun c_2 => ?_)
    · have hf := ip c_2 hf
      exact retE_V F hr hlk h hf dX1_use_46
    · have hf := im c_2 hf
      refine lv_aload_n hx hb dX1_use_12 rfl (lv_at hl 0 rfl) ?_
      refine lv_aload_n hx hb dX1_use_13 rfl (lv_at hl 0 rfl) ?_
      refine gX_Lot_first F h hinX1 (hts (.fieldLink RX1 22 "ElectionHouse$LotRow" "first" "I") (by decide +kernel)) dX1_use_14 ?_
      refine lv_iload_n hx hb dX1_use_17 rfl (lv_at hl 1 rfl) ?_
      refine lv_iadd hx hb dX1_use_18 ?_
      refine lv_sipush (v := (500 : Int32)) hx hb dX1_use_19 (by decide) ?_
      refine lv_irem hx hb dX1_use_22 (by decide) ?_
      refine pX_Lot_first F h hinX1 (hts (.fieldLink RX1 22 "ElectionHouse$LotRow" "first" "I") (by decide +kernel)) dX1_use_23 (fun H locs h => ?_)
      obtain ⟨s4, es, hf⟩ := olq hf
      rw [← es] at h
      refine lv_aload_n hx hb dX1_use_26 rfl (lv_at hl 0 rfl) ?_
      refine lv_dup hx hb dX1_use_27 rfl ?_
      refine gX_Lot_waiting F h hinX1 (hts (.fieldLink RX1 15 "ElectionHouse$LotRow" "waiting" "I") (by decide +kernel)) dX1_use_28 ?_
      refine lv_iload_n hx hb dX1_use_31 rfl (lv_at hl 1 rfl) ?_
      refine lv_isub hx hb dX1_use_32 ?_
      refine pX_Lot_waiting F h hinX1 (hts (.fieldLink RX1 15 "ElectionHouse$LotRow" "waiting" "I") (by decide +kernel)) dX1_use_33 (fun H locs h => ?_)
      obtain ⟨s5, es, hf⟩ := olq hf
      rw [← es] at h
      refine lv_aload_n hx hb dX1_use_36 rfl (lv_at hl 0 rfl) ?_
      refine lv_dup hx hb dX1_use_37 rfl ?_
      refine gX_Lot_used F h hinX1 (hts (.fieldLink RX1 19 "ElectionHouse$LotRow" "used" "I") (by decide +kernel)) dX1_use_38 ?_
      refine lv_iload_n hx hb dX1_use_41 rfl (lv_at hl 1 rfl) ?_
      refine lv_iadd hx hb dX1_use_42 ?_
      refine pX_Lot_used F h hinX1 (hts (.fieldLink RX1 19 "ElectionHouse$LotRow" "used" "I") (by decide +kernel)) dX1_use_43 (fun H locs h => ?_)
      obtain ⟨s6, es, hf⟩ := olq hf
      rw [← es] at h
      exact retE_V F hr hlk h hf dX1_use_46

set_option maxHeartbeats 8000000 in
set_option maxRecDepth 100000 in
theorem c_fill_ofHouse (l : Launch) (Z : ZT) (Q : Nat → Nat) (s : XS) (x1 : Int32) {s' : XS} (hf : p_fill_ofHouse x1 s = some s') : KV l Z (wX Z Q) yJ7_fill_53178 wsJ7_fill_53178 { frames := 0, cells := 0, slots := 0, locals := 0 } [.ref (Q 18), .int x1] s s' := by
  intro sz
  refine met_entry (cc := cJ7_fill_53178) (maxL := 4) (ret := none) (by decide) rfl (Nat.le_of_ble_eq_true rfl) sz rfl ?_
  generalize va_A (wX Z Q s) sz = A
  intro p e s0 m args below meth c ls F hr hlk h hl
  have hl : lv_has ls 4 [(0, .ref (Q 18)), (1, .int x1)] := hl
  obtain ⟨hx, hb, hml, hown, hts⟩ := id F
  obtain ⟨H, eH⟩ : ∃ z, z = s0.heap := ⟨_, rfl⟩
  obtain ⟨locs, eL⟩ : ∃ z : List Loc, z = [] := ⟨_, rfl⟩
  rw [← eH, ← eL] at h ⊢
  unfold p_fill_ofHouse at hf
  have lab5 : ∀ (x1 : Int32) (x3 : Int32) (n : Nat) (x2 : Int32) (s : XS) (H : Heap) (locs : List Loc) (ls : Array Slot), lo2 (p_fill_ofHouse_B5 x1 x3) n x2 s = some s' → HW Z (wX Z Q) A s0 H locs s → lv_has ls 4 [(0, .ref (Q 18)), (1, .int x1), (2, .int x2), (3, .int x3)] → W p l e { frames := 0, cells := 0, slots := 0, locals := 0 } s0 m args below meth c H locs 0 0 (MQ below (QcV Z (wX Z Q) A s') args s0 0 0 A) (F0 m 5 ls []) := by
    intro x1 x3 n
    induction n with
    | zero => intro x2 s H locs ls hf; exact absurd hf lo2_z
    | succ n ih5 =>
      intro x2 s H locs ls hf h hl
      have hf := lo2_s hf
      generalize lo2 (p_fill_ofHouse_B5 x1 x3) n = c5 at hf ih5
      unfold p_fill_ofHouse_B5 at hf
      refine lv_iload_n hx hb dJ7_fill_53178_5 rfl (lv_at hl 2 rfl) ?_
      refine lv_iload_n hx hb dJ7_fill_53178_6 rfl (lv_at hl 3 rfl) ?_
      refine lv_icmp_ge (tgt := 20) hx hb dJ7_fill_53178_7 (by decide) (fun c_1 => ?_) (fun c_1 => ?_)
      · have hf := ip c_1 hf
        exact retE_V F hr hlk h hf dJ7_fill_53178_20
      · have hf := im c_1 hf
        refine lv_aload_n hx hb dJ7_fill_53178_10 rfl (lv_at hl 0 rfl) ?_
        refine lv_iload_n hx hb dJ7_fill_53178_11 rfl (lv_at hl 2 rfl) ?_
        refine lv_iload_n hx hb dJ7_fill_53178_12 rfl (lv_at hl 1 rfl) ?_
        obtain ⟨gi2, hf⟩ := og hf
        refine sX_ofHouse F h gi2 dJ7_fill_53178_13 (fun H locs h => ?_)
        obtain ⟨s3, es, hf⟩ := olq hf
        rw [← es] at h
        refine lv_iinc (v := (x2 + (1 : Int32))) (lv' := [(2, .int (x2 + (1 : Int32))), (0, .ref (Q 18)), (1, .int x1), (3, .int x3)]) hx hb dJ7_fill_53178_14 hl (k := 2) rfl (congrArg (fun z => x2 + z) (by decide : Int32.ofInt (1) = (1 : Int32))) (by decide) rfl (fun ls hl => ?_)
        have hl := lv_sub (l' := [(0, .ref (Q 18)), (1, .int x1), (2, .int (x2 + (1 : Int32))), (3, .int x3)]) hl [1, 2, 0, 3] rfl
        refine lv_goto (tgt := 5) hx hb dJ7_fill_53178_17 (by decide) ?_
        exact ih5 (x2 + (1 : Int32)) s3 H locs ls hf h (lv_sub hl [0, 1, 2, 3] rfl)
  refine lv_iconst (v := (0 : Int32)) hx hb dJ7_fill_53178_0 (by decide) ?_
  refine lv_istore_n (lv' := [(2, .int (0 : Int32)), (0, .ref (Q 18)), (1, .int x1)]) hx hb dJ7_fill_53178_1 rfl hl (by decide) rfl (fun ls hl => ?_)
  have hl := lv_sub (l' := [(0, .ref (Q 18)), (1, .int x1), (2, .int (0 : Int32))]) hl [1, 2, 0] rfl
  refine lv_aload_n hx hb dJ7_fill_53178_2 rfl (lv_at hl 0 rfl) ?_
  refine nX_ofHouse F h dJ7_fill_53178_3 ?_
  refine lv_istore_n (lv' := [(3, .int (12 : Int32)), (0, .ref (Q 18)), (1, .int x1), (2, .int (0 : Int32))]) hx hb dJ7_fill_53178_4 rfl hl (by decide) rfl (fun ls hl => ?_)
  have hl := lv_sub (l' := [(0, .ref (Q 18)), (1, .int x1), (2, .int (0 : Int32)), (3, .int (12 : Int32))]) hl [1, 2, 3, 0] rfl
  exact lab5 x1 (12 : Int32) fuelN (0 : Int32) s H locs ls hf h (lv_sub hl [0, 1, 2, 3] rfl)

set_option maxHeartbeats 8000000 in
set_option maxRecDepth 100000 in
theorem c_fill_ogets (l : Launch) (Z : ZT) (Q : Nat → Nat) (s : XS) (x1 : Int32) {s' : XS} (hf : p_fill_ogets x1 s = some s') : KV l Z (wX Z Q) yJ7_fill_53178 wsJ7_fill_53178 { frames := 0, cells := 0, slots := 0, locals := 0 } [.ref (Q 33), .int x1] s s' := by
  intro sz
  refine met_entry (cc := cJ7_fill_53178) (maxL := 4) (ret := none) (by decide) rfl (Nat.le_of_ble_eq_true rfl) sz rfl ?_
  generalize va_A (wX Z Q s) sz = A
  intro p e s0 m args below meth c ls F hr hlk h hl
  have hl : lv_has ls 4 [(0, .ref (Q 33)), (1, .int x1)] := hl
  obtain ⟨hx, hb, hml, hown, hts⟩ := id F
  obtain ⟨H, eH⟩ : ∃ z, z = s0.heap := ⟨_, rfl⟩
  obtain ⟨locs, eL⟩ : ∃ z : List Loc, z = [] := ⟨_, rfl⟩
  rw [← eH, ← eL] at h ⊢
  unfold p_fill_ogets at hf
  have lab5 : ∀ (x1 : Int32) (x3 : Int32) (n : Nat) (x2 : Int32) (s : XS) (H : Heap) (locs : List Loc) (ls : Array Slot), lo2 (p_fill_ogets_B5 x1 x3) n x2 s = some s' → HW Z (wX Z Q) A s0 H locs s → lv_has ls 4 [(0, .ref (Q 33)), (1, .int x1), (2, .int x2), (3, .int x3)] → W p l e { frames := 0, cells := 0, slots := 0, locals := 0 } s0 m args below meth c H locs 0 0 (MQ below (QcV Z (wX Z Q) A s') args s0 0 0 A) (F0 m 5 ls []) := by
    intro x1 x3 n
    induction n with
    | zero => intro x2 s H locs ls hf; exact absurd hf lo2_z
    | succ n ih5 =>
      intro x2 s H locs ls hf h hl
      have hf := lo2_s hf
      generalize lo2 (p_fill_ogets_B5 x1 x3) n = c5 at hf ih5
      unfold p_fill_ogets_B5 at hf
      refine lv_iload_n hx hb dJ7_fill_53178_5 rfl (lv_at hl 2 rfl) ?_
      refine lv_iload_n hx hb dJ7_fill_53178_6 rfl (lv_at hl 3 rfl) ?_
      refine lv_icmp_ge (tgt := 20) hx hb dJ7_fill_53178_7 (by decide) (fun c_1 => ?_) (fun c_1 => ?_)
      · have hf := ip c_1 hf
        exact retE_V F hr hlk h hf dJ7_fill_53178_20
      · have hf := im c_1 hf
        refine lv_aload_n hx hb dJ7_fill_53178_10 rfl (lv_at hl 0 rfl) ?_
        refine lv_iload_n hx hb dJ7_fill_53178_11 rfl (lv_at hl 2 rfl) ?_
        refine lv_iload_n hx hb dJ7_fill_53178_12 rfl (lv_at hl 1 rfl) ?_
        obtain ⟨gi2, hf⟩ := og hf
        refine sX_ogets F h gi2 dJ7_fill_53178_13 (fun H locs h => ?_)
        obtain ⟨s3, es, hf⟩ := olq hf
        rw [← es] at h
        refine lv_iinc (v := (x2 + (1 : Int32))) (lv' := [(2, .int (x2 + (1 : Int32))), (0, .ref (Q 33)), (1, .int x1), (3, .int x3)]) hx hb dJ7_fill_53178_14 hl (k := 2) rfl (congrArg (fun z => x2 + z) (by decide : Int32.ofInt (1) = (1 : Int32))) (by decide) rfl (fun ls hl => ?_)
        have hl := lv_sub (l' := [(0, .ref (Q 33)), (1, .int x1), (2, .int (x2 + (1 : Int32))), (3, .int x3)]) hl [1, 2, 0, 3] rfl
        refine lv_goto (tgt := 5) hx hb dJ7_fill_53178_17 (by decide) ?_
        exact ih5 (x2 + (1 : Int32)) s3 H locs ls hf h (lv_sub hl [0, 1, 2, 3] rfl)
  refine lv_iconst (v := (0 : Int32)) hx hb dJ7_fill_53178_0 (by decide) ?_
  refine lv_istore_n (lv' := [(2, .int (0 : Int32)), (0, .ref (Q 33)), (1, .int x1)]) hx hb dJ7_fill_53178_1 rfl hl (by decide) rfl (fun ls hl => ?_)
  have hl := lv_sub (l' := [(0, .ref (Q 33)), (1, .int x1), (2, .int (0 : Int32))]) hl [1, 2, 0] rfl
  refine lv_aload_n hx hb dJ7_fill_53178_2 rfl (lv_at hl 0 rfl) ?_
  refine nX_ogets F h dJ7_fill_53178_3 ?_
  refine lv_istore_n (lv' := [(3, .int (4 : Int32)), (0, .ref (Q 33)), (1, .int x1), (2, .int (0 : Int32))]) hx hb dJ7_fill_53178_4 rfl hl (by decide) rfl (fun ls hl => ?_)
  have hl := lv_sub (l' := [(0, .ref (Q 33)), (1, .int x1), (2, .int (0 : Int32)), (3, .int (4 : Int32))]) hl [1, 2, 3, 0] rfl
  exact lab5 x1 (4 : Int32) fuelN (0 : Int32) s H locs ls hf h (lv_sub hl [0, 1, 2, 3] rfl)

set_option maxHeartbeats 8000000 in
set_option maxRecDepth 100000 in
theorem c_fill_pvotes (l : Launch) (Z : ZT) (Q : Nat → Nat) (s : XS) (x1 : Int32) {s' : XS} (hf : p_fill_pvotes x1 s = some s') : KV l Z (wX Z Q) yJ7_fill_53178 wsJ7_fill_53178 { frames := 0, cells := 0, slots := 0, locals := 0 } [.ref (Q 13), .int x1] s s' := by
  intro sz
  refine met_entry (cc := cJ7_fill_53178) (maxL := 4) (ret := none) (by decide) rfl (Nat.le_of_ble_eq_true rfl) sz rfl ?_
  generalize va_A (wX Z Q s) sz = A
  intro p e s0 m args below meth c ls F hr hlk h hl
  have hl : lv_has ls 4 [(0, .ref (Q 13)), (1, .int x1)] := hl
  obtain ⟨hx, hb, hml, hown, hts⟩ := id F
  obtain ⟨H, eH⟩ : ∃ z, z = s0.heap := ⟨_, rfl⟩
  obtain ⟨locs, eL⟩ : ∃ z : List Loc, z = [] := ⟨_, rfl⟩
  rw [← eH, ← eL] at h ⊢
  unfold p_fill_pvotes at hf
  have lab5 : ∀ (x1 : Int32) (x3 : Int32) (n : Nat) (x2 : Int32) (s : XS) (H : Heap) (locs : List Loc) (ls : Array Slot), lo2 (p_fill_pvotes_B5 x1 x3) n x2 s = some s' → HW Z (wX Z Q) A s0 H locs s → lv_has ls 4 [(0, .ref (Q 13)), (1, .int x1), (2, .int x2), (3, .int x3)] → W p l e { frames := 0, cells := 0, slots := 0, locals := 0 } s0 m args below meth c H locs 0 0 (MQ below (QcV Z (wX Z Q) A s') args s0 0 0 A) (F0 m 5 ls []) := by
    intro x1 x3 n
    induction n with
    | zero => intro x2 s H locs ls hf; exact absurd hf lo2_z
    | succ n ih5 =>
      intro x2 s H locs ls hf h hl
      have hf := lo2_s hf
      generalize lo2 (p_fill_pvotes_B5 x1 x3) n = c5 at hf ih5
      unfold p_fill_pvotes_B5 at hf
      refine lv_iload_n hx hb dJ7_fill_53178_5 rfl (lv_at hl 2 rfl) ?_
      refine lv_iload_n hx hb dJ7_fill_53178_6 rfl (lv_at hl 3 rfl) ?_
      refine lv_icmp_ge (tgt := 20) hx hb dJ7_fill_53178_7 (by decide) (fun c_1 => ?_) (fun c_1 => ?_)
      · have hf := ip c_1 hf
        exact retE_V F hr hlk h hf dJ7_fill_53178_20
      · have hf := im c_1 hf
        refine lv_aload_n hx hb dJ7_fill_53178_10 rfl (lv_at hl 0 rfl) ?_
        refine lv_iload_n hx hb dJ7_fill_53178_11 rfl (lv_at hl 2 rfl) ?_
        refine lv_iload_n hx hb dJ7_fill_53178_12 rfl (lv_at hl 1 rfl) ?_
        obtain ⟨gi2, hf⟩ := og hf
        refine sX_pvotes F h gi2 dJ7_fill_53178_13 (fun H locs h => ?_)
        obtain ⟨s3, es, hf⟩ := olq hf
        rw [← es] at h
        refine lv_iinc (v := (x2 + (1 : Int32))) (lv' := [(2, .int (x2 + (1 : Int32))), (0, .ref (Q 13)), (1, .int x1), (3, .int x3)]) hx hb dJ7_fill_53178_14 hl (k := 2) rfl (congrArg (fun z => x2 + z) (by decide : Int32.ofInt (1) = (1 : Int32))) (by decide) rfl (fun ls hl => ?_)
        have hl := lv_sub (l' := [(0, .ref (Q 13)), (1, .int x1), (2, .int (x2 + (1 : Int32))), (3, .int x3)]) hl [1, 2, 0, 3] rfl
        refine lv_goto (tgt := 5) hx hb dJ7_fill_53178_17 (by decide) ?_
        exact ih5 (x2 + (1 : Int32)) s3 H locs ls hf h (lv_sub hl [0, 1, 2, 3] rfl)
  refine lv_iconst (v := (0 : Int32)) hx hb dJ7_fill_53178_0 (by decide) ?_
  refine lv_istore_n (lv' := [(2, .int (0 : Int32)), (0, .ref (Q 13)), (1, .int x1)]) hx hb dJ7_fill_53178_1 rfl hl (by decide) rfl (fun ls hl => ?_)
  have hl := lv_sub (l' := [(0, .ref (Q 13)), (1, .int x1), (2, .int (0 : Int32))]) hl [1, 2, 0] rfl
  refine lv_aload_n hx hb dJ7_fill_53178_2 rfl (lv_at hl 0 rfl) ?_
  refine nX_pvotes F h dJ7_fill_53178_3 ?_
  refine lv_istore_n (lv' := [(3, .int (40 : Int32)), (0, .ref (Q 13)), (1, .int x1), (2, .int (0 : Int32))]) hx hb dJ7_fill_53178_4 rfl hl (by decide) rfl (fun ls hl => ?_)
  have hl := lv_sub (l' := [(0, .ref (Q 13)), (1, .int x1), (2, .int (0 : Int32)), (3, .int (40 : Int32))]) hl [1, 2, 3, 0] rfl
  exact lab5 x1 (40 : Int32) fuelN (0 : Int32) s H locs ls hf h (lv_sub hl [0, 1, 2, 3] rfl)

set_option maxHeartbeats 8000000 in
set_option maxRecDepth 100000 in
theorem c_fill_tslots (l : Launch) (Z : ZT) (Q : Nat → Nat) (s : XS) (k0 : Nat) (x1 : Int32) (hk0 : k0 < 2) {s' : XS} (hf : p_fill_tslots k0 x1 s = some s') : KV l Z (wX Z Q) yJ7_fill_53178 wsJ7_fill_53178 { frames := 0, cells := 0, slots := 0, locals := 0 } [.ref (Q (43 + 4 * k0)), .int x1] s s' := by
  intro sz
  refine met_entry (cc := cJ7_fill_53178) (maxL := 4) (ret := none) (by decide) rfl (Nat.le_of_ble_eq_true rfl) sz rfl ?_
  generalize va_A (wX Z Q s) sz = A
  intro p e s0 m args below meth c ls F hr hlk h hl
  have hl : lv_has ls 4 [(0, .ref (Q (43 + 4 * k0))), (1, .int x1)] := hl
  obtain ⟨hx, hb, hml, hown, hts⟩ := id F
  obtain ⟨H, eH⟩ : ∃ z, z = s0.heap := ⟨_, rfl⟩
  obtain ⟨locs, eL⟩ : ∃ z : List Loc, z = [] := ⟨_, rfl⟩
  rw [← eH, ← eL] at h ⊢
  unfold p_fill_tslots at hf
  have lab5 : ∀ (k0 : Nat) (x1 : Int32) (x3 : Int32) (n : Nat) (x2 : Int32) (s : XS) (H : Heap) (locs : List Loc) (ls : Array Slot), k0 < 2 → lo2 (p_fill_tslots_B5 k0 x1 x3) n x2 s = some s' → HW Z (wX Z Q) A s0 H locs s → lv_has ls 4 [(0, .ref (Q (43 + 4 * k0))), (1, .int x1), (2, .int x2), (3, .int x3)] → W p l e { frames := 0, cells := 0, slots := 0, locals := 0 } s0 m args below meth c H locs 0 0 (MQ below (QcV Z (wX Z Q) A s') args s0 0 0 A) (F0 m 5 ls []) := by
    intro k0 x1 x3 n
    induction n with
    | zero => intro x2 s H locs ls hk0 hf; exact absurd hf lo2_z
    | succ n ih5 =>
      intro x2 s H locs ls hk0 hf h hl
      have hf := lo2_s hf
      generalize lo2 (p_fill_tslots_B5 k0 x1 x3) n = c5 at hf ih5
      unfold p_fill_tslots_B5 at hf
      refine lv_iload_n hx hb dJ7_fill_53178_5 rfl (lv_at hl 2 rfl) ?_
      refine lv_iload_n hx hb dJ7_fill_53178_6 rfl (lv_at hl 3 rfl) ?_
      refine lv_icmp_ge (tgt := 20) hx hb dJ7_fill_53178_7 (by decide) (fun c_1 => ?_) (fun c_1 => ?_)
      · have hf := ip c_1 hf
        exact retE_V F hr hlk h hf dJ7_fill_53178_20
      · have hf := im c_1 hf
        refine lv_aload_n hx hb dJ7_fill_53178_10 rfl (lv_at hl 0 rfl) ?_
        refine lv_iload_n hx hb dJ7_fill_53178_11 rfl (lv_at hl 2 rfl) ?_
        refine lv_iload_n hx hb dJ7_fill_53178_12 rfl (lv_at hl 1 rfl) ?_
        obtain ⟨gi2, hf⟩ := og hf
        refine sX_tslots hk0 F h gi2 dJ7_fill_53178_13 (fun H locs h => ?_)
        obtain ⟨s3, es, hf⟩ := olq hf
        rw [← es] at h
        refine lv_iinc (v := (x2 + (1 : Int32))) (lv' := [(2, .int (x2 + (1 : Int32))), (0, .ref (Q (43 + 4 * k0))), (1, .int x1), (3, .int x3)]) hx hb dJ7_fill_53178_14 hl (k := 2) rfl (congrArg (fun z => x2 + z) (by decide : Int32.ofInt (1) = (1 : Int32))) (by decide) rfl (fun ls hl => ?_)
        have hl := lv_sub (l' := [(0, .ref (Q (43 + 4 * k0))), (1, .int x1), (2, .int (x2 + (1 : Int32))), (3, .int x3)]) hl [1, 2, 0, 3] rfl
        refine lv_goto (tgt := 5) hx hb dJ7_fill_53178_17 (by decide) ?_
        exact ih5 (x2 + (1 : Int32)) s3 H locs ls hk0 hf h (lv_sub hl [0, 1, 2, 3] rfl)
  refine lv_iconst (v := (0 : Int32)) hx hb dJ7_fill_53178_0 (by decide) ?_
  refine lv_istore_n (lv' := [(2, .int (0 : Int32)), (0, .ref (Q (43 + 4 * k0))), (1, .int x1)]) hx hb dJ7_fill_53178_1 rfl hl (by decide) rfl (fun ls hl => ?_)
  have hl := lv_sub (l' := [(0, .ref (Q (43 + 4 * k0))), (1, .int x1), (2, .int (0 : Int32))]) hl [1, 2, 0] rfl
  refine lv_aload_n hx hb dJ7_fill_53178_2 rfl (lv_at hl 0 rfl) ?_
  refine nX_tslots hk0 F h dJ7_fill_53178_3 ?_
  refine lv_istore_n (lv' := [(3, .int (1024 : Int32)), (0, .ref (Q (43 + 4 * k0))), (1, .int x1), (2, .int (0 : Int32))]) hx hb dJ7_fill_53178_4 rfl hl (by decide) rfl (fun ls hl => ?_)
  have hl := lv_sub (l' := [(0, .ref (Q (43 + 4 * k0))), (1, .int x1), (2, .int (0 : Int32)), (3, .int (1024 : Int32))]) hl [1, 2, 3, 0] rfl
  exact lab5 k0 x1 (1024 : Int32) fuelN (0 : Int32) s H locs ls hk0 hf h (lv_sub hl [0, 1, 2, 3] rfl)

set_option maxHeartbeats 8000000 in
set_option maxRecDepth 100000 in
theorem c_fill_rs (l : Launch) (Z : ZT) (Q : Nat → Nat) (s : XS) (k0 : Nat) (x1 : Int64) (hk0 : k0 < 2) {s' : XS} (hf : p_fill_rs k0 x1 s = some s') : KV l Z (wX Z Q) yJ7_fill_d0a16 wsJ7_fill_d0a16 { frames := 0, cells := 0, slots := 0, locals := 0 } [.ref (Q (38 + k0)), .long x1] s s' := by
  intro sz
  refine met_entry (cc := cJ7_fill_d0a16) (maxL := 5) (ret := none) (by decide) rfl (Nat.le_of_ble_eq_true rfl) sz rfl ?_
  generalize va_A (wX Z Q s) sz = A
  intro p e s0 m args below meth c ls F hr hlk h hl
  have hl : lv_has ls 5 [(0, .ref (Q (38 + k0))), (1, .long x1)] := hl
  obtain ⟨hx, hb, hml, hown, hts⟩ := id F
  obtain ⟨H, eH⟩ : ∃ z, z = s0.heap := ⟨_, rfl⟩
  obtain ⟨locs, eL⟩ : ∃ z : List Loc, z = [] := ⟨_, rfl⟩
  rw [← eH, ← eL] at h ⊢
  unfold p_fill_rs at hf
  have lab6 : ∀ (k0 : Nat) (x1 : Int64) (x4 : Int32) (n : Nat) (x3 : Int32) (s : XS) (H : Heap) (locs : List Loc) (ls : Array Slot), k0 < 2 → lo2 (p_fill_rs_B6 k0 x1 x4) n x3 s = some s' → HW Z (wX Z Q) A s0 H locs s → lv_has ls 5 [(0, .ref (Q (38 + k0))), (1, .long x1), (3, .int x3), (4, .int x4)] → W p l e { frames := 0, cells := 0, slots := 0, locals := 0 } s0 m args below meth c H locs 0 0 (MQ below (QcV Z (wX Z Q) A s') args s0 0 0 A) (F0 m 6 ls []) := by
    intro k0 x1 x4 n
    induction n with
    | zero => intro x3 s H locs ls hk0 hf; exact absurd hf lo2_z
    | succ n ih6 =>
      intro x3 s H locs ls hk0 hf h hl
      have hf := lo2_s hf
      generalize lo2 (p_fill_rs_B6 k0 x1 x4) n = c6 at hf ih6
      unfold p_fill_rs_B6 at hf
      refine lv_iload_n hx hb dJ7_fill_d0a16_6 rfl (lv_at hl 2 rfl) ?_
      refine lv_iload hx hb dJ7_fill_d0a16_7 (lv_at hl 3 rfl) ?_
      refine lv_icmp_ge (tgt := 22) hx hb dJ7_fill_d0a16_9 (by decide) (fun c_1 => ?_) (fun c_1 => ?_)
      · have hf := ip c_1 hf
        exact retE_V F hr hlk h hf dJ7_fill_d0a16_22
      · have hf := im c_1 hf
        refine lv_aload_n hx hb dJ7_fill_d0a16_12 rfl (lv_at hl 0 rfl) ?_
        refine lv_iload_n hx hb dJ7_fill_d0a16_13 rfl (lv_at hl 2 rfl) ?_
        refine lv_lload_n hx hb dJ7_fill_d0a16_14 rfl (lv_at hl 1 rfl) ?_
        obtain ⟨gi2, hf⟩ := og hf
        refine sX_rs hk0 F h gi2 dJ7_fill_d0a16_15 (fun H locs h => ?_)
        obtain ⟨s3, es, hf⟩ := olq hf
        rw [← es] at h
        refine lv_iinc (v := (x3 + (1 : Int32))) (lv' := [(3, .int (x3 + (1 : Int32))), (0, .ref (Q (38 + k0))), (1, .long x1), (4, .int x4)]) hx hb dJ7_fill_d0a16_16 hl (k := 2) rfl (congrArg (fun z => x3 + z) (by decide : Int32.ofInt (1) = (1 : Int32))) (by decide) rfl (fun ls hl => ?_)
        have hl := lv_sub (l' := [(0, .ref (Q (38 + k0))), (1, .long x1), (3, .int (x3 + (1 : Int32))), (4, .int x4)]) hl [1, 2, 0, 3] rfl
        refine lv_goto (tgt := 6) hx hb dJ7_fill_d0a16_19 (by decide) ?_
        exact ih6 (x3 + (1 : Int32)) s3 H locs ls hk0 hf h (lv_sub hl [0, 1, 2, 3] rfl)
  refine lv_iconst (v := (0 : Int32)) hx hb dJ7_fill_d0a16_0 (by decide) ?_
  refine lv_istore_n (lv' := [(3, .int (0 : Int32)), (0, .ref (Q (38 + k0))), (1, .long x1)]) hx hb dJ7_fill_d0a16_1 rfl hl (by decide) rfl (fun ls hl => ?_)
  have hl := lv_sub (l' := [(0, .ref (Q (38 + k0))), (1, .long x1), (3, .int (0 : Int32))]) hl [1, 2, 0] rfl
  refine lv_aload_n hx hb dJ7_fill_d0a16_2 rfl (lv_at hl 0 rfl) ?_
  refine nX_rs hk0 F h dJ7_fill_d0a16_3 ?_
  refine lv_istore (lv' := [(4, .int (42 : Int32)), (0, .ref (Q (38 + k0))), (1, .long x1), (3, .int (0 : Int32))]) hx hb dJ7_fill_d0a16_4 hl (by decide) rfl (fun ls hl => ?_)
  have hl := lv_sub (l' := [(0, .ref (Q (38 + k0))), (1, .long x1), (3, .int (0 : Int32)), (4, .int (42 : Int32))]) hl [1, 2, 3, 0] rfl
  exact lab6 k0 x1 (42 : Int32) fuelN (0 : Int32) s H locs ls hk0 hf h (lv_sub hl [0, 1, 2, 3] rfl)

set_option maxHeartbeats 8000000 in
set_option maxRecDepth 100000 in
theorem c_Plan_votesOf (l : Launch) (Z : ZT) (Q : Nat → Nat) (s : XS) (k0 : Nat) (x1 : Int32) (hk0 : k0 < 2) {r : Int32} (hf : p_Plan_votesOf k0 x1 s = some r) : KI l Z (wX Z Q) yX3_votesOf wsX3_votesOf { frames := 1, cells := 0, slots := 0, locals := 21 } [.ref (Q (19 + 5 * k0)), .int x1] s r s := by
  intro sz
  refine met_entry (cc := cX3_votesOf) (maxL := 2) (ret := (some .int)) (by decide) rfl (Nat.le_of_ble_eq_true rfl) sz rfl ?_
  generalize va_A (wX Z Q s) sz = A
  intro p e s0 m args below meth c ls F hr hlk h hl
  have hl : lv_has ls 2 [(0, .ref (Q (19 + 5 * k0))), (1, .int x1)] := hl
  obtain ⟨hx, hb, hml, hown, hts⟩ := id F
  have hinX3 : ∀ w ∈ wsX30, w ∈ wsX3_votesOf := by decide +kernel
  obtain ⟨H, eH⟩ : ∃ z, z = s0.heap := ⟨_, rfl⟩
  obtain ⟨locs, eL⟩ : ∃ z : List Loc, z = [] := ⟨_, rfl⟩
  rw [← eH, ← eL] at h ⊢
  unfold p_Plan_votesOf at hf
  refine lv_aload_n hx hb dX3_votesOf_0 rfl (lv_at hl 0 rfl) ?_
  refine lv_iload_n hx hb dX3_votesOf_1 rfl (lv_at hl 1 rfl) ?_
  obtain ⟨r2, hc1, hf⟩ := ob1 hf
  refine call_VI F (c_Plan_has l Z Q s k0 x1 hk0 hc1) (cwV 1 hts gX3_votesOf_X3_has rfl rfl rfl (by decide +kernel) ⟨Nat.le_of_ble_eq_true rfl, Nat.le_of_ble_eq_true rfl⟩) h (rcX_Plan hk0 h) rfl hl.1 rfl (Nat.le_of_ble_eq_true rfl) ⟨Nat.zero_le _, Nat.zero_le _⟩ dX3_votesOf_2 (fun H locs h => ?_)
  refine lv_if_eq (tgt := 17) hx hb dX3_votesOf_5 (by decide) (fun c_4 => ?_) (fun c_4 => ?_)
  · have hf := ip c_4 hf
    refine lv_iconst (v := (0 : Int32)) hx hb dX3_votesOf_17 (by decide) ?_
    exact retE_Ir F hr hlk h hf dX3_votesOf_18
  · have hf := im c_4 hf
    refine lv_aload_n hx hb dX3_votesOf_8 rfl (lv_at hl 0 rfl) ?_
    refine gX_Plan_votes hk0 F h hinX3 (hts (.fieldLink RX3 18 "ElectionHouse$Plan" "votes" "[I") (by decide +kernel)) dX3_votesOf_9 ?_
    refine lv_iload_n hx hb dX3_votesOf_12 rfl (lv_at hl 1 rfl) ?_
    obtain ⟨gi5, hf⟩ := og hf
    refine lX_pvot hk0 F h gi5 dX3_votesOf_13 ?_
    refine lv_goto (tgt := 18) hx hb dX3_votesOf_14 (by decide) ?_
    exact retE_Ir F hr hlk h hf dX3_votesOf_18

set_option maxHeartbeats 8000000 in
set_option maxRecDepth 100000 in
theorem c_Plan_limitOf (l : Launch) (Z : ZT) (Q : Nat → Nat) (s : XS) (k0 : Nat) (x1 : Int32) (hk0 : k0 < 2) {r : Int32} (hf : p_Plan_limitOf k0 x1 s = some r) : KI l Z (wX Z Q) yX3_limitOf wsX3_limitOf { frames := 1, cells := 0, slots := 0, locals := 21 } [.ref (Q (19 + 5 * k0)), .int x1] s r s := by
  intro sz
  refine met_entry (cc := cX3_limitOf) (maxL := 2) (ret := (some .int)) (by decide) rfl (Nat.le_of_ble_eq_true rfl) sz rfl ?_
  generalize va_A (wX Z Q s) sz = A
  intro p e s0 m args below meth c ls F hr hlk h hl
  have hl : lv_has ls 2 [(0, .ref (Q (19 + 5 * k0))), (1, .int x1)] := hl
  obtain ⟨hx, hb, hml, hown, hts⟩ := id F
  have hinX3 : ∀ w ∈ wsX30, w ∈ wsX3_limitOf := by decide +kernel
  obtain ⟨H, eH⟩ : ∃ z, z = s0.heap := ⟨_, rfl⟩
  obtain ⟨locs, eL⟩ : ∃ z : List Loc, z = [] := ⟨_, rfl⟩
  rw [← eH, ← eL] at h ⊢
  unfold p_Plan_limitOf at hf
  refine lv_aload_n hx hb dX3_limitOf_0 rfl (lv_at hl 0 rfl) ?_
  refine lv_iload_n hx hb dX3_limitOf_1 rfl (lv_at hl 1 rfl) ?_
  obtain ⟨r2, hc1, hf⟩ := ob1 hf
  refine call_VI F (c_Plan_has l Z Q s k0 x1 hk0 hc1) (cwV 1 hts gX3_limitOf_X3_has rfl rfl rfl (by decide +kernel) ⟨Nat.le_of_ble_eq_true rfl, Nat.le_of_ble_eq_true rfl⟩) h (rcX_Plan hk0 h) rfl hl.1 rfl (Nat.le_of_ble_eq_true rfl) ⟨Nat.zero_le _, Nat.zero_le _⟩ dX3_limitOf_2 (fun H locs h => ?_)
  refine lv_if_eq (tgt := 17) hx hb dX3_limitOf_5 (by decide) (fun c_4 => ?_) (fun c_4 => ?_)
  · have hf := ip c_4 hf
    refine lv_iconst (v := (0 : Int32)) hx hb dX3_limitOf_17 (by decide) ?_
    exact retE_Ir F hr hlk h hf dX3_limitOf_18
  · have hf := im c_4 hf
    refine lv_aload_n hx hb dX3_limitOf_8 rfl (lv_at hl 0 rfl) ?_
    refine gX_Plan_limits hk0 F h hinX3 (hts (.fieldLink RX3 21 "ElectionHouse$Plan" "limits" "[I") (by decide +kernel)) dX3_limitOf_9 ?_
    refine lv_iload_n hx hb dX3_limitOf_12 rfl (lv_at hl 1 rfl) ?_
    obtain ⟨gi5, hf⟩ := og hf
    refine lX_plim hk0 F h gi5 dX3_limitOf_13 ?_
    refine lv_goto (tgt := 18) hx hb dX3_limitOf_14 (by decide) ?_
    exact retE_Ir F hr hlk h hf dX3_limitOf_18

set_option maxHeartbeats 8000000 in
set_option maxRecDepth 100000 in
theorem c_Lot_waiting (l : Launch) (Z : ZT) (Q : Nat → Nat) (s : XS) {r : Int32} (hf : p_Lot_waiting s = some r) : KI l Z (wX Z Q) yX1_waiting wsX1_waiting { frames := 0, cells := 0, slots := 0, locals := 0 } [.ref (Q 10)] s r s := by
  intro sz
  refine met_entry (cc := cX1_waiting) (maxL := 1) (ret := (some .int)) (by decide) rfl (Nat.le_of_ble_eq_true rfl) sz rfl ?_
  generalize va_A (wX Z Q s) sz = A
  intro p e s0 m args below meth c ls F hr hlk h hl
  have hl : lv_has ls 1 [(0, .ref (Q 10))] := hl
  obtain ⟨hx, hb, hml, hown, hts⟩ := id F
  have hinX1 : ∀ w ∈ wsX10, w ∈ wsX1_waiting := by decide +kernel
  obtain ⟨H, eH⟩ : ∃ z, z = s0.heap := ⟨_, rfl⟩
  obtain ⟨locs, eL⟩ : ∃ z : List Loc, z = [] := ⟨_, rfl⟩
  rw [← eH, ← eL] at h ⊢
  unfold p_Lot_waiting at hf
  refine lv_aload_n hx hb dX1_waiting_0 rfl (lv_at hl 0 rfl) ?_
  refine gX_Lot_waiting F h hinX1 (hts (.fieldLink RX1 15 "ElectionHouse$LotRow" "waiting" "I") (by decide +kernel)) dX1_waiting_1 ?_
  exact retE_Ir F hr hlk h hf dX1_waiting_4

set_option maxHeartbeats 8000000 in
set_option maxRecDepth 100000 in
theorem c_Lot_usedInAll (l : Launch) (Z : ZT) (Q : Nat → Nat) (s : XS) {r : Int32} (hf : p_Lot_usedInAll s = some r) : KI l Z (wX Z Q) yX1_usedInAll wsX1_usedInAll { frames := 0, cells := 0, slots := 0, locals := 0 } [.ref (Q 10)] s r s := by
  intro sz
  refine met_entry (cc := cX1_usedInAll) (maxL := 1) (ret := (some .int)) (by decide) rfl (Nat.le_of_ble_eq_true rfl) sz rfl ?_
  generalize va_A (wX Z Q s) sz = A
  intro p e s0 m args below meth c ls F hr hlk h hl
  have hl : lv_has ls 1 [(0, .ref (Q 10))] := hl
  obtain ⟨hx, hb, hml, hown, hts⟩ := id F
  have hinX1 : ∀ w ∈ wsX10, w ∈ wsX1_usedInAll := by decide +kernel
  obtain ⟨H, eH⟩ : ∃ z, z = s0.heap := ⟨_, rfl⟩
  obtain ⟨locs, eL⟩ : ∃ z : List Loc, z = [] := ⟨_, rfl⟩
  rw [← eH, ← eL] at h ⊢
  unfold p_Lot_usedInAll at hf
  refine lv_aload_n hx hb dX1_usedInAll_0 rfl (lv_at hl 0 rfl) ?_
  refine gX_Lot_used F h hinX1 (hts (.fieldLink RX1 19 "ElectionHouse$LotRow" "used" "I") (by decide +kernel)) dX1_usedInAll_1 ?_
  exact retE_Ir F hr hlk h hf dX1_usedInAll_4

