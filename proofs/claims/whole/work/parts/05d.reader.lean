set_option maxHeartbeats 8000000 in
set_option maxRecDepth 100000 in
theorem c_Reader_skipBlanks (l : Launch) (Z : ZT) (Q : Nat → Nat) (s : XS) {s' : XS} (hf : p_Reader_skipBlanks s = some s') : KV l Z (wX Z Q) yX5_skipBlanks wsX5_skipBlanks { frames := 1, cells := 0, slots := 0, locals := 21 } [.ref (Q 9)] s s' := by
  intro sz
  refine met_entry (cc := cX5_skipBlanks) (maxL := 1) (ret := none) (by decide) rfl (Nat.le_of_ble_eq_true rfl) sz rfl ?_
  generalize va_A (wX Z Q s) sz = A
  intro p e s0 m args below meth c ls F hr hlk h hl
  have hl : lv_has ls 1 [(0, .ref (Q 9))] := hl
  obtain ⟨hx, hb, hml, hown, hts⟩ := id F
  have hinX5 : ∀ w ∈ wsX50, w ∈ wsX5_skipBlanks := by decide +kernel
  obtain ⟨H, eH⟩ : ∃ z, z = s0.heap := ⟨_, rfl⟩
  obtain ⟨locs, eL⟩ : ∃ z : List Loc, z = [] := ⟨_, rfl⟩
  rw [← eH, ← eL] at h ⊢
  unfold p_Reader_skipBlanks at hf
  have lab0 : ∀ (n : Nat) (s : XS) (H : Heap) (locs : List Loc) (ls : Array Slot), lo1 (p_Reader_skipBlanks_B0) n s = some s' → HW Z (wX Z Q) A s0 H locs s → lv_has ls 1 [(0, .ref (Q 9))] → W p l e { frames := 1, cells := 0, slots := 0, locals := 21 } s0 m args below meth c H locs 0 0 (MQ below (QcV Z (wX Z Q) A s') args s0 0 0 A) (F0 m 0 ls []) := by
    intro n
    induction n with
    | zero => intro s H locs ls hf; exact absurd hf lo1_z
    | succ n ih0 =>
      intro s H locs ls hf h hl
      have hf := lo1_s hf
      generalize lo1 (p_Reader_skipBlanks_B0) n = c0 at hf ih0
      unfold p_Reader_skipBlanks_B0 at hf
      refine lv_aload_n hx hb dX5_skipBlanks_0 rfl (lv_at hl 0 rfl) ?_
      refine gX_Reader_place F h hinX5 (hts (.fieldLink RX5 15 "ElectionHouse$Reader" "place" "I") (by decide +kernel)) dX5_skipBlanks_1 ?_
      refine lv_aload_n hx hb dX5_skipBlanks_4 rfl (lv_at hl 0 rfl) ?_
      refine gX_Reader_tape F h hinX5 (hts (.fieldLink RX5 9 "ElectionHouse$Reader" "tape" "LElectionHouse$Tape;") (by decide +kernel)) dX5_skipBlanks_5 ?_
      obtain ⟨r2, hc1, hf⟩ := ob1 hf
      refine call_VI F (c_Tape_length l Z Q s hc1) (cwV 0 hts gX5_skipBlanks_X8_length rfl rfl rfl (by decide +kernel) ⟨Nat.le_of_ble_eq_true rfl, Nat.le_of_ble_eq_true rfl⟩) h (rcX_Tape h) rfl hl.1 rfl (Nat.le_of_ble_eq_true rfl) ⟨Nat.zero_le _, Nat.zero_le _⟩ dX5_skipBlanks_8 (fun H locs h => ?_)
      refine lv_icmp_ge (tgt := 43) hx hb dX5_skipBlanks_11 (by decide) (fun c_4 => ?_) (fun c_4 => ?_)
      · have hf := ip c_4 hf
        exact retE_V F hr hlk h hf dX5_skipBlanks_43
      · have hf := im c_4 hf
        refine lv_aload_n hx hb dX5_skipBlanks_14 rfl (lv_at hl 0 rfl) ?_
        refine gX_Reader_tape F h hinX5 (hts (.fieldLink RX5 9 "ElectionHouse$Reader" "tape" "LElectionHouse$Tape;") (by decide +kernel)) dX5_skipBlanks_15 ?_
        refine lv_aload_n hx hb dX5_skipBlanks_18 rfl (lv_at hl 0 rfl) ?_
        refine gX_Reader_place F h hinX5 (hts (.fieldLink RX5 15 "ElectionHouse$Reader" "place" "I") (by decide +kernel)) dX5_skipBlanks_19 ?_
        obtain ⟨r6, hc5, hf⟩ := ob1 hf
        refine call_VI F (c_Tape_at l Z Q s (gM s 9 1) hc5) (cwV 1 hts gX5_skipBlanks_X8_at rfl rfl rfl (by decide +kernel) ⟨Nat.le_of_ble_eq_true rfl, Nat.le_of_ble_eq_true rfl⟩) h (rcX_Tape h) rfl hl.1 rfl (Nat.le_of_ble_eq_true rfl) ⟨Nat.zero_le _, Nat.zero_le _⟩ dX5_skipBlanks_22 (fun H locs h => ?_)
        refine lv_bipush (v := (32 : Int32)) hx hb dX5_skipBlanks_25 (by decide) ?_
        refine lv_icmp_ne (tgt := 43) hx hb dX5_skipBlanks_27 (by decide) (fun c_8 => ?_) (fun c_8 => ?_)
        · have hf := im c_8 hf
          exact retE_V F hr hlk h hf dX5_skipBlanks_43
        · have hf := ip c_8 hf
          refine lv_aload_n hx hb dX5_skipBlanks_30 rfl (lv_at hl 0 rfl) ?_
          refine lv_dup hx hb dX5_skipBlanks_31 rfl ?_
          refine gX_Reader_place F h hinX5 (hts (.fieldLink RX5 15 "ElectionHouse$Reader" "place" "I") (by decide +kernel)) dX5_skipBlanks_32 ?_
          refine lv_iconst (v := (1 : Int32)) hx hb dX5_skipBlanks_35 (by decide) ?_
          refine lv_iadd hx hb dX5_skipBlanks_36 ?_
          refine pX_Reader_place F h hinX5 (hts (.fieldLink RX5 15 "ElectionHouse$Reader" "place" "I") (by decide +kernel)) dX5_skipBlanks_37 (fun H locs h => ?_)
          obtain ⟨s9, es, hf⟩ := olq hf
          rw [← es] at h
          refine lv_goto (tgt := 0) hx hb dX5_skipBlanks_40 (by decide) ?_
          exact ih0 s9 H locs ls hf h (lv_sub hl [0] rfl)
  exact lab0 fuelN s H locs ls hf h (lv_sub hl [0] rfl)

set_option maxHeartbeats 8000000 in
set_option maxRecDepth 100000 in
theorem c_Reader_isLetter (l : Launch) (Z : ZT) (V : XS → va_W) (s : XS) (x0 : Int32) {r : Int32} (hf : p_Reader_isLetter x0 = some r) : KI l Z V yX5_isLetter wsX5_isLetter { frames := 0, cells := 0, slots := 0, locals := 0 } [.int x0] s r s := by
  intro sz
  refine met_entry (cc := cX5_isLetter) (maxL := 1) (ret := (some .boolean)) (by decide) rfl (Nat.le_of_ble_eq_true rfl) sz rfl ?_
  generalize va_A (V s) sz = A
  intro p e s0 m args below meth c ls F hr hlk h hl
  have hl : lv_has ls 1 [(0, .int x0)] := hl
  obtain ⟨hx, hb, hml, hown, hts⟩ := id F
  obtain ⟨H, eH⟩ : ∃ z, z = s0.heap := ⟨_, rfl⟩
  obtain ⟨locs, eL⟩ : ∃ z : List Loc, z = [] := ⟨_, rfl⟩
  rw [← eH, ← eL] at h ⊢
  unfold p_Reader_isLetter at hf
  refine lv_iload_n hx hb dX5_isLetter_0 rfl (lv_at hl 0 rfl) ?_
  refine lv_bipush (v := (97 : Int32)) hx hb dX5_isLetter_1 (by decide) ?_
  refine lv_icmp_lt (tgt := 16) hx hb dX5_isLetter_3 (by decide) (fun c_1 => ?_) (fun c_1 => ?_)
  · have hf := ip c_1 hf
    refine lv_iconst (v := (0 : Int32)) hx hb dX5_isLetter_16 (by decide) ?_
    exact retE_Zr F hr hlk (by decide) h hf dX5_isLetter_17
  · have hf := im c_1 hf
    refine lv_iload_n hx hb dX5_isLetter_6 rfl (lv_at hl 0 rfl) ?_
    refine lv_bipush (v := (122 : Int32)) hx hb dX5_isLetter_7 (by decide) ?_
    refine lv_icmp_gt (tgt := 16) hx hb dX5_isLetter_9 (by decide) (fun c_2 => ?_) (fun c_2 => ?_)
    · have hf := ip c_2 hf
      refine lv_iconst (v := (0 : Int32)) hx hb dX5_isLetter_16 (by decide) ?_
      exact retE_Zr F hr hlk (by decide) h hf dX5_isLetter_17
    · have hf := im c_2 hf
      refine lv_iconst (v := (1 : Int32)) hx hb dX5_isLetter_12 (by decide) ?_
      refine lv_goto (tgt := 17) hx hb dX5_isLetter_13 (by decide) ?_
      exact retE_Zr F hr hlk (by decide) h hf dX5_isLetter_17

set_option maxHeartbeats 8000000 in
set_option maxRecDepth 100000 in
theorem c_Reader_spells (l : Launch) (Z : ZT) (Q : Nat → Nat) (s : XS) (x1 : Int32) (k2 : Nat) (hk2 : k2 < 5) {r : Int32} (hf : p_Reader_spells x1 k2 s = some r) : KI l Z (wX Z Q) yX5_spells wsX5_spells { frames := 4, cells := 0, slots := 0, locals := 85 } [.ref (Q 9), .int x1, .ref (Z.2.2.1 k2)] s r s := by
  intro sz
  refine met_entry (cc := cX5_spells) (maxL := 4) (ret := (some .boolean)) (by decide) rfl (Nat.le_of_ble_eq_true rfl) sz rfl ?_
  generalize va_A (wX Z Q s) sz = A
  intro p e s0 m args below meth c ls F hr hlk h hl
  have hl : lv_has ls 4 [(0, .ref (Q 9)), (1, .int x1), (2, .ref (Z.2.2.1 k2))] := hl
  obtain ⟨hx, hb, hml, hown, hts⟩ := id F
  have hinX5 : ∀ w ∈ wsX50, w ∈ wsX5_spells := by decide +kernel
  obtain ⟨H, eH⟩ : ∃ z, z = s0.heap := ⟨_, rfl⟩
  obtain ⟨locs, eL⟩ : ∃ z : List Loc, z = [] := ⟨_, rfl⟩
  rw [← eH, ← eL] at h ⊢
  unfold p_Reader_spells at hf
  have lab17 : ∀ (x1 : Int32) (k2 : Nat) (n : Nat) (x3 : Int32) (H : Heap) (locs : List Loc) (ls : Array Slot), k2 < 5 → lo1 (p_Reader_spells_B17 x1 k2 s) n x3 = some r → HW Z (wX Z Q) A s0 H locs s → lv_has ls 4 [(0, .ref (Q 9)), (1, .int x1), (2, .ref (Z.2.2.1 k2)), (3, .int x3)] → W p l e { frames := 4, cells := 0, slots := 0, locals := 85 } s0 m args below meth c H locs 0 0 (MQ below (QcI Z (wX Z Q) A r s) args s0 0 0 A) (F0 m 17 ls []) := by
    intro x1 k2 n
    induction n with
    | zero => intro x3 H locs ls hk2 hf; exact absurd hf lo1_z
    | succ n ih17 =>
      intro x3 H locs ls hk2 hf h hl
      have hf := lo1_s hf
      generalize lo1 (p_Reader_spells_B17 x1 k2 s) n = c17 at hf ih17
      unfold p_Reader_spells_B17 at hf
      refine lv_iload_n hx hb dX5_spells_17 rfl (lv_at hl 3 rfl) ?_
      refine lv_aload_n hx hb dX5_spells_18 rfl (lv_at hl 2 rfl) ?_
      refine call_VI F (c_strlen l Z (wX Z Q) s (i := k2) hk2) (cwV 0 hts gX5_spells_J0_length_8abf5 rfl rfl rfl (by decide +kernel) ⟨Nat.le_of_ble_eq_true rfl, Nat.le_of_ble_eq_true rfl⟩) h (vk_recv h.2.2.2.2.2.2.1 (i := k2) hk2 h.2.2.2.1) rfl hl.1 rfl (Nat.le_of_ble_eq_true rfl) ⟨Nat.zero_le _, Nat.zero_le _⟩ dX5_spells_19 (fun H locs h => ?_)
      refine lv_icmp_ge (tgt := 51) hx hb dX5_spells_22 (by decide) (fun c_1 => ?_) (fun c_1 => ?_)
      · have hf := ip c_1 hf
        refine lv_iconst (v := (1 : Int32)) hx hb dX5_spells_51 (by decide) ?_
        exact retE_Zr F hr hlk (by decide) h hf dX5_spells_52
      · have hf := im c_1 hf
        refine lv_aload_n hx hb dX5_spells_25 rfl (lv_at hl 0 rfl) ?_
        refine gX_Reader_tape F h hinX5 (hts (.fieldLink RX5 9 "ElectionHouse$Reader" "tape" "LElectionHouse$Tape;") (by decide +kernel)) dX5_spells_26 ?_
        refine lv_iload_n hx hb dX5_spells_29 rfl (lv_at hl 1 rfl) ?_
        refine lv_iload_n hx hb dX5_spells_30 rfl (lv_at hl 3 rfl) ?_
        refine lv_iadd hx hb dX5_spells_31 ?_
        obtain ⟨r3, hc2, hf⟩ := ob1 hf
        refine call_VI F (c_Tape_at l Z Q s (x1 + x3) hc2) (cwV 1 hts gX5_spells_X8_at rfl rfl rfl (by decide +kernel) ⟨Nat.le_of_ble_eq_true rfl, Nat.le_of_ble_eq_true rfl⟩) h (rcX_Tape h) rfl hl.1 rfl (Nat.le_of_ble_eq_true rfl) ⟨Nat.zero_le _, Nat.zero_le _⟩ dX5_spells_32 (fun H locs h => ?_)
        refine lv_aload_n hx hb dX5_spells_35 rfl (lv_at hl 2 rfl) ?_
        refine lv_iload_n hx hb dX5_spells_36 rfl (lv_at hl 3 rfl) ?_
        obtain ⟨gi5, hf⟩ := og hf
        refine call_VI F (c_charAt l Z (wX Z Q) s (i := k2) hk2 gi5) (cwV 1 hts gX5_spells_J0_charAt_5068e rfl rfl rfl (by decide +kernel) ⟨Nat.le_of_ble_eq_true rfl, Nat.le_of_ble_eq_true rfl⟩) h (vk_recv h.2.2.2.2.2.2.1 (i := k2) hk2 h.2.2.2.1) rfl hl.1 rfl (Nat.le_of_ble_eq_true rfl) ⟨Nat.zero_le _, Nat.zero_le _⟩ dX5_spells_37 (fun H locs h => ?_)
        refine lv_icmp_eq (tgt := 45) hx hb dX5_spells_40 (by decide) (fun c_6 => ?_) (fun c_6 => ?_)
        · have hf := ip c_6 hf
          refine lv_iinc (v := (x3 + (1 : Int32))) (lv' := [(3, .int (x3 + (1 : Int32))), (0, .ref (Q 9)), (1, .int x1), (2, .ref (Z.2.2.1 k2))]) hx hb dX5_spells_45 hl (k := 3) rfl (congrArg (fun z => x3 + z) (by decide : Int32.ofInt (1) = (1 : Int32))) (by decide) rfl (fun ls hl => ?_)
          have hl := lv_sub (l' := [(0, .ref (Q 9)), (1, .int x1), (2, .ref (Z.2.2.1 k2)), (3, .int (x3 + (1 : Int32)))]) hl [1, 2, 3, 0] rfl
          refine lv_goto (tgt := 17) hx hb dX5_spells_48 (by decide) ?_
          exact ih17 (x3 + (1 : Int32)) H locs ls hk2 hf h (lv_sub hl [0, 1, 2, 3] rfl)
        · have hf := im c_6 hf
          refine lv_iconst (v := (0 : Int32)) hx hb dX5_spells_43 (by decide) ?_
          exact retE_Zr F hr hlk (by decide) h hf dX5_spells_44
  refine lv_aload_n hx hb dX5_spells_0 rfl (lv_at hl 0 rfl) ?_
  refine gX_Reader_place F h hinX5 (hts (.fieldLink RX5 15 "ElectionHouse$Reader" "place" "I") (by decide +kernel)) dX5_spells_1 ?_
  refine lv_iload_n hx hb dX5_spells_4 rfl (lv_at hl 1 rfl) ?_
  refine lv_isub hx hb dX5_spells_5 ?_
  refine lv_aload_n hx hb dX5_spells_6 rfl (lv_at hl 2 rfl) ?_
  refine call_VI F (c_strlen l Z (wX Z Q) s (i := k2) hk2) (cwV 0 hts gX5_spells_J0_length_8abf5 rfl rfl rfl (by decide +kernel) ⟨Nat.le_of_ble_eq_true rfl, Nat.le_of_ble_eq_true rfl⟩) h (vk_recv h.2.2.2.2.2.2.1 (i := k2) hk2 h.2.2.2.1) rfl hl.1 rfl (Nat.le_of_ble_eq_true rfl) ⟨Nat.zero_le _, Nat.zero_le _⟩ dX5_spells_7 (fun H locs h => ?_)
  refine lv_icmp_eq (tgt := 15) hx hb dX5_spells_10 (by decide) (fun c_7 => ?_) (fun c_7 => ?_)
  · have hf := ip c_7 hf
    refine lv_iconst (v := (0 : Int32)) hx hb dX5_spells_15 (by decide) ?_
    refine lv_istore_n (lv' := [(3, .int (0 : Int32)), (0, .ref (Q 9)), (1, .int x1), (2, .ref (Z.2.2.1 k2))]) hx hb dX5_spells_16 rfl hl (by decide) rfl (fun ls hl => ?_)
    have hl := lv_sub (l' := [(0, .ref (Q 9)), (1, .int x1), (2, .ref (Z.2.2.1 k2)), (3, .int (0 : Int32))]) hl [1, 2, 3, 0] rfl
    exact lab17 x1 k2 fuelN (0 : Int32) H locs ls hk2 hf h (lv_sub hl [0, 1, 2, 3] rfl)
  · have hf := im c_7 hf
    refine lv_iconst (v := (0 : Int32)) hx hb dX5_spells_13 (by decide) ?_
    exact retE_Zr F hr hlk (by decide) h hf dX5_spells_14

set_option maxHeartbeats 8000000 in
set_option maxRecDepth 100000 in
theorem c_Reader_takeWord (l : Launch) (Z : ZT) (Q : Nat → Nat) (s : XS) {r : Int32} {s' : XS} (hf : p_Reader_takeWord s = some (r, s')) : KI l Z (wX Z Q) yX5_takeWord wsX5_takeWord { frames := 5, cells := 0, slots := 0, locals := 108 } [.ref (Q 9)] s r s' := by
  intro sz
  refine met_entry (cc := cX5_takeWord) (maxL := 2) (ret := (some .int)) (by decide) rfl (Nat.le_of_ble_eq_true rfl) sz rfl ?_
  generalize va_A (wX Z Q s) sz = A
  intro p e s0 m args below meth c ls F hr hlk h hl
  have hl : lv_has ls 2 [(0, .ref (Q 9))] := hl
  obtain ⟨hx, hb, hml, hown, hts⟩ := id F
  have hinX5 : ∀ w ∈ wsX50, w ∈ wsX5_takeWord := by decide +kernel
  obtain ⟨H, eH⟩ : ∃ z, z = s0.heap := ⟨_, rfl⟩
  obtain ⟨locs, eL⟩ : ∃ z : List Loc, z = [] := ⟨_, rfl⟩
  rw [← eH, ← eL] at h ⊢
  unfold p_Reader_takeWord at hf
  have lab5 : ∀ (x1 : Int32) (n : Nat) (s : XS) (H : Heap) (locs : List Loc) (ls : Array Slot), lo1 (p_Reader_takeWord_B5 x1) n s = some (r, s') → HW Z (wX Z Q) A s0 H locs s → lv_has ls 2 [(0, .ref (Q 9)), (1, .int x1)] → W p l e { frames := 5, cells := 0, slots := 0, locals := 108 } s0 m args below meth c H locs 0 0 (MQ below (QcI Z (wX Z Q) A r s') args s0 0 0 A) (F0 m 5 ls []) := by
    intro x1 n
    induction n with
    | zero => intro s H locs ls hf; exact absurd hf lo1_z
    | succ n ih5 =>
      intro s H locs ls hf h hl
      have hf := lo1_s hf
      generalize lo1 (p_Reader_takeWord_B5 x1) n = c5 at hf ih5
      unfold p_Reader_takeWord_B5 at hf
      have lab49 : ∀ (x1 : Int32) (s : XS) (H : Heap) (locs : List Loc) (ls : Array Slot), p_Reader_takeWord_K49 x1 s = some (r, s') → HW Z (wX Z Q) A s0 H locs s → lv_has ls 2 [(0, .ref (Q 9)), (1, .int x1)] → W p l e { frames := 5, cells := 0, slots := 0, locals := 108 } s0 m args below meth c H locs 0 0 (MQ below (QcI Z (wX Z Q) A r s') args s0 0 0 A) (F0 m 49 ls []) := by
        intro x1 s H locs ls hf h hl
        unfold p_Reader_takeWord_K49 at hf
        refine lv_aload_n hx hb dX5_takeWord_49 rfl (lv_at hl 0 rfl) ?_
        refine lv_iload_n hx hb dX5_takeWord_50 rfl (lv_at hl 1 rfl) ?_
        refine va_ldcS hx hb hown (show vk_R RX5 82 "draw" (Z.2.2.1 0) s0 from h.2.2.2.2.2.2.2.2.2 0 (by decide)) dX5_takeWord_51 ?_
        obtain ⟨r2, hc1, hf⟩ := ob1 hf
        refine call_VI F (c_Reader_spells l Z Q s x1 0 (by decide) hc1) (cwV 2 hts gX5_takeWord_X5_spells rfl rfl rfl (by decide +kernel) ⟨Nat.le_of_ble_eq_true rfl, Nat.le_of_ble_eq_true rfl⟩) h (rcX_Reader h) rfl hl.1 rfl (Nat.le_of_ble_eq_true rfl) ⟨Nat.zero_le _, Nat.zero_le _⟩ dX5_takeWord_53 (fun H locs h => ?_)
        refine lv_if_eq (tgt := 61) hx hb dX5_takeWord_56 (by decide) (fun c_4 => ?_) (fun c_4 => ?_)
        · have hf := ip c_4 hf
          refine lv_aload_n hx hb dX5_takeWord_61 rfl (lv_at hl 0 rfl) ?_
          refine lv_iload_n hx hb dX5_takeWord_62 rfl (lv_at hl 1 rfl) ?_
          refine va_ldcS hx hb hown (show vk_R RX5 88 "choose" (Z.2.2.1 1) s0 from h.2.2.2.2.2.2.2.2.2 1 (by decide)) dX5_takeWord_63 ?_
          obtain ⟨r6, hc5, hf⟩ := ob1 hf
          refine call_VI F (c_Reader_spells l Z Q s x1 1 (by decide) hc5) (cwV 2 hts gX5_takeWord_X5_spells rfl rfl rfl (by decide +kernel) ⟨Nat.le_of_ble_eq_true rfl, Nat.le_of_ble_eq_true rfl⟩) h (rcX_Reader h) rfl hl.1 rfl (Nat.le_of_ble_eq_true rfl) ⟨Nat.zero_le _, Nat.zero_le _⟩ dX5_takeWord_65 (fun H locs h => ?_)
          refine lv_if_eq (tgt := 73) hx hb dX5_takeWord_68 (by decide) (fun c_8 => ?_) (fun c_8 => ?_)
          · have hf := ip c_8 hf
            refine lv_aload_n hx hb dX5_takeWord_73 rfl (lv_at hl 0 rfl) ?_
            refine lv_iload_n hx hb dX5_takeWord_74 rfl (lv_at hl 1 rfl) ?_
            refine va_ldcS hx hb hown (show vk_R RX5 90 "elect" (Z.2.2.1 2) s0 from h.2.2.2.2.2.2.2.2.2 2 (by decide)) dX5_takeWord_75 ?_
            obtain ⟨r10, hc9, hf⟩ := ob1 hf
            refine call_VI F (c_Reader_spells l Z Q s x1 2 (by decide) hc9) (cwV 2 hts gX5_takeWord_X5_spells rfl rfl rfl (by decide +kernel) ⟨Nat.le_of_ble_eq_true rfl, Nat.le_of_ble_eq_true rfl⟩) h (rcX_Reader h) rfl hl.1 rfl (Nat.le_of_ble_eq_true rfl) ⟨Nat.zero_le _, Nat.zero_le _⟩ dX5_takeWord_77 (fun H locs h => ?_)
            refine lv_if_eq (tgt := 85) hx hb dX5_takeWord_80 (by decide) (fun c_12 => ?_) (fun c_12 => ?_)
            · have hf := ip c_12 hf
              refine lv_aload_n hx hb dX5_takeWord_85 rfl (lv_at hl 0 rfl) ?_
              refine lv_iload_n hx hb dX5_takeWord_86 rfl (lv_at hl 1 rfl) ?_
              refine va_ldcS hx hb hown (show vk_R RX5 92 "by" (Z.2.2.1 3) s0 from h.2.2.2.2.2.2.2.2.2 3 (by decide)) dX5_takeWord_87 ?_
              obtain ⟨r14, hc13, hf⟩ := ob1 hf
              refine call_VI F (c_Reader_spells l Z Q s x1 3 (by decide) hc13) (cwV 2 hts gX5_takeWord_X5_spells rfl rfl rfl (by decide +kernel) ⟨Nat.le_of_ble_eq_true rfl, Nat.le_of_ble_eq_true rfl⟩) h (rcX_Reader h) rfl hl.1 rfl (Nat.le_of_ble_eq_true rfl) ⟨Nat.zero_le _, Nat.zero_le _⟩ dX5_takeWord_89 (fun H locs h => ?_)
              refine lv_if_eq (tgt := 97) hx hb dX5_takeWord_92 (by decide) (fun c_16 => ?_) (fun c_16 => ?_)
              · have hf := ip c_16 hf
                refine lv_aload_n hx hb dX5_takeWord_97 rfl (lv_at hl 0 rfl) ?_
                refine lv_iload_n hx hb dX5_takeWord_98 rfl (lv_at hl 1 rfl) ?_
                refine va_ldcS hx hb hown (show vk_R RX5 94 "house" (Z.2.2.1 4) s0 from h.2.2.2.2.2.2.2.2.2 4 (by decide)) dX5_takeWord_99 ?_
                obtain ⟨r18, hc17, hf⟩ := ob1 hf
                refine call_VI F (c_Reader_spells l Z Q s x1 4 (by decide) hc17) (cwV 2 hts gX5_takeWord_X5_spells rfl rfl rfl (by decide +kernel) ⟨Nat.le_of_ble_eq_true rfl, Nat.le_of_ble_eq_true rfl⟩) h (rcX_Reader h) rfl hl.1 rfl (Nat.le_of_ble_eq_true rfl) ⟨Nat.zero_le _, Nat.zero_le _⟩ dX5_takeWord_101 (fun H locs h => ?_)
                refine lv_if_eq (tgt := 111) hx hb dX5_takeWord_104 (by decide) (fun c_20 => ?_) (fun c_20 => ?_)
                · have hf := ip c_20 hf
                  refine lv_iconst (v := (0 : Int32)) hx hb dX5_takeWord_111 (by decide) ?_
                  exact retE_I F hr hlk h hf dX5_takeWord_112
                · have hf := im c_20 hf
                  refine lv_iconst (v := (5 : Int32)) hx hb dX5_takeWord_107 (by decide) ?_
                  refine lv_goto (tgt := 112) hx hb dX5_takeWord_108 (by decide) ?_
                  exact retE_I F hr hlk h hf dX5_takeWord_112
              · have hf := im c_16 hf
                refine lv_iconst (v := (4 : Int32)) hx hb dX5_takeWord_95 (by decide) ?_
                exact retE_I F hr hlk h hf dX5_takeWord_96
            · have hf := im c_12 hf
              refine lv_iconst (v := (3 : Int32)) hx hb dX5_takeWord_83 (by decide) ?_
              exact retE_I F hr hlk h hf dX5_takeWord_84
          · have hf := im c_8 hf
            refine lv_iconst (v := (2 : Int32)) hx hb dX5_takeWord_71 (by decide) ?_
            exact retE_I F hr hlk h hf dX5_takeWord_72
        · have hf := im c_4 hf
          refine lv_iconst (v := (1 : Int32)) hx hb dX5_takeWord_59 (by decide) ?_
          exact retE_I F hr hlk h hf dX5_takeWord_60
      refine lv_aload_n hx hb dX5_takeWord_5 rfl (lv_at hl 0 rfl) ?_
      refine gX_Reader_place F h hinX5 (hts (.fieldLink RX5 15 "ElectionHouse$Reader" "place" "I") (by decide +kernel)) dX5_takeWord_6 ?_
      refine lv_aload_n hx hb dX5_takeWord_9 rfl (lv_at hl 0 rfl) ?_
      refine gX_Reader_tape F h hinX5 (hts (.fieldLink RX5 9 "ElectionHouse$Reader" "tape" "LElectionHouse$Tape;") (by decide +kernel)) dX5_takeWord_10 ?_
      obtain ⟨r22, hc21, hf⟩ := ob1 hf
      refine call_VI F (c_Tape_length l Z Q s hc21) (cwV 0 hts gX5_takeWord_X8_length rfl rfl rfl (by decide +kernel) ⟨Nat.le_of_ble_eq_true rfl, Nat.le_of_ble_eq_true rfl⟩) h (rcX_Tape h) rfl hl.1 rfl (Nat.le_of_ble_eq_true rfl) ⟨Nat.zero_le _, Nat.zero_le _⟩ dX5_takeWord_13 (fun H locs h => ?_)
      refine lv_icmp_ge (tgt := 49) hx hb dX5_takeWord_16 (by decide) (fun c_24 => ?_) (fun c_24 => ?_)
      · have hf := ip c_24 hf
        exact lab49 x1 s H locs ls hf h (lv_sub hl [0, 1] rfl)
      · have hf := im c_24 hf
        refine lv_aload_n hx hb dX5_takeWord_19 rfl (lv_at hl 0 rfl) ?_
        refine gX_Reader_tape F h hinX5 (hts (.fieldLink RX5 9 "ElectionHouse$Reader" "tape" "LElectionHouse$Tape;") (by decide +kernel)) dX5_takeWord_20 ?_
        refine lv_aload_n hx hb dX5_takeWord_23 rfl (lv_at hl 0 rfl) ?_
        refine gX_Reader_place F h hinX5 (hts (.fieldLink RX5 15 "ElectionHouse$Reader" "place" "I") (by decide +kernel)) dX5_takeWord_24 ?_
        obtain ⟨r26, hc25, hf⟩ := ob1 hf
        refine call_VI F (c_Tape_at l Z Q s (gM s 9 1) hc25) (cwV 1 hts gX5_takeWord_X8_at rfl rfl rfl (by decide +kernel) ⟨Nat.le_of_ble_eq_true rfl, Nat.le_of_ble_eq_true rfl⟩) h (rcX_Tape h) rfl hl.1 rfl (Nat.le_of_ble_eq_true rfl) ⟨Nat.zero_le _, Nat.zero_le _⟩ dX5_takeWord_27 (fun H locs h => ?_)
        obtain ⟨r29, hc28, hf⟩ := ob1 hf
        refine call_SI F (c_Reader_isLetter l Z (wX Z Q) s r26 hc28) (va_cwS 1 hts gX5_takeWord_X5_isLetter rfl rfl rfl (by decide +kernel) ⟨Nat.le_of_ble_eq_true rfl, Nat.le_of_ble_eq_true rfl⟩) h rfl hl.1 rfl (Nat.le_of_ble_eq_true rfl) ⟨Nat.zero_le _, Nat.zero_le _⟩ dX5_takeWord_30 (fun H locs h => ?_)
        refine lv_if_eq (tgt := 49) hx hb dX5_takeWord_33 (by decide) (fun c_31 => ?_) (fun c_31 => ?_)
        · have hf := ip c_31 hf
          exact lab49 x1 s H locs ls hf h (lv_sub hl [0, 1] rfl)
        · have hf := im c_31 hf
          refine lv_aload_n hx hb dX5_takeWord_36 rfl (lv_at hl 0 rfl) ?_
          refine lv_dup hx hb dX5_takeWord_37 rfl ?_
          refine gX_Reader_place F h hinX5 (hts (.fieldLink RX5 15 "ElectionHouse$Reader" "place" "I") (by decide +kernel)) dX5_takeWord_38 ?_
          refine lv_iconst (v := (1 : Int32)) hx hb dX5_takeWord_41 (by decide) ?_
          refine lv_iadd hx hb dX5_takeWord_42 ?_
          refine pX_Reader_place F h hinX5 (hts (.fieldLink RX5 15 "ElectionHouse$Reader" "place" "I") (by decide +kernel)) dX5_takeWord_43 (fun H locs h => ?_)
          obtain ⟨s32, es, hf⟩ := olq hf
          rw [← es] at h
          refine lv_goto (tgt := 5) hx hb dX5_takeWord_46 (by decide) ?_
          exact ih5 s32 H locs ls hf h (lv_sub hl [0, 1] rfl)
  refine lv_aload_n hx hb dX5_takeWord_0 rfl (lv_at hl 0 rfl) ?_
  refine gX_Reader_place F h hinX5 (hts (.fieldLink RX5 15 "ElectionHouse$Reader" "place" "I") (by decide +kernel)) dX5_takeWord_1 ?_
  refine lv_istore_n (lv' := [(1, .int (gM s 9 1)), (0, .ref (Q 9))]) hx hb dX5_takeWord_4 rfl hl (by decide) rfl (fun ls hl => ?_)
  have hl := lv_sub (l' := [(0, .ref (Q 9)), (1, .int (gM s 9 1))]) hl [1, 0] rfl
  exact lab5 (gM s 9 1) fuelN s H locs ls hf h (lv_sub hl [0, 1] rfl)

set_option maxHeartbeats 8000000 in
set_option maxRecDepth 100000 in
theorem c_Reader_fail (l : Launch) (Z : ZT) (Q : Nat → Nat) (s : XS) (x1 : Int32) (x2 : Int32) {r : Int32} {s' : XS} (hf : p_Reader_fail x1 x2 s = some (r, s')) : KI l Z (wX Z Q) yX5_fail wsX5_fail { frames := 0, cells := 0, slots := 0, locals := 0 } [.ref (Q 9), .int x1, .int x2] s r s' := by
  intro sz
  refine met_entry (cc := cX5_fail) (maxL := 3) (ret := (some .boolean)) (by decide) rfl (Nat.le_of_ble_eq_true rfl) sz rfl ?_
  generalize va_A (wX Z Q s) sz = A
  intro p e s0 m args below meth c ls F hr hlk h hl
  have hl : lv_has ls 3 [(0, .ref (Q 9)), (1, .int x1), (2, .int x2)] := hl
  obtain ⟨hx, hb, hml, hown, hts⟩ := id F
  have hinX5 : ∀ w ∈ wsX50, w ∈ wsX5_fail := by decide +kernel
  obtain ⟨H, eH⟩ : ∃ z, z = s0.heap := ⟨_, rfl⟩
  obtain ⟨locs, eL⟩ : ∃ z : List Loc, z = [] := ⟨_, rfl⟩
  rw [← eH, ← eL] at h ⊢
  unfold p_Reader_fail at hf
  refine lv_aload_n hx hb dX5_fail_0 rfl (lv_at hl 0 rfl) ?_
  refine gX_Reader_fault F h hinX5 (hts (.fieldLink RX5 22 "ElectionHouse$Reader" "fault" "I") (by decide +kernel)) dX5_fail_1 ?_
  refine lv_if_ne (tgt := 19) hx hb dX5_fail_4 (by decide) (fun c_1 => ?_) (fun c_1 => ?_)
  · have hf := im c_1 hf
    refine lv_iconst (v := (0 : Int32)) hx hb dX5_fail_19 (by decide) ?_
    exact retE_Z F hr hlk (by decide) h hf dX5_fail_20
  · have hf := ip c_1 hf
    refine lv_aload_n hx hb dX5_fail_7 rfl (lv_at hl 0 rfl) ?_
    refine lv_iconst (v := (1 : Int32)) hx hb dX5_fail_8 (by decide) ?_
    refine lv_bipush (v := (8 : Int32)) hx hb dX5_fail_9 (by decide) ?_
    refine lv_iload_n hx hb dX5_fail_11 rfl (lv_at hl 1 rfl) ?_
    refine lv_imul hx hb dX5_fail_12 ?_
    refine lv_iadd hx hb dX5_fail_13 ?_
    refine lv_iload_n hx hb dX5_fail_14 rfl (lv_at hl 2 rfl) ?_
    refine lv_iadd hx hb dX5_fail_15 ?_
    refine pX_Reader_fault F h hinX5 (hts (.fieldLink RX5 22 "ElectionHouse$Reader" "fault" "I") (by decide +kernel)) dX5_fail_16 (fun H locs h => ?_)
    obtain ⟨s2, es, hf⟩ := olq hf
    rw [← es] at h
    refine lv_iconst (v := (0 : Int32)) hx hb dX5_fail_19 (by decide) ?_
    exact retE_Z F hr hlk (by decide) h hf dX5_fail_20

set_option maxHeartbeats 8000000 in
set_option maxRecDepth 100000 in
theorem c_Reader_isDigit (l : Launch) (Z : ZT) (V : XS → va_W) (s : XS) (x0 : Int32) {r : Int32} (hf : p_Reader_isDigit x0 = some r) : KI l Z V yX5_isDigit wsX5_isDigit { frames := 0, cells := 0, slots := 0, locals := 0 } [.int x0] s r s := by
  intro sz
  refine met_entry (cc := cX5_isDigit) (maxL := 1) (ret := (some .boolean)) (by decide) rfl (Nat.le_of_ble_eq_true rfl) sz rfl ?_
  generalize va_A (V s) sz = A
  intro p e s0 m args below meth c ls F hr hlk h hl
  have hl : lv_has ls 1 [(0, .int x0)] := hl
  obtain ⟨hx, hb, hml, hown, hts⟩ := id F
  obtain ⟨H, eH⟩ : ∃ z, z = s0.heap := ⟨_, rfl⟩
  obtain ⟨locs, eL⟩ : ∃ z : List Loc, z = [] := ⟨_, rfl⟩
  rw [← eH, ← eL] at h ⊢
  unfold p_Reader_isDigit at hf
  refine lv_iload_n hx hb dX5_isDigit_0 rfl (lv_at hl 0 rfl) ?_
  refine lv_bipush (v := (48 : Int32)) hx hb dX5_isDigit_1 (by decide) ?_
  refine lv_icmp_lt (tgt := 16) hx hb dX5_isDigit_3 (by decide) (fun c_1 => ?_) (fun c_1 => ?_)
  · have hf := ip c_1 hf
    refine lv_iconst (v := (0 : Int32)) hx hb dX5_isDigit_16 (by decide) ?_
    exact retE_Zr F hr hlk (by decide) h hf dX5_isDigit_17
  · have hf := im c_1 hf
    refine lv_iload_n hx hb dX5_isDigit_6 rfl (lv_at hl 0 rfl) ?_
    refine lv_bipush (v := (57 : Int32)) hx hb dX5_isDigit_7 (by decide) ?_
    refine lv_icmp_gt (tgt := 16) hx hb dX5_isDigit_9 (by decide) (fun c_2 => ?_) (fun c_2 => ?_)
    · have hf := ip c_2 hf
      refine lv_iconst (v := (0 : Int32)) hx hb dX5_isDigit_16 (by decide) ?_
      exact retE_Zr F hr hlk (by decide) h hf dX5_isDigit_17
    · have hf := im c_2 hf
      refine lv_iconst (v := (1 : Int32)) hx hb dX5_isDigit_12 (by decide) ?_
      refine lv_goto (tgt := 17) hx hb dX5_isDigit_13 (by decide) ?_
      exact retE_Zr F hr hlk (by decide) h hf dX5_isDigit_17

set_option maxHeartbeats 8000000 in
set_option maxRecDepth 100000 in
theorem c_Reader_takeNumber (l : Launch) (Z : ZT) (Q : Nat → Nat) (s : XS) (x1 : Int32) (x2 : Int32) {r : Int32} {s' : XS} (hf : p_Reader_takeNumber x1 x2 s = some (r, s')) : KI l Z (wX Z Q) yX5_takeNumber wsX5_takeNumber { frames := 2, cells := 0, slots := 0, locals := 41 } [.ref (Q 9), .int x1, .int x2] s r s' := by
  intro sz
  refine met_entry (cc := cX5_takeNumber) (maxL := 6) (ret := (some .int)) (by decide) rfl (Nat.le_of_ble_eq_true rfl) sz rfl ?_
  generalize va_A (wX Z Q s) sz = A
  intro p e s0 m args below meth c ls F hr hlk h hl
  have hl : lv_has ls 6 [(0, .ref (Q 9)), (1, .int x1), (2, .int x2)] := hl
  obtain ⟨hx, hb, hml, hown, hts⟩ := id F
  have hinX5 : ∀ w ∈ wsX50, w ∈ wsX5_takeNumber := by decide +kernel
  obtain ⟨H, eH⟩ : ∃ z, z = s0.heap := ⟨_, rfl⟩
  obtain ⟨locs, eL⟩ : ∃ z : List Loc, z = [] := ⟨_, rfl⟩
  rw [← eH, ← eL] at h ⊢
  unfold p_Reader_takeNumber at hf
  have lab12 : ∀ (x1 : Int32) (x2 : Int32) (x3 : Int32) (n : Nat) (x4 : Int32) (s : XS) (H : Heap) (locs : List Loc) (ls : Array Slot), lo2 (p_Reader_takeNumber_B12 x1 x2 x3) n x4 s = some (r, s') → HW Z (wX Z Q) A s0 H locs s → lv_has ls 6 [(0, .ref (Q 9)), (1, .int x1), (2, .int x2), (3, .int x3), (4, .int x4)] → W p l e { frames := 2, cells := 0, slots := 0, locals := 41 } s0 m args below meth c H locs 0 0 (MQ below (QcI Z (wX Z Q) A r s') args s0 0 0 A) (F0 m 12 ls []) := by
    intro x1 x2 x3 n
    induction n with
    | zero => intro x4 s H locs ls hf; exact absurd hf lo2_z
    | succ n ih12 =>
      intro x4 s H locs ls hf h hl
      have hf := lo2_s hf
      generalize lo2 (p_Reader_takeNumber_B12 x1 x2 x3) n = c12 at hf ih12
      unfold p_Reader_takeNumber_B12 at hf
      have lab88 : ∀ (x1 : Int32) (x2 : Int32) (x3 : Int32) (x4 : Int32) (s : XS) (H : Heap) (locs : List Loc) (ls : Array Slot), p_Reader_takeNumber_K88 x1 x2 x3 x4 s = some (r, s') → HW Z (wX Z Q) A s0 H locs s → lv_has ls 6 [(0, .ref (Q 9)), (1, .int x1), (2, .int x2), (3, .int x3), (4, .int x4)] → W p l e { frames := 2, cells := 0, slots := 0, locals := 41 } s0 m args below meth c H locs 0 0 (MQ below (QcI Z (wX Z Q) A r s') args s0 0 0 A) (F0 m 88 ls []) := by
        intro x1 x2 x3 x4 s H locs ls hf h hl
        unfold p_Reader_takeNumber_K88 at hf
        have lab128 : ∀ (x3 : Int32) (s : XS) (H : Heap) (locs : List Loc) (ls : Array Slot), p_Reader_takeNumber_K128 x3 s = some (r, s') → HW Z (wX Z Q) A s0 H locs s → lv_has ls 6 [(0, .ref (Q 9)), (3, .int x3)] → W p l e { frames := 2, cells := 0, slots := 0, locals := 41 } s0 m args below meth c H locs 0 0 (MQ below (QcI Z (wX Z Q) A r s') args s0 0 0 A) (F0 m 128 ls []) := by
          intro x3 s H locs ls hf h hl
          unfold p_Reader_takeNumber_K128 at hf
          refine lv_aload_n hx hb dX5_takeNumber_128 rfl (lv_at hl 0 rfl) ?_
          refine lv_iload_n hx hb dX5_takeNumber_129 rfl (lv_at hl 1 rfl) ?_
          refine lv_iconst (v := (1 : Int32)) hx hb dX5_takeNumber_130 (by decide) ?_
          obtain ⟨r2, s3, hc1, hf⟩ := ob2 hf
          refine call_VI F (c_Reader_fail l Z Q s x3 (1 : Int32) hc1) (cwV 2 hts gX5_takeNumber_X5_fail rfl rfl rfl (by decide +kernel) ⟨Nat.le_of_ble_eq_true rfl, Nat.le_of_ble_eq_true rfl⟩) h (rcX_Reader h) rfl hl.1 rfl (Nat.le_of_ble_eq_true rfl) ⟨Nat.zero_le _, Nat.zero_le _⟩ dX5_takeNumber_131 (fun H locs h => ?_)
          refine lv_pop hx hb dX5_takeNumber_134 rfl ?_
          refine lv_iconst (v := (0 : Int32)) hx hb dX5_takeNumber_135 (by decide) ?_
          exact retE_I F hr hlk h hf dX5_takeNumber_136
        refine lv_aload_n hx hb dX5_takeNumber_88 rfl (lv_at hl 0 rfl) ?_
        refine gX_Reader_place F h hinX5 (hts (.fieldLink RX5 15 "ElectionHouse$Reader" "place" "I") (by decide +kernel)) dX5_takeNumber_89 ?_
        refine lv_iload_n hx hb dX5_takeNumber_92 rfl (lv_at hl 3 rfl) ?_
        refine lv_isub hx hb dX5_takeNumber_93 ?_
        refine lv_istore (lv' := [(5, .int ((gM s 9 1) - x3)), (0, .ref (Q 9)), (1, .int x1), (2, .int x2), (3, .int x3), (4, .int x4)]) hx hb dX5_takeNumber_94 hl (by decide) rfl (fun ls hl => ?_)
        have hl := lv_sub (l' := [(0, .ref (Q 9)), (1, .int x1), (2, .int x2), (3, .int x3), (4, .int x4), (5, .int ((gM s 9 1) - x3))]) hl [1, 2, 3, 4, 5, 0] rfl
        refine lv_iload hx hb dX5_takeNumber_96 (lv_at hl 5 rfl) ?_
        refine lv_if_ne (tgt := 110) hx hb dX5_takeNumber_98 (by decide) (fun c_4 => ?_) (fun c_4 => ?_)
        · have hf := im c_4 hf
          refine lv_iload hx hb dX5_takeNumber_110 (lv_at hl 5 rfl) ?_
          refine lv_iconst (v := (2 : Int32)) hx hb dX5_takeNumber_112 (by decide) ?_
          refine lv_icmp_gt (tgt := 128) hx hb dX5_takeNumber_113 (by decide) (fun c_5 => ?_) (fun c_5 => ?_)
          · have hf := ip c_5 hf
            exact lab128 x3 s H locs ls hf h (lv_sub hl [0, 3] rfl)
          · have hf := im c_5 hf
            refine lv_iload hx hb dX5_takeNumber_116 (lv_at hl 4 rfl) ?_
            refine lv_iconst (v := (1 : Int32)) hx hb dX5_takeNumber_118 (by decide) ?_
            refine lv_icmp_lt (tgt := 128) hx hb dX5_takeNumber_119 (by decide) (fun c_6 => ?_) (fun c_6 => ?_)
            · have hf := ip c_6 hf
              exact lab128 x3 s H locs ls hf h (lv_sub hl [0, 3] rfl)
            · have hf := im c_6 hf
              refine lv_iload hx hb dX5_takeNumber_122 (lv_at hl 4 rfl) ?_
              refine lv_iload_n hx hb dX5_takeNumber_124 rfl (lv_at hl 1 rfl) ?_
              refine lv_icmp_le (tgt := 137) hx hb dX5_takeNumber_125 (by decide) (fun c_7 => ?_) (fun c_7 => ?_)
              · have hf := ip c_7 hf
                refine lv_iload hx hb dX5_takeNumber_137 (lv_at hl 4 rfl) ?_
                refine lv_iload_n hx hb dX5_takeNumber_139 rfl (lv_at hl 2 rfl) ?_
                refine lv_icmp_le (tgt := 152) hx hb dX5_takeNumber_140 (by decide) (fun c_8 => ?_) (fun c_8 => ?_)
                · have hf := ip c_8 hf
                  refine lv_iload hx hb dX5_takeNumber_152 (lv_at hl 4 rfl) ?_
                  exact retE_I F hr hlk h hf dX5_takeNumber_154
                · have hf := im c_8 hf
                  refine lv_aload_n hx hb dX5_takeNumber_143 rfl (lv_at hl 0 rfl) ?_
                  refine lv_iload_n hx hb dX5_takeNumber_144 rfl (lv_at hl 3 rfl) ?_
                  refine lv_iconst (v := (3 : Int32)) hx hb dX5_takeNumber_145 (by decide) ?_
                  obtain ⟨r10, s11, hc9, hf⟩ := ob2 hf
                  refine call_VI F (c_Reader_fail l Z Q s x3 (3 : Int32) hc9) (cwV 2 hts gX5_takeNumber_X5_fail rfl rfl rfl (by decide +kernel) ⟨Nat.le_of_ble_eq_true rfl, Nat.le_of_ble_eq_true rfl⟩) h (rcX_Reader h) rfl hl.1 rfl (Nat.le_of_ble_eq_true rfl) ⟨Nat.zero_le _, Nat.zero_le _⟩ dX5_takeNumber_146 (fun H locs h => ?_)
                  refine lv_pop hx hb dX5_takeNumber_149 rfl ?_
                  refine lv_iconst (v := (0 : Int32)) hx hb dX5_takeNumber_150 (by decide) ?_
                  exact retE_I F hr hlk h hf dX5_takeNumber_151
              · have hf := im c_7 hf
                exact lab128 x3 s H locs ls hf h (lv_sub hl [0, 3] rfl)
        · have hf := ip c_4 hf
          refine lv_aload_n hx hb dX5_takeNumber_101 rfl (lv_at hl 0 rfl) ?_
          refine lv_iload_n hx hb dX5_takeNumber_102 rfl (lv_at hl 3 rfl) ?_
          refine lv_iconst (v := (0 : Int32)) hx hb dX5_takeNumber_103 (by decide) ?_
          obtain ⟨r13, s14, hc12, hf⟩ := ob2 hf
          refine call_VI F (c_Reader_fail l Z Q s x3 (0 : Int32) hc12) (cwV 2 hts gX5_takeNumber_X5_fail rfl rfl rfl (by decide +kernel) ⟨Nat.le_of_ble_eq_true rfl, Nat.le_of_ble_eq_true rfl⟩) h (rcX_Reader h) rfl hl.1 rfl (Nat.le_of_ble_eq_true rfl) ⟨Nat.zero_le _, Nat.zero_le _⟩ dX5_takeNumber_104 (fun H locs h => ?_)
          refine lv_pop hx hb dX5_takeNumber_107 rfl ?_
          refine lv_iconst (v := (0 : Int32)) hx hb dX5_takeNumber_108 (by decide) ?_
          exact retE_I F hr hlk h hf dX5_takeNumber_109
      refine lv_aload_n hx hb dX5_takeNumber_12 rfl (lv_at hl 0 rfl) ?_
      refine gX_Reader_place F h hinX5 (hts (.fieldLink RX5 15 "ElectionHouse$Reader" "place" "I") (by decide +kernel)) dX5_takeNumber_13 ?_
      refine lv_aload_n hx hb dX5_takeNumber_16 rfl (lv_at hl 0 rfl) ?_
      refine gX_Reader_tape F h hinX5 (hts (.fieldLink RX5 9 "ElectionHouse$Reader" "tape" "LElectionHouse$Tape;") (by decide +kernel)) dX5_takeNumber_17 ?_
      obtain ⟨r16, hc15, hf⟩ := ob1 hf
      refine call_VI F (c_Tape_length l Z Q s hc15) (cwV 0 hts gX5_takeNumber_X8_length rfl rfl rfl (by decide +kernel) ⟨Nat.le_of_ble_eq_true rfl, Nat.le_of_ble_eq_true rfl⟩) h (rcX_Tape h) rfl hl.1 rfl (Nat.le_of_ble_eq_true rfl) ⟨Nat.zero_le _, Nat.zero_le _⟩ dX5_takeNumber_20 (fun H locs h => ?_)
      refine lv_icmp_ge (tgt := 88) hx hb dX5_takeNumber_23 (by decide) (fun c_18 => ?_) (fun c_18 => ?_)
      · have hf := ip c_18 hf
        exact lab88 x1 x2 x3 x4 s H locs ls hf h (lv_sub hl [0, 1, 2, 3, 4] rfl)
      · have hf := im c_18 hf
        refine lv_aload_n hx hb dX5_takeNumber_26 rfl (lv_at hl 0 rfl) ?_
        refine gX_Reader_tape F h hinX5 (hts (.fieldLink RX5 9 "ElectionHouse$Reader" "tape" "LElectionHouse$Tape;") (by decide +kernel)) dX5_takeNumber_27 ?_
        refine lv_aload_n hx hb dX5_takeNumber_30 rfl (lv_at hl 0 rfl) ?_
        refine gX_Reader_place F h hinX5 (hts (.fieldLink RX5 15 "ElectionHouse$Reader" "place" "I") (by decide +kernel)) dX5_takeNumber_31 ?_
        obtain ⟨r20, hc19, hf⟩ := ob1 hf
        refine call_VI F (c_Tape_at l Z Q s (gM s 9 1) hc19) (cwV 1 hts gX5_takeNumber_X8_at rfl rfl rfl (by decide +kernel) ⟨Nat.le_of_ble_eq_true rfl, Nat.le_of_ble_eq_true rfl⟩) h (rcX_Tape h) rfl hl.1 rfl (Nat.le_of_ble_eq_true rfl) ⟨Nat.zero_le _, Nat.zero_le _⟩ dX5_takeNumber_34 (fun H locs h => ?_)
        obtain ⟨r23, hc22, hf⟩ := ob1 hf
        refine call_SI F (c_Reader_isDigit l Z (wX Z Q) s r20 hc22) (va_cwS 1 hts gX5_takeNumber_X5_isDigit rfl rfl rfl (by decide +kernel) ⟨Nat.le_of_ble_eq_true rfl, Nat.le_of_ble_eq_true rfl⟩) h rfl hl.1 rfl (Nat.le_of_ble_eq_true rfl) ⟨Nat.zero_le _, Nat.zero_le _⟩ dX5_takeNumber_37 (fun H locs h => ?_)
        refine lv_if_eq (tgt := 88) hx hb dX5_takeNumber_40 (by decide) (fun c_25 => ?_) (fun c_25 => ?_)
        · have hf := ip c_25 hf
          exact lab88 x1 x2 x3 x4 s H locs ls hf h (lv_sub hl [0, 1, 2, 3, 4] rfl)
        · have hf := im c_25 hf
          refine lv_aload_n hx hb dX5_takeNumber_43 rfl (lv_at hl 0 rfl) ?_
          refine gX_Reader_place F h hinX5 (hts (.fieldLink RX5 15 "ElectionHouse$Reader" "place" "I") (by decide +kernel)) dX5_takeNumber_44 ?_
          refine lv_iload_n hx hb dX5_takeNumber_47 rfl (lv_at hl 3 rfl) ?_
          refine lv_isub hx hb dX5_takeNumber_48 ?_
          refine lv_iconst (v := (2 : Int32)) hx hb dX5_takeNumber_49 (by decide) ?_
          refine lv_icmp_ge (tgt := 75) hx hb dX5_takeNumber_50 (by decide) (fun c_26 => ?_) (fun c_26 => ?_)
          · have hf := ip c_26 hf
            refine lv_aload_n hx hb dX5_takeNumber_75 rfl (lv_at hl 0 rfl) ?_
            refine lv_dup hx hb dX5_takeNumber_76 rfl ?_
            refine gX_Reader_place F h hinX5 (hts (.fieldLink RX5 15 "ElectionHouse$Reader" "place" "I") (by decide +kernel)) dX5_takeNumber_77 ?_
            refine lv_iconst (v := (1 : Int32)) hx hb dX5_takeNumber_80 (by decide) ?_
            refine lv_iadd hx hb dX5_takeNumber_81 ?_
            refine pX_Reader_place F h hinX5 (hts (.fieldLink RX5 15 "ElectionHouse$Reader" "place" "I") (by decide +kernel)) dX5_takeNumber_82 (fun H locs h => ?_)
            obtain ⟨s27, es, hf⟩ := olq hf
            rw [← es] at h
            refine lv_goto (tgt := 12) hx hb dX5_takeNumber_85 (by decide) ?_
            exact ih12 x4 s27 H locs ls hf h (lv_sub hl [0, 1, 2, 3, 4] rfl)
          · have hf := im c_26 hf
            refine lv_iload hx hb dX5_takeNumber_53 (lv_at hl 4 rfl) ?_
            refine lv_bipush (v := (10 : Int32)) hx hb dX5_takeNumber_55 (by decide) ?_
            refine lv_imul hx hb dX5_takeNumber_57 ?_
            refine lv_aload_n hx hb dX5_takeNumber_58 rfl (lv_at hl 0 rfl) ?_
            refine gX_Reader_tape F h hinX5 (hts (.fieldLink RX5 9 "ElectionHouse$Reader" "tape" "LElectionHouse$Tape;") (by decide +kernel)) dX5_takeNumber_59 ?_
            refine lv_aload_n hx hb dX5_takeNumber_62 rfl (lv_at hl 0 rfl) ?_
            refine gX_Reader_place F h hinX5 (hts (.fieldLink RX5 15 "ElectionHouse$Reader" "place" "I") (by decide +kernel)) dX5_takeNumber_63 ?_
            obtain ⟨r29, hc28, hf⟩ := ob1 hf
            refine call_VI F (c_Tape_at l Z Q s (gM s 9 1) hc28) (cwV 1 hts gX5_takeNumber_X8_at rfl rfl rfl (by decide +kernel) ⟨Nat.le_of_ble_eq_true rfl, Nat.le_of_ble_eq_true rfl⟩) h (rcX_Tape h) rfl hl.1 rfl (Nat.le_of_ble_eq_true rfl) ⟨Nat.zero_le _, Nat.zero_le _⟩ dX5_takeNumber_66 (fun H locs h => ?_)
            refine lv_iadd hx hb dX5_takeNumber_69 ?_
            refine lv_bipush (v := (48 : Int32)) hx hb dX5_takeNumber_70 (by decide) ?_
            refine lv_isub hx hb dX5_takeNumber_72 ?_
            refine lv_istore (lv' := [(4, .int (((x4 * (10 : Int32)) + r29) - (48 : Int32))), (0, .ref (Q 9)), (1, .int x1), (2, .int x2), (3, .int x3)]) hx hb dX5_takeNumber_73 hl (by decide) rfl (fun ls hl => ?_)
            have hl := lv_sub (l' := [(0, .ref (Q 9)), (1, .int x1), (2, .int x2), (3, .int x3), (4, .int (((x4 * (10 : Int32)) + r29) - (48 : Int32)))]) hl [1, 2, 3, 4, 0] rfl
            refine lv_aload_n hx hb dX5_takeNumber_75 rfl (lv_at hl 0 rfl) ?_
            refine lv_dup hx hb dX5_takeNumber_76 rfl ?_
            refine gX_Reader_place F h hinX5 (hts (.fieldLink RX5 15 "ElectionHouse$Reader" "place" "I") (by decide +kernel)) dX5_takeNumber_77 ?_
            refine lv_iconst (v := (1 : Int32)) hx hb dX5_takeNumber_80 (by decide) ?_
            refine lv_iadd hx hb dX5_takeNumber_81 ?_
            refine pX_Reader_place F h hinX5 (hts (.fieldLink RX5 15 "ElectionHouse$Reader" "place" "I") (by decide +kernel)) dX5_takeNumber_82 (fun H locs h => ?_)
            obtain ⟨s31, es, hf⟩ := olq hf
            rw [← es] at h
            refine lv_goto (tgt := 12) hx hb dX5_takeNumber_85 (by decide) ?_
            exact ih12 (((x4 * (10 : Int32)) + r29) - (48 : Int32)) s31 H locs ls hf h (lv_sub hl [0, 1, 2, 3, 4] rfl)
  refine lv_aload_n hx hb dX5_takeNumber_0 rfl (lv_at hl 0 rfl) ?_
  obtain ⟨s34, hc32, hf⟩ := ob1 hf
  refine call_VV F (c_Reader_skipBlanks l Z Q s hc32) (cwV 0 hts gX5_takeNumber_X5_skipBlanks rfl rfl rfl (by decide +kernel) ⟨Nat.le_of_ble_eq_true rfl, Nat.le_of_ble_eq_true rfl⟩) h (rcX_Reader h) rfl hl.1 rfl (Nat.le_of_ble_eq_true rfl) ⟨Nat.zero_le _, Nat.zero_le _⟩ dX5_takeNumber_1 (fun H locs h => ?_)
  refine lv_aload_n hx hb dX5_takeNumber_4 rfl (lv_at hl 0 rfl) ?_
  refine gX_Reader_place F h hinX5 (hts (.fieldLink RX5 15 "ElectionHouse$Reader" "place" "I") (by decide +kernel)) dX5_takeNumber_5 ?_
  refine lv_istore_n (lv' := [(3, .int (gM s34 9 1)), (0, .ref (Q 9)), (1, .int x1), (2, .int x2)]) hx hb dX5_takeNumber_8 rfl hl (by decide) rfl (fun ls hl => ?_)
  have hl := lv_sub (l' := [(0, .ref (Q 9)), (1, .int x1), (2, .int x2), (3, .int (gM s34 9 1))]) hl [1, 2, 3, 0] rfl
  refine lv_iconst (v := (0 : Int32)) hx hb dX5_takeNumber_9 (by decide) ?_
  refine lv_istore (lv' := [(4, .int (0 : Int32)), (0, .ref (Q 9)), (1, .int x1), (2, .int x2), (3, .int (gM s34 9 1))]) hx hb dX5_takeNumber_10 hl (by decide) rfl (fun ls hl => ?_)
  have hl := lv_sub (l' := [(0, .ref (Q 9)), (1, .int x1), (2, .int x2), (3, .int (gM s34 9 1)), (4, .int (0 : Int32))]) hl [1, 2, 3, 4, 0] rfl
  exact lab12 x1 x2 (gM s34 9 1) fuelN (0 : Int32) s34 H locs ls hf h (lv_sub hl [0, 1, 2, 3, 4] rfl)

set_option maxHeartbeats 8000000 in
set_option maxRecDepth 100000 in
theorem c_Reader_takeVotes (l : Launch) (Z : ZT) (Q : Nat → Nat) (s : XS) {r : Int32} {s' : XS} (hf : p_Reader_takeVotes s = some (r, s')) : KI l Z (wX Z Q) yX5_takeVotes wsX5_takeVotes { frames := 6, cells := 0, slots := 0, locals := 129 } [.ref (Q 9)] s r s' := by
  intro sz
  refine met_entry (cc := cX5_takeVotes) (maxL := 2) (ret := (some .int)) (by decide) rfl (Nat.le_of_ble_eq_true rfl) sz rfl ?_
  generalize va_A (wX Z Q s) sz = A
  intro p e s0 m args below meth c ls F hr hlk h hl
  have hl : lv_has ls 2 [(0, .ref (Q 9))] := hl
  obtain ⟨hx, hb, hml, hown, hts⟩ := id F
  have hinX5 : ∀ w ∈ wsX50, w ∈ wsX5_takeVotes := by decide +kernel
  obtain ⟨H, eH⟩ : ∃ z, z = s0.heap := ⟨_, rfl⟩
  obtain ⟨locs, eL⟩ : ∃ z : List Loc, z = [] := ⟨_, rfl⟩
  rw [← eH, ← eL] at h ⊢
  unfold p_Reader_takeVotes at hf
  refine lv_aload_n hx hb dX5_takeVotes_0 rfl (lv_at hl 0 rfl) ?_
  obtain ⟨s3, hc1, hf⟩ := ob1 hf
  refine call_VV F (c_Reader_skipBlanks l Z Q s hc1) (cwV 0 hts gX5_takeVotes_X5_skipBlanks rfl rfl rfl (by decide +kernel) ⟨Nat.le_of_ble_eq_true rfl, Nat.le_of_ble_eq_true rfl⟩) h (rcX_Reader h) rfl hl.1 rfl (Nat.le_of_ble_eq_true rfl) ⟨Nat.zero_le _, Nat.zero_le _⟩ dX5_takeVotes_1 (fun H locs h => ?_)
  refine lv_aload_n hx hb dX5_takeVotes_4 rfl (lv_at hl 0 rfl) ?_
  refine gX_Reader_place F h hinX5 (hts (.fieldLink RX5 15 "ElectionHouse$Reader" "place" "I") (by decide +kernel)) dX5_takeVotes_5 ?_
  refine lv_istore_n (lv' := [(1, .int (gM s3 9 1)), (0, .ref (Q 9))]) hx hb dX5_takeVotes_8 rfl hl (by decide) rfl (fun ls hl => ?_)
  have hl := lv_sub (l' := [(0, .ref (Q 9)), (1, .int (gM s3 9 1))]) hl [1, 0] rfl
  refine lv_aload_n hx hb dX5_takeVotes_9 rfl (lv_at hl 0 rfl) ?_
  obtain ⟨r5, s6, hc4, hf⟩ := ob2 hf
  refine call_VI F (c_Reader_takeWord l Z Q s3 hc4) (cwV 0 hts gX5_takeVotes_X5_takeWord rfl rfl rfl (by decide +kernel) ⟨Nat.le_of_ble_eq_true rfl, Nat.le_of_ble_eq_true rfl⟩) h (rcX_Reader h) rfl hl.1 rfl (Nat.le_of_ble_eq_true rfl) ⟨Nat.zero_le _, Nat.zero_le _⟩ dX5_takeVotes_10 (fun H locs h => ?_)
  refine lv_iconst (v := (4 : Int32)) hx hb dX5_takeVotes_13 (by decide) ?_
  refine lv_icmp_eq (tgt := 26) hx hb dX5_takeVotes_14 (by decide) (fun c_7 => ?_) (fun c_7 => ?_)
  · have hf := ip c_7 hf
    refine lv_aload_n hx hb dX5_takeVotes_26 rfl (lv_at hl 0 rfl) ?_
    refine lv_bipush (v := (40 : Int32)) hx hb dX5_takeVotes_27 (by decide) ?_
    refine lv_aload_n hx hb dX5_takeVotes_29 rfl (lv_at hl 0 rfl) ?_
    refine gX_Reader_bodyByText F h hinX5 (hts (.fieldLink RX5 19 "ElectionHouse$Reader" "bodyByText" "I") (by decide +kernel)) dX5_takeVotes_30 ?_
    obtain ⟨r9, s10, hc8, hf⟩ := ob2 hf
    refine call_VI F (c_Reader_takeNumber l Z Q s6 (40 : Int32) (gM s6 9 2) hc8) (cwV 2 hts gX5_takeVotes_X5_takeNumber rfl rfl rfl (by decide +kernel) ⟨Nat.le_of_ble_eq_true rfl, Nat.le_of_ble_eq_true rfl⟩) h (rcX_Reader h) rfl hl.1 rfl (Nat.le_of_ble_eq_true rfl) ⟨Nat.zero_le _, Nat.zero_le _⟩ dX5_takeVotes_33 (fun H locs h => ?_)
    exact retE_I F hr hlk h hf dX5_takeVotes_36
  · have hf := im c_7 hf
    refine lv_aload_n hx hb dX5_takeVotes_17 rfl (lv_at hl 0 rfl) ?_
    refine lv_iload_n hx hb dX5_takeVotes_18 rfl (lv_at hl 1 rfl) ?_
    refine lv_iconst (v := (0 : Int32)) hx hb dX5_takeVotes_19 (by decide) ?_
    obtain ⟨r12, s13, hc11, hf⟩ := ob2 hf
    refine call_VI F (c_Reader_fail l Z Q s6 (gM s3 9 1) (0 : Int32) hc11) (cwV 2 hts gX5_takeVotes_X5_fail rfl rfl rfl (by decide +kernel) ⟨Nat.le_of_ble_eq_true rfl, Nat.le_of_ble_eq_true rfl⟩) h (rcX_Reader h) rfl hl.1 rfl (Nat.le_of_ble_eq_true rfl) ⟨Nat.zero_le _, Nat.zero_le _⟩ dX5_takeVotes_20 (fun H locs h => ?_)
    refine lv_pop hx hb dX5_takeVotes_23 rfl ?_
    refine lv_iconst (v := (0 : Int32)) hx hb dX5_takeVotes_24 (by decide) ?_
    exact retE_I F hr hlk h hf dX5_takeVotes_25

set_option maxHeartbeats 8000000 in
set_option maxRecDepth 100000 in
theorem c_Reader_takeHouseLimit (l : Launch) (Z : ZT) (Q : Nat → Nat) (s : XS) {r : Int32} {s' : XS} (hf : p_Reader_takeHouseLimit s = some (r, s')) : KI l Z (wX Z Q) yX5_takeHouseLimit wsX5_takeHouseLimit { frames := 6, cells := 0, slots := 0, locals := 129 } [.ref (Q 9)] s r s' := by
  intro sz
  refine met_entry (cc := cX5_takeHouseLimit) (maxL := 2) (ret := (some .int)) (by decide) rfl (Nat.le_of_ble_eq_true rfl) sz rfl ?_
  generalize va_A (wX Z Q s) sz = A
  intro p e s0 m args below meth c ls F hr hlk h hl
  have hl : lv_has ls 2 [(0, .ref (Q 9))] := hl
  obtain ⟨hx, hb, hml, hown, hts⟩ := id F
  have hinX5 : ∀ w ∈ wsX50, w ∈ wsX5_takeHouseLimit := by decide +kernel
  obtain ⟨H, eH⟩ : ∃ z, z = s0.heap := ⟨_, rfl⟩
  obtain ⟨locs, eL⟩ : ∃ z : List Loc, z = [] := ⟨_, rfl⟩
  rw [← eH, ← eL] at h ⊢
  unfold p_Reader_takeHouseLimit at hf
  refine lv_aload_n hx hb dX5_takeHouseLimit_0 rfl (lv_at hl 0 rfl) ?_
  obtain ⟨s3, hc1, hf⟩ := ob1 hf
  refine call_VV F (c_Reader_skipBlanks l Z Q s hc1) (cwV 0 hts gX5_takeHouseLimit_X5_skipBlanks rfl rfl rfl (by decide +kernel) ⟨Nat.le_of_ble_eq_true rfl, Nat.le_of_ble_eq_true rfl⟩) h (rcX_Reader h) rfl hl.1 rfl (Nat.le_of_ble_eq_true rfl) ⟨Nat.zero_le _, Nat.zero_le _⟩ dX5_takeHouseLimit_1 (fun H locs h => ?_)
  refine lv_aload_n hx hb dX5_takeHouseLimit_4 rfl (lv_at hl 0 rfl) ?_
  refine gX_Reader_tape F h hinX5 (hts (.fieldLink RX5 9 "ElectionHouse$Reader" "tape" "LElectionHouse$Tape;") (by decide +kernel)) dX5_takeHouseLimit_5 ?_
  refine lv_aload_n hx hb dX5_takeHouseLimit_8 rfl (lv_at hl 0 rfl) ?_
  refine gX_Reader_place F h hinX5 (hts (.fieldLink RX5 15 "ElectionHouse$Reader" "place" "I") (by decide +kernel)) dX5_takeHouseLimit_9 ?_
  obtain ⟨r5, hc4, hf⟩ := ob1 hf
  refine call_VI F (c_Tape_at l Z Q s3 (gM s3 9 1) hc4) (cwV 1 hts gX5_takeHouseLimit_X8_at rfl rfl rfl (by decide +kernel) ⟨Nat.le_of_ble_eq_true rfl, Nat.le_of_ble_eq_true rfl⟩) h (rcX_Tape h) rfl hl.1 rfl (Nat.le_of_ble_eq_true rfl) ⟨Nat.zero_le _, Nat.zero_le _⟩ dX5_takeHouseLimit_12 (fun H locs h => ?_)
  obtain ⟨r8, hc7, hf⟩ := ob1 hf
  refine call_SI F (c_Reader_isLetter l Z (wX Z Q) s3 r5 hc7) (va_cwS 1 hts gX5_takeHouseLimit_X5_isLetter rfl rfl rfl (by decide +kernel) ⟨Nat.le_of_ble_eq_true rfl, Nat.le_of_ble_eq_true rfl⟩) h rfl hl.1 rfl (Nat.le_of_ble_eq_true rfl) ⟨Nat.zero_le _, Nat.zero_le _⟩ dX5_takeHouseLimit_15 (fun H locs h => ?_)
  refine lv_if_ne (tgt := 23) hx hb dX5_takeHouseLimit_18 (by decide) (fun c_10 => ?_) (fun c_10 => ?_)
  · have hf := im c_10 hf
    refine lv_aload_n hx hb dX5_takeHouseLimit_23 rfl (lv_at hl 0 rfl) ?_
    refine gX_Reader_place F h hinX5 (hts (.fieldLink RX5 15 "ElectionHouse$Reader" "place" "I") (by decide +kernel)) dX5_takeHouseLimit_24 ?_
    refine lv_istore_n (lv' := [(1, .int (gM s3 9 1)), (0, .ref (Q 9))]) hx hb dX5_takeHouseLimit_27 rfl hl (by decide) rfl (fun ls hl => ?_)
    have hl := lv_sub (l' := [(0, .ref (Q 9)), (1, .int (gM s3 9 1))]) hl [1, 0] rfl
    refine lv_aload_n hx hb dX5_takeHouseLimit_28 rfl (lv_at hl 0 rfl) ?_
    obtain ⟨r12, s13, hc11, hf⟩ := ob2 hf
    refine call_VI F (c_Reader_takeWord l Z Q s3 hc11) (cwV 0 hts gX5_takeHouseLimit_X5_takeWord rfl rfl rfl (by decide +kernel) ⟨Nat.le_of_ble_eq_true rfl, Nat.le_of_ble_eq_true rfl⟩) h (rcX_Reader h) rfl hl.1 rfl (Nat.le_of_ble_eq_true rfl) ⟨Nat.zero_le _, Nat.zero_le _⟩ dX5_takeHouseLimit_29 (fun H locs h => ?_)
    refine lv_iconst (v := (5 : Int32)) hx hb dX5_takeHouseLimit_32 (by decide) ?_
    refine lv_icmp_eq (tgt := 45) hx hb dX5_takeHouseLimit_33 (by decide) (fun c_14 => ?_) (fun c_14 => ?_)
    · have hf := ip c_14 hf
      refine lv_aload_n hx hb dX5_takeHouseLimit_45 rfl (lv_at hl 0 rfl) ?_
      refine lv_bipush (v := (9 : Int32)) hx hb dX5_takeHouseLimit_46 (by decide) ?_
      refine lv_bipush (v := (9 : Int32)) hx hb dX5_takeHouseLimit_48 (by decide) ?_
      obtain ⟨r16, s17, hc15, hf⟩ := ob2 hf
      refine call_VI F (c_Reader_takeNumber l Z Q s13 (9 : Int32) (9 : Int32) hc15) (cwV 2 hts gX5_takeHouseLimit_X5_takeNumber rfl rfl rfl (by decide +kernel) ⟨Nat.le_of_ble_eq_true rfl, Nat.le_of_ble_eq_true rfl⟩) h (rcX_Reader h) rfl hl.1 rfl (Nat.le_of_ble_eq_true rfl) ⟨Nat.zero_le _, Nat.zero_le _⟩ dX5_takeHouseLimit_50 (fun H locs h => ?_)
      exact retE_I F hr hlk h hf dX5_takeHouseLimit_53
    · have hf := im c_14 hf
      refine lv_aload_n hx hb dX5_takeHouseLimit_36 rfl (lv_at hl 0 rfl) ?_
      refine lv_iload_n hx hb dX5_takeHouseLimit_37 rfl (lv_at hl 1 rfl) ?_
      refine lv_iconst (v := (0 : Int32)) hx hb dX5_takeHouseLimit_38 (by decide) ?_
      obtain ⟨r19, s20, hc18, hf⟩ := ob2 hf
      refine call_VI F (c_Reader_fail l Z Q s13 (gM s3 9 1) (0 : Int32) hc18) (cwV 2 hts gX5_takeHouseLimit_X5_fail rfl rfl rfl (by decide +kernel) ⟨Nat.le_of_ble_eq_true rfl, Nat.le_of_ble_eq_true rfl⟩) h (rcX_Reader h) rfl hl.1 rfl (Nat.le_of_ble_eq_true rfl) ⟨Nat.zero_le _, Nat.zero_le _⟩ dX5_takeHouseLimit_39 (fun H locs h => ?_)
      refine lv_pop hx hb dX5_takeHouseLimit_42 rfl ?_
      refine lv_iconst (v := (0 : Int32)) hx hb dX5_takeHouseLimit_43 (by decide) ?_
      exact retE_I F hr hlk h hf dX5_takeHouseLimit_44
  · have hf := ip c_10 hf
    refine lv_iconst (v := (0 : Int32)) hx hb dX5_takeHouseLimit_21 (by decide) ?_
    exact retE_I F hr hlk h hf dX5_takeHouseLimit_22

set_option maxHeartbeats 8000000 in
set_option maxRecDepth 100000 in
theorem c_Reader_takeEnd (l : Launch) (Z : ZT) (Q : Nat → Nat) (s : XS) {r : Int32} {s' : XS} (hf : p_Reader_takeEnd s = some (r, s')) : KI l Z (wX Z Q) yX5_takeEnd wsX5_takeEnd { frames := 2, cells := 0, slots := 0, locals := 41 } [.ref (Q 9)] s r s' := by
  intro sz
  refine met_entry (cc := cX5_takeEnd) (maxL := 1) (ret := (some .boolean)) (by decide) rfl (Nat.le_of_ble_eq_true rfl) sz rfl ?_
  generalize va_A (wX Z Q s) sz = A
  intro p e s0 m args below meth c ls F hr hlk h hl
  have hl : lv_has ls 1 [(0, .ref (Q 9))] := hl
  obtain ⟨hx, hb, hml, hown, hts⟩ := id F
  have hinX5 : ∀ w ∈ wsX50, w ∈ wsX5_takeEnd := by decide +kernel
  obtain ⟨H, eH⟩ : ∃ z, z = s0.heap := ⟨_, rfl⟩
  obtain ⟨locs, eL⟩ : ∃ z : List Loc, z = [] := ⟨_, rfl⟩
  rw [← eH, ← eL] at h ⊢
  unfold p_Reader_takeEnd at hf
  refine lv_aload_n hx hb dX5_takeEnd_0 rfl (lv_at hl 0 rfl) ?_
  obtain ⟨s3, hc1, hf⟩ := ob1 hf
  refine call_VV F (c_Reader_skipBlanks l Z Q s hc1) (cwV 0 hts gX5_takeEnd_X5_skipBlanks rfl rfl rfl (by decide +kernel) ⟨Nat.le_of_ble_eq_true rfl, Nat.le_of_ble_eq_true rfl⟩) h (rcX_Reader h) rfl hl.1 rfl (Nat.le_of_ble_eq_true rfl) ⟨Nat.zero_le _, Nat.zero_le _⟩ dX5_takeEnd_1 (fun H locs h => ?_)
  refine lv_aload_n hx hb dX5_takeEnd_4 rfl (lv_at hl 0 rfl) ?_
  refine gX_Reader_place F h hinX5 (hts (.fieldLink RX5 15 "ElectionHouse$Reader" "place" "I") (by decide +kernel)) dX5_takeEnd_5 ?_
  refine lv_aload_n hx hb dX5_takeEnd_8 rfl (lv_at hl 0 rfl) ?_
  refine gX_Reader_tape F h hinX5 (hts (.fieldLink RX5 9 "ElectionHouse$Reader" "tape" "LElectionHouse$Tape;") (by decide +kernel)) dX5_takeEnd_9 ?_
  obtain ⟨r5, hc4, hf⟩ := ob1 hf
  refine call_VI F (c_Tape_length l Z Q s3 hc4) (cwV 0 hts gX5_takeEnd_X8_length rfl rfl rfl (by decide +kernel) ⟨Nat.le_of_ble_eq_true rfl, Nat.le_of_ble_eq_true rfl⟩) h (rcX_Tape h) rfl hl.1 rfl (Nat.le_of_ble_eq_true rfl) ⟨Nat.zero_le _, Nat.zero_le _⟩ dX5_takeEnd_12 (fun H locs h => ?_)
  refine lv_icmp_ge (tgt := 34) hx hb dX5_takeEnd_15 (by decide) (fun c_7 => ?_) (fun c_7 => ?_)
  · have hf := ip c_7 hf
    refine lv_iconst (v := (0 : Int32)) hx hb dX5_takeEnd_34 (by decide) ?_
    exact retE_Z F hr hlk (by decide) h hf dX5_takeEnd_35
  · have hf := im c_7 hf
    refine lv_aload_n hx hb dX5_takeEnd_18 rfl (lv_at hl 0 rfl) ?_
    refine lv_aload_n hx hb dX5_takeEnd_19 rfl (lv_at hl 0 rfl) ?_
    refine gX_Reader_place F h hinX5 (hts (.fieldLink RX5 15 "ElectionHouse$Reader" "place" "I") (by decide +kernel)) dX5_takeEnd_20 ?_
    refine lv_iconst (v := (0 : Int32)) hx hb dX5_takeEnd_23 (by decide) ?_
    obtain ⟨r9, s10, hc8, hf⟩ := ob2 hf
    refine call_VI F (c_Reader_fail l Z Q s3 (gM s3 9 1) (0 : Int32) hc8) (cwV 2 hts gX5_takeEnd_X5_fail rfl rfl rfl (by decide +kernel) ⟨Nat.le_of_ble_eq_true rfl, Nat.le_of_ble_eq_true rfl⟩) h (rcX_Reader h) rfl hl.1 rfl (Nat.le_of_ble_eq_true rfl) ⟨Nat.zero_le _, Nat.zero_le _⟩ dX5_takeEnd_24 (fun H locs h => ?_)
    refine lv_if_eq (tgt := 34) hx hb dX5_takeEnd_27 (by decide) (fun c_11 => ?_) (fun c_11 => ?_)
    · have hf := ip c_11 hf
      refine lv_iconst (v := (0 : Int32)) hx hb dX5_takeEnd_34 (by decide) ?_
      exact retE_Z F hr hlk (by decide) h hf dX5_takeEnd_35
    · have hf := im c_11 hf
      refine lv_iconst (v := (1 : Int32)) hx hb dX5_takeEnd_30 (by decide) ?_
      refine lv_goto (tgt := 35) hx hb dX5_takeEnd_31 (by decide) ?_
      exact retE_Z F hr hlk (by decide) h hf dX5_takeEnd_35

set_option maxHeartbeats 8000000 in
set_option maxRecDepth 100000 in
theorem c_Reader_takeSemicolon (l : Launch) (Z : ZT) (Q : Nat → Nat) (s : XS) {r : Int32} {s' : XS} (hf : p_Reader_takeSemicolon s = some (r, s')) : KI l Z (wX Z Q) yX5_takeSemicolon wsX5_takeSemicolon { frames := 2, cells := 0, slots := 0, locals := 41 } [.ref (Q 9)] s r s' := by
  intro sz
  refine met_entry (cc := cX5_takeSemicolon) (maxL := 1) (ret := (some .boolean)) (by decide) rfl (Nat.le_of_ble_eq_true rfl) sz rfl ?_
  generalize va_A (wX Z Q s) sz = A
  intro p e s0 m args below meth c ls F hr hlk h hl
  have hl : lv_has ls 1 [(0, .ref (Q 9))] := hl
  obtain ⟨hx, hb, hml, hown, hts⟩ := id F
  have hinX5 : ∀ w ∈ wsX50, w ∈ wsX5_takeSemicolon := by decide +kernel
  obtain ⟨H, eH⟩ : ∃ z, z = s0.heap := ⟨_, rfl⟩
  obtain ⟨locs, eL⟩ : ∃ z : List Loc, z = [] := ⟨_, rfl⟩
  rw [← eH, ← eL] at h ⊢
  unfold p_Reader_takeSemicolon at hf
  refine lv_aload_n hx hb dX5_takeSemicolon_0 rfl (lv_at hl 0 rfl) ?_
  obtain ⟨s3, hc1, hf⟩ := ob1 hf
  refine call_VV F (c_Reader_skipBlanks l Z Q s hc1) (cwV 0 hts gX5_takeSemicolon_X5_skipBlanks rfl rfl rfl (by decide +kernel) ⟨Nat.le_of_ble_eq_true rfl, Nat.le_of_ble_eq_true rfl⟩) h (rcX_Reader h) rfl hl.1 rfl (Nat.le_of_ble_eq_true rfl) ⟨Nat.zero_le _, Nat.zero_le _⟩ dX5_takeSemicolon_1 (fun H locs h => ?_)
  refine lv_aload_n hx hb dX5_takeSemicolon_4 rfl (lv_at hl 0 rfl) ?_
  refine gX_Reader_tape F h hinX5 (hts (.fieldLink RX5 9 "ElectionHouse$Reader" "tape" "LElectionHouse$Tape;") (by decide +kernel)) dX5_takeSemicolon_5 ?_
  refine lv_aload_n hx hb dX5_takeSemicolon_8 rfl (lv_at hl 0 rfl) ?_
  refine gX_Reader_place F h hinX5 (hts (.fieldLink RX5 15 "ElectionHouse$Reader" "place" "I") (by decide +kernel)) dX5_takeSemicolon_9 ?_
  obtain ⟨r5, hc4, hf⟩ := ob1 hf
  refine call_VI F (c_Tape_at l Z Q s3 (gM s3 9 1) hc4) (cwV 1 hts gX5_takeSemicolon_X8_at rfl rfl rfl (by decide +kernel) ⟨Nat.le_of_ble_eq_true rfl, Nat.le_of_ble_eq_true rfl⟩) h (rcX_Tape h) rfl hl.1 rfl (Nat.le_of_ble_eq_true rfl) ⟨Nat.zero_le _, Nat.zero_le _⟩ dX5_takeSemicolon_12 (fun H locs h => ?_)
  refine lv_bipush (v := (59 : Int32)) hx hb dX5_takeSemicolon_15 (by decide) ?_
  refine lv_icmp_eq (tgt := 30) hx hb dX5_takeSemicolon_17 (by decide) (fun c_7 => ?_) (fun c_7 => ?_)
  · have hf := ip c_7 hf
    refine lv_aload_n hx hb dX5_takeSemicolon_30 rfl (lv_at hl 0 rfl) ?_
    refine lv_dup hx hb dX5_takeSemicolon_31 rfl ?_
    refine gX_Reader_place F h hinX5 (hts (.fieldLink RX5 15 "ElectionHouse$Reader" "place" "I") (by decide +kernel)) dX5_takeSemicolon_32 ?_
    refine lv_iconst (v := (1 : Int32)) hx hb dX5_takeSemicolon_35 (by decide) ?_
    refine lv_iadd hx hb dX5_takeSemicolon_36 ?_
    refine pX_Reader_place F h hinX5 (hts (.fieldLink RX5 15 "ElectionHouse$Reader" "place" "I") (by decide +kernel)) dX5_takeSemicolon_37 (fun H locs h => ?_)
    obtain ⟨s8, es, hf⟩ := olq hf
    rw [← es] at h
    refine lv_iconst (v := (1 : Int32)) hx hb dX5_takeSemicolon_40 (by decide) ?_
    exact retE_Z F hr hlk (by decide) h hf dX5_takeSemicolon_41
  · have hf := im c_7 hf
    refine lv_aload_n hx hb dX5_takeSemicolon_20 rfl (lv_at hl 0 rfl) ?_
    refine lv_aload_n hx hb dX5_takeSemicolon_21 rfl (lv_at hl 0 rfl) ?_
    refine gX_Reader_place F h hinX5 (hts (.fieldLink RX5 15 "ElectionHouse$Reader" "place" "I") (by decide +kernel)) dX5_takeSemicolon_22 ?_
    refine lv_iconst (v := (0 : Int32)) hx hb dX5_takeSemicolon_25 (by decide) ?_
    obtain ⟨r10, s11, hc9, hf⟩ := ob2 hf
    refine call_VI F (c_Reader_fail l Z Q s3 (gM s3 9 1) (0 : Int32) hc9) (cwV 2 hts gX5_takeSemicolon_X5_fail rfl rfl rfl (by decide +kernel) ⟨Nat.le_of_ble_eq_true rfl, Nat.le_of_ble_eq_true rfl⟩) h (rcX_Reader h) rfl hl.1 rfl (Nat.le_of_ble_eq_true rfl) ⟨Nat.zero_le _, Nat.zero_le _⟩ dX5_takeSemicolon_26 (fun H locs h => ?_)
    obtain ⟨gz, hf⟩ := og hf
    exact retE_Z F hr hlk gz h hf dX5_takeSemicolon_29

set_option maxHeartbeats 8000000 in
set_option maxRecDepth 100000 in
theorem c_Reader_readStep (l : Launch) (Z : ZT) (Q : Nat → Nat) (s : XS) (k1 : Nat) (x2 : Int32) (hk1 : k1 < 2) {r : Int32} {s' : XS} (hf : p_Reader_readStep k1 x2 s = some (r, s')) : KI l Z (wX Z Q) yX5_readStep wsX5_readStep { frames := 7, cells := 0, slots := 0, locals := 150 } [.ref (Q 9), .ref (Q (19 + 5 * k1)), .int x2] s r s' := by
  intro sz
  refine met_entry (cc := cX5_readStep) (maxL := 10) (ret := (some .boolean)) (by decide) rfl (Nat.le_of_ble_eq_true rfl) sz rfl ?_
  generalize va_A (wX Z Q s) sz = A
  intro p e s0 m args below meth c ls F hr hlk h hl
  have hl : lv_has ls 10 [(0, .ref (Q 9)), (1, .ref (Q (19 + 5 * k1))), (2, .int x2)] := hl
  obtain ⟨hx, hb, hml, hown, hts⟩ := id F
  have hinX5 : ∀ w ∈ wsX50, w ∈ wsX5_readStep := by decide +kernel
  obtain ⟨H, eH⟩ : ∃ z, z = s0.heap := ⟨_, rfl⟩
  obtain ⟨locs, eL⟩ : ∃ z : List Loc, z = [] := ⟨_, rfl⟩
  rw [← eH, ← eL] at h ⊢
  unfold p_Reader_readStep at hf
  have lab42 : ∀ (k1 : Nat) (x2 : Int32) (x3 : Int32) (x4 : Int32) (t0 : Int32) (s : XS) (H : Heap) (locs : List Loc) (ls : Array Slot), k1 < 2 → p_Reader_readStep_K42 k1 x2 x3 x4 t0 s = some (r, s') → HW Z (wX Z Q) A s0 H locs s → lv_has ls 10 [(0, .ref (Q 9)), (1, .ref (Q (19 + 5 * k1))), (2, .int x2), (3, .int x3), (4, .int x4)] → W p l e { frames := 7, cells := 0, slots := 0, locals := 150 } s0 m args below meth c H locs 0 0 (MQ below (QcI Z (wX Z Q) A r s') args s0 0 0 A) (F0 m 42 ls [.int t0]) := by
    intro k1 x2 x3 x4 t0 s H locs ls hk1 hf h hl
    unfold p_Reader_readStep_K42 at hf
    have lab104 : ∀ (k1 : Nat) (x4 : Int32) (t0 : Int32) (s : XS) (H : Heap) (locs : List Loc) (ls : Array Slot), k1 < 2 → p_Reader_readStep_K104 k1 x4 t0 s = some (r, s') → HW Z (wX Z Q) A s0 H locs s → lv_has ls 10 [(0, .ref (Q 9)), (1, .ref (Q (19 + 5 * k1))), (4, .int x4)] → W p l e { frames := 7, cells := 0, slots := 0, locals := 150 } s0 m args below meth c H locs 0 0 (MQ below (QcI Z (wX Z Q) A r s') args s0 0 0 A) (F0 m 104 ls [.int t0]) := by
      intro k1 x4 t0 s H locs ls hk1 hf h hl
      unfold p_Reader_readStep_K104 at hf
      have lab120 : ∀ (k1 : Nat) (x4 : Int32) (x6 : Int32) (t0 : Int32) (s : XS) (H : Heap) (locs : List Loc) (ls : Array Slot), k1 < 2 → p_Reader_readStep_K120 k1 x4 x6 t0 s = some (r, s') → HW Z (wX Z Q) A s0 H locs s → lv_has ls 10 [(0, .ref (Q 9)), (1, .ref (Q (19 + 5 * k1))), (4, .int x4), (6, .int x6)] → W p l e { frames := 7, cells := 0, slots := 0, locals := 150 } s0 m args below meth c H locs 0 0 (MQ below (QcI Z (wX Z Q) A r s') args s0 0 0 A) (F0 m 120 ls [.int t0]) := by
        intro k1 x4 x6 t0 s H locs ls hk1 hf h hl
        unfold p_Reader_readStep_K120 at hf
        have lab136 : ∀ (k1 : Nat) (x4 : Int32) (x6 : Int32) (x7 : Int32) (t0 : Int32) (s : XS) (H : Heap) (locs : List Loc) (ls : Array Slot), k1 < 2 → p_Reader_readStep_K136 k1 x4 x6 x7 t0 s = some (r, s') → HW Z (wX Z Q) A s0 H locs s → lv_has ls 10 [(0, .ref (Q 9)), (1, .ref (Q (19 + 5 * k1))), (4, .int x4), (6, .int x6), (7, .int x7)] → W p l e { frames := 7, cells := 0, slots := 0, locals := 150 } s0 m args below meth c H locs 0 0 (MQ below (QcI Z (wX Z Q) A r s') args s0 0 0 A) (F0 m 136 ls [.int t0]) := by
          intro k1 x4 x6 x7 t0 s H locs ls hk1 hf h hl
          unfold p_Reader_readStep_K136 at hf
          have lab155 : ∀ (k1 : Nat) (x4 : Int32) (x6 : Int32) (x7 : Int32) (x8 : Int32) (t0 : Int32) (s : XS) (H : Heap) (locs : List Loc) (ls : Array Slot), k1 < 2 → p_Reader_readStep_K155 k1 x4 x6 x7 x8 t0 s = some (r, s') → HW Z (wX Z Q) A s0 H locs s → lv_has ls 10 [(0, .ref (Q 9)), (1, .ref (Q (19 + 5 * k1))), (4, .int x4), (6, .int x6), (7, .int x7), (8, .int x8)] → W p l e { frames := 7, cells := 0, slots := 0, locals := 150 } s0 m args below meth c H locs 0 0 (MQ below (QcI Z (wX Z Q) A r s') args s0 0 0 A) (F0 m 155 ls [.int t0]) := by
            intro k1 x4 x6 x7 x8 t0 s H locs ls hk1 hf h hl
            unfold p_Reader_readStep_K155 at hf
            refine lv_istore (lv' := [(9, .int t0), (0, .ref (Q 9)), (1, .ref (Q (19 + 5 * k1))), (4, .int x4), (6, .int x6), (7, .int x7), (8, .int x8)]) hx hb dX5_readStep_155 hl (by decide) rfl (fun ls hl => ?_)
            have hl := lv_sub (l' := [(0, .ref (Q 9)), (1, .ref (Q (19 + 5 * k1))), (4, .int x4), (6, .int x6), (7, .int x7), (8, .int x8), (9, .int t0)]) hl [1, 2, 3, 4, 5, 6, 0] rfl
            refine lv_aload_n hx hb dX5_readStep_157 rfl (lv_at hl 0 rfl) ?_
            refine gX_Reader_fault F h hinX5 (hts (.fieldLink RX5 22 "ElectionHouse$Reader" "fault" "I") (by decide +kernel)) dX5_readStep_158 ?_
            refine lv_if_eq (tgt := 166) hx hb dX5_readStep_161 (by decide) (fun c_1 => ?_) (fun c_1 => ?_)
            · have hf := ip c_1 hf
              refine lv_aload_n hx hb dX5_readStep_166 rfl (lv_at hl 1 rfl) ?_
              refine lv_iload hx hb dX5_readStep_167 (lv_at hl 2 rfl) ?_
              refine lv_iload hx hb dX5_readStep_169 (lv_at hl 3 rfl) ?_
              refine lv_iload hx hb dX5_readStep_171 (lv_at hl 4 rfl) ?_
              refine lv_iload hx hb dX5_readStep_173 (lv_at hl 5 rfl) ?_
              obtain ⟨s4, hc2, hf⟩ := ob1 hf
              refine call_VV F (c_Plan_add l Z Q s k1 x4 x6 x7 x8 hk1 hc2) (cwV 4 hts gX5_readStep_X3_add rfl rfl rfl (by decide +kernel) ⟨Nat.le_of_ble_eq_true rfl, Nat.le_of_ble_eq_true rfl⟩) h (rcX_Plan hk1 h) rfl hl.1 rfl (Nat.le_of_ble_eq_true rfl) ⟨Nat.zero_le _, Nat.zero_le _⟩ dX5_readStep_175 (fun H locs h => ?_)
              refine lv_aload_n hx hb dX5_readStep_178 rfl (lv_at hl 0 rfl) ?_
              refine lv_iload hx hb dX5_readStep_179 (lv_at hl 3 rfl) ?_
              refine pX_Reader_bodyByText F h hinX5 (hts (.fieldLink RX5 19 "ElectionHouse$Reader" "bodyByText" "I") (by decide +kernel)) dX5_readStep_181 (fun H locs h => ?_)
              obtain ⟨s5, es, hf⟩ := olq hf
              rw [← es] at h
              refine lv_iload hx hb dX5_readStep_184 (lv_at hl 6 rfl) ?_
              obtain ⟨gz, hf⟩ := og hf
              exact retE_Z F hr hlk gz h hf dX5_readStep_186
            · have hf := im c_1 hf
              refine lv_iconst (v := (0 : Int32)) hx hb dX5_readStep_164 (by decide) ?_
              exact retE_Z F hr hlk (by decide) h hf dX5_readStep_165
          refine lv_istore (lv' := [(8, .int t0), (0, .ref (Q 9)), (1, .ref (Q (19 + 5 * k1))), (4, .int x4), (6, .int x6), (7, .int x7)]) hx hb dX5_readStep_136 hl (by decide) rfl (fun ls hl => ?_)
          have hl := lv_sub (l' := [(0, .ref (Q 9)), (1, .ref (Q (19 + 5 * k1))), (4, .int x4), (6, .int x6), (7, .int x7), (8, .int t0)]) hl [1, 2, 3, 4, 5, 0] rfl
          refine lv_iload hx hb dX5_readStep_138 (lv_at hl 2 rfl) ?_
          refine lv_iconst (v := (3 : Int32)) hx hb dX5_readStep_140 (by decide) ?_
          refine lv_icmp_ne (tgt := 151) hx hb dX5_readStep_141 (by decide) (fun c_6 => ?_) (fun c_6 => ?_)
          · have hf := im c_6 hf
            refine lv_aload_n hx hb dX5_readStep_151 rfl (lv_at hl 0 rfl) ?_
            obtain ⟨r8, s9, hc7, hf⟩ := ob2 hf
            refine call_VI F (c_Reader_takeSemicolon l Z Q s hc7) (cwV 0 hts gX5_readStep_X5_takeSemicolon rfl rfl rfl (by decide +kernel) ⟨Nat.le_of_ble_eq_true rfl, Nat.le_of_ble_eq_true rfl⟩) h (rcX_Reader h) rfl hl.1 rfl (Nat.le_of_ble_eq_true rfl) ⟨Nat.zero_le _, Nat.zero_le _⟩ dX5_readStep_152 (fun H locs h => ?_)
            exact lab155 k1 x4 x6 x7 t0 r8 s9 H locs ls hk1 hf h (lv_sub hl [0, 1, 2, 3, 4, 5] rfl)
          · have hf := ip c_6 hf
            refine lv_aload_n hx hb dX5_readStep_144 rfl (lv_at hl 0 rfl) ?_
            obtain ⟨r11, s12, hc10, hf⟩ := ob2 hf
            refine call_VI F (c_Reader_takeEnd l Z Q s hc10) (cwV 0 hts gX5_readStep_X5_takeEnd rfl rfl rfl (by decide +kernel) ⟨Nat.le_of_ble_eq_true rfl, Nat.le_of_ble_eq_true rfl⟩) h (rcX_Reader h) rfl hl.1 rfl (Nat.le_of_ble_eq_true rfl) ⟨Nat.zero_le _, Nat.zero_le _⟩ dX5_readStep_145 (fun H locs h => ?_)
            refine lv_goto (tgt := 155) hx hb dX5_readStep_148 (by decide) ?_
            exact lab155 k1 x4 x6 x7 t0 r11 s12 H locs ls hk1 hf h (lv_sub hl [0, 1, 2, 3, 4, 5] rfl)
        refine lv_istore (lv' := [(7, .int t0), (0, .ref (Q 9)), (1, .ref (Q (19 + 5 * k1))), (4, .int x4), (6, .int x6)]) hx hb dX5_readStep_120 hl (by decide) rfl (fun ls hl => ?_)
        have hl := lv_sub (l' := [(0, .ref (Q 9)), (1, .ref (Q (19 + 5 * k1))), (4, .int x4), (6, .int x6), (7, .int t0)]) hl [1, 2, 3, 4, 0] rfl
        refine lv_iload hx hb dX5_readStep_122 (lv_at hl 2 rfl) ?_
        refine lv_iconst (v := (2 : Int32)) hx hb dX5_readStep_124 (by decide) ?_
        refine lv_icmp_ne (tgt := 135) hx hb dX5_readStep_125 (by decide) (fun c_13 => ?_) (fun c_13 => ?_)
        · have hf := im c_13 hf
          refine lv_iconst (v := (0 : Int32)) hx hb dX5_readStep_135 (by decide) ?_
          exact lab136 k1 x4 x6 t0 (0 : Int32) s H locs ls hk1 hf h (lv_sub hl [0, 1, 2, 3, 4] rfl)
        · have hf := ip c_13 hf
          refine lv_aload_n hx hb dX5_readStep_128 rfl (lv_at hl 0 rfl) ?_
          obtain ⟨r15, s16, hc14, hf⟩ := ob2 hf
          refine call_VI F (c_Reader_takeHouseLimit l Z Q s hc14) (cwV 0 hts gX5_readStep_X5_takeHouseLimit rfl rfl rfl (by decide +kernel) ⟨Nat.le_of_ble_eq_true rfl, Nat.le_of_ble_eq_true rfl⟩) h (rcX_Reader h) rfl hl.1 rfl (Nat.le_of_ble_eq_true rfl) ⟨Nat.zero_le _, Nat.zero_le _⟩ dX5_readStep_129 (fun H locs h => ?_)
          refine lv_goto (tgt := 136) hx hb dX5_readStep_132 (by decide) ?_
          exact lab136 k1 x4 x6 t0 r15 s16 H locs ls hk1 hf h (lv_sub hl [0, 1, 2, 3, 4] rfl)
      refine lv_istore (lv' := [(6, .int t0), (0, .ref (Q 9)), (1, .ref (Q (19 + 5 * k1))), (4, .int x4)]) hx hb dX5_readStep_104 hl (by decide) rfl (fun ls hl => ?_)
      have hl := lv_sub (l' := [(0, .ref (Q 9)), (1, .ref (Q (19 + 5 * k1))), (4, .int x4), (6, .int t0)]) hl [1, 2, 3, 0] rfl
      refine lv_iload hx hb dX5_readStep_106 (lv_at hl 2 rfl) ?_
      refine lv_iconst (v := (1 : Int32)) hx hb dX5_readStep_108 (by decide) ?_
      refine lv_icmp_ne (tgt := 116) hx hb dX5_readStep_109 (by decide) (fun c_17 => ?_) (fun c_17 => ?_)
      · have hf := im c_17 hf
        refine lv_aload_n hx hb dX5_readStep_116 rfl (lv_at hl 0 rfl) ?_
        obtain ⟨r19, s20, hc18, hf⟩ := ob2 hf
        refine call_VI F (c_Reader_takeVotes l Z Q s hc18) (cwV 0 hts gX5_readStep_X5_takeVotes rfl rfl rfl (by decide +kernel) ⟨Nat.le_of_ble_eq_true rfl, Nat.le_of_ble_eq_true rfl⟩) h (rcX_Reader h) rfl hl.1 rfl (Nat.le_of_ble_eq_true rfl) ⟨Nat.zero_le _, Nat.zero_le _⟩ dX5_readStep_117 (fun H locs h => ?_)
        exact lab120 k1 x4 t0 r19 s20 H locs ls hk1 hf h (lv_sub hl [0, 1, 2, 3] rfl)
      · have hf := ip c_17 hf
        refine lv_iconst (v := (0 : Int32)) hx hb dX5_readStep_112 (by decide) ?_
        refine lv_goto (tgt := 120) hx hb dX5_readStep_113 (by decide) ?_
        exact lab120 k1 x4 t0 (0 : Int32) s H locs ls hk1 hf h (lv_sub hl [0, 1, 2, 3] rfl)
    have lab101 : ∀ (k1 : Nat) (x4 : Int32) (t0 : Int32) (t1 : Int32) (s : XS) (H : Heap) (locs : List Loc) (ls : Array Slot), k1 < 2 → p_Reader_readStep_K101 k1 x4 t0 t1 s = some (r, s') → HW Z (wX Z Q) A s0 H locs s → lv_has ls 10 [(0, .ref (Q 9)), (1, .ref (Q (19 + 5 * k1))), (4, .int x4)] → W p l e { frames := 7, cells := 0, slots := 0, locals := 150 } s0 m args below meth c H locs 0 0 (MQ below (QcI Z (wX Z Q) A r s') args s0 0 0 A) (F0 m 101 ls [.int t0, .int t1, .ref (Q 9)]) := by
      intro k1 x4 t0 t1 s H locs ls hk1 hf h hl
      unfold p_Reader_readStep_K101 at hf
      obtain ⟨r22, s23, hc21, hf⟩ := ob2 hf
      refine call_VI F (c_Reader_takeNumber l Z Q s t1 t0 hc21) (cwV 2 hts gX5_readStep_X5_takeNumber rfl rfl rfl (by decide +kernel) ⟨Nat.le_of_ble_eq_true rfl, Nat.le_of_ble_eq_true rfl⟩) h (rcX_Reader h) rfl hl.1 rfl (Nat.le_of_ble_eq_true rfl) ⟨Nat.zero_le _, Nat.zero_le _⟩ dX5_readStep_101 (fun H locs h => ?_)
      exact lab104 k1 x4 r22 s23 H locs ls hk1 hf h (lv_sub hl [0, 1, 2] rfl)
    refine lv_istore (lv' := [(5, .int t0), (0, .ref (Q 9)), (1, .ref (Q (19 + 5 * k1))), (2, .int x2), (3, .int x3), (4, .int x4)]) hx hb dX5_readStep_42 hl (by decide) rfl (fun ls hl => ?_)
    have hl := lv_sub (l' := [(0, .ref (Q 9)), (1, .ref (Q (19 + 5 * k1))), (2, .int x2), (3, .int x3), (4, .int x4), (5, .int t0)]) hl [1, 2, 3, 4, 5, 0] rfl
    refine lv_iload hx hb dX5_readStep_44 (lv_at hl 5 rfl) ?_
    refine lv_if_ne (tgt := 56) hx hb dX5_readStep_46 (by decide) (fun c_24 => ?_) (fun c_24 => ?_)
    · have hf := im c_24 hf
      refine lv_iload_n hx hb dX5_readStep_56 rfl (lv_at hl 2 rfl) ?_
      refine lv_bipush (v := (12 : Int32)) hx hb dX5_readStep_57 (by decide) ?_
      refine lv_icmp_lt (tgt := 69) hx hb dX5_readStep_59 (by decide) (fun c_25 => ?_) (fun c_25 => ?_)
      · have hf := ip c_25 hf
        refine lv_iload hx hb dX5_readStep_69 (lv_at hl 4 rfl) ?_
        refine lv_iconst (v := (3 : Int32)) hx hb dX5_readStep_71 (by decide) ?_
        refine lv_icmp_ne (tgt := 79) hx hb dX5_readStep_72 (by decide) (fun c_26 => ?_) (fun c_26 => ?_)
        · have hf := im c_26 hf
          refine lv_aload_n hx hb dX5_readStep_79 rfl (lv_at hl 0 rfl) ?_
          refine lv_bipush (v := (40 : Int32)) hx hb dX5_readStep_80 (by decide) ?_
          refine lv_iload hx hb dX5_readStep_82 (lv_at hl 4 rfl) ?_
          refine lv_iconst (v := (1 : Int32)) hx hb dX5_readStep_84 (by decide) ?_
          refine lv_icmp_ne (tgt := 99) hx hb dX5_readStep_85 (by decide) (fun c_27 => ?_) (fun c_27 => ?_)
          · have hf := im c_27 hf
            refine lv_bipush (v := (40 : Int32)) hx hb dX5_readStep_99 (by decide) ?_
            exact lab101 k1 x4 (40 : Int32) (40 : Int32) s H locs ls hk1 hf h (lv_sub hl [0, 1, 4] rfl)
          · have hf := ip c_27 hf
            refine lv_iload_n hx hb dX5_readStep_88 rfl (lv_at hl 2 rfl) ?_
            refine lv_if_le (tgt := 99) hx hb dX5_readStep_89 (by decide) (fun c_28 => ?_) (fun c_28 => ?_)
            · have hf := ip c_28 hf
              refine lv_bipush (v := (40 : Int32)) hx hb dX5_readStep_99 (by decide) ?_
              exact lab101 k1 x4 (40 : Int32) (40 : Int32) s H locs ls hk1 hf h (lv_sub hl [0, 1, 4] rfl)
            · have hf := im c_28 hf
              refine lv_aload_n hx hb dX5_readStep_92 rfl (lv_at hl 0 rfl) ?_
              refine gX_Reader_bodyByText F h hinX5 (hts (.fieldLink RX5 19 "ElectionHouse$Reader" "bodyByText" "I") (by decide +kernel)) dX5_readStep_93 ?_
              refine lv_goto (tgt := 101) hx hb dX5_readStep_96 (by decide) ?_
              exact lab101 k1 x4 (gM s 9 2) (40 : Int32) s H locs ls hk1 hf h (lv_sub hl [0, 1, 4] rfl)
        · have hf := ip c_26 hf
          refine lv_iconst (v := (1 : Int32)) hx hb dX5_readStep_75 (by decide) ?_
          refine lv_goto (tgt := 104) hx hb dX5_readStep_76 (by decide) ?_
          exact lab104 k1 x4 (1 : Int32) s H locs ls hk1 hf h (lv_sub hl [0, 1, 4] rfl)
      · have hf := im c_25 hf
        refine lv_aload_n hx hb dX5_readStep_62 rfl (lv_at hl 0 rfl) ?_
        refine lv_iload_n hx hb dX5_readStep_63 rfl (lv_at hl 3 rfl) ?_
        refine lv_iconst (v := (2 : Int32)) hx hb dX5_readStep_64 (by decide) ?_
        obtain ⟨r30, s31, hc29, hf⟩ := ob2 hf
        refine call_VI F (c_Reader_fail l Z Q s x3 (2 : Int32) hc29) (cwV 2 hts gX5_readStep_X5_fail rfl rfl rfl (by decide +kernel) ⟨Nat.le_of_ble_eq_true rfl, Nat.le_of_ble_eq_true rfl⟩) h (rcX_Reader h) rfl hl.1 rfl (Nat.le_of_ble_eq_true rfl) ⟨Nat.zero_le _, Nat.zero_le _⟩ dX5_readStep_65 (fun H locs h => ?_)
        obtain ⟨gz, hf⟩ := og hf
        exact retE_Z F hr hlk gz h hf dX5_readStep_68
    · have hf := ip c_24 hf
      refine lv_aload_n hx hb dX5_readStep_49 rfl (lv_at hl 0 rfl) ?_
      refine lv_iload_n hx hb dX5_readStep_50 rfl (lv_at hl 3 rfl) ?_
      refine lv_iconst (v := (0 : Int32)) hx hb dX5_readStep_51 (by decide) ?_
      obtain ⟨r33, s34, hc32, hf⟩ := ob2 hf
      refine call_VI F (c_Reader_fail l Z Q s x3 (0 : Int32) hc32) (cwV 2 hts gX5_readStep_X5_fail rfl rfl rfl (by decide +kernel) ⟨Nat.le_of_ble_eq_true rfl, Nat.le_of_ble_eq_true rfl⟩) h (rcX_Reader h) rfl hl.1 rfl (Nat.le_of_ble_eq_true rfl) ⟨Nat.zero_le _, Nat.zero_le _⟩ dX5_readStep_52 (fun H locs h => ?_)
      obtain ⟨gz, hf⟩ := og hf
      exact retE_Z F hr hlk gz h hf dX5_readStep_55
  refine lv_aload_n hx hb dX5_readStep_0 rfl (lv_at hl 0 rfl) ?_
  obtain ⟨s37, hc35, hf⟩ := ob1 hf
  refine call_VV F (c_Reader_skipBlanks l Z Q s hc35) (cwV 0 hts gX5_readStep_X5_skipBlanks rfl rfl rfl (by decide +kernel) ⟨Nat.le_of_ble_eq_true rfl, Nat.le_of_ble_eq_true rfl⟩) h (rcX_Reader h) rfl hl.1 rfl (Nat.le_of_ble_eq_true rfl) ⟨Nat.zero_le _, Nat.zero_le _⟩ dX5_readStep_1 (fun H locs h => ?_)
  refine lv_aload_n hx hb dX5_readStep_4 rfl (lv_at hl 0 rfl) ?_
  refine gX_Reader_place F h hinX5 (hts (.fieldLink RX5 15 "ElectionHouse$Reader" "place" "I") (by decide +kernel)) dX5_readStep_5 ?_
  refine lv_istore_n (lv' := [(3, .int (gM s37 9 1)), (0, .ref (Q 9)), (1, .ref (Q (19 + 5 * k1))), (2, .int x2)]) hx hb dX5_readStep_8 rfl hl (by decide) rfl (fun ls hl => ?_)
  have hl := lv_sub (l' := [(0, .ref (Q 9)), (1, .ref (Q (19 + 5 * k1))), (2, .int x2), (3, .int (gM s37 9 1))]) hl [1, 2, 3, 0] rfl
  refine lv_aload_n hx hb dX5_readStep_9 rfl (lv_at hl 0 rfl) ?_
  obtain ⟨r39, s40, hc38, hf⟩ := ob2 hf
  refine call_VI F (c_Reader_takeWord l Z Q s37 hc38) (cwV 0 hts gX5_readStep_X5_takeWord rfl rfl rfl (by decide +kernel) ⟨Nat.le_of_ble_eq_true rfl, Nat.le_of_ble_eq_true rfl⟩) h (rcX_Reader h) rfl hl.1 rfl (Nat.le_of_ble_eq_true rfl) ⟨Nat.zero_le _, Nat.zero_le _⟩ dX5_readStep_10 (fun H locs h => ?_)
  refine lv_istore (lv' := [(4, .int r39), (0, .ref (Q 9)), (1, .ref (Q (19 + 5 * k1))), (2, .int x2), (3, .int (gM s37 9 1))]) hx hb dX5_readStep_13 hl (by decide) rfl (fun ls hl => ?_)
  have hl := lv_sub (l' := [(0, .ref (Q 9)), (1, .ref (Q (19 + 5 * k1))), (2, .int x2), (3, .int (gM s37 9 1)), (4, .int r39)]) hl [1, 2, 3, 4, 0] rfl
  refine lv_iload hx hb dX5_readStep_15 (lv_at hl 4 rfl) ?_
  refine lv_iconst (v := (1 : Int32)) hx hb dX5_readStep_17 (by decide) ?_
  refine lv_icmp_eq (tgt := 37) hx hb dX5_readStep_18 (by decide) (fun c_41 => ?_) (fun c_41 => ?_)
  · have hf := ip c_41 hf
    refine lv_iconst (v := (1 : Int32)) hx hb dX5_readStep_37 (by decide) ?_
    refine lv_goto (tgt := 42) hx hb dX5_readStep_38 (by decide) ?_
    exact lab42 k1 x2 (gM s37 9 1) r39 (1 : Int32) s40 H locs ls hk1 hf h (lv_sub hl [0, 1, 2, 3, 4] rfl)
  · have hf := im c_41 hf
    refine lv_iload_n hx hb dX5_readStep_21 rfl (lv_at hl 2 rfl) ?_
    refine lv_if_le (tgt := 41) hx hb dX5_readStep_22 (by decide) (fun c_42 => ?_) (fun c_42 => ?_)
    · have hf := ip c_42 hf
      refine lv_iconst (v := (0 : Int32)) hx hb dX5_readStep_41 (by decide) ?_
      exact lab42 k1 x2 (gM s37 9 1) r39 (0 : Int32) s40 H locs ls hk1 hf h (lv_sub hl [0, 1, 2, 3, 4] rfl)
    · have hf := im c_42 hf
      refine lv_iload hx hb dX5_readStep_25 (lv_at hl 4 rfl) ?_
      refine lv_iconst (v := (2 : Int32)) hx hb dX5_readStep_27 (by decide) ?_
      refine lv_icmp_eq (tgt := 37) hx hb dX5_readStep_28 (by decide) (fun c_43 => ?_) (fun c_43 => ?_)
      · have hf := ip c_43 hf
        refine lv_iconst (v := (1 : Int32)) hx hb dX5_readStep_37 (by decide) ?_
        refine lv_goto (tgt := 42) hx hb dX5_readStep_38 (by decide) ?_
        exact lab42 k1 x2 (gM s37 9 1) r39 (1 : Int32) s40 H locs ls hk1 hf h (lv_sub hl [0, 1, 2, 3, 4] rfl)
      · have hf := im c_43 hf
        refine lv_iload hx hb dX5_readStep_31 (lv_at hl 4 rfl) ?_
        refine lv_iconst (v := (3 : Int32)) hx hb dX5_readStep_33 (by decide) ?_
        refine lv_icmp_ne (tgt := 41) hx hb dX5_readStep_34 (by decide) (fun c_44 => ?_) (fun c_44 => ?_)
        · have hf := im c_44 hf
          refine lv_iconst (v := (0 : Int32)) hx hb dX5_readStep_41 (by decide) ?_
          exact lab42 k1 x2 (gM s37 9 1) r39 (0 : Int32) s40 H locs ls hk1 hf h (lv_sub hl [0, 1, 2, 3, 4] rfl)
        · have hf := ip c_44 hf
          refine lv_iconst (v := (1 : Int32)) hx hb dX5_readStep_37 (by decide) ?_
          refine lv_goto (tgt := 42) hx hb dX5_readStep_38 (by decide) ?_
          exact lab42 k1 x2 (gM s37 9 1) r39 (1 : Int32) s40 H locs ls hk1 hf h (lv_sub hl [0, 1, 2, 3, 4] rfl)

set_option maxHeartbeats 8000000 in
set_option maxRecDepth 100000 in
theorem c_Reader_read (l : Launch) (Z : ZT) (Q : Nat → Nat) (s : XS) (k1 : Nat) (hk1 : k1 < 2) {r : Int32} {s' : XS} (hf : p_Reader_read k1 s = some (r, s')) : KI l Z (wX Z Q) yX5_read wsX5_read { frames := 8, cells := 0, slots := 0, locals := 179 } [.ref (Q 9), .ref (Q (19 + 5 * k1))] s r s' := by
  intro sz
  refine met_entry (cc := cX5_read) (maxL := 4) (ret := (some .int)) (by decide) rfl (Nat.le_of_ble_eq_true rfl) sz rfl ?_
  generalize va_A (wX Z Q s) sz = A
  intro p e s0 m args below meth c ls F hr hlk h hl
  have hl : lv_has ls 4 [(0, .ref (Q 9)), (1, .ref (Q (19 + 5 * k1)))] := hl
  obtain ⟨hx, hb, hml, hown, hts⟩ := id F
  have hinX5 : ∀ w ∈ wsX50, w ∈ wsX5_read := by decide +kernel
  obtain ⟨H, eH⟩ : ∃ z, z = s0.heap := ⟨_, rfl⟩
  obtain ⟨locs, eL⟩ : ∃ z : List Loc, z = [] := ⟨_, rfl⟩
  rw [← eH, ← eL] at h ⊢
  unfold p_Reader_read at hf
  have lab23 : ∀ (k1 : Nat) (n : Nat) (x2 : Int32) (x3 : Int32) (s : XS) (H : Heap) (locs : List Loc) (ls : Array Slot), k1 < 2 → lo3 (p_Reader_read_B23 k1) n x2 x3 s = some (r, s') → HW Z (wX Z Q) A s0 H locs s → lv_has ls 4 [(0, .ref (Q 9)), (1, .ref (Q (19 + 5 * k1))), (2, .int x2), (3, .int x3)] → W p l e { frames := 8, cells := 0, slots := 0, locals := 179 } s0 m args below meth c H locs 0 0 (MQ below (QcI Z (wX Z Q) A r s') args s0 0 0 A) (F0 m 23 ls []) := by
    intro k1 n
    induction n with
    | zero => intro x2 x3 s H locs ls hk1 hf; exact absurd hf lo3_z
    | succ n ih23 =>
      intro x2 x3 s H locs ls hk1 hf h hl
      have hf := lo3_s hf
      generalize lo3 (p_Reader_read_B23 k1) n = c23 at hf ih23
      unfold p_Reader_read_B23 at hf
      refine lv_iload_n hx hb dX5_read_23 rfl (lv_at hl 2 rfl) ?_
      refine lv_if_eq (tgt := 46) hx hb dX5_read_24 (by decide) (fun c_1 => ?_) (fun c_1 => ?_)
      · have hf := ip c_1 hf
        refine lv_aload_n hx hb dX5_read_46 rfl (lv_at hl 0 rfl) ?_
        refine gX_Reader_fault F h hinX5 (hts (.fieldLink RX5 22 "ElectionHouse$Reader" "fault" "I") (by decide +kernel)) dX5_read_47 ?_
        exact retE_I F hr hlk h hf dX5_read_50
      · have hf := im c_1 hf
        refine lv_iload_n hx hb dX5_read_27 rfl (lv_at hl 3 rfl) ?_
        refine lv_bipush (v := (12 : Int32)) hx hb dX5_read_28 (by decide) ?_
        refine lv_icmp_gt (tgt := 46) hx hb dX5_read_30 (by decide) (fun c_2 => ?_) (fun c_2 => ?_)
        · have hf := ip c_2 hf
          refine lv_aload_n hx hb dX5_read_46 rfl (lv_at hl 0 rfl) ?_
          refine gX_Reader_fault F h hinX5 (hts (.fieldLink RX5 22 "ElectionHouse$Reader" "fault" "I") (by decide +kernel)) dX5_read_47 ?_
          exact retE_I F hr hlk h hf dX5_read_50
        · have hf := im c_2 hf
          refine lv_aload_n hx hb dX5_read_33 rfl (lv_at hl 0 rfl) ?_
          refine lv_aload_n hx hb dX5_read_34 rfl (lv_at hl 1 rfl) ?_
          refine lv_iload_n hx hb dX5_read_35 rfl (lv_at hl 3 rfl) ?_
          obtain ⟨r4, s5, hc3, hf⟩ := ob2 hf
          refine call_VI F (c_Reader_readStep l Z Q s k1 x3 hk1 hc3) (cwV 2 hts gX5_read_X5_readStep rfl rfl rfl (by decide +kernel) ⟨Nat.le_of_ble_eq_true rfl, Nat.le_of_ble_eq_true rfl⟩) h (rcX_Reader h) rfl hl.1 rfl (Nat.le_of_ble_eq_true rfl) ⟨Nat.zero_le _, Nat.zero_le _⟩ dX5_read_36 (fun H locs h => ?_)
          refine lv_istore_n (lv' := [(2, .int r4), (0, .ref (Q 9)), (1, .ref (Q (19 + 5 * k1))), (3, .int x3)]) hx hb dX5_read_39 rfl hl (by decide) rfl (fun ls hl => ?_)
          have hl := lv_sub (l' := [(0, .ref (Q 9)), (1, .ref (Q (19 + 5 * k1))), (2, .int r4), (3, .int x3)]) hl [1, 2, 0, 3] rfl
          refine lv_iinc (v := (x3 + (1 : Int32))) (lv' := [(3, .int (x3 + (1 : Int32))), (0, .ref (Q 9)), (1, .ref (Q (19 + 5 * k1))), (2, .int r4)]) hx hb dX5_read_40 hl (k := 3) rfl (congrArg (fun z => x3 + z) (by decide : Int32.ofInt (1) = (1 : Int32))) (by decide) rfl (fun ls hl => ?_)
          have hl := lv_sub (l' := [(0, .ref (Q 9)), (1, .ref (Q (19 + 5 * k1))), (2, .int r4), (3, .int (x3 + (1 : Int32)))]) hl [1, 2, 3, 0] rfl
          refine lv_goto (tgt := 23) hx hb dX5_read_43 (by decide) ?_
          exact ih23 r4 (x3 + (1 : Int32)) s5 H locs ls hk1 hf h (lv_sub hl [0, 1, 2, 3] rfl)
  refine lv_aload_n hx hb dX5_read_0 rfl (lv_at hl 0 rfl) ?_
  refine lv_iconst (v := (0 : Int32)) hx hb dX5_read_1 (by decide) ?_
  refine pX_Reader_place F h hinX5 (hts (.fieldLink RX5 15 "ElectionHouse$Reader" "place" "I") (by decide +kernel)) dX5_read_2 (fun H locs h => ?_)
  obtain ⟨s6, es, hf⟩ := olq hf
  rw [← es] at h
  refine lv_aload_n hx hb dX5_read_5 rfl (lv_at hl 0 rfl) ?_
  refine lv_iconst (v := (0 : Int32)) hx hb dX5_read_6 (by decide) ?_
  refine pX_Reader_bodyByText F h hinX5 (hts (.fieldLink RX5 19 "ElectionHouse$Reader" "bodyByText" "I") (by decide +kernel)) dX5_read_7 (fun H locs h => ?_)
  obtain ⟨s7, es, hf⟩ := olq hf
  rw [← es] at h
  refine lv_aload_n hx hb dX5_read_10 rfl (lv_at hl 0 rfl) ?_
  refine lv_iconst (v := (0 : Int32)) hx hb dX5_read_11 (by decide) ?_
  refine pX_Reader_fault F h hinX5 (hts (.fieldLink RX5 22 "ElectionHouse$Reader" "fault" "I") (by decide +kernel)) dX5_read_12 (fun H locs h => ?_)
  obtain ⟨s8, es, hf⟩ := olq hf
  rw [← es] at h
  refine lv_aload_n hx hb dX5_read_15 rfl (lv_at hl 1 rfl) ?_
  obtain ⟨s11, hc9, hf⟩ := ob1 hf
  refine call_VV F (c_Plan_clear l Z Q s8 k1 hk1 hc9) (cwV 0 hts gX5_read_X3_clear rfl rfl rfl (by decide +kernel) ⟨Nat.le_of_ble_eq_true rfl, Nat.le_of_ble_eq_true rfl⟩) h (rcX_Plan hk1 h) rfl hl.1 rfl (Nat.le_of_ble_eq_true rfl) ⟨Nat.zero_le _, Nat.zero_le _⟩ dX5_read_16 (fun H locs h => ?_)
  refine lv_iconst (v := (1 : Int32)) hx hb dX5_read_19 (by decide) ?_
  refine lv_istore_n (lv' := [(2, .int (1 : Int32)), (0, .ref (Q 9)), (1, .ref (Q (19 + 5 * k1)))]) hx hb dX5_read_20 rfl hl (by decide) rfl (fun ls hl => ?_)
  have hl := lv_sub (l' := [(0, .ref (Q 9)), (1, .ref (Q (19 + 5 * k1))), (2, .int (1 : Int32))]) hl [1, 2, 0] rfl
  refine lv_iconst (v := (0 : Int32)) hx hb dX5_read_21 (by decide) ?_
  refine lv_istore_n (lv' := [(3, .int (0 : Int32)), (0, .ref (Q 9)), (1, .ref (Q (19 + 5 * k1))), (2, .int (1 : Int32))]) hx hb dX5_read_22 rfl hl (by decide) rfl (fun ls hl => ?_)
  have hl := lv_sub (l' := [(0, .ref (Q 9)), (1, .ref (Q (19 + 5 * k1))), (2, .int (1 : Int32)), (3, .int (0 : Int32))]) hl [1, 2, 3, 0] rfl
  exact lab23 k1 fuelN (1 : Int32) (0 : Int32) s11 H locs ls hk1 hf h (lv_sub hl [0, 1, 2, 3] rfl)

