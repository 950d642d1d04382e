set_option maxHeartbeats 8000000 in
set_option maxRecDepth 100000 in
theorem c_Sess_stepsDone (l : Launch) (Z : ZT) (Q : Nat → Nat) (s : XS) {r : Int32} (hf : p_Sess_stepsDone s = some r) : KI l Z (wX Z Q) yX6_stepsDone wsX6_stepsDone { frames := 0, cells := 0, slots := 0, locals := 0 } [.ref (Q 14)] s r s := by
  intro sz
  refine met_entry (cc := cX6_stepsDone) (maxL := 1) (ret := (some .int)) (by decide) rfl (Nat.le_of_ble_eq_true rfl) sz rfl ?_
  generalize va_A (wX Z Q s) sz = A
  intro p e s0 m args below meth c ls F hr hlk h hl
  have hl : lv_has ls 1 [(0, .ref (Q 14))] := hl
  obtain ⟨hx, hb, hml, hown, hts⟩ := id F
  have hinX6 : ∀ w ∈ wsX60, w ∈ wsX6_stepsDone := by decide +kernel
  obtain ⟨H, eH⟩ : ∃ z, z = s0.heap := ⟨_, rfl⟩
  obtain ⟨locs, eL⟩ : ∃ z : List Loc, z = [] := ⟨_, rfl⟩
  rw [← eH, ← eL] at h ⊢
  unfold p_Sess_stepsDone at hf
  refine lv_aload_n hx hb dX6_stepsDone_0 rfl (lv_at hl 0 rfl) ?_
  refine gX_Sess_done F h hinX6 (hts (.fieldLink RX6 49 "ElectionHouse$Session" "done" "I") (by decide +kernel)) dX6_stepsDone_1 ?_
  exact retE_Ir F hr hlk h hf dX6_stepsDone_4

set_option maxHeartbeats 8000000 in
set_option maxRecDepth 100000 in
theorem c_Sess_begin (l : Launch) (Z : ZT) (Q : Nat → Nat) (s : XS) (k1 : Nat) (hk1 : k1 < 2) {r : Nat} {s' : XS} (hf : p_Sess_begin k1 s = some (r, s')) : KR l Z (wX Z Q) yX6_begin wsX6_begin { frames := 0, cells := 0, slots := 0, locals := 0 } [.ref (Q 14), .ref (Q (19 + 5 * k1))] s (Q (19 + 5 * r)) s' := by
  intro sz
  refine met_entry (cc := cX6_begin) (maxL := 3) (ret := (some (.object "ElectionHouse$Plan"))) (by decide) rfl (Nat.le_of_ble_eq_true rfl) sz rfl ?_
  generalize va_A (wX Z Q s) sz = A
  intro p e s0 m args below meth c ls F hr hlk h hl
  have hl : lv_has ls 3 [(0, .ref (Q 14)), (1, .ref (Q (19 + 5 * k1)))] := hl
  obtain ⟨hx, hb, hml, hown, hts⟩ := id F
  have hinX6 : ∀ w ∈ wsX60, w ∈ wsX6_begin := by decide +kernel
  obtain ⟨H, eH⟩ : ∃ z, z = s0.heap := ⟨_, rfl⟩
  obtain ⟨locs, eL⟩ : ∃ z : List Loc, z = [] := ⟨_, rfl⟩
  rw [← eH, ← eL] at h ⊢
  unfold p_Sess_begin at hf
  refine lv_aload_n hx hb dX6_begin_0 rfl (lv_at hl 0 rfl) ?_
  refine gX_Sess_plan F h hinX6 (hts (.fieldLink RX6 29 "ElectionHouse$Session" "plan" "LElectionHouse$Plan;") (by decide +kernel)) dX6_begin_1 ?_
  have hb1 : (gG s 14 7) < 2 := h.2.2.2.2.2.1 _ _
  refine lv_astore_n (lv' := [(2, .ref (Q (19 + 5 * (gG s 14 7)))), (0, .ref (Q 14)), (1, .ref (Q (19 + 5 * k1)))]) hx hb dX6_begin_4 rfl hl (by decide) rfl (fun ls hl => ?_)
  have hl := lv_sub (l' := [(0, .ref (Q 14)), (1, .ref (Q (19 + 5 * k1))), (2, .ref (Q (19 + 5 * (gG s 14 7))))]) hl [1, 2, 0] rfl
  refine lv_aload_n hx hb dX6_begin_5 rfl (lv_at hl 0 rfl) ?_
  refine lv_aload_n hx hb dX6_begin_6 rfl (lv_at hl 1 rfl) ?_
  refine pX_Sess_plan hk1 F h hinX6 (hts (.fieldLink RX6 29 "ElectionHouse$Session" "plan" "LElectionHouse$Plan;") (by decide +kernel)) dX6_begin_7 (fun H locs h => ?_)
  obtain ⟨s2, es, hf⟩ := olq hf
  rw [← es] at h
  refine lv_aload_n hx hb dX6_begin_10 rfl (lv_at hl 0 rfl) ?_
  refine lv_iconst (v := (0 : Int32)) hx hb dX6_begin_11 (by decide) ?_
  refine pX_Sess_done F h hinX6 (hts (.fieldLink RX6 49 "ElectionHouse$Session" "done" "I") (by decide +kernel)) dX6_begin_12 (fun H locs h => ?_)
  obtain ⟨s3, es, hf⟩ := olq hf
  rw [← es] at h
  refine lv_aload_n hx hb dX6_begin_15 rfl (lv_at hl 0 rfl) ?_
  refine lv_iconst (v := (-1 : Int32)) hx hb dX6_begin_16 (by decide) ?_
  refine pX_Sess_head F h hinX6 (hts (.fieldLink RX6 33 "ElectionHouse$Session" "head" "I") (by decide +kernel)) dX6_begin_17 (fun H locs h => ?_)
  obtain ⟨s4, es, hf⟩ := olq hf
  rw [← es] at h
  refine lv_aload_n hx hb dX6_begin_20 rfl (lv_at hl 2 rfl) ?_
  exact retE_R (r0 := (gG s 14 7)) F hr hlk h (fun q => (Q (19 + 5 * q))) rfl hf dX6_begin_21

set_option maxHeartbeats 8000000 in
set_option maxRecDepth 100000 in
theorem c_Sess_stepsInAll (l : Launch) (Z : ZT) (Q : Nat → Nat) (s : XS) {r : Int32} (hf : p_Sess_stepsInAll s = some r) : KI l Z (wX Z Q) yX6_stepsInAll wsX6_stepsInAll { frames := 1, cells := 0, slots := 0, locals := 20 } [.ref (Q 14)] s r s := by
  intro sz
  refine met_entry (cc := cX6_stepsInAll) (maxL := 1) (ret := (some .int)) (by decide) rfl (Nat.le_of_ble_eq_true rfl) sz rfl ?_
  generalize va_A (wX Z Q s) sz = A
  intro p e s0 m args below meth c ls F hr hlk h hl
  have hl : lv_has ls 1 [(0, .ref (Q 14))] := hl
  obtain ⟨hx, hb, hml, hown, hts⟩ := id F
  have hinX6 : ∀ w ∈ wsX60, w ∈ wsX6_stepsInAll := by decide +kernel
  obtain ⟨H, eH⟩ : ∃ z, z = s0.heap := ⟨_, rfl⟩
  obtain ⟨locs, eL⟩ : ∃ z : List Loc, z = [] := ⟨_, rfl⟩
  rw [← eH, ← eL] at h ⊢
  unfold p_Sess_stepsInAll at hf
  refine lv_aload_n hx hb dX6_stepsInAll_0 rfl (lv_at hl 0 rfl) ?_
  refine gX_Sess_plan F h hinX6 (hts (.fieldLink RX6 29 "ElectionHouse$Session" "plan" "LElectionHouse$Plan;") (by decide +kernel)) dX6_stepsInAll_1 ?_
  have hb1 : (gG s 14 7) < 2 := h.2.2.2.2.2.1 _ _
  obtain ⟨r3, hc2, hf⟩ := ob1 hf
  refine call_VI F (c_Plan_length l Z Q s (gG s 14 7) hb1 hc2) (cwV 0 hts gX6_stepsInAll_X3_length rfl rfl rfl (by decide +kernel) ⟨Nat.le_of_ble_eq_true rfl, Nat.le_of_ble_eq_true rfl⟩) h (rcX_Plan hb1 h) rfl hl.1 rfl (Nat.le_of_ble_eq_true rfl) ⟨Nat.zero_le _, Nat.zero_le _⟩ dX6_stepsInAll_4 (fun H locs h => ?_)
  exact retE_Ir F hr hlk h hf dX6_stepsInAll_7

set_option maxHeartbeats 8000000 in
set_option maxRecDepth 100000 in
theorem c_Sess_gatherFirstBody (l : Launch) (Z : ZT) (Q : Nat → Nat) (s : XS) {s' : XS} (hf : p_Sess_gatherFirstBody s = some s') : KV l Z (wX Z Q) yX6_gatherFirstBody wsX6_gatherFirstBody { frames := 2, cells := 0, slots := 0, locals := 42 } [.ref (Q 14)] s s' := by
  intro sz
  refine met_entry (cc := cX6_gatherFirstBody) (maxL := 3) (ret := none) (by decide) rfl (Nat.le_of_ble_eq_true rfl) sz rfl ?_
  generalize va_A (wX Z Q s) sz = A
  intro p e s0 m args below meth c ls F hr hlk h hl
  have hl : lv_has ls 3 [(0, .ref (Q 14))] := hl
  obtain ⟨hx, hb, hml, hown, hts⟩ := id F
  have hinX6 : ∀ w ∈ wsX60, w ∈ wsX6_gatherFirstBody := by decide +kernel
  obtain ⟨H, eH⟩ : ∃ z, z = s0.heap := ⟨_, rfl⟩
  obtain ⟨locs, eL⟩ : ∃ z : List Loc, z = [] := ⟨_, rfl⟩
  rw [← eH, ← eL] at h ⊢
  unfold p_Sess_gatherFirstBody at hf
  have lab4 : ∀ (n : Nat) (x1 : Int32) (x2 : Int32) (s : XS) (H : Heap) (locs : List Loc) (ls : Array Slot), lo3 (p_Sess_gatherFirstBody_B4) n x1 x2 s = some s' → HW Z (wX Z Q) A s0 H locs s → lv_has ls 3 [(0, .ref (Q 14)), (1, .int x1), (2, .int x2)] → W p l e { frames := 2, cells := 0, slots := 0, locals := 42 } s0 m args below meth c H locs 0 0 (MQ below (QcV Z (wX Z Q) A s') args s0 0 0 A) (F0 m 4 ls []) := by
    intro n
    induction n with
    | zero => intro x1 x2 s H locs ls hf; exact absurd hf lo3_z
    | succ n ih4 =>
      intro x1 x2 s H locs ls hf h hl
      have hf := lo3_s hf
      generalize lo3 (p_Sess_gatherFirstBody_B4) n = c4 at hf ih4
      unfold p_Sess_gatherFirstBody_B4 at hf
      refine lv_iload_n hx hb dX6_gatherFirstBody_4 rfl (lv_at hl 2 rfl) ?_
      refine lv_aload_n hx hb dX6_gatherFirstBody_5 rfl (lv_at hl 0 rfl) ?_
      refine gX_Sess_city F h hinX6 (hts (.fieldLink RX6 37 "ElectionHouse$Session" "city" "LElectionHouse$City;") (by decide +kernel)) dX6_gatherFirstBody_6 ?_
      obtain ⟨r2, hc1, hf⟩ := ob1 hf
      refine call_VI F (c_City_size l Z Q s hc1) (cwV 0 hts gX6_gatherFirstBody_X0_size rfl rfl rfl (by decide +kernel) ⟨Nat.le_of_ble_eq_true rfl, Nat.le_of_ble_eq_true rfl⟩) h (rcX_City h) rfl hl.1 rfl (Nat.le_of_ble_eq_true rfl) ⟨Nat.zero_le _, Nat.zero_le _⟩ dX6_gatherFirstBody_9 (fun H locs h => ?_)
      refine lv_icmp_ge (tgt := 50) hx hb dX6_gatherFirstBody_12 (by decide) (fun c_4 => ?_) (fun c_4 => ?_)
      · have hf := ip c_4 hf
        refine lv_aload_n hx hb dX6_gatherFirstBody_50 rfl (lv_at hl 0 rfl) ?_
        refine gX_Sess_sizes F h hinX6 (hts (.fieldLink RX6 16 "ElectionHouse$Session" "sizes" "[I") (by decide +kernel)) dX6_gatherFirstBody_51 ?_
        refine lv_iconst (v := (0 : Int32)) hx hb dX6_gatherFirstBody_54 (by decide) ?_
        refine lv_iload_n hx hb dX6_gatherFirstBody_55 rfl (lv_at hl 1 rfl) ?_
        obtain ⟨gi5, hf⟩ := og hf
        refine sX_ssizes F h gi5 dX6_gatherFirstBody_56 (fun H locs h => ?_)
        obtain ⟨s6, es, hf⟩ := olq hf
        rw [← es] at h
        exact retE_V F hr hlk h hf dX6_gatherFirstBody_57
      · have hf := im c_4 hf
        refine lv_iload_n hx hb dX6_gatherFirstBody_15 rfl (lv_at hl 1 rfl) ?_
        refine lv_bipush (v := (40 : Int32)) hx hb dX6_gatherFirstBody_16 (by decide) ?_
        refine lv_icmp_ge (tgt := 50) hx hb dX6_gatherFirstBody_18 (by decide) (fun c_7 => ?_) (fun c_7 => ?_)
        · have hf := ip c_7 hf
          refine lv_aload_n hx hb dX6_gatherFirstBody_50 rfl (lv_at hl 0 rfl) ?_
          refine gX_Sess_sizes F h hinX6 (hts (.fieldLink RX6 16 "ElectionHouse$Session" "sizes" "[I") (by decide +kernel)) dX6_gatherFirstBody_51 ?_
          refine lv_iconst (v := (0 : Int32)) hx hb dX6_gatherFirstBody_54 (by decide) ?_
          refine lv_iload_n hx hb dX6_gatherFirstBody_55 rfl (lv_at hl 1 rfl) ?_
          obtain ⟨gi8, hf⟩ := og hf
          refine sX_ssizes F h gi8 dX6_gatherFirstBody_56 (fun H locs h => ?_)
          obtain ⟨s9, es, hf⟩ := olq hf
          rw [← es] at h
          exact retE_V F hr hlk h hf dX6_gatherFirstBody_57
        · have hf := im c_7 hf
          refine lv_aload_n hx hb dX6_gatherFirstBody_21 rfl (lv_at hl 0 rfl) ?_
          refine gX_Sess_city F h hinX6 (hts (.fieldLink RX6 37 "ElectionHouse$Session" "city" "LElectionHouse$City;") (by decide +kernel)) dX6_gatherFirstBody_22 ?_
          refine lv_iload_n hx hb dX6_gatherFirstBody_25 rfl (lv_at hl 2 rfl) ?_
          obtain ⟨r11, hc10, hf⟩ := ob1 hf
          refine call_VI F (c_City_isThere l Z Q s x2 hc10) (cwV 1 hts gX6_gatherFirstBody_X0_isThere rfl rfl rfl (by decide +kernel) ⟨Nat.le_of_ble_eq_true rfl, Nat.le_of_ble_eq_true rfl⟩) h (rcX_City h) rfl hl.1 rfl (Nat.le_of_ble_eq_true rfl) ⟨Nat.zero_le _, Nat.zero_le _⟩ dX6_gatherFirstBody_26 (fun H locs h => ?_)
          refine lv_if_eq (tgt := 44) hx hb dX6_gatherFirstBody_29 (by decide) (fun c_13 => ?_) (fun c_13 => ?_)
          · have hf := ip c_13 hf
            refine lv_iinc (v := (x2 + (1 : Int32))) (lv' := [(2, .int (x2 + (1 : Int32))), (0, .ref (Q 14)), (1, .int x1)]) hx hb dX6_gatherFirstBody_44 hl (k := 2) rfl (congrArg (fun z => x2 + z) (by decide : Int32.ofInt (1) = (1 : Int32))) (by decide) rfl (fun ls hl => ?_)
            have hl := lv_sub (l' := [(0, .ref (Q 14)), (1, .int x1), (2, .int (x2 + (1 : Int32)))]) hl [1, 2, 0] rfl
            refine lv_goto (tgt := 4) hx hb dX6_gatherFirstBody_47 (by decide) ?_
            exact ih4 x1 (x2 + (1 : Int32)) s H locs ls hf h (lv_sub hl [0, 1, 2] rfl)
          · have hf := im c_13 hf
            refine lv_aload_n hx hb dX6_gatherFirstBody_32 rfl (lv_at hl 0 rfl) ?_
            refine gX_Sess_bodies F h hinX6 (hts (.fieldLink RX6 11 "ElectionHouse$Session" "bodies" "[[I") (by decide +kernel)) dX6_gatherFirstBody_33 ?_
            refine lv_iconst (v := (0 : Int32)) hx hb dX6_gatherFirstBody_36 (by decide) ?_
            obtain ⟨gi14, hf⟩ := og hf
            refine lX_bodies F h gi14 dX6_gatherFirstBody_37 ?_
            have hb15 : (ix (0 : Int32)) < 13 := (of_decide_eq_true gi14).2
            refine lv_iload_n hx hb dX6_gatherFirstBody_38 rfl (lv_at hl 1 rfl) ?_
            refine lv_iload_n hx hb dX6_gatherFirstBody_39 rfl (lv_at hl 2 rfl) ?_
            obtain ⟨gi16, hf⟩ := og hf
            refine sX_rows hb15 F h gi16 dX6_gatherFirstBody_40 (fun H locs h => ?_)
            obtain ⟨s17, es, hf⟩ := olq hf
            rw [← es] at h
            refine lv_iinc (v := (x1 + (1 : Int32))) (lv' := [(1, .int (x1 + (1 : Int32))), (0, .ref (Q 14)), (2, .int x2)]) hx hb dX6_gatherFirstBody_41 hl (k := 1) rfl (congrArg (fun z => x1 + z) (by decide : Int32.ofInt (1) = (1 : Int32))) (by decide) rfl (fun ls hl => ?_)
            have hl := lv_sub (l' := [(0, .ref (Q 14)), (1, .int (x1 + (1 : Int32))), (2, .int x2)]) hl [1, 0, 2] rfl
            refine lv_iinc (v := (x2 + (1 : Int32))) (lv' := [(2, .int (x2 + (1 : Int32))), (0, .ref (Q 14)), (1, .int (x1 + (1 : Int32)))]) hx hb dX6_gatherFirstBody_44 hl (k := 2) rfl (congrArg (fun z => x2 + z) (by decide : Int32.ofInt (1) = (1 : Int32))) (by decide) rfl (fun ls hl => ?_)
            have hl := lv_sub (l' := [(0, .ref (Q 14)), (1, .int (x1 + (1 : Int32))), (2, .int (x2 + (1 : Int32)))]) hl [1, 2, 0] rfl
            refine lv_goto (tgt := 4) hx hb dX6_gatherFirstBody_47 (by decide) ?_
            exact ih4 (x1 + (1 : Int32)) (x2 + (1 : Int32)) s17 H locs ls hf h (lv_sub hl [0, 1, 2] rfl)
  refine lv_iconst (v := (0 : Int32)) hx hb dX6_gatherFirstBody_0 (by decide) ?_
  refine lv_istore_n (lv' := [(1, .int (0 : Int32)), (0, .ref (Q 14))]) hx hb dX6_gatherFirstBody_1 rfl hl (by decide) rfl (fun ls hl => ?_)
  have hl := lv_sub (l' := [(0, .ref (Q 14)), (1, .int (0 : Int32))]) hl [1, 0] rfl
  refine lv_iconst (v := (0 : Int32)) hx hb dX6_gatherFirstBody_2 (by decide) ?_
  refine lv_istore_n (lv' := [(2, .int (0 : Int32)), (0, .ref (Q 14)), (1, .int (0 : Int32))]) hx hb dX6_gatherFirstBody_3 rfl hl (by decide) rfl (fun ls hl => ?_)
  have hl := lv_sub (l' := [(0, .ref (Q 14)), (1, .int (0 : Int32)), (2, .int (0 : Int32))]) hl [1, 2, 0] rfl
  exact lab4 fuelN (0 : Int32) (0 : Int32) s H locs ls hf h (lv_sub hl [0, 1, 2] rfl)

set_option maxHeartbeats 8000000 in
set_option maxRecDepth 100000 in
theorem c_Sess_bodySize (l : Launch) (Z : ZT) (Q : Nat → Nat) (s : XS) {r : Int32} {s' : XS} (hf : p_Sess_bodySize s = some (r, s')) : KI l Z (wX Z Q) yX6_bodySize wsX6_bodySize { frames := 3, cells := 0, slots := 0, locals := 64 } [.ref (Q 14)] s r s' := by
  intro sz
  refine met_entry (cc := cX6_bodySize) (maxL := 1) (ret := (some .int)) (by decide) rfl (Nat.le_of_ble_eq_true rfl) sz rfl ?_
  generalize va_A (wX Z Q s) sz = A
  intro p e s0 m args below meth c ls F hr hlk h hl
  have hl : lv_has ls 1 [(0, .ref (Q 14))] := hl
  obtain ⟨hx, hb, hml, hown, hts⟩ := id F
  have hinX6 : ∀ w ∈ wsX60, w ∈ wsX6_bodySize := by decide +kernel
  obtain ⟨H, eH⟩ : ∃ z, z = s0.heap := ⟨_, rfl⟩
  obtain ⟨locs, eL⟩ : ∃ z : List Loc, z = [] := ⟨_, rfl⟩
  rw [← eH, ← eL] at h ⊢
  unfold p_Sess_bodySize at hf
  refine lv_aload_n hx hb dX6_bodySize_0 rfl (lv_at hl 0 rfl) ?_
  refine gX_Sess_done F h hinX6 (hts (.fieldLink RX6 49 "ElectionHouse$Session" "done" "I") (by decide +kernel)) dX6_bodySize_1 ?_
  refine lv_if_ne (tgt := 11) hx hb dX6_bodySize_4 (by decide) (fun c_1 => ?_) (fun c_1 => ?_)
  · have hf := im c_1 hf
    refine lv_aload_n hx hb dX6_bodySize_11 rfl (lv_at hl 0 rfl) ?_
    refine gX_Sess_sizes F h hinX6 (hts (.fieldLink RX6 16 "ElectionHouse$Session" "sizes" "[I") (by decide +kernel)) dX6_bodySize_12 ?_
    refine lv_aload_n hx hb dX6_bodySize_15 rfl (lv_at hl 0 rfl) ?_
    refine gX_Sess_done F h hinX6 (hts (.fieldLink RX6 49 "ElectionHouse$Session" "done" "I") (by decide +kernel)) dX6_bodySize_16 ?_
    obtain ⟨gi2, hf⟩ := og hf
    refine lX_ssizes F h gi2 dX6_bodySize_19 ?_
    exact retE_I F hr hlk h hf dX6_bodySize_20
  · have hf := ip c_1 hf
    refine lv_aload_n hx hb dX6_bodySize_7 rfl (lv_at hl 0 rfl) ?_
    obtain ⟨s5, hc3, hf⟩ := ob1 hf
    refine call_VV F (c_Sess_gatherFirstBody l Z Q s hc3) (cwV 0 hts gX6_bodySize_X6_gatherFirstBody rfl rfl rfl (by decide +kernel) ⟨Nat.le_of_ble_eq_true rfl, Nat.le_of_ble_eq_true rfl⟩) h (rcX_Sess h) rfl hl.1 rfl (Nat.le_of_ble_eq_true rfl) ⟨Nat.zero_le _, Nat.zero_le _⟩ dX6_bodySize_8 (fun H locs h => ?_)
    refine lv_aload_n hx hb dX6_bodySize_11 rfl (lv_at hl 0 rfl) ?_
    refine gX_Sess_sizes F h hinX6 (hts (.fieldLink RX6 16 "ElectionHouse$Session" "sizes" "[I") (by decide +kernel)) dX6_bodySize_12 ?_
    refine lv_aload_n hx hb dX6_bodySize_15 rfl (lv_at hl 0 rfl) ?_
    refine gX_Sess_done F h hinX6 (hts (.fieldLink RX6 49 "ElectionHouse$Session" "done" "I") (by decide +kernel)) dX6_bodySize_16 ?_
    obtain ⟨gi6, hf⟩ := og hf
    refine lX_ssizes F h gi6 dX6_bodySize_19 ?_
    exact retE_I F hr hlk h hf dX6_bodySize_20

set_option maxHeartbeats 8000000 in
set_option maxRecDepth 100000 in
theorem c_Sess_takeOut (l : Launch) (Z : ZT) (Q : Nat → Nat) (s : XS) (x1 : Int32) (x2 : Int32) {r : Int32} {s' : XS} (hf : p_Sess_takeOut x1 x2 s = some (r, s')) : KI l Z (wX Z Q) yX6_takeOut wsX6_takeOut { frames := 1, cells := 0, slots := 0, locals := 68 } [.ref (Q 14), .int x1, .int x2] s r s' := by
  intro sz
  refine met_entry (cc := cX6_takeOut) (maxL := 4) (ret := (some .int)) (by decide) rfl (Nat.le_of_ble_eq_true rfl) sz rfl ?_
  generalize va_A (wX Z Q s) sz = A
  intro p e s0 m args below meth c ls F hr hlk h hl
  have hl : lv_has ls 4 [(0, .ref (Q 14)), (1, .int x1), (2, .int x2)] := hl
  obtain ⟨hx, hb, hml, hown, hts⟩ := id F
  have hinX6 : ∀ w ∈ wsX60, w ∈ wsX6_takeOut := by decide +kernel
  obtain ⟨H, eH⟩ : ∃ z, z = s0.heap := ⟨_, rfl⟩
  obtain ⟨locs, eL⟩ : ∃ z : List Loc, z = [] := ⟨_, rfl⟩
  rw [← eH, ← eL] at h ⊢
  unfold p_Sess_takeOut at hf
  refine lv_iload_n hx hb dX6_takeOut_0 rfl (lv_at hl 1 rfl) ?_
  refine lv_if_lt (tgt := 15) hx hb dX6_takeOut_1 (by decide) (fun c_1 => ?_) (fun c_1 => ?_)
  · have hf := ip c_1 hf
    refine lv_iconst (v := (-1 : Int32)) hx hb dX6_takeOut_15 (by decide) ?_
    exact retE_I F hr hlk h hf dX6_takeOut_16
  · have hf := im c_1 hf
    refine lv_iload_n hx hb dX6_takeOut_4 rfl (lv_at hl 1 rfl) ?_
    refine lv_iload_n hx hb dX6_takeOut_5 rfl (lv_at hl 2 rfl) ?_
    refine lv_icmp_ge (tgt := 15) hx hb dX6_takeOut_6 (by decide) (fun c_2 => ?_) (fun c_2 => ?_)
    · have hf := ip c_2 hf
      refine lv_iconst (v := (-1 : Int32)) hx hb dX6_takeOut_15 (by decide) ?_
      exact retE_I F hr hlk h hf dX6_takeOut_16
    · have hf := im c_2 hf
      refine lv_iload_n hx hb dX6_takeOut_9 rfl (lv_at hl 2 rfl) ?_
      refine lv_bipush (v := (40 : Int32)) hx hb dX6_takeOut_10 (by decide) ?_
      refine lv_icmp_le (tgt := 17) hx hb dX6_takeOut_12 (by decide) (fun c_3 => ?_) (fun c_3 => ?_)
      · have hf := ip c_3 hf
        refine lv_aload_n hx hb dX6_takeOut_17 rfl (lv_at hl 0 rfl) ?_
        refine gX_Sess_row F h hinX6 (hts (.fieldLink RX6 20 "ElectionHouse$Session" "row" "[I") (by decide +kernel)) dX6_takeOut_18 ?_
        refine lv_iload_n hx hb dX6_takeOut_21 rfl (lv_at hl 1 rfl) ?_
        obtain ⟨gi4, hf⟩ := og hf
        refine lX_srow F h gi4 dX6_takeOut_22 ?_
        refine lv_istore_n (lv' := [(3, .int (gM s 17 (ix x1))), (0, .ref (Q 14)), (1, .int x1), (2, .int x2)]) hx hb dX6_takeOut_23 rfl hl (by decide) rfl (fun ls hl => ?_)
        have hl := lv_sub (l' := [(0, .ref (Q 14)), (1, .int x1), (2, .int x2), (3, .int (gM s 17 (ix x1)))]) hl [1, 2, 3, 0] rfl
        refine lv_aload_n hx hb dX6_takeOut_24 rfl (lv_at hl 0 rfl) ?_
        refine gX_Sess_row F h hinX6 (hts (.fieldLink RX6 20 "ElectionHouse$Session" "row" "[I") (by decide +kernel)) dX6_takeOut_25 ?_
        refine lv_iload_n hx hb dX6_takeOut_28 rfl (lv_at hl 1 rfl) ?_
        refine lv_iconst (v := (1 : Int32)) hx hb dX6_takeOut_29 (by decide) ?_
        refine lv_iadd hx hb dX6_takeOut_30 ?_
        refine lv_aload_n hx hb dX6_takeOut_31 rfl (lv_at hl 0 rfl) ?_
        refine gX_Sess_row F h hinX6 (hts (.fieldLink RX6 20 "ElectionHouse$Session" "row" "[I") (by decide +kernel)) dX6_takeOut_32 ?_
        refine lv_iload_n hx hb dX6_takeOut_35 rfl (lv_at hl 1 rfl) ?_
        refine lv_iload_n hx hb dX6_takeOut_36 rfl (lv_at hl 2 rfl) ?_
        refine lv_iload_n hx hb dX6_takeOut_37 rfl (lv_at hl 1 rfl) ?_
        refine lv_isub hx hb dX6_takeOut_38 ?_
        refine lv_iconst (v := (1 : Int32)) hx hb dX6_takeOut_39 (by decide) ?_
        refine lv_isub hx hb dX6_takeOut_40 ?_
        obtain ⟨gc5, hf⟩ := og hf
        refine cpX_srow_srow F (by rw [hml]; exact hl.1.symm) h gc5 (hts (.methodLink RX6 87 arraycopyName) (by decide +kernel)) (hts (.native arraycopyName) (by decide +kernel)) (hts (.static arraycopyName) (by decide +kernel)) (hts (.initialized "java/lang/System") (by decide +kernel)) (Nat.le_of_ble_eq_true rfl) (Nat.le_of_ble_eq_true rfl) dX6_takeOut_41 (fun H locs h => ?_)
        obtain ⟨s6, es, hf⟩ := olq hf
        rw [← es] at h
        refine lv_iload_n hx hb dX6_takeOut_44 rfl (lv_at hl 3 rfl) ?_
        exact retE_I F hr hlk h hf dX6_takeOut_45
      · have hf := im c_3 hf
        refine lv_iconst (v := (-1 : Int32)) hx hb dX6_takeOut_15 (by decide) ?_
        exact retE_I F hr hlk h hf dX6_takeOut_16

set_option maxHeartbeats 8000000 in
set_option maxRecDepth 100000 in
theorem c_Sess_stand (l : Launch) (Z : ZT) (Q : Nat → Nat) (s : XS) (x1 : Int32) {s' : XS} (hf : p_Sess_stand x1 s = some s') : KV l Z (wX Z Q) yX6_stand wsX6_stand { frames := 0, cells := 0, slots := 0, locals := 0 } [.ref (Q 14), .int x1] s s' := by
  intro sz
  refine met_entry (cc := cX6_stand) (maxL := 2) (ret := none) (by decide) rfl (Nat.le_of_ble_eq_true rfl) sz rfl ?_
  generalize va_A (wX Z Q s) sz = A
  intro p e s0 m args below meth c ls F hr hlk h hl
  have hl : lv_has ls 2 [(0, .ref (Q 14)), (1, .int x1)] := hl
  obtain ⟨hx, hb, hml, hown, hts⟩ := id F
  have hinX6 : ∀ w ∈ wsX60, w ∈ wsX6_stand := by decide +kernel
  obtain ⟨H, eH⟩ : ∃ z, z = s0.heap := ⟨_, rfl⟩
  obtain ⟨locs, eL⟩ : ∃ z : List Loc, z = [] := ⟨_, rfl⟩
  rw [← eH, ← eL] at h ⊢
  unfold p_Sess_stand at hf
  refine lv_aload_n hx hb dX6_stand_0 rfl (lv_at hl 0 rfl) ?_
  refine gX_Sess_done F h hinX6 (hts (.fieldLink RX6 49 "ElectionHouse$Session" "done" "I") (by decide +kernel)) dX6_stand_1 ?_
  refine lv_bipush (v := (12 : Int32)) hx hb dX6_stand_4 (by decide) ?_
  refine lv_icmp_ge (tgt := 29) hx hb dX6_stand_6 (by decide) (fun c_1 => ?_) (fun c_1 => ?_)
  · have hf := ip c_1 hf
    exact retE_V F hr hlk h hf dX6_stand_29
  · have hf := im c_1 hf
    refine lv_aload_n hx hb dX6_stand_9 rfl (lv_at hl 0 rfl) ?_
    refine lv_dup hx hb dX6_stand_10 rfl ?_
    refine gX_Sess_done F h hinX6 (hts (.fieldLink RX6 49 "ElectionHouse$Session" "done" "I") (by decide +kernel)) dX6_stand_11 ?_
    refine lv_iconst (v := (1 : Int32)) hx hb dX6_stand_14 (by decide) ?_
    refine lv_iadd hx hb dX6_stand_15 ?_
    refine pX_Sess_done F h hinX6 (hts (.fieldLink RX6 49 "ElectionHouse$Session" "done" "I") (by decide +kernel)) dX6_stand_16 (fun H locs h => ?_)
    obtain ⟨s2, es, hf⟩ := olq hf
    rw [← es] at h
    refine lv_aload_n hx hb dX6_stand_19 rfl (lv_at hl 0 rfl) ?_
    refine gX_Sess_sizes F h hinX6 (hts (.fieldLink RX6 16 "ElectionHouse$Session" "sizes" "[I") (by decide +kernel)) dX6_stand_20 ?_
    refine lv_aload_n hx hb dX6_stand_23 rfl (lv_at hl 0 rfl) ?_
    refine gX_Sess_done F h hinX6 (hts (.fieldLink RX6 49 "ElectionHouse$Session" "done" "I") (by decide +kernel)) dX6_stand_24 ?_
    refine lv_iload_n hx hb dX6_stand_27 rfl (lv_at hl 1 rfl) ?_
    obtain ⟨gi3, hf⟩ := og hf
    refine sX_ssizes F h gi3 dX6_stand_28 (fun H locs h => ?_)
    obtain ⟨s4, es, hf⟩ := olq hf
    rw [← es] at h
    exact retE_V F hr hlk h hf dX6_stand_29

set_option maxHeartbeats 8000000 in
set_option maxRecDepth 100000 in
theorem c_Sess_draw (l : Launch) (Z : ZT) (Q : Nat → Nat) (s : XS) (x1 : Int32) {r : Int32} {s' : XS} (hf : p_Sess_draw x1 s = some (r, s')) : KI l Z (wX Z Q) yX6_draw wsX6_draw { frames := 4, cells := 0, slots := 0, locals := 91 } [.ref (Q 14), .int x1] s r s' := by
  intro sz
  refine met_entry (cc := cX6_draw) (maxL := 7) (ret := (some .int)) (by decide) rfl (Nat.le_of_ble_eq_true rfl) sz rfl ?_
  generalize va_A (wX Z Q s) sz = A
  intro p e s0 m args below meth c ls F hr hlk h hl
  have hl : lv_has ls 7 [(0, .ref (Q 14)), (1, .int x1)] := hl
  obtain ⟨hx, hb, hml, hown, hts⟩ := id F
  have hinX6 : ∀ w ∈ wsX60, w ∈ wsX6_draw := by decide +kernel
  obtain ⟨H, eH⟩ : ∃ z, z = s0.heap := ⟨_, rfl⟩
  obtain ⟨locs, eL⟩ : ∃ z : List Loc, z = [] := ⟨_, rfl⟩
  rw [← eH, ← eL] at h ⊢
  unfold p_Sess_draw at hf
  have lab36 : ∀ (x1 : Int32) (x2 : Int32) (n : Nat) (x3 : Int32) (x4 : Int32) (s : XS) (H : Heap) (locs : List Loc) (ls : Array Slot), lo3 (p_Sess_draw_B36 x1 x2) n x3 x4 s = some (r, s') → HW Z (wX Z Q) A s0 H locs s → lv_has ls 7 [(0, .ref (Q 14)), (1, .int x1), (2, .int x2), (3, .int x3), (4, .int x4)] → W p l e { frames := 4, cells := 0, slots := 0, locals := 91 } s0 m args below meth c H locs 0 0 (MQ below (QcI Z (wX Z Q) A r s') args s0 0 0 A) (F0 m 36 ls []) := by
    intro x1 x2 n
    induction n with
    | zero => intro x3 x4 s H locs ls hf; exact absurd hf lo3_z
    | succ n ih36 =>
      intro x3 x4 s H locs ls hf h hl
      have hf := lo3_s hf
      generalize lo3 (p_Sess_draw_B36 x1 x2) n = c36 at hf ih36
      unfold p_Sess_draw_B36 at hf
      refine lv_iload hx hb dX6_draw_36 (lv_at hl 4 rfl) ?_
      refine lv_iload_n hx hb dX6_draw_38 rfl (lv_at hl 1 rfl) ?_
      refine lv_icmp_ge (tgt := 110) hx hb dX6_draw_39 (by decide) (fun c_1 => ?_) (fun c_1 => ?_)
      · have hf := ip c_1 hf
        refine lv_aload_n hx hb dX6_draw_110 rfl (lv_at hl 0 rfl) ?_
        refine gX_Sess_lots F h hinX6 (hts (.fieldLink RX6 41 "ElectionHouse$Session" "lots" "LElectionHouse$LotRow;") (by decide +kernel)) dX6_draw_111 ?_
        refine lv_iload_n hx hb dX6_draw_114 rfl (lv_at hl 3 rfl) ?_
        obtain ⟨s4, hc2, hf⟩ := ob1 hf
        refine call_VV F (c_Lot_use l Z Q s x3 hc2) (cwV 1 hts gX6_draw_X1_use rfl rfl rfl (by decide +kernel) ⟨Nat.le_of_ble_eq_true rfl, Nat.le_of_ble_eq_true rfl⟩) h (rcX_Lot h) rfl hl.1 rfl (Nat.le_of_ble_eq_true rfl) ⟨Nat.zero_le _, Nat.zero_le _⟩ dX6_draw_115 (fun H locs h => ?_)
        refine lv_aload_n hx hb dX6_draw_118 rfl (lv_at hl 0 rfl) ?_
        refine lv_iload_n hx hb dX6_draw_119 rfl (lv_at hl 1 rfl) ?_
        obtain ⟨s7, hc5, hf⟩ := ob1 hf
        refine call_VV F (c_Sess_stand l Z Q s4 x1 hc5) (cwV 1 hts gX6_draw_X6_stand rfl rfl rfl (by decide +kernel) ⟨Nat.le_of_ble_eq_true rfl, Nat.le_of_ble_eq_true rfl⟩) h (rcX_Sess h) rfl hl.1 rfl (Nat.le_of_ble_eq_true rfl) ⟨Nat.zero_le _, Nat.zero_le _⟩ dX6_draw_120 (fun H locs h => ?_)
        refine lv_iconst (v := (0 : Int32)) hx hb dX6_draw_123 (by decide) ?_
        exact retE_I F hr hlk h hf dX6_draw_124
      · have hf := im c_1 hf
        refine lv_iload_n hx hb dX6_draw_42 rfl (lv_at hl 2 rfl) ?_
        refine lv_iload hx hb dX6_draw_43 (lv_at hl 4 rfl) ?_
        refine lv_isub hx hb dX6_draw_45 ?_
        refine lv_istore (lv' := [(5, .int (x2 - x4)), (0, .ref (Q 14)), (1, .int x1), (2, .int x2), (3, .int x3), (4, .int x4)]) hx hb dX6_draw_46 hl (by decide) rfl (fun ls hl => ?_)
        have hl := lv_sub (l' := [(0, .ref (Q 14)), (1, .int x1), (2, .int x2), (3, .int x3), (4, .int x4), (5, .int (x2 - x4))]) hl [1, 2, 3, 4, 5, 0] rfl
        refine lv_aload_n hx hb dX6_draw_48 rfl (lv_at hl 0 rfl) ?_
        refine gX_Sess_lots F h hinX6 (hts (.fieldLink RX6 41 "ElectionHouse$Session" "lots" "LElectionHouse$LotRow;") (by decide +kernel)) dX6_draw_49 ?_
        refine lv_iload_n hx hb dX6_draw_52 rfl (lv_at hl 3 rfl) ?_
        refine lv_iload hx hb dX6_draw_53 (lv_at hl 5 rfl) ?_
        obtain ⟨r9, hc8, hf⟩ := ob1 hf
        refine call_VI F (c_Lot_seekFair l Z Q s x3 (x2 - x4) hc8) (cwV 2 hts gX6_draw_X1_seekFair rfl rfl rfl (by decide +kernel) ⟨Nat.le_of_ble_eq_true rfl, Nat.le_of_ble_eq_true rfl⟩) h (rcX_Lot h) rfl hl.1 rfl (Nat.le_of_ble_eq_true rfl) ⟨Nat.zero_le _, Nat.zero_le _⟩ dX6_draw_55 (fun H locs h => ?_)
        refine lv_istore (lv' := [(6, .int r9), (0, .ref (Q 14)), (1, .int x1), (2, .int x2), (3, .int x3), (4, .int x4), (5, .int (x2 - x4))]) hx hb dX6_draw_58 hl (by decide) rfl (fun ls hl => ?_)
        have hl := lv_sub (l' := [(0, .ref (Q 14)), (1, .int x1), (2, .int x2), (3, .int x3), (4, .int x4), (5, .int (x2 - x4)), (6, .int r9)]) hl [1, 2, 3, 4, 5, 6, 0] rfl
        refine lv_iload hx hb dX6_draw_60 (lv_at hl 6 rfl) ?_
        refine lv_iconst (v := (-1 : Int32)) hx hb dX6_draw_62 (by decide) ?_
        refine lv_icmp_ne (tgt := 68) hx hb dX6_draw_63 (by decide) (fun c_11 => ?_) (fun c_11 => ?_)
        · have hf := im c_11 hf
          refine lv_aload_n hx hb dX6_draw_68 rfl (lv_at hl 0 rfl) ?_
          refine gX_Sess_bodies F h hinX6 (hts (.fieldLink RX6 11 "ElectionHouse$Session" "bodies" "[[I") (by decide +kernel)) dX6_draw_69 ?_
          refine lv_aload_n hx hb dX6_draw_72 rfl (lv_at hl 0 rfl) ?_
          refine gX_Sess_done F h hinX6 (hts (.fieldLink RX6 49 "ElectionHouse$Session" "done" "I") (by decide +kernel)) dX6_draw_73 ?_
          refine lv_iconst (v := (1 : Int32)) hx hb dX6_draw_76 (by decide) ?_
          refine lv_iadd hx hb dX6_draw_77 ?_
          obtain ⟨gi12, hf⟩ := og hf
          refine lX_bodies F h gi12 dX6_draw_78 ?_
          have hb13 : (ix ((gM s 14 8) + (1 : Int32))) < 13 := (of_decide_eq_true gi12).2
          refine lv_iload hx hb dX6_draw_79 (lv_at hl 4 rfl) ?_
          refine lv_aload_n hx hb dX6_draw_81 rfl (lv_at hl 0 rfl) ?_
          refine lv_aload_n hx hb dX6_draw_82 rfl (lv_at hl 0 rfl) ?_
          refine gX_Sess_lots F h hinX6 (hts (.fieldLink RX6 41 "ElectionHouse$Session" "lots" "LElectionHouse$LotRow;") (by decide +kernel)) dX6_draw_83 ?_
          refine lv_iload hx hb dX6_draw_86 (lv_at hl 6 rfl) ?_
          refine lv_iload hx hb dX6_draw_88 (lv_at hl 5 rfl) ?_
          obtain ⟨r15, hc14, hf⟩ := ob1 hf
          refine call_VI F (c_Lot_pick l Z Q s r9 (x2 - x4) hc14) (cwV 2 hts gX6_draw_X1_pick rfl rfl rfl (by decide +kernel) ⟨Nat.le_of_ble_eq_true rfl, Nat.le_of_ble_eq_true rfl⟩) h (rcX_Lot h) rfl hl.1 rfl (Nat.le_of_ble_eq_true rfl) ⟨Nat.zero_le _, Nat.zero_le _⟩ dX6_draw_90 (fun H locs h => ?_)
          refine lv_iload hx hb dX6_draw_93 (lv_at hl 5 rfl) ?_
          obtain ⟨r18, s19, hc17, hf⟩ := ob2 hf
          refine call_VI F (c_Sess_takeOut l Z Q s r15 (x2 - x4) hc17) (cwV 2 hts gX6_draw_X6_takeOut rfl rfl rfl (by decide +kernel) ⟨Nat.le_of_ble_eq_true rfl, Nat.le_of_ble_eq_true rfl⟩) h (rcX_Sess h) rfl hl.1 rfl (Nat.le_of_ble_eq_true rfl) ⟨Nat.zero_le _, Nat.zero_le _⟩ dX6_draw_95 (fun H locs h => ?_)
          obtain ⟨gi20, hf⟩ := og hf
          refine sX_rows hb13 F h gi20 dX6_draw_98 (fun H locs h => ?_)
          obtain ⟨s21, es, hf⟩ := olq hf
          rw [← es] at h
          refine lv_iload hx hb dX6_draw_99 (lv_at hl 6 rfl) ?_
          refine lv_iconst (v := (1 : Int32)) hx hb dX6_draw_101 (by decide) ?_
          refine lv_iadd hx hb dX6_draw_102 ?_
          refine lv_istore_n (lv' := [(3, .int (r9 + (1 : Int32))), (0, .ref (Q 14)), (1, .int x1), (2, .int x2), (4, .int x4), (5, .int (x2 - x4)), (6, .int r9)]) hx hb dX6_draw_103 rfl hl (by decide) rfl (fun ls hl => ?_)
          have hl := lv_sub (l' := [(0, .ref (Q 14)), (1, .int x1), (2, .int x2), (3, .int (r9 + (1 : Int32))), (4, .int x4), (5, .int (x2 - x4)), (6, .int r9)]) hl [1, 2, 3, 0, 4, 5, 6] rfl
          refine lv_iinc (v := (x4 + (1 : Int32))) (lv' := [(4, .int (x4 + (1 : Int32))), (0, .ref (Q 14)), (1, .int x1), (2, .int x2), (3, .int (r9 + (1 : Int32))), (5, .int (x2 - x4)), (6, .int r9)]) hx hb dX6_draw_104 hl (k := 4) rfl (congrArg (fun z => x4 + z) (by decide : Int32.ofInt (1) = (1 : Int32))) (by decide) rfl (fun ls hl => ?_)
          have hl := lv_sub (l' := [(0, .ref (Q 14)), (1, .int x1), (2, .int x2), (3, .int (r9 + (1 : Int32))), (4, .int (x4 + (1 : Int32))), (5, .int (x2 - x4)), (6, .int r9)]) hl [1, 2, 3, 4, 0, 5, 6] rfl
          refine lv_goto (tgt := 36) hx hb dX6_draw_107 (by decide) ?_
          exact ih36 (r9 + (1 : Int32)) (x4 + (1 : Int32)) s21 H locs ls hf h (lv_sub hl [0, 1, 2, 3, 4] rfl)
        · have hf := ip c_11 hf
          refine lv_iconst (v := (1 : Int32)) hx hb dX6_draw_66 (by decide) ?_
          exact retE_I F hr hlk h hf dX6_draw_67
  refine lv_aload_n hx hb dX6_draw_0 rfl (lv_at hl 0 rfl) ?_
  obtain ⟨r23, s24, hc22, hf⟩ := ob2 hf
  refine call_VI F (c_Sess_bodySize l Z Q s hc22) (cwV 0 hts gX6_draw_X6_bodySize rfl rfl rfl (by decide +kernel) ⟨Nat.le_of_ble_eq_true rfl, Nat.le_of_ble_eq_true rfl⟩) h (rcX_Sess h) rfl hl.1 rfl (Nat.le_of_ble_eq_true rfl) ⟨Nat.zero_le _, Nat.zero_le _⟩ dX6_draw_1 (fun H locs h => ?_)
  refine lv_istore_n (lv' := [(2, .int r23), (0, .ref (Q 14)), (1, .int x1)]) hx hb dX6_draw_4 rfl hl (by decide) rfl (fun ls hl => ?_)
  have hl := lv_sub (l' := [(0, .ref (Q 14)), (1, .int x1), (2, .int r23)]) hl [1, 2, 0] rfl
  refine lv_iload_n hx hb dX6_draw_5 rfl (lv_at hl 2 rfl) ?_
  refine lv_iload_n hx hb dX6_draw_6 rfl (lv_at hl 1 rfl) ?_
  refine lv_icmp_ge (tgt := 12) hx hb dX6_draw_7 (by decide) (fun c_25 => ?_) (fun c_25 => ?_)
  · have hf := ip c_25 hf
    refine lv_aload_n hx hb dX6_draw_12 rfl (lv_at hl 0 rfl) ?_
    refine gX_Sess_bodies F h hinX6 (hts (.fieldLink RX6 11 "ElectionHouse$Session" "bodies" "[[I") (by decide +kernel)) dX6_draw_13 ?_
    refine lv_aload_n hx hb dX6_draw_16 rfl (lv_at hl 0 rfl) ?_
    refine gX_Sess_done F h hinX6 (hts (.fieldLink RX6 49 "ElectionHouse$Session" "done" "I") (by decide +kernel)) dX6_draw_17 ?_
    obtain ⟨gi26, hf⟩ := og hf
    refine lX_bodies F h gi26 dX6_draw_20 ?_
    have hb27 : (ix (gM s24 14 8)) < 13 := (of_decide_eq_true gi26).2
    refine lv_iconst (v := (0 : Int32)) hx hb dX6_draw_21 (by decide) ?_
    refine lv_aload_n hx hb dX6_draw_22 rfl (lv_at hl 0 rfl) ?_
    refine gX_Sess_row F h hinX6 (hts (.fieldLink RX6 20 "ElectionHouse$Session" "row" "[I") (by decide +kernel)) dX6_draw_23 ?_
    refine lv_iconst (v := (0 : Int32)) hx hb dX6_draw_26 (by decide) ?_
    refine lv_iload_n hx hb dX6_draw_27 rfl (lv_at hl 2 rfl) ?_
    obtain ⟨gc28, hf⟩ := og hf
    refine cpX_rows_srow hb27 F (by rw [hml]; exact hl.1.symm) h gc28 (hts (.methodLink RX6 87 arraycopyName) (by decide +kernel)) (hts (.native arraycopyName) (by decide +kernel)) (hts (.static arraycopyName) (by decide +kernel)) (hts (.initialized "java/lang/System") (by decide +kernel)) (Nat.le_of_ble_eq_true rfl) (Nat.le_of_ble_eq_true rfl) dX6_draw_28 (fun H locs h => ?_)
    obtain ⟨s29, es, hf⟩ := olq hf
    rw [← es] at h
    refine lv_iconst (v := (0 : Int32)) hx hb dX6_draw_31 (by decide) ?_
    refine lv_istore_n (lv' := [(3, .int (0 : Int32)), (0, .ref (Q 14)), (1, .int x1), (2, .int r23)]) hx hb dX6_draw_32 rfl hl (by decide) rfl (fun ls hl => ?_)
    have hl := lv_sub (l' := [(0, .ref (Q 14)), (1, .int x1), (2, .int r23), (3, .int (0 : Int32))]) hl [1, 2, 3, 0] rfl
    refine lv_iconst (v := (0 : Int32)) hx hb dX6_draw_33 (by decide) ?_
    refine lv_istore (lv' := [(4, .int (0 : Int32)), (0, .ref (Q 14)), (1, .int x1), (2, .int r23), (3, .int (0 : Int32))]) hx hb dX6_draw_34 hl (by decide) rfl (fun ls hl => ?_)
    have hl := lv_sub (l' := [(0, .ref (Q 14)), (1, .int x1), (2, .int r23), (3, .int (0 : Int32)), (4, .int (0 : Int32))]) hl [1, 2, 3, 4, 0] rfl
    exact lab36 x1 r23 fuelN (0 : Int32) (0 : Int32) s29 H locs ls hf h (lv_sub hl [0, 1, 2, 3, 4] rfl)
  · have hf := im c_25 hf
    refine lv_iconst (v := (2 : Int32)) hx hb dX6_draw_10 (by decide) ?_
    exact retE_I F hr hlk h hf dX6_draw_11

set_option maxHeartbeats 8000000 in
set_option maxRecDepth 100000 in
theorem c_Sess_chosenOf (l : Launch) (Z : ZT) (Q : Nat → Nat) (s : XS) (x1 : Int32) {r : Int32} (hf : p_Sess_chosenOf x1 s = some r) : KI l Z (wX Z Q) yX6_chosenOf wsX6_chosenOf { frames := 1, cells := 0, slots := 0, locals := 20 } [.ref (Q 14), .int x1] s r s := by
  intro sz
  refine met_entry (cc := cX6_chosenOf) (maxL := 2) (ret := (some .int)) (by decide) rfl (Nat.le_of_ble_eq_true rfl) sz rfl ?_
  generalize va_A (wX Z Q s) sz = A
  intro p e s0 m args below meth c ls F hr hlk h hl
  have hl : lv_has ls 2 [(0, .ref (Q 14)), (1, .int x1)] := hl
  obtain ⟨hx, hb, hml, hown, hts⟩ := id F
  have hinX6 : ∀ w ∈ wsX60, w ∈ wsX6_chosenOf := by decide +kernel
  obtain ⟨H, eH⟩ : ∃ z, z = s0.heap := ⟨_, rfl⟩
  obtain ⟨locs, eL⟩ : ∃ z : List Loc, z = [] := ⟨_, rfl⟩
  rw [← eH, ← eL] at h ⊢
  unfold p_Sess_chosenOf at hf
  refine lv_iload_n hx hb dX6_chosenOf_0 rfl (lv_at hl 1 rfl) ?_
  obtain ⟨r2, hc1, hf⟩ := ob1 hf
  refine call_SI F (c_City_isHouse l Z (wX Z Q) s x1 hc1) (va_cwS 1 hts gX6_chosenOf_X0_isHouse rfl rfl rfl (by decide +kernel) ⟨Nat.le_of_ble_eq_true rfl, Nat.le_of_ble_eq_true rfl⟩) h rfl hl.1 rfl (Nat.le_of_ble_eq_true rfl) ⟨Nat.zero_le _, Nat.zero_le _⟩ dX6_chosenOf_1 (fun H locs h => ?_)
  refine lv_if_eq (tgt := 16) hx hb dX6_chosenOf_4 (by decide) (fun c_4 => ?_) (fun c_4 => ?_)
  · have hf := ip c_4 hf
    refine lv_iconst (v := (0 : Int32)) hx hb dX6_chosenOf_16 (by decide) ?_
    exact retE_Ir F hr hlk h hf dX6_chosenOf_17
  · have hf := im c_4 hf
    refine lv_aload_n hx hb dX6_chosenOf_7 rfl (lv_at hl 0 rfl) ?_
    refine gX_Sess_ofHouse F h hinX6 (hts (.fieldLink RX6 23 "ElectionHouse$Session" "ofHouse" "[I") (by decide +kernel)) dX6_chosenOf_8 ?_
    refine lv_iload_n hx hb dX6_chosenOf_11 rfl (lv_at hl 1 rfl) ?_
    obtain ⟨gi5, hf⟩ := og hf
    refine lX_ofHouse F h gi5 dX6_chosenOf_12 ?_
    refine lv_goto (tgt := 17) hx hb dX6_chosenOf_13 (by decide) ?_
    exact retE_Ir F hr hlk h hf dX6_chosenOf_17

set_option maxHeartbeats 8000000 in
set_option maxRecDepth 100000 in
theorem c_Sess_votesFor (l : Launch) (Z : ZT) (Q : Nat → Nat) (s : XS) (x1 : Int32) (x2 : Int32) {r : Int32} (hf : p_Sess_votesFor x1 x2 s = some r) : KI l Z (wX Z Q) yX6_votesFor wsX6_votesFor { frames := 2, cells := 0, slots := 0, locals := 44 } [.ref (Q 14), .int x1, .int x2] s r s := by
  intro sz
  refine met_entry (cc := cX6_votesFor) (maxL := 7) (ret := (some .int)) (by decide) rfl (Nat.le_of_ble_eq_true rfl) sz rfl ?_
  generalize va_A (wX Z Q s) sz = A
  intro p e s0 m args below meth c ls F hr hlk h hl
  have hl : lv_has ls 7 [(0, .ref (Q 14)), (1, .int x1), (2, .int x2)] := hl
  obtain ⟨hx, hb, hml, hown, hts⟩ := id F
  have hinX6 : ∀ w ∈ wsX60, w ∈ wsX6_votesFor := by decide +kernel
  obtain ⟨H, eH⟩ : ∃ z, z = s0.heap := ⟨_, rfl⟩
  obtain ⟨locs, eL⟩ : ∃ z : List Loc, z = [] := ⟨_, rfl⟩
  rw [← eH, ← eL] at h ⊢
  unfold p_Sess_votesFor at hf
  have lab5 : ∀ (x1 : Int32) (x2 : Int32) (n : Nat) (x3 : Int32) (x4 : Int32) (H : Heap) (locs : List Loc) (ls : Array Slot), lo2 (p_Sess_votesFor_B5 x1 x2 s) n x3 x4 = some r → HW Z (wX Z Q) A s0 H locs s → lv_has ls 7 [(0, .ref (Q 14)), (1, .int x1), (2, .int x2), (3, .int x3), (4, .int x4)] → W p l e { frames := 2, cells := 0, slots := 0, locals := 44 } s0 m args below meth c H locs 0 0 (MQ below (QcI Z (wX Z Q) A r s) args s0 0 0 A) (F0 m 5 ls []) := by
    intro x1 x2 n
    induction n with
    | zero => intro x3 x4 H locs ls hf; exact absurd hf lo2_z
    | succ n ih5 =>
      intro x3 x4 H locs ls hf h hl
      have hf := lo2_s hf
      generalize lo2 (p_Sess_votesFor_B5 x1 x2 s) n = c5 at hf ih5
      unfold p_Sess_votesFor_B5 at hf
      have lab61 : ∀ (x3 : Int32) (x4 : Int32) (x5 : Int32) (t0 : Int32) (H : Heap) (locs : List Loc) (ls : Array Slot), p_Sess_votesFor_K61 c5 x1 x2 x3 x4 x5 t0 s = some r → HW Z (wX Z Q) A s0 H locs s → lv_has ls 7 [(0, .ref (Q 14)), (1, .int x1), (2, .int x2), (3, .int x3), (4, .int x4), (5, .int x5)] → W p l e { frames := 2, cells := 0, slots := 0, locals := 44 } s0 m args below meth c H locs 0 0 (MQ below (QcI Z (wX Z Q) A r s) args s0 0 0 A) (F0 m 61 ls [.int t0]) := by
        intro x3 x4 x5 t0 H locs ls hf h hl
        unfold p_Sess_votesFor_K61 at hf
        refine lv_istore (lv' := [(6, .int t0), (0, .ref (Q 14)), (1, .int x1), (2, .int x2), (3, .int x3), (4, .int x4), (5, .int x5)]) hx hb dX6_votesFor_61 hl (by decide) rfl (fun ls hl => ?_)
        have hl := lv_sub (l' := [(0, .ref (Q 14)), (1, .int x1), (2, .int x2), (3, .int x3), (4, .int x4), (5, .int x5), (6, .int t0)]) hl [1, 2, 3, 4, 5, 6, 0] rfl
        refine lv_iload hx hb dX6_votesFor_63 (lv_at hl 6 rfl) ?_
        refine lv_if_eq (tgt := 98) hx hb dX6_votesFor_65 (by decide) (fun c_1 => ?_) (fun c_1 => ?_)
        · have hf := ip c_1 hf
          refine lv_iinc (v := (x4 + (1 : Int32))) (lv' := [(4, .int (x4 + (1 : Int32))), (0, .ref (Q 14)), (1, .int x1), (2, .int x2), (3, .int x3), (5, .int x5), (6, .int t0)]) hx hb dX6_votesFor_98 hl (k := 4) rfl (congrArg (fun z => x4 + z) (by decide : Int32.ofInt (1) = (1 : Int32))) (by decide) rfl (fun ls hl => ?_)
          have hl := lv_sub (l' := [(0, .ref (Q 14)), (1, .int x1), (2, .int x2), (3, .int x3), (4, .int (x4 + (1 : Int32))), (5, .int x5), (6, .int t0)]) hl [1, 2, 3, 4, 0, 5, 6] rfl
          refine lv_goto (tgt := 5) hx hb dX6_votesFor_101 (by decide) ?_
          exact ih5 x3 (x4 + (1 : Int32)) H locs ls hf h (lv_sub hl [0, 1, 2, 3, 4] rfl)
        · have hf := im c_1 hf
          refine lv_aload_n hx hb dX6_votesFor_68 rfl (lv_at hl 0 rfl) ?_
          refine gX_Sess_city F h hinX6 (hts (.fieldLink RX6 37 "ElectionHouse$Session" "city" "LElectionHouse$City;") (by decide +kernel)) dX6_votesFor_69 ?_
          refine lv_aload_n hx hb dX6_votesFor_72 rfl (lv_at hl 0 rfl) ?_
          refine gX_Sess_city F h hinX6 (hts (.fieldLink RX6 37 "ElectionHouse$Session" "city" "LElectionHouse$City;") (by decide +kernel)) dX6_votesFor_73 ?_
          refine lv_iload hx hb dX6_votesFor_76 (lv_at hl 5 rfl) ?_
          obtain ⟨r3, hc2, hf⟩ := ob1 hf
          refine call_VI F (c_City_partyOf l Z Q s x5 hc2) (cwV 1 hts gX6_votesFor_X0_partyOf rfl rfl rfl (by decide +kernel) ⟨Nat.le_of_ble_eq_true rfl, Nat.le_of_ble_eq_true rfl⟩) h (rcX_City h) rfl hl.1 rfl (Nat.le_of_ble_eq_true rfl) ⟨Nat.zero_le _, Nat.zero_le _⟩ dX6_votesFor_78 (fun H locs h => ?_)
          refine lv_aload_n hx hb dX6_votesFor_81 rfl (lv_at hl 0 rfl) ?_
          refine gX_Sess_city F h hinX6 (hts (.fieldLink RX6 37 "ElectionHouse$Session" "city" "LElectionHouse$City;") (by decide +kernel)) dX6_votesFor_82 ?_
          refine lv_iload_n hx hb dX6_votesFor_85 rfl (lv_at hl 1 rfl) ?_
          obtain ⟨r6, hc5, hf⟩ := ob1 hf
          refine call_VI F (c_City_partyOf l Z Q s x1 hc5) (cwV 1 hts gX6_votesFor_X0_partyOf rfl rfl rfl (by decide +kernel) ⟨Nat.le_of_ble_eq_true rfl, Nat.le_of_ble_eq_true rfl⟩) h (rcX_City h) rfl hl.1 rfl (Nat.le_of_ble_eq_true rfl) ⟨Nat.zero_le _, Nat.zero_le _⟩ dX6_votesFor_86 (fun H locs h => ?_)
          obtain ⟨r9, hc8, hf⟩ := ob1 hf
          refine call_VI F (c_City_saysYes l Z Q s r3 r6 hc8) (cwV 2 hts gX6_votesFor_X0_saysYes rfl rfl rfl (by decide +kernel) ⟨Nat.le_of_ble_eq_true rfl, Nat.le_of_ble_eq_true rfl⟩) h (rcX_City h) rfl hl.1 rfl (Nat.le_of_ble_eq_true rfl) ⟨Nat.zero_le _, Nat.zero_le _⟩ dX6_votesFor_89 (fun H locs h => ?_)
          refine lv_if_eq (tgt := 98) hx hb dX6_votesFor_92 (by decide) (fun c_11 => ?_) (fun c_11 => ?_)
          · have hf := ip c_11 hf
            refine lv_iinc (v := (x4 + (1 : Int32))) (lv' := [(4, .int (x4 + (1 : Int32))), (0, .ref (Q 14)), (1, .int x1), (2, .int x2), (3, .int x3), (5, .int x5), (6, .int t0)]) hx hb dX6_votesFor_98 hl (k := 4) rfl (congrArg (fun z => x4 + z) (by decide : Int32.ofInt (1) = (1 : Int32))) (by decide) rfl (fun ls hl => ?_)
            have hl := lv_sub (l' := [(0, .ref (Q 14)), (1, .int x1), (2, .int x2), (3, .int x3), (4, .int (x4 + (1 : Int32))), (5, .int x5), (6, .int t0)]) hl [1, 2, 3, 4, 0, 5, 6] rfl
            refine lv_goto (tgt := 5) hx hb dX6_votesFor_101 (by decide) ?_
            exact ih5 x3 (x4 + (1 : Int32)) H locs ls hf h (lv_sub hl [0, 1, 2, 3, 4] rfl)
          · have hf := im c_11 hf
            refine lv_iinc (v := (x3 + (1 : Int32))) (lv' := [(3, .int (x3 + (1 : Int32))), (0, .ref (Q 14)), (1, .int x1), (2, .int x2), (4, .int x4), (5, .int x5), (6, .int t0)]) hx hb dX6_votesFor_95 hl (k := 3) rfl (congrArg (fun z => x3 + z) (by decide : Int32.ofInt (1) = (1 : Int32))) (by decide) rfl (fun ls hl => ?_)
            have hl := lv_sub (l' := [(0, .ref (Q 14)), (1, .int x1), (2, .int x2), (3, .int (x3 + (1 : Int32))), (4, .int x4), (5, .int x5), (6, .int t0)]) hl [1, 2, 3, 0, 4, 5, 6] rfl
            refine lv_iinc (v := (x4 + (1 : Int32))) (lv' := [(4, .int (x4 + (1 : Int32))), (0, .ref (Q 14)), (1, .int x1), (2, .int x2), (3, .int (x3 + (1 : Int32))), (5, .int x5), (6, .int t0)]) hx hb dX6_votesFor_98 hl (k := 4) rfl (congrArg (fun z => x4 + z) (by decide : Int32.ofInt (1) = (1 : Int32))) (by decide) rfl (fun ls hl => ?_)
            have hl := lv_sub (l' := [(0, .ref (Q 14)), (1, .int x1), (2, .int x2), (3, .int (x3 + (1 : Int32))), (4, .int (x4 + (1 : Int32))), (5, .int x5), (6, .int t0)]) hl [1, 2, 3, 4, 0, 5, 6] rfl
            refine lv_goto (tgt := 5) hx hb dX6_votesFor_101 (by decide) ?_
            exact ih5 (x3 + (1 : Int32)) (x4 + (1 : Int32)) H locs ls hf h (lv_sub hl [0, 1, 2, 3, 4] rfl)
      refine lv_iload hx hb dX6_votesFor_5 (lv_at hl 4 rfl) ?_
      refine lv_iload_n hx hb dX6_votesFor_7 rfl (lv_at hl 2 rfl) ?_
      refine lv_icmp_ge (tgt := 104) hx hb dX6_votesFor_8 (by decide) (fun c_12 => ?_) (fun c_12 => ?_)
      · have hf := ip c_12 hf
        refine lv_iload_n hx hb dX6_votesFor_104 rfl (lv_at hl 3 rfl) ?_
        exact retE_Ir F hr hlk h hf dX6_votesFor_105
      · have hf := im c_12 hf
        refine lv_aload_n hx hb dX6_votesFor_11 rfl (lv_at hl 0 rfl) ?_
        refine gX_Sess_bodies F h hinX6 (hts (.fieldLink RX6 11 "ElectionHouse$Session" "bodies" "[[I") (by decide +kernel)) dX6_votesFor_12 ?_
        refine lv_aload_n hx hb dX6_votesFor_15 rfl (lv_at hl 0 rfl) ?_
        refine gX_Sess_done F h hinX6 (hts (.fieldLink RX6 49 "ElectionHouse$Session" "done" "I") (by decide +kernel)) dX6_votesFor_16 ?_
        obtain ⟨gi13, hf⟩ := og hf
        refine lX_bodies F h gi13 dX6_votesFor_19 ?_
        have hb14 : (ix (gM s 14 8)) < 13 := (of_decide_eq_true gi13).2
        refine lv_iload hx hb dX6_votesFor_20 (lv_at hl 4 rfl) ?_
        obtain ⟨gi15, hf⟩ := og hf
        refine lX_rows hb14 F h gi15 dX6_votesFor_22 ?_
        refine lv_istore (lv' := [(5, .int (gM s (48 + (ix (gM s 14 8))) (ix x4))), (0, .ref (Q 14)), (1, .int x1), (2, .int x2), (3, .int x3), (4, .int x4)]) hx hb dX6_votesFor_23 hl (by decide) rfl (fun ls hl => ?_)
        have hl := lv_sub (l' := [(0, .ref (Q 14)), (1, .int x1), (2, .int x2), (3, .int x3), (4, .int x4), (5, .int (gM s (48 + (ix (gM s 14 8))) (ix x4)))]) hl [1, 2, 3, 4, 5, 0] rfl
        refine lv_iload hx hb dX6_votesFor_25 (lv_at hl 5 rfl) ?_
        refine lv_iload_n hx hb dX6_votesFor_27 rfl (lv_at hl 1 rfl) ?_
        refine lv_icmp_eq (tgt := 60) hx hb dX6_votesFor_28 (by decide) (fun c_16 => ?_) (fun c_16 => ?_)
        · have hf := ip c_16 hf
          refine lv_iconst (v := (0 : Int32)) hx hb dX6_votesFor_60 (by decide) ?_
          exact lab61 x3 x4 (gM s (48 + (ix (gM s 14 8))) (ix x4)) (0 : Int32) H locs ls hf h (lv_sub hl [0, 1, 2, 3, 4, 5] rfl)
        · have hf := im c_16 hf
          refine lv_aload_n hx hb dX6_votesFor_31 rfl (lv_at hl 0 rfl) ?_
          refine gX_Sess_city F h hinX6 (hts (.fieldLink RX6 37 "ElectionHouse$Session" "city" "LElectionHouse$City;") (by decide +kernel)) dX6_votesFor_32 ?_
          refine lv_iload hx hb dX6_votesFor_35 (lv_at hl 5 rfl) ?_
          obtain ⟨r18, hc17, hf⟩ := ob1 hf
          refine call_VI F (c_City_isThere l Z Q s (gM s (48 + (ix (gM s 14 8))) (ix x4)) hc17) (cwV 1 hts gX6_votesFor_X0_isThere rfl rfl rfl (by decide +kernel) ⟨Nat.le_of_ble_eq_true rfl, Nat.le_of_ble_eq_true rfl⟩) h (rcX_City h) rfl hl.1 rfl (Nat.le_of_ble_eq_true rfl) ⟨Nat.zero_le _, Nat.zero_le _⟩ dX6_votesFor_37 (fun H locs h => ?_)
          refine lv_if_eq (tgt := 60) hx hb dX6_votesFor_40 (by decide) (fun c_20 => ?_) (fun c_20 => ?_)
          · have hf := ip c_20 hf
            refine lv_iconst (v := (0 : Int32)) hx hb dX6_votesFor_60 (by decide) ?_
            exact lab61 x3 x4 (gM s (48 + (ix (gM s 14 8))) (ix x4)) (0 : Int32) H locs ls hf h (lv_sub hl [0, 1, 2, 3, 4, 5] rfl)
          · have hf := im c_20 hf
            refine lv_aload_n hx hb dX6_votesFor_43 rfl (lv_at hl 0 rfl) ?_
            refine gX_Sess_city F h hinX6 (hts (.fieldLink RX6 37 "ElectionHouse$Session" "city" "LElectionHouse$City;") (by decide +kernel)) dX6_votesFor_44 ?_
            refine lv_iload hx hb dX6_votesFor_47 (lv_at hl 5 rfl) ?_
            refine lv_iload_n hx hb dX6_votesFor_49 rfl (lv_at hl 1 rfl) ?_
            obtain ⟨r22, hc21, hf⟩ := ob1 hf
            refine call_VI F (c_City_areKin l Z Q s (gM s (48 + (ix (gM s 14 8))) (ix x4)) x1 hc21) (cwV 2 hts gX6_votesFor_X0_areKin rfl rfl rfl (by decide +kernel) ⟨Nat.le_of_ble_eq_true rfl, Nat.le_of_ble_eq_true rfl⟩) h (rcX_City h) rfl hl.1 rfl (Nat.le_of_ble_eq_true rfl) ⟨Nat.zero_le _, Nat.zero_le _⟩ dX6_votesFor_50 (fun H locs h => ?_)
            refine lv_if_ne (tgt := 60) hx hb dX6_votesFor_53 (by decide) (fun c_24 => ?_) (fun c_24 => ?_)
            · have hf := im c_24 hf
              refine lv_iconst (v := (0 : Int32)) hx hb dX6_votesFor_60 (by decide) ?_
              exact lab61 x3 x4 (gM s (48 + (ix (gM s 14 8))) (ix x4)) (0 : Int32) H locs ls hf h (lv_sub hl [0, 1, 2, 3, 4, 5] rfl)
            · have hf := ip c_24 hf
              refine lv_iconst (v := (1 : Int32)) hx hb dX6_votesFor_56 (by decide) ?_
              refine lv_goto (tgt := 61) hx hb dX6_votesFor_57 (by decide) ?_
              exact lab61 x3 x4 (gM s (48 + (ix (gM s 14 8))) (ix x4)) (1 : Int32) H locs ls hf h (lv_sub hl [0, 1, 2, 3, 4, 5] rfl)
  refine lv_iconst (v := (0 : Int32)) hx hb dX6_votesFor_0 (by decide) ?_
  refine lv_istore_n (lv' := [(3, .int (0 : Int32)), (0, .ref (Q 14)), (1, .int x1), (2, .int x2)]) hx hb dX6_votesFor_1 rfl hl (by decide) rfl (fun ls hl => ?_)
  have hl := lv_sub (l' := [(0, .ref (Q 14)), (1, .int x1), (2, .int x2), (3, .int (0 : Int32))]) hl [1, 2, 3, 0] rfl
  refine lv_iconst (v := (0 : Int32)) hx hb dX6_votesFor_2 (by decide) ?_
  refine lv_istore (lv' := [(4, .int (0 : Int32)), (0, .ref (Q 14)), (1, .int x1), (2, .int x2), (3, .int (0 : Int32))]) hx hb dX6_votesFor_3 hl (by decide) rfl (fun ls hl => ?_)
  have hl := lv_sub (l' := [(0, .ref (Q 14)), (1, .int x1), (2, .int x2), (3, .int (0 : Int32)), (4, .int (0 : Int32))]) hl [1, 2, 3, 4, 0] rfl
  exact lab5 x1 x2 fuelN (0 : Int32) (0 : Int32) H locs ls hf h (lv_sub hl [0, 1, 2, 3, 4] rfl)

set_option maxHeartbeats 8000000 in
set_option maxRecDepth 100000 in
theorem c_Sess_countHouse (l : Launch) (Z : ZT) (Q : Nat → Nat) (s : XS) (x1 : Int32) {s' : XS} (hf : p_Sess_countHouse x1 s = some s') : KV l Z (wX Z Q) yX6_countHouse wsX6_countHouse { frames := 1, cells := 0, slots := 0, locals := 20 } [.ref (Q 14), .int x1] s s' := by
  intro sz
  refine met_entry (cc := cX6_countHouse) (maxL := 2) (ret := none) (by decide) rfl (Nat.le_of_ble_eq_true rfl) sz rfl ?_
  generalize va_A (wX Z Q s) sz = A
  intro p e s0 m args below meth c ls F hr hlk h hl
  have hl : lv_has ls 2 [(0, .ref (Q 14)), (1, .int x1)] := hl
  obtain ⟨hx, hb, hml, hown, hts⟩ := id F
  have hinX6 : ∀ w ∈ wsX60, w ∈ wsX6_countHouse := by decide +kernel
  obtain ⟨H, eH⟩ : ∃ z, z = s0.heap := ⟨_, rfl⟩
  obtain ⟨locs, eL⟩ : ∃ z : List Loc, z = [] := ⟨_, rfl⟩
  rw [← eH, ← eL] at h ⊢
  unfold p_Sess_countHouse at hf
  refine lv_iload_n hx hb dX6_countHouse_0 rfl (lv_at hl 1 rfl) ?_
  obtain ⟨r2, hc1, hf⟩ := ob1 hf
  refine call_SI F (c_City_isHouse l Z (wX Z Q) s x1 hc1) (va_cwS 1 hts gX6_countHouse_X0_isHouse rfl rfl rfl (by decide +kernel) ⟨Nat.le_of_ble_eq_true rfl, Nat.le_of_ble_eq_true rfl⟩) h rfl hl.1 rfl (Nat.le_of_ble_eq_true rfl) ⟨Nat.zero_le _, Nat.zero_le _⟩ dX6_countHouse_1 (fun H locs h => ?_)
  refine lv_if_eq (tgt := 17) hx hb dX6_countHouse_4 (by decide) (fun c_4 => ?_) (fun c_4 => ?_)
  · have hf := ip c_4 hf
    exact retE_V F hr hlk h hf dX6_countHouse_17
  · have hf := im c_4 hf
    refine lv_aload_n hx hb dX6_countHouse_7 rfl (lv_at hl 0 rfl) ?_
    refine gX_Sess_ofHouse F h hinX6 (hts (.fieldLink RX6 23 "ElectionHouse$Session" "ofHouse" "[I") (by decide +kernel)) dX6_countHouse_8 ?_
    refine lv_iload_n hx hb dX6_countHouse_11 rfl (lv_at hl 1 rfl) ?_
    refine lv_dup2_11 hx hb dX6_countHouse_12 rfl rfl ?_
    obtain ⟨gi5, hf⟩ := og hf
    refine lX_ofHouse F h gi5 dX6_countHouse_13 ?_
    refine lv_iconst (v := (1 : Int32)) hx hb dX6_countHouse_14 (by decide) ?_
    refine lv_iadd hx hb dX6_countHouse_15 ?_
    obtain ⟨gi6, hf⟩ := og hf
    refine sX_ofHouse F h gi6 dX6_countHouse_16 (fun H locs h => ?_)
    obtain ⟨s7, es, hf⟩ := olq hf
    rw [← es] at h
    exact retE_V F hr hlk h hf dX6_countHouse_17

set_option maxHeartbeats 8000000 in
set_option maxRecDepth 100000 in
theorem c_Sess_fillByVotes (l : Launch) (Z : ZT) (Q : Nat → Nat) (s : XS) (x1 : Int32) {r : Int32} {s' : XS} (hf : p_Sess_fillByVotes x1 s = some (r, s')) : KI l Z (wX Z Q) yX6_fillByVotes wsX6_fillByVotes { frames := 4, cells := 0, slots := 0, locals := 84 } [.ref (Q 14), .int x1] s r s' := by
  intro sz
  refine met_entry (cc := cX6_fillByVotes) (maxL := 9) (ret := (some .boolean)) (by decide) rfl (Nat.le_of_ble_eq_true rfl) sz rfl ?_
  generalize va_A (wX Z Q s) sz = A
  intro p e s0 m args below meth c ls F hr hlk h hl
  have hl : lv_has ls 9 [(0, .ref (Q 14)), (1, .int x1)] := hl
  obtain ⟨hx, hb, hml, hown, hts⟩ := id F
  have hinX6 : ∀ w ∈ wsX60, w ∈ wsX6_fillByVotes := by decide +kernel
  obtain ⟨H, eH⟩ : ∃ z, z = s0.heap := ⟨_, rfl⟩
  obtain ⟨locs, eL⟩ : ∃ z : List Loc, z = [] := ⟨_, rfl⟩
  rw [← eH, ← eL] at h ⊢
  unfold p_Sess_fillByVotes at hf
  have lab51 : ∀ (x1 : Int32) (x2 : Int32) (x3 : Int32) (x4 : Int32) (n : Nat) (x5 : Int32) (x6 : Int32) (s : XS) (H : Heap) (locs : List Loc) (ls : Array Slot), lo3 (p_Sess_fillByVotes_B51 x1 x2 x3 x4) n x5 x6 s = some (r, s') → HW Z (wX Z Q) A s0 H locs s → lv_has ls 9 [(0, .ref (Q 14)), (1, .int x1), (2, .int x2), (3, .int x3), (4, .int x4), (5, .int x5), (6, .int x6)] → W p l e { frames := 4, cells := 0, slots := 0, locals := 84 } s0 m args below meth c H locs 0 0 (MQ below (QcI Z (wX Z Q) A r s') args s0 0 0 A) (F0 m 51 ls []) := by
    intro x1 x2 x3 x4 n
    induction n with
    | zero => intro x5 x6 s H locs ls hf; exact absurd hf lo3_z
    | succ n ih51 =>
      intro x5 x6 s H locs ls hf h hl
      have hf := lo3_s hf
      generalize lo3 (p_Sess_fillByVotes_B51 x1 x2 x3 x4) n = c51 at hf ih51
      unfold p_Sess_fillByVotes_B51 at hf
      have lab188 : ∀ (x1 : Int32) (x5 : Int32) (s : XS) (H : Heap) (locs : List Loc) (ls : Array Slot), p_Sess_fillByVotes_K188 x1 x5 s = some (r, s') → HW Z (wX Z Q) A s0 H locs s → lv_has ls 9 [(1, .int x1), (5, .int x5)] → W p l e { frames := 4, cells := 0, slots := 0, locals := 84 } s0 m args below meth c H locs 0 0 (MQ below (QcI Z (wX Z Q) A r s') args s0 0 0 A) (F0 m 188 ls []) := by
        intro x1 x5 s H locs ls hf h hl
        unfold p_Sess_fillByVotes_K188 at hf
        refine lv_iload hx hb dX6_fillByVotes_188 (lv_at hl 1 rfl) ?_
        refine lv_iload_n hx hb dX6_fillByVotes_190 rfl (lv_at hl 0 rfl) ?_
        refine lv_icmp_lt (tgt := 198) hx hb dX6_fillByVotes_191 (by decide) (fun c_1 => ?_) (fun c_1 => ?_)
        · have hf := ip c_1 hf
          refine lv_iconst (v := (0 : Int32)) hx hb dX6_fillByVotes_198 (by decide) ?_
          exact retE_Z F hr hlk (by decide) h hf dX6_fillByVotes_199
        · have hf := im c_1 hf
          refine lv_iconst (v := (1 : Int32)) hx hb dX6_fillByVotes_194 (by decide) ?_
          refine lv_goto (tgt := 199) hx hb dX6_fillByVotes_195 (by decide) ?_
          exact retE_Z F hr hlk (by decide) h hf dX6_fillByVotes_199
      have lab119 : ∀ (x5 : Int32) (x6 : Int32) (x7 : Int32) (s : XS) (H : Heap) (locs : List Loc) (ls : Array Slot), p_Sess_fillByVotes_K119 c51 x1 x2 x3 x4 x5 x6 x7 s = some (r, s') → HW Z (wX Z Q) A s0 H locs s → lv_has ls 9 [(0, .ref (Q 14)), (1, .int x1), (2, .int x2), (3, .int x3), (4, .int x4), (5, .int x5), (6, .int x6), (7, .int x7)] → W p l e { frames := 4, cells := 0, slots := 0, locals := 84 } s0 m args below meth c H locs 0 0 (MQ below (QcI Z (wX Z Q) A r s') args s0 0 0 A) (F0 m 119 ls []) := by
        intro x5 x6 x7 s H locs ls hf h hl
        unfold p_Sess_fillByVotes_K119 at hf
        have lab148 : ∀ (x5 : Int32) (x6 : Int32) (x7 : Int32) (x8 : Int32) (t0 : Int32) (t1 : Int32) (t2 : Int32) (s : XS) (H : Heap) (locs : List Loc) (ls : Array Slot), p_Sess_fillByVotes_K148 c51 x1 x2 x3 x4 x5 x6 x7 x8 t0 t1 t2 s = some (r, s') → HW Z (wX Z Q) A s0 H locs s → lv_has ls 9 [(0, .ref (Q 14)), (1, .int x1), (2, .int x2), (3, .int x3), (4, .int x4), (5, .int x5), (6, .int x6), (7, .int x7), (8, .int x8)] → W p l e { frames := 4, cells := 0, slots := 0, locals := 84 } s0 m args below meth c H locs 0 0 (MQ below (QcI Z (wX Z Q) A r s') args s0 0 0 A) (F0 m 148 ls [.int t0, .int t1, .int t2, .ref (Q 12)]) := by
          intro x5 x6 x7 x8 t0 t1 t2 s H locs ls hf h hl
          unfold p_Sess_fillByVotes_K148 at hf
          obtain ⟨s4, hc2, hf⟩ := ob1 hf
          refine call_VV F (c_Poll_note l Z Q s t2 t1 t0 hc2) (cwV 3 hts gX6_fillByVotes_X4_note rfl rfl rfl (by decide +kernel) ⟨Nat.le_of_ble_eq_true rfl, Nat.le_of_ble_eq_true rfl⟩) h (rcX_Poll h) rfl hl.1 rfl (Nat.le_of_ble_eq_true rfl) ⟨Nat.zero_le _, Nat.zero_le _⟩ dX6_fillByVotes_148 (fun H locs h => ?_)
          refine lv_iload hx hb dX6_fillByVotes_151 (lv_at hl 8 rfl) ?_
          refine lv_iload_n hx hb dX6_fillByVotes_153 rfl (lv_at hl 2 rfl) ?_
          refine lv_icmp_lt (tgt := 182) hx hb dX6_fillByVotes_154 (by decide) (fun c_5 => ?_) (fun c_5 => ?_)
          · have hf := ip c_5 hf
            refine lv_iinc (v := (x6 + (1 : Int32))) (lv' := [(6, .int (x6 + (1 : Int32))), (0, .ref (Q 14)), (1, .int x1), (2, .int x2), (3, .int x3), (4, .int x4), (5, .int x5), (7, .int x7), (8, .int x8)]) hx hb dX6_fillByVotes_182 hl (k := 6) rfl (congrArg (fun z => x6 + z) (by decide : Int32.ofInt (1) = (1 : Int32))) (by decide) rfl (fun ls hl => ?_)
            have hl := lv_sub (l' := [(0, .ref (Q 14)), (1, .int x1), (2, .int x2), (3, .int x3), (4, .int x4), (5, .int x5), (6, .int (x6 + (1 : Int32))), (7, .int x7), (8, .int x8)]) hl [1, 2, 3, 4, 5, 6, 0, 7, 8] rfl
            refine lv_goto (tgt := 51) hx hb dX6_fillByVotes_185 (by decide) ?_
            exact ih51 x5 (x6 + (1 : Int32)) s4 H locs ls hf h (lv_sub hl [0, 1, 2, 3, 4, 5, 6] rfl)
          · have hf := im c_5 hf
            refine lv_iload hx hb dX6_fillByVotes_157 (lv_at hl 5 rfl) ?_
            refine lv_bipush (v := (40 : Int32)) hx hb dX6_fillByVotes_159 (by decide) ?_
            refine lv_icmp_ge (tgt := 182) hx hb dX6_fillByVotes_161 (by decide) (fun c_6 => ?_) (fun c_6 => ?_)
            · have hf := ip c_6 hf
              refine lv_iinc (v := (x6 + (1 : Int32))) (lv' := [(6, .int (x6 + (1 : Int32))), (0, .ref (Q 14)), (1, .int x1), (2, .int x2), (3, .int x3), (4, .int x4), (5, .int x5), (7, .int x7), (8, .int x8)]) hx hb dX6_fillByVotes_182 hl (k := 6) rfl (congrArg (fun z => x6 + z) (by decide : Int32.ofInt (1) = (1 : Int32))) (by decide) rfl (fun ls hl => ?_)
              have hl := lv_sub (l' := [(0, .ref (Q 14)), (1, .int x1), (2, .int x2), (3, .int x3), (4, .int x4), (5, .int x5), (6, .int (x6 + (1 : Int32))), (7, .int x7), (8, .int x8)]) hl [1, 2, 3, 4, 5, 6, 0, 7, 8] rfl
              refine lv_goto (tgt := 51) hx hb dX6_fillByVotes_185 (by decide) ?_
              exact ih51 x5 (x6 + (1 : Int32)) s4 H locs ls hf h (lv_sub hl [0, 1, 2, 3, 4, 5, 6] rfl)
            · have hf := im c_6 hf
              refine lv_aload_n hx hb dX6_fillByVotes_164 rfl (lv_at hl 0 rfl) ?_
              refine gX_Sess_row F h hinX6 (hts (.fieldLink RX6 20 "ElectionHouse$Session" "row" "[I") (by decide +kernel)) dX6_fillByVotes_165 ?_
              refine lv_iload hx hb dX6_fillByVotes_168 (lv_at hl 5 rfl) ?_
              refine lv_iload hx hb dX6_fillByVotes_170 (lv_at hl 6 rfl) ?_
              obtain ⟨gi7, hf⟩ := og hf
              refine sX_srow F h gi7 dX6_fillByVotes_172 (fun H locs h => ?_)
              obtain ⟨s8, es, hf⟩ := olq hf
              rw [← es] at h
              refine lv_iinc (v := (x5 + (1 : Int32))) (lv' := [(5, .int (x5 + (1 : Int32))), (0, .ref (Q 14)), (1, .int x1), (2, .int x2), (3, .int x3), (4, .int x4), (6, .int x6), (7, .int x7), (8, .int x8)]) hx hb dX6_fillByVotes_173 hl (k := 5) rfl (congrArg (fun z => x5 + z) (by decide : Int32.ofInt (1) = (1 : Int32))) (by decide) rfl (fun ls hl => ?_)
              have hl := lv_sub (l' := [(0, .ref (Q 14)), (1, .int x1), (2, .int x2), (3, .int x3), (4, .int x4), (5, .int (x5 + (1 : Int32))), (6, .int x6), (7, .int x7), (8, .int x8)]) hl [1, 2, 3, 4, 5, 0, 6, 7, 8] rfl
              refine lv_aload_n hx hb dX6_fillByVotes_176 rfl (lv_at hl 0 rfl) ?_
              refine lv_iload hx hb dX6_fillByVotes_177 (lv_at hl 7 rfl) ?_
              obtain ⟨s11, hc9, hf⟩ := ob1 hf
              refine call_VV F (c_Sess_countHouse l Z Q s8 x7 hc9) (cwV 1 hts gX6_fillByVotes_X6_countHouse rfl rfl rfl (by decide +kernel) ⟨Nat.le_of_ble_eq_true rfl, Nat.le_of_ble_eq_true rfl⟩) h (rcX_Sess h) rfl hl.1 rfl (Nat.le_of_ble_eq_true rfl) ⟨Nat.zero_le _, Nat.zero_le _⟩ dX6_fillByVotes_179 (fun H locs h => ?_)
              refine lv_iinc (v := (x6 + (1 : Int32))) (lv' := [(6, .int (x6 + (1 : Int32))), (0, .ref (Q 14)), (1, .int x1), (2, .int x2), (3, .int x3), (4, .int x4), (5, .int (x5 + (1 : Int32))), (7, .int x7), (8, .int x8)]) hx hb dX6_fillByVotes_182 hl (k := 6) rfl (congrArg (fun z => x6 + z) (by decide : Int32.ofInt (1) = (1 : Int32))) (by decide) rfl (fun ls hl => ?_)
              have hl := lv_sub (l' := [(0, .ref (Q 14)), (1, .int x1), (2, .int x2), (3, .int x3), (4, .int x4), (5, .int (x5 + (1 : Int32))), (6, .int (x6 + (1 : Int32))), (7, .int x7), (8, .int x8)]) hl [1, 2, 3, 4, 5, 6, 0, 7, 8] rfl
              refine lv_goto (tgt := 51) hx hb dX6_fillByVotes_185 (by decide) ?_
              exact ih51 (x5 + (1 : Int32)) (x6 + (1 : Int32)) s11 H locs ls hf h (lv_sub hl [0, 1, 2, 3, 4, 5, 6] rfl)
        refine lv_aload_n hx hb dX6_fillByVotes_119 rfl (lv_at hl 0 rfl) ?_
        refine lv_iload hx hb dX6_fillByVotes_120 (lv_at hl 6 rfl) ?_
        refine lv_iload hx hb dX6_fillByVotes_122 (lv_at hl 4 rfl) ?_
        obtain ⟨r13, hc12, hf⟩ := ob1 hf
        refine call_VI F (c_Sess_votesFor l Z Q s x6 x4 hc12) (cwV 2 hts gX6_fillByVotes_X6_votesFor rfl rfl rfl (by decide +kernel) ⟨Nat.le_of_ble_eq_true rfl, Nat.le_of_ble_eq_true rfl⟩) h (rcX_Sess h) rfl hl.1 rfl (Nat.le_of_ble_eq_true rfl) ⟨Nat.zero_le _, Nat.zero_le _⟩ dX6_fillByVotes_124 (fun H locs h => ?_)
        refine lv_istore (lv' := [(8, .int r13), (0, .ref (Q 14)), (1, .int x1), (2, .int x2), (3, .int x3), (4, .int x4), (5, .int x5), (6, .int x6), (7, .int x7)]) hx hb dX6_fillByVotes_127 hl (by decide) rfl (fun ls hl => ?_)
        have hl := lv_sub (l' := [(0, .ref (Q 14)), (1, .int x1), (2, .int x2), (3, .int x3), (4, .int x4), (5, .int x5), (6, .int x6), (7, .int x7), (8, .int r13)]) hl [1, 2, 3, 4, 5, 6, 7, 8, 0] rfl
        refine lv_aload_n hx hb dX6_fillByVotes_129 rfl (lv_at hl 0 rfl) ?_
        refine gX_Sess_poll F h hinX6 (hts (.fieldLink RX6 45 "ElectionHouse$Session" "poll" "LElectionHouse$Poll;") (by decide +kernel)) dX6_fillByVotes_130 ?_
        refine lv_iload hx hb dX6_fillByVotes_133 (lv_at hl 6 rfl) ?_
        refine lv_iload hx hb dX6_fillByVotes_135 (lv_at hl 8 rfl) ?_
        refine lv_iload hx hb dX6_fillByVotes_137 (lv_at hl 8 rfl) ?_
        refine lv_iload_n hx hb dX6_fillByVotes_139 rfl (lv_at hl 2 rfl) ?_
        refine lv_icmp_lt (tgt := 147) hx hb dX6_fillByVotes_140 (by decide) (fun c_15 => ?_) (fun c_15 => ?_)
        · have hf := ip c_15 hf
          refine lv_iconst (v := (0 : Int32)) hx hb dX6_fillByVotes_147 (by decide) ?_
          exact lab148 x5 x6 x7 r13 (0 : Int32) r13 x6 s H locs ls hf h (lv_sub hl [0, 1, 2, 3, 4, 5, 6, 7, 8] rfl)
        · have hf := im c_15 hf
          refine lv_iconst (v := (1 : Int32)) hx hb dX6_fillByVotes_143 (by decide) ?_
          refine lv_goto (tgt := 148) hx hb dX6_fillByVotes_144 (by decide) ?_
          exact lab148 x5 x6 x7 r13 (1 : Int32) r13 x6 s H locs ls hf h (lv_sub hl [0, 1, 2, 3, 4, 5, 6, 7, 8] rfl)
      refine lv_iload hx hb dX6_fillByVotes_51 (lv_at hl 6 rfl) ?_
      refine lv_aload_n hx hb dX6_fillByVotes_53 rfl (lv_at hl 0 rfl) ?_
      refine gX_Sess_city F h hinX6 (hts (.fieldLink RX6 37 "ElectionHouse$Session" "city" "LElectionHouse$City;") (by decide +kernel)) dX6_fillByVotes_54 ?_
      obtain ⟨r17, hc16, hf⟩ := ob1 hf
      refine call_VI F (c_City_size l Z Q s hc16) (cwV 0 hts gX6_fillByVotes_X0_size rfl rfl rfl (by decide +kernel) ⟨Nat.le_of_ble_eq_true rfl, Nat.le_of_ble_eq_true rfl⟩) h (rcX_City h) rfl hl.1 rfl (Nat.le_of_ble_eq_true rfl) ⟨Nat.zero_le _, Nat.zero_le _⟩ dX6_fillByVotes_57 (fun H locs h => ?_)
      refine lv_icmp_ge (tgt := 188) hx hb dX6_fillByVotes_60 (by decide) (fun c_19 => ?_) (fun c_19 => ?_)
      · have hf := ip c_19 hf
        exact lab188 x1 x5 s H locs ls hf h (lv_sub hl [1, 5] rfl)
      · have hf := im c_19 hf
        refine lv_iload hx hb dX6_fillByVotes_63 (lv_at hl 5 rfl) ?_
        refine lv_iload_n hx hb dX6_fillByVotes_65 rfl (lv_at hl 1 rfl) ?_
        refine lv_icmp_ge (tgt := 188) hx hb dX6_fillByVotes_66 (by decide) (fun c_20 => ?_) (fun c_20 => ?_)
        · have hf := ip c_20 hf
          exact lab188 x1 x5 s H locs ls hf h (lv_sub hl [1, 5] rfl)
        · have hf := im c_20 hf
          refine lv_aload_n hx hb dX6_fillByVotes_69 rfl (lv_at hl 0 rfl) ?_
          refine gX_Sess_city F h hinX6 (hts (.fieldLink RX6 37 "ElectionHouse$Session" "city" "LElectionHouse$City;") (by decide +kernel)) dX6_fillByVotes_70 ?_
          refine lv_iload hx hb dX6_fillByVotes_73 (lv_at hl 6 rfl) ?_
          obtain ⟨r22, hc21, hf⟩ := ob1 hf
          refine call_VI F (c_City_isThere l Z Q s x6 hc21) (cwV 1 hts gX6_fillByVotes_X0_isThere rfl rfl rfl (by decide +kernel) ⟨Nat.le_of_ble_eq_true rfl, Nat.le_of_ble_eq_true rfl⟩) h (rcX_City h) rfl hl.1 rfl (Nat.le_of_ble_eq_true rfl) ⟨Nat.zero_le _, Nat.zero_le _⟩ dX6_fillByVotes_75 (fun H locs h => ?_)
          refine lv_if_ne (tgt := 84) hx hb dX6_fillByVotes_78 (by decide) (fun c_24 => ?_) (fun c_24 => ?_)
          · have hf := im c_24 hf
            refine lv_aload_n hx hb dX6_fillByVotes_84 rfl (lv_at hl 0 rfl) ?_
            refine gX_Sess_city F h hinX6 (hts (.fieldLink RX6 37 "ElectionHouse$Session" "city" "LElectionHouse$City;") (by decide +kernel)) dX6_fillByVotes_85 ?_
            refine lv_iload hx hb dX6_fillByVotes_88 (lv_at hl 6 rfl) ?_
            obtain ⟨r26, hc25, hf⟩ := ob1 hf
            refine call_VI F (c_City_houseOf l Z Q s x6 hc25) (cwV 1 hts gX6_fillByVotes_X0_houseOf rfl rfl rfl (by decide +kernel) ⟨Nat.le_of_ble_eq_true rfl, Nat.le_of_ble_eq_true rfl⟩) h (rcX_City h) rfl hl.1 rfl (Nat.le_of_ble_eq_true rfl) ⟨Nat.zero_le _, Nat.zero_le _⟩ dX6_fillByVotes_90 (fun H locs h => ?_)
            refine lv_istore (lv' := [(7, .int r26), (0, .ref (Q 14)), (1, .int x1), (2, .int x2), (3, .int x3), (4, .int x4), (5, .int x5), (6, .int x6)]) hx hb dX6_fillByVotes_93 hl (by decide) rfl (fun ls hl => ?_)
            have hl := lv_sub (l' := [(0, .ref (Q 14)), (1, .int x1), (2, .int x2), (3, .int x3), (4, .int x4), (5, .int x5), (6, .int x6), (7, .int r26)]) hl [1, 2, 3, 4, 5, 6, 7, 0] rfl
            refine lv_iload_n hx hb dX6_fillByVotes_95 rfl (lv_at hl 3 rfl) ?_
            refine lv_if_le (tgt := 119) hx hb dX6_fillByVotes_96 (by decide) (fun c_28 => ?_) (fun c_28 => ?_)
            · have hf := ip c_28 hf
              exact lab119 x5 x6 r26 s H locs ls hf h (lv_sub hl [0, 1, 2, 3, 4, 5, 6, 7] rfl)
            · have hf := im c_28 hf
              refine lv_aload_n hx hb dX6_fillByVotes_99 rfl (lv_at hl 0 rfl) ?_
              refine lv_iload hx hb dX6_fillByVotes_100 (lv_at hl 7 rfl) ?_
              obtain ⟨r30, hc29, hf⟩ := ob1 hf
              refine call_VI F (c_Sess_chosenOf l Z Q s r26 hc29) (cwV 1 hts gX6_fillByVotes_X6_chosenOf rfl rfl rfl (by decide +kernel) ⟨Nat.le_of_ble_eq_true rfl, Nat.le_of_ble_eq_true rfl⟩) h (rcX_Sess h) rfl hl.1 rfl (Nat.le_of_ble_eq_true rfl) ⟨Nat.zero_le _, Nat.zero_le _⟩ dX6_fillByVotes_102 (fun H locs h => ?_)
              refine lv_iload_n hx hb dX6_fillByVotes_105 rfl (lv_at hl 3 rfl) ?_
              refine lv_icmp_lt (tgt := 119) hx hb dX6_fillByVotes_106 (by decide) (fun c_32 => ?_) (fun c_32 => ?_)
              · have hf := ip c_32 hf
                exact lab119 x5 x6 r26 s H locs ls hf h (lv_sub hl [0, 1, 2, 3, 4, 5, 6, 7] rfl)
              · have hf := im c_32 hf
                refine lv_aload_n hx hb dX6_fillByVotes_109 rfl (lv_at hl 0 rfl) ?_
                refine gX_Sess_poll F h hinX6 (hts (.fieldLink RX6 45 "ElectionHouse$Session" "poll" "LElectionHouse$Poll;") (by decide +kernel)) dX6_fillByVotes_110 ?_
                obtain ⟨s35, hc33, hf⟩ := ob1 hf
                refine call_VV F (c_Poll_bar l Z Q s hc33) (cwV 0 hts gX6_fillByVotes_X4_bar rfl rfl rfl (by decide +kernel) ⟨Nat.le_of_ble_eq_true rfl, Nat.le_of_ble_eq_true rfl⟩) h (rcX_Poll h) rfl hl.1 rfl (Nat.le_of_ble_eq_true rfl) ⟨Nat.zero_le _, Nat.zero_le _⟩ dX6_fillByVotes_113 (fun H locs h => ?_)
                refine lv_goto (tgt := 182) hx hb dX6_fillByVotes_116 (by decide) ?_
                refine lv_iinc (v := (x6 + (1 : Int32))) (lv' := [(6, .int (x6 + (1 : Int32))), (0, .ref (Q 14)), (1, .int x1), (2, .int x2), (3, .int x3), (4, .int x4), (5, .int x5), (7, .int r26)]) hx hb dX6_fillByVotes_182 hl (k := 6) rfl (congrArg (fun z => x6 + z) (by decide : Int32.ofInt (1) = (1 : Int32))) (by decide) rfl (fun ls hl => ?_)
                have hl := lv_sub (l' := [(0, .ref (Q 14)), (1, .int x1), (2, .int x2), (3, .int x3), (4, .int x4), (5, .int x5), (6, .int (x6 + (1 : Int32))), (7, .int r26)]) hl [1, 2, 3, 4, 5, 6, 0, 7] rfl
                refine lv_goto (tgt := 51) hx hb dX6_fillByVotes_185 (by decide) ?_
                exact ih51 x5 (x6 + (1 : Int32)) s35 H locs ls hf h (lv_sub hl [0, 1, 2, 3, 4, 5, 6] rfl)
          · have hf := ip c_24 hf
            refine lv_goto (tgt := 182) hx hb dX6_fillByVotes_81 (by decide) ?_
            refine lv_iinc (v := (x6 + (1 : Int32))) (lv' := [(6, .int (x6 + (1 : Int32))), (0, .ref (Q 14)), (1, .int x1), (2, .int x2), (3, .int x3), (4, .int x4), (5, .int x5)]) hx hb dX6_fillByVotes_182 hl (k := 6) rfl (congrArg (fun z => x6 + z) (by decide : Int32.ofInt (1) = (1 : Int32))) (by decide) rfl (fun ls hl => ?_)
            have hl := lv_sub (l' := [(0, .ref (Q 14)), (1, .int x1), (2, .int x2), (3, .int x3), (4, .int x4), (5, .int x5), (6, .int (x6 + (1 : Int32)))]) hl [1, 2, 3, 4, 5, 6, 0] rfl
            refine lv_goto (tgt := 51) hx hb dX6_fillByVotes_185 (by decide) ?_
            exact ih51 x5 (x6 + (1 : Int32)) s H locs ls hf h (lv_sub hl [0, 1, 2, 3, 4, 5, 6] rfl)
  refine lv_aload_n hx hb dX6_fillByVotes_0 rfl (lv_at hl 0 rfl) ?_
  refine gX_Sess_plan F h hinX6 (hts (.fieldLink RX6 29 "ElectionHouse$Session" "plan" "LElectionHouse$Plan;") (by decide +kernel)) dX6_fillByVotes_1 ?_
  have hb36 : (gG s 14 7) < 2 := h.2.2.2.2.2.1 _ _
  refine lv_aload_n hx hb dX6_fillByVotes_4 rfl (lv_at hl 0 rfl) ?_
  refine gX_Sess_done F h hinX6 (hts (.fieldLink RX6 49 "ElectionHouse$Session" "done" "I") (by decide +kernel)) dX6_fillByVotes_5 ?_
  obtain ⟨r38, hc37, hf⟩ := ob1 hf
  refine call_VI F (c_Plan_votesOf l Z Q s (gG s 14 7) (gM s 14 8) hb36 hc37) (cwV 1 hts gX6_fillByVotes_X3_votesOf rfl rfl rfl (by decide +kernel) ⟨Nat.le_of_ble_eq_true rfl, Nat.le_of_ble_eq_true rfl⟩) h (rcX_Plan hb36 h) rfl hl.1 rfl (Nat.le_of_ble_eq_true rfl) ⟨Nat.zero_le _, Nat.zero_le _⟩ dX6_fillByVotes_8 (fun H locs h => ?_)
  refine lv_istore_n (lv' := [(2, .int r38), (0, .ref (Q 14)), (1, .int x1)]) hx hb dX6_fillByVotes_11 rfl hl (by decide) rfl (fun ls hl => ?_)
  have hl := lv_sub (l' := [(0, .ref (Q 14)), (1, .int x1), (2, .int r38)]) hl [1, 2, 0] rfl
  refine lv_aload_n hx hb dX6_fillByVotes_12 rfl (lv_at hl 0 rfl) ?_
  refine gX_Sess_plan F h hinX6 (hts (.fieldLink RX6 29 "ElectionHouse$Session" "plan" "LElectionHouse$Plan;") (by decide +kernel)) dX6_fillByVotes_13 ?_
  have hb40 : (gG s 14 7) < 2 := h.2.2.2.2.2.1 _ _
  refine lv_aload_n hx hb dX6_fillByVotes_16 rfl (lv_at hl 0 rfl) ?_
  refine gX_Sess_done F h hinX6 (hts (.fieldLink RX6 49 "ElectionHouse$Session" "done" "I") (by decide +kernel)) dX6_fillByVotes_17 ?_
  obtain ⟨r42, hc41, hf⟩ := ob1 hf
  refine call_VI F (c_Plan_limitOf l Z Q s (gG s 14 7) (gM s 14 8) hb40 hc41) (cwV 1 hts gX6_fillByVotes_X3_limitOf rfl rfl rfl (by decide +kernel) ⟨Nat.le_of_ble_eq_true rfl, Nat.le_of_ble_eq_true rfl⟩) h (rcX_Plan hb40 h) rfl hl.1 rfl (Nat.le_of_ble_eq_true rfl) ⟨Nat.zero_le _, Nat.zero_le _⟩ dX6_fillByVotes_20 (fun H locs h => ?_)
  refine lv_istore_n (lv' := [(3, .int r42), (0, .ref (Q 14)), (1, .int x1), (2, .int r38)]) hx hb dX6_fillByVotes_23 rfl hl (by decide) rfl (fun ls hl => ?_)
  have hl := lv_sub (l' := [(0, .ref (Q 14)), (1, .int x1), (2, .int r38), (3, .int r42)]) hl [1, 2, 3, 0] rfl
  refine lv_aload_n hx hb dX6_fillByVotes_24 rfl (lv_at hl 0 rfl) ?_
  obtain ⟨r45, s46, hc44, hf⟩ := ob2 hf
  refine call_VI F (c_Sess_bodySize l Z Q s hc44) (cwV 0 hts gX6_fillByVotes_X6_bodySize rfl rfl rfl (by decide +kernel) ⟨Nat.le_of_ble_eq_true rfl, Nat.le_of_ble_eq_true rfl⟩) h (rcX_Sess h) rfl hl.1 rfl (Nat.le_of_ble_eq_true rfl) ⟨Nat.zero_le _, Nat.zero_le _⟩ dX6_fillByVotes_25 (fun H locs h => ?_)
  refine lv_istore (lv' := [(4, .int r45), (0, .ref (Q 14)), (1, .int x1), (2, .int r38), (3, .int r42)]) hx hb dX6_fillByVotes_28 hl (by decide) rfl (fun ls hl => ?_)
  have hl := lv_sub (l' := [(0, .ref (Q 14)), (1, .int x1), (2, .int r38), (3, .int r42), (4, .int r45)]) hl [1, 2, 3, 4, 0] rfl
  refine lv_iconst (v := (0 : Int32)) hx hb dX6_fillByVotes_30 (by decide) ?_
  refine lv_istore (lv' := [(5, .int (0 : Int32)), (0, .ref (Q 14)), (1, .int x1), (2, .int r38), (3, .int r42), (4, .int r45)]) hx hb dX6_fillByVotes_31 hl (by decide) rfl (fun ls hl => ?_)
  have hl := lv_sub (l' := [(0, .ref (Q 14)), (1, .int x1), (2, .int r38), (3, .int r42), (4, .int r45), (5, .int (0 : Int32))]) hl [1, 2, 3, 4, 5, 0] rfl
  refine lv_aload_n hx hb dX6_fillByVotes_33 rfl (lv_at hl 0 rfl) ?_
  refine gX_Sess_poll F h hinX6 (hts (.fieldLink RX6 45 "ElectionHouse$Session" "poll" "LElectionHouse$Poll;") (by decide +kernel)) dX6_fillByVotes_34 ?_
  obtain ⟨s49, hc47, hf⟩ := ob1 hf
  refine call_VV F (c_Poll_open l Z Q s46 hc47) (cwV 0 hts gX6_fillByVotes_X4_open rfl rfl rfl (by decide +kernel) ⟨Nat.le_of_ble_eq_true rfl, Nat.le_of_ble_eq_true rfl⟩) h (rcX_Poll h) rfl hl.1 rfl (Nat.le_of_ble_eq_true rfl) ⟨Nat.zero_le _, Nat.zero_le _⟩ dX6_fillByVotes_37 (fun H locs h => ?_)
  refine lv_aload_n hx hb dX6_fillByVotes_40 rfl (lv_at hl 0 rfl) ?_
  refine gX_Sess_ofHouse F h hinX6 (hts (.fieldLink RX6 23 "ElectionHouse$Session" "ofHouse" "[I") (by decide +kernel)) dX6_fillByVotes_41 ?_
  refine lv_iconst (v := (0 : Int32)) hx hb dX6_fillByVotes_44 (by decide) ?_
  obtain ⟨s52, hc50, hf⟩ := ob1 hf
  refine call_SV F (c_fill_ofHouse l Z Q s49 (0 : Int32) hc50) (va_cwS 2 hts gX6_fillByVotes_J7_fill_53178 rfl rfl rfl (by decide +kernel) ⟨Nat.le_of_ble_eq_true rfl, Nat.le_of_ble_eq_true rfl⟩) h rfl hl.1 rfl (Nat.le_of_ble_eq_true rfl) ⟨Nat.zero_le _, Nat.zero_le _⟩ dX6_fillByVotes_45 (fun H locs h => ?_)
  refine lv_iconst (v := (0 : Int32)) hx hb dX6_fillByVotes_48 (by decide) ?_
  refine lv_istore (lv' := [(6, .int (0 : Int32)), (0, .ref (Q 14)), (1, .int x1), (2, .int r38), (3, .int r42), (4, .int r45), (5, .int (0 : Int32))]) hx hb dX6_fillByVotes_49 hl (by decide) rfl (fun ls hl => ?_)
  have hl := lv_sub (l' := [(0, .ref (Q 14)), (1, .int x1), (2, .int r38), (3, .int r42), (4, .int r45), (5, .int (0 : Int32)), (6, .int (0 : Int32))]) hl [1, 2, 3, 4, 5, 6, 0] rfl
  exact lab51 x1 r38 r42 r45 fuelN (0 : Int32) (0 : Int32) s52 H locs ls hf h (lv_sub hl [0, 1, 2, 3, 4, 5, 6] rfl)

set_option maxHeartbeats 8000000 in
set_option maxRecDepth 100000 in
theorem c_Sess_choose (l : Launch) (Z : ZT) (Q : Nat → Nat) (s : XS) {r : Int32} {s' : XS} (hf : p_Sess_choose s = some (r, s')) : KI l Z (wX Z Q) yX6_choose wsX6_choose { frames := 5, cells := 0, slots := 0, locals := 112 } [.ref (Q 14)] s r s' := by
  intro sz
  refine met_entry (cc := cX6_choose) (maxL := 2) (ret := (some .int)) (by decide) rfl (Nat.le_of_ble_eq_true rfl) sz rfl ?_
  generalize va_A (wX Z Q s) sz = A
  intro p e s0 m args below meth c ls F hr hlk h hl
  have hl : lv_has ls 2 [(0, .ref (Q 14))] := hl
  obtain ⟨hx, hb, hml, hown, hts⟩ := id F
  have hinX6 : ∀ w ∈ wsX60, w ∈ wsX6_choose := by decide +kernel
  obtain ⟨H, eH⟩ : ∃ z, z = s0.heap := ⟨_, rfl⟩
  obtain ⟨locs, eL⟩ : ∃ z : List Loc, z = [] := ⟨_, rfl⟩
  rw [← eH, ← eL] at h ⊢
  unfold p_Sess_choose at hf
  refine lv_aload_n hx hb dX6_choose_0 rfl (lv_at hl 0 rfl) ?_
  refine gX_Sess_plan F h hinX6 (hts (.fieldLink RX6 29 "ElectionHouse$Session" "plan" "LElectionHouse$Plan;") (by decide +kernel)) dX6_choose_1 ?_
  have hb1 : (gG s 14 7) < 2 := h.2.2.2.2.2.1 _ _
  refine lv_aload_n hx hb dX6_choose_4 rfl (lv_at hl 0 rfl) ?_
  refine gX_Sess_done F h hinX6 (hts (.fieldLink RX6 49 "ElectionHouse$Session" "done" "I") (by decide +kernel)) dX6_choose_5 ?_
  obtain ⟨r3, hc2, hf⟩ := ob1 hf
  refine call_VI F (c_Plan_sizeOf l Z Q s (gG s 14 7) (gM s 14 8) hb1 hc2) (cwV 1 hts gX6_choose_X3_sizeOf rfl rfl rfl (by decide +kernel) ⟨Nat.le_of_ble_eq_true rfl, Nat.le_of_ble_eq_true rfl⟩) h (rcX_Plan hb1 h) rfl hl.1 rfl (Nat.le_of_ble_eq_true rfl) ⟨Nat.zero_le _, Nat.zero_le _⟩ dX6_choose_8 (fun H locs h => ?_)
  refine lv_istore_n (lv' := [(1, .int r3), (0, .ref (Q 14))]) hx hb dX6_choose_11 rfl hl (by decide) rfl (fun ls hl => ?_)
  have hl := lv_sub (l' := [(0, .ref (Q 14)), (1, .int r3)]) hl [1, 0] rfl
  refine lv_aload_n hx hb dX6_choose_12 rfl (lv_at hl 0 rfl) ?_
  refine lv_iload_n hx hb dX6_choose_13 rfl (lv_at hl 1 rfl) ?_
  obtain ⟨r6, s7, hc5, hf⟩ := ob2 hf
  refine call_VI F (c_Sess_fillByVotes l Z Q s r3 hc5) (cwV 1 hts gX6_choose_X6_fillByVotes rfl rfl rfl (by decide +kernel) ⟨Nat.le_of_ble_eq_true rfl, Nat.le_of_ble_eq_true rfl⟩) h (rcX_Sess h) rfl hl.1 rfl (Nat.le_of_ble_eq_true rfl) ⟨Nat.zero_le _, Nat.zero_le _⟩ dX6_choose_14 (fun H locs h => ?_)
  refine lv_if_ne (tgt := 22) hx hb dX6_choose_17 (by decide) (fun c_8 => ?_) (fun c_8 => ?_)
  · have hf := im c_8 hf
    refine lv_aload_n hx hb dX6_choose_22 rfl (lv_at hl 0 rfl) ?_
    refine gX_Sess_row F h hinX6 (hts (.fieldLink RX6 20 "ElectionHouse$Session" "row" "[I") (by decide +kernel)) dX6_choose_23 ?_
    refine lv_iconst (v := (0 : Int32)) hx hb dX6_choose_26 (by decide) ?_
    refine lv_aload_n hx hb dX6_choose_27 rfl (lv_at hl 0 rfl) ?_
    refine gX_Sess_bodies F h hinX6 (hts (.fieldLink RX6 11 "ElectionHouse$Session" "bodies" "[[I") (by decide +kernel)) dX6_choose_28 ?_
    refine lv_aload_n hx hb dX6_choose_31 rfl (lv_at hl 0 rfl) ?_
    refine gX_Sess_done F h hinX6 (hts (.fieldLink RX6 49 "ElectionHouse$Session" "done" "I") (by decide +kernel)) dX6_choose_32 ?_
    refine lv_iconst (v := (1 : Int32)) hx hb dX6_choose_35 (by decide) ?_
    refine lv_iadd hx hb dX6_choose_36 ?_
    obtain ⟨gi9, hf⟩ := og hf
    refine lX_bodies F h gi9 dX6_choose_37 ?_
    have hb10 : (ix ((gM s7 14 8) + (1 : Int32))) < 13 := (of_decide_eq_true gi9).2
    refine lv_iconst (v := (0 : Int32)) hx hb dX6_choose_38 (by decide) ?_
    refine lv_iload_n hx hb dX6_choose_39 rfl (lv_at hl 1 rfl) ?_
    obtain ⟨gc11, hf⟩ := og hf
    refine cpX_srow_rows hb10 F (by rw [hml]; exact hl.1.symm) h gc11 (hts (.methodLink RX6 87 arraycopyName) (by decide +kernel)) (hts (.native arraycopyName) (by decide +kernel)) (hts (.static arraycopyName) (by decide +kernel)) (hts (.initialized "java/lang/System") (by decide +kernel)) (Nat.le_of_ble_eq_true rfl) (Nat.le_of_ble_eq_true rfl) dX6_choose_40 (fun H locs h => ?_)
    obtain ⟨s12, es, hf⟩ := olq hf
    rw [← es] at h
    refine lv_aload_n hx hb dX6_choose_43 rfl (lv_at hl 0 rfl) ?_
    refine lv_iload_n hx hb dX6_choose_44 rfl (lv_at hl 1 rfl) ?_
    obtain ⟨s15, hc13, hf⟩ := ob1 hf
    refine call_VV F (c_Sess_stand l Z Q s12 r3 hc13) (cwV 1 hts gX6_choose_X6_stand rfl rfl rfl (by decide +kernel) ⟨Nat.le_of_ble_eq_true rfl, Nat.le_of_ble_eq_true rfl⟩) h (rcX_Sess h) rfl hl.1 rfl (Nat.le_of_ble_eq_true rfl) ⟨Nat.zero_le _, Nat.zero_le _⟩ dX6_choose_45 (fun H locs h => ?_)
    refine lv_iconst (v := (0 : Int32)) hx hb dX6_choose_48 (by decide) ?_
    exact retE_I F hr hlk h hf dX6_choose_49
  · have hf := ip c_8 hf
    refine lv_iconst (v := (2 : Int32)) hx hb dX6_choose_20 (by decide) ?_
    exact retE_I F hr hlk h hf dX6_choose_21

set_option maxHeartbeats 8000000 in
set_option maxRecDepth 100000 in
theorem c_Sess_elect (l : Launch) (Z : ZT) (Q : Nat → Nat) (s : XS) {r : Int32} {s' : XS} (hf : p_Sess_elect s = some (r, s')) : KI l Z (wX Z Q) yX6_elect wsX6_elect { frames := 5, cells := 0, slots := 0, locals := 112 } [.ref (Q 14)] s r s' := by
  intro sz
  refine met_entry (cc := cX6_elect) (maxL := 2) (ret := (some .int)) (by decide) rfl (Nat.le_of_ble_eq_true rfl) sz rfl ?_
  generalize va_A (wX Z Q s) sz = A
  intro p e s0 m args below meth c ls F hr hlk h hl
  have hl : lv_has ls 2 [(0, .ref (Q 14))] := hl
  obtain ⟨hx, hb, hml, hown, hts⟩ := id F
  have hinX6 : ∀ w ∈ wsX60, w ∈ wsX6_elect := by decide +kernel
  obtain ⟨H, eH⟩ : ∃ z, z = s0.heap := ⟨_, rfl⟩
  obtain ⟨locs, eL⟩ : ∃ z : List Loc, z = [] := ⟨_, rfl⟩
  rw [← eH, ← eL] at h ⊢
  unfold p_Sess_elect at hf
  refine lv_aload_n hx hb dX6_elect_0 rfl (lv_at hl 0 rfl) ?_
  refine lv_iconst (v := (1 : Int32)) hx hb dX6_elect_1 (by decide) ?_
  obtain ⟨r2, s3, hc1, hf⟩ := ob2 hf
  refine call_VI F (c_Sess_fillByVotes l Z Q s (1 : Int32) hc1) (cwV 1 hts gX6_elect_X6_fillByVotes rfl rfl rfl (by decide +kernel) ⟨Nat.le_of_ble_eq_true rfl, Nat.le_of_ble_eq_true rfl⟩) h (rcX_Sess h) rfl hl.1 rfl (Nat.le_of_ble_eq_true rfl) ⟨Nat.zero_le _, Nat.zero_le _⟩ dX6_elect_2 (fun H locs h => ?_)
  refine lv_if_ne (tgt := 10) hx hb dX6_elect_5 (by decide) (fun c_4 => ?_) (fun c_4 => ?_)
  · have hf := im c_4 hf
    refine lv_aload_n hx hb dX6_elect_10 rfl (lv_at hl 0 rfl) ?_
    obtain ⟨r6, s7, hc5, hf⟩ := ob2 hf
    refine call_VI F (c_Sess_bodySize l Z Q s3 hc5) (cwV 0 hts gX6_elect_X6_bodySize rfl rfl rfl (by decide +kernel) ⟨Nat.le_of_ble_eq_true rfl, Nat.le_of_ble_eq_true rfl⟩) h (rcX_Sess h) rfl hl.1 rfl (Nat.le_of_ble_eq_true rfl) ⟨Nat.zero_le _, Nat.zero_le _⟩ dX6_elect_11 (fun H locs h => ?_)
    refine lv_istore_n (lv' := [(1, .int r6), (0, .ref (Q 14))]) hx hb dX6_elect_14 rfl hl (by decide) rfl (fun ls hl => ?_)
    have hl := lv_sub (l' := [(0, .ref (Q 14)), (1, .int r6)]) hl [1, 0] rfl
    refine lv_aload_n hx hb dX6_elect_15 rfl (lv_at hl 0 rfl) ?_
    refine gX_Sess_bodies F h hinX6 (hts (.fieldLink RX6 11 "ElectionHouse$Session" "bodies" "[[I") (by decide +kernel)) dX6_elect_16 ?_
    refine lv_aload_n hx hb dX6_elect_19 rfl (lv_at hl 0 rfl) ?_
    refine gX_Sess_done F h hinX6 (hts (.fieldLink RX6 49 "ElectionHouse$Session" "done" "I") (by decide +kernel)) dX6_elect_20 ?_
    obtain ⟨gi8, hf⟩ := og hf
    refine lX_bodies F h gi8 dX6_elect_23 ?_
    have hb9 : (ix (gM s7 14 8)) < 13 := (of_decide_eq_true gi8).2
    refine lv_iconst (v := (0 : Int32)) hx hb dX6_elect_24 (by decide) ?_
    refine lv_aload_n hx hb dX6_elect_25 rfl (lv_at hl 0 rfl) ?_
    refine gX_Sess_bodies F h hinX6 (hts (.fieldLink RX6 11 "ElectionHouse$Session" "bodies" "[[I") (by decide +kernel)) dX6_elect_26 ?_
    refine lv_aload_n hx hb dX6_elect_29 rfl (lv_at hl 0 rfl) ?_
    refine gX_Sess_done F h hinX6 (hts (.fieldLink RX6 49 "ElectionHouse$Session" "done" "I") (by decide +kernel)) dX6_elect_30 ?_
    refine lv_iconst (v := (1 : Int32)) hx hb dX6_elect_33 (by decide) ?_
    refine lv_iadd hx hb dX6_elect_34 ?_
    obtain ⟨gi10, hf⟩ := og hf
    refine lX_bodies F h gi10 dX6_elect_35 ?_
    have hb11 : (ix ((gM s7 14 8) + (1 : Int32))) < 13 := (of_decide_eq_true gi10).2
    refine lv_iconst (v := (0 : Int32)) hx hb dX6_elect_36 (by decide) ?_
    refine lv_iload_n hx hb dX6_elect_37 rfl (lv_at hl 1 rfl) ?_
    obtain ⟨gc12, hf⟩ := og hf
    refine cpX_rows_rows hb9 hb11 F (by rw [hml]; exact hl.1.symm) h gc12 (hts (.methodLink RX6 87 arraycopyName) (by decide +kernel)) (hts (.native arraycopyName) (by decide +kernel)) (hts (.static arraycopyName) (by decide +kernel)) (hts (.initialized "java/lang/System") (by decide +kernel)) (Nat.le_of_ble_eq_true rfl) (Nat.le_of_ble_eq_true rfl) dX6_elect_38 (fun H locs h => ?_)
    obtain ⟨s13, es, hf⟩ := olq hf
    rw [← es] at h
    refine lv_aload_n hx hb dX6_elect_41 rfl (lv_at hl 0 rfl) ?_
    refine lv_aload_n hx hb dX6_elect_42 rfl (lv_at hl 0 rfl) ?_
    refine gX_Sess_row F h hinX6 (hts (.fieldLink RX6 20 "ElectionHouse$Session" "row" "[I") (by decide +kernel)) dX6_elect_43 ?_
    refine lv_iconst (v := (0 : Int32)) hx hb dX6_elect_46 (by decide) ?_
    obtain ⟨gi14, hf⟩ := og hf
    refine lX_srow F h gi14 dX6_elect_47 ?_
    refine pX_Sess_head F h hinX6 (hts (.fieldLink RX6 33 "ElectionHouse$Session" "head" "I") (by decide +kernel)) dX6_elect_48 (fun H locs h => ?_)
    obtain ⟨s15, es, hf⟩ := olq hf
    rw [← es] at h
    refine lv_aload_n hx hb dX6_elect_51 rfl (lv_at hl 0 rfl) ?_
    refine lv_iload_n hx hb dX6_elect_52 rfl (lv_at hl 1 rfl) ?_
    obtain ⟨s18, hc16, hf⟩ := ob1 hf
    refine call_VV F (c_Sess_stand l Z Q s15 r6 hc16) (cwV 1 hts gX6_elect_X6_stand rfl rfl rfl (by decide +kernel) ⟨Nat.le_of_ble_eq_true rfl, Nat.le_of_ble_eq_true rfl⟩) h (rcX_Sess h) rfl hl.1 rfl (Nat.le_of_ble_eq_true rfl) ⟨Nat.zero_le _, Nat.zero_le _⟩ dX6_elect_53 (fun H locs h => ?_)
    refine lv_iconst (v := (0 : Int32)) hx hb dX6_elect_56 (by decide) ?_
    exact retE_I F hr hlk h hf dX6_elect_57
  · have hf := ip c_4 hf
    refine lv_iconst (v := (2 : Int32)) hx hb dX6_elect_8 (by decide) ?_
    exact retE_I F hr hlk h hf dX6_elect_9

set_option maxHeartbeats 8000000 in
set_option maxRecDepth 100000 in
theorem c_Sess_doNext (l : Launch) (Z : ZT) (Q : Nat → Nat) (s : XS) {r : Int32} {s' : XS} (hf : p_Sess_doNext s = some (r, s')) : KI l Z (wX Z Q) yX6_doNext wsX6_doNext { frames := 6, cells := 0, slots := 0, locals := 133 } [.ref (Q 14)] s r s' := by
  intro sz
  refine met_entry (cc := cX6_doNext) (maxL := 1) (ret := (some .int)) (by decide) rfl (Nat.le_of_ble_eq_true rfl) sz rfl ?_
  generalize va_A (wX Z Q s) sz = A
  intro p e s0 m args below meth c ls F hr hlk h hl
  have hl : lv_has ls 1 [(0, .ref (Q 14))] := hl
  obtain ⟨hx, hb, hml, hown, hts⟩ := id F
  have hinX6 : ∀ w ∈ wsX60, w ∈ wsX6_doNext := by decide +kernel
  obtain ⟨H, eH⟩ : ∃ z, z = s0.heap := ⟨_, rfl⟩
  obtain ⟨locs, eL⟩ : ∃ z : List Loc, z = [] := ⟨_, rfl⟩
  rw [← eH, ← eL] at h ⊢
  unfold p_Sess_doNext at hf
  refine lv_aload_n hx hb dX6_doNext_0 rfl (lv_at hl 0 rfl) ?_
  refine gX_Sess_done F h hinX6 (hts (.fieldLink RX6 49 "ElectionHouse$Session" "done" "I") (by decide +kernel)) dX6_doNext_1 ?_
  refine lv_aload_n hx hb dX6_doNext_4 rfl (lv_at hl 0 rfl) ?_
  refine gX_Sess_plan F h hinX6 (hts (.fieldLink RX6 29 "ElectionHouse$Session" "plan" "LElectionHouse$Plan;") (by decide +kernel)) dX6_doNext_5 ?_
  have hb1 : (gG s 14 7) < 2 := h.2.2.2.2.2.1 _ _
  obtain ⟨r3, hc2, hf⟩ := ob1 hf
  refine call_VI F (c_Plan_length l Z Q s (gG s 14 7) hb1 hc2) (cwV 0 hts gX6_doNext_X3_length rfl rfl rfl (by decide +kernel) ⟨Nat.le_of_ble_eq_true rfl, Nat.le_of_ble_eq_true rfl⟩) h (rcX_Plan hb1 h) rfl hl.1 rfl (Nat.le_of_ble_eq_true rfl) ⟨Nat.zero_le _, Nat.zero_le _⟩ dX6_doNext_8 (fun H locs h => ?_)
  refine lv_icmp_ge (tgt := 23) hx hb dX6_doNext_11 (by decide) (fun c_5 => ?_) (fun c_5 => ?_)
  · have hf := ip c_5 hf
    refine lv_iconst (v := (3 : Int32)) hx hb dX6_doNext_23 (by decide) ?_
    exact retE_I F hr hlk h hf dX6_doNext_24
  · have hf := im c_5 hf
    refine lv_aload_n hx hb dX6_doNext_14 rfl (lv_at hl 0 rfl) ?_
    refine gX_Sess_done F h hinX6 (hts (.fieldLink RX6 49 "ElectionHouse$Session" "done" "I") (by decide +kernel)) dX6_doNext_15 ?_
    refine lv_bipush (v := (12 : Int32)) hx hb dX6_doNext_18 (by decide) ?_
    refine lv_icmp_lt (tgt := 25) hx hb dX6_doNext_20 (by decide) (fun c_6 => ?_) (fun c_6 => ?_)
    · have hf := ip c_6 hf
      refine lv_aload_n hx hb dX6_doNext_25 rfl (lv_at hl 0 rfl) ?_
      refine gX_Sess_plan F h hinX6 (hts (.fieldLink RX6 29 "ElectionHouse$Session" "plan" "LElectionHouse$Plan;") (by decide +kernel)) dX6_doNext_26 ?_
      have hb7 : (gG s 14 7) < 2 := h.2.2.2.2.2.1 _ _
      refine lv_aload_n hx hb dX6_doNext_29 rfl (lv_at hl 0 rfl) ?_
      refine gX_Sess_done F h hinX6 (hts (.fieldLink RX6 49 "ElectionHouse$Session" "done" "I") (by decide +kernel)) dX6_doNext_30 ?_
      obtain ⟨r9, hc8, hf⟩ := ob1 hf
      refine call_VI F (c_Plan_kindOf l Z Q s (gG s 14 7) (gM s 14 8) hb7 hc8) (cwV 1 hts gX6_doNext_X3_kindOf rfl rfl rfl (by decide +kernel) ⟨Nat.le_of_ble_eq_true rfl, Nat.le_of_ble_eq_true rfl⟩) h (rcX_Plan hb7 h) rfl hl.1 rfl (Nat.le_of_ble_eq_true rfl) ⟨Nat.zero_le _, Nat.zero_le _⟩ dX6_doNext_33 (fun H locs h => ?_)
      by_cases c_11 : r9 = (1 : Int32)
      · have hf := ip c_11 hf
        refine lv_lookup (off := 28) (tgt := 64) hx hb dX6_doNext_36 (by decide) (by rw [c_11]; rfl) (by decide) ?_
        refine lv_aload_n hx hb dX6_doNext_64 rfl (lv_at hl 0 rfl) ?_
        refine lv_aload_n hx hb dX6_doNext_65 rfl (lv_at hl 0 rfl) ?_
        refine gX_Sess_plan F h hinX6 (hts (.fieldLink RX6 29 "ElectionHouse$Session" "plan" "LElectionHouse$Plan;") (by decide +kernel)) dX6_doNext_66 ?_
        have hb12 : (gG s 14 7) < 2 := h.2.2.2.2.2.1 _ _
        refine lv_aload_n hx hb dX6_doNext_69 rfl (lv_at hl 0 rfl) ?_
        refine gX_Sess_done F h hinX6 (hts (.fieldLink RX6 49 "ElectionHouse$Session" "done" "I") (by decide +kernel)) dX6_doNext_70 ?_
        obtain ⟨r14, hc13, hf⟩ := ob1 hf
        refine call_VI F (c_Plan_sizeOf l Z Q s (gG s 14 7) (gM s 14 8) hb12 hc13) (cwV 1 hts gX6_doNext_X3_sizeOf rfl rfl rfl (by decide +kernel) ⟨Nat.le_of_ble_eq_true rfl, Nat.le_of_ble_eq_true rfl⟩) h (rcX_Plan hb12 h) rfl hl.1 rfl (Nat.le_of_ble_eq_true rfl) ⟨Nat.zero_le _, Nat.zero_le _⟩ dX6_doNext_73 (fun H locs h => ?_)
        obtain ⟨r17, s18, hc16, hf⟩ := ob2 hf
        refine call_VI F (c_Sess_draw l Z Q s r14 hc16) (cwV 1 hts gX6_doNext_X6_draw rfl rfl rfl (by decide +kernel) ⟨Nat.le_of_ble_eq_true rfl, Nat.le_of_ble_eq_true rfl⟩) h (rcX_Sess h) rfl hl.1 rfl (Nat.le_of_ble_eq_true rfl) ⟨Nat.zero_le _, Nat.zero_le _⟩ dX6_doNext_76 (fun H locs h => ?_)
        exact retE_I F hr hlk h hf dX6_doNext_79
      · have hf := im c_11 hf
        by_cases c_19 : r9 = (2 : Int32)
        · have hf := ip c_19 hf
          refine lv_lookup (off := 44) (tgt := 80) hx hb dX6_doNext_36 (by decide) (by rw [c_19]; rfl) (by decide) ?_
          refine lv_aload_n hx hb dX6_doNext_80 rfl (lv_at hl 0 rfl) ?_
          obtain ⟨r21, s22, hc20, hf⟩ := ob2 hf
          refine call_VI F (c_Sess_choose l Z Q s hc20) (cwV 0 hts gX6_doNext_X6_choose rfl rfl rfl (by decide +kernel) ⟨Nat.le_of_ble_eq_true rfl, Nat.le_of_ble_eq_true rfl⟩) h (rcX_Sess h) rfl hl.1 rfl (Nat.le_of_ble_eq_true rfl) ⟨Nat.zero_le _, Nat.zero_le _⟩ dX6_doNext_81 (fun H locs h => ?_)
          exact retE_I F hr hlk h hf dX6_doNext_84
        · have hf := im c_19 hf
          refine lv_lookup (off := 49) (tgt := 85) hx hb dX6_doNext_36 (by decide) (by rw [lv_osw (k := (1 : Int32)) c_11 (by decide)]; rw [lv_osw (k := (2 : Int32)) c_19 (by decide)]; rfl) (by decide) ?_
          refine lv_aload_n hx hb dX6_doNext_85 rfl (lv_at hl 0 rfl) ?_
          obtain ⟨r24, s25, hc23, hf⟩ := ob2 hf
          refine call_VI F (c_Sess_elect l Z Q s hc23) (cwV 0 hts gX6_doNext_X6_elect rfl rfl rfl (by decide +kernel) ⟨Nat.le_of_ble_eq_true rfl, Nat.le_of_ble_eq_true rfl⟩) h (rcX_Sess h) rfl hl.1 rfl (Nat.le_of_ble_eq_true rfl) ⟨Nat.zero_le _, Nat.zero_le _⟩ dX6_doNext_86 (fun H locs h => ?_)
          exact retE_I F hr hlk h hf dX6_doNext_89
    · have hf := im c_6 hf
      refine lv_iconst (v := (3 : Int32)) hx hb dX6_doNext_23 (by decide) ?_
      exact retE_I F hr hlk h hf dX6_doNext_24

set_option maxHeartbeats 8000000 in
set_option maxRecDepth 100000 in
theorem c_Sess_undoFrom (l : Launch) (Z : ZT) (Q : Nat → Nat) (s : XS) (x1 : Int32) {r : Int32} {s' : XS} (hf : p_Sess_undoFrom x1 s = some (r, s')) : KI l Z (wX Z Q) yX6_undoFrom wsX6_undoFrom { frames := 0, cells := 0, slots := 0, locals := 0 } [.ref (Q 14), .int x1] s r s' := by
  intro sz
  refine met_entry (cc := cX6_undoFrom) (maxL := 2) (ret := (some .boolean)) (by decide) rfl (Nat.le_of_ble_eq_true rfl) sz rfl ?_
  generalize va_A (wX Z Q s) sz = A
  intro p e s0 m args below meth c ls F hr hlk h hl
  have hl : lv_has ls 2 [(0, .ref (Q 14)), (1, .int x1)] := hl
  obtain ⟨hx, hb, hml, hown, hts⟩ := id F
  have hinX6 : ∀ w ∈ wsX60, w ∈ wsX6_undoFrom := by decide +kernel
  obtain ⟨H, eH⟩ : ∃ z, z = s0.heap := ⟨_, rfl⟩
  obtain ⟨locs, eL⟩ : ∃ z : List Loc, z = [] := ⟨_, rfl⟩
  rw [← eH, ← eL] at h ⊢
  unfold p_Sess_undoFrom at hf
  refine lv_iload_n hx hb dX6_undoFrom_0 rfl (lv_at hl 1 rfl) ?_
  refine lv_if_lt (tgt := 12) hx hb dX6_undoFrom_1 (by decide) (fun c_1 => ?_) (fun c_1 => ?_)
  · have hf := ip c_1 hf
    refine lv_iconst (v := (0 : Int32)) hx hb dX6_undoFrom_12 (by decide) ?_
    exact retE_Z F hr hlk (by decide) h hf dX6_undoFrom_13
  · have hf := im c_1 hf
    refine lv_iload_n hx hb dX6_undoFrom_4 rfl (lv_at hl 1 rfl) ?_
    refine lv_aload_n hx hb dX6_undoFrom_5 rfl (lv_at hl 0 rfl) ?_
    refine gX_Sess_done F h hinX6 (hts (.fieldLink RX6 49 "ElectionHouse$Session" "done" "I") (by decide +kernel)) dX6_undoFrom_6 ?_
    refine lv_icmp_lt (tgt := 14) hx hb dX6_undoFrom_9 (by decide) (fun c_2 => ?_) (fun c_2 => ?_)
    · have hf := ip c_2 hf
      refine lv_aload_n hx hb dX6_undoFrom_14 rfl (lv_at hl 0 rfl) ?_
      refine lv_iload_n hx hb dX6_undoFrom_15 rfl (lv_at hl 1 rfl) ?_
      refine pX_Sess_done F h hinX6 (hts (.fieldLink RX6 49 "ElectionHouse$Session" "done" "I") (by decide +kernel)) dX6_undoFrom_16 (fun H locs h => ?_)
      obtain ⟨s3, es, hf⟩ := olq hf
      rw [← es] at h
      refine lv_aload_n hx hb dX6_undoFrom_19 rfl (lv_at hl 0 rfl) ?_
      refine lv_iconst (v := (-1 : Int32)) hx hb dX6_undoFrom_20 (by decide) ?_
      refine pX_Sess_head F h hinX6 (hts (.fieldLink RX6 33 "ElectionHouse$Session" "head" "I") (by decide +kernel)) dX6_undoFrom_21 (fun H locs h => ?_)
      obtain ⟨s4, es, hf⟩ := olq hf
      rw [← es] at h
      refine lv_iconst (v := (1 : Int32)) hx hb dX6_undoFrom_24 (by decide) ?_
      exact retE_Z F hr hlk (by decide) h hf dX6_undoFrom_25
    · have hf := im c_2 hf
      refine lv_iconst (v := (0 : Int32)) hx hb dX6_undoFrom_12 (by decide) ?_
      exact retE_Z F hr hlk (by decide) h hf dX6_undoFrom_13

set_option maxHeartbeats 8000000 in
set_option maxRecDepth 100000 in
theorem c_Sess_member (l : Launch) (Z : ZT) (Q : Nat → Nat) (s : XS) (x1 : Int32) {r : Int32} {s' : XS} (hf : p_Sess_member x1 s = some (r, s')) : KI l Z (wX Z Q) yX6_member wsX6_member { frames := 4, cells := 0, slots := 0, locals := 84 } [.ref (Q 14), .int x1] s r s' := by
  intro sz
  refine met_entry (cc := cX6_member) (maxL := 2) (ret := (some .int)) (by decide) rfl (Nat.le_of_ble_eq_true rfl) sz rfl ?_
  generalize va_A (wX Z Q s) sz = A
  intro p e s0 m args below meth c ls F hr hlk h hl
  have hl : lv_has ls 2 [(0, .ref (Q 14)), (1, .int x1)] := hl
  obtain ⟨hx, hb, hml, hown, hts⟩ := id F
  have hinX6 : ∀ w ∈ wsX60, w ∈ wsX6_member := by decide +kernel
  obtain ⟨H, eH⟩ : ∃ z, z = s0.heap := ⟨_, rfl⟩
  obtain ⟨locs, eL⟩ : ∃ z : List Loc, z = [] := ⟨_, rfl⟩
  rw [← eH, ← eL] at h ⊢
  unfold p_Sess_member at hf
  refine lv_iload_n hx hb dX6_member_0 rfl (lv_at hl 1 rfl) ?_
  refine lv_if_lt (tgt := 26) hx hb dX6_member_1 (by decide) (fun c_1 => ?_) (fun c_1 => ?_)
  · have hf := ip c_1 hf
    refine lv_iconst (v := (-1 : Int32)) hx hb dX6_member_26 (by decide) ?_
    exact retE_I F hr hlk h hf dX6_member_27
  · have hf := im c_1 hf
    refine lv_iload_n hx hb dX6_member_4 rfl (lv_at hl 1 rfl) ?_
    refine lv_aload_n hx hb dX6_member_5 rfl (lv_at hl 0 rfl) ?_
    obtain ⟨r3, s4, hc2, hf⟩ := ob2 hf
    refine call_VI F (c_Sess_bodySize l Z Q s hc2) (cwV 0 hts gX6_member_X6_bodySize rfl rfl rfl (by decide +kernel) ⟨Nat.le_of_ble_eq_true rfl, Nat.le_of_ble_eq_true rfl⟩) h (rcX_Sess h) rfl hl.1 rfl (Nat.le_of_ble_eq_true rfl) ⟨Nat.zero_le _, Nat.zero_le _⟩ dX6_member_6 (fun H locs h => ?_)
    refine lv_icmp_ge (tgt := 26) hx hb dX6_member_9 (by decide) (fun c_5 => ?_) (fun c_5 => ?_)
    · have hf := ip c_5 hf
      refine lv_iconst (v := (-1 : Int32)) hx hb dX6_member_26 (by decide) ?_
      exact retE_I F hr hlk h hf dX6_member_27
    · have hf := im c_5 hf
      refine lv_aload_n hx hb dX6_member_12 rfl (lv_at hl 0 rfl) ?_
      refine gX_Sess_bodies F h hinX6 (hts (.fieldLink RX6 11 "ElectionHouse$Session" "bodies" "[[I") (by decide +kernel)) dX6_member_13 ?_
      refine lv_aload_n hx hb dX6_member_16 rfl (lv_at hl 0 rfl) ?_
      refine gX_Sess_done F h hinX6 (hts (.fieldLink RX6 49 "ElectionHouse$Session" "done" "I") (by decide +kernel)) dX6_member_17 ?_
      obtain ⟨gi6, hf⟩ := og hf
      refine lX_bodies F h gi6 dX6_member_20 ?_
      have hb7 : (ix (gM s4 14 8)) < 13 := (of_decide_eq_true gi6).2
      refine lv_iload_n hx hb dX6_member_21 rfl (lv_at hl 1 rfl) ?_
      obtain ⟨gi8, hf⟩ := og hf
      refine lX_rows hb7 F h gi8 dX6_member_22 ?_
      refine lv_goto (tgt := 27) hx hb dX6_member_23 (by decide) ?_
      exact retE_I F hr hlk h hf dX6_member_27

set_option maxHeartbeats 8000000 in
set_option maxRecDepth 100000 in
theorem c_Sess_head (l : Launch) (Z : ZT) (Q : Nat → Nat) (s : XS) {r : Int32} (hf : p_Sess_head s = some r) : KI l Z (wX Z Q) yX6_head wsX6_head { frames := 0, cells := 0, slots := 0, locals := 0 } [.ref (Q 14)] s r s := by
  intro sz
  refine met_entry (cc := cX6_head) (maxL := 1) (ret := (some .int)) (by decide) rfl (Nat.le_of_ble_eq_true rfl) sz rfl ?_
  generalize va_A (wX Z Q s) sz = A
  intro p e s0 m args below meth c ls F hr hlk h hl
  have hl : lv_has ls 1 [(0, .ref (Q 14))] := hl
  obtain ⟨hx, hb, hml, hown, hts⟩ := id F
  have hinX6 : ∀ w ∈ wsX60, w ∈ wsX6_head := by decide +kernel
  obtain ⟨H, eH⟩ : ∃ z, z = s0.heap := ⟨_, rfl⟩
  obtain ⟨locs, eL⟩ : ∃ z : List Loc, z = [] := ⟨_, rfl⟩
  rw [← eH, ← eL] at h ⊢
  unfold p_Sess_head at hf
  refine lv_aload_n hx hb dX6_head_0 rfl (lv_at hl 0 rfl) ?_
  refine gX_Sess_head F h hinX6 (hts (.fieldLink RX6 33 "ElectionHouse$Session" "head" "I") (by decide +kernel)) dX6_head_1 ?_
  exact retE_Ir F hr hlk h hf dX6_head_4

set_option maxHeartbeats 8000000 in
set_option maxRecDepth 100000 in
theorem c_Sess_plan (l : Launch) (Z : ZT) (Q : Nat → Nat) (s : XS) {r : Nat} (hf : p_Sess_plan s = some r) : KR l Z (wX Z Q) yX6_plan wsX6_plan { frames := 0, cells := 0, slots := 0, locals := 0 } [.ref (Q 14)] s (Q (19 + 5 * r)) s := by
  intro sz
  refine met_entry (cc := cX6_plan) (maxL := 1) (ret := (some (.object "ElectionHouse$Plan"))) (by decide) rfl (Nat.le_of_ble_eq_true rfl) sz rfl ?_
  generalize va_A (wX Z Q s) sz = A
  intro p e s0 m args below meth c ls F hr hlk h hl
  have hl : lv_has ls 1 [(0, .ref (Q 14))] := hl
  obtain ⟨hx, hb, hml, hown, hts⟩ := id F
  have hinX6 : ∀ w ∈ wsX60, w ∈ wsX6_plan := by decide +kernel
  obtain ⟨H, eH⟩ : ∃ z, z = s0.heap := ⟨_, rfl⟩
  obtain ⟨locs, eL⟩ : ∃ z : List Loc, z = [] := ⟨_, rfl⟩
  rw [← eH, ← eL] at h ⊢
  unfold p_Sess_plan at hf
  refine lv_aload_n hx hb dX6_plan_0 rfl (lv_at hl 0 rfl) ?_
  refine gX_Sess_plan F h hinX6 (hts (.fieldLink RX6 29 "ElectionHouse$Session" "plan" "LElectionHouse$Plan;") (by decide +kernel)) dX6_plan_1 ?_
  have hb1 : (gG s 14 7) < 2 := h.2.2.2.2.2.1 _ _
  exact retE_Rr (r0 := (gG s 14 7)) F hr hlk h (fun q => (Q (19 + 5 * q))) rfl hf dX6_plan_4

