set_option maxHeartbeats 8000000 in
set_option maxRecDepth 100000 in
theorem c_Poll_open (l : Launch) (Z : ZT) (Q : Nat → Nat) (s : XS) {s' : XS} (hf : p_Poll_open s = some s') : KV l Z (wX Z Q) yX4_open wsX4_open { frames := 1, cells := 0, slots := 0, locals := 24 } [.ref (Q 12)] s s' := by
  intro sz
  refine met_entry (cc := cX4_open) (maxL := 1) (ret := none) (by decide) rfl (Nat.le_of_ble_eq_true rfl) sz rfl ?_
  generalize va_A (wX Z Q s) sz = A
  intro p e s0 m args below meth c ls F hr hlk h hl
  have hl : lv_has ls 1 [(0, .ref (Q 12))] := hl
  obtain ⟨hx, hb, hml, hown, hts⟩ := id F
  have hinX4 : ∀ w ∈ wsX40, w ∈ wsX4_open := by decide +kernel
  obtain ⟨H, eH⟩ : ∃ z, z = s0.heap := ⟨_, rfl⟩
  obtain ⟨locs, eL⟩ : ∃ z : List Loc, z = [] := ⟨_, rfl⟩
  rw [← eH, ← eL] at h ⊢
  unfold p_Poll_open at hf
  refine lv_aload_n hx hb dX4_open_0 rfl (lv_at hl 0 rfl) ?_
  refine lv_iconst (v := (1 : Int32)) hx hb dX4_open_1 (by decide) ?_
  refine pX_Poll_wasTried (by decide) F h hinX4 (hts (.fieldLink RX4 15 "ElectionHouse$Poll" "wasTried" "Z") (by decide +kernel)) dX4_open_2 (fun H locs h => ?_)
  obtain ⟨s1, es, hf⟩ := olq hf
  rw [← es] at h
  refine lv_aload_n hx hb dX4_open_5 rfl (lv_at hl 0 rfl) ?_
  refine lv_iconst (v := (0 : Int32)) hx hb dX4_open_6 (by decide) ?_
  refine pX_Poll_barred F h hinX4 (hts (.fieldLink RX4 19 "ElectionHouse$Poll" "barred" "I") (by decide +kernel)) dX4_open_7 (fun H locs h => ?_)
  obtain ⟨s2, es, hf⟩ := olq hf
  rw [← es] at h
  refine lv_aload_n hx hb dX4_open_10 rfl (lv_at hl 0 rfl) ?_
  refine lv_iconst (v := (0 : Int32)) hx hb dX4_open_11 (by decide) ?_
  refine pX_Poll_votedOn F h hinX4 (hts (.fieldLink RX4 23 "ElectionHouse$Poll" "votedOn" "I") (by decide +kernel)) dX4_open_12 (fun H locs h => ?_)
  obtain ⟨s3, es, hf⟩ := olq hf
  rw [← es] at h
  refine lv_aload_n hx hb dX4_open_15 rfl (lv_at hl 0 rfl) ?_
  refine lv_iconst (v := (0 : Int32)) hx hb dX4_open_16 (by decide) ?_
  refine pX_Poll_chosen F h hinX4 (hts (.fieldLink RX4 26 "ElectionHouse$Poll" "chosen" "I") (by decide +kernel)) dX4_open_17 (fun H locs h => ?_)
  obtain ⟨s4, es, hf⟩ := olq hf
  rw [← es] at h
  refine lv_aload_n hx hb dX4_open_20 rfl (lv_at hl 0 rfl) ?_
  refine gX_Poll_votes F h hinX4 (hts (.fieldLink RX4 9 "ElectionHouse$Poll" "votes" "[I") (by decide +kernel)) dX4_open_21 ?_
  refine lv_iconst (v := (-1 : Int32)) hx hb dX4_open_24 (by decide) ?_
  obtain ⟨s7, hc5, hf⟩ := ob1 hf
  refine call_SV F (c_fill_pvotes l Z Q s4 (-1 : Int32) hc5) (va_cwS 2 hts gX4_open_J7_fill_53178 rfl rfl rfl (by decide +kernel) ⟨Nat.le_of_ble_eq_true rfl, Nat.le_of_ble_eq_true rfl⟩) h rfl hl.1 rfl (Nat.le_of_ble_eq_true rfl) ⟨Nat.zero_le _, Nat.zero_le _⟩ dX4_open_25 (fun H locs h => ?_)
  exact retE_V F hr hlk h hf dX4_open_28

set_option maxHeartbeats 8000000 in
set_option maxRecDepth 100000 in
theorem c_Poll_bar (l : Launch) (Z : ZT) (Q : Nat → Nat) (s : XS) {s' : XS} (hf : p_Poll_bar s = some s') : KV l Z (wX Z Q) yX4_bar wsX4_bar { frames := 0, cells := 0, slots := 0, locals := 0 } [.ref (Q 12)] s s' := by
  intro sz
  refine met_entry (cc := cX4_bar) (maxL := 1) (ret := none) (by decide) rfl (Nat.le_of_ble_eq_true rfl) sz rfl ?_
  generalize va_A (wX Z Q s) sz = A
  intro p e s0 m args below meth c ls F hr hlk h hl
  have hl : lv_has ls 1 [(0, .ref (Q 12))] := hl
  obtain ⟨hx, hb, hml, hown, hts⟩ := id F
  have hinX4 : ∀ w ∈ wsX40, w ∈ wsX4_bar := by decide +kernel
  obtain ⟨H, eH⟩ : ∃ z, z = s0.heap := ⟨_, rfl⟩
  obtain ⟨locs, eL⟩ : ∃ z : List Loc, z = [] := ⟨_, rfl⟩
  rw [← eH, ← eL] at h ⊢
  unfold p_Poll_bar at hf
  refine lv_aload_n hx hb dX4_bar_0 rfl (lv_at hl 0 rfl) ?_
  refine lv_dup hx hb dX4_bar_1 rfl ?_
  refine gX_Poll_barred F h hinX4 (hts (.fieldLink RX4 19 "ElectionHouse$Poll" "barred" "I") (by decide +kernel)) dX4_bar_2 ?_
  refine lv_iconst (v := (1 : Int32)) hx hb dX4_bar_5 (by decide) ?_
  refine lv_iadd hx hb dX4_bar_6 ?_
  refine pX_Poll_barred F h hinX4 (hts (.fieldLink RX4 19 "ElectionHouse$Poll" "barred" "I") (by decide +kernel)) dX4_bar_7 (fun H locs h => ?_)
  obtain ⟨s1, es, hf⟩ := olq hf
  rw [← es] at h
  exact retE_V F hr hlk h hf dX4_bar_10

set_option maxHeartbeats 8000000 in
set_option maxRecDepth 100000 in
theorem c_Poll_note (l : Launch) (Z : ZT) (Q : Nat → Nat) (s : XS) (x1 : Int32) (x2 : Int32) (x3 : Int32) {s' : XS} (hf : p_Poll_note x1 x2 x3 s = some s') : KV l Z (wX Z Q) yX4_note wsX4_note { frames := 0, cells := 0, slots := 0, locals := 0 } [.ref (Q 12), .int x1, .int x2, .int x3] s s' := by
  intro sz
  refine met_entry (cc := cX4_note) (maxL := 4) (ret := none) (by decide) rfl (Nat.le_of_ble_eq_true rfl) sz rfl ?_
  generalize va_A (wX Z Q s) sz = A
  intro p e s0 m args below meth c ls F hr hlk h hl
  have hl : lv_has ls 4 [(0, .ref (Q 12)), (1, .int x1), (2, .int x2), (3, .int x3)] := hl
  obtain ⟨hx, hb, hml, hown, hts⟩ := id F
  have hinX4 : ∀ w ∈ wsX40, w ∈ wsX4_note := by decide +kernel
  obtain ⟨H, eH⟩ : ∃ z, z = s0.heap := ⟨_, rfl⟩
  obtain ⟨locs, eL⟩ : ∃ z : List Loc, z = [] := ⟨_, rfl⟩
  rw [← eH, ← eL] at h ⊢
  unfold p_Poll_note at hf
  refine lv_iload_n hx hb dX4_note_0 rfl (lv_at hl 1 rfl) ?_
  refine lv_if_lt (tgt := 10) hx hb dX4_note_1 (by decide) (fun c_1 => ?_) (fun c_1 => ?_)
  · have hf := ip c_1 hf
    exact retE_V F hr hlk h hf dX4_note_10
  · have hf := im c_1 hf
    refine lv_iload_n hx hb dX4_note_4 rfl (lv_at hl 1 rfl) ?_
    refine lv_bipush (v := (40 : Int32)) hx hb dX4_note_5 (by decide) ?_
    refine lv_icmp_lt (tgt := 11) hx hb dX4_note_7 (by decide) (fun c_2 => ?_) (fun c_2 => ?_)
    · have hf := ip c_2 hf
      refine lv_aload_n hx hb dX4_note_11 rfl (lv_at hl 0 rfl) ?_
      refine gX_Poll_votes F h hinX4 (hts (.fieldLink RX4 9 "ElectionHouse$Poll" "votes" "[I") (by decide +kernel)) dX4_note_12 ?_
      refine lv_iload_n hx hb dX4_note_15 rfl (lv_at hl 1 rfl) ?_
      refine lv_iload_n hx hb dX4_note_16 rfl (lv_at hl 2 rfl) ?_
      obtain ⟨gi3, hf⟩ := og hf
      refine sX_pvotes F h gi3 dX4_note_17 (fun H locs h => ?_)
      obtain ⟨s4, es, hf⟩ := olq hf
      rw [← es] at h
      refine lv_aload_n hx hb dX4_note_18 rfl (lv_at hl 0 rfl) ?_
      refine lv_dup hx hb dX4_note_19 rfl ?_
      refine gX_Poll_votedOn F h hinX4 (hts (.fieldLink RX4 23 "ElectionHouse$Poll" "votedOn" "I") (by decide +kernel)) dX4_note_20 ?_
      refine lv_iconst (v := (1 : Int32)) hx hb dX4_note_23 (by decide) ?_
      refine lv_iadd hx hb dX4_note_24 ?_
      refine pX_Poll_votedOn F h hinX4 (hts (.fieldLink RX4 23 "ElectionHouse$Poll" "votedOn" "I") (by decide +kernel)) dX4_note_25 (fun H locs h => ?_)
      obtain ⟨s5, es, hf⟩ := olq hf
      rw [← es] at h
      refine lv_iload_n hx hb dX4_note_28 rfl (lv_at hl 3 rfl) ?_
      refine lv_if_eq (tgt := 42) hx hb dX4_note_29 (by decide) (fun c_6 => ?_) (fun c_6 => ?_)
      · have hf := ip c_6 hf
        exact retE_V F hr hlk h hf dX4_note_42
      · have hf := im c_6 hf
        refine lv_aload_n hx hb dX4_note_32 rfl (lv_at hl 0 rfl) ?_
        refine lv_dup hx hb dX4_note_33 rfl ?_
        refine gX_Poll_chosen F h hinX4 (hts (.fieldLink RX4 26 "ElectionHouse$Poll" "chosen" "I") (by decide +kernel)) dX4_note_34 ?_
        refine lv_iconst (v := (1 : Int32)) hx hb dX4_note_37 (by decide) ?_
        refine lv_iadd hx hb dX4_note_38 ?_
        refine pX_Poll_chosen F h hinX4 (hts (.fieldLink RX4 26 "ElectionHouse$Poll" "chosen" "I") (by decide +kernel)) dX4_note_39 (fun H locs h => ?_)
        obtain ⟨s7, es, hf⟩ := olq hf
        rw [← es] at h
        exact retE_V F hr hlk h hf dX4_note_42
    · have hf := im c_2 hf
      exact retE_V F hr hlk h hf dX4_note_10

set_option maxHeartbeats 8000000 in
set_option maxRecDepth 100000 in
theorem c_Poll_votesAt (l : Launch) (Z : ZT) (Q : Nat → Nat) (s : XS) (x1 : Int32) {r : Int32} (hf : p_Poll_votesAt x1 s = some r) : KI l Z (wX Z Q) yX4_votesAt wsX4_votesAt { frames := 0, cells := 0, slots := 0, locals := 0 } [.ref (Q 12), .int x1] s r s := by
  intro sz
  refine met_entry (cc := cX4_votesAt) (maxL := 3) (ret := (some .int)) (by decide) rfl (Nat.le_of_ble_eq_true rfl) sz rfl ?_
  generalize va_A (wX Z Q s) sz = A
  intro p e s0 m args below meth c ls F hr hlk h hl
  have hl : lv_has ls 3 [(0, .ref (Q 12)), (1, .int x1)] := hl
  obtain ⟨hx, hb, hml, hown, hts⟩ := id F
  have hinX4 : ∀ w ∈ wsX40, w ∈ wsX4_votesAt := by decide +kernel
  obtain ⟨H, eH⟩ : ∃ z, z = s0.heap := ⟨_, rfl⟩
  obtain ⟨locs, eL⟩ : ∃ z : List Loc, z = [] := ⟨_, rfl⟩
  rw [← eH, ← eL] at h ⊢
  unfold p_Poll_votesAt at hf
  have lab18 : ∀ (x1 : Int32) (t0 : Int32) (H : Heap) (locs : List Loc) (ls : Array Slot), p_Poll_votesAt_K18 x1 t0 s = some r → HW Z (wX Z Q) A s0 H locs s → lv_has ls 3 [(0, .ref (Q 12)), (1, .int x1)] → W p l e { frames := 0, cells := 0, slots := 0, locals := 0 } s0 m args below meth c H locs 0 0 (MQ below (QcI Z (wX Z Q) A r s) args s0 0 0 A) (F0 m 18 ls [.int t0]) := by
    intro x1 t0 H locs ls hf h hl
    unfold p_Poll_votesAt_K18 at hf
    refine lv_istore_n (lv' := [(2, .int t0), (0, .ref (Q 12)), (1, .int x1)]) hx hb dX4_votesAt_18 rfl hl (by decide) rfl (fun ls hl => ?_)
    have hl := lv_sub (l' := [(0, .ref (Q 12)), (1, .int x1), (2, .int t0)]) hl [1, 2, 0] rfl
    refine lv_iload_n hx hb dX4_votesAt_19 rfl (lv_at hl 2 rfl) ?_
    refine lv_if_eq (tgt := 35) hx hb dX4_votesAt_20 (by decide) (fun c_1 => ?_) (fun c_1 => ?_)
    · have hf := ip c_1 hf
      refine lv_iconst (v := (-1 : Int32)) hx hb dX4_votesAt_35 (by decide) ?_
      exact retE_Ir F hr hlk h hf dX4_votesAt_36
    · have hf := im c_1 hf
      refine lv_aload_n hx hb dX4_votesAt_23 rfl (lv_at hl 0 rfl) ?_
      refine gX_Poll_votes F h hinX4 (hts (.fieldLink RX4 9 "ElectionHouse$Poll" "votes" "[I") (by decide +kernel)) dX4_votesAt_24 ?_
      refine lv_iload_n hx hb dX4_votesAt_27 rfl (lv_at hl 1 rfl) ?_
      refine lv_bipush (v := (100 : Int32)) hx hb dX4_votesAt_28 (by decide) ?_
      refine lv_isub hx hb dX4_votesAt_30 ?_
      obtain ⟨gi2, hf⟩ := og hf
      refine lX_pvotes F h gi2 dX4_votesAt_31 ?_
      refine lv_goto (tgt := 36) hx hb dX4_votesAt_32 (by decide) ?_
      exact retE_Ir F hr hlk h hf dX4_votesAt_36
  refine lv_iload_n hx hb dX4_votesAt_0 rfl (lv_at hl 1 rfl) ?_
  refine lv_bipush (v := (100 : Int32)) hx hb dX4_votesAt_1 (by decide) ?_
  refine lv_icmp_lt (tgt := 17) hx hb dX4_votesAt_3 (by decide) (fun c_3 => ?_) (fun c_3 => ?_)
  · have hf := ip c_3 hf
    refine lv_iconst (v := (0 : Int32)) hx hb dX4_votesAt_17 (by decide) ?_
    exact lab18 x1 (0 : Int32) H locs ls hf h (lv_sub hl [0, 1] rfl)
  · have hf := im c_3 hf
    refine lv_iload_n hx hb dX4_votesAt_6 rfl (lv_at hl 1 rfl) ?_
    refine lv_sipush (v := (140 : Int32)) hx hb dX4_votesAt_7 (by decide) ?_
    refine lv_icmp_ge (tgt := 17) hx hb dX4_votesAt_10 (by decide) (fun c_4 => ?_) (fun c_4 => ?_)
    · have hf := ip c_4 hf
      refine lv_iconst (v := (0 : Int32)) hx hb dX4_votesAt_17 (by decide) ?_
      exact lab18 x1 (0 : Int32) H locs ls hf h (lv_sub hl [0, 1] rfl)
    · have hf := im c_4 hf
      refine lv_iconst (v := (1 : Int32)) hx hb dX4_votesAt_13 (by decide) ?_
      refine lv_goto (tgt := 18) hx hb dX4_votesAt_14 (by decide) ?_
      exact lab18 x1 (1 : Int32) H locs ls hf h (lv_sub hl [0, 1] rfl)

set_option maxHeartbeats 8000000 in
set_option maxRecDepth 100000 in
theorem c_Poll_answer (l : Launch) (Z : ZT) (Q : Nat → Nat) (s : XS) (x1 : Int32) {r : Int32} (hf : p_Poll_answer x1 s = some r) : KI l Z (wX Z Q) yX4_answer wsX4_answer { frames := 1, cells := 0, slots := 0, locals := 22 } [.ref (Q 12), .int x1] s r s := by
  intro sz
  refine met_entry (cc := cX4_answer) (maxL := 2) (ret := (some .int)) (by decide) rfl (Nat.le_of_ble_eq_true rfl) sz rfl ?_
  generalize va_A (wX Z Q s) sz = A
  intro p e s0 m args below meth c ls F hr hlk h hl
  have hl : lv_has ls 2 [(0, .ref (Q 12)), (1, .int x1)] := hl
  obtain ⟨hx, hb, hml, hown, hts⟩ := id F
  have hinX4 : ∀ w ∈ wsX40, w ∈ wsX4_answer := by decide +kernel
  obtain ⟨H, eH⟩ : ∃ z, z = s0.heap := ⟨_, rfl⟩
  obtain ⟨locs, eL⟩ : ∃ z : List Loc, z = [] := ⟨_, rfl⟩
  rw [← eH, ← eL] at h ⊢
  unfold p_Poll_answer at hf
  refine lv_aload_n hx hb dX4_answer_0 rfl (lv_at hl 0 rfl) ?_
  refine gX_Poll_wasTried F h hinX4 (hts (.fieldLink RX4 15 "ElectionHouse$Poll" "wasTried" "Z") (by decide +kernel)) dX4_answer_1 ?_
  refine lv_if_ne (tgt := 9) hx hb dX4_answer_4 (by decide) (fun c_1 => ?_) (fun c_1 => ?_)
  · have hf := im c_1 hf
    refine lv_iload_n hx hb dX4_answer_9 rfl (lv_at hl 1 rfl) ?_
    by_cases c_2 : x1 = (0 : Int32)
    · have hf := ip c_2 hf
      refine lv_tableIn (off := 26) (tgt := 36) hx hb dX4_answer_10 (by rw [c_2]; decide) (by rw [c_2]; decide) (by rw [c_2]; rfl) (by decide) ?_
      refine lv_aload_n hx hb dX4_answer_36 rfl (lv_at hl 0 rfl) ?_
      refine gX_Poll_barred F h hinX4 (hts (.fieldLink RX4 19 "ElectionHouse$Poll" "barred" "I") (by decide +kernel)) dX4_answer_37 ?_
      exact retE_Ir F hr hlk h hf dX4_answer_40
    · have hf := im c_2 hf
      by_cases c_3 : x1 = (1 : Int32)
      · have hf := ip c_3 hf
        refine lv_tableIn (off := 31) (tgt := 41) hx hb dX4_answer_10 (by rw [c_3]; decide) (by rw [c_3]; decide) (by rw [c_3]; rfl) (by decide) ?_
        refine lv_aload_n hx hb dX4_answer_41 rfl (lv_at hl 0 rfl) ?_
        refine gX_Poll_votedOn F h hinX4 (hts (.fieldLink RX4 23 "ElectionHouse$Poll" "votedOn" "I") (by decide +kernel)) dX4_answer_42 ?_
        exact retE_Ir F hr hlk h hf dX4_answer_45
      · have hf := im c_3 hf
        by_cases c_4 : x1 = (2 : Int32)
        · have hf := ip c_4 hf
          refine lv_tableIn (off := 36) (tgt := 46) hx hb dX4_answer_10 (by rw [c_4]; decide) (by rw [c_4]; decide) (by rw [c_4]; rfl) (by decide) ?_
          refine lv_aload_n hx hb dX4_answer_46 rfl (lv_at hl 0 rfl) ?_
          refine gX_Poll_chosen F h hinX4 (hts (.fieldLink RX4 26 "ElectionHouse$Poll" "chosen" "I") (by decide +kernel)) dX4_answer_47 ?_
          exact retE_Ir F hr hlk h hf dX4_answer_50
        · have hf := im c_4 hf
          have nc_2 := lv_neT c_2 (show ((0 : Int32)).toInt = 0 by decide)
          have nc_3 := lv_neT c_3 (show ((1 : Int32)).toInt = 1 by decide)
          have nc_4 := lv_neT c_4 (show ((2 : Int32)).toInt = 2 by decide)
          refine lv_tableOut (tgt := 51) hx hb dX4_answer_10 (by omega) (by decide) ?_
          refine lv_aload_n hx hb dX4_answer_51 rfl (lv_at hl 0 rfl) ?_
          refine lv_iload_n hx hb dX4_answer_52 rfl (lv_at hl 1 rfl) ?_
          obtain ⟨r6, hc5, hf⟩ := ob1 hf
          refine call_VI F (c_Poll_votesAt l Z Q s x1 hc5) (cwV 1 hts gX4_answer_X4_votesAt rfl rfl rfl (by decide +kernel) ⟨Nat.le_of_ble_eq_true rfl, Nat.le_of_ble_eq_true rfl⟩) h (rcX_Poll h) rfl hl.1 rfl (Nat.le_of_ble_eq_true rfl) ⟨Nat.zero_le _, Nat.zero_le _⟩ dX4_answer_53 (fun H locs h => ?_)
          exact retE_Ir F hr hlk h hf dX4_answer_56
  · have hf := ip c_1 hf
    refine lv_iconst (v := (-1 : Int32)) hx hb dX4_answer_7 (by decide) ?_
    exact retE_Ir F hr hlk h hf dX4_answer_8

set_option maxHeartbeats 8000000 in
set_option maxRecDepth 100000 in
theorem c_Tally_clear (l : Launch) (Z : ZT) (Q : Nat → Nat) (s : XS) (k0 : Nat) (hk0 : k0 < 2) {s' : XS} (hf : p_Tally_clear k0 s = some s') : KV l Z (wX Z Q) yX7_clear wsX7_clear { frames := 1, cells := 0, slots := 0, locals := 24 } [.ref (Q (40 + 4 * k0))] s s' := by
  intro sz
  refine met_entry (cc := cX7_clear) (maxL := 1) (ret := none) (by decide) rfl (Nat.le_of_ble_eq_true rfl) sz rfl ?_
  generalize va_A (wX Z Q s) sz = A
  intro p e s0 m args below meth c ls F hr hlk h hl
  have hl : lv_has ls 1 [(0, .ref (Q (40 + 4 * k0)))] := hl
  obtain ⟨hx, hb, hml, hown, hts⟩ := id F
  have hinX7 : ∀ w ∈ wsX70, w ∈ wsX7_clear := by decide +kernel
  obtain ⟨H, eH⟩ : ∃ z, z = s0.heap := ⟨_, rfl⟩
  obtain ⟨locs, eL⟩ : ∃ z : List Loc, z = [] := ⟨_, rfl⟩
  rw [← eH, ← eL] at h ⊢
  unfold p_Tally_clear at hf
  refine lv_aload_n hx hb dX7_clear_0 rfl (lv_at hl 0 rfl) ?_
  refine lv_iconst (v := (0 : Int32)) hx hb dX7_clear_1 (by decide) ?_
  refine pX_Tally_length hk0 F h hinX7 (hts (.fieldLink RX7 22 "ElectionHouse$Tally" "length" "I") (by decide +kernel)) dX7_clear_2 (fun H locs h => ?_)
  obtain ⟨s1, es, hf⟩ := olq hf
  rw [← es] at h
  refine lv_aload_n hx hb dX7_clear_5 rfl (lv_at hl 0 rfl) ?_
  refine gX_Tally_slots hk0 F h hinX7 (hts (.fieldLink RX7 19 "ElectionHouse$Tally" "slots" "[I") (by decide +kernel)) dX7_clear_6 ?_
  refine lv_iconst (v := (0 : Int32)) hx hb dX7_clear_9 (by decide) ?_
  obtain ⟨s4, hc2, hf⟩ := ob1 hf
  refine call_SV F (c_fill_tslots l Z Q s1 k0 (0 : Int32) hk0 hc2) (va_cwS 2 hts gX7_clear_J7_fill_53178 rfl rfl rfl (by decide +kernel) ⟨Nat.le_of_ble_eq_true rfl, Nat.le_of_ble_eq_true rfl⟩) h rfl hl.1 rfl (Nat.le_of_ble_eq_true rfl) ⟨Nat.zero_le _, Nat.zero_le _⟩ dX7_clear_10 (fun H locs h => ?_)
  exact retE_V F hr hlk h hf dX7_clear_13

set_option maxHeartbeats 8000000 in
set_option maxRecDepth 100000 in
theorem c_Tally_add (l : Launch) (Z : ZT) (Q : Nat → Nat) (s : XS) (k0 : Nat) (x1 : Int32) (x2 : Int64) (hk0 : k0 < 2) {r : Int32} {s' : XS} (hf : p_Tally_add k0 x1 x2 s = some (r, s')) : KI l Z (wX Z Q) yX7_add wsX7_add { frames := 0, cells := 0, slots := 0, locals := 0 } [.ref (Q (40 + 4 * k0)), .int x1, .long x2] s r s' := by
  intro sz
  refine met_entry (cc := cX7_add) (maxL := 7) (ret := (some .boolean)) (by decide) rfl (Nat.le_of_ble_eq_true rfl) sz rfl ?_
  generalize va_A (wX Z Q s) sz = A
  intro p e s0 m args below meth c ls F hr hlk h hl
  have hl : lv_has ls 7 [(0, .ref (Q (40 + 4 * k0))), (1, .int x1), (2, .long x2)] := hl
  obtain ⟨hx, hb, hml, hown, hts⟩ := id F
  have hinX7 : ∀ w ∈ wsX70, w ∈ wsX7_add := by decide +kernel
  obtain ⟨H, eH⟩ : ∃ z, z = s0.heap := ⟨_, rfl⟩
  obtain ⟨locs, eL⟩ : ∃ z : List Loc, z = [] := ⟨_, rfl⟩
  rw [← eH, ← eL] at h ⊢
  unfold p_Tally_add at hf
  have lab13 : ∀ (k0 : Nat) (x1 : Int32) (x2 : Int64) (s : XS) (n : Nat) (x4 : Int32) (x5 : Int32) (H : Heap) (locs : List Loc) (ls : Array Slot), k0 < 2 → lo2 (p_Tally_add_B13 k0 x1 x2 s) n x4 x5 = some (r, s') → HW Z (wX Z Q) A s0 H locs s → lv_has ls 7 [(0, .ref (Q (40 + 4 * k0))), (1, .int x1), (2, .long x2), (4, .int x4), (5, .int x5)] → W p l e { frames := 0, cells := 0, slots := 0, locals := 0 } s0 m args below meth c H locs 0 0 (MQ below (QcI Z (wX Z Q) A r s') args s0 0 0 A) (F0 m 13 ls []) := by
    intro k0 x1 x2 s n
    induction n with
    | zero => intro x4 x5 H locs ls hk0 hf; exact absurd hf lo2_z
    | succ n ih13 =>
      intro x4 x5 H locs ls hk0 hf h hl
      have hf := lo2_s hf
      generalize lo2 (p_Tally_add_B13 k0 x1 x2 s) n = c13 at hf ih13
      unfold p_Tally_add_B13 at hf
      have lab96 : ∀ (k0 : Nat) (x1 : Int32) (x2 : Int64) (x4 : Int32) (s : XS) (H : Heap) (locs : List Loc) (ls : Array Slot), k0 < 2 → p_Tally_add_K96 k0 x1 x2 x4 s = some (r, s') → HW Z (wX Z Q) A s0 H locs s → lv_has ls 7 [(0, .ref (Q (40 + 4 * k0))), (1, .int x1), (2, .long x2), (4, .int x4)] → W p l e { frames := 0, cells := 0, slots := 0, locals := 0 } s0 m args below meth c H locs 0 0 (MQ below (QcI Z (wX Z Q) A r s') args s0 0 0 A) (F0 m 96 ls []) := by
        intro k0 x1 x2 x4 s H locs ls hk0 hf h hl
        unfold p_Tally_add_K96 at hf
        refine lv_aload_n hx hb dX7_add_96 rfl (lv_at hl 0 rfl) ?_
        refine gX_Tally_length hk0 F h hinX7 (hts (.fieldLink RX7 22 "ElectionHouse$Tally" "length" "I") (by decide +kernel)) dX7_add_97 ?_
        refine lv_sipush (v := (600 : Int32)) hx hb dX7_add_100 (by decide) ?_
        refine lv_icmp_lt (tgt := 108) hx hb dX7_add_103 (by decide) (fun c_1 => ?_) (fun c_1 => ?_)
        · have hf := ip c_1 hf
          refine lv_aload_n hx hb dX7_add_108 rfl (lv_at hl 0 rfl) ?_
          refine gX_Tally_keys hk0 F h hinX7 (hts (.fieldLink RX7 9 "ElectionHouse$Tally" "keys" "[I") (by decide +kernel)) dX7_add_109 ?_
          refine lv_aload_n hx hb dX7_add_112 rfl (lv_at hl 0 rfl) ?_
          refine gX_Tally_length hk0 F h hinX7 (hts (.fieldLink RX7 22 "ElectionHouse$Tally" "length" "I") (by decide +kernel)) dX7_add_113 ?_
          refine lv_iload_n hx hb dX7_add_116 rfl (lv_at hl 1 rfl) ?_
          obtain ⟨gi2, hf⟩ := og hf
          refine sX_tkeys hk0 F h gi2 dX7_add_117 (fun H locs h => ?_)
          obtain ⟨s3, es, hf⟩ := olq hf
          rw [← es] at h
          refine lv_aload_n hx hb dX7_add_118 rfl (lv_at hl 0 rfl) ?_
          refine gX_Tally_ways hk0 F h hinX7 (hts (.fieldLink RX7 15 "ElectionHouse$Tally" "ways" "[J") (by decide +kernel)) dX7_add_119 ?_
          refine lv_aload_n hx hb dX7_add_122 rfl (lv_at hl 0 rfl) ?_
          refine gX_Tally_length hk0 F h hinX7 (hts (.fieldLink RX7 22 "ElectionHouse$Tally" "length" "I") (by decide +kernel)) dX7_add_123 ?_
          refine lv_lload_n hx hb dX7_add_126 rfl (lv_at hl 2 rfl) ?_
          obtain ⟨gi4, hf⟩ := og hf
          refine sX_tways hk0 F h gi4 dX7_add_127 (fun H locs h => ?_)
          obtain ⟨s5, es, hf⟩ := olq hf
          rw [← es] at h
          refine lv_aload_n hx hb dX7_add_128 rfl (lv_at hl 0 rfl) ?_
          refine lv_dup hx hb dX7_add_129 rfl ?_
          refine gX_Tally_length hk0 F h hinX7 (hts (.fieldLink RX7 22 "ElectionHouse$Tally" "length" "I") (by decide +kernel)) dX7_add_130 ?_
          refine lv_iconst (v := (1 : Int32)) hx hb dX7_add_133 (by decide) ?_
          refine lv_iadd hx hb dX7_add_134 ?_
          refine pX_Tally_length hk0 F h hinX7 (hts (.fieldLink RX7 22 "ElectionHouse$Tally" "length" "I") (by decide +kernel)) dX7_add_135 (fun H locs h => ?_)
          obtain ⟨s6, es, hf⟩ := olq hf
          rw [← es] at h
          refine lv_aload_n hx hb dX7_add_138 rfl (lv_at hl 0 rfl) ?_
          refine gX_Tally_slots hk0 F h hinX7 (hts (.fieldLink RX7 19 "ElectionHouse$Tally" "slots" "[I") (by decide +kernel)) dX7_add_139 ?_
          refine lv_iload hx hb dX7_add_142 (lv_at hl 3 rfl) ?_
          refine lv_aload_n hx hb dX7_add_144 rfl (lv_at hl 0 rfl) ?_
          refine gX_Tally_length hk0 F h hinX7 (hts (.fieldLink RX7 22 "ElectionHouse$Tally" "length" "I") (by decide +kernel)) dX7_add_145 ?_
          obtain ⟨gi7, hf⟩ := og hf
          refine sX_tslots hk0 F h gi7 dX7_add_148 (fun H locs h => ?_)
          obtain ⟨s8, es, hf⟩ := olq hf
          rw [← es] at h
          refine lv_iconst (v := (1 : Int32)) hx hb dX7_add_149 (by decide) ?_
          exact retE_Z F hr hlk (by decide) h hf dX7_add_150
        · have hf := im c_1 hf
          refine lv_iconst (v := (0 : Int32)) hx hb dX7_add_106 (by decide) ?_
          exact retE_Z F hr hlk (by decide) h hf dX7_add_107
      refine lv_iload hx hb dX7_add_13 (lv_at hl 4 rfl) ?_
      refine lv_sipush (v := (1024 : Int32)) hx hb dX7_add_15 (by decide) ?_
      refine lv_icmp_ge (tgt := 96) hx hb dX7_add_18 (by decide) (fun c_9 => ?_) (fun c_9 => ?_)
      · have hf := ip c_9 hf
        exact lab96 k0 x1 x2 x4 s H locs ls hk0 hf h (lv_sub hl [0, 1, 2, 3] rfl)
      · have hf := im c_9 hf
        refine lv_aload_n hx hb dX7_add_21 rfl (lv_at hl 0 rfl) ?_
        refine gX_Tally_slots hk0 F h hinX7 (hts (.fieldLink RX7 19 "ElectionHouse$Tally" "slots" "[I") (by decide +kernel)) dX7_add_22 ?_
        refine lv_iload hx hb dX7_add_25 (lv_at hl 3 rfl) ?_
        obtain ⟨gi10, hf⟩ := og hf
        refine lX_tslots hk0 F h gi10 dX7_add_27 ?_
        refine lv_if_eq (tgt := 96) hx hb dX7_add_28 (by decide) (fun c_11 => ?_) (fun c_11 => ?_)
        · have hf := ip c_11 hf
          exact lab96 k0 x1 x2 x4 s H locs ls hk0 hf h (lv_sub hl [0, 1, 2, 3] rfl)
        · have hf := im c_11 hf
          refine lv_aload_n hx hb dX7_add_31 rfl (lv_at hl 0 rfl) ?_
          refine gX_Tally_slots hk0 F h hinX7 (hts (.fieldLink RX7 19 "ElectionHouse$Tally" "slots" "[I") (by decide +kernel)) dX7_add_32 ?_
          refine lv_iload hx hb dX7_add_35 (lv_at hl 3 rfl) ?_
          obtain ⟨gi12, hf⟩ := og hf
          refine lX_tslots hk0 F h gi12 dX7_add_37 ?_
          refine lv_iconst (v := (1 : Int32)) hx hb dX7_add_38 (by decide) ?_
          refine lv_isub hx hb dX7_add_39 ?_
          refine lv_istore (lv' := [(6, .int ((gM s (43 + 4 * k0) (ix x4)) - (1 : Int32))), (0, .ref (Q (40 + 4 * k0))), (1, .int x1), (2, .long x2), (4, .int x4), (5, .int x5)]) hx hb dX7_add_40 hl (by decide) rfl (fun ls hl => ?_)
          have hl := lv_sub (l' := [(0, .ref (Q (40 + 4 * k0))), (1, .int x1), (2, .long x2), (4, .int x4), (5, .int x5), (6, .int ((gM s (43 + 4 * k0) (ix x4)) - (1 : Int32)))]) hl [1, 2, 3, 4, 5, 0] rfl
          refine lv_iload hx hb dX7_add_42 (lv_at hl 5 rfl) ?_
          refine lv_if_lt (tgt := 80) hx hb dX7_add_44 (by decide) (fun c_13 => ?_) (fun c_13 => ?_)
          · have hf := ip c_13 hf
            refine lv_iload hx hb dX7_add_80 (lv_at hl 3 rfl) ?_
            refine lv_iconst (v := (1 : Int32)) hx hb dX7_add_82 (by decide) ?_
            refine lv_iadd hx hb dX7_add_83 ?_
            refine lv_sipush (v := (1023 : Int32)) hx hb dX7_add_84 (by decide) ?_
            refine lv_iand hx hb dX7_add_87 ?_
            refine lv_istore (lv' := [(4, .int ((x4 + (1 : Int32)) &&& (1023 : Int32))), (0, .ref (Q (40 + 4 * k0))), (1, .int x1), (2, .long x2), (5, .int x5), (6, .int ((gM s (43 + 4 * k0) (ix x4)) - (1 : Int32)))]) hx hb dX7_add_88 hl (by decide) rfl (fun ls hl => ?_)
            have hl := lv_sub (l' := [(0, .ref (Q (40 + 4 * k0))), (1, .int x1), (2, .long x2), (4, .int ((x4 + (1 : Int32)) &&& (1023 : Int32))), (5, .int x5), (6, .int ((gM s (43 + 4 * k0) (ix x4)) - (1 : Int32)))]) hl [1, 2, 3, 0, 4, 5] rfl
            refine lv_iinc (v := (x5 + (1 : Int32))) (lv' := [(5, .int (x5 + (1 : Int32))), (0, .ref (Q (40 + 4 * k0))), (1, .int x1), (2, .long x2), (4, .int ((x4 + (1 : Int32)) &&& (1023 : Int32))), (6, .int ((gM s (43 + 4 * k0) (ix x4)) - (1 : Int32)))]) hx hb dX7_add_90 hl (k := 4) rfl (congrArg (fun z => x5 + z) (by decide : Int32.ofInt (1) = (1 : Int32))) (by decide) rfl (fun ls hl => ?_)
            have hl := lv_sub (l' := [(0, .ref (Q (40 + 4 * k0))), (1, .int x1), (2, .long x2), (4, .int ((x4 + (1 : Int32)) &&& (1023 : Int32))), (5, .int (x5 + (1 : Int32))), (6, .int ((gM s (43 + 4 * k0) (ix x4)) - (1 : Int32)))]) hl [1, 2, 3, 4, 0, 5] rfl
            refine lv_goto (tgt := 13) hx hb dX7_add_93 (by decide) ?_
            exact ih13 ((x4 + (1 : Int32)) &&& (1023 : Int32)) (x5 + (1 : Int32)) H locs ls hk0 hf h (lv_sub hl [0, 1, 2, 3, 4] rfl)
          · have hf := im c_13 hf
            refine lv_iload hx hb dX7_add_47 (lv_at hl 5 rfl) ?_
            refine lv_aload_n hx hb dX7_add_49 rfl (lv_at hl 0 rfl) ?_
            refine gX_Tally_length hk0 F h hinX7 (hts (.fieldLink RX7 22 "ElectionHouse$Tally" "length" "I") (by decide +kernel)) dX7_add_50 ?_
            refine lv_icmp_ge (tgt := 80) hx hb dX7_add_53 (by decide) (fun c_14 => ?_) (fun c_14 => ?_)
            · have hf := ip c_14 hf
              refine lv_iload hx hb dX7_add_80 (lv_at hl 3 rfl) ?_
              refine lv_iconst (v := (1 : Int32)) hx hb dX7_add_82 (by decide) ?_
              refine lv_iadd hx hb dX7_add_83 ?_
              refine lv_sipush (v := (1023 : Int32)) hx hb dX7_add_84 (by decide) ?_
              refine lv_iand hx hb dX7_add_87 ?_
              refine lv_istore (lv' := [(4, .int ((x4 + (1 : Int32)) &&& (1023 : Int32))), (0, .ref (Q (40 + 4 * k0))), (1, .int x1), (2, .long x2), (5, .int x5), (6, .int ((gM s (43 + 4 * k0) (ix x4)) - (1 : Int32)))]) hx hb dX7_add_88 hl (by decide) rfl (fun ls hl => ?_)
              have hl := lv_sub (l' := [(0, .ref (Q (40 + 4 * k0))), (1, .int x1), (2, .long x2), (4, .int ((x4 + (1 : Int32)) &&& (1023 : Int32))), (5, .int x5), (6, .int ((gM s (43 + 4 * k0) (ix x4)) - (1 : Int32)))]) hl [1, 2, 3, 0, 4, 5] rfl
              refine lv_iinc (v := (x5 + (1 : Int32))) (lv' := [(5, .int (x5 + (1 : Int32))), (0, .ref (Q (40 + 4 * k0))), (1, .int x1), (2, .long x2), (4, .int ((x4 + (1 : Int32)) &&& (1023 : Int32))), (6, .int ((gM s (43 + 4 * k0) (ix x4)) - (1 : Int32)))]) hx hb dX7_add_90 hl (k := 4) rfl (congrArg (fun z => x5 + z) (by decide : Int32.ofInt (1) = (1 : Int32))) (by decide) rfl (fun ls hl => ?_)
              have hl := lv_sub (l' := [(0, .ref (Q (40 + 4 * k0))), (1, .int x1), (2, .long x2), (4, .int ((x4 + (1 : Int32)) &&& (1023 : Int32))), (5, .int (x5 + (1 : Int32))), (6, .int ((gM s (43 + 4 * k0) (ix x4)) - (1 : Int32)))]) hl [1, 2, 3, 4, 0, 5] rfl
              refine lv_goto (tgt := 13) hx hb dX7_add_93 (by decide) ?_
              exact ih13 ((x4 + (1 : Int32)) &&& (1023 : Int32)) (x5 + (1 : Int32)) H locs ls hk0 hf h (lv_sub hl [0, 1, 2, 3, 4] rfl)
            · have hf := im c_14 hf
              refine lv_aload_n hx hb dX7_add_56 rfl (lv_at hl 0 rfl) ?_
              refine gX_Tally_keys hk0 F h hinX7 (hts (.fieldLink RX7 9 "ElectionHouse$Tally" "keys" "[I") (by decide +kernel)) dX7_add_57 ?_
              refine lv_iload hx hb dX7_add_60 (lv_at hl 5 rfl) ?_
              obtain ⟨gi15, hf⟩ := og hf
              refine lX_tkeys hk0 F h gi15 dX7_add_62 ?_
              refine lv_iload_n hx hb dX7_add_63 rfl (lv_at hl 1 rfl) ?_
              refine lv_icmp_ne (tgt := 80) hx hb dX7_add_64 (by decide) (fun c_16 => ?_) (fun c_16 => ?_)
              · have hf := im c_16 hf
                refine lv_iload hx hb dX7_add_80 (lv_at hl 3 rfl) ?_
                refine lv_iconst (v := (1 : Int32)) hx hb dX7_add_82 (by decide) ?_
                refine lv_iadd hx hb dX7_add_83 ?_
                refine lv_sipush (v := (1023 : Int32)) hx hb dX7_add_84 (by decide) ?_
                refine lv_iand hx hb dX7_add_87 ?_
                refine lv_istore (lv' := [(4, .int ((x4 + (1 : Int32)) &&& (1023 : Int32))), (0, .ref (Q (40 + 4 * k0))), (1, .int x1), (2, .long x2), (5, .int x5), (6, .int ((gM s (43 + 4 * k0) (ix x4)) - (1 : Int32)))]) hx hb dX7_add_88 hl (by decide) rfl (fun ls hl => ?_)
                have hl := lv_sub (l' := [(0, .ref (Q (40 + 4 * k0))), (1, .int x1), (2, .long x2), (4, .int ((x4 + (1 : Int32)) &&& (1023 : Int32))), (5, .int x5), (6, .int ((gM s (43 + 4 * k0) (ix x4)) - (1 : Int32)))]) hl [1, 2, 3, 0, 4, 5] rfl
                refine lv_iinc (v := (x5 + (1 : Int32))) (lv' := [(5, .int (x5 + (1 : Int32))), (0, .ref (Q (40 + 4 * k0))), (1, .int x1), (2, .long x2), (4, .int ((x4 + (1 : Int32)) &&& (1023 : Int32))), (6, .int ((gM s (43 + 4 * k0) (ix x4)) - (1 : Int32)))]) hx hb dX7_add_90 hl (k := 4) rfl (congrArg (fun z => x5 + z) (by decide : Int32.ofInt (1) = (1 : Int32))) (by decide) rfl (fun ls hl => ?_)
                have hl := lv_sub (l' := [(0, .ref (Q (40 + 4 * k0))), (1, .int x1), (2, .long x2), (4, .int ((x4 + (1 : Int32)) &&& (1023 : Int32))), (5, .int (x5 + (1 : Int32))), (6, .int ((gM s (43 + 4 * k0) (ix x4)) - (1 : Int32)))]) hl [1, 2, 3, 4, 0, 5] rfl
                refine lv_goto (tgt := 13) hx hb dX7_add_93 (by decide) ?_
                exact ih13 ((x4 + (1 : Int32)) &&& (1023 : Int32)) (x5 + (1 : Int32)) H locs ls hk0 hf h (lv_sub hl [0, 1, 2, 3, 4] rfl)
              · have hf := ip c_16 hf
                refine lv_aload_n hx hb dX7_add_67 rfl (lv_at hl 0 rfl) ?_
                refine gX_Tally_ways hk0 F h hinX7 (hts (.fieldLink RX7 15 "ElectionHouse$Tally" "ways" "[J") (by decide +kernel)) dX7_add_68 ?_
                refine lv_iload hx hb dX7_add_71 (lv_at hl 5 rfl) ?_
                refine lv_dup2_11 hx hb dX7_add_73 rfl rfl ?_
                obtain ⟨gi17, hf⟩ := og hf
                refine lX_tways hk0 F h gi17 dX7_add_74 ?_
                refine lv_lload_n hx hb dX7_add_75 rfl (lv_at hl 2 rfl) ?_
                refine lv_ladd hx hb dX7_add_76 ?_
                obtain ⟨gi18, hf⟩ := og hf
                refine sX_tways hk0 F h gi18 dX7_add_77 (fun H locs h => ?_)
                obtain ⟨s19, es, hf⟩ := olq hf
                rw [← es] at h
                refine lv_iconst (v := (1 : Int32)) hx hb dX7_add_78 (by decide) ?_
                exact retE_Z F hr hlk (by decide) h hf dX7_add_79
  refine lv_iload_n hx hb dX7_add_0 rfl (lv_at hl 1 rfl) ?_
  refine lv_bipush (v := (37 : Int32)) hx hb dX7_add_1 (by decide) ?_
  refine lv_imul hx hb dX7_add_3 ?_
  refine lv_sipush (v := (1023 : Int32)) hx hb dX7_add_4 (by decide) ?_
  refine lv_iand hx hb dX7_add_7 ?_
  refine lv_istore (lv' := [(4, .int ((x1 * (37 : Int32)) &&& (1023 : Int32))), (0, .ref (Q (40 + 4 * k0))), (1, .int x1), (2, .long x2)]) hx hb dX7_add_8 hl (by decide) rfl (fun ls hl => ?_)
  have hl := lv_sub (l' := [(0, .ref (Q (40 + 4 * k0))), (1, .int x1), (2, .long x2), (4, .int ((x1 * (37 : Int32)) &&& (1023 : Int32)))]) hl [1, 2, 3, 0] rfl
  refine lv_iconst (v := (0 : Int32)) hx hb dX7_add_10 (by decide) ?_
  refine lv_istore (lv' := [(5, .int (0 : Int32)), (0, .ref (Q (40 + 4 * k0))), (1, .int x1), (2, .long x2), (4, .int ((x1 * (37 : Int32)) &&& (1023 : Int32)))]) hx hb dX7_add_11 hl (by decide) rfl (fun ls hl => ?_)
  have hl := lv_sub (l' := [(0, .ref (Q (40 + 4 * k0))), (1, .int x1), (2, .long x2), (4, .int ((x1 * (37 : Int32)) &&& (1023 : Int32))), (5, .int (0 : Int32))]) hl [1, 2, 3, 4, 0] rfl
  exact lab13 k0 x1 x2 s fuelN ((x1 * (37 : Int32)) &&& (1023 : Int32)) (0 : Int32) H locs ls hk0 hf h (lv_sub hl [0, 1, 2, 3, 4] rfl)

set_option maxHeartbeats 8000000 in
set_option maxRecDepth 100000 in
theorem c_Tally_length (l : Launch) (Z : ZT) (Q : Nat → Nat) (s : XS) (k0 : Nat) (hk0 : k0 < 2) {r : Int32} (hf : p_Tally_length k0 s = some r) : KI l Z (wX Z Q) yX7_length wsX7_length { frames := 0, cells := 0, slots := 0, locals := 0 } [.ref (Q (40 + 4 * k0))] s r s := by
  intro sz
  refine met_entry (cc := cX7_length) (maxL := 1) (ret := (some .int)) (by decide) rfl (Nat.le_of_ble_eq_true rfl) sz rfl ?_
  generalize va_A (wX Z Q s) sz = A
  intro p e s0 m args below meth c ls F hr hlk h hl
  have hl : lv_has ls 1 [(0, .ref (Q (40 + 4 * k0)))] := hl
  obtain ⟨hx, hb, hml, hown, hts⟩ := id F
  have hinX7 : ∀ w ∈ wsX70, w ∈ wsX7_length := by decide +kernel
  obtain ⟨H, eH⟩ : ∃ z, z = s0.heap := ⟨_, rfl⟩
  obtain ⟨locs, eL⟩ : ∃ z : List Loc, z = [] := ⟨_, rfl⟩
  rw [← eH, ← eL] at h ⊢
  unfold p_Tally_length at hf
  refine lv_aload_n hx hb dX7_length_0 rfl (lv_at hl 0 rfl) ?_
  refine gX_Tally_length hk0 F h hinX7 (hts (.fieldLink RX7 22 "ElectionHouse$Tally" "length" "I") (by decide +kernel)) dX7_length_1 ?_
  exact retE_Ir F hr hlk h hf dX7_length_4

set_option maxHeartbeats 8000000 in
set_option maxRecDepth 100000 in
theorem c_Tally_keyAt (l : Launch) (Z : ZT) (Q : Nat → Nat) (s : XS) (k0 : Nat) (x1 : Int32) (hk0 : k0 < 2) {r : Int32} (hf : p_Tally_keyAt k0 x1 s = some r) : KI l Z (wX Z Q) yX7_keyAt wsX7_keyAt { frames := 0, cells := 0, slots := 0, locals := 0 } [.ref (Q (40 + 4 * k0)), .int x1] s r s := by
  intro sz
  refine met_entry (cc := cX7_keyAt) (maxL := 2) (ret := (some .int)) (by decide) rfl (Nat.le_of_ble_eq_true rfl) sz rfl ?_
  generalize va_A (wX Z Q s) sz = A
  intro p e s0 m args below meth c ls F hr hlk h hl
  have hl : lv_has ls 2 [(0, .ref (Q (40 + 4 * k0))), (1, .int x1)] := hl
  obtain ⟨hx, hb, hml, hown, hts⟩ := id F
  have hinX7 : ∀ w ∈ wsX70, w ∈ wsX7_keyAt := by decide +kernel
  obtain ⟨H, eH⟩ : ∃ z, z = s0.heap := ⟨_, rfl⟩
  obtain ⟨locs, eL⟩ : ∃ z : List Loc, z = [] := ⟨_, rfl⟩
  rw [← eH, ← eL] at h ⊢
  unfold p_Tally_keyAt at hf
  refine lv_iload_n hx hb dX7_keyAt_0 rfl (lv_at hl 1 rfl) ?_
  refine lv_if_lt (tgt := 21) hx hb dX7_keyAt_1 (by decide) (fun c_1 => ?_) (fun c_1 => ?_)
  · have hf := ip c_1 hf
    refine lv_iconst (v := (0 : Int32)) hx hb dX7_keyAt_21 (by decide) ?_
    exact retE_Ir F hr hlk h hf dX7_keyAt_22
  · have hf := im c_1 hf
    refine lv_iload_n hx hb dX7_keyAt_4 rfl (lv_at hl 1 rfl) ?_
    refine lv_aload_n hx hb dX7_keyAt_5 rfl (lv_at hl 0 rfl) ?_
    refine gX_Tally_length hk0 F h hinX7 (hts (.fieldLink RX7 22 "ElectionHouse$Tally" "length" "I") (by decide +kernel)) dX7_keyAt_6 ?_
    refine lv_icmp_ge (tgt := 21) hx hb dX7_keyAt_9 (by decide) (fun c_2 => ?_) (fun c_2 => ?_)
    · have hf := ip c_2 hf
      refine lv_iconst (v := (0 : Int32)) hx hb dX7_keyAt_21 (by decide) ?_
      exact retE_Ir F hr hlk h hf dX7_keyAt_22
    · have hf := im c_2 hf
      refine lv_aload_n hx hb dX7_keyAt_12 rfl (lv_at hl 0 rfl) ?_
      refine gX_Tally_keys hk0 F h hinX7 (hts (.fieldLink RX7 9 "ElectionHouse$Tally" "keys" "[I") (by decide +kernel)) dX7_keyAt_13 ?_
      refine lv_iload_n hx hb dX7_keyAt_16 rfl (lv_at hl 1 rfl) ?_
      obtain ⟨gi3, hf⟩ := og hf
      refine lX_tkeys hk0 F h gi3 dX7_keyAt_17 ?_
      refine lv_goto (tgt := 22) hx hb dX7_keyAt_18 (by decide) ?_
      exact retE_Ir F hr hlk h hf dX7_keyAt_22

set_option maxHeartbeats 8000000 in
set_option maxRecDepth 100000 in
theorem c_Tally_waysAt (l : Launch) (Z : ZT) (Q : Nat → Nat) (s : XS) (k0 : Nat) (x1 : Int32) (hk0 : k0 < 2) {r : Int64} (hf : p_Tally_waysAt k0 x1 s = some r) : KL l Z (wX Z Q) yX7_waysAt wsX7_waysAt { frames := 0, cells := 0, slots := 0, locals := 0 } [.ref (Q (40 + 4 * k0)), .int x1] s r s := by
  intro sz
  refine met_entry (cc := cX7_waysAt) (maxL := 2) (ret := (some .long)) (by decide) rfl (Nat.le_of_ble_eq_true rfl) sz rfl ?_
  generalize va_A (wX Z Q s) sz = A
  intro p e s0 m args below meth c ls F hr hlk h hl
  have hl : lv_has ls 2 [(0, .ref (Q (40 + 4 * k0))), (1, .int x1)] := hl
  obtain ⟨hx, hb, hml, hown, hts⟩ := id F
  have hinX7 : ∀ w ∈ wsX70, w ∈ wsX7_waysAt := by decide +kernel
  obtain ⟨H, eH⟩ : ∃ z, z = s0.heap := ⟨_, rfl⟩
  obtain ⟨locs, eL⟩ : ∃ z : List Loc, z = [] := ⟨_, rfl⟩
  rw [← eH, ← eL] at h ⊢
  unfold p_Tally_waysAt at hf
  refine lv_iload_n hx hb dX7_waysAt_0 rfl (lv_at hl 1 rfl) ?_
  refine lv_if_lt (tgt := 21) hx hb dX7_waysAt_1 (by decide) (fun c_1 => ?_) (fun c_1 => ?_)
  · have hf := ip c_1 hf
    refine lv_lconst (v := (0 : Int64)) hx hb dX7_waysAt_21 (by decide) ?_
    exact retE_Lr F hr hlk h hf dX7_waysAt_22
  · have hf := im c_1 hf
    refine lv_iload_n hx hb dX7_waysAt_4 rfl (lv_at hl 1 rfl) ?_
    refine lv_aload_n hx hb dX7_waysAt_5 rfl (lv_at hl 0 rfl) ?_
    refine gX_Tally_length hk0 F h hinX7 (hts (.fieldLink RX7 22 "ElectionHouse$Tally" "length" "I") (by decide +kernel)) dX7_waysAt_6 ?_
    refine lv_icmp_ge (tgt := 21) hx hb dX7_waysAt_9 (by decide) (fun c_2 => ?_) (fun c_2 => ?_)
    · have hf := ip c_2 hf
      refine lv_lconst (v := (0 : Int64)) hx hb dX7_waysAt_21 (by decide) ?_
      exact retE_Lr F hr hlk h hf dX7_waysAt_22
    · have hf := im c_2 hf
      refine lv_aload_n hx hb dX7_waysAt_12 rfl (lv_at hl 0 rfl) ?_
      refine gX_Tally_ways hk0 F h hinX7 (hts (.fieldLink RX7 15 "ElectionHouse$Tally" "ways" "[J") (by decide +kernel)) dX7_waysAt_13 ?_
      refine lv_iload_n hx hb dX7_waysAt_16 rfl (lv_at hl 1 rfl) ?_
      obtain ⟨gi3, hf⟩ := og hf
      refine lX_tways hk0 F h gi3 dX7_waysAt_17 ?_
      refine lv_goto (tgt := 22) hx hb dX7_waysAt_18 (by decide) ?_
      exact retE_Lr F hr hlk h hf dX7_waysAt_22

