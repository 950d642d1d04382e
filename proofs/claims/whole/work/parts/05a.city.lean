set_option maxHeartbeats 8000000 in
set_option maxRecDepth 100000 in
theorem c_City_isHouse (l : Launch) (Z : ZT) (V : XS → va_W) (s : XS) (x0 : Int32) {r : Int32} (hf : p_City_isHouse x0 = some r) : KI l Z V yX0_isHouse wsX0_isHouse { frames := 0, cells := 0, slots := 0, locals := 0 } [.int x0] s r s := by
  intro sz
  refine met_entry (cc := cX0_isHouse) (maxL := 1) (ret := (some .boolean)) (by decide) rfl (Nat.le_of_ble_eq_true rfl) sz rfl ?_
  generalize va_A (V s) sz = A
  intro p e s0 m args below meth c ls F hr hlk h hl
  have hl : lv_has ls 1 [(0, .int x0)] := hl
  obtain ⟨hx, hb, hml, hown, hts⟩ := id F
  obtain ⟨H, eH⟩ : ∃ z, z = s0.heap := ⟨_, rfl⟩
  obtain ⟨locs, eL⟩ : ∃ z : List Loc, z = [] := ⟨_, rfl⟩
  rw [← eH, ← eL] at h ⊢
  unfold p_City_isHouse at hf
  refine lv_iload_n hx hb dX0_isHouse_0 rfl (lv_at hl 0 rfl) ?_
  refine lv_if_lt (tgt := 14) hx hb dX0_isHouse_1 (by decide) (fun c_1 => ?_) (fun c_1 => ?_)
  · have hf := ip c_1 hf
    refine lv_iconst (v := (0 : Int32)) hx hb dX0_isHouse_14 (by decide) ?_
    exact retE_Zr F hr hlk (by decide) h hf dX0_isHouse_15
  · have hf := im c_1 hf
    refine lv_iload_n hx hb dX0_isHouse_4 rfl (lv_at hl 0 rfl) ?_
    refine lv_bipush (v := (12 : Int32)) hx hb dX0_isHouse_5 (by decide) ?_
    refine lv_icmp_ge (tgt := 14) hx hb dX0_isHouse_7 (by decide) (fun c_2 => ?_) (fun c_2 => ?_)
    · have hf := ip c_2 hf
      refine lv_iconst (v := (0 : Int32)) hx hb dX0_isHouse_14 (by decide) ?_
      exact retE_Zr F hr hlk (by decide) h hf dX0_isHouse_15
    · have hf := im c_2 hf
      refine lv_iconst (v := (1 : Int32)) hx hb dX0_isHouse_10 (by decide) ?_
      refine lv_goto (tgt := 15) hx hb dX0_isHouse_11 (by decide) ?_
      exact retE_Zr F hr hlk (by decide) h hf dX0_isHouse_15

set_option maxHeartbeats 8000000 in
set_option maxRecDepth 100000 in
theorem c_City_isParty (l : Launch) (Z : ZT) (V : XS → va_W) (s : XS) (x0 : Int32) {r : Int32} (hf : p_City_isParty x0 = some r) : KI l Z V yX0_isParty wsX0_isParty { frames := 0, cells := 0, slots := 0, locals := 0 } [.int x0] s r s := by
  intro sz
  refine met_entry (cc := cX0_isParty) (maxL := 1) (ret := (some .boolean)) (by decide) rfl (Nat.le_of_ble_eq_true rfl) sz rfl ?_
  generalize va_A (V s) sz = A
  intro p e s0 m args below meth c ls F hr hlk h hl
  have hl : lv_has ls 1 [(0, .int x0)] := hl
  obtain ⟨hx, hb, hml, hown, hts⟩ := id F
  obtain ⟨H, eH⟩ : ∃ z, z = s0.heap := ⟨_, rfl⟩
  obtain ⟨locs, eL⟩ : ∃ z : List Loc, z = [] := ⟨_, rfl⟩
  rw [← eH, ← eL] at h ⊢
  unfold p_City_isParty at hf
  refine lv_iload_n hx hb dX0_isParty_0 rfl (lv_at hl 0 rfl) ?_
  refine lv_if_lt (tgt := 13) hx hb dX0_isParty_1 (by decide) (fun c_1 => ?_) (fun c_1 => ?_)
  · have hf := ip c_1 hf
    refine lv_iconst (v := (0 : Int32)) hx hb dX0_isParty_13 (by decide) ?_
    exact retE_Zr F hr hlk (by decide) h hf dX0_isParty_14
  · have hf := im c_1 hf
    refine lv_iload_n hx hb dX0_isParty_4 rfl (lv_at hl 0 rfl) ?_
    refine lv_iconst (v := (4 : Int32)) hx hb dX0_isParty_5 (by decide) ?_
    refine lv_icmp_ge (tgt := 13) hx hb dX0_isParty_6 (by decide) (fun c_2 => ?_) (fun c_2 => ?_)
    · have hf := ip c_2 hf
      refine lv_iconst (v := (0 : Int32)) hx hb dX0_isParty_13 (by decide) ?_
      exact retE_Zr F hr hlk (by decide) h hf dX0_isParty_14
    · have hf := im c_2 hf
      refine lv_iconst (v := (1 : Int32)) hx hb dX0_isParty_9 (by decide) ?_
      refine lv_goto (tgt := 14) hx hb dX0_isParty_10 (by decide) ?_
      exact retE_Zr F hr hlk (by decide) h hf dX0_isParty_14

set_option maxHeartbeats 8000000 in
set_option maxRecDepth 100000 in
theorem c_City_settle (l : Launch) (Z : ZT) (Q : Nat → Nat) (s : XS) (x1 : Int32) (x2 : Int32) {r : Int32} {s' : XS} (hf : p_City_settle x1 x2 s = some (r, s')) : KI l Z (wX Z Q) yX0_settle wsX0_settle { frames := 1, cells := 0, slots := 0, locals := 20 } [.ref (Q 1), .int x1, .int x2] s r s' := by
  intro sz
  refine met_entry (cc := cX0_settle) (maxL := 4) (ret := (some .int)) (by decide) rfl (Nat.le_of_ble_eq_true rfl) sz rfl ?_
  generalize va_A (wX Z Q s) sz = A
  intro p e s0 m args below meth c ls F hr hlk h hl
  have hl : lv_has ls 4 [(0, .ref (Q 1)), (1, .int x1), (2, .int x2)] := hl
  obtain ⟨hx, hb, hml, hown, hts⟩ := id F
  have hinX0 : ∀ w ∈ wsX00, w ∈ wsX0_settle := by decide +kernel
  obtain ⟨H, eH⟩ : ∃ z, z = s0.heap := ⟨_, rfl⟩
  obtain ⟨locs, eL⟩ : ∃ z : List Loc, z = [] := ⟨_, rfl⟩
  rw [← eH, ← eL] at h ⊢
  unfold p_City_settle at hf
  refine lv_aload_n hx hb dX0_settle_0 rfl (lv_at hl 0 rfl) ?_
  refine gX_City_size F h hinX0 (hts (.fieldLink RX0 29 "ElectionHouse$City" "size" "I") (by decide +kernel)) dX0_settle_1 ?_
  refine lv_bipush (v := (40 : Int32)) hx hb dX0_settle_4 (by decide) ?_
  refine lv_icmp_ge (tgt := 23) hx hb dX0_settle_6 (by decide) (fun c_1 => ?_) (fun c_1 => ?_)
  · have hf := ip c_1 hf
    refine lv_iconst (v := (-1 : Int32)) hx hb dX0_settle_23 (by decide) ?_
    exact retE_I F hr hlk h hf dX0_settle_24
  · have hf := im c_1 hf
    refine lv_iload_n hx hb dX0_settle_9 rfl (lv_at hl 1 rfl) ?_
    obtain ⟨r3, hc2, hf⟩ := ob1 hf
    refine call_SI F (c_City_isHouse l Z (wX Z Q) s x1 hc2) (va_cwS 1 hts gX0_settle_X0_isHouse rfl rfl rfl (by decide +kernel) ⟨Nat.le_of_ble_eq_true rfl, Nat.le_of_ble_eq_true rfl⟩) h rfl hl.1 rfl (Nat.le_of_ble_eq_true rfl) ⟨Nat.zero_le _, Nat.zero_le _⟩ dX0_settle_10 (fun H locs h => ?_)
    refine lv_if_eq (tgt := 23) hx hb dX0_settle_13 (by decide) (fun c_5 => ?_) (fun c_5 => ?_)
    · have hf := ip c_5 hf
      refine lv_iconst (v := (-1 : Int32)) hx hb dX0_settle_23 (by decide) ?_
      exact retE_I F hr hlk h hf dX0_settle_24
    · have hf := im c_5 hf
      refine lv_iload_n hx hb dX0_settle_16 rfl (lv_at hl 2 rfl) ?_
      obtain ⟨r7, hc6, hf⟩ := ob1 hf
      refine call_SI F (c_City_isParty l Z (wX Z Q) s x2 hc6) (va_cwS 1 hts gX0_settle_X0_isParty rfl rfl rfl (by decide +kernel) ⟨Nat.le_of_ble_eq_true rfl, Nat.le_of_ble_eq_true rfl⟩) h rfl hl.1 rfl (Nat.le_of_ble_eq_true rfl) ⟨Nat.zero_le _, Nat.zero_le _⟩ dX0_settle_17 (fun H locs h => ?_)
      refine lv_if_ne (tgt := 25) hx hb dX0_settle_20 (by decide) (fun c_9 => ?_) (fun c_9 => ?_)
      · have hf := im c_9 hf
        refine lv_aload_n hx hb dX0_settle_25 rfl (lv_at hl 0 rfl) ?_
        refine gX_City_size F h hinX0 (hts (.fieldLink RX0 29 "ElectionHouse$City" "size" "I") (by decide +kernel)) dX0_settle_26 ?_
        refine lv_istore_n (lv' := [(3, .int (gM s 1 5)), (0, .ref (Q 1)), (1, .int x1), (2, .int x2)]) hx hb dX0_settle_29 rfl hl (by decide) rfl (fun ls hl => ?_)
        have hl := lv_sub (l' := [(0, .ref (Q 1)), (1, .int x1), (2, .int x2), (3, .int (gM s 1 5))]) hl [1, 2, 3, 0] rfl
        refine lv_aload_n hx hb dX0_settle_30 rfl (lv_at hl 0 rfl) ?_
        refine gX_City_houses F h hinX0 (hts (.fieldLink RX0 9 "ElectionHouse$City" "houses" "[I") (by decide +kernel)) dX0_settle_31 ?_
        refine lv_iload_n hx hb dX0_settle_34 rfl (lv_at hl 3 rfl) ?_
        refine lv_iload_n hx hb dX0_settle_35 rfl (lv_at hl 1 rfl) ?_
        obtain ⟨gi10, hf⟩ := og hf
        refine sX_houses F h gi10 dX0_settle_36 (fun H locs h => ?_)
        obtain ⟨s11, es, hf⟩ := olq hf
        rw [← es] at h
        refine lv_aload_n hx hb dX0_settle_37 rfl (lv_at hl 0 rfl) ?_
        refine gX_City_parties F h hinX0 (hts (.fieldLink RX0 15 "ElectionHouse$City" "parties" "[I") (by decide +kernel)) dX0_settle_38 ?_
        refine lv_iload_n hx hb dX0_settle_41 rfl (lv_at hl 3 rfl) ?_
        refine lv_iload_n hx hb dX0_settle_42 rfl (lv_at hl 2 rfl) ?_
        obtain ⟨gi12, hf⟩ := og hf
        refine sX_parties F h gi12 dX0_settle_43 (fun H locs h => ?_)
        obtain ⟨s13, es, hf⟩ := olq hf
        rw [← es] at h
        refine lv_aload_n hx hb dX0_settle_44 rfl (lv_at hl 0 rfl) ?_
        refine gX_City_present F h hinX0 (hts (.fieldLink RX0 18 "ElectionHouse$City" "present" "[Z") (by decide +kernel)) dX0_settle_45 ?_
        refine lv_iload_n hx hb dX0_settle_48 rfl (lv_at hl 3 rfl) ?_
        refine lv_iconst (v := (1 : Int32)) hx hb dX0_settle_49 (by decide) ?_
        obtain ⟨gi14, hf⟩ := og hf
        refine sX_present F h gi14 dX0_settle_50 (fun H locs h => ?_)
        obtain ⟨s15, es, hf⟩ := olq hf
        rw [← es] at h
        refine lv_aload_n hx hb dX0_settle_51 rfl (lv_at hl 0 rfl) ?_
        refine lv_dup hx hb dX0_settle_52 rfl ?_
        refine gX_City_size F h hinX0 (hts (.fieldLink RX0 29 "ElectionHouse$City" "size" "I") (by decide +kernel)) dX0_settle_53 ?_
        refine lv_iconst (v := (1 : Int32)) hx hb dX0_settle_56 (by decide) ?_
        refine lv_iadd hx hb dX0_settle_57 ?_
        refine pX_City_size F h hinX0 (hts (.fieldLink RX0 29 "ElectionHouse$City" "size" "I") (by decide +kernel)) dX0_settle_58 (fun H locs h => ?_)
        obtain ⟨s16, es, hf⟩ := olq hf
        rw [← es] at h
        refine lv_iload_n hx hb dX0_settle_61 rfl (lv_at hl 3 rfl) ?_
        exact retE_I F hr hlk h hf dX0_settle_62
      · have hf := ip c_9 hf
        refine lv_iconst (v := (-1 : Int32)) hx hb dX0_settle_23 (by decide) ?_
        exact retE_I F hr hlk h hf dX0_settle_24

set_option maxHeartbeats 8000000 in
set_option maxRecDepth 100000 in
theorem c_City_has (l : Launch) (Z : ZT) (Q : Nat → Nat) (s : XS) (x1 : Int32) {r : Int32} (hf : p_City_has x1 s = some r) : KI l Z (wX Z Q) yX0_has wsX0_has { frames := 0, cells := 0, slots := 0, locals := 0 } [.ref (Q 1), .int x1] s r s := by
  intro sz
  refine met_entry (cc := cX0_has) (maxL := 2) (ret := (some .boolean)) (by decide) rfl (Nat.le_of_ble_eq_true rfl) sz rfl ?_
  generalize va_A (wX Z Q s) sz = A
  intro p e s0 m args below meth c ls F hr hlk h hl
  have hl : lv_has ls 2 [(0, .ref (Q 1)), (1, .int x1)] := hl
  obtain ⟨hx, hb, hml, hown, hts⟩ := id F
  have hinX0 : ∀ w ∈ wsX00, w ∈ wsX0_has := by decide +kernel
  obtain ⟨H, eH⟩ : ∃ z, z = s0.heap := ⟨_, rfl⟩
  obtain ⟨locs, eL⟩ : ∃ z : List Loc, z = [] := ⟨_, rfl⟩
  rw [← eH, ← eL] at h ⊢
  unfold p_City_has at hf
  refine lv_iload_n hx hb dX0_has_0 rfl (lv_at hl 1 rfl) ?_
  refine lv_if_lt (tgt := 22) hx hb dX0_has_1 (by decide) (fun c_1 => ?_) (fun c_1 => ?_)
  · have hf := ip c_1 hf
    refine lv_iconst (v := (0 : Int32)) hx hb dX0_has_22 (by decide) ?_
    exact retE_Zr F hr hlk (by decide) h hf dX0_has_23
  · have hf := im c_1 hf
    refine lv_iload_n hx hb dX0_has_4 rfl (lv_at hl 1 rfl) ?_
    refine lv_aload_n hx hb dX0_has_5 rfl (lv_at hl 0 rfl) ?_
    refine gX_City_size F h hinX0 (hts (.fieldLink RX0 29 "ElectionHouse$City" "size" "I") (by decide +kernel)) dX0_has_6 ?_
    refine lv_icmp_ge (tgt := 22) hx hb dX0_has_9 (by decide) (fun c_2 => ?_) (fun c_2 => ?_)
    · have hf := ip c_2 hf
      refine lv_iconst (v := (0 : Int32)) hx hb dX0_has_22 (by decide) ?_
      exact retE_Zr F hr hlk (by decide) h hf dX0_has_23
    · have hf := im c_2 hf
      refine lv_iload_n hx hb dX0_has_12 rfl (lv_at hl 1 rfl) ?_
      refine lv_bipush (v := (40 : Int32)) hx hb dX0_has_13 (by decide) ?_
      refine lv_icmp_ge (tgt := 22) hx hb dX0_has_15 (by decide) (fun c_3 => ?_) (fun c_3 => ?_)
      · have hf := ip c_3 hf
        refine lv_iconst (v := (0 : Int32)) hx hb dX0_has_22 (by decide) ?_
        exact retE_Zr F hr hlk (by decide) h hf dX0_has_23
      · have hf := im c_3 hf
        refine lv_iconst (v := (1 : Int32)) hx hb dX0_has_18 (by decide) ?_
        refine lv_goto (tgt := 23) hx hb dX0_has_19 (by decide) ?_
        exact retE_Zr F hr hlk (by decide) h hf dX0_has_23

set_option maxHeartbeats 8000000 in
set_option maxRecDepth 100000 in
theorem c_City_setThere (l : Launch) (Z : ZT) (Q : Nat → Nat) (s : XS) (x1 : Int32) (x2 : Int32) {r : Int32} {s' : XS} (hf : p_City_setThere x1 x2 s = some (r, s')) : KI l Z (wX Z Q) yX0_setThere wsX0_setThere { frames := 1, cells := 0, slots := 0, locals := 21 } [.ref (Q 1), .int x1, .int x2] s r s' := by
  intro sz
  refine met_entry (cc := cX0_setThere) (maxL := 3) (ret := (some .boolean)) (by decide) rfl (Nat.le_of_ble_eq_true rfl) sz rfl ?_
  generalize va_A (wX Z Q s) sz = A
  intro p e s0 m args below meth c ls F hr hlk h hl
  have hl : lv_has ls 3 [(0, .ref (Q 1)), (1, .int x1), (2, .int x2)] := hl
  obtain ⟨hx, hb, hml, hown, hts⟩ := id F
  have hinX0 : ∀ w ∈ wsX00, w ∈ wsX0_setThere := by decide +kernel
  obtain ⟨H, eH⟩ : ∃ z, z = s0.heap := ⟨_, rfl⟩
  obtain ⟨locs, eL⟩ : ∃ z : List Loc, z = [] := ⟨_, rfl⟩
  rw [← eH, ← eL] at h ⊢
  unfold p_City_setThere at hf
  refine lv_aload_n hx hb dX0_setThere_0 rfl (lv_at hl 0 rfl) ?_
  refine lv_iload_n hx hb dX0_setThere_1 rfl (lv_at hl 1 rfl) ?_
  obtain ⟨r2, hc1, hf⟩ := ob1 hf
  refine call_VI F (c_City_has l Z Q s x1 hc1) (cwV 1 hts gX0_setThere_X0_has rfl rfl rfl (by decide +kernel) ⟨Nat.le_of_ble_eq_true rfl, Nat.le_of_ble_eq_true rfl⟩) h (rcX_City h) rfl hl.1 rfl (Nat.le_of_ble_eq_true rfl) ⟨Nat.zero_le _, Nat.zero_le _⟩ dX0_setThere_2 (fun H locs h => ?_)
  refine lv_if_eq (tgt := 18) hx hb dX0_setThere_5 (by decide) (fun c_4 => ?_) (fun c_4 => ?_)
  · have hf := ip c_4 hf
    refine lv_iconst (v := (0 : Int32)) hx hb dX0_setThere_18 (by decide) ?_
    exact retE_Z F hr hlk (by decide) h hf dX0_setThere_19
  · have hf := im c_4 hf
    refine lv_aload_n hx hb dX0_setThere_8 rfl (lv_at hl 0 rfl) ?_
    refine gX_City_present F h hinX0 (hts (.fieldLink RX0 18 "ElectionHouse$City" "present" "[Z") (by decide +kernel)) dX0_setThere_9 ?_
    refine lv_iload_n hx hb dX0_setThere_12 rfl (lv_at hl 1 rfl) ?_
    obtain ⟨gi5, hf⟩ := og hf
    refine lX_present F h gi5 dX0_setThere_13 ?_
    refine lv_iload_n hx hb dX0_setThere_14 rfl (lv_at hl 2 rfl) ?_
    refine lv_icmp_ne (tgt := 20) hx hb dX0_setThere_15 (by decide) (fun c_6 => ?_) (fun c_6 => ?_)
    · have hf := im c_6 hf
      refine lv_aload_n hx hb dX0_setThere_20 rfl (lv_at hl 0 rfl) ?_
      refine gX_City_present F h hinX0 (hts (.fieldLink RX0 18 "ElectionHouse$City" "present" "[Z") (by decide +kernel)) dX0_setThere_21 ?_
      refine lv_iload_n hx hb dX0_setThere_24 rfl (lv_at hl 1 rfl) ?_
      refine lv_iload_n hx hb dX0_setThere_25 rfl (lv_at hl 2 rfl) ?_
      obtain ⟨gi7, hf⟩ := og hf
      refine sX_present F h gi7 dX0_setThere_26 (fun H locs h => ?_)
      obtain ⟨s8, es, hf⟩ := olq hf
      rw [← es] at h
      refine lv_iconst (v := (1 : Int32)) hx hb dX0_setThere_27 (by decide) ?_
      exact retE_Z F hr hlk (by decide) h hf dX0_setThere_28
    · have hf := ip c_6 hf
      refine lv_iconst (v := (0 : Int32)) hx hb dX0_setThere_18 (by decide) ?_
      exact retE_Z F hr hlk (by decide) h hf dX0_setThere_19

set_option maxHeartbeats 8000000 in
set_option maxRecDepth 100000 in
theorem c_City_wasTold (l : Launch) (Z : ZT) (Q : Nat → Nat) (s : XS) (x1 : Int32) (x2 : Int32) {r : Int32} (hf : p_City_wasTold x1 x2 s = some r) : KI l Z (wX Z Q) yX0_wasTold wsX0_wasTold { frames := 0, cells := 0, slots := 0, locals := 0 } [.ref (Q 1), .int x1, .int x2] s r s := by
  intro sz
  refine met_entry (cc := cX0_wasTold) (maxL := 3) (ret := (some .boolean)) (by decide) rfl (Nat.le_of_ble_eq_true rfl) sz rfl ?_
  generalize va_A (wX Z Q s) sz = A
  intro p e s0 m args below meth c ls F hr hlk h hl
  have hl : lv_has ls 3 [(0, .ref (Q 1)), (1, .int x1), (2, .int x2)] := hl
  obtain ⟨hx, hb, hml, hown, hts⟩ := id F
  have hinX0 : ∀ w ∈ wsX00, w ∈ wsX0_wasTold := by decide +kernel
  obtain ⟨H, eH⟩ : ∃ z, z = s0.heap := ⟨_, rfl⟩
  obtain ⟨locs, eL⟩ : ∃ z : List Loc, z = [] := ⟨_, rfl⟩
  rw [← eH, ← eL] at h ⊢
  unfold p_City_wasTold at hf
  refine lv_aload_n hx hb dX0_wasTold_0 rfl (lv_at hl 0 rfl) ?_
  refine gX_City_told F h hinX0 (hts (.fieldLink RX0 25 "ElectionHouse$City" "told" "[J") (by decide +kernel)) dX0_wasTold_1 ?_
  refine lv_iload_n hx hb dX0_wasTold_4 rfl (lv_at hl 1 rfl) ?_
  obtain ⟨gi1, hf⟩ := og hf
  refine lX_told F h gi1 dX0_wasTold_5 ?_
  refine lv_iload_n hx hb dX0_wasTold_6 rfl (lv_at hl 2 rfl) ?_
  refine lv_lushr (v := (((gJ s 6 (ix x1))).toUInt64 >>> ((x2).toInt64.toUInt64 &&& Int64.toUInt64 63)).toInt64) hx hb dX0_wasTold_7 rfl ?_
  refine lv_lconst (v := (1 : Int64)) hx hb dX0_wasTold_8 (by decide) ?_
  refine lv_land hx hb dX0_wasTold_9 ?_
  refine lv_lconst (v := (0 : Int64)) hx hb dX0_wasTold_10 (by decide) ?_
  refine W.lcmp hx hb dX0_wasTold_11 ?_
  refine lv_if_eq (tgt := 19) hx hb dX0_wasTold_12 (by decide) (fun c_2 => ?_) (fun c_2 => ?_)
  · have hf := ip c_2 hf
    refine lv_iconst (v := (0 : Int32)) hx hb dX0_wasTold_19 (by decide) ?_
    exact retE_Zr F hr hlk (by decide) h hf dX0_wasTold_20
  · have hf := im c_2 hf
    refine lv_iconst (v := (1 : Int32)) hx hb dX0_wasTold_15 (by decide) ?_
    refine lv_goto (tgt := 20) hx hb dX0_wasTold_16 (by decide) ?_
    exact retE_Zr F hr hlk (by decide) h hf dX0_wasTold_20

set_option maxHeartbeats 8000000 in
set_option maxRecDepth 100000 in
theorem c_City_tellKin (l : Launch) (Z : ZT) (Q : Nat → Nat) (s : XS) (x1 : Int32) (x2 : Int32) {r : Int32} {s' : XS} (hf : p_City_tellKin x1 x2 s = some (r, s')) : KI l Z (wX Z Q) yX0_tellKin wsX0_tellKin { frames := 1, cells := 0, slots := 0, locals := 22 } [.ref (Q 1), .int x1, .int x2] s r s' := by
  intro sz
  refine met_entry (cc := cX0_tellKin) (maxL := 3) (ret := (some .boolean)) (by decide) rfl (Nat.le_of_ble_eq_true rfl) sz rfl ?_
  generalize va_A (wX Z Q s) sz = A
  intro p e s0 m args below meth c ls F hr hlk h hl
  have hl : lv_has ls 3 [(0, .ref (Q 1)), (1, .int x1), (2, .int x2)] := hl
  obtain ⟨hx, hb, hml, hown, hts⟩ := id F
  have hinX0 : ∀ w ∈ wsX00, w ∈ wsX0_tellKin := by decide +kernel
  obtain ⟨H, eH⟩ : ∃ z, z = s0.heap := ⟨_, rfl⟩
  obtain ⟨locs, eL⟩ : ∃ z : List Loc, z = [] := ⟨_, rfl⟩
  rw [← eH, ← eL] at h ⊢
  unfold p_City_tellKin at hf
  refine lv_aload_n hx hb dX0_tellKin_0 rfl (lv_at hl 0 rfl) ?_
  refine lv_iload_n hx hb dX0_tellKin_1 rfl (lv_at hl 1 rfl) ?_
  obtain ⟨r2, hc1, hf⟩ := ob1 hf
  refine call_VI F (c_City_has l Z Q s x1 hc1) (cwV 1 hts gX0_tellKin_X0_has rfl rfl rfl (by decide +kernel) ⟨Nat.le_of_ble_eq_true rfl, Nat.le_of_ble_eq_true rfl⟩) h (rcX_City h) rfl hl.1 rfl (Nat.le_of_ble_eq_true rfl) ⟨Nat.zero_le _, Nat.zero_le _⟩ dX0_tellKin_2 (fun H locs h => ?_)
  refine lv_if_eq (tgt := 39) hx hb dX0_tellKin_5 (by decide) (fun c_4 => ?_) (fun c_4 => ?_)
  · have hf := ip c_4 hf
    refine lv_iconst (v := (0 : Int32)) hx hb dX0_tellKin_39 (by decide) ?_
    exact retE_Z F hr hlk (by decide) h hf dX0_tellKin_40
  · have hf := im c_4 hf
    refine lv_aload_n hx hb dX0_tellKin_8 rfl (lv_at hl 0 rfl) ?_
    refine lv_iload_n hx hb dX0_tellKin_9 rfl (lv_at hl 2 rfl) ?_
    obtain ⟨r6, hc5, hf⟩ := ob1 hf
    refine call_VI F (c_City_has l Z Q s x2 hc5) (cwV 1 hts gX0_tellKin_X0_has rfl rfl rfl (by decide +kernel) ⟨Nat.le_of_ble_eq_true rfl, Nat.le_of_ble_eq_true rfl⟩) h (rcX_City h) rfl hl.1 rfl (Nat.le_of_ble_eq_true rfl) ⟨Nat.zero_le _, Nat.zero_le _⟩ dX0_tellKin_10 (fun H locs h => ?_)
    refine lv_if_eq (tgt := 39) hx hb dX0_tellKin_13 (by decide) (fun c_8 => ?_) (fun c_8 => ?_)
    · have hf := ip c_8 hf
      refine lv_iconst (v := (0 : Int32)) hx hb dX0_tellKin_39 (by decide) ?_
      exact retE_Z F hr hlk (by decide) h hf dX0_tellKin_40
    · have hf := im c_8 hf
      refine lv_iload_n hx hb dX0_tellKin_16 rfl (lv_at hl 1 rfl) ?_
      refine lv_iload_n hx hb dX0_tellKin_17 rfl (lv_at hl 2 rfl) ?_
      refine lv_icmp_eq (tgt := 39) hx hb dX0_tellKin_18 (by decide) (fun c_9 => ?_) (fun c_9 => ?_)
      · have hf := ip c_9 hf
        refine lv_iconst (v := (0 : Int32)) hx hb dX0_tellKin_39 (by decide) ?_
        exact retE_Z F hr hlk (by decide) h hf dX0_tellKin_40
      · have hf := im c_9 hf
        refine lv_aload_n hx hb dX0_tellKin_21 rfl (lv_at hl 0 rfl) ?_
        refine lv_iload_n hx hb dX0_tellKin_22 rfl (lv_at hl 1 rfl) ?_
        refine lv_iload_n hx hb dX0_tellKin_23 rfl (lv_at hl 2 rfl) ?_
        obtain ⟨r11, hc10, hf⟩ := ob1 hf
        refine call_VI F (c_City_wasTold l Z Q s x1 x2 hc10) (cwV 2 hts gX0_tellKin_X0_wasTold rfl rfl rfl (by decide +kernel) ⟨Nat.le_of_ble_eq_true rfl, Nat.le_of_ble_eq_true rfl⟩) h (rcX_City h) rfl hl.1 rfl (Nat.le_of_ble_eq_true rfl) ⟨Nat.zero_le _, Nat.zero_le _⟩ dX0_tellKin_24 (fun H locs h => ?_)
        refine lv_if_ne (tgt := 39) hx hb dX0_tellKin_27 (by decide) (fun c_13 => ?_) (fun c_13 => ?_)
        · have hf := im c_13 hf
          refine lv_iconst (v := (0 : Int32)) hx hb dX0_tellKin_39 (by decide) ?_
          exact retE_Z F hr hlk (by decide) h hf dX0_tellKin_40
        · have hf := ip c_13 hf
          refine lv_aload_n hx hb dX0_tellKin_30 rfl (lv_at hl 0 rfl) ?_
          refine gX_City_pairs F h hinX0 (hts (.fieldLink RX0 33 "ElectionHouse$City" "pairs" "I") (by decide +kernel)) dX0_tellKin_31 ?_
          refine lv_bipush (v := (60 : Int32)) hx hb dX0_tellKin_34 (by decide) ?_
          refine lv_icmp_lt (tgt := 41) hx hb dX0_tellKin_36 (by decide) (fun c_14 => ?_) (fun c_14 => ?_)
          · have hf := ip c_14 hf
            refine lv_aload_n hx hb dX0_tellKin_41 rfl (lv_at hl 0 rfl) ?_
            refine gX_City_told F h hinX0 (hts (.fieldLink RX0 25 "ElectionHouse$City" "told" "[J") (by decide +kernel)) dX0_tellKin_42 ?_
            refine lv_iload_n hx hb dX0_tellKin_45 rfl (lv_at hl 1 rfl) ?_
            refine lv_dup2_11 hx hb dX0_tellKin_46 rfl rfl ?_
            obtain ⟨gi15, hf⟩ := og hf
            refine lX_told F h gi15 dX0_tellKin_47 ?_
            refine lv_lconst (v := (1 : Int64)) hx hb dX0_tellKin_48 (by decide) ?_
            refine lv_iload_n hx hb dX0_tellKin_49 rfl (lv_at hl 2 rfl) ?_
            refine lv_lshl (v := ((1 : Int64) <<< ((x2).toInt64 &&& 63))) hx hb dX0_tellKin_50 rfl ?_
            refine lv_lor hx hb dX0_tellKin_51 ?_
            obtain ⟨gi16, hf⟩ := og hf
            refine sX_told F h gi16 dX0_tellKin_52 (fun H locs h => ?_)
            obtain ⟨s17, es, hf⟩ := olq hf
            rw [← es] at h
            refine lv_aload_n hx hb dX0_tellKin_53 rfl (lv_at hl 0 rfl) ?_
            refine gX_City_told F h hinX0 (hts (.fieldLink RX0 25 "ElectionHouse$City" "told" "[J") (by decide +kernel)) dX0_tellKin_54 ?_
            refine lv_iload_n hx hb dX0_tellKin_57 rfl (lv_at hl 2 rfl) ?_
            refine lv_dup2_11 hx hb dX0_tellKin_58 rfl rfl ?_
            obtain ⟨gi18, hf⟩ := og hf
            refine lX_told F h gi18 dX0_tellKin_59 ?_
            refine lv_lconst (v := (1 : Int64)) hx hb dX0_tellKin_60 (by decide) ?_
            refine lv_iload_n hx hb dX0_tellKin_61 rfl (lv_at hl 1 rfl) ?_
            refine lv_lshl (v := ((1 : Int64) <<< ((x1).toInt64 &&& 63))) hx hb dX0_tellKin_62 rfl ?_
            refine lv_lor hx hb dX0_tellKin_63 ?_
            obtain ⟨gi19, hf⟩ := og hf
            refine sX_told F h gi19 dX0_tellKin_64 (fun H locs h => ?_)
            obtain ⟨s20, es, hf⟩ := olq hf
            rw [← es] at h
            refine lv_aload_n hx hb dX0_tellKin_65 rfl (lv_at hl 0 rfl) ?_
            refine lv_dup hx hb dX0_tellKin_66 rfl ?_
            refine gX_City_pairs F h hinX0 (hts (.fieldLink RX0 33 "ElectionHouse$City" "pairs" "I") (by decide +kernel)) dX0_tellKin_67 ?_
            refine lv_iconst (v := (1 : Int32)) hx hb dX0_tellKin_70 (by decide) ?_
            refine lv_iadd hx hb dX0_tellKin_71 ?_
            refine pX_City_pairs F h hinX0 (hts (.fieldLink RX0 33 "ElectionHouse$City" "pairs" "I") (by decide +kernel)) dX0_tellKin_72 (fun H locs h => ?_)
            obtain ⟨s21, es, hf⟩ := olq hf
            rw [← es] at h
            refine lv_iconst (v := (1 : Int32)) hx hb dX0_tellKin_75 (by decide) ?_
            exact retE_Z F hr hlk (by decide) h hf dX0_tellKin_76
          · have hf := im c_14 hf
            refine lv_iconst (v := (0 : Int32)) hx hb dX0_tellKin_39 (by decide) ?_
            exact retE_Z F hr hlk (by decide) h hf dX0_tellKin_40

set_option maxHeartbeats 8000000 in
set_option maxRecDepth 100000 in
theorem c_City_setYes (l : Launch) (Z : ZT) (Q : Nat → Nat) (s : XS) (x1 : Int32) (x2 : Int32) (x3 : Int32) {r : Int32} {s' : XS} (hf : p_City_setYes x1 x2 x3 s = some (r, s')) : KI l Z (wX Z Q) yX0_setYes wsX0_setYes { frames := 1, cells := 0, slots := 0, locals := 20 } [.ref (Q 1), .int x1, .int x2, .int x3] s r s' := by
  intro sz
  refine met_entry (cc := cX0_setYes) (maxL := 5) (ret := (some .boolean)) (by decide) rfl (Nat.le_of_ble_eq_true rfl) sz rfl ?_
  generalize va_A (wX Z Q s) sz = A
  intro p e s0 m args below meth c ls F hr hlk h hl
  have hl : lv_has ls 5 [(0, .ref (Q 1)), (1, .int x1), (2, .int x2), (3, .int x3)] := hl
  obtain ⟨hx, hb, hml, hown, hts⟩ := id F
  have hinX0 : ∀ w ∈ wsX00, w ∈ wsX0_setYes := by decide +kernel
  obtain ⟨H, eH⟩ : ∃ z, z = s0.heap := ⟨_, rfl⟩
  obtain ⟨locs, eL⟩ : ∃ z : List Loc, z = [] := ⟨_, rfl⟩
  rw [← eH, ← eL] at h ⊢
  unfold p_City_setYes at hf
  refine lv_iload_n hx hb dX0_setYes_0 rfl (lv_at hl 1 rfl) ?_
  obtain ⟨r2, hc1, hf⟩ := ob1 hf
  refine call_SI F (c_City_isParty l Z (wX Z Q) s x1 hc1) (va_cwS 1 hts gX0_setYes_X0_isParty rfl rfl rfl (by decide +kernel) ⟨Nat.le_of_ble_eq_true rfl, Nat.le_of_ble_eq_true rfl⟩) h rfl hl.1 rfl (Nat.le_of_ble_eq_true rfl) ⟨Nat.zero_le _, Nat.zero_le _⟩ dX0_setYes_1 (fun H locs h => ?_)
  refine lv_if_eq (tgt := 14) hx hb dX0_setYes_4 (by decide) (fun c_4 => ?_) (fun c_4 => ?_)
  · have hf := ip c_4 hf
    refine lv_iconst (v := (0 : Int32)) hx hb dX0_setYes_14 (by decide) ?_
    exact retE_Z F hr hlk (by decide) h hf dX0_setYes_15
  · have hf := im c_4 hf
    refine lv_iload_n hx hb dX0_setYes_7 rfl (lv_at hl 2 rfl) ?_
    obtain ⟨r6, hc5, hf⟩ := ob1 hf
    refine call_SI F (c_City_isParty l Z (wX Z Q) s x2 hc5) (va_cwS 1 hts gX0_setYes_X0_isParty rfl rfl rfl (by decide +kernel) ⟨Nat.le_of_ble_eq_true rfl, Nat.le_of_ble_eq_true rfl⟩) h rfl hl.1 rfl (Nat.le_of_ble_eq_true rfl) ⟨Nat.zero_le _, Nat.zero_le _⟩ dX0_setYes_8 (fun H locs h => ?_)
    refine lv_if_ne (tgt := 16) hx hb dX0_setYes_11 (by decide) (fun c_8 => ?_) (fun c_8 => ?_)
    · have hf := im c_8 hf
      refine lv_iload_n hx hb dX0_setYes_16 rfl (lv_at hl 1 rfl) ?_
      refine lv_iconst (v := (4 : Int32)) hx hb dX0_setYes_17 (by decide) ?_
      refine lv_imul hx hb dX0_setYes_18 ?_
      refine lv_iload_n hx hb dX0_setYes_19 rfl (lv_at hl 2 rfl) ?_
      refine lv_iadd hx hb dX0_setYes_20 ?_
      refine lv_istore (lv' := [(4, .int ((x1 * (4 : Int32)) + x2)), (0, .ref (Q 1)), (1, .int x1), (2, .int x2), (3, .int x3)]) hx hb dX0_setYes_21 hl (by decide) rfl (fun ls hl => ?_)
      have hl := lv_sub (l' := [(0, .ref (Q 1)), (1, .int x1), (2, .int x2), (3, .int x3), (4, .int ((x1 * (4 : Int32)) + x2))]) hl [1, 2, 3, 4, 0] rfl
      refine lv_aload_n hx hb dX0_setYes_23 rfl (lv_at hl 0 rfl) ?_
      refine gX_City_yes F h hinX0 (hts (.fieldLink RX0 22 "ElectionHouse$City" "yes" "[Z") (by decide +kernel)) dX0_setYes_24 ?_
      refine lv_iload hx hb dX0_setYes_27 (lv_at hl 4 rfl) ?_
      obtain ⟨gi9, hf⟩ := og hf
      refine lX_yes F h gi9 dX0_setYes_29 ?_
      refine lv_iload_n hx hb dX0_setYes_30 rfl (lv_at hl 3 rfl) ?_
      refine lv_icmp_ne (tgt := 36) hx hb dX0_setYes_31 (by decide) (fun c_10 => ?_) (fun c_10 => ?_)
      · have hf := im c_10 hf
        refine lv_aload_n hx hb dX0_setYes_36 rfl (lv_at hl 0 rfl) ?_
        refine gX_City_yes F h hinX0 (hts (.fieldLink RX0 22 "ElectionHouse$City" "yes" "[Z") (by decide +kernel)) dX0_setYes_37 ?_
        refine lv_iload hx hb dX0_setYes_40 (lv_at hl 4 rfl) ?_
        refine lv_iload_n hx hb dX0_setYes_42 rfl (lv_at hl 3 rfl) ?_
        obtain ⟨gi11, hf⟩ := og hf
        refine sX_yes F h gi11 dX0_setYes_43 (fun H locs h => ?_)
        obtain ⟨s12, es, hf⟩ := olq hf
        rw [← es] at h
        refine lv_iconst (v := (1 : Int32)) hx hb dX0_setYes_44 (by decide) ?_
        exact retE_Z F hr hlk (by decide) h hf dX0_setYes_45
      · have hf := ip c_10 hf
        refine lv_iconst (v := (0 : Int32)) hx hb dX0_setYes_34 (by decide) ?_
        exact retE_Z F hr hlk (by decide) h hf dX0_setYes_35
    · have hf := ip c_8 hf
      refine lv_iconst (v := (0 : Int32)) hx hb dX0_setYes_14 (by decide) ?_
      exact retE_Z F hr hlk (by decide) h hf dX0_setYes_15

set_option maxHeartbeats 8000000 in
set_option maxRecDepth 100000 in
theorem c_City_convert (l : Launch) (Z : ZT) (Q : Nat → Nat) (s : XS) (x1 : Int32) (x2 : Int32) (x3 : Int32) {r : Int32} {s' : XS} (hf : p_City_convert x1 x2 x3 s = some (r, s')) : KI l Z (wX Z Q) yX0_convert wsX0_convert { frames := 1, cells := 0, slots := 0, locals := 21 } [.ref (Q 1), .int x1, .int x2, .int x3] s r s' := by
  intro sz
  refine met_entry (cc := cX0_convert) (maxL := 4) (ret := (some .boolean)) (by decide) rfl (Nat.le_of_ble_eq_true rfl) sz rfl ?_
  generalize va_A (wX Z Q s) sz = A
  intro p e s0 m args below meth c ls F hr hlk h hl
  have hl : lv_has ls 4 [(0, .ref (Q 1)), (1, .int x1), (2, .int x2), (3, .int x3)] := hl
  obtain ⟨hx, hb, hml, hown, hts⟩ := id F
  have hinX0 : ∀ w ∈ wsX00, w ∈ wsX0_convert := by decide +kernel
  obtain ⟨H, eH⟩ : ∃ z, z = s0.heap := ⟨_, rfl⟩
  obtain ⟨locs, eL⟩ : ∃ z : List Loc, z = [] := ⟨_, rfl⟩
  rw [← eH, ← eL] at h ⊢
  unfold p_City_convert at hf
  refine lv_aload_n hx hb dX0_convert_0 rfl (lv_at hl 0 rfl) ?_
  refine lv_iload_n hx hb dX0_convert_1 rfl (lv_at hl 1 rfl) ?_
  obtain ⟨r2, hc1, hf⟩ := ob1 hf
  refine call_VI F (c_City_has l Z Q s x1 hc1) (cwV 1 hts gX0_convert_X0_has rfl rfl rfl (by decide +kernel) ⟨Nat.le_of_ble_eq_true rfl, Nat.le_of_ble_eq_true rfl⟩) h (rcX_City h) rfl hl.1 rfl (Nat.le_of_ble_eq_true rfl) ⟨Nat.zero_le _, Nat.zero_le _⟩ dX0_convert_2 (fun H locs h => ?_)
  refine lv_if_eq (tgt := 22) hx hb dX0_convert_5 (by decide) (fun c_4 => ?_) (fun c_4 => ?_)
  · have hf := ip c_4 hf
    refine lv_iconst (v := (0 : Int32)) hx hb dX0_convert_22 (by decide) ?_
    exact retE_Z F hr hlk (by decide) h hf dX0_convert_23
  · have hf := im c_4 hf
    refine lv_iload_n hx hb dX0_convert_8 rfl (lv_at hl 2 rfl) ?_
    obtain ⟨r6, hc5, hf⟩ := ob1 hf
    refine call_SI F (c_City_isHouse l Z (wX Z Q) s x2 hc5) (va_cwS 1 hts gX0_convert_X0_isHouse rfl rfl rfl (by decide +kernel) ⟨Nat.le_of_ble_eq_true rfl, Nat.le_of_ble_eq_true rfl⟩) h rfl hl.1 rfl (Nat.le_of_ble_eq_true rfl) ⟨Nat.zero_le _, Nat.zero_le _⟩ dX0_convert_9 (fun H locs h => ?_)
    refine lv_if_eq (tgt := 22) hx hb dX0_convert_12 (by decide) (fun c_8 => ?_) (fun c_8 => ?_)
    · have hf := ip c_8 hf
      refine lv_iconst (v := (0 : Int32)) hx hb dX0_convert_22 (by decide) ?_
      exact retE_Z F hr hlk (by decide) h hf dX0_convert_23
    · have hf := im c_8 hf
      refine lv_iload_n hx hb dX0_convert_15 rfl (lv_at hl 3 rfl) ?_
      obtain ⟨r10, hc9, hf⟩ := ob1 hf
      refine call_SI F (c_City_isParty l Z (wX Z Q) s x3 hc9) (va_cwS 1 hts gX0_convert_X0_isParty rfl rfl rfl (by decide +kernel) ⟨Nat.le_of_ble_eq_true rfl, Nat.le_of_ble_eq_true rfl⟩) h rfl hl.1 rfl (Nat.le_of_ble_eq_true rfl) ⟨Nat.zero_le _, Nat.zero_le _⟩ dX0_convert_16 (fun H locs h => ?_)
      refine lv_if_ne (tgt := 24) hx hb dX0_convert_19 (by decide) (fun c_12 => ?_) (fun c_12 => ?_)
      · have hf := im c_12 hf
        refine lv_aload_n hx hb dX0_convert_24 rfl (lv_at hl 0 rfl) ?_
        refine gX_City_houses F h hinX0 (hts (.fieldLink RX0 9 "ElectionHouse$City" "houses" "[I") (by decide +kernel)) dX0_convert_25 ?_
        refine lv_iload_n hx hb dX0_convert_28 rfl (lv_at hl 1 rfl) ?_
        refine lv_iload_n hx hb dX0_convert_29 rfl (lv_at hl 2 rfl) ?_
        obtain ⟨gi13, hf⟩ := og hf
        refine sX_houses F h gi13 dX0_convert_30 (fun H locs h => ?_)
        obtain ⟨s14, es, hf⟩ := olq hf
        rw [← es] at h
        refine lv_aload_n hx hb dX0_convert_31 rfl (lv_at hl 0 rfl) ?_
        refine gX_City_parties F h hinX0 (hts (.fieldLink RX0 15 "ElectionHouse$City" "parties" "[I") (by decide +kernel)) dX0_convert_32 ?_
        refine lv_iload_n hx hb dX0_convert_35 rfl (lv_at hl 1 rfl) ?_
        refine lv_iload_n hx hb dX0_convert_36 rfl (lv_at hl 3 rfl) ?_
        obtain ⟨gi15, hf⟩ := og hf
        refine sX_parties F h gi15 dX0_convert_37 (fun H locs h => ?_)
        obtain ⟨s16, es, hf⟩ := olq hf
        rw [← es] at h
        refine lv_iconst (v := (1 : Int32)) hx hb dX0_convert_38 (by decide) ?_
        exact retE_Z F hr hlk (by decide) h hf dX0_convert_39
      · have hf := ip c_12 hf
        refine lv_iconst (v := (0 : Int32)) hx hb dX0_convert_22 (by decide) ?_
        exact retE_Z F hr hlk (by decide) h hf dX0_convert_23

set_option maxHeartbeats 8000000 in
set_option maxRecDepth 100000 in
theorem c_City_size (l : Launch) (Z : ZT) (Q : Nat → Nat) (s : XS) {r : Int32} (hf : p_City_size s = some r) : KI l Z (wX Z Q) yX0_size wsX0_size { frames := 0, cells := 0, slots := 0, locals := 0 } [.ref (Q 1)] s r s := by
  intro sz
  refine met_entry (cc := cX0_size) (maxL := 1) (ret := (some .int)) (by decide) rfl (Nat.le_of_ble_eq_true rfl) sz rfl ?_
  generalize va_A (wX Z Q s) sz = A
  intro p e s0 m args below meth c ls F hr hlk h hl
  have hl : lv_has ls 1 [(0, .ref (Q 1))] := hl
  obtain ⟨hx, hb, hml, hown, hts⟩ := id F
  have hinX0 : ∀ w ∈ wsX00, w ∈ wsX0_size := by decide +kernel
  obtain ⟨H, eH⟩ : ∃ z, z = s0.heap := ⟨_, rfl⟩
  obtain ⟨locs, eL⟩ : ∃ z : List Loc, z = [] := ⟨_, rfl⟩
  rw [← eH, ← eL] at h ⊢
  unfold p_City_size at hf
  refine lv_aload_n hx hb dX0_size_0 rfl (lv_at hl 0 rfl) ?_
  refine gX_City_size F h hinX0 (hts (.fieldLink RX0 29 "ElectionHouse$City" "size" "I") (by decide +kernel)) dX0_size_1 ?_
  exact retE_Ir F hr hlk h hf dX0_size_4

set_option maxHeartbeats 8000000 in
set_option maxRecDepth 100000 in
theorem c_City_isThere (l : Launch) (Z : ZT) (Q : Nat → Nat) (s : XS) (x1 : Int32) {r : Int32} (hf : p_City_isThere x1 s = some r) : KI l Z (wX Z Q) yX0_isThere wsX0_isThere { frames := 1, cells := 0, slots := 0, locals := 21 } [.ref (Q 1), .int x1] s r s := by
  intro sz
  refine met_entry (cc := cX0_isThere) (maxL := 2) (ret := (some .boolean)) (by decide) rfl (Nat.le_of_ble_eq_true rfl) sz rfl ?_
  generalize va_A (wX Z Q s) sz = A
  intro p e s0 m args below meth c ls F hr hlk h hl
  have hl : lv_has ls 2 [(0, .ref (Q 1)), (1, .int x1)] := hl
  obtain ⟨hx, hb, hml, hown, hts⟩ := id F
  have hinX0 : ∀ w ∈ wsX00, w ∈ wsX0_isThere := by decide +kernel
  obtain ⟨H, eH⟩ : ∃ z, z = s0.heap := ⟨_, rfl⟩
  obtain ⟨locs, eL⟩ : ∃ z : List Loc, z = [] := ⟨_, rfl⟩
  rw [← eH, ← eL] at h ⊢
  unfold p_City_isThere at hf
  refine lv_aload_n hx hb dX0_isThere_0 rfl (lv_at hl 0 rfl) ?_
  refine lv_iload_n hx hb dX0_isThere_1 rfl (lv_at hl 1 rfl) ?_
  obtain ⟨r2, hc1, hf⟩ := ob1 hf
  refine call_VI F (c_City_has l Z Q s x1 hc1) (cwV 1 hts gX0_isThere_X0_has rfl rfl rfl (by decide +kernel) ⟨Nat.le_of_ble_eq_true rfl, Nat.le_of_ble_eq_true rfl⟩) h (rcX_City h) rfl hl.1 rfl (Nat.le_of_ble_eq_true rfl) ⟨Nat.zero_le _, Nat.zero_le _⟩ dX0_isThere_2 (fun H locs h => ?_)
  refine lv_if_eq (tgt := 21) hx hb dX0_isThere_5 (by decide) (fun c_4 => ?_) (fun c_4 => ?_)
  · have hf := ip c_4 hf
    refine lv_iconst (v := (0 : Int32)) hx hb dX0_isThere_21 (by decide) ?_
    exact retE_Zr F hr hlk (by decide) h hf dX0_isThere_22
  · have hf := im c_4 hf
    refine lv_aload_n hx hb dX0_isThere_8 rfl (lv_at hl 0 rfl) ?_
    refine gX_City_present F h hinX0 (hts (.fieldLink RX0 18 "ElectionHouse$City" "present" "[Z") (by decide +kernel)) dX0_isThere_9 ?_
    refine lv_iload_n hx hb dX0_isThere_12 rfl (lv_at hl 1 rfl) ?_
    obtain ⟨gi5, hf⟩ := og hf
    refine lX_present F h gi5 dX0_isThere_13 ?_
    refine lv_if_eq (tgt := 21) hx hb dX0_isThere_14 (by decide) (fun c_6 => ?_) (fun c_6 => ?_)
    · have hf := ip c_6 hf
      refine lv_iconst (v := (0 : Int32)) hx hb dX0_isThere_21 (by decide) ?_
      exact retE_Zr F hr hlk (by decide) h hf dX0_isThere_22
    · have hf := im c_6 hf
      refine lv_iconst (v := (1 : Int32)) hx hb dX0_isThere_17 (by decide) ?_
      refine lv_goto (tgt := 22) hx hb dX0_isThere_18 (by decide) ?_
      exact retE_Zr F hr hlk (by decide) h hf dX0_isThere_22

set_option maxHeartbeats 8000000 in
set_option maxRecDepth 100000 in
theorem c_City_houseOf (l : Launch) (Z : ZT) (Q : Nat → Nat) (s : XS) (x1 : Int32) {r : Int32} (hf : p_City_houseOf x1 s = some r) : KI l Z (wX Z Q) yX0_houseOf wsX0_houseOf { frames := 1, cells := 0, slots := 0, locals := 21 } [.ref (Q 1), .int x1] s r s := by
  intro sz
  refine met_entry (cc := cX0_houseOf) (maxL := 2) (ret := (some .int)) (by decide) rfl (Nat.le_of_ble_eq_true rfl) sz rfl ?_
  generalize va_A (wX Z Q s) sz = A
  intro p e s0 m args below meth c ls F hr hlk h hl
  have hl : lv_has ls 2 [(0, .ref (Q 1)), (1, .int x1)] := hl
  obtain ⟨hx, hb, hml, hown, hts⟩ := id F
  have hinX0 : ∀ w ∈ wsX00, w ∈ wsX0_houseOf := by decide +kernel
  obtain ⟨H, eH⟩ : ∃ z, z = s0.heap := ⟨_, rfl⟩
  obtain ⟨locs, eL⟩ : ∃ z : List Loc, z = [] := ⟨_, rfl⟩
  rw [← eH, ← eL] at h ⊢
  unfold p_City_houseOf at hf
  refine lv_aload_n hx hb dX0_houseOf_0 rfl (lv_at hl 0 rfl) ?_
  refine lv_iload_n hx hb dX0_houseOf_1 rfl (lv_at hl 1 rfl) ?_
  obtain ⟨r2, hc1, hf⟩ := ob1 hf
  refine call_VI F (c_City_has l Z Q s x1 hc1) (cwV 1 hts gX0_houseOf_X0_has rfl rfl rfl (by decide +kernel) ⟨Nat.le_of_ble_eq_true rfl, Nat.le_of_ble_eq_true rfl⟩) h (rcX_City h) rfl hl.1 rfl (Nat.le_of_ble_eq_true rfl) ⟨Nat.zero_le _, Nat.zero_le _⟩ dX0_houseOf_2 (fun H locs h => ?_)
  refine lv_if_eq (tgt := 17) hx hb dX0_houseOf_5 (by decide) (fun c_4 => ?_) (fun c_4 => ?_)
  · have hf := ip c_4 hf
    refine lv_iconst (v := (0 : Int32)) hx hb dX0_houseOf_17 (by decide) ?_
    exact retE_Ir F hr hlk h hf dX0_houseOf_18
  · have hf := im c_4 hf
    refine lv_aload_n hx hb dX0_houseOf_8 rfl (lv_at hl 0 rfl) ?_
    refine gX_City_houses F h hinX0 (hts (.fieldLink RX0 9 "ElectionHouse$City" "houses" "[I") (by decide +kernel)) dX0_houseOf_9 ?_
    refine lv_iload_n hx hb dX0_houseOf_12 rfl (lv_at hl 1 rfl) ?_
    obtain ⟨gi5, hf⟩ := og hf
    refine lX_houses F h gi5 dX0_houseOf_13 ?_
    refine lv_goto (tgt := 18) hx hb dX0_houseOf_14 (by decide) ?_
    exact retE_Ir F hr hlk h hf dX0_houseOf_18

set_option maxHeartbeats 8000000 in
set_option maxRecDepth 100000 in
theorem c_City_areKin (l : Launch) (Z : ZT) (Q : Nat → Nat) (s : XS) (x1 : Int32) (x2 : Int32) {r : Int32} (hf : p_City_areKin x1 x2 s = some r) : KI l Z (wX Z Q) yX0_areKin wsX0_areKin { frames := 1, cells := 0, slots := 0, locals := 22 } [.ref (Q 1), .int x1, .int x2] s r s := by
  intro sz
  refine met_entry (cc := cX0_areKin) (maxL := 3) (ret := (some .boolean)) (by decide) rfl (Nat.le_of_ble_eq_true rfl) sz rfl ?_
  generalize va_A (wX Z Q s) sz = A
  intro p e s0 m args below meth c ls F hr hlk h hl
  have hl : lv_has ls 3 [(0, .ref (Q 1)), (1, .int x1), (2, .int x2)] := hl
  obtain ⟨hx, hb, hml, hown, hts⟩ := id F
  have hinX0 : ∀ w ∈ wsX00, w ∈ wsX0_areKin := by decide +kernel
  obtain ⟨H, eH⟩ : ∃ z, z = s0.heap := ⟨_, rfl⟩
  obtain ⟨locs, eL⟩ : ∃ z : List Loc, z = [] := ⟨_, rfl⟩
  rw [← eH, ← eL] at h ⊢
  unfold p_City_areKin at hf
  refine lv_aload_n hx hb dX0_areKin_0 rfl (lv_at hl 0 rfl) ?_
  refine lv_iload_n hx hb dX0_areKin_1 rfl (lv_at hl 1 rfl) ?_
  obtain ⟨r2, hc1, hf⟩ := ob1 hf
  refine call_VI F (c_City_has l Z Q s x1 hc1) (cwV 1 hts gX0_areKin_X0_has rfl rfl rfl (by decide +kernel) ⟨Nat.le_of_ble_eq_true rfl, Nat.le_of_ble_eq_true rfl⟩) h (rcX_City h) rfl hl.1 rfl (Nat.le_of_ble_eq_true rfl) ⟨Nat.zero_le _, Nat.zero_le _⟩ dX0_areKin_2 (fun H locs h => ?_)
  refine lv_if_eq (tgt := 49) hx hb dX0_areKin_5 (by decide) (fun c_4 => ?_) (fun c_4 => ?_)
  · have hf := ip c_4 hf
    refine lv_iconst (v := (0 : Int32)) hx hb dX0_areKin_49 (by decide) ?_
    exact retE_Zr F hr hlk (by decide) h hf dX0_areKin_50
  · have hf := im c_4 hf
    refine lv_aload_n hx hb dX0_areKin_8 rfl (lv_at hl 0 rfl) ?_
    refine lv_iload_n hx hb dX0_areKin_9 rfl (lv_at hl 2 rfl) ?_
    obtain ⟨r6, hc5, hf⟩ := ob1 hf
    refine call_VI F (c_City_has l Z Q s x2 hc5) (cwV 1 hts gX0_areKin_X0_has rfl rfl rfl (by decide +kernel) ⟨Nat.le_of_ble_eq_true rfl, Nat.le_of_ble_eq_true rfl⟩) h (rcX_City h) rfl hl.1 rfl (Nat.le_of_ble_eq_true rfl) ⟨Nat.zero_le _, Nat.zero_le _⟩ dX0_areKin_10 (fun H locs h => ?_)
    refine lv_if_eq (tgt := 49) hx hb dX0_areKin_13 (by decide) (fun c_8 => ?_) (fun c_8 => ?_)
    · have hf := ip c_8 hf
      refine lv_iconst (v := (0 : Int32)) hx hb dX0_areKin_49 (by decide) ?_
      exact retE_Zr F hr hlk (by decide) h hf dX0_areKin_50
    · have hf := im c_8 hf
      refine lv_iload_n hx hb dX0_areKin_16 rfl (lv_at hl 1 rfl) ?_
      refine lv_iload_n hx hb dX0_areKin_17 rfl (lv_at hl 2 rfl) ?_
      refine lv_icmp_eq (tgt := 49) hx hb dX0_areKin_18 (by decide) (fun c_9 => ?_) (fun c_9 => ?_)
      · have hf := ip c_9 hf
        refine lv_iconst (v := (0 : Int32)) hx hb dX0_areKin_49 (by decide) ?_
        exact retE_Zr F hr hlk (by decide) h hf dX0_areKin_50
      · have hf := im c_9 hf
        refine lv_aload_n hx hb dX0_areKin_21 rfl (lv_at hl 0 rfl) ?_
        refine gX_City_houses F h hinX0 (hts (.fieldLink RX0 9 "ElectionHouse$City" "houses" "[I") (by decide +kernel)) dX0_areKin_22 ?_
        refine lv_iload_n hx hb dX0_areKin_25 rfl (lv_at hl 1 rfl) ?_
        obtain ⟨gi10, hf⟩ := og hf
        refine lX_houses F h gi10 dX0_areKin_26 ?_
        refine lv_aload_n hx hb dX0_areKin_27 rfl (lv_at hl 0 rfl) ?_
        refine gX_City_houses F h hinX0 (hts (.fieldLink RX0 9 "ElectionHouse$City" "houses" "[I") (by decide +kernel)) dX0_areKin_28 ?_
        refine lv_iload_n hx hb dX0_areKin_31 rfl (lv_at hl 2 rfl) ?_
        obtain ⟨gi11, hf⟩ := og hf
        refine lX_houses F h gi11 dX0_areKin_32 ?_
        refine lv_icmp_eq (tgt := 45) hx hb dX0_areKin_33 (by decide) (fun c_12 => ?_) (fun c_12 => ?_)
        · have hf := ip c_12 hf
          refine lv_iconst (v := (1 : Int32)) hx hb dX0_areKin_45 (by decide) ?_
          refine lv_goto (tgt := 50) hx hb dX0_areKin_46 (by decide) ?_
          exact retE_Zr F hr hlk (by decide) h hf dX0_areKin_50
        · have hf := im c_12 hf
          refine lv_aload_n hx hb dX0_areKin_36 rfl (lv_at hl 0 rfl) ?_
          refine lv_iload_n hx hb dX0_areKin_37 rfl (lv_at hl 1 rfl) ?_
          refine lv_iload_n hx hb dX0_areKin_38 rfl (lv_at hl 2 rfl) ?_
          obtain ⟨r14, hc13, hf⟩ := ob1 hf
          refine call_VI F (c_City_wasTold l Z Q s x1 x2 hc13) (cwV 2 hts gX0_areKin_X0_wasTold rfl rfl rfl (by decide +kernel) ⟨Nat.le_of_ble_eq_true rfl, Nat.le_of_ble_eq_true rfl⟩) h (rcX_City h) rfl hl.1 rfl (Nat.le_of_ble_eq_true rfl) ⟨Nat.zero_le _, Nat.zero_le _⟩ dX0_areKin_39 (fun H locs h => ?_)
          refine lv_if_eq (tgt := 49) hx hb dX0_areKin_42 (by decide) (fun c_16 => ?_) (fun c_16 => ?_)
          · have hf := ip c_16 hf
            refine lv_iconst (v := (0 : Int32)) hx hb dX0_areKin_49 (by decide) ?_
            exact retE_Zr F hr hlk (by decide) h hf dX0_areKin_50
          · have hf := im c_16 hf
            refine lv_iconst (v := (1 : Int32)) hx hb dX0_areKin_45 (by decide) ?_
            refine lv_goto (tgt := 50) hx hb dX0_areKin_46 (by decide) ?_
            exact retE_Zr F hr hlk (by decide) h hf dX0_areKin_50

set_option maxHeartbeats 8000000 in
set_option maxRecDepth 100000 in
theorem c_City_partyOf (l : Launch) (Z : ZT) (Q : Nat → Nat) (s : XS) (x1 : Int32) {r : Int32} (hf : p_City_partyOf x1 s = some r) : KI l Z (wX Z Q) yX0_partyOf wsX0_partyOf { frames := 1, cells := 0, slots := 0, locals := 21 } [.ref (Q 1), .int x1] s r s := by
  intro sz
  refine met_entry (cc := cX0_partyOf) (maxL := 2) (ret := (some .int)) (by decide) rfl (Nat.le_of_ble_eq_true rfl) sz rfl ?_
  generalize va_A (wX Z Q s) sz = A
  intro p e s0 m args below meth c ls F hr hlk h hl
  have hl : lv_has ls 2 [(0, .ref (Q 1)), (1, .int x1)] := hl
  obtain ⟨hx, hb, hml, hown, hts⟩ := id F
  have hinX0 : ∀ w ∈ wsX00, w ∈ wsX0_partyOf := by decide +kernel
  obtain ⟨H, eH⟩ : ∃ z, z = s0.heap := ⟨_, rfl⟩
  obtain ⟨locs, eL⟩ : ∃ z : List Loc, z = [] := ⟨_, rfl⟩
  rw [← eH, ← eL] at h ⊢
  unfold p_City_partyOf at hf
  refine lv_aload_n hx hb dX0_partyOf_0 rfl (lv_at hl 0 rfl) ?_
  refine lv_iload_n hx hb dX0_partyOf_1 rfl (lv_at hl 1 rfl) ?_
  obtain ⟨r2, hc1, hf⟩ := ob1 hf
  refine call_VI F (c_City_has l Z Q s x1 hc1) (cwV 1 hts gX0_partyOf_X0_has rfl rfl rfl (by decide +kernel) ⟨Nat.le_of_ble_eq_true rfl, Nat.le_of_ble_eq_true rfl⟩) h (rcX_City h) rfl hl.1 rfl (Nat.le_of_ble_eq_true rfl) ⟨Nat.zero_le _, Nat.zero_le _⟩ dX0_partyOf_2 (fun H locs h => ?_)
  refine lv_if_eq (tgt := 17) hx hb dX0_partyOf_5 (by decide) (fun c_4 => ?_) (fun c_4 => ?_)
  · have hf := ip c_4 hf
    refine lv_iconst (v := (0 : Int32)) hx hb dX0_partyOf_17 (by decide) ?_
    exact retE_Ir F hr hlk h hf dX0_partyOf_18
  · have hf := im c_4 hf
    refine lv_aload_n hx hb dX0_partyOf_8 rfl (lv_at hl 0 rfl) ?_
    refine gX_City_parties F h hinX0 (hts (.fieldLink RX0 15 "ElectionHouse$City" "parties" "[I") (by decide +kernel)) dX0_partyOf_9 ?_
    refine lv_iload_n hx hb dX0_partyOf_12 rfl (lv_at hl 1 rfl) ?_
    obtain ⟨gi5, hf⟩ := og hf
    refine lX_parties F h gi5 dX0_partyOf_13 ?_
    refine lv_goto (tgt := 18) hx hb dX0_partyOf_14 (by decide) ?_
    exact retE_Ir F hr hlk h hf dX0_partyOf_18

set_option maxHeartbeats 8000000 in
set_option maxRecDepth 100000 in
theorem c_City_saysYes (l : Launch) (Z : ZT) (Q : Nat → Nat) (s : XS) (x1 : Int32) (x2 : Int32) {r : Int32} (hf : p_City_saysYes x1 x2 s = some r) : KI l Z (wX Z Q) yX0_saysYes wsX0_saysYes { frames := 1, cells := 0, slots := 0, locals := 20 } [.ref (Q 1), .int x1, .int x2] s r s := by
  intro sz
  refine met_entry (cc := cX0_saysYes) (maxL := 3) (ret := (some .boolean)) (by decide) rfl (Nat.le_of_ble_eq_true rfl) sz rfl ?_
  generalize va_A (wX Z Q s) sz = A
  intro p e s0 m args below meth c ls F hr hlk h hl
  have hl : lv_has ls 3 [(0, .ref (Q 1)), (1, .int x1), (2, .int x2)] := hl
  obtain ⟨hx, hb, hml, hown, hts⟩ := id F
  have hinX0 : ∀ w ∈ wsX00, w ∈ wsX0_saysYes := by decide +kernel
  obtain ⟨H, eH⟩ : ∃ z, z = s0.heap := ⟨_, rfl⟩
  obtain ⟨locs, eL⟩ : ∃ z : List Loc, z = [] := ⟨_, rfl⟩
  rw [← eH, ← eL] at h ⊢
  unfold p_City_saysYes at hf
  refine lv_iload_n hx hb dX0_saysYes_0 rfl (lv_at hl 1 rfl) ?_
  obtain ⟨r2, hc1, hf⟩ := ob1 hf
  refine call_SI F (c_City_isParty l Z (wX Z Q) s x1 hc1) (va_cwS 1 hts gX0_saysYes_X0_isParty rfl rfl rfl (by decide +kernel) ⟨Nat.le_of_ble_eq_true rfl, Nat.le_of_ble_eq_true rfl⟩) h rfl hl.1 rfl (Nat.le_of_ble_eq_true rfl) ⟨Nat.zero_le _, Nat.zero_le _⟩ dX0_saysYes_1 (fun H locs h => ?_)
  refine lv_if_eq (tgt := 31) hx hb dX0_saysYes_4 (by decide) (fun c_4 => ?_) (fun c_4 => ?_)
  · have hf := ip c_4 hf
    refine lv_iconst (v := (0 : Int32)) hx hb dX0_saysYes_31 (by decide) ?_
    exact retE_Zr F hr hlk (by decide) h hf dX0_saysYes_32
  · have hf := im c_4 hf
    refine lv_iload_n hx hb dX0_saysYes_7 rfl (lv_at hl 2 rfl) ?_
    obtain ⟨r6, hc5, hf⟩ := ob1 hf
    refine call_SI F (c_City_isParty l Z (wX Z Q) s x2 hc5) (va_cwS 1 hts gX0_saysYes_X0_isParty rfl rfl rfl (by decide +kernel) ⟨Nat.le_of_ble_eq_true rfl, Nat.le_of_ble_eq_true rfl⟩) h rfl hl.1 rfl (Nat.le_of_ble_eq_true rfl) ⟨Nat.zero_le _, Nat.zero_le _⟩ dX0_saysYes_8 (fun H locs h => ?_)
    refine lv_if_eq (tgt := 31) hx hb dX0_saysYes_11 (by decide) (fun c_8 => ?_) (fun c_8 => ?_)
    · have hf := ip c_8 hf
      refine lv_iconst (v := (0 : Int32)) hx hb dX0_saysYes_31 (by decide) ?_
      exact retE_Zr F hr hlk (by decide) h hf dX0_saysYes_32
    · have hf := im c_8 hf
      refine lv_aload_n hx hb dX0_saysYes_14 rfl (lv_at hl 0 rfl) ?_
      refine gX_City_yes F h hinX0 (hts (.fieldLink RX0 22 "ElectionHouse$City" "yes" "[Z") (by decide +kernel)) dX0_saysYes_15 ?_
      refine lv_iload_n hx hb dX0_saysYes_18 rfl (lv_at hl 1 rfl) ?_
      refine lv_iconst (v := (4 : Int32)) hx hb dX0_saysYes_19 (by decide) ?_
      refine lv_imul hx hb dX0_saysYes_20 ?_
      refine lv_iload_n hx hb dX0_saysYes_21 rfl (lv_at hl 2 rfl) ?_
      refine lv_iadd hx hb dX0_saysYes_22 ?_
      obtain ⟨gi9, hf⟩ := og hf
      refine lX_yes F h gi9 dX0_saysYes_23 ?_
      refine lv_if_eq (tgt := 31) hx hb dX0_saysYes_24 (by decide) (fun c_10 => ?_) (fun c_10 => ?_)
      · have hf := ip c_10 hf
        refine lv_iconst (v := (0 : Int32)) hx hb dX0_saysYes_31 (by decide) ?_
        exact retE_Zr F hr hlk (by decide) h hf dX0_saysYes_32
      · have hf := im c_10 hf
        refine lv_iconst (v := (1 : Int32)) hx hb dX0_saysYes_27 (by decide) ?_
        refine lv_goto (tgt := 32) hx hb dX0_saysYes_28 (by decide) ?_
        exact retE_Zr F hr hlk (by decide) h hf dX0_saysYes_32

set_option maxHeartbeats 8000000 in
set_option maxRecDepth 100000 in
theorem c_City_kinOf (l : Launch) (Z : ZT) (Q : Nat → Nat) (s : XS) (x1 : Int32) {r : Int32} (hf : p_City_kinOf x1 s = some r) : KI l Z (wX Z Q) yX0_kinOf wsX0_kinOf { frames := 2, cells := 0, slots := 0, locals := 44 } [.ref (Q 1), .int x1] s r s := by
  intro sz
  refine met_entry (cc := cX0_kinOf) (maxL := 4) (ret := (some .int)) (by decide) rfl (Nat.le_of_ble_eq_true rfl) sz rfl ?_
  generalize va_A (wX Z Q s) sz = A
  intro p e s0 m args below meth c ls F hr hlk h hl
  have hl : lv_has ls 4 [(0, .ref (Q 1)), (1, .int x1)] := hl
  obtain ⟨hx, hb, hml, hown, hts⟩ := id F
  have hinX0 : ∀ w ∈ wsX00, w ∈ wsX0_kinOf := by decide +kernel
  obtain ⟨H, eH⟩ : ∃ z, z = s0.heap := ⟨_, rfl⟩
  obtain ⟨locs, eL⟩ : ∃ z : List Loc, z = [] := ⟨_, rfl⟩
  rw [← eH, ← eL] at h ⊢
  unfold p_City_kinOf at hf
  have lab4 : ∀ (x1 : Int32) (n : Nat) (x2 : Int32) (x3 : Int32) (H : Heap) (locs : List Loc) (ls : Array Slot), lo2 (p_City_kinOf_B4 x1 s) n x2 x3 = some r → HW Z (wX Z Q) A s0 H locs s → lv_has ls 4 [(0, .ref (Q 1)), (1, .int x1), (2, .int x2), (3, .int x3)] → W p l e { frames := 2, cells := 0, slots := 0, locals := 44 } s0 m args below meth c H locs 0 0 (MQ below (QcI Z (wX Z Q) A r s) args s0 0 0 A) (F0 m 4 ls []) := by
    intro x1 n
    induction n with
    | zero => intro x2 x3 H locs ls hf; exact absurd hf lo2_z
    | succ n ih4 =>
      intro x2 x3 H locs ls hf h hl
      have hf := lo2_s hf
      generalize lo2 (p_City_kinOf_B4 x1 s) n = c4 at hf ih4
      unfold p_City_kinOf_B4 at hf
      refine lv_iload_n hx hb dX0_kinOf_4 rfl (lv_at hl 3 rfl) ?_
      refine lv_aload_n hx hb dX0_kinOf_5 rfl (lv_at hl 0 rfl) ?_
      refine gX_City_size F h hinX0 (hts (.fieldLink RX0 29 "ElectionHouse$City" "size" "I") (by decide +kernel)) dX0_kinOf_6 ?_
      refine lv_icmp_ge (tgt := 30) hx hb dX0_kinOf_9 (by decide) (fun c_1 => ?_) (fun c_1 => ?_)
      · have hf := ip c_1 hf
        refine lv_iload_n hx hb dX0_kinOf_30 rfl (lv_at hl 2 rfl) ?_
        exact retE_Ir F hr hlk h hf dX0_kinOf_31
      · have hf := im c_1 hf
        refine lv_aload_n hx hb dX0_kinOf_12 rfl (lv_at hl 0 rfl) ?_
        refine lv_iload_n hx hb dX0_kinOf_13 rfl (lv_at hl 1 rfl) ?_
        refine lv_iload_n hx hb dX0_kinOf_14 rfl (lv_at hl 3 rfl) ?_
        obtain ⟨r3, hc2, hf⟩ := ob1 hf
        refine call_VI F (c_City_areKin l Z Q s x1 x3 hc2) (cwV 2 hts gX0_kinOf_X0_areKin rfl rfl rfl (by decide +kernel) ⟨Nat.le_of_ble_eq_true rfl, Nat.le_of_ble_eq_true rfl⟩) h (rcX_City h) rfl hl.1 rfl (Nat.le_of_ble_eq_true rfl) ⟨Nat.zero_le _, Nat.zero_le _⟩ dX0_kinOf_15 (fun H locs h => ?_)
        refine lv_if_eq (tgt := 24) hx hb dX0_kinOf_18 (by decide) (fun c_5 => ?_) (fun c_5 => ?_)
        · have hf := ip c_5 hf
          refine lv_iinc (v := (x3 + (1 : Int32))) (lv' := [(3, .int (x3 + (1 : Int32))), (0, .ref (Q 1)), (1, .int x1), (2, .int x2)]) hx hb dX0_kinOf_24 hl (k := 3) rfl (congrArg (fun z => x3 + z) (by decide : Int32.ofInt (1) = (1 : Int32))) (by decide) rfl (fun ls hl => ?_)
          have hl := lv_sub (l' := [(0, .ref (Q 1)), (1, .int x1), (2, .int x2), (3, .int (x3 + (1 : Int32)))]) hl [1, 2, 3, 0] rfl
          refine lv_goto (tgt := 4) hx hb dX0_kinOf_27 (by decide) ?_
          exact ih4 x2 (x3 + (1 : Int32)) H locs ls hf h (lv_sub hl [0, 1, 2, 3] rfl)
        · have hf := im c_5 hf
          refine lv_iinc (v := (x2 + (1 : Int32))) (lv' := [(2, .int (x2 + (1 : Int32))), (0, .ref (Q 1)), (1, .int x1), (3, .int x3)]) hx hb dX0_kinOf_21 hl (k := 2) rfl (congrArg (fun z => x2 + z) (by decide : Int32.ofInt (1) = (1 : Int32))) (by decide) rfl (fun ls hl => ?_)
          have hl := lv_sub (l' := [(0, .ref (Q 1)), (1, .int x1), (2, .int (x2 + (1 : Int32))), (3, .int x3)]) hl [1, 2, 0, 3] rfl
          refine lv_iinc (v := (x3 + (1 : Int32))) (lv' := [(3, .int (x3 + (1 : Int32))), (0, .ref (Q 1)), (1, .int x1), (2, .int (x2 + (1 : Int32)))]) hx hb dX0_kinOf_24 hl (k := 3) rfl (congrArg (fun z => x3 + z) (by decide : Int32.ofInt (1) = (1 : Int32))) (by decide) rfl (fun ls hl => ?_)
          have hl := lv_sub (l' := [(0, .ref (Q 1)), (1, .int x1), (2, .int (x2 + (1 : Int32))), (3, .int (x3 + (1 : Int32)))]) hl [1, 2, 3, 0] rfl
          refine lv_goto (tgt := 4) hx hb dX0_kinOf_27 (by decide) ?_
          exact ih4 (x2 + (1 : Int32)) (x3 + (1 : Int32)) H locs ls hf h (lv_sub hl [0, 1, 2, 3] rfl)
  refine lv_iconst (v := (0 : Int32)) hx hb dX0_kinOf_0 (by decide) ?_
  refine lv_istore_n (lv' := [(2, .int (0 : Int32)), (0, .ref (Q 1)), (1, .int x1)]) hx hb dX0_kinOf_1 rfl hl (by decide) rfl (fun ls hl => ?_)
  have hl := lv_sub (l' := [(0, .ref (Q 1)), (1, .int x1), (2, .int (0 : Int32))]) hl [1, 2, 0] rfl
  refine lv_iconst (v := (0 : Int32)) hx hb dX0_kinOf_2 (by decide) ?_
  refine lv_istore_n (lv' := [(3, .int (0 : Int32)), (0, .ref (Q 1)), (1, .int x1), (2, .int (0 : Int32))]) hx hb dX0_kinOf_3 rfl hl (by decide) rfl (fun ls hl => ?_)
  have hl := lv_sub (l' := [(0, .ref (Q 1)), (1, .int x1), (2, .int (0 : Int32)), (3, .int (0 : Int32))]) hl [1, 2, 3, 0] rfl
  exact lab4 x1 fuelN (0 : Int32) (0 : Int32) H locs ls hf h (lv_sub hl [0, 1, 2, 3] rfl)

set_option maxHeartbeats 8000000 in
set_option maxRecDepth 100000 in
theorem c_City_sizeThere (l : Launch) (Z : ZT) (Q : Nat → Nat) (s : XS) {r : Int32} (hf : p_City_sizeThere s = some r) : KI l Z (wX Z Q) yX0_sizeThere wsX0_sizeThere { frames := 2, cells := 0, slots := 0, locals := 42 } [.ref (Q 1)] s r s := by
  intro sz
  refine met_entry (cc := cX0_sizeThere) (maxL := 3) (ret := (some .int)) (by decide) rfl (Nat.le_of_ble_eq_true rfl) sz rfl ?_
  generalize va_A (wX Z Q s) sz = A
  intro p e s0 m args below meth c ls F hr hlk h hl
  have hl : lv_has ls 3 [(0, .ref (Q 1))] := hl
  obtain ⟨hx, hb, hml, hown, hts⟩ := id F
  have hinX0 : ∀ w ∈ wsX00, w ∈ wsX0_sizeThere := by decide +kernel
  obtain ⟨H, eH⟩ : ∃ z, z = s0.heap := ⟨_, rfl⟩
  obtain ⟨locs, eL⟩ : ∃ z : List Loc, z = [] := ⟨_, rfl⟩
  rw [← eH, ← eL] at h ⊢
  unfold p_City_sizeThere at hf
  have lab4 : ∀ (n : Nat) (x1 : Int32) (x2 : Int32) (H : Heap) (locs : List Loc) (ls : Array Slot), lo2 (p_City_sizeThere_B4 s) n x1 x2 = some r → HW Z (wX Z Q) A s0 H locs s → lv_has ls 3 [(0, .ref (Q 1)), (1, .int x1), (2, .int x2)] → W p l e { frames := 2, cells := 0, slots := 0, locals := 42 } s0 m args below meth c H locs 0 0 (MQ below (QcI Z (wX Z Q) A r s) args s0 0 0 A) (F0 m 4 ls []) := by
    intro n
    induction n with
    | zero => intro x1 x2 H locs ls hf; exact absurd hf lo2_z
    | succ n ih4 =>
      intro x1 x2 H locs ls hf h hl
      have hf := lo2_s hf
      generalize lo2 (p_City_sizeThere_B4 s) n = c4 at hf ih4
      unfold p_City_sizeThere_B4 at hf
      refine lv_iload_n hx hb dX0_sizeThere_4 rfl (lv_at hl 2 rfl) ?_
      refine lv_aload_n hx hb dX0_sizeThere_5 rfl (lv_at hl 0 rfl) ?_
      refine gX_City_size F h hinX0 (hts (.fieldLink RX0 29 "ElectionHouse$City" "size" "I") (by decide +kernel)) dX0_sizeThere_6 ?_
      refine lv_icmp_ge (tgt := 29) hx hb dX0_sizeThere_9 (by decide) (fun c_1 => ?_) (fun c_1 => ?_)
      · have hf := ip c_1 hf
        refine lv_iload_n hx hb dX0_sizeThere_29 rfl (lv_at hl 1 rfl) ?_
        exact retE_Ir F hr hlk h hf dX0_sizeThere_30
      · have hf := im c_1 hf
        refine lv_aload_n hx hb dX0_sizeThere_12 rfl (lv_at hl 0 rfl) ?_
        refine lv_iload_n hx hb dX0_sizeThere_13 rfl (lv_at hl 2 rfl) ?_
        obtain ⟨r3, hc2, hf⟩ := ob1 hf
        refine call_VI F (c_City_isThere l Z Q s x2 hc2) (cwV 1 hts gX0_sizeThere_X0_isThere rfl rfl rfl (by decide +kernel) ⟨Nat.le_of_ble_eq_true rfl, Nat.le_of_ble_eq_true rfl⟩) h (rcX_City h) rfl hl.1 rfl (Nat.le_of_ble_eq_true rfl) ⟨Nat.zero_le _, Nat.zero_le _⟩ dX0_sizeThere_14 (fun H locs h => ?_)
        refine lv_if_eq (tgt := 23) hx hb dX0_sizeThere_17 (by decide) (fun c_5 => ?_) (fun c_5 => ?_)
        · have hf := ip c_5 hf
          refine lv_iinc (v := (x2 + (1 : Int32))) (lv' := [(2, .int (x2 + (1 : Int32))), (0, .ref (Q 1)), (1, .int x1)]) hx hb dX0_sizeThere_23 hl (k := 2) rfl (congrArg (fun z => x2 + z) (by decide : Int32.ofInt (1) = (1 : Int32))) (by decide) rfl (fun ls hl => ?_)
          have hl := lv_sub (l' := [(0, .ref (Q 1)), (1, .int x1), (2, .int (x2 + (1 : Int32)))]) hl [1, 2, 0] rfl
          refine lv_goto (tgt := 4) hx hb dX0_sizeThere_26 (by decide) ?_
          exact ih4 x1 (x2 + (1 : Int32)) H locs ls hf h (lv_sub hl [0, 1, 2] rfl)
        · have hf := im c_5 hf
          refine lv_iinc (v := (x1 + (1 : Int32))) (lv' := [(1, .int (x1 + (1 : Int32))), (0, .ref (Q 1)), (2, .int x2)]) hx hb dX0_sizeThere_20 hl (k := 1) rfl (congrArg (fun z => x1 + z) (by decide : Int32.ofInt (1) = (1 : Int32))) (by decide) rfl (fun ls hl => ?_)
          have hl := lv_sub (l' := [(0, .ref (Q 1)), (1, .int (x1 + (1 : Int32))), (2, .int x2)]) hl [1, 0, 2] rfl
          refine lv_iinc (v := (x2 + (1 : Int32))) (lv' := [(2, .int (x2 + (1 : Int32))), (0, .ref (Q 1)), (1, .int (x1 + (1 : Int32)))]) hx hb dX0_sizeThere_23 hl (k := 2) rfl (congrArg (fun z => x2 + z) (by decide : Int32.ofInt (1) = (1 : Int32))) (by decide) rfl (fun ls hl => ?_)
          have hl := lv_sub (l' := [(0, .ref (Q 1)), (1, .int (x1 + (1 : Int32))), (2, .int (x2 + (1 : Int32)))]) hl [1, 2, 0] rfl
          refine lv_goto (tgt := 4) hx hb dX0_sizeThere_26 (by decide) ?_
          exact ih4 (x1 + (1 : Int32)) (x2 + (1 : Int32)) H locs ls hf h (lv_sub hl [0, 1, 2] rfl)
  refine lv_iconst (v := (0 : Int32)) hx hb dX0_sizeThere_0 (by decide) ?_
  refine lv_istore_n (lv' := [(1, .int (0 : Int32)), (0, .ref (Q 1))]) hx hb dX0_sizeThere_1 rfl hl (by decide) rfl (fun ls hl => ?_)
  have hl := lv_sub (l' := [(0, .ref (Q 1)), (1, .int (0 : Int32))]) hl [1, 0] rfl
  refine lv_iconst (v := (0 : Int32)) hx hb dX0_sizeThere_2 (by decide) ?_
  refine lv_istore_n (lv' := [(2, .int (0 : Int32)), (0, .ref (Q 1)), (1, .int (0 : Int32))]) hx hb dX0_sizeThere_3 rfl hl (by decide) rfl (fun ls hl => ?_)
  have hl := lv_sub (l' := [(0, .ref (Q 1)), (1, .int (0 : Int32)), (2, .int (0 : Int32))]) hl [1, 2, 0] rfl
  exact lab4 fuelN (0 : Int32) (0 : Int32) H locs ls hf h (lv_sub hl [0, 1, 2] rfl)

set_option maxHeartbeats 8000000 in
set_option maxRecDepth 100000 in
theorem c_City_pairsTold (l : Launch) (Z : ZT) (Q : Nat → Nat) (s : XS) {r : Int32} (hf : p_City_pairsTold s = some r) : KI l Z (wX Z Q) yX0_pairsTold wsX0_pairsTold { frames := 0, cells := 0, slots := 0, locals := 0 } [.ref (Q 1)] s r s := by
  intro sz
  refine met_entry (cc := cX0_pairsTold) (maxL := 1) (ret := (some .int)) (by decide) rfl (Nat.le_of_ble_eq_true rfl) sz rfl ?_
  generalize va_A (wX Z Q s) sz = A
  intro p e s0 m args below meth c ls F hr hlk h hl
  have hl : lv_has ls 1 [(0, .ref (Q 1))] := hl
  obtain ⟨hx, hb, hml, hown, hts⟩ := id F
  have hinX0 : ∀ w ∈ wsX00, w ∈ wsX0_pairsTold := by decide +kernel
  obtain ⟨H, eH⟩ : ∃ z, z = s0.heap := ⟨_, rfl⟩
  obtain ⟨locs, eL⟩ : ∃ z : List Loc, z = [] := ⟨_, rfl⟩
  rw [← eH, ← eL] at h ⊢
  unfold p_City_pairsTold at hf
  refine lv_aload_n hx hb dX0_pairsTold_0 rfl (lv_at hl 0 rfl) ?_
  refine gX_City_pairs F h hinX0 (hts (.fieldLink RX0 33 "ElectionHouse$City" "pairs" "I") (by decide +kernel)) dX0_pairsTold_1 ?_
  exact retE_Ir F hr hlk h hf dX0_pairsTold_4

