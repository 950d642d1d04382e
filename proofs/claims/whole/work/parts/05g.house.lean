set_option maxHeartbeats 8000000 in
set_option maxRecDepth 100000 in
theorem c_House_citizen (l : Launch) (Z : ZT) (Q : Nat → Nat) (s : XS) (x1 : Int32) (x2 : Int32) {r : Int32} {s' : XS} (hf : p_House_citizen x1 x2 s = some (r, s')) : KI l Z (wX Z Q) yX9_citizen wsX9_citizen { frames := 2, cells := 0, slots := 0, locals := 43 } [.ref (Q 0), .int x1, .int x2] s r s' := by
  intro sz
  refine met_entry (cc := cX9_citizen) (maxL := 3) (ret := (some .int)) (by decide) rfl (Nat.le_of_ble_eq_true rfl) sz rfl ?_
  generalize va_A (wX Z Q s) sz = A
  intro p e s0 m args below meth c ls F hr hlk h hl
  have hl : lv_has ls 3 [(0, .ref (Q 0)), (1, .int x1), (2, .int x2)] := hl
  obtain ⟨hx, hb, hml, hown, hts⟩ := id F
  have hinX9 : ∀ w ∈ wsX90, w ∈ wsX9_citizen := by decide +kernel
  obtain ⟨H, eH⟩ : ∃ z, z = s0.heap := ⟨_, rfl⟩
  obtain ⟨locs, eL⟩ : ∃ z : List Loc, z = [] := ⟨_, rfl⟩
  rw [← eH, ← eL] at h ⊢
  unfold p_House_citizen at hf
  refine lv_aload_n hx hb dX9_citizen_0 rfl (lv_at hl 0 rfl) ?_
  refine gX_House_session F h hinX9 (hts (.fieldLink RX9 51 "ElectionHouse" "session" "LElectionHouse$Session;") (by decide +kernel)) dX9_citizen_1 ?_
  obtain ⟨r2, hc1, hf⟩ := ob1 hf
  refine call_VI F (c_Sess_stepsDone l Z Q s hc1) (cwV 0 hts gX9_citizen_X6_stepsDone rfl rfl rfl (by decide +kernel) ⟨Nat.le_of_ble_eq_true rfl, Nat.le_of_ble_eq_true rfl⟩) h (rcX_Sess h) rfl hl.1 rfl (Nat.le_of_ble_eq_true rfl) ⟨Nat.zero_le _, Nat.zero_le _⟩ dX9_citizen_4 (fun H locs h => ?_)
  refine lv_if_le (tgt := 12) hx hb dX9_citizen_7 (by decide) (fun c_4 => ?_) (fun c_4 => ?_)
  · have hf := ip c_4 hf
    refine lv_aload_n hx hb dX9_citizen_12 rfl (lv_at hl 0 rfl) ?_
    refine gX_House_city F h hinX9 (hts (.fieldLink RX9 12 "ElectionHouse" "city" "LElectionHouse$City;") (by decide +kernel)) dX9_citizen_13 ?_
    refine lv_iload_n hx hb dX9_citizen_16 rfl (lv_at hl 1 rfl) ?_
    refine lv_iload_n hx hb dX9_citizen_17 rfl (lv_at hl 2 rfl) ?_
    obtain ⟨r6, s7, hc5, hf⟩ := ob2 hf
    refine call_VI F (c_City_settle l Z Q s x1 x2 hc5) (cwV 2 hts gX9_citizen_X0_settle rfl rfl rfl (by decide +kernel) ⟨Nat.le_of_ble_eq_true rfl, Nat.le_of_ble_eq_true rfl⟩) h (rcX_City h) rfl hl.1 rfl (Nat.le_of_ble_eq_true rfl) ⟨Nat.zero_le _, Nat.zero_le _⟩ dX9_citizen_18 (fun H locs h => ?_)
    exact retE_I F hr hlk h hf dX9_citizen_21
  · have hf := im c_4 hf
    refine lv_iconst (v := (-1 : Int32)) hx hb dX9_citizen_10 (by decide) ?_
    exact retE_I F hr hlk h hf dX9_citizen_11

set_option maxHeartbeats 8000000 in
set_option maxRecDepth 100000 in
theorem c_House_there (l : Launch) (Z : ZT) (Q : Nat → Nat) (s : XS) (x1 : Int32) (x2 : Int32) {r : Int32} {s' : XS} (hf : p_House_there x1 x2 s = some (r, s')) : KI l Z (wX Z Q) yX9_there wsX9_there { frames := 2, cells := 0, slots := 0, locals := 43 } [.ref (Q 0), .int x1, .int x2] s r s' := by
  intro sz
  refine met_entry (cc := cX9_there) (maxL := 3) (ret := (some .boolean)) (by decide) rfl (Nat.le_of_ble_eq_true rfl) sz rfl ?_
  generalize va_A (wX Z Q s) sz = A
  intro p e s0 m args below meth c ls F hr hlk h hl
  have hl : lv_has ls 3 [(0, .ref (Q 0)), (1, .int x1), (2, .int x2)] := hl
  obtain ⟨hx, hb, hml, hown, hts⟩ := id F
  have hinX9 : ∀ w ∈ wsX90, w ∈ wsX9_there := by decide +kernel
  obtain ⟨H, eH⟩ : ∃ z, z = s0.heap := ⟨_, rfl⟩
  obtain ⟨locs, eL⟩ : ∃ z : List Loc, z = [] := ⟨_, rfl⟩
  rw [← eH, ← eL] at h ⊢
  unfold p_House_there at hf
  refine lv_aload_n hx hb dX9_there_0 rfl (lv_at hl 0 rfl) ?_
  refine gX_House_city F h hinX9 (hts (.fieldLink RX9 12 "ElectionHouse" "city" "LElectionHouse$City;") (by decide +kernel)) dX9_there_1 ?_
  refine lv_iload_n hx hb dX9_there_4 rfl (lv_at hl 1 rfl) ?_
  refine lv_iload_n hx hb dX9_there_5 rfl (lv_at hl 2 rfl) ?_
  obtain ⟨r2, s3, hc1, hf⟩ := ob2 hf
  refine call_VI F (c_City_setThere l Z Q s x1 x2 hc1) (cwV 2 hts gX9_there_X0_setThere rfl rfl rfl (by decide +kernel) ⟨Nat.le_of_ble_eq_true rfl, Nat.le_of_ble_eq_true rfl⟩) h (rcX_City h) rfl hl.1 rfl (Nat.le_of_ble_eq_true rfl) ⟨Nat.zero_le _, Nat.zero_le _⟩ dX9_there_6 (fun H locs h => ?_)
  obtain ⟨gz, hf⟩ := og hf
  exact retE_Z F hr hlk gz h hf dX9_there_9

set_option maxHeartbeats 8000000 in
set_option maxRecDepth 100000 in
theorem c_House_kin (l : Launch) (Z : ZT) (Q : Nat → Nat) (s : XS) (x1 : Int32) (x2 : Int32) {r : Int32} {s' : XS} (hf : p_House_kin x1 x2 s = some (r, s')) : KI l Z (wX Z Q) yX9_kin wsX9_kin { frames := 2, cells := 0, slots := 0, locals := 44 } [.ref (Q 0), .int x1, .int x2] s r s' := by
  intro sz
  refine met_entry (cc := cX9_kin) (maxL := 3) (ret := (some .boolean)) (by decide) rfl (Nat.le_of_ble_eq_true rfl) sz rfl ?_
  generalize va_A (wX Z Q s) sz = A
  intro p e s0 m args below meth c ls F hr hlk h hl
  have hl : lv_has ls 3 [(0, .ref (Q 0)), (1, .int x1), (2, .int x2)] := hl
  obtain ⟨hx, hb, hml, hown, hts⟩ := id F
  have hinX9 : ∀ w ∈ wsX90, w ∈ wsX9_kin := by decide +kernel
  obtain ⟨H, eH⟩ : ∃ z, z = s0.heap := ⟨_, rfl⟩
  obtain ⟨locs, eL⟩ : ∃ z : List Loc, z = [] := ⟨_, rfl⟩
  rw [← eH, ← eL] at h ⊢
  unfold p_House_kin at hf
  refine lv_aload_n hx hb dX9_kin_0 rfl (lv_at hl 0 rfl) ?_
  refine gX_House_city F h hinX9 (hts (.fieldLink RX9 12 "ElectionHouse" "city" "LElectionHouse$City;") (by decide +kernel)) dX9_kin_1 ?_
  refine lv_iload_n hx hb dX9_kin_4 rfl (lv_at hl 1 rfl) ?_
  refine lv_iload_n hx hb dX9_kin_5 rfl (lv_at hl 2 rfl) ?_
  obtain ⟨r2, s3, hc1, hf⟩ := ob2 hf
  refine call_VI F (c_City_tellKin l Z Q s x1 x2 hc1) (cwV 2 hts gX9_kin_X0_tellKin rfl rfl rfl (by decide +kernel) ⟨Nat.le_of_ble_eq_true rfl, Nat.le_of_ble_eq_true rfl⟩) h (rcX_City h) rfl hl.1 rfl (Nat.le_of_ble_eq_true rfl) ⟨Nat.zero_le _, Nat.zero_le _⟩ dX9_kin_6 (fun H locs h => ?_)
  obtain ⟨gz, hf⟩ := og hf
  exact retE_Z F hr hlk gz h hf dX9_kin_9

set_option maxHeartbeats 8000000 in
set_option maxRecDepth 100000 in
theorem c_House_says (l : Launch) (Z : ZT) (Q : Nat → Nat) (s : XS) (x1 : Int32) (x2 : Int32) (x3 : Int32) {r : Int32} {s' : XS} (hf : p_House_says x1 x2 x3 s = some (r, s')) : KI l Z (wX Z Q) yX9_says wsX9_says { frames := 2, cells := 0, slots := 0, locals := 44 } [.ref (Q 0), .int x1, .int x2, .int x3] s r s' := by
  intro sz
  refine met_entry (cc := cX9_says) (maxL := 4) (ret := (some .boolean)) (by decide) rfl (Nat.le_of_ble_eq_true rfl) sz rfl ?_
  generalize va_A (wX Z Q s) sz = A
  intro p e s0 m args below meth c ls F hr hlk h hl
  have hl : lv_has ls 4 [(0, .ref (Q 0)), (1, .int x1), (2, .int x2), (3, .int x3)] := hl
  obtain ⟨hx, hb, hml, hown, hts⟩ := id F
  have hinX9 : ∀ w ∈ wsX90, w ∈ wsX9_says := by decide +kernel
  obtain ⟨H, eH⟩ : ∃ z, z = s0.heap := ⟨_, rfl⟩
  obtain ⟨locs, eL⟩ : ∃ z : List Loc, z = [] := ⟨_, rfl⟩
  rw [← eH, ← eL] at h ⊢
  unfold p_House_says at hf
  refine lv_aload_n hx hb dX9_says_0 rfl (lv_at hl 0 rfl) ?_
  refine gX_House_city F h hinX9 (hts (.fieldLink RX9 12 "ElectionHouse" "city" "LElectionHouse$City;") (by decide +kernel)) dX9_says_1 ?_
  refine lv_iload_n hx hb dX9_says_4 rfl (lv_at hl 1 rfl) ?_
  refine lv_iload_n hx hb dX9_says_5 rfl (lv_at hl 2 rfl) ?_
  refine lv_iload_n hx hb dX9_says_6 rfl (lv_at hl 3 rfl) ?_
  obtain ⟨r2, s3, hc1, hf⟩ := ob2 hf
  refine call_VI F (c_City_setYes l Z Q s x1 x2 x3 hc1) (cwV 3 hts gX9_says_X0_setYes rfl rfl rfl (by decide +kernel) ⟨Nat.le_of_ble_eq_true rfl, Nat.le_of_ble_eq_true rfl⟩) h (rcX_City h) rfl hl.1 rfl (Nat.le_of_ble_eq_true rfl) ⟨Nat.zero_le _, Nat.zero_le _⟩ dX9_says_7 (fun H locs h => ?_)
  obtain ⟨gz, hf⟩ := og hf
  exact retE_Z F hr hlk gz h hf dX9_says_10

set_option maxHeartbeats 8000000 in
set_option maxRecDepth 100000 in
theorem c_House_turn (l : Launch) (Z : ZT) (Q : Nat → Nat) (s : XS) (x1 : Int32) (x2 : Int32) (x3 : Int32) {r : Int32} {s' : XS} (hf : p_House_turn x1 x2 x3 s = some (r, s')) : KI l Z (wX Z Q) yX9_turn wsX9_turn { frames := 2, cells := 0, slots := 0, locals := 44 } [.ref (Q 0), .int x1, .int x2, .int x3] s r s' := by
  intro sz
  refine met_entry (cc := cX9_turn) (maxL := 4) (ret := (some .boolean)) (by decide) rfl (Nat.le_of_ble_eq_true rfl) sz rfl ?_
  generalize va_A (wX Z Q s) sz = A
  intro p e s0 m args below meth c ls F hr hlk h hl
  have hl : lv_has ls 4 [(0, .ref (Q 0)), (1, .int x1), (2, .int x2), (3, .int x3)] := hl
  obtain ⟨hx, hb, hml, hown, hts⟩ := id F
  have hinX9 : ∀ w ∈ wsX90, w ∈ wsX9_turn := by decide +kernel
  obtain ⟨H, eH⟩ : ∃ z, z = s0.heap := ⟨_, rfl⟩
  obtain ⟨locs, eL⟩ : ∃ z : List Loc, z = [] := ⟨_, rfl⟩
  rw [← eH, ← eL] at h ⊢
  unfold p_House_turn at hf
  refine lv_aload_n hx hb dX9_turn_0 rfl (lv_at hl 0 rfl) ?_
  refine gX_House_city F h hinX9 (hts (.fieldLink RX9 12 "ElectionHouse" "city" "LElectionHouse$City;") (by decide +kernel)) dX9_turn_1 ?_
  refine lv_iload_n hx hb dX9_turn_4 rfl (lv_at hl 1 rfl) ?_
  refine lv_iload_n hx hb dX9_turn_5 rfl (lv_at hl 2 rfl) ?_
  refine lv_iload_n hx hb dX9_turn_6 rfl (lv_at hl 3 rfl) ?_
  obtain ⟨r2, s3, hc1, hf⟩ := ob2 hf
  refine call_VI F (c_City_convert l Z Q s x1 x2 x3 hc1) (cwV 3 hts gX9_turn_X0_convert rfl rfl rfl (by decide +kernel) ⟨Nat.le_of_ble_eq_true rfl, Nat.le_of_ble_eq_true rfl⟩) h (rcX_City h) rfl hl.1 rfl (Nat.le_of_ble_eq_true rfl) ⟨Nat.zero_le _, Nat.zero_le _⟩ dX9_turn_7 (fun H locs h => ?_)
  obtain ⟨gz, hf⟩ := og hf
  exact retE_Z F hr hlk gz h hf dX9_turn_10

set_option maxHeartbeats 8000000 in
set_option maxRecDepth 100000 in
theorem c_House_feed (l : Launch) (Z : ZT) (Q : Nat → Nat) (s : XS) (x1 : Int32) (x2 : Int32) (x3 : Int32) (x4 : Int32) (x5 : Int32) {r : Int32} {s' : XS} (hf : p_House_feed x1 x2 x3 x4 x5 s = some (r, s')) : KI l Z (wX Z Q) yX9_feed wsX9_feed { frames := 2, cells := 0, slots := 0, locals := 43 } [.ref (Q 0), .int x1, .int x2, .int x3, .int x4, .int x5] s r s' := by
  intro sz
  refine met_entry (cc := cX9_feed) (maxL := 6) (ret := (some .int)) (by decide) rfl (Nat.le_of_ble_eq_true rfl) sz rfl ?_
  generalize va_A (wX Z Q s) sz = A
  intro p e s0 m args below meth c ls F hr hlk h hl
  have hl : lv_has ls 6 [(0, .ref (Q 0)), (1, .int x1), (2, .int x2), (3, .int x3), (4, .int x4), (5, .int x5)] := hl
  obtain ⟨hx, hb, hml, hown, hts⟩ := id F
  have hinX9 : ∀ w ∈ wsX90, w ∈ wsX9_feed := by decide +kernel
  obtain ⟨H, eH⟩ : ∃ z, z = s0.heap := ⟨_, rfl⟩
  obtain ⟨locs, eL⟩ : ∃ z : List Loc, z = [] := ⟨_, rfl⟩
  rw [← eH, ← eL] at h ⊢
  unfold p_House_feed at hf
  refine lv_aload_n hx hb dX9_feed_0 rfl (lv_at hl 0 rfl) ?_
  refine gX_House_tape F h hinX9 (hts (.fieldLink RX9 19 "ElectionHouse" "tape" "LElectionHouse$Tape;") (by decide +kernel)) dX9_feed_1 ?_
  refine lv_bipush (v := (20 : Int32)) hx hb dX9_feed_4 (by decide) ?_
  obtain ⟨r2, hc1, hf⟩ := ob1 hf
  refine call_VI F (c_Tape_hasRoom l Z Q s (20 : Int32) hc1) (cwV 1 hts gX9_feed_X8_hasRoom rfl rfl rfl (by decide +kernel) ⟨Nat.le_of_ble_eq_true rfl, Nat.le_of_ble_eq_true rfl⟩) h (rcX_Tape h) rfl hl.1 rfl (Nat.le_of_ble_eq_true rfl) ⟨Nat.zero_le _, Nat.zero_le _⟩ dX9_feed_6 (fun H locs h => ?_)
  refine lv_if_ne (tgt := 14) hx hb dX9_feed_9 (by decide) (fun c_4 => ?_) (fun c_4 => ?_)
  · have hf := im c_4 hf
    refine lv_aload_n hx hb dX9_feed_14 rfl (lv_at hl 0 rfl) ?_
    refine gX_House_tape F h hinX9 (hts (.fieldLink RX9 19 "ElectionHouse" "tape" "LElectionHouse$Tape;") (by decide +kernel)) dX9_feed_15 ?_
    refine lv_iload_n hx hb dX9_feed_18 rfl (lv_at hl 1 rfl) ?_
    obtain ⟨s7, hc5, hf⟩ := ob1 hf
    refine call_VV F (c_Tape_append l Z Q s x1 hc5) (cwV 1 hts gX9_feed_X8_append rfl rfl rfl (by decide +kernel) ⟨Nat.le_of_ble_eq_true rfl, Nat.le_of_ble_eq_true rfl⟩) h (rcX_Tape h) rfl hl.1 rfl (Nat.le_of_ble_eq_true rfl) ⟨Nat.zero_le _, Nat.zero_le _⟩ dX9_feed_19 (fun H locs h => ?_)
    refine lv_aload_n hx hb dX9_feed_22 rfl (lv_at hl 0 rfl) ?_
    refine gX_House_tape F h hinX9 (hts (.fieldLink RX9 19 "ElectionHouse" "tape" "LElectionHouse$Tape;") (by decide +kernel)) dX9_feed_23 ?_
    refine lv_iload_n hx hb dX9_feed_26 rfl (lv_at hl 2 rfl) ?_
    obtain ⟨s10, hc8, hf⟩ := ob1 hf
    refine call_VV F (c_Tape_append l Z Q s7 x2 hc8) (cwV 1 hts gX9_feed_X8_append rfl rfl rfl (by decide +kernel) ⟨Nat.le_of_ble_eq_true rfl, Nat.le_of_ble_eq_true rfl⟩) h (rcX_Tape h) rfl hl.1 rfl (Nat.le_of_ble_eq_true rfl) ⟨Nat.zero_le _, Nat.zero_le _⟩ dX9_feed_27 (fun H locs h => ?_)
    refine lv_aload_n hx hb dX9_feed_30 rfl (lv_at hl 0 rfl) ?_
    refine gX_House_tape F h hinX9 (hts (.fieldLink RX9 19 "ElectionHouse" "tape" "LElectionHouse$Tape;") (by decide +kernel)) dX9_feed_31 ?_
    refine lv_iload_n hx hb dX9_feed_34 rfl (lv_at hl 3 rfl) ?_
    obtain ⟨s13, hc11, hf⟩ := ob1 hf
    refine call_VV F (c_Tape_append l Z Q s10 x3 hc11) (cwV 1 hts gX9_feed_X8_append rfl rfl rfl (by decide +kernel) ⟨Nat.le_of_ble_eq_true rfl, Nat.le_of_ble_eq_true rfl⟩) h (rcX_Tape h) rfl hl.1 rfl (Nat.le_of_ble_eq_true rfl) ⟨Nat.zero_le _, Nat.zero_le _⟩ dX9_feed_35 (fun H locs h => ?_)
    refine lv_aload_n hx hb dX9_feed_38 rfl (lv_at hl 0 rfl) ?_
    refine gX_House_tape F h hinX9 (hts (.fieldLink RX9 19 "ElectionHouse" "tape" "LElectionHouse$Tape;") (by decide +kernel)) dX9_feed_39 ?_
    refine lv_iload hx hb dX9_feed_42 (lv_at hl 4 rfl) ?_
    obtain ⟨s16, hc14, hf⟩ := ob1 hf
    refine call_VV F (c_Tape_append l Z Q s13 x4 hc14) (cwV 1 hts gX9_feed_X8_append rfl rfl rfl (by decide +kernel) ⟨Nat.le_of_ble_eq_true rfl, Nat.le_of_ble_eq_true rfl⟩) h (rcX_Tape h) rfl hl.1 rfl (Nat.le_of_ble_eq_true rfl) ⟨Nat.zero_le _, Nat.zero_le _⟩ dX9_feed_44 (fun H locs h => ?_)
    refine lv_aload_n hx hb dX9_feed_47 rfl (lv_at hl 0 rfl) ?_
    refine gX_House_tape F h hinX9 (hts (.fieldLink RX9 19 "ElectionHouse" "tape" "LElectionHouse$Tape;") (by decide +kernel)) dX9_feed_48 ?_
    refine lv_iload hx hb dX9_feed_51 (lv_at hl 5 rfl) ?_
    obtain ⟨s19, hc17, hf⟩ := ob1 hf
    refine call_VV F (c_Tape_append l Z Q s16 x5 hc17) (cwV 1 hts gX9_feed_X8_append rfl rfl rfl (by decide +kernel) ⟨Nat.le_of_ble_eq_true rfl, Nat.le_of_ble_eq_true rfl⟩) h (rcX_Tape h) rfl hl.1 rfl (Nat.le_of_ble_eq_true rfl) ⟨Nat.zero_le _, Nat.zero_le _⟩ dX9_feed_53 (fun H locs h => ?_)
    refine lv_aload_n hx hb dX9_feed_56 rfl (lv_at hl 0 rfl) ?_
    refine gX_House_tape F h hinX9 (hts (.fieldLink RX9 19 "ElectionHouse" "tape" "LElectionHouse$Tape;") (by decide +kernel)) dX9_feed_57 ?_
    obtain ⟨r21, hc20, hf⟩ := ob1 hf
    refine call_VI F (c_Tape_length l Z Q s19 hc20) (cwV 0 hts gX9_feed_X8_length rfl rfl rfl (by decide +kernel) ⟨Nat.le_of_ble_eq_true rfl, Nat.le_of_ble_eq_true rfl⟩) h (rcX_Tape h) rfl hl.1 rfl (Nat.le_of_ble_eq_true rfl) ⟨Nat.zero_le _, Nat.zero_le _⟩ dX9_feed_60 (fun H locs h => ?_)
    exact retE_I F hr hlk h hf dX9_feed_63
  · have hf := ip c_4 hf
    refine lv_iconst (v := (-1 : Int32)) hx hb dX9_feed_12 (by decide) ?_
    exact retE_I F hr hlk h hf dX9_feed_13

set_option maxHeartbeats 8000000 in
set_option maxRecDepth 100000 in
theorem c_House_end (l : Launch) (Z : ZT) (Q : Nat → Nat) (s : XS) (x1 : Int32) {r : Int32} {s' : XS} (hf : p_House_end x1 s = some (r, s')) : KI l Z (wX Z Q) yX9_end wsX9_end { frames := 1, cells := 0, slots := 0, locals := 21 } [.ref (Q 0), .int x1] s r s' := by
  intro sz
  refine met_entry (cc := cX9_end) (maxL := 2) (ret := (some .int)) (by decide) rfl (Nat.le_of_ble_eq_true rfl) sz rfl ?_
  generalize va_A (wX Z Q s) sz = A
  intro p e s0 m args below meth c ls F hr hlk h hl
  have hl : lv_has ls 2 [(0, .ref (Q 0)), (1, .int x1)] := hl
  obtain ⟨hx, hb, hml, hown, hts⟩ := id F
  have hinX9 : ∀ w ∈ wsX90, w ∈ wsX9_end := by decide +kernel
  obtain ⟨H, eH⟩ : ∃ z, z = s0.heap := ⟨_, rfl⟩
  obtain ⟨locs, eL⟩ : ∃ z : List Loc, z = [] := ⟨_, rfl⟩
  rw [← eH, ← eL] at h ⊢
  unfold p_House_end at hf
  refine lv_aload_n hx hb dX9_end_0 rfl (lv_at hl 0 rfl) ?_
  refine gX_House_tape F h hinX9 (hts (.fieldLink RX9 19 "ElectionHouse" "tape" "LElectionHouse$Tape;") (by decide +kernel)) dX9_end_1 ?_
  refine lv_iload_n hx hb dX9_end_4 rfl (lv_at hl 1 rfl) ?_
  obtain ⟨r2, s3, hc1, hf⟩ := ob2 hf
  refine call_VI F (c_Tape_cut l Z Q s x1 hc1) (cwV 1 hts gX9_end_X8_cut rfl rfl rfl (by decide +kernel) ⟨Nat.le_of_ble_eq_true rfl, Nat.le_of_ble_eq_true rfl⟩) h (rcX_Tape h) rfl hl.1 rfl (Nat.le_of_ble_eq_true rfl) ⟨Nat.zero_le _, Nat.zero_le _⟩ dX9_end_5 (fun H locs h => ?_)
  refine lv_if_eq (tgt := 15) hx hb dX9_end_8 (by decide) (fun c_4 => ?_) (fun c_4 => ?_)
  · have hf := ip c_4 hf
    refine lv_iconst (v := (-1 : Int32)) hx hb dX9_end_15 (by decide) ?_
    exact retE_I F hr hlk h hf dX9_end_16
  · have hf := im c_4 hf
    refine lv_iload_n hx hb dX9_end_11 rfl (lv_at hl 1 rfl) ?_
    refine lv_goto (tgt := 16) hx hb dX9_end_12 (by decide) ?_
    exact retE_I F hr hlk h hf dX9_end_16

set_option maxHeartbeats 8000000 in
set_option maxRecDepth 100000 in
theorem c_House_procedure (l : Launch) (Z : ZT) (Q : Nat → Nat) (s : XS) {r : Int32} {s' : XS} (hf : p_House_procedure s = some (r, s')) : KI l Z (wX Z Q) yX9_procedure wsX9_procedure { frames := 9, cells := 0, slots := 0, locals := 202 } [.ref (Q 0)] s r s' := by
  intro sz
  refine met_entry (cc := cX9_procedure) (maxL := 2) (ret := (some .int)) (by decide) rfl (Nat.le_of_ble_eq_true rfl) sz rfl ?_
  generalize va_A (wX Z Q s) sz = A
  intro p e s0 m args below meth c ls F hr hlk h hl
  have hl : lv_has ls 2 [(0, .ref (Q 0))] := hl
  obtain ⟨hx, hb, hml, hown, hts⟩ := id F
  have hinX9 : ∀ w ∈ wsX90, w ∈ wsX9_procedure := by decide +kernel
  obtain ⟨H, eH⟩ : ∃ z, z = s0.heap := ⟨_, rfl⟩
  obtain ⟨locs, eL⟩ : ∃ z : List Loc, z = [] := ⟨_, rfl⟩
  rw [← eH, ← eL] at h ⊢
  unfold p_House_procedure at hf
  refine lv_aload_n hx hb dX9_procedure_0 rfl (lv_at hl 0 rfl) ?_
  refine gX_House_reader F h hinX9 (hts (.fieldLink RX9 28 "ElectionHouse" "reader" "LElectionHouse$Reader;") (by decide +kernel)) dX9_procedure_1 ?_
  refine lv_aload_n hx hb dX9_procedure_4 rfl (lv_at hl 0 rfl) ?_
  refine gX_House_draft F h hinX9 (hts (.fieldLink RX9 67 "ElectionHouse" "draft" "LElectionHouse$Plan;") (by decide +kernel)) dX9_procedure_5 ?_
  have hb1 : (gG s 0 7) < 2 := h.2.2.2.2.2.1 _ _
  obtain ⟨r3, s4, hc2, hf⟩ := ob2 hf
  refine call_VI F (c_Reader_read l Z Q s (gG s 0 7) hb1 hc2) (cwV 1 hts gX9_procedure_X5_read rfl rfl rfl (by decide +kernel) ⟨Nat.le_of_ble_eq_true rfl, Nat.le_of_ble_eq_true rfl⟩) h (rcX_Reader h) rfl hl.1 rfl (Nat.le_of_ble_eq_true rfl) ⟨Nat.zero_le _, Nat.zero_le _⟩ dX9_procedure_8 (fun H locs h => ?_)
  refine lv_istore_n (lv' := [(1, .int r3), (0, .ref (Q 0))]) hx hb dX9_procedure_11 rfl hl (by decide) rfl (fun ls hl => ?_)
  have hl := lv_sub (l' := [(0, .ref (Q 0)), (1, .int r3)]) hl [1, 0] rfl
  refine lv_aload_n hx hb dX9_procedure_12 rfl (lv_at hl 0 rfl) ?_
  refine gX_House_tape F h hinX9 (hts (.fieldLink RX9 19 "ElectionHouse" "tape" "LElectionHouse$Tape;") (by decide +kernel)) dX9_procedure_13 ?_
  refine lv_iconst (v := (0 : Int32)) hx hb dX9_procedure_16 (by decide) ?_
  obtain ⟨r6, s7, hc5, hf⟩ := ob2 hf
  refine call_VI F (c_Tape_cut l Z Q s4 (0 : Int32) hc5) (cwV 1 hts gX9_procedure_X8_cut rfl rfl rfl (by decide +kernel) ⟨Nat.le_of_ble_eq_true rfl, Nat.le_of_ble_eq_true rfl⟩) h (rcX_Tape h) rfl hl.1 rfl (Nat.le_of_ble_eq_true rfl) ⟨Nat.zero_le _, Nat.zero_le _⟩ dX9_procedure_17 (fun H locs h => ?_)
  refine lv_pop hx hb dX9_procedure_20 rfl ?_
  refine lv_iload_n hx hb dX9_procedure_21 rfl (lv_at hl 1 rfl) ?_
  refine lv_if_eq (tgt := 30) hx hb dX9_procedure_22 (by decide) (fun c_8 => ?_) (fun c_8 => ?_)
  · have hf := ip c_8 hf
    refine lv_aload_n hx hb dX9_procedure_30 rfl (lv_at hl 0 rfl) ?_
    refine lv_aload_n hx hb dX9_procedure_31 rfl (lv_at hl 0 rfl) ?_
    refine gX_House_session F h hinX9 (hts (.fieldLink RX9 51 "ElectionHouse" "session" "LElectionHouse$Session;") (by decide +kernel)) dX9_procedure_32 ?_
    refine lv_aload_n hx hb dX9_procedure_35 rfl (lv_at hl 0 rfl) ?_
    refine gX_House_draft F h hinX9 (hts (.fieldLink RX9 67 "ElectionHouse" "draft" "LElectionHouse$Plan;") (by decide +kernel)) dX9_procedure_36 ?_
    have hb9 : (gG s7 0 7) < 2 := h.2.2.2.2.2.1 _ _
    obtain ⟨r11, s12, hc10, hf⟩ := ob2 hf
    refine call_VR F (c_Sess_begin l Z Q s7 (gG s7 0 7) hb9 hc10) (cwV 1 hts gX9_procedure_X6_begin rfl rfl rfl (by decide +kernel) ⟨Nat.le_of_ble_eq_true rfl, Nat.le_of_ble_eq_true rfl⟩) h (rcX_Sess h) rfl hl.1 rfl (Nat.le_of_ble_eq_true rfl) ⟨Nat.zero_le _, Nat.zero_le _⟩ dX9_procedure_39 (fun H locs h => ?_)
    obtain ⟨hb13, hf⟩ := og hf
    have hb13 := of_decide_eq_true hb13
    refine pX_House_draft hb13 F h hinX9 (hts (.fieldLink RX9 67 "ElectionHouse" "draft" "LElectionHouse$Plan;") (by decide +kernel)) dX9_procedure_42 (fun H locs h => ?_)
    obtain ⟨s14, es, hf⟩ := olq hf
    rw [← es] at h
    refine lv_aload_n hx hb dX9_procedure_45 rfl (lv_at hl 0 rfl) ?_
    refine gX_House_session F h hinX9 (hts (.fieldLink RX9 51 "ElectionHouse" "session" "LElectionHouse$Session;") (by decide +kernel)) dX9_procedure_46 ?_
    obtain ⟨r16, hc15, hf⟩ := ob1 hf
    refine call_VI F (c_Sess_stepsInAll l Z Q s14 hc15) (cwV 0 hts gX9_procedure_X6_stepsInAll rfl rfl rfl (by decide +kernel) ⟨Nat.le_of_ble_eq_true rfl, Nat.le_of_ble_eq_true rfl⟩) h (rcX_Sess h) rfl hl.1 rfl (Nat.le_of_ble_eq_true rfl) ⟨Nat.zero_le _, Nat.zero_le _⟩ dX9_procedure_49 (fun H locs h => ?_)
    exact retE_I F hr hlk h hf dX9_procedure_52
  · have hf := im c_8 hf
    refine lv_bipush (v := (-2 : Int32)) hx hb dX9_procedure_25 (by decide) ?_
    refine lv_iload_n hx hb dX9_procedure_27 rfl (lv_at hl 1 rfl) ?_
    refine lv_isub hx hb dX9_procedure_28 ?_
    exact retE_I F hr hlk h hf dX9_procedure_29

set_option maxHeartbeats 8000000 in
set_option maxRecDepth 100000 in
theorem c_House_lot (l : Launch) (Z : ZT) (Q : Nat → Nat) (s : XS) (x1 : Int32) {r : Int32} {s' : XS} (hf : p_House_lot x1 s = some (r, s')) : KI l Z (wX Z Q) yX9_lot wsX9_lot { frames := 1, cells := 0, slots := 0, locals := 21 } [.ref (Q 0), .int x1] s r s' := by
  intro sz
  refine met_entry (cc := cX9_lot) (maxL := 2) (ret := (some .int)) (by decide) rfl (Nat.le_of_ble_eq_true rfl) sz rfl ?_
  generalize va_A (wX Z Q s) sz = A
  intro p e s0 m args below meth c ls F hr hlk h hl
  have hl : lv_has ls 2 [(0, .ref (Q 0)), (1, .int x1)] := hl
  obtain ⟨hx, hb, hml, hown, hts⟩ := id F
  have hinX9 : ∀ w ∈ wsX90, w ∈ wsX9_lot := by decide +kernel
  obtain ⟨H, eH⟩ : ∃ z, z = s0.heap := ⟨_, rfl⟩
  obtain ⟨locs, eL⟩ : ∃ z : List Loc, z = [] := ⟨_, rfl⟩
  rw [← eH, ← eL] at h ⊢
  unfold p_House_lot at hf
  refine lv_aload_n hx hb dX9_lot_0 rfl (lv_at hl 0 rfl) ?_
  refine gX_House_lots F h hinX9 (hts (.fieldLink RX9 35 "ElectionHouse" "lots" "LElectionHouse$LotRow;") (by decide +kernel)) dX9_lot_1 ?_
  refine lv_iload_n hx hb dX9_lot_4 rfl (lv_at hl 1 rfl) ?_
  obtain ⟨r2, s3, hc1, hf⟩ := ob2 hf
  refine call_VI F (c_Lot_tell l Z Q s x1 hc1) (cwV 1 hts gX9_lot_X1_tell rfl rfl rfl (by decide +kernel) ⟨Nat.le_of_ble_eq_true rfl, Nat.le_of_ble_eq_true rfl⟩) h (rcX_Lot h) rfl hl.1 rfl (Nat.le_of_ble_eq_true rfl) ⟨Nat.zero_le _, Nat.zero_le _⟩ dX9_lot_5 (fun H locs h => ?_)
  exact retE_I F hr hlk h hf dX9_lot_8

set_option maxHeartbeats 8000000 in
set_option maxRecDepth 100000 in
theorem c_House_step (l : Launch) (Z : ZT) (Q : Nat → Nat) (s : XS) {r : Int32} {s' : XS} (hf : p_House_step s = some (r, s')) : KI l Z (wX Z Q) yX9_step wsX9_step { frames := 7, cells := 0, slots := 0, locals := 153 } [.ref (Q 0)] s r s' := by
  intro sz
  refine met_entry (cc := cX9_step) (maxL := 1) (ret := (some .int)) (by decide) rfl (Nat.le_of_ble_eq_true rfl) sz rfl ?_
  generalize va_A (wX Z Q s) sz = A
  intro p e s0 m args below meth c ls F hr hlk h hl
  have hl : lv_has ls 1 [(0, .ref (Q 0))] := hl
  obtain ⟨hx, hb, hml, hown, hts⟩ := id F
  have hinX9 : ∀ w ∈ wsX90, w ∈ wsX9_step := by decide +kernel
  obtain ⟨H, eH⟩ : ∃ z, z = s0.heap := ⟨_, rfl⟩
  obtain ⟨locs, eL⟩ : ∃ z : List Loc, z = [] := ⟨_, rfl⟩
  rw [← eH, ← eL] at h ⊢
  unfold p_House_step at hf
  refine lv_aload_n hx hb dX9_step_0 rfl (lv_at hl 0 rfl) ?_
  refine gX_House_session F h hinX9 (hts (.fieldLink RX9 51 "ElectionHouse" "session" "LElectionHouse$Session;") (by decide +kernel)) dX9_step_1 ?_
  obtain ⟨r2, s3, hc1, hf⟩ := ob2 hf
  refine call_VI F (c_Sess_doNext l Z Q s hc1) (cwV 0 hts gX9_step_X6_doNext rfl rfl rfl (by decide +kernel) ⟨Nat.le_of_ble_eq_true rfl, Nat.le_of_ble_eq_true rfl⟩) h (rcX_Sess h) rfl hl.1 rfl (Nat.le_of_ble_eq_true rfl) ⟨Nat.zero_le _, Nat.zero_le _⟩ dX9_step_4 (fun H locs h => ?_)
  exact retE_I F hr hlk h hf dX9_step_7

set_option maxHeartbeats 8000000 in
set_option maxRecDepth 100000 in
theorem c_House_protest (l : Launch) (Z : ZT) (Q : Nat → Nat) (s : XS) (x1 : Int32) {r : Int32} {s' : XS} (hf : p_House_protest x1 s = some (r, s')) : KI l Z (wX Z Q) yX9_protest wsX9_protest { frames := 1, cells := 0, slots := 0, locals := 21 } [.ref (Q 0), .int x1] s r s' := by
  intro sz
  refine met_entry (cc := cX9_protest) (maxL := 2) (ret := (some .boolean)) (by decide) rfl (Nat.le_of_ble_eq_true rfl) sz rfl ?_
  generalize va_A (wX Z Q s) sz = A
  intro p e s0 m args below meth c ls F hr hlk h hl
  have hl : lv_has ls 2 [(0, .ref (Q 0)), (1, .int x1)] := hl
  obtain ⟨hx, hb, hml, hown, hts⟩ := id F
  have hinX9 : ∀ w ∈ wsX90, w ∈ wsX9_protest := by decide +kernel
  obtain ⟨H, eH⟩ : ∃ z, z = s0.heap := ⟨_, rfl⟩
  obtain ⟨locs, eL⟩ : ∃ z : List Loc, z = [] := ⟨_, rfl⟩
  rw [← eH, ← eL] at h ⊢
  unfold p_House_protest at hf
  refine lv_aload_n hx hb dX9_protest_0 rfl (lv_at hl 0 rfl) ?_
  refine gX_House_session F h hinX9 (hts (.fieldLink RX9 51 "ElectionHouse" "session" "LElectionHouse$Session;") (by decide +kernel)) dX9_protest_1 ?_
  refine lv_iload_n hx hb dX9_protest_4 rfl (lv_at hl 1 rfl) ?_
  obtain ⟨r2, s3, hc1, hf⟩ := ob2 hf
  refine call_VI F (c_Sess_undoFrom l Z Q s x1 hc1) (cwV 1 hts gX9_protest_X6_undoFrom rfl rfl rfl (by decide +kernel) ⟨Nat.le_of_ble_eq_true rfl, Nat.le_of_ble_eq_true rfl⟩) h (rcX_Sess h) rfl hl.1 rfl (Nat.le_of_ble_eq_true rfl) ⟨Nat.zero_le _, Nat.zero_le _⟩ dX9_protest_5 (fun H locs h => ?_)
  obtain ⟨gz, hf⟩ := og hf
  exact retE_Z F hr hlk gz h hf dX9_protest_8

set_option maxHeartbeats 8000000 in
set_option maxRecDepth 100000 in
theorem c_House_body (l : Launch) (Z : ZT) (Q : Nat → Nat) (s : XS) (x1 : Int32) {r : Int32} {s' : XS} (hf : p_House_body x1 s = some (r, s')) : KI l Z (wX Z Q) yX9_body wsX9_body { frames := 5, cells := 0, slots := 0, locals := 105 } [.ref (Q 0), .int x1] s r s' := by
  intro sz
  refine met_entry (cc := cX9_body) (maxL := 2) (ret := (some .int)) (by decide) rfl (Nat.le_of_ble_eq_true rfl) sz rfl ?_
  generalize va_A (wX Z Q s) sz = A
  intro p e s0 m args below meth c ls F hr hlk h hl
  have hl : lv_has ls 2 [(0, .ref (Q 0)), (1, .int x1)] := hl
  obtain ⟨hx, hb, hml, hown, hts⟩ := id F
  have hinX9 : ∀ w ∈ wsX90, w ∈ wsX9_body := by decide +kernel
  obtain ⟨H, eH⟩ : ∃ z, z = s0.heap := ⟨_, rfl⟩
  obtain ⟨locs, eL⟩ : ∃ z : List Loc, z = [] := ⟨_, rfl⟩
  rw [← eH, ← eL] at h ⊢
  unfold p_House_body at hf
  refine lv_aload_n hx hb dX9_body_0 rfl (lv_at hl 0 rfl) ?_
  refine gX_House_session F h hinX9 (hts (.fieldLink RX9 51 "ElectionHouse" "session" "LElectionHouse$Session;") (by decide +kernel)) dX9_body_1 ?_
  refine lv_iload_n hx hb dX9_body_4 rfl (lv_at hl 1 rfl) ?_
  obtain ⟨r2, s3, hc1, hf⟩ := ob2 hf
  refine call_VI F (c_Sess_member l Z Q s x1 hc1) (cwV 1 hts gX9_body_X6_member rfl rfl rfl (by decide +kernel) ⟨Nat.le_of_ble_eq_true rfl, Nat.le_of_ble_eq_true rfl⟩) h (rcX_Sess h) rfl hl.1 rfl (Nat.le_of_ble_eq_true rfl) ⟨Nat.zero_le _, Nat.zero_le _⟩ dX9_body_5 (fun H locs h => ?_)
  exact retE_I F hr hlk h hf dX9_body_8

set_option maxHeartbeats 8000000 in
set_option maxRecDepth 100000 in
theorem c_House_ballot (l : Launch) (Z : ZT) (Q : Nat → Nat) (s : XS) (x1 : Int32) {r : Int32} (hf : p_House_ballot x1 s = some r) : KI l Z (wX Z Q) yX9_ballot wsX9_ballot { frames := 2, cells := 0, slots := 0, locals := 43 } [.ref (Q 0), .int x1] s r s := by
  intro sz
  refine met_entry (cc := cX9_ballot) (maxL := 2) (ret := (some .int)) (by decide) rfl (Nat.le_of_ble_eq_true rfl) sz rfl ?_
  generalize va_A (wX Z Q s) sz = A
  intro p e s0 m args below meth c ls F hr hlk h hl
  have hl : lv_has ls 2 [(0, .ref (Q 0)), (1, .int x1)] := hl
  obtain ⟨hx, hb, hml, hown, hts⟩ := id F
  have hinX9 : ∀ w ∈ wsX90, w ∈ wsX9_ballot := by decide +kernel
  obtain ⟨H, eH⟩ : ∃ z, z = s0.heap := ⟨_, rfl⟩
  obtain ⟨locs, eL⟩ : ∃ z : List Loc, z = [] := ⟨_, rfl⟩
  rw [← eH, ← eL] at h ⊢
  unfold p_House_ballot at hf
  refine lv_aload_n hx hb dX9_ballot_0 rfl (lv_at hl 0 rfl) ?_
  refine gX_House_poll F h hinX9 (hts (.fieldLink RX9 42 "ElectionHouse" "poll" "LElectionHouse$Poll;") (by decide +kernel)) dX9_ballot_1 ?_
  refine lv_iload_n hx hb dX9_ballot_4 rfl (lv_at hl 1 rfl) ?_
  obtain ⟨r2, hc1, hf⟩ := ob1 hf
  refine call_VI F (c_Poll_answer l Z Q s x1 hc1) (cwV 1 hts gX9_ballot_X4_answer rfl rfl rfl (by decide +kernel) ⟨Nat.le_of_ble_eq_true rfl, Nat.le_of_ble_eq_true rfl⟩) h (rcX_Poll h) rfl hl.1 rfl (Nat.le_of_ble_eq_true rfl) ⟨Nat.zero_le _, Nat.zero_le _⟩ dX9_ballot_5 (fun H locs h => ?_)
  exact retE_Ir F hr hlk h hf dX9_ballot_8

set_option maxHeartbeats 8000000 in
set_option maxRecDepth 100000 in
theorem c_House_elected (l : Launch) (Z : ZT) (Q : Nat → Nat) (s : XS) {r : Int32} (hf : p_House_elected s = some r) : KI l Z (wX Z Q) yX9_elected wsX9_elected { frames := 1, cells := 0, slots := 0, locals := 20 } [.ref (Q 0)] s r s := by
  intro sz
  refine met_entry (cc := cX9_elected) (maxL := 1) (ret := (some .int)) (by decide) rfl (Nat.le_of_ble_eq_true rfl) sz rfl ?_
  generalize va_A (wX Z Q s) sz = A
  intro p e s0 m args below meth c ls F hr hlk h hl
  have hl : lv_has ls 1 [(0, .ref (Q 0))] := hl
  obtain ⟨hx, hb, hml, hown, hts⟩ := id F
  have hinX9 : ∀ w ∈ wsX90, w ∈ wsX9_elected := by decide +kernel
  obtain ⟨H, eH⟩ : ∃ z, z = s0.heap := ⟨_, rfl⟩
  obtain ⟨locs, eL⟩ : ∃ z : List Loc, z = [] := ⟨_, rfl⟩
  rw [← eH, ← eL] at h ⊢
  unfold p_House_elected at hf
  refine lv_aload_n hx hb dX9_elected_0 rfl (lv_at hl 0 rfl) ?_
  refine gX_House_session F h hinX9 (hts (.fieldLink RX9 51 "ElectionHouse" "session" "LElectionHouse$Session;") (by decide +kernel)) dX9_elected_1 ?_
  obtain ⟨r2, hc1, hf⟩ := ob1 hf
  refine call_VI F (c_Sess_head l Z Q s hc1) (cwV 0 hts gX9_elected_X6_head rfl rfl rfl (by decide +kernel) ⟨Nat.le_of_ble_eq_true rfl, Nat.le_of_ble_eq_true rfl⟩) h (rcX_Sess h) rfl hl.1 rfl (Nat.le_of_ble_eq_true rfl) ⟨Nat.zero_le _, Nat.zero_le _⟩ dX9_elected_4 (fun H locs h => ?_)
  exact retE_Ir F hr hlk h hf dX9_elected_7

set_option maxHeartbeats 8000000 in
set_option maxRecDepth 100000 in
theorem c_House_chances (l : Launch) (Z : ZT) (Q : Nat → Nat) (s : XS) {r : Int32} {s' : XS} (hf : p_House_chances s = some (r, s')) : KI l Z (wX Z Q) yX9_chances wsX9_chances { frames := 7, cells := 0, slots := 0, locals := 155 } [.ref (Q 0)] s r s' := by
  intro sz
  refine met_entry (cc := cX9_chances) (maxL := 1) (ret := (some .int)) (by decide) rfl (Nat.le_of_ble_eq_true rfl) sz rfl ?_
  generalize va_A (wX Z Q s) sz = A
  intro p e s0 m args below meth c ls F hr hlk h hl
  have hl : lv_has ls 1 [(0, .ref (Q 0))] := hl
  obtain ⟨hx, hb, hml, hown, hts⟩ := id F
  have hinX9 : ∀ w ∈ wsX90, w ∈ wsX9_chances := by decide +kernel
  obtain ⟨H, eH⟩ : ∃ z, z = s0.heap := ⟨_, rfl⟩
  obtain ⟨locs, eL⟩ : ∃ z : List Loc, z = [] := ⟨_, rfl⟩
  rw [← eH, ← eL] at h ⊢
  unfold p_House_chances at hf
  refine lv_aload_n hx hb dX9_chances_0 rfl (lv_at hl 0 rfl) ?_
  refine gX_House_odds F h hinX9 (hts (.fieldLink RX9 60 "ElectionHouse" "odds" "LElectionHouse$Odds;") (by decide +kernel)) dX9_chances_1 ?_
  obtain ⟨r2, s3, hc1, hf⟩ := ob2 hf
  refine call_VI F (c_Odds_reckon l Z Q s hc1) (cwV 0 hts gX9_chances_X2_reckon rfl rfl rfl (by decide +kernel) ⟨Nat.le_of_ble_eq_true rfl, Nat.le_of_ble_eq_true rfl⟩) h (rcX_Odds h) rfl hl.1 rfl (Nat.le_of_ble_eq_true rfl) ⟨Nat.zero_le _, Nat.zero_le _⟩ dX9_chances_4 (fun H locs h => ?_)
  exact retE_I F hr hlk h hf dX9_chances_7

set_option maxHeartbeats 8000000 in
set_option maxRecDepth 100000 in
theorem c_House_ways (l : Launch) (Z : ZT) (Q : Nat → Nat) (s : XS) (x1 : Int32) {r : Int64} (hf : p_House_ways x1 s = some r) : KL l Z (wX Z Q) yX9_ways wsX9_ways { frames := 1, cells := 0, slots := 0, locals := 21 } [.ref (Q 0), .int x1] s r s := by
  intro sz
  refine met_entry (cc := cX9_ways) (maxL := 2) (ret := (some .long)) (by decide) rfl (Nat.le_of_ble_eq_true rfl) sz rfl ?_
  generalize va_A (wX Z Q s) sz = A
  intro p e s0 m args below meth c ls F hr hlk h hl
  have hl : lv_has ls 2 [(0, .ref (Q 0)), (1, .int x1)] := hl
  obtain ⟨hx, hb, hml, hown, hts⟩ := id F
  have hinX9 : ∀ w ∈ wsX90, w ∈ wsX9_ways := by decide +kernel
  obtain ⟨H, eH⟩ : ∃ z, z = s0.heap := ⟨_, rfl⟩
  obtain ⟨locs, eL⟩ : ∃ z : List Loc, z = [] := ⟨_, rfl⟩
  rw [← eH, ← eL] at h ⊢
  unfold p_House_ways at hf
  refine lv_aload_n hx hb dX9_ways_0 rfl (lv_at hl 0 rfl) ?_
  refine gX_House_odds F h hinX9 (hts (.fieldLink RX9 60 "ElectionHouse" "odds" "LElectionHouse$Odds;") (by decide +kernel)) dX9_ways_1 ?_
  refine lv_iload_n hx hb dX9_ways_4 rfl (lv_at hl 1 rfl) ?_
  obtain ⟨r2, hc1, hf⟩ := ob1 hf
  refine call_VL F (c_Odds_answer l Z Q s x1 hc1) (cwV 1 hts gX9_ways_X2_answer rfl rfl rfl (by decide +kernel) ⟨Nat.le_of_ble_eq_true rfl, Nat.le_of_ble_eq_true rfl⟩) h (rcX_Odds h) rfl hl.1 rfl (Nat.le_of_ble_eq_true rfl) ⟨Nat.zero_le _, Nat.zero_le _⟩ dX9_ways_5 (fun H locs h => ?_)
  exact retE_Lr F hr hlk h hf dX9_ways_8

set_option maxHeartbeats 8000000 in
set_option maxRecDepth 100000 in
theorem c_House_about (l : Launch) (Z : ZT) (Q : Nat → Nat) (s : XS) (x1 : Int32) (x2 : Int32) {r : Int32} (hf : p_House_about x1 x2 s = some r) : KI l Z (wX Z Q) yX9_about wsX9_about { frames := 3, cells := 0, slots := 0, locals := 67 } [.ref (Q 0), .int x1, .int x2] s r s := by
  intro sz
  refine met_entry (cc := cX9_about) (maxL := 3) (ret := (some .int)) (by decide) rfl (Nat.le_of_ble_eq_true rfl) sz rfl ?_
  generalize va_A (wX Z Q s) sz = A
  intro p e s0 m args below meth c ls F hr hlk h hl
  have hl : lv_has ls 3 [(0, .ref (Q 0)), (1, .int x1), (2, .int x2)] := hl
  obtain ⟨hx, hb, hml, hown, hts⟩ := id F
  have hinX9 : ∀ w ∈ wsX90, w ∈ wsX9_about := by decide +kernel
  obtain ⟨H, eH⟩ : ∃ z, z = s0.heap := ⟨_, rfl⟩
  obtain ⟨locs, eL⟩ : ∃ z : List Loc, z = [] := ⟨_, rfl⟩
  rw [← eH, ← eL] at h ⊢
  unfold p_House_about at hf
  refine lv_aload_n hx hb dX9_about_0 rfl (lv_at hl 0 rfl) ?_
  refine gX_House_city F h hinX9 (hts (.fieldLink RX9 12 "ElectionHouse" "city" "LElectionHouse$City;") (by decide +kernel)) dX9_about_1 ?_
  refine lv_iload_n hx hb dX9_about_4 rfl (lv_at hl 1 rfl) ?_
  obtain ⟨r2, hc1, hf⟩ := ob1 hf
  refine call_VI F (c_City_has l Z Q s x1 hc1) (cwV 1 hts gX9_about_X0_has rfl rfl rfl (by decide +kernel) ⟨Nat.le_of_ble_eq_true rfl, Nat.le_of_ble_eq_true rfl⟩) h (rcX_City h) rfl hl.1 rfl (Nat.le_of_ble_eq_true rfl) ⟨Nat.zero_le _, Nat.zero_le _⟩ dX9_about_5 (fun H locs h => ?_)
  refine lv_if_ne (tgt := 13) hx hb dX9_about_8 (by decide) (fun c_4 => ?_) (fun c_4 => ?_)
  · have hf := im c_4 hf
    refine lv_iload_n hx hb dX9_about_13 rfl (lv_at hl 2 rfl) ?_
    by_cases c_5 : x2 = (0 : Int32)
    · have hf := ip c_5 hf
      refine lv_tableIn (off := 30) (tgt := 44) hx hb dX9_about_14 (by rw [c_5]; decide) (by rw [c_5]; decide) (by rw [c_5]; rfl) (by decide) ?_
      refine lv_aload_n hx hb dX9_about_44 rfl (lv_at hl 0 rfl) ?_
      refine gX_House_city F h hinX9 (hts (.fieldLink RX9 12 "ElectionHouse" "city" "LElectionHouse$City;") (by decide +kernel)) dX9_about_45 ?_
      refine lv_iload_n hx hb dX9_about_48 rfl (lv_at hl 1 rfl) ?_
      obtain ⟨r7, hc6, hf⟩ := ob1 hf
      refine call_VI F (c_City_houseOf l Z Q s x1 hc6) (cwV 1 hts gX9_about_X0_houseOf rfl rfl rfl (by decide +kernel) ⟨Nat.le_of_ble_eq_true rfl, Nat.le_of_ble_eq_true rfl⟩) h (rcX_City h) rfl hl.1 rfl (Nat.le_of_ble_eq_true rfl) ⟨Nat.zero_le _, Nat.zero_le _⟩ dX9_about_49 (fun H locs h => ?_)
      exact retE_Ir F hr hlk h hf dX9_about_52
    · have hf := im c_5 hf
      by_cases c_9 : x2 = (1 : Int32)
      · have hf := ip c_9 hf
        refine lv_tableIn (off := 39) (tgt := 53) hx hb dX9_about_14 (by rw [c_9]; decide) (by rw [c_9]; decide) (by rw [c_9]; rfl) (by decide) ?_
        refine lv_aload_n hx hb dX9_about_53 rfl (lv_at hl 0 rfl) ?_
        refine gX_House_city F h hinX9 (hts (.fieldLink RX9 12 "ElectionHouse" "city" "LElectionHouse$City;") (by decide +kernel)) dX9_about_54 ?_
        refine lv_iload_n hx hb dX9_about_57 rfl (lv_at hl 1 rfl) ?_
        obtain ⟨r11, hc10, hf⟩ := ob1 hf
        refine call_VI F (c_City_partyOf l Z Q s x1 hc10) (cwV 1 hts gX9_about_X0_partyOf rfl rfl rfl (by decide +kernel) ⟨Nat.le_of_ble_eq_true rfl, Nat.le_of_ble_eq_true rfl⟩) h (rcX_City h) rfl hl.1 rfl (Nat.le_of_ble_eq_true rfl) ⟨Nat.zero_le _, Nat.zero_le _⟩ dX9_about_58 (fun H locs h => ?_)
        exact retE_Ir F hr hlk h hf dX9_about_61
      · have hf := im c_9 hf
        by_cases c_13 : x2 = (2 : Int32)
        · have hf := ip c_13 hf
          refine lv_tableIn (off := 48) (tgt := 62) hx hb dX9_about_14 (by rw [c_13]; decide) (by rw [c_13]; decide) (by rw [c_13]; rfl) (by decide) ?_
          refine lv_aload_n hx hb dX9_about_62 rfl (lv_at hl 0 rfl) ?_
          refine gX_House_city F h hinX9 (hts (.fieldLink RX9 12 "ElectionHouse" "city" "LElectionHouse$City;") (by decide +kernel)) dX9_about_63 ?_
          refine lv_iload_n hx hb dX9_about_66 rfl (lv_at hl 1 rfl) ?_
          obtain ⟨r15, hc14, hf⟩ := ob1 hf
          refine call_VI F (c_City_isThere l Z Q s x1 hc14) (cwV 1 hts gX9_about_X0_isThere rfl rfl rfl (by decide +kernel) ⟨Nat.le_of_ble_eq_true rfl, Nat.le_of_ble_eq_true rfl⟩) h (rcX_City h) rfl hl.1 rfl (Nat.le_of_ble_eq_true rfl) ⟨Nat.zero_le _, Nat.zero_le _⟩ dX9_about_67 (fun H locs h => ?_)
          refine lv_if_eq (tgt := 77) hx hb dX9_about_70 (by decide) (fun c_17 => ?_) (fun c_17 => ?_)
          · have hf := ip c_17 hf
            refine lv_iconst (v := (0 : Int32)) hx hb dX9_about_77 (by decide) ?_
            exact retE_Ir F hr hlk h hf dX9_about_78
          · have hf := im c_17 hf
            refine lv_iconst (v := (1 : Int32)) hx hb dX9_about_73 (by decide) ?_
            refine lv_goto (tgt := 78) hx hb dX9_about_74 (by decide) ?_
            exact retE_Ir F hr hlk h hf dX9_about_78
        · have hf := im c_13 hf
          by_cases c_18 : x2 = (3 : Int32)
          · have hf := ip c_18 hf
            refine lv_tableIn (off := 65) (tgt := 79) hx hb dX9_about_14 (by rw [c_18]; decide) (by rw [c_18]; decide) (by rw [c_18]; rfl) (by decide) ?_
            refine lv_aload_n hx hb dX9_about_79 rfl (lv_at hl 0 rfl) ?_
            refine gX_House_city F h hinX9 (hts (.fieldLink RX9 12 "ElectionHouse" "city" "LElectionHouse$City;") (by decide +kernel)) dX9_about_80 ?_
            refine lv_iload_n hx hb dX9_about_83 rfl (lv_at hl 1 rfl) ?_
            obtain ⟨r20, hc19, hf⟩ := ob1 hf
            refine call_VI F (c_City_kinOf l Z Q s x1 hc19) (cwV 1 hts gX9_about_X0_kinOf rfl rfl rfl (by decide +kernel) ⟨Nat.le_of_ble_eq_true rfl, Nat.le_of_ble_eq_true rfl⟩) h (rcX_City h) rfl hl.1 rfl (Nat.le_of_ble_eq_true rfl) ⟨Nat.zero_le _, Nat.zero_le _⟩ dX9_about_84 (fun H locs h => ?_)
            exact retE_Ir F hr hlk h hf dX9_about_87
          · have hf := im c_18 hf
            have nc_5 := lv_neT c_5 (show ((0 : Int32)).toInt = 0 by decide)
            have nc_9 := lv_neT c_9 (show ((1 : Int32)).toInt = 1 by decide)
            have nc_13 := lv_neT c_13 (show ((2 : Int32)).toInt = 2 by decide)
            have nc_18 := lv_neT c_18 (show ((3 : Int32)).toInt = 3 by decide)
            refine lv_tableOut (tgt := 88) hx hb dX9_about_14 (by omega) (by decide) ?_
            refine lv_iconst (v := (-1 : Int32)) hx hb dX9_about_88 (by decide) ?_
            exact retE_Ir F hr hlk h hf dX9_about_89
  · have hf := ip c_4 hf
    refine lv_iconst (v := (-1 : Int32)) hx hb dX9_about_11 (by decide) ?_
    exact retE_Ir F hr hlk h hf dX9_about_12

set_option maxHeartbeats 8000000 in
set_option maxRecDepth 100000 in
theorem c_House_count (l : Launch) (Z : ZT) (Q : Nat → Nat) (s : XS) (x1 : Int32) {r : Int32} {s' : XS} (hf : p_House_count x1 s = some (r, s')) : KI l Z (wX Z Q) yX9_count wsX9_count { frames := 4, cells := 0, slots := 0, locals := 84 } [.ref (Q 0), .int x1] s r s' := by
  intro sz
  refine met_entry (cc := cX9_count) (maxL := 2) (ret := (some .int)) (by decide) rfl (Nat.le_of_ble_eq_true rfl) sz rfl ?_
  generalize va_A (wX Z Q s) sz = A
  intro p e s0 m args below meth c ls F hr hlk h hl
  have hl : lv_has ls 2 [(0, .ref (Q 0)), (1, .int x1)] := hl
  obtain ⟨hx, hb, hml, hown, hts⟩ := id F
  have hinX9 : ∀ w ∈ wsX90, w ∈ wsX9_count := by decide +kernel
  obtain ⟨H, eH⟩ : ∃ z, z = s0.heap := ⟨_, rfl⟩
  obtain ⟨locs, eL⟩ : ∃ z : List Loc, z = [] := ⟨_, rfl⟩
  rw [← eH, ← eL] at h ⊢
  unfold p_House_count at hf
  refine lv_iload_n hx hb dX9_count_0 rfl (lv_at hl 1 rfl) ?_
  by_cases c_1 : x1 = (0 : Int32)
  · have hf := ip c_1 hf
    refine lv_tableIn (off := 51) (tgt := 52) hx hb dX9_count_1 (by rw [c_1]; decide) (by rw [c_1]; decide) (by rw [c_1]; rfl) (by decide) ?_
    refine lv_aload_n hx hb dX9_count_52 rfl (lv_at hl 0 rfl) ?_
    refine gX_House_city F h hinX9 (hts (.fieldLink RX9 12 "ElectionHouse" "city" "LElectionHouse$City;") (by decide +kernel)) dX9_count_53 ?_
    obtain ⟨r3, hc2, hf⟩ := ob1 hf
    refine call_VI F (c_City_size l Z Q s hc2) (cwV 0 hts gX9_count_X0_size rfl rfl rfl (by decide +kernel) ⟨Nat.le_of_ble_eq_true rfl, Nat.le_of_ble_eq_true rfl⟩) h (rcX_City h) rfl hl.1 rfl (Nat.le_of_ble_eq_true rfl) ⟨Nat.zero_le _, Nat.zero_le _⟩ dX9_count_56 (fun H locs h => ?_)
    exact retE_I F hr hlk h hf dX9_count_59
  · have hf := im c_1 hf
    by_cases c_5 : x1 = (1 : Int32)
    · have hf := ip c_5 hf
      refine lv_tableIn (off := 59) (tgt := 60) hx hb dX9_count_1 (by rw [c_5]; decide) (by rw [c_5]; decide) (by rw [c_5]; rfl) (by decide) ?_
      refine lv_aload_n hx hb dX9_count_60 rfl (lv_at hl 0 rfl) ?_
      refine gX_House_city F h hinX9 (hts (.fieldLink RX9 12 "ElectionHouse" "city" "LElectionHouse$City;") (by decide +kernel)) dX9_count_61 ?_
      obtain ⟨r7, hc6, hf⟩ := ob1 hf
      refine call_VI F (c_City_sizeThere l Z Q s hc6) (cwV 0 hts gX9_count_X0_sizeThere rfl rfl rfl (by decide +kernel) ⟨Nat.le_of_ble_eq_true rfl, Nat.le_of_ble_eq_true rfl⟩) h (rcX_City h) rfl hl.1 rfl (Nat.le_of_ble_eq_true rfl) ⟨Nat.zero_le _, Nat.zero_le _⟩ dX9_count_64 (fun H locs h => ?_)
      exact retE_I F hr hlk h hf dX9_count_67
    · have hf := im c_5 hf
      by_cases c_9 : x1 = (2 : Int32)
      · have hf := ip c_9 hf
        refine lv_tableIn (off := 67) (tgt := 68) hx hb dX9_count_1 (by rw [c_9]; decide) (by rw [c_9]; decide) (by rw [c_9]; rfl) (by decide) ?_
        refine lv_aload_n hx hb dX9_count_68 rfl (lv_at hl 0 rfl) ?_
        refine gX_House_city F h hinX9 (hts (.fieldLink RX9 12 "ElectionHouse" "city" "LElectionHouse$City;") (by decide +kernel)) dX9_count_69 ?_
        obtain ⟨r11, hc10, hf⟩ := ob1 hf
        refine call_VI F (c_City_pairsTold l Z Q s hc10) (cwV 0 hts gX9_count_X0_pairsTold rfl rfl rfl (by decide +kernel) ⟨Nat.le_of_ble_eq_true rfl, Nat.le_of_ble_eq_true rfl⟩) h (rcX_City h) rfl hl.1 rfl (Nat.le_of_ble_eq_true rfl) ⟨Nat.zero_le _, Nat.zero_le _⟩ dX9_count_72 (fun H locs h => ?_)
        exact retE_I F hr hlk h hf dX9_count_75
      · have hf := im c_9 hf
        by_cases c_13 : x1 = (3 : Int32)
        · have hf := ip c_13 hf
          refine lv_tableIn (off := 75) (tgt := 76) hx hb dX9_count_1 (by rw [c_13]; decide) (by rw [c_13]; decide) (by rw [c_13]; rfl) (by decide) ?_
          refine lv_aload_n hx hb dX9_count_76 rfl (lv_at hl 0 rfl) ?_
          refine gX_House_session F h hinX9 (hts (.fieldLink RX9 51 "ElectionHouse" "session" "LElectionHouse$Session;") (by decide +kernel)) dX9_count_77 ?_
          obtain ⟨r15, hc14, hf⟩ := ob1 hf
          refine call_VI F (c_Sess_stepsInAll l Z Q s hc14) (cwV 0 hts gX9_count_X6_stepsInAll rfl rfl rfl (by decide +kernel) ⟨Nat.le_of_ble_eq_true rfl, Nat.le_of_ble_eq_true rfl⟩) h (rcX_Sess h) rfl hl.1 rfl (Nat.le_of_ble_eq_true rfl) ⟨Nat.zero_le _, Nat.zero_le _⟩ dX9_count_80 (fun H locs h => ?_)
          exact retE_I F hr hlk h hf dX9_count_83
        · have hf := im c_13 hf
          by_cases c_17 : x1 = (4 : Int32)
          · have hf := ip c_17 hf
            refine lv_tableIn (off := 83) (tgt := 84) hx hb dX9_count_1 (by rw [c_17]; decide) (by rw [c_17]; decide) (by rw [c_17]; rfl) (by decide) ?_
            refine lv_aload_n hx hb dX9_count_84 rfl (lv_at hl 0 rfl) ?_
            refine gX_House_session F h hinX9 (hts (.fieldLink RX9 51 "ElectionHouse" "session" "LElectionHouse$Session;") (by decide +kernel)) dX9_count_85 ?_
            obtain ⟨r19, hc18, hf⟩ := ob1 hf
            refine call_VI F (c_Sess_stepsDone l Z Q s hc18) (cwV 0 hts gX9_count_X6_stepsDone rfl rfl rfl (by decide +kernel) ⟨Nat.le_of_ble_eq_true rfl, Nat.le_of_ble_eq_true rfl⟩) h (rcX_Sess h) rfl hl.1 rfl (Nat.le_of_ble_eq_true rfl) ⟨Nat.zero_le _, Nat.zero_le _⟩ dX9_count_88 (fun H locs h => ?_)
            exact retE_I F hr hlk h hf dX9_count_91
          · have hf := im c_17 hf
            by_cases c_21 : x1 = (5 : Int32)
            · have hf := ip c_21 hf
              refine lv_tableIn (off := 91) (tgt := 92) hx hb dX9_count_1 (by rw [c_21]; decide) (by rw [c_21]; decide) (by rw [c_21]; rfl) (by decide) ?_
              refine lv_aload_n hx hb dX9_count_92 rfl (lv_at hl 0 rfl) ?_
              refine gX_House_session F h hinX9 (hts (.fieldLink RX9 51 "ElectionHouse" "session" "LElectionHouse$Session;") (by decide +kernel)) dX9_count_93 ?_
              obtain ⟨r23, s24, hc22, hf⟩ := ob2 hf
              refine call_VI F (c_Sess_bodySize l Z Q s hc22) (cwV 0 hts gX9_count_X6_bodySize rfl rfl rfl (by decide +kernel) ⟨Nat.le_of_ble_eq_true rfl, Nat.le_of_ble_eq_true rfl⟩) h (rcX_Sess h) rfl hl.1 rfl (Nat.le_of_ble_eq_true rfl) ⟨Nat.zero_le _, Nat.zero_le _⟩ dX9_count_96 (fun H locs h => ?_)
              exact retE_I F hr hlk h hf dX9_count_99
            · have hf := im c_21 hf
              by_cases c_25 : x1 = (6 : Int32)
              · have hf := ip c_25 hf
                refine lv_tableIn (off := 99) (tgt := 100) hx hb dX9_count_1 (by rw [c_25]; decide) (by rw [c_25]; decide) (by rw [c_25]; rfl) (by decide) ?_
                refine lv_aload_n hx hb dX9_count_100 rfl (lv_at hl 0 rfl) ?_
                refine gX_House_lots F h hinX9 (hts (.fieldLink RX9 35 "ElectionHouse" "lots" "LElectionHouse$LotRow;") (by decide +kernel)) dX9_count_101 ?_
                obtain ⟨r27, hc26, hf⟩ := ob1 hf
                refine call_VI F (c_Lot_waiting l Z Q s hc26) (cwV 0 hts gX9_count_X1_waiting rfl rfl rfl (by decide +kernel) ⟨Nat.le_of_ble_eq_true rfl, Nat.le_of_ble_eq_true rfl⟩) h (rcX_Lot h) rfl hl.1 rfl (Nat.le_of_ble_eq_true rfl) ⟨Nat.zero_le _, Nat.zero_le _⟩ dX9_count_104 (fun H locs h => ?_)
                exact retE_I F hr hlk h hf dX9_count_107
              · have hf := im c_25 hf
                by_cases c_29 : x1 = (7 : Int32)
                · have hf := ip c_29 hf
                  refine lv_tableIn (off := 107) (tgt := 108) hx hb dX9_count_1 (by rw [c_29]; decide) (by rw [c_29]; decide) (by rw [c_29]; rfl) (by decide) ?_
                  refine lv_aload_n hx hb dX9_count_108 rfl (lv_at hl 0 rfl) ?_
                  refine gX_House_lots F h hinX9 (hts (.fieldLink RX9 35 "ElectionHouse" "lots" "LElectionHouse$LotRow;") (by decide +kernel)) dX9_count_109 ?_
                  obtain ⟨r31, hc30, hf⟩ := ob1 hf
                  refine call_VI F (c_Lot_usedInAll l Z Q s hc30) (cwV 0 hts gX9_count_X1_usedInAll rfl rfl rfl (by decide +kernel) ⟨Nat.le_of_ble_eq_true rfl, Nat.le_of_ble_eq_true rfl⟩) h (rcX_Lot h) rfl hl.1 rfl (Nat.le_of_ble_eq_true rfl) ⟨Nat.zero_le _, Nat.zero_le _⟩ dX9_count_112 (fun H locs h => ?_)
                  exact retE_I F hr hlk h hf dX9_count_115
                · have hf := im c_29 hf
                  by_cases c_33 : x1 = (8 : Int32)
                  · have hf := ip c_33 hf
                    refine lv_tableIn (off := 115) (tgt := 116) hx hb dX9_count_1 (by rw [c_33]; decide) (by rw [c_33]; decide) (by rw [c_33]; rfl) (by decide) ?_
                    refine lv_aload_n hx hb dX9_count_116 rfl (lv_at hl 0 rfl) ?_
                    refine gX_House_tape F h hinX9 (hts (.fieldLink RX9 19 "ElectionHouse" "tape" "LElectionHouse$Tape;") (by decide +kernel)) dX9_count_117 ?_
                    obtain ⟨r35, hc34, hf⟩ := ob1 hf
                    refine call_VI F (c_Tape_length l Z Q s hc34) (cwV 0 hts gX9_count_X8_length rfl rfl rfl (by decide +kernel) ⟨Nat.le_of_ble_eq_true rfl, Nat.le_of_ble_eq_true rfl⟩) h (rcX_Tape h) rfl hl.1 rfl (Nat.le_of_ble_eq_true rfl) ⟨Nat.zero_le _, Nat.zero_le _⟩ dX9_count_120 (fun H locs h => ?_)
                    exact retE_I F hr hlk h hf dX9_count_123
                  · have hf := im c_33 hf
                    have nc_1 := lv_neT c_1 (show ((0 : Int32)).toInt = 0 by decide)
                    have nc_5 := lv_neT c_5 (show ((1 : Int32)).toInt = 1 by decide)
                    have nc_9 := lv_neT c_9 (show ((2 : Int32)).toInt = 2 by decide)
                    have nc_13 := lv_neT c_13 (show ((3 : Int32)).toInt = 3 by decide)
                    have nc_17 := lv_neT c_17 (show ((4 : Int32)).toInt = 4 by decide)
                    have nc_21 := lv_neT c_21 (show ((5 : Int32)).toInt = 5 by decide)
                    have nc_25 := lv_neT c_25 (show ((6 : Int32)).toInt = 6 by decide)
                    have nc_29 := lv_neT c_29 (show ((7 : Int32)).toInt = 7 by decide)
                    have nc_33 := lv_neT c_33 (show ((8 : Int32)).toInt = 8 by decide)
                    refine lv_tableOut (tgt := 124) hx hb dX9_count_1 (by omega) (by decide) ?_
                    refine lv_iconst (v := (-1 : Int32)) hx hb dX9_count_124 (by decide) ?_
                    exact retE_I F hr hlk h hf dX9_count_125

