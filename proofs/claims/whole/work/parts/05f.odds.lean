set_option maxHeartbeats 8000000 in
set_option maxRecDepth 100000 in
theorem c_Odds_setsOf (l : Launch) (Z : ZT) (Q : Nat → Nat) (s : XS) (x1 : Int32) (x2 : Int32) {r : Int64} (hf : p_Odds_setsOf x1 x2 s = some r) : KL l Z (wX Z Q) yX2_setsOf wsX2_setsOf { frames := 0, cells := 0, slots := 0, locals := 0 } [.ref (Q 29), .int x1, .int x2] s r s := by
  intro sz
  refine met_entry (cc := cX2_setsOf) (maxL := 3) (ret := (some .long)) (by decide) rfl (Nat.le_of_ble_eq_true rfl) sz rfl ?_
  generalize va_A (wX Z Q s) sz = A
  intro p e s0 m args below meth c ls F hr hlk h hl
  have hl : lv_has ls 3 [(0, .ref (Q 29)), (1, .int x1), (2, .int x2)] := hl
  obtain ⟨hx, hb, hml, hown, hts⟩ := id F
  have hinX2 : ∀ w ∈ wsX20, w ∈ wsX2_setsOf := by decide +kernel
  obtain ⟨H, eH⟩ : ∃ z, z = s0.heap := ⟨_, rfl⟩
  obtain ⟨locs, eL⟩ : ∃ z : List Loc, z = [] := ⟨_, rfl⟩
  rw [← eH, ← eL] at h ⊢
  unfold p_Odds_setsOf at hf
  refine lv_iload_n hx hb dX2_setsOf_0 rfl (lv_at hl 1 rfl) ?_
  refine lv_if_lt (tgt := 33) hx hb dX2_setsOf_1 (by decide) (fun c_1 => ?_) (fun c_1 => ?_)
  · have hf := ip c_1 hf
    refine lv_lconst (v := (0 : Int64)) hx hb dX2_setsOf_33 (by decide) ?_
    exact retE_Lr F hr hlk h hf dX2_setsOf_34
  · have hf := im c_1 hf
    refine lv_iload_n hx hb dX2_setsOf_4 rfl (lv_at hl 1 rfl) ?_
    refine lv_bipush (v := (41 : Int32)) hx hb dX2_setsOf_5 (by decide) ?_
    refine lv_icmp_ge (tgt := 33) hx hb dX2_setsOf_7 (by decide) (fun c_2 => ?_) (fun c_2 => ?_)
    · have hf := ip c_2 hf
      refine lv_lconst (v := (0 : Int64)) hx hb dX2_setsOf_33 (by decide) ?_
      exact retE_Lr F hr hlk h hf dX2_setsOf_34
    · have hf := im c_2 hf
      refine lv_iload_n hx hb dX2_setsOf_10 rfl (lv_at hl 2 rfl) ?_
      refine lv_if_lt (tgt := 33) hx hb dX2_setsOf_11 (by decide) (fun c_3 => ?_) (fun c_3 => ?_)
      · have hf := ip c_3 hf
        refine lv_lconst (v := (0 : Int64)) hx hb dX2_setsOf_33 (by decide) ?_
        exact retE_Lr F hr hlk h hf dX2_setsOf_34
      · have hf := im c_3 hf
        refine lv_iload_n hx hb dX2_setsOf_14 rfl (lv_at hl 2 rfl) ?_
        refine lv_iload_n hx hb dX2_setsOf_15 rfl (lv_at hl 1 rfl) ?_
        refine lv_icmp_gt (tgt := 33) hx hb dX2_setsOf_16 (by decide) (fun c_4 => ?_) (fun c_4 => ?_)
        · have hf := ip c_4 hf
          refine lv_lconst (v := (0 : Int64)) hx hb dX2_setsOf_33 (by decide) ?_
          exact retE_Lr F hr hlk h hf dX2_setsOf_34
        · have hf := im c_4 hf
          refine lv_aload_n hx hb dX2_setsOf_19 rfl (lv_at hl 0 rfl) ?_
          refine gX_Odds_sets F h hinX2 (hts (.fieldLink RX2 9 "ElectionHouse$Odds" "sets" "[J") (by decide +kernel)) dX2_setsOf_20 ?_
          refine lv_iload_n hx hb dX2_setsOf_23 rfl (lv_at hl 1 rfl) ?_
          refine lv_bipush (v := (41 : Int32)) hx hb dX2_setsOf_24 (by decide) ?_
          refine lv_imul hx hb dX2_setsOf_26 ?_
          refine lv_iload_n hx hb dX2_setsOf_27 rfl (lv_at hl 2 rfl) ?_
          refine lv_iadd hx hb dX2_setsOf_28 ?_
          obtain ⟨gi5, hf⟩ := og hf
          refine lX_osets F h gi5 dX2_setsOf_29 ?_
          refine lv_goto (tgt := 34) hx hb dX2_setsOf_30 (by decide) ?_
          exact retE_Lr F hr hlk h hf dX2_setsOf_34

set_option maxHeartbeats 8000000 in
set_option maxRecDepth 100000 in
theorem c_Odds_setsOfStep (l : Launch) (Z : ZT) (Q : Nat → Nat) (s : XS) (k1 : Nat) (x2 : Int32) (x3 : Int32) (hk1 : k1 < 2) {r : Int64} (hf : p_Odds_setsOfStep k1 x2 x3 s = some r) : KL l Z (wX Z Q) yX2_setsOfStep wsX2_setsOfStep { frames := 2, cells := 0, slots := 0, locals := 42 } [.ref (Q 29), .ref (Q (19 + 5 * k1)), .int x2, .int x3] s r s := by
  intro sz
  refine met_entry (cc := cX2_setsOfStep) (maxL := 5) (ret := (some .long)) (by decide) rfl (Nat.le_of_ble_eq_true rfl) sz rfl ?_
  generalize va_A (wX Z Q s) sz = A
  intro p e s0 m args below meth c ls F hr hlk h hl
  have hl : lv_has ls 5 [(0, .ref (Q 29)), (1, .ref (Q (19 + 5 * k1))), (2, .int x2), (3, .int x3)] := hl
  obtain ⟨hx, hb, hml, hown, hts⟩ := id F
  obtain ⟨H, eH⟩ : ∃ z, z = s0.heap := ⟨_, rfl⟩
  obtain ⟨locs, eL⟩ : ∃ z : List Loc, z = [] := ⟨_, rfl⟩
  rw [← eH, ← eL] at h ⊢
  unfold p_Odds_setsOfStep at hf
  have lab23 : ∀ (k1 : Nat) (x2 : Int32) (x3 : Int32) (t0 : Int32) (H : Heap) (locs : List Loc) (ls : Array Slot), k1 < 2 → p_Odds_setsOfStep_K23 k1 x2 x3 t0 s = some r → HW Z (wX Z Q) A s0 H locs s → lv_has ls 5 [(0, .ref (Q 29)), (1, .ref (Q (19 + 5 * k1))), (2, .int x2), (3, .int x3)] → W p l e { frames := 2, cells := 0, slots := 0, locals := 42 } s0 m args below meth c H locs 0 0 (MQ below (QcL Z (wX Z Q) A r s) args s0 0 0 A) (F0 m 23 ls [.int t0]) := by
    intro k1 x2 x3 t0 H locs ls hk1 hf h hl
    unfold p_Odds_setsOfStep_K23 at hf
    refine lv_istore (lv' := [(4, .int t0), (0, .ref (Q 29)), (1, .ref (Q (19 + 5 * k1))), (2, .int x2), (3, .int x3)]) hx hb dX2_setsOfStep_23 hl (by decide) rfl (fun ls hl => ?_)
    have hl := lv_sub (l' := [(0, .ref (Q 29)), (1, .ref (Q (19 + 5 * k1))), (2, .int x2), (3, .int x3), (4, .int t0)]) hl [1, 2, 3, 4, 0] rfl
    refine lv_iload hx hb dX2_setsOfStep_25 (lv_at hl 4 rfl) ?_
    refine lv_if_eq (tgt := 43) hx hb dX2_setsOfStep_27 (by decide) (fun c_1 => ?_) (fun c_1 => ?_)
    · have hf := ip c_1 hf
      refine lv_lconst (v := (1 : Int64)) hx hb dX2_setsOfStep_43 (by decide) ?_
      exact retE_Lr F hr hlk h hf dX2_setsOfStep_44
    · have hf := im c_1 hf
      refine lv_aload_n hx hb dX2_setsOfStep_30 rfl (lv_at hl 0 rfl) ?_
      refine lv_iload_n hx hb dX2_setsOfStep_31 rfl (lv_at hl 3 rfl) ?_
      refine lv_aload_n hx hb dX2_setsOfStep_32 rfl (lv_at hl 1 rfl) ?_
      refine lv_iload_n hx hb dX2_setsOfStep_33 rfl (lv_at hl 2 rfl) ?_
      obtain ⟨r3, hc2, hf⟩ := ob1 hf
      refine call_VI F (c_Plan_sizeOf l Z Q s k1 x2 hk1 hc2) (cwV 1 hts gX2_setsOfStep_X3_sizeOf rfl rfl rfl (by decide +kernel) ⟨Nat.le_of_ble_eq_true rfl, Nat.le_of_ble_eq_true rfl⟩) h (rcX_Plan hk1 h) rfl hl.1 rfl (Nat.le_of_ble_eq_true rfl) ⟨Nat.zero_le _, Nat.zero_le _⟩ dX2_setsOfStep_34 (fun H locs h => ?_)
      obtain ⟨r6, hc5, hf⟩ := ob1 hf
      refine call_VL F (c_Odds_setsOf l Z Q s x3 r3 hc5) (cwV 2 hts gX2_setsOfStep_X2_setsOf rfl rfl rfl (by decide +kernel) ⟨Nat.le_of_ble_eq_true rfl, Nat.le_of_ble_eq_true rfl⟩) h (rcX_Odds h) rfl hl.1 rfl (Nat.le_of_ble_eq_true rfl) ⟨Nat.zero_le _, Nat.zero_le _⟩ dX2_setsOfStep_37 (fun H locs h => ?_)
      refine lv_goto (tgt := 44) hx hb dX2_setsOfStep_40 (by decide) ?_
      exact retE_Lr F hr hlk h hf dX2_setsOfStep_44
  refine lv_aload_n hx hb dX2_setsOfStep_0 rfl (lv_at hl 1 rfl) ?_
  refine lv_iload_n hx hb dX2_setsOfStep_1 rfl (lv_at hl 2 rfl) ?_
  obtain ⟨r9, hc8, hf⟩ := ob1 hf
  refine call_VI F (c_Plan_kindOf l Z Q s k1 x2 hk1 hc8) (cwV 1 hts gX2_setsOfStep_X3_kindOf rfl rfl rfl (by decide +kernel) ⟨Nat.le_of_ble_eq_true rfl, Nat.le_of_ble_eq_true rfl⟩) h (rcX_Plan hk1 h) rfl hl.1 rfl (Nat.le_of_ble_eq_true rfl) ⟨Nat.zero_le _, Nat.zero_le _⟩ dX2_setsOfStep_2 (fun H locs h => ?_)
  refine lv_iconst (v := (1 : Int32)) hx hb dX2_setsOfStep_5 (by decide) ?_
  refine lv_icmp_ne (tgt := 22) hx hb dX2_setsOfStep_6 (by decide) (fun c_11 => ?_) (fun c_11 => ?_)
  · have hf := im c_11 hf
    refine lv_iconst (v := (0 : Int32)) hx hb dX2_setsOfStep_22 (by decide) ?_
    exact lab23 k1 x2 x3 (0 : Int32) H locs ls hk1 hf h (lv_sub hl [0, 1, 2, 3] rfl)
  · have hf := ip c_11 hf
    refine lv_aload_n hx hb dX2_setsOfStep_9 rfl (lv_at hl 1 rfl) ?_
    refine lv_iload_n hx hb dX2_setsOfStep_10 rfl (lv_at hl 2 rfl) ?_
    obtain ⟨r13, hc12, hf⟩ := ob1 hf
    refine call_VI F (c_Plan_sizeOf l Z Q s k1 x2 hk1 hc12) (cwV 1 hts gX2_setsOfStep_X3_sizeOf rfl rfl rfl (by decide +kernel) ⟨Nat.le_of_ble_eq_true rfl, Nat.le_of_ble_eq_true rfl⟩) h (rcX_Plan hk1 h) rfl hl.1 rfl (Nat.le_of_ble_eq_true rfl) ⟨Nat.zero_le _, Nat.zero_le _⟩ dX2_setsOfStep_11 (fun H locs h => ?_)
    refine lv_iload_n hx hb dX2_setsOfStep_14 rfl (lv_at hl 3 rfl) ?_
    refine lv_icmp_gt (tgt := 22) hx hb dX2_setsOfStep_15 (by decide) (fun c_15 => ?_) (fun c_15 => ?_)
    · have hf := ip c_15 hf
      refine lv_iconst (v := (0 : Int32)) hx hb dX2_setsOfStep_22 (by decide) ?_
      exact lab23 k1 x2 x3 (0 : Int32) H locs ls hk1 hf h (lv_sub hl [0, 1, 2, 3] rfl)
    · have hf := im c_15 hf
      refine lv_iconst (v := (1 : Int32)) hx hb dX2_setsOfStep_18 (by decide) ?_
      refine lv_goto (tgt := 23) hx hb dX2_setsOfStep_19 (by decide) ?_
      exact lab23 k1 x2 x3 (1 : Int32) H locs ls hk1 hf h (lv_sub hl [0, 1, 2, 3] rfl)

set_option maxHeartbeats 8000000 in
set_option maxRecDepth 100000 in
theorem c_Odds_countAllWays (l : Launch) (Z : ZT) (Q : Nat → Nat) (s : XS) (k1 : Nat) (x2 : Int32) (hk1 : k1 < 2) {r : Int32} {s' : XS} (hf : p_Odds_countAllWays k1 x2 s = some (r, s')) : KI l Z (wX Z Q) yX2_countAllWays wsX2_countAllWays { frames := 4, cells := 0, slots := 0, locals := 84 } [.ref (Q 29), .ref (Q (19 + 5 * k1)), .int x2] s r s' := by
  intro sz
  refine met_entry (cc := cX2_countAllWays) (maxL := 9) (ret := (some .boolean)) (by decide) rfl (Nat.le_of_ble_eq_true rfl) sz rfl ?_
  generalize va_A (wX Z Q s) sz = A
  intro p e s0 m args below meth c ls F hr hlk h hl
  have hl : lv_has ls 9 [(0, .ref (Q 29)), (1, .ref (Q (19 + 5 * k1))), (2, .int x2)] := hl
  obtain ⟨hx, hb, hml, hown, hts⟩ := id F
  have hinX2 : ∀ w ∈ wsX20, w ∈ wsX2_countAllWays := by decide +kernel
  obtain ⟨H, eH⟩ : ∃ z, z = s0.heap := ⟨_, rfl⟩
  obtain ⟨locs, eL⟩ : ∃ z : List Loc, z = [] := ⟨_, rfl⟩
  rw [← eH, ← eL] at h ⊢
  unfold p_Odds_countAllWays at hf
  have lab14 : ∀ (k1 : Nat) (x2 : Int32) (s : XS) (n : Nat) (x3 : Int64) (x5 : Int32) (x6 : Int32) (H : Heap) (locs : List Loc) (ls : Array Slot), k1 < 2 → lo3 (p_Odds_countAllWays_B14 k1 x2 s) n x3 x5 x6 = some (r, s') → HW Z (wX Z Q) A s0 H locs s → lv_has ls 9 [(0, .ref (Q 29)), (1, .ref (Q (19 + 5 * k1))), (2, .int x2), (3, .long x3), (5, .int x5), (6, .int x6)] → W p l e { frames := 4, cells := 0, slots := 0, locals := 84 } s0 m args below meth c H locs 0 0 (MQ below (QcI Z (wX Z Q) A r s') args s0 0 0 A) (F0 m 14 ls []) := by
    intro k1 x2 s n
    induction n with
    | zero => intro x3 x5 x6 H locs ls hk1 hf; exact absurd hf lo3_z
    | succ n ih14 =>
      intro x3 x5 x6 H locs ls hk1 hf h hl
      have hf := lo3_s hf
      generalize lo3 (p_Odds_countAllWays_B14 k1 x2 s) n = c14 at hf ih14
      unfold p_Odds_countAllWays_B14 at hf
      have lab96 : ∀ (k1 : Nat) (x2 : Int32) (n : Nat) (x6 : Int64) (x8 : Int32) (s : XS) (H : Heap) (locs : List Loc) (ls : Array Slot), k1 < 2 → lo3 (p_Odds_countAllWays_B96 k1 x2) n x6 x8 s = some (r, s') → HW Z (wX Z Q) A s0 H locs s → lv_has ls 9 [(0, .ref (Q 29)), (1, .ref (Q (19 + 5 * k1))), (2, .int x2), (6, .long x6), (8, .int x8)] → W p l e { frames := 4, cells := 0, slots := 0, locals := 84 } s0 m args below meth c H locs 0 0 (MQ below (QcI Z (wX Z Q) A r s') args s0 0 0 A) (F0 m 96 ls []) := by
        intro k1 x2 n
        induction n with
        | zero => intro x6 x8 s H locs ls hk1 hf; exact absurd hf lo3_z
        | succ n ih96 =>
          intro x6 x8 s H locs ls hk1 hf h hl
          have hf := lo3_s hf
          generalize lo3 (p_Odds_countAllWays_B96 k1 x2) n = c96 at hf ih96
          unfold p_Odds_countAllWays_B96 at hf
          have lab146 : ∀ (x8 : Int32) (t0 : Int32) (t1 : Int32) (kt2 : Nat) (t4 : Int64) (s : XS) (H : Heap) (locs : List Loc) (ls : Array Slot), kt2 < 2 → p_Odds_countAllWays_K146 c96 k1 x2 x8 t0 t1 kt2 t4 s = some (r, s') → HW Z (wX Z Q) A s0 H locs s → lv_has ls 9 [(0, .ref (Q 29)), (1, .ref (Q (19 + 5 * k1))), (2, .int x2), (8, .int x8)] → W p l e { frames := 4, cells := 0, slots := 0, locals := 84 } s0 m args below meth c H locs 0 0 (MQ below (QcI Z (wX Z Q) A r s') args s0 0 0 A) (F0 m 146 ls [.int t0, .int t1, .ref (Q (19 + 5 * kt2)), .ref (Q 29), .long t4]) := by
            intro x8 t0 t1 kt2 t4 s H locs ls hkt2 hf h hl
            unfold p_Odds_countAllWays_K146 at hf
            obtain ⟨r2, hc1, hf⟩ := ob1 hf
            refine call_VL F (c_Odds_setsOfStep l Z Q s kt2 t1 t0 hkt2 hc1) (cwV 3 hts gX2_countAllWays_X2_setsOfStep rfl rfl rfl (by decide +kernel) ⟨Nat.le_of_ble_eq_true rfl, Nat.le_of_ble_eq_true rfl⟩) h (rcX_Odds h) rfl hl.1 rfl (Nat.le_of_ble_eq_true rfl) ⟨Nat.zero_le _, Nat.zero_le _⟩ dX2_countAllWays_146 (fun H locs h => ?_)
            refine lv_lmul hx hb dX2_countAllWays_149 ?_
            refine lv_lstore (lv' := [(6, .long (t4 * r2)), (0, .ref (Q 29)), (1, .ref (Q (19 + 5 * k1))), (2, .int x2), (8, .int x8)]) hx hb dX2_countAllWays_150 hl (by decide) rfl (fun ls hl => ?_)
            have hl := lv_sub (l' := [(0, .ref (Q 29)), (1, .ref (Q (19 + 5 * k1))), (2, .int x2), (6, .long (t4 * r2)), (8, .int x8)]) hl [1, 2, 3, 0, 4] rfl
            refine lv_iinc (v := (x8 + (-1 : Int32))) (lv' := [(8, .int (x8 + (-1 : Int32))), (0, .ref (Q 29)), (1, .ref (Q (19 + 5 * k1))), (2, .int x2), (6, .long (t4 * r2))]) hx hb dX2_countAllWays_152 hl (k := 4) rfl (congrArg (fun z => x8 + z) (by decide : Int32.ofInt (-1) = (-1 : Int32))) (by decide) rfl (fun ls hl => ?_)
            have hl := lv_sub (l' := [(0, .ref (Q 29)), (1, .ref (Q (19 + 5 * k1))), (2, .int x2), (6, .long (t4 * r2)), (8, .int (x8 + (-1 : Int32)))]) hl [1, 2, 3, 4, 0] rfl
            refine lv_goto (tgt := 96) hx hb dX2_countAllWays_155 (by decide) ?_
            exact ih96 (t4 * r2) (x8 + (-1 : Int32)) s H locs ls hk1 hf h (lv_sub hl [0, 1, 2, 3, 4] rfl)
          refine lv_iload hx hb dX2_countAllWays_96 (lv_at hl 4 rfl) ?_
          refine lv_iload_n hx hb dX2_countAllWays_98 rfl (lv_at hl 2 rfl) ?_
          refine lv_icmp_lt (tgt := 158) hx hb dX2_countAllWays_99 (by decide) (fun c_4 => ?_) (fun c_4 => ?_)
          · have hf := ip c_4 hf
            refine lv_iconst (v := (1 : Int32)) hx hb dX2_countAllWays_158 (by decide) ?_
            exact retE_Z F hr hlk (by decide) h hf dX2_countAllWays_159
          · have hf := im c_4 hf
            refine lv_iload hx hb dX2_countAllWays_102 (lv_at hl 4 rfl) ?_
            refine lv_if_lt (tgt := 158) hx hb dX2_countAllWays_104 (by decide) (fun c_5 => ?_) (fun c_5 => ?_)
            · have hf := ip c_5 hf
              refine lv_iconst (v := (1 : Int32)) hx hb dX2_countAllWays_158 (by decide) ?_
              exact retE_Z F hr hlk (by decide) h hf dX2_countAllWays_159
            · have hf := im c_5 hf
              refine lv_aload_n hx hb dX2_countAllWays_107 rfl (lv_at hl 0 rfl) ?_
              refine gX_Odds_later F h hinX2 (hts (.fieldLink RX2 15 "ElectionHouse$Odds" "later" "[J") (by decide +kernel)) dX2_countAllWays_108 ?_
              refine lv_iload hx hb dX2_countAllWays_111 (lv_at hl 4 rfl) ?_
              refine lv_lload hx hb dX2_countAllWays_113 (lv_at hl 3 rfl) ?_
              obtain ⟨gi6, hf⟩ := og hf
              refine sX_later F h gi6 dX2_countAllWays_115 (fun H locs h => ?_)
              obtain ⟨s7, es, hf⟩ := olq hf
              rw [← es] at h
              refine lv_lload hx hb dX2_countAllWays_116 (lv_at hl 3 rfl) ?_
              refine lv_aload_n hx hb dX2_countAllWays_118 rfl (lv_at hl 0 rfl) ?_
              refine lv_aload_n hx hb dX2_countAllWays_119 rfl (lv_at hl 1 rfl) ?_
              refine lv_iload hx hb dX2_countAllWays_120 (lv_at hl 4 rfl) ?_
              refine lv_iload hx hb dX2_countAllWays_122 (lv_at hl 4 rfl) ?_
              refine lv_iload_n hx hb dX2_countAllWays_124 rfl (lv_at hl 2 rfl) ?_
              refine lv_icmp_le (tgt := 139) hx hb dX2_countAllWays_125 (by decide) (fun c_8 => ?_) (fun c_8 => ?_)
              · have hf := ip c_8 hf
                refine lv_aload_n hx hb dX2_countAllWays_139 rfl (lv_at hl 0 rfl) ?_
                refine gX_Odds_session F h hinX2 (hts (.fieldLink RX2 58 "ElectionHouse$Odds" "session" "LElectionHouse$Session;") (by decide +kernel)) dX2_countAllWays_140 ?_
                obtain ⟨r10, s11, hc9, hf⟩ := ob2 hf
                refine call_VI F (c_Sess_bodySize l Z Q s7 hc9) (cwV 0 hts gX2_countAllWays_X6_bodySize rfl rfl rfl (by decide +kernel) ⟨Nat.le_of_ble_eq_true rfl, Nat.le_of_ble_eq_true rfl⟩) h (rcX_Sess h) rfl hl.1 rfl (Nat.le_of_ble_eq_true rfl) ⟨Nat.zero_le _, Nat.zero_le _⟩ dX2_countAllWays_143 (fun H locs h => ?_)
                exact lab146 x8 r10 x8 k1 x6 s11 H locs ls hk1 hf h (lv_sub hl [0, 1, 2, 4] rfl)
              · have hf := im c_8 hf
                refine lv_aload_n hx hb dX2_countAllWays_128 rfl (lv_at hl 1 rfl) ?_
                refine lv_iload hx hb dX2_countAllWays_129 (lv_at hl 4 rfl) ?_
                refine lv_iconst (v := (1 : Int32)) hx hb dX2_countAllWays_131 (by decide) ?_
                refine lv_isub hx hb dX2_countAllWays_132 ?_
                obtain ⟨r13, hc12, hf⟩ := ob1 hf
                refine call_VI F (c_Plan_sizeOf l Z Q s7 k1 (x8 - (1 : Int32)) hk1 hc12) (cwV 1 hts gX2_countAllWays_X3_sizeOf rfl rfl rfl (by decide +kernel) ⟨Nat.le_of_ble_eq_true rfl, Nat.le_of_ble_eq_true rfl⟩) h (rcX_Plan hk1 h) rfl hl.1 rfl (Nat.le_of_ble_eq_true rfl) ⟨Nat.zero_le _, Nat.zero_le _⟩ dX2_countAllWays_133 (fun H locs h => ?_)
                refine lv_goto (tgt := 146) hx hb dX2_countAllWays_136 (by decide) ?_
                exact lab146 x8 r13 x8 k1 x6 s7 H locs ls hk1 hf h (lv_sub hl [0, 1, 2, 4] rfl)
      refine lv_iload hx hb dX2_countAllWays_14 (lv_at hl 5 rfl) ?_
      refine lv_aload_n hx hb dX2_countAllWays_16 rfl (lv_at hl 1 rfl) ?_
      obtain ⟨r16, hc15, hf⟩ := ob1 hf
      refine call_VI F (c_Plan_length l Z Q s k1 hk1 hc15) (cwV 0 hts gX2_countAllWays_X3_length rfl rfl rfl (by decide +kernel) ⟨Nat.le_of_ble_eq_true rfl, Nat.le_of_ble_eq_true rfl⟩) h (rcX_Plan hk1 h) rfl hl.1 rfl (Nat.le_of_ble_eq_true rfl) ⟨Nat.zero_le _, Nat.zero_le _⟩ dX2_countAllWays_17 (fun H locs h => ?_)
      refine lv_icmp_ge (tgt := 72) hx hb dX2_countAllWays_20 (by decide) (fun c_18 => ?_) (fun c_18 => ?_)
      · have hf := ip c_18 hf
        refine lv_aload_n hx hb dX2_countAllWays_72 rfl (lv_at hl 0 rfl) ?_
        refine gX_Odds_scratch F h hinX2 (hts (.fieldLink RX2 41 "ElectionHouse$Odds" "scratch" "[J") (by decide +kernel)) dX2_countAllWays_73 ?_
        have hb19 : (gG s 29 12) < 2 := h.2.2.2.2.2.1 _ _
        refine lv_bipush (v := (41 : Int32)) hx hb dX2_countAllWays_76 (by decide) ?_
        refine lv_lload_n hx hb dX2_countAllWays_78 rfl (lv_at hl 3 rfl) ?_
        obtain ⟨gi20, hf⟩ := og hf
        refine sX_rs hb19 F h gi20 dX2_countAllWays_79 (fun H locs h => ?_)
        obtain ⟨s21, es, hf⟩ := olq hf
        rw [← es] at h
        refine lv_lconst (v := (1 : Int64)) hx hb dX2_countAllWays_80 (by decide) ?_
        refine lv_lstore (lv' := [(6, .long (1 : Int64)), (0, .ref (Q 29)), (1, .ref (Q (19 + 5 * k1))), (2, .int x2), (3, .long x3), (5, .int x5)]) hx hb dX2_countAllWays_81 hl (by decide) rfl (fun ls hl => ?_)
        have hl := lv_sub (l' := [(0, .ref (Q 29)), (1, .ref (Q (19 + 5 * k1))), (2, .int x2), (3, .long x3), (5, .int x5), (6, .long (1 : Int64))]) hl [1, 2, 3, 4, 5, 0] rfl
        refine lv_aload_n hx hb dX2_countAllWays_83 rfl (lv_at hl 1 rfl) ?_
        obtain ⟨r23, hc22, hf⟩ := ob1 hf
        refine call_VI F (c_Plan_length l Z Q s21 k1 hk1 hc22) (cwV 0 hts gX2_countAllWays_X3_length rfl rfl rfl (by decide +kernel) ⟨Nat.le_of_ble_eq_true rfl, Nat.le_of_ble_eq_true rfl⟩) h (rcX_Plan hk1 h) rfl hl.1 rfl (Nat.le_of_ble_eq_true rfl) ⟨Nat.zero_le _, Nat.zero_le _⟩ dX2_countAllWays_84 (fun H locs h => ?_)
        refine lv_bipush (v := (12 : Int32)) hx hb dX2_countAllWays_87 (by decide) ?_
        refine va_mmin hx hb (by rw [hml]; exact hl.1.symm) hown (hts (.methodLink RX2 116 Lib.Math.min.name) (by decide +kernel)) (hts (.static Lib.Math.min.name) (by decide +kernel)) (hts (.initialized "java/lang/Math") (by decide +kernel)) (hts (.code Lib.Math.min.name Lib.Math.min.code 2 (some .int)) (by decide +kernel)) (Nat.le_of_ble_eq_true rfl) (Nat.le_of_ble_eq_true rfl) (Nat.zero_le _) (Nat.zero_le _) dX2_countAllWays_89 ?_
        refine lv_iconst (v := (1 : Int32)) hx hb dX2_countAllWays_92 (by decide) ?_
        refine lv_isub hx hb dX2_countAllWays_93 ?_
        refine lv_istore (lv' := [(8, .int ((if (12 : Int32) < r23 then (12 : Int32) else r23) - (1 : Int32))), (0, .ref (Q 29)), (1, .ref (Q (19 + 5 * k1))), (2, .int x2), (3, .long x3), (5, .int x5), (6, .long (1 : Int64))]) hx hb dX2_countAllWays_94 hl (by decide) rfl (fun ls hl => ?_)
        have hl := lv_sub (l' := [(0, .ref (Q 29)), (1, .ref (Q (19 + 5 * k1))), (2, .int x2), (3, .long x3), (5, .int x5), (6, .long (1 : Int64)), (8, .int ((if (12 : Int32) < r23 then (12 : Int32) else r23) - (1 : Int32)))]) hl [1, 2, 3, 4, 5, 6, 0] rfl
        exact lab96 k1 x2 fuelN (1 : Int64) ((if (12 : Int32) < r23 then (12 : Int32) else r23) - (1 : Int32)) s21 H locs ls hk1 hf h (lv_sub hl [0, 1, 2, 5, 6] rfl)
      · have hf := im c_18 hf
        refine lv_aload_n hx hb dX2_countAllWays_23 rfl (lv_at hl 0 rfl) ?_
        refine lv_aload_n hx hb dX2_countAllWays_24 rfl (lv_at hl 1 rfl) ?_
        refine lv_iload hx hb dX2_countAllWays_25 (lv_at hl 5 rfl) ?_
        refine lv_iload hx hb dX2_countAllWays_27 (lv_at hl 4 rfl) ?_
        obtain ⟨r26, hc25, hf⟩ := ob1 hf
        refine call_VL F (c_Odds_setsOfStep l Z Q s k1 x6 x5 hk1 hc25) (cwV 3 hts gX2_countAllWays_X2_setsOfStep rfl rfl rfl (by decide +kernel) ⟨Nat.le_of_ble_eq_true rfl, Nat.le_of_ble_eq_true rfl⟩) h (rcX_Odds h) rfl hl.1 rfl (Nat.le_of_ble_eq_true rfl) ⟨Nat.zero_le _, Nat.zero_le _⟩ dX2_countAllWays_29 (fun H locs h => ?_)
        refine lv_lstore (lv' := [(7, .long r26), (0, .ref (Q 29)), (1, .ref (Q (19 + 5 * k1))), (2, .int x2), (3, .long x3), (5, .int x5), (6, .int x6)]) hx hb dX2_countAllWays_32 hl (by decide) rfl (fun ls hl => ?_)
        have hl := lv_sub (l' := [(0, .ref (Q 29)), (1, .ref (Q (19 + 5 * k1))), (2, .int x2), (3, .long x3), (5, .int x5), (6, .int x6), (7, .long r26)]) hl [1, 2, 3, 4, 5, 6, 0] rfl
        refine lv_lload_n hx hb dX2_countAllWays_34 rfl (lv_at hl 3 rfl) ?_
        refine lv_lconst (v := (1 : Int64)) hx hb dX2_countAllWays_35 (by decide) ?_
        refine W.lcmp hx hb dX2_countAllWays_36 ?_
        refine lv_if_lt (tgt := 51) hx hb dX2_countAllWays_37 (by decide) (fun c_28 => ?_) (fun c_28 => ?_)
        · have hf := ip c_28 hf
          refine lv_iconst (v := (0 : Int32)) hx hb dX2_countAllWays_51 (by decide) ?_
          exact retE_Z F hr hlk (by decide) h hf dX2_countAllWays_52
        · have hf := im c_28 hf
          refine lv_lload hx hb dX2_countAllWays_40 (lv_at hl 6 rfl) ?_
          refine lv_ldc2 (v := (1000000000000000 : Int64)) hx hb hown (hts (.constantLong RX2 114 (1000000000000000 : Int64)) (by decide +kernel)) dX2_countAllWays_42 ?_
          refine lv_lload_n hx hb dX2_countAllWays_45 rfl (lv_at hl 3 rfl) ?_
          obtain ⟨gd29, hf⟩ := og0l hf
          refine lv_ldiv hx hb dX2_countAllWays_46 gd29 ?_
          refine W.lcmp hx hb dX2_countAllWays_47 ?_
          refine lv_if_le (tgt := 53) hx hb dX2_countAllWays_48 (by decide) (fun c_30 => ?_) (fun c_30 => ?_)
          · have hf := ip c_30 hf
            refine lv_lload_n hx hb dX2_countAllWays_53 rfl (lv_at hl 3 rfl) ?_
            refine lv_lload hx hb dX2_countAllWays_54 (lv_at hl 6 rfl) ?_
            refine lv_lmul hx hb dX2_countAllWays_56 ?_
            refine lv_lstore_n (lv' := [(3, .long (x3 * r26)), (0, .ref (Q 29)), (1, .ref (Q (19 + 5 * k1))), (2, .int x2), (5, .int x5), (6, .int x6), (7, .long r26)]) hx hb dX2_countAllWays_57 rfl hl (by decide) rfl (fun ls hl => ?_)
            have hl := lv_sub (l' := [(0, .ref (Q 29)), (1, .ref (Q (19 + 5 * k1))), (2, .int x2), (3, .long (x3 * r26)), (5, .int x5), (6, .int x6), (7, .long r26)]) hl [1, 2, 3, 0, 4, 5, 6] rfl
            refine lv_aload_n hx hb dX2_countAllWays_58 rfl (lv_at hl 1 rfl) ?_
            refine lv_iload hx hb dX2_countAllWays_59 (lv_at hl 5 rfl) ?_
            obtain ⟨r32, hc31, hf⟩ := ob1 hf
            refine call_VI F (c_Plan_sizeOf l Z Q s k1 x6 hk1 hc31) (cwV 1 hts gX2_countAllWays_X3_sizeOf rfl rfl rfl (by decide +kernel) ⟨Nat.le_of_ble_eq_true rfl, Nat.le_of_ble_eq_true rfl⟩) h (rcX_Plan hk1 h) rfl hl.1 rfl (Nat.le_of_ble_eq_true rfl) ⟨Nat.zero_le _, Nat.zero_le _⟩ dX2_countAllWays_61 (fun H locs h => ?_)
            refine lv_istore (lv' := [(5, .int r32), (0, .ref (Q 29)), (1, .ref (Q (19 + 5 * k1))), (2, .int x2), (3, .long (x3 * r26)), (6, .int x6), (7, .long r26)]) hx hb dX2_countAllWays_64 hl (by decide) rfl (fun ls hl => ?_)
            have hl := lv_sub (l' := [(0, .ref (Q 29)), (1, .ref (Q (19 + 5 * k1))), (2, .int x2), (3, .long (x3 * r26)), (5, .int r32), (6, .int x6), (7, .long r26)]) hl [1, 2, 3, 4, 0, 5, 6] rfl
            refine lv_iinc (v := (x6 + (1 : Int32))) (lv' := [(6, .int (x6 + (1 : Int32))), (0, .ref (Q 29)), (1, .ref (Q (19 + 5 * k1))), (2, .int x2), (3, .long (x3 * r26)), (5, .int r32), (7, .long r26)]) hx hb dX2_countAllWays_66 hl (k := 5) rfl (congrArg (fun z => x6 + z) (by decide : Int32.ofInt (1) = (1 : Int32))) (by decide) rfl (fun ls hl => ?_)
            have hl := lv_sub (l' := [(0, .ref (Q 29)), (1, .ref (Q (19 + 5 * k1))), (2, .int x2), (3, .long (x3 * r26)), (5, .int r32), (6, .int (x6 + (1 : Int32))), (7, .long r26)]) hl [1, 2, 3, 4, 5, 0, 6] rfl
            refine lv_goto (tgt := 14) hx hb dX2_countAllWays_69 (by decide) ?_
            exact ih14 (x3 * r26) r32 (x6 + (1 : Int32)) H locs ls hk1 hf h (lv_sub hl [0, 1, 2, 3, 4, 5] rfl)
          · have hf := im c_30 hf
            refine lv_iconst (v := (0 : Int32)) hx hb dX2_countAllWays_51 (by decide) ?_
            exact retE_Z F hr hlk (by decide) h hf dX2_countAllWays_52
  refine lv_lconst (v := (1 : Int64)) hx hb dX2_countAllWays_0 (by decide) ?_
  refine lv_lstore_n (lv' := [(3, .long (1 : Int64)), (0, .ref (Q 29)), (1, .ref (Q (19 + 5 * k1))), (2, .int x2)]) hx hb dX2_countAllWays_1 rfl hl (by decide) rfl (fun ls hl => ?_)
  have hl := lv_sub (l' := [(0, .ref (Q 29)), (1, .ref (Q (19 + 5 * k1))), (2, .int x2), (3, .long (1 : Int64))]) hl [1, 2, 3, 0] rfl
  refine lv_aload_n hx hb dX2_countAllWays_2 rfl (lv_at hl 0 rfl) ?_
  refine gX_Odds_session F h hinX2 (hts (.fieldLink RX2 58 "ElectionHouse$Odds" "session" "LElectionHouse$Session;") (by decide +kernel)) dX2_countAllWays_3 ?_
  obtain ⟨r35, s36, hc34, hf⟩ := ob2 hf
  refine call_VI F (c_Sess_bodySize l Z Q s hc34) (cwV 0 hts gX2_countAllWays_X6_bodySize rfl rfl rfl (by decide +kernel) ⟨Nat.le_of_ble_eq_true rfl, Nat.le_of_ble_eq_true rfl⟩) h (rcX_Sess h) rfl hl.1 rfl (Nat.le_of_ble_eq_true rfl) ⟨Nat.zero_le _, Nat.zero_le _⟩ dX2_countAllWays_6 (fun H locs h => ?_)
  refine lv_istore (lv' := [(5, .int r35), (0, .ref (Q 29)), (1, .ref (Q (19 + 5 * k1))), (2, .int x2), (3, .long (1 : Int64))]) hx hb dX2_countAllWays_9 hl (by decide) rfl (fun ls hl => ?_)
  have hl := lv_sub (l' := [(0, .ref (Q 29)), (1, .ref (Q (19 + 5 * k1))), (2, .int x2), (3, .long (1 : Int64)), (5, .int r35)]) hl [1, 2, 3, 4, 0] rfl
  refine lv_iload_n hx hb dX2_countAllWays_11 rfl (lv_at hl 2 rfl) ?_
  refine lv_istore (lv' := [(6, .int x2), (0, .ref (Q 29)), (1, .ref (Q (19 + 5 * k1))), (2, .int x2), (3, .long (1 : Int64)), (5, .int r35)]) hx hb dX2_countAllWays_12 hl (by decide) rfl (fun ls hl => ?_)
  have hl := lv_sub (l' := [(0, .ref (Q 29)), (1, .ref (Q (19 + 5 * k1))), (2, .int x2), (3, .long (1 : Int64)), (5, .int r35), (6, .int x2)]) hl [1, 2, 3, 4, 5, 0] rfl
  exact lab14 k1 x2 s36 fuelN (1 : Int64) r35 x2 H locs ls hk1 hf h (lv_sub hl [0, 1, 2, 3, 4, 5] rfl)

set_option maxHeartbeats 8000000 in
set_option maxRecDepth 100000 in
theorem c_Odds_lookAtCity (l : Launch) (Z : ZT) (Q : Nat → Nat) (s : XS) {s' : XS} (hf : p_Odds_lookAtCity s = some s') : KV l Z (wX Z Q) yX2_lookAtCity wsX2_lookAtCity { frames := 2, cells := 0, slots := 0, locals := 42 } [.ref (Q 29)] s s' := by
  intro sz
  refine met_entry (cc := cX2_lookAtCity) (maxL := 2) (ret := none) (by decide) rfl (Nat.le_of_ble_eq_true rfl) sz rfl ?_
  generalize va_A (wX Z Q s) sz = A
  intro p e s0 m args below meth c ls F hr hlk h hl
  have hl : lv_has ls 2 [(0, .ref (Q 29))] := hl
  obtain ⟨hx, hb, hml, hown, hts⟩ := id F
  have hinX2 : ∀ w ∈ wsX20, w ∈ wsX2_lookAtCity := by decide +kernel
  obtain ⟨H, eH⟩ : ∃ z, z = s0.heap := ⟨_, rfl⟩
  obtain ⟨locs, eL⟩ : ∃ z : List Loc, z = [] := ⟨_, rfl⟩
  rw [← eH, ← eL] at h ⊢
  unfold p_Odds_lookAtCity at hf
  have lab2 : ∀ (n : Nat) (x1 : Int32) (s : XS) (H : Heap) (locs : List Loc) (ls : Array Slot), lo2 (p_Odds_lookAtCity_B2) n x1 s = some s' → HW Z (wX Z Q) A s0 H locs s → lv_has ls 2 [(0, .ref (Q 29)), (1, .int x1)] → W p l e { frames := 2, cells := 0, slots := 0, locals := 42 } s0 m args below meth c H locs 0 0 (MQ below (QcV Z (wX Z Q) A s') args s0 0 0 A) (F0 m 2 ls []) := by
    intro n
    induction n with
    | zero => intro x1 s H locs ls hf; exact absurd hf lo2_z
    | succ n ih2 =>
      intro x1 s H locs ls hf h hl
      have hf := lo2_s hf
      generalize lo2 (p_Odds_lookAtCity_B2) n = c2 at hf ih2
      unfold p_Odds_lookAtCity_B2 at hf
      have lab48 : ∀ (n : Nat) (x1 : Int32) (s : XS) (H : Heap) (locs : List Loc) (ls : Array Slot), lo2 (p_Odds_lookAtCity_B48) n x1 s = some s' → HW Z (wX Z Q) A s0 H locs s → lv_has ls 2 [(0, .ref (Q 29)), (1, .int x1)] → W p l e { frames := 2, cells := 0, slots := 0, locals := 42 } s0 m args below meth c H locs 0 0 (MQ below (QcV Z (wX Z Q) A s') args s0 0 0 A) (F0 m 48 ls []) := by
        intro n
        induction n with
        | zero => intro x1 s H locs ls hf; exact absurd hf lo2_z
        | succ n ih48 =>
          intro x1 s H locs ls hf h hl
          have hf := lo2_s hf
          generalize lo2 (p_Odds_lookAtCity_B48) n = c48 at hf ih48
          unfold p_Odds_lookAtCity_B48 at hf
          refine lv_iload_n hx hb dX2_lookAtCity_48 rfl (lv_at hl 1 rfl) ?_
          refine lv_aload_n hx hb dX2_lookAtCity_49 rfl (lv_at hl 0 rfl) ?_
          refine gX_Odds_city F h hinX2 (hts (.fieldLink RX2 54 "ElectionHouse$Odds" "city" "LElectionHouse$City;") (by decide +kernel)) dX2_lookAtCity_50 ?_
          obtain ⟨r2, hc1, hf⟩ := ob1 hf
          refine call_VI F (c_City_size l Z Q s hc1) (cwV 0 hts gX2_lookAtCity_X0_size rfl rfl rfl (by decide +kernel) ⟨Nat.le_of_ble_eq_true rfl, Nat.le_of_ble_eq_true rfl⟩) h (rcX_City h) rfl hl.1 rfl (Nat.le_of_ble_eq_true rfl) ⟨Nat.zero_le _, Nat.zero_le _⟩ dX2_lookAtCity_53 (fun H locs h => ?_)
          refine lv_icmp_ge (tgt := 122) hx hb dX2_lookAtCity_56 (by decide) (fun c_4 => ?_) (fun c_4 => ?_)
          · have hf := ip c_4 hf
            exact retE_V F hr hlk h hf dX2_lookAtCity_122
          · have hf := im c_4 hf
            refine lv_aload_n hx hb dX2_lookAtCity_59 rfl (lv_at hl 0 rfl) ?_
            refine gX_Odds_candidateCount F h hinX2 (hts (.fieldLink RX2 135 "ElectionHouse$Odds" "candidateCount" "I") (by decide +kernel)) dX2_lookAtCity_60 ?_
            refine lv_bipush (v := (40 : Int32)) hx hb dX2_lookAtCity_63 (by decide) ?_
            refine lv_icmp_ge (tgt := 122) hx hb dX2_lookAtCity_65 (by decide) (fun c_5 => ?_) (fun c_5 => ?_)
            · have hf := ip c_5 hf
              exact retE_V F hr hlk h hf dX2_lookAtCity_122
            · have hf := im c_5 hf
              refine lv_aload_n hx hb dX2_lookAtCity_68 rfl (lv_at hl 0 rfl) ?_
              refine gX_Odds_city F h hinX2 (hts (.fieldLink RX2 54 "ElectionHouse$Odds" "city" "LElectionHouse$City;") (by decide +kernel)) dX2_lookAtCity_69 ?_
              refine lv_iload_n hx hb dX2_lookAtCity_72 rfl (lv_at hl 1 rfl) ?_
              obtain ⟨r7, hc6, hf⟩ := ob1 hf
              refine call_VI F (c_City_isThere l Z Q s x1 hc6) (cwV 1 hts gX2_lookAtCity_X0_isThere rfl rfl rfl (by decide +kernel) ⟨Nat.le_of_ble_eq_true rfl, Nat.le_of_ble_eq_true rfl⟩) h (rcX_City h) rfl hl.1 rfl (Nat.le_of_ble_eq_true rfl) ⟨Nat.zero_le _, Nat.zero_le _⟩ dX2_lookAtCity_73 (fun H locs h => ?_)
              refine lv_if_eq (tgt := 116) hx hb dX2_lookAtCity_76 (by decide) (fun c_9 => ?_) (fun c_9 => ?_)
              · have hf := ip c_9 hf
                refine lv_iinc (v := (x1 + (1 : Int32))) (lv' := [(1, .int (x1 + (1 : Int32))), (0, .ref (Q 29))]) hx hb dX2_lookAtCity_116 hl (k := 1) rfl (congrArg (fun z => x1 + z) (by decide : Int32.ofInt (1) = (1 : Int32))) (by decide) rfl (fun ls hl => ?_)
                have hl := lv_sub (l' := [(0, .ref (Q 29)), (1, .int (x1 + (1 : Int32)))]) hl [1, 0] rfl
                refine lv_goto (tgt := 48) hx hb dX2_lookAtCity_119 (by decide) ?_
                exact ih48 (x1 + (1 : Int32)) s H locs ls hf h (lv_sub hl [0, 1] rfl)
              · have hf := im c_9 hf
                refine lv_aload_n hx hb dX2_lookAtCity_79 rfl (lv_at hl 0 rfl) ?_
                refine gX_Odds_candidates F h hinX2 (hts (.fieldLink RX2 29 "ElectionHouse$Odds" "candidates" "[I") (by decide +kernel)) dX2_lookAtCity_80 ?_
                refine lv_aload_n hx hb dX2_lookAtCity_83 rfl (lv_at hl 0 rfl) ?_
                refine gX_Odds_candidateCount F h hinX2 (hts (.fieldLink RX2 135 "ElectionHouse$Odds" "candidateCount" "I") (by decide +kernel)) dX2_lookAtCity_84 ?_
                refine lv_iload_n hx hb dX2_lookAtCity_87 rfl (lv_at hl 1 rfl) ?_
                obtain ⟨gi10, hf⟩ := og hf
                refine sX_cands F h gi10 dX2_lookAtCity_88 (fun H locs h => ?_)
                obtain ⟨s11, es, hf⟩ := olq hf
                rw [← es] at h
                refine lv_aload_n hx hb dX2_lookAtCity_89 rfl (lv_at hl 0 rfl) ?_
                refine gX_Odds_candidateParties F h hinX2 (hts (.fieldLink RX2 32 "ElectionHouse$Odds" "candidateParties" "[I") (by decide +kernel)) dX2_lookAtCity_90 ?_
                refine lv_aload_n hx hb dX2_lookAtCity_93 rfl (lv_at hl 0 rfl) ?_
                refine gX_Odds_candidateCount F h hinX2 (hts (.fieldLink RX2 135 "ElectionHouse$Odds" "candidateCount" "I") (by decide +kernel)) dX2_lookAtCity_94 ?_
                refine lv_aload_n hx hb dX2_lookAtCity_97 rfl (lv_at hl 0 rfl) ?_
                refine gX_Odds_city F h hinX2 (hts (.fieldLink RX2 54 "ElectionHouse$Odds" "city" "LElectionHouse$City;") (by decide +kernel)) dX2_lookAtCity_98 ?_
                refine lv_iload_n hx hb dX2_lookAtCity_101 rfl (lv_at hl 1 rfl) ?_
                obtain ⟨r13, hc12, hf⟩ := ob1 hf
                refine call_VI F (c_City_partyOf l Z Q s11 x1 hc12) (cwV 1 hts gX2_lookAtCity_X0_partyOf rfl rfl rfl (by decide +kernel) ⟨Nat.le_of_ble_eq_true rfl, Nat.le_of_ble_eq_true rfl⟩) h (rcX_City h) rfl hl.1 rfl (Nat.le_of_ble_eq_true rfl) ⟨Nat.zero_le _, Nat.zero_le _⟩ dX2_lookAtCity_102 (fun H locs h => ?_)
                obtain ⟨gi15, hf⟩ := og hf
                refine sX_cparts F h gi15 dX2_lookAtCity_105 (fun H locs h => ?_)
                obtain ⟨s16, es, hf⟩ := olq hf
                rw [← es] at h
                refine lv_aload_n hx hb dX2_lookAtCity_106 rfl (lv_at hl 0 rfl) ?_
                refine lv_dup hx hb dX2_lookAtCity_107 rfl ?_
                refine gX_Odds_candidateCount F h hinX2 (hts (.fieldLink RX2 135 "ElectionHouse$Odds" "candidateCount" "I") (by decide +kernel)) dX2_lookAtCity_108 ?_
                refine lv_iconst (v := (1 : Int32)) hx hb dX2_lookAtCity_111 (by decide) ?_
                refine lv_iadd hx hb dX2_lookAtCity_112 ?_
                refine pX_Odds_candidateCount F h hinX2 (hts (.fieldLink RX2 135 "ElectionHouse$Odds" "candidateCount" "I") (by decide +kernel)) dX2_lookAtCity_113 (fun H locs h => ?_)
                obtain ⟨s17, es, hf⟩ := olq hf
                rw [← es] at h
                refine lv_iinc (v := (x1 + (1 : Int32))) (lv' := [(1, .int (x1 + (1 : Int32))), (0, .ref (Q 29))]) hx hb dX2_lookAtCity_116 hl (k := 1) rfl (congrArg (fun z => x1 + z) (by decide : Int32.ofInt (1) = (1 : Int32))) (by decide) rfl (fun ls hl => ?_)
                have hl := lv_sub (l' := [(0, .ref (Q 29)), (1, .int (x1 + (1 : Int32)))]) hl [1, 0] rfl
                refine lv_goto (tgt := 48) hx hb dX2_lookAtCity_119 (by decide) ?_
                exact ih48 (x1 + (1 : Int32)) s17 H locs ls hf h (lv_sub hl [0, 1] rfl)
      refine lv_iload_n hx hb dX2_lookAtCity_2 rfl (lv_at hl 1 rfl) ?_
      refine lv_bipush (v := (16 : Int32)) hx hb dX2_lookAtCity_3 (by decide) ?_
      refine lv_icmp_ge (tgt := 41) hx hb dX2_lookAtCity_5 (by decide) (fun c_18 => ?_) (fun c_18 => ?_)
      · have hf := ip c_18 hf
        refine lv_aload_n hx hb dX2_lookAtCity_41 rfl (lv_at hl 0 rfl) ?_
        refine lv_iconst (v := (0 : Int32)) hx hb dX2_lookAtCity_42 (by decide) ?_
        refine pX_Odds_candidateCount F h hinX2 (hts (.fieldLink RX2 135 "ElectionHouse$Odds" "candidateCount" "I") (by decide +kernel)) dX2_lookAtCity_43 (fun H locs h => ?_)
        obtain ⟨s19, es, hf⟩ := olq hf
        rw [← es] at h
        refine lv_iconst (v := (0 : Int32)) hx hb dX2_lookAtCity_46 (by decide) ?_
        refine lv_istore_n (lv' := [(1, .int (0 : Int32)), (0, .ref (Q 29))]) hx hb dX2_lookAtCity_47 rfl hl (by decide) rfl (fun ls hl => ?_)
        have hl := lv_sub (l' := [(0, .ref (Q 29)), (1, .int (0 : Int32))]) hl [1, 0] rfl
        exact lab48 fuelN (0 : Int32) s19 H locs ls hf h (lv_sub hl [0, 1] rfl)
      · have hf := im c_18 hf
        refine lv_aload_n hx hb dX2_lookAtCity_8 rfl (lv_at hl 0 rfl) ?_
        refine gX_Odds_yes F h hinX2 (hts (.fieldLink RX2 35 "ElectionHouse$Odds" "yes" "[I") (by decide +kernel)) dX2_lookAtCity_9 ?_
        refine lv_iload_n hx hb dX2_lookAtCity_12 rfl (lv_at hl 1 rfl) ?_
        refine lv_aload_n hx hb dX2_lookAtCity_13 rfl (lv_at hl 0 rfl) ?_
        refine gX_Odds_city F h hinX2 (hts (.fieldLink RX2 54 "ElectionHouse$Odds" "city" "LElectionHouse$City;") (by decide +kernel)) dX2_lookAtCity_14 ?_
        refine lv_iload_n hx hb dX2_lookAtCity_17 rfl (lv_at hl 1 rfl) ?_
        refine lv_iconst (v := (4 : Int32)) hx hb dX2_lookAtCity_18 (by decide) ?_
        refine lv_idiv hx hb dX2_lookAtCity_19 (by decide) ?_
        refine lv_iload_n hx hb dX2_lookAtCity_20 rfl (lv_at hl 1 rfl) ?_
        refine lv_iconst (v := (4 : Int32)) hx hb dX2_lookAtCity_21 (by decide) ?_
        refine lv_irem hx hb dX2_lookAtCity_22 (by decide) ?_
        obtain ⟨r23, hc22, hf⟩ := ob1 hf
        refine call_VI F (c_City_saysYes l Z Q s (x1 / (4 : Int32)) (x1 - x1 / (4 : Int32) * (4 : Int32)) hc22) (cwV 2 hts gX2_lookAtCity_X0_saysYes rfl rfl rfl (by decide +kernel) ⟨Nat.le_of_ble_eq_true rfl, Nat.le_of_ble_eq_true rfl⟩) h (rcX_City h) rfl hl.1 rfl (Nat.le_of_ble_eq_true rfl) ⟨Nat.zero_le _, Nat.zero_le _⟩ dX2_lookAtCity_23 (fun H locs h => ?_)
        refine lv_if_eq (tgt := 33) hx hb dX2_lookAtCity_26 (by decide) (fun c_25 => ?_) (fun c_25 => ?_)
        · have hf := ip c_25 hf
          refine lv_iconst (v := (0 : Int32)) hx hb dX2_lookAtCity_33 (by decide) ?_
          obtain ⟨gi26, hf⟩ := og hf
          refine sX_oyes F h gi26 dX2_lookAtCity_34 (fun H locs h => ?_)
          obtain ⟨s27, es, hf⟩ := olq hf
          rw [← es] at h
          refine lv_iinc (v := (x1 + (1 : Int32))) (lv' := [(1, .int (x1 + (1 : Int32))), (0, .ref (Q 29))]) hx hb dX2_lookAtCity_35 hl (k := 1) rfl (congrArg (fun z => x1 + z) (by decide : Int32.ofInt (1) = (1 : Int32))) (by decide) rfl (fun ls hl => ?_)
          have hl := lv_sub (l' := [(0, .ref (Q 29)), (1, .int (x1 + (1 : Int32)))]) hl [1, 0] rfl
          refine lv_goto (tgt := 2) hx hb dX2_lookAtCity_38 (by decide) ?_
          exact ih2 (x1 + (1 : Int32)) s27 H locs ls hf h (lv_sub hl [0, 1] rfl)
        · have hf := im c_25 hf
          refine lv_iconst (v := (1 : Int32)) hx hb dX2_lookAtCity_29 (by decide) ?_
          refine lv_goto (tgt := 34) hx hb dX2_lookAtCity_30 (by decide) ?_
          obtain ⟨gi28, hf⟩ := og hf
          refine sX_oyes F h gi28 dX2_lookAtCity_34 (fun H locs h => ?_)
          obtain ⟨s29, es, hf⟩ := olq hf
          rw [← es] at h
          refine lv_iinc (v := (x1 + (1 : Int32))) (lv' := [(1, .int (x1 + (1 : Int32))), (0, .ref (Q 29))]) hx hb dX2_lookAtCity_35 hl (k := 1) rfl (congrArg (fun z => x1 + z) (by decide : Int32.ofInt (1) = (1 : Int32))) (by decide) rfl (fun ls hl => ?_)
          have hl := lv_sub (l' := [(0, .ref (Q 29)), (1, .int (x1 + (1 : Int32)))]) hl [1, 0] rfl
          refine lv_goto (tgt := 2) hx hb dX2_lookAtCity_38 (by decide) ?_
          exact ih2 (x1 + (1 : Int32)) s29 H locs ls hf h (lv_sub hl [0, 1] rfl)
  refine lv_iconst (v := (0 : Int32)) hx hb dX2_lookAtCity_0 (by decide) ?_
  refine lv_istore_n (lv' := [(1, .int (0 : Int32)), (0, .ref (Q 29))]) hx hb dX2_lookAtCity_1 rfl hl (by decide) rfl (fun ls hl => ?_)
  have hl := lv_sub (l' := [(0, .ref (Q 29)), (1, .int (0 : Int32))]) hl [1, 0] rfl
  exact lab2 fuelN (0 : Int32) s H locs ls hf h (lv_sub hl [0, 1] rfl)

set_option maxHeartbeats 8000000 in
set_option maxRecDepth 100000 in
theorem c_Odds_countParty (l : Launch) (Z : ZT) (Q : Nat → Nat) (s : XS) (x1 : Int32) {s' : XS} (hf : p_Odds_countParty x1 s = some s') : KV l Z (wX Z Q) yX2_countParty wsX2_countParty { frames := 1, cells := 0, slots := 0, locals := 20 } [.ref (Q 29), .int x1] s s' := by
  intro sz
  refine met_entry (cc := cX2_countParty) (maxL := 2) (ret := none) (by decide) rfl (Nat.le_of_ble_eq_true rfl) sz rfl ?_
  generalize va_A (wX Z Q s) sz = A
  intro p e s0 m args below meth c ls F hr hlk h hl
  have hl : lv_has ls 2 [(0, .ref (Q 29)), (1, .int x1)] := hl
  obtain ⟨hx, hb, hml, hown, hts⟩ := id F
  have hinX2 : ∀ w ∈ wsX20, w ∈ wsX2_countParty := by decide +kernel
  obtain ⟨H, eH⟩ : ∃ z, z = s0.heap := ⟨_, rfl⟩
  obtain ⟨locs, eL⟩ : ∃ z : List Loc, z = [] := ⟨_, rfl⟩
  rw [← eH, ← eL] at h ⊢
  unfold p_Odds_countParty at hf
  refine lv_iload_n hx hb dX2_countParty_0 rfl (lv_at hl 1 rfl) ?_
  obtain ⟨r2, hc1, hf⟩ := ob1 hf
  refine call_SI F (c_City_isParty l Z (wX Z Q) s x1 hc1) (va_cwS 1 hts gX2_countParty_X0_isParty rfl rfl rfl (by decide +kernel) ⟨Nat.le_of_ble_eq_true rfl, Nat.le_of_ble_eq_true rfl⟩) h rfl hl.1 rfl (Nat.le_of_ble_eq_true rfl) ⟨Nat.zero_le _, Nat.zero_le _⟩ dX2_countParty_1 (fun H locs h => ?_)
  refine lv_if_eq (tgt := 17) hx hb dX2_countParty_4 (by decide) (fun c_4 => ?_) (fun c_4 => ?_)
  · have hf := ip c_4 hf
    exact retE_V F hr hlk h hf dX2_countParty_17
  · have hf := im c_4 hf
    refine lv_aload_n hx hb dX2_countParty_7 rfl (lv_at hl 0 rfl) ?_
    refine gX_Odds_gets F h hinX2 (hts (.fieldLink RX2 22 "ElectionHouse$Odds" "gets" "[I") (by decide +kernel)) dX2_countParty_8 ?_
    refine lv_iload_n hx hb dX2_countParty_11 rfl (lv_at hl 1 rfl) ?_
    refine lv_dup2_11 hx hb dX2_countParty_12 rfl rfl ?_
    obtain ⟨gi5, hf⟩ := og hf
    refine lX_ogets F h gi5 dX2_countParty_13 ?_
    refine lv_iconst (v := (1 : Int32)) hx hb dX2_countParty_14 (by decide) ?_
    refine lv_iadd hx hb dX2_countParty_15 ?_
    obtain ⟨gi6, hf⟩ := og hf
    refine sX_ogets F h gi6 dX2_countParty_16 (fun H locs h => ?_)
    obtain ⟨s7, es, hf⟩ := olq hf
    rw [← es] at h
    exact retE_V F hr hlk h hf dX2_countParty_17

set_option maxHeartbeats 8000000 in
set_option maxRecDepth 100000 in
theorem c_Odds_keyOfGets (l : Launch) (Z : ZT) (Q : Nat → Nat) (s : XS) {r : Int32} (hf : p_Odds_keyOfGets s = some r) : KI l Z (wX Z Q) yX2_keyOfGets wsX2_keyOfGets { frames := 0, cells := 0, slots := 0, locals := 0 } [.ref (Q 29)] s r s := by
  intro sz
  refine met_entry (cc := cX2_keyOfGets) (maxL := 1) (ret := (some .int)) (by decide) rfl (Nat.le_of_ble_eq_true rfl) sz rfl ?_
  generalize va_A (wX Z Q s) sz = A
  intro p e s0 m args below meth c ls F hr hlk h hl
  have hl : lv_has ls 1 [(0, .ref (Q 29))] := hl
  obtain ⟨hx, hb, hml, hown, hts⟩ := id F
  have hinX2 : ∀ w ∈ wsX20, w ∈ wsX2_keyOfGets := by decide +kernel
  obtain ⟨H, eH⟩ : ∃ z, z = s0.heap := ⟨_, rfl⟩
  obtain ⟨locs, eL⟩ : ∃ z : List Loc, z = [] := ⟨_, rfl⟩
  rw [← eH, ← eL] at h ⊢
  unfold p_Odds_keyOfGets at hf
  refine lv_aload_n hx hb dX2_keyOfGets_0 rfl (lv_at hl 0 rfl) ?_
  refine gX_Odds_gets F h hinX2 (hts (.fieldLink RX2 22 "ElectionHouse$Odds" "gets" "[I") (by decide +kernel)) dX2_keyOfGets_1 ?_
  refine lv_iconst (v := (0 : Int32)) hx hb dX2_keyOfGets_4 (by decide) ?_
  obtain ⟨gi1, hf⟩ := og hf
  refine lX_ogets F h gi1 dX2_keyOfGets_5 ?_
  refine lv_bipush (v := (41 : Int32)) hx hb dX2_keyOfGets_6 (by decide) ?_
  refine lv_imul hx hb dX2_keyOfGets_8 ?_
  refine lv_aload_n hx hb dX2_keyOfGets_9 rfl (lv_at hl 0 rfl) ?_
  refine gX_Odds_gets F h hinX2 (hts (.fieldLink RX2 22 "ElectionHouse$Odds" "gets" "[I") (by decide +kernel)) dX2_keyOfGets_10 ?_
  refine lv_iconst (v := (1 : Int32)) hx hb dX2_keyOfGets_13 (by decide) ?_
  obtain ⟨gi2, hf⟩ := og hf
  refine lX_ogets F h gi2 dX2_keyOfGets_14 ?_
  refine lv_iadd hx hb dX2_keyOfGets_15 ?_
  refine lv_bipush (v := (41 : Int32)) hx hb dX2_keyOfGets_16 (by decide) ?_
  refine lv_imul hx hb dX2_keyOfGets_18 ?_
  refine lv_aload_n hx hb dX2_keyOfGets_19 rfl (lv_at hl 0 rfl) ?_
  refine gX_Odds_gets F h hinX2 (hts (.fieldLink RX2 22 "ElectionHouse$Odds" "gets" "[I") (by decide +kernel)) dX2_keyOfGets_20 ?_
  refine lv_iconst (v := (2 : Int32)) hx hb dX2_keyOfGets_23 (by decide) ?_
  obtain ⟨gi3, hf⟩ := og hf
  refine lX_ogets F h gi3 dX2_keyOfGets_24 ?_
  refine lv_iadd hx hb dX2_keyOfGets_25 ?_
  exact retE_Ir F hr hlk h hf dX2_keyOfGets_26

set_option maxHeartbeats 8000000 in
set_option maxRecDepth 100000 in
theorem c_Odds_startFromBody (l : Launch) (Z : ZT) (Q : Nat → Nat) (s : XS) {s' : XS} (hf : p_Odds_startFromBody s = some s') : KV l Z (wX Z Q) yX2_startFromBody wsX2_startFromBody { frames := 5, cells := 0, slots := 0, locals := 105 } [.ref (Q 29)] s s' := by
  intro sz
  refine met_entry (cc := cX2_startFromBody) (maxL := 3) (ret := none) (by decide) rfl (Nat.le_of_ble_eq_true rfl) sz rfl ?_
  generalize va_A (wX Z Q s) sz = A
  intro p e s0 m args below meth c ls F hr hlk h hl
  have hl : lv_has ls 3 [(0, .ref (Q 29))] := hl
  obtain ⟨hx, hb, hml, hown, hts⟩ := id F
  have hinX2 : ∀ w ∈ wsX20, w ∈ wsX2_startFromBody := by decide +kernel
  obtain ⟨H, eH⟩ : ∃ z, z = s0.heap := ⟨_, rfl⟩
  obtain ⟨locs, eL⟩ : ∃ z : List Loc, z = [] := ⟨_, rfl⟩
  rw [← eH, ← eL] at h ⊢
  unfold p_Odds_startFromBody at hf
  have lab18 : ∀ (x1 : Int32) (n : Nat) (x2 : Int32) (s : XS) (H : Heap) (locs : List Loc) (ls : Array Slot), lo2 (p_Odds_startFromBody_B18 x1) n x2 s = some s' → HW Z (wX Z Q) A s0 H locs s → lv_has ls 3 [(0, .ref (Q 29)), (1, .int x1), (2, .int x2)] → W p l e { frames := 5, cells := 0, slots := 0, locals := 105 } s0 m args below meth c H locs 0 0 (MQ below (QcV Z (wX Z Q) A s') args s0 0 0 A) (F0 m 18 ls []) := by
    intro x1 n
    induction n with
    | zero => intro x2 s H locs ls hf; exact absurd hf lo2_z
    | succ n ih18 =>
      intro x2 s H locs ls hf h hl
      have hf := lo2_s hf
      generalize lo2 (p_Odds_startFromBody_B18 x1) n = c18 at hf ih18
      unfold p_Odds_startFromBody_B18 at hf
      refine lv_iload_n hx hb dX2_startFromBody_18 rfl (lv_at hl 2 rfl) ?_
      refine lv_iload_n hx hb dX2_startFromBody_19 rfl (lv_at hl 1 rfl) ?_
      refine lv_icmp_ge (tgt := 48) hx hb dX2_startFromBody_20 (by decide) (fun c_1 => ?_) (fun c_1 => ?_)
      · have hf := ip c_1 hf
        refine lv_aload_n hx hb dX2_startFromBody_48 rfl (lv_at hl 0 rfl) ?_
        refine gX_Odds_ahead F h hinX2 (hts (.fieldLink RX2 47 "ElectionHouse$Odds" "ahead" "LElectionHouse$Tally;") (by decide +kernel)) dX2_startFromBody_49 ?_
        have hb2 : (gG s 29 13) < 2 := h.2.2.2.2.2.1 _ _
        obtain ⟨s5, hc3, hf⟩ := ob1 hf
        refine call_VV F (c_Tally_clear l Z Q s (gG s 29 13) hb2 hc3) (cwV 0 hts gX2_startFromBody_X7_clear rfl rfl rfl (by decide +kernel) ⟨Nat.le_of_ble_eq_true rfl, Nat.le_of_ble_eq_true rfl⟩) h (rcX_Tally hb2 h) rfl hl.1 rfl (Nat.le_of_ble_eq_true rfl) ⟨Nat.zero_le _, Nat.zero_le _⟩ dX2_startFromBody_52 (fun H locs h => ?_)
        refine lv_aload_n hx hb dX2_startFromBody_55 rfl (lv_at hl 0 rfl) ?_
        refine gX_Odds_ahead F h hinX2 (hts (.fieldLink RX2 47 "ElectionHouse$Odds" "ahead" "LElectionHouse$Tally;") (by decide +kernel)) dX2_startFromBody_56 ?_
        have hb6 : (gG s5 29 13) < 2 := h.2.2.2.2.2.1 _ _
        refine lv_aload_n hx hb dX2_startFromBody_59 rfl (lv_at hl 0 rfl) ?_
        obtain ⟨r8, hc7, hf⟩ := ob1 hf
        refine call_VI F (c_Odds_keyOfGets l Z Q s5 hc7) (cwV 0 hts gX2_startFromBody_X2_keyOfGets rfl rfl rfl (by decide +kernel) ⟨Nat.le_of_ble_eq_true rfl, Nat.le_of_ble_eq_true rfl⟩) h (rcX_Odds h) rfl hl.1 rfl (Nat.le_of_ble_eq_true rfl) ⟨Nat.zero_le _, Nat.zero_le _⟩ dX2_startFromBody_60 (fun H locs h => ?_)
        refine lv_lconst (v := (1 : Int64)) hx hb dX2_startFromBody_63 (by decide) ?_
        obtain ⟨r11, s12, hc10, hf⟩ := ob2 hf
        refine call_VI F (c_Tally_add l Z Q s5 (gG s5 29 13) r8 (1 : Int64) hb6 hc10) (cwV 2 hts gX2_startFromBody_X7_add rfl rfl rfl (by decide +kernel) ⟨Nat.le_of_ble_eq_true rfl, Nat.le_of_ble_eq_true rfl⟩) h (rcX_Tally hb6 h) rfl hl.1 rfl (Nat.le_of_ble_eq_true rfl) ⟨Nat.zero_le _, Nat.zero_le _⟩ dX2_startFromBody_64 (fun H locs h => ?_)
        refine lv_pop hx hb dX2_startFromBody_67 rfl ?_
        exact retE_V F hr hlk h hf dX2_startFromBody_68
      · have hf := im c_1 hf
        refine lv_aload_n hx hb dX2_startFromBody_23 rfl (lv_at hl 0 rfl) ?_
        refine lv_aload_n hx hb dX2_startFromBody_24 rfl (lv_at hl 0 rfl) ?_
        refine gX_Odds_city F h hinX2 (hts (.fieldLink RX2 54 "ElectionHouse$Odds" "city" "LElectionHouse$City;") (by decide +kernel)) dX2_startFromBody_25 ?_
        refine lv_aload_n hx hb dX2_startFromBody_28 rfl (lv_at hl 0 rfl) ?_
        refine gX_Odds_session F h hinX2 (hts (.fieldLink RX2 58 "ElectionHouse$Odds" "session" "LElectionHouse$Session;") (by decide +kernel)) dX2_startFromBody_29 ?_
        refine lv_iload_n hx hb dX2_startFromBody_32 rfl (lv_at hl 2 rfl) ?_
        obtain ⟨r14, s15, hc13, hf⟩ := ob2 hf
        refine call_VI F (c_Sess_member l Z Q s x2 hc13) (cwV 1 hts gX2_startFromBody_X6_member rfl rfl rfl (by decide +kernel) ⟨Nat.le_of_ble_eq_true rfl, Nat.le_of_ble_eq_true rfl⟩) h (rcX_Sess h) rfl hl.1 rfl (Nat.le_of_ble_eq_true rfl) ⟨Nat.zero_le _, Nat.zero_le _⟩ dX2_startFromBody_33 (fun H locs h => ?_)
        obtain ⟨r17, hc16, hf⟩ := ob1 hf
        refine call_VI F (c_City_partyOf l Z Q s15 r14 hc16) (cwV 1 hts gX2_startFromBody_X0_partyOf rfl rfl rfl (by decide +kernel) ⟨Nat.le_of_ble_eq_true rfl, Nat.le_of_ble_eq_true rfl⟩) h (rcX_City h) rfl hl.1 rfl (Nat.le_of_ble_eq_true rfl) ⟨Nat.zero_le _, Nat.zero_le _⟩ dX2_startFromBody_36 (fun H locs h => ?_)
        obtain ⟨s21, hc19, hf⟩ := ob1 hf
        refine call_VV F (c_Odds_countParty l Z Q s15 r17 hc19) (cwV 1 hts gX2_startFromBody_X2_countParty rfl rfl rfl (by decide +kernel) ⟨Nat.le_of_ble_eq_true rfl, Nat.le_of_ble_eq_true rfl⟩) h (rcX_Odds h) rfl hl.1 rfl (Nat.le_of_ble_eq_true rfl) ⟨Nat.zero_le _, Nat.zero_le _⟩ dX2_startFromBody_39 (fun H locs h => ?_)
        refine lv_iinc (v := (x2 + (1 : Int32))) (lv' := [(2, .int (x2 + (1 : Int32))), (0, .ref (Q 29)), (1, .int x1)]) hx hb dX2_startFromBody_42 hl (k := 2) rfl (congrArg (fun z => x2 + z) (by decide : Int32.ofInt (1) = (1 : Int32))) (by decide) rfl (fun ls hl => ?_)
        have hl := lv_sub (l' := [(0, .ref (Q 29)), (1, .int x1), (2, .int (x2 + (1 : Int32)))]) hl [1, 2, 0] rfl
        refine lv_goto (tgt := 18) hx hb dX2_startFromBody_45 (by decide) ?_
        exact ih18 (x2 + (1 : Int32)) s21 H locs ls hf h (lv_sub hl [0, 1, 2] rfl)
  refine lv_aload_n hx hb dX2_startFromBody_0 rfl (lv_at hl 0 rfl) ?_
  refine gX_Odds_gets F h hinX2 (hts (.fieldLink RX2 22 "ElectionHouse$Odds" "gets" "[I") (by decide +kernel)) dX2_startFromBody_1 ?_
  refine lv_iconst (v := (0 : Int32)) hx hb dX2_startFromBody_4 (by decide) ?_
  obtain ⟨s24, hc22, hf⟩ := ob1 hf
  refine call_SV F (c_fill_ogets l Z Q s (0 : Int32) hc22) (va_cwS 2 hts gX2_startFromBody_J7_fill_53178 rfl rfl rfl (by decide +kernel) ⟨Nat.le_of_ble_eq_true rfl, Nat.le_of_ble_eq_true rfl⟩) h rfl hl.1 rfl (Nat.le_of_ble_eq_true rfl) ⟨Nat.zero_le _, Nat.zero_le _⟩ dX2_startFromBody_5 (fun H locs h => ?_)
  refine lv_aload_n hx hb dX2_startFromBody_8 rfl (lv_at hl 0 rfl) ?_
  refine gX_Odds_session F h hinX2 (hts (.fieldLink RX2 58 "ElectionHouse$Odds" "session" "LElectionHouse$Session;") (by decide +kernel)) dX2_startFromBody_9 ?_
  obtain ⟨r26, s27, hc25, hf⟩ := ob2 hf
  refine call_VI F (c_Sess_bodySize l Z Q s24 hc25) (cwV 0 hts gX2_startFromBody_X6_bodySize rfl rfl rfl (by decide +kernel) ⟨Nat.le_of_ble_eq_true rfl, Nat.le_of_ble_eq_true rfl⟩) h (rcX_Sess h) rfl hl.1 rfl (Nat.le_of_ble_eq_true rfl) ⟨Nat.zero_le _, Nat.zero_le _⟩ dX2_startFromBody_12 (fun H locs h => ?_)
  refine lv_istore_n (lv' := [(1, .int r26), (0, .ref (Q 29))]) hx hb dX2_startFromBody_15 rfl hl (by decide) rfl (fun ls hl => ?_)
  have hl := lv_sub (l' := [(0, .ref (Q 29)), (1, .int r26)]) hl [1, 0] rfl
  refine lv_iconst (v := (0 : Int32)) hx hb dX2_startFromBody_16 (by decide) ?_
  refine lv_istore_n (lv' := [(2, .int (0 : Int32)), (0, .ref (Q 29)), (1, .int r26)]) hx hb dX2_startFromBody_17 rfl hl (by decide) rfl (fun ls hl => ?_)
  have hl := lv_sub (l' := [(0, .ref (Q 29)), (1, .int r26), (2, .int (0 : Int32))]) hl [1, 2, 0] rfl
  exact lab18 r26 fuelN (0 : Int32) s27 H locs ls hf h (lv_sub hl [0, 1, 2] rfl)

set_option maxHeartbeats 8000000 in
set_option maxRecDepth 100000 in
theorem c_Odds_spreadKey (l : Launch) (Z : ZT) (Q : Nat → Nat) (s : XS) (x1 : Int32) (x2 : Int32) {s' : XS} (hf : p_Odds_spreadKey x1 x2 s = some s') : KV l Z (wX Z Q) yX2_spreadKey wsX2_spreadKey { frames := 0, cells := 0, slots := 0, locals := 0 } [.ref (Q 29), .int x1, .int x2] s s' := by
  intro sz
  refine met_entry (cc := cX2_spreadKey) (maxL := 3) (ret := none) (by decide) rfl (Nat.le_of_ble_eq_true rfl) sz rfl ?_
  generalize va_A (wX Z Q s) sz = A
  intro p e s0 m args below meth c ls F hr hlk h hl
  have hl : lv_has ls 3 [(0, .ref (Q 29)), (1, .int x1), (2, .int x2)] := hl
  obtain ⟨hx, hb, hml, hown, hts⟩ := id F
  have hinX2 : ∀ w ∈ wsX20, w ∈ wsX2_spreadKey := by decide +kernel
  obtain ⟨H, eH⟩ : ∃ z, z = s0.heap := ⟨_, rfl⟩
  obtain ⟨locs, eL⟩ : ∃ z : List Loc, z = [] := ⟨_, rfl⟩
  rw [← eH, ← eL] at h ⊢
  unfold p_Odds_spreadKey at hf
  refine lv_aload_n hx hb dX2_spreadKey_0 rfl (lv_at hl 0 rfl) ?_
  refine gX_Odds_has F h hinX2 (hts (.fieldLink RX2 18 "ElectionHouse$Odds" "has" "[I") (by decide +kernel)) dX2_spreadKey_1 ?_
  refine lv_iconst (v := (0 : Int32)) hx hb dX2_spreadKey_4 (by decide) ?_
  refine lv_iload_n hx hb dX2_spreadKey_5 rfl (lv_at hl 1 rfl) ?_
  refine lv_sipush (v := (1681 : Int32)) hx hb dX2_spreadKey_6 (by decide) ?_
  refine lv_idiv hx hb dX2_spreadKey_9 (by decide) ?_
  obtain ⟨gi2, hf⟩ := og hf
  refine sX_ohas F h gi2 dX2_spreadKey_10 (fun H locs h => ?_)
  obtain ⟨s3, es, hf⟩ := olq hf
  rw [← es] at h
  refine lv_aload_n hx hb dX2_spreadKey_11 rfl (lv_at hl 0 rfl) ?_
  refine gX_Odds_has F h hinX2 (hts (.fieldLink RX2 18 "ElectionHouse$Odds" "has" "[I") (by decide +kernel)) dX2_spreadKey_12 ?_
  refine lv_iconst (v := (1 : Int32)) hx hb dX2_spreadKey_15 (by decide) ?_
  refine lv_iload_n hx hb dX2_spreadKey_16 rfl (lv_at hl 1 rfl) ?_
  refine lv_bipush (v := (41 : Int32)) hx hb dX2_spreadKey_17 (by decide) ?_
  refine lv_idiv hx hb dX2_spreadKey_19 (by decide) ?_
  refine lv_bipush (v := (41 : Int32)) hx hb dX2_spreadKey_20 (by decide) ?_
  refine lv_irem hx hb dX2_spreadKey_22 (by decide) ?_
  obtain ⟨gi6, hf⟩ := og hf
  refine sX_ohas F h gi6 dX2_spreadKey_23 (fun H locs h => ?_)
  obtain ⟨s7, es, hf⟩ := olq hf
  rw [← es] at h
  refine lv_aload_n hx hb dX2_spreadKey_24 rfl (lv_at hl 0 rfl) ?_
  refine gX_Odds_has F h hinX2 (hts (.fieldLink RX2 18 "ElectionHouse$Odds" "has" "[I") (by decide +kernel)) dX2_spreadKey_25 ?_
  refine lv_iconst (v := (2 : Int32)) hx hb dX2_spreadKey_28 (by decide) ?_
  refine lv_iload_n hx hb dX2_spreadKey_29 rfl (lv_at hl 1 rfl) ?_
  refine lv_bipush (v := (41 : Int32)) hx hb dX2_spreadKey_30 (by decide) ?_
  refine lv_irem hx hb dX2_spreadKey_32 (by decide) ?_
  obtain ⟨gi9, hf⟩ := og hf
  refine sX_ohas F h gi9 dX2_spreadKey_33 (fun H locs h => ?_)
  obtain ⟨s10, es, hf⟩ := olq hf
  rw [← es] at h
  refine lv_aload_n hx hb dX2_spreadKey_34 rfl (lv_at hl 0 rfl) ?_
  refine gX_Odds_has F h hinX2 (hts (.fieldLink RX2 18 "ElectionHouse$Odds" "has" "[I") (by decide +kernel)) dX2_spreadKey_35 ?_
  refine lv_iconst (v := (3 : Int32)) hx hb dX2_spreadKey_38 (by decide) ?_
  refine lv_iload_n hx hb dX2_spreadKey_39 rfl (lv_at hl 2 rfl) ?_
  refine lv_aload_n hx hb dX2_spreadKey_40 rfl (lv_at hl 0 rfl) ?_
  refine gX_Odds_has F h hinX2 (hts (.fieldLink RX2 18 "ElectionHouse$Odds" "has" "[I") (by decide +kernel)) dX2_spreadKey_41 ?_
  refine lv_iconst (v := (0 : Int32)) hx hb dX2_spreadKey_44 (by decide) ?_
  obtain ⟨gi11, hf⟩ := og hf
  refine lX_ohas F h gi11 dX2_spreadKey_45 ?_
  refine lv_isub hx hb dX2_spreadKey_46 ?_
  refine lv_aload_n hx hb dX2_spreadKey_47 rfl (lv_at hl 0 rfl) ?_
  refine gX_Odds_has F h hinX2 (hts (.fieldLink RX2 18 "ElectionHouse$Odds" "has" "[I") (by decide +kernel)) dX2_spreadKey_48 ?_
  refine lv_iconst (v := (1 : Int32)) hx hb dX2_spreadKey_51 (by decide) ?_
  obtain ⟨gi12, hf⟩ := og hf
  refine lX_ohas F h gi12 dX2_spreadKey_52 ?_
  refine lv_isub hx hb dX2_spreadKey_53 ?_
  refine lv_aload_n hx hb dX2_spreadKey_54 rfl (lv_at hl 0 rfl) ?_
  refine gX_Odds_has F h hinX2 (hts (.fieldLink RX2 18 "ElectionHouse$Odds" "has" "[I") (by decide +kernel)) dX2_spreadKey_55 ?_
  refine lv_iconst (v := (2 : Int32)) hx hb dX2_spreadKey_58 (by decide) ?_
  obtain ⟨gi13, hf⟩ := og hf
  refine lX_ohas F h gi13 dX2_spreadKey_59 ?_
  refine lv_isub hx hb dX2_spreadKey_60 ?_
  obtain ⟨gi14, hf⟩ := og hf
  refine sX_ohas F h gi14 dX2_spreadKey_61 (fun H locs h => ?_)
  obtain ⟨s15, es, hf⟩ := olq hf
  rw [← es] at h
  exact retE_V F hr hlk h hf dX2_spreadKey_62

set_option maxHeartbeats 8000000 in
set_option maxRecDepth 100000 in
theorem c_Odds_drawLastTwo (l : Launch) (Z : ZT) (Q : Nat → Nat) (s : XS) (x1 : Int32) (x2 : Int64) {r : Int32} {s' : XS} (hf : p_Odds_drawLastTwo x1 x2 s = some (r, s')) : KI l Z (wX Z Q) yX2_drawLastTwo wsX2_drawLastTwo { frames := 1, cells := 0, slots := 0, locals := 26 } [.ref (Q 29), .int x1, .long x2] s r s' := by
  intro sz
  refine met_entry (cc := cX2_drawLastTwo) (maxL := 5) (ret := (some .boolean)) (by decide) rfl (Nat.le_of_ble_eq_true rfl) sz rfl ?_
  generalize va_A (wX Z Q s) sz = A
  intro p e s0 m args below meth c ls F hr hlk h hl
  have hl : lv_has ls 5 [(0, .ref (Q 29)), (1, .int x1), (2, .long x2)] := hl
  obtain ⟨hx, hb, hml, hown, hts⟩ := id F
  have hinX2 : ∀ w ∈ wsX20, w ∈ wsX2_drawLastTwo := by decide +kernel
  obtain ⟨H, eH⟩ : ∃ z, z = s0.heap := ⟨_, rfl⟩
  obtain ⟨locs, eL⟩ : ∃ z : List Loc, z = [] := ⟨_, rfl⟩
  rw [← eH, ← eL] at h ⊢
  unfold p_Odds_drawLastTwo at hf
  have lab14 : ∀ (x1 : Int32) (x2 : Int64) (n : Nat) (x4 : Int32) (s : XS) (H : Heap) (locs : List Loc) (ls : Array Slot), lo2 (p_Odds_drawLastTwo_B14 x1 x2) n x4 s = some (r, s') → HW Z (wX Z Q) A s0 H locs s → lv_has ls 5 [(0, .ref (Q 29)), (1, .int x1), (2, .long x2), (4, .int x4)] → W p l e { frames := 1, cells := 0, slots := 0, locals := 26 } s0 m args below meth c H locs 0 0 (MQ below (QcI Z (wX Z Q) A r s') args s0 0 0 A) (F0 m 14 ls []) := by
    intro x1 x2 n
    induction n with
    | zero => intro x4 s H locs ls hf; exact absurd hf lo2_z
    | succ n ih14 =>
      intro x4 s H locs ls hf h hl
      have hf := lo2_s hf
      generalize lo2 (p_Odds_drawLastTwo_B14 x1 x2) n = c14 at hf ih14
      unfold p_Odds_drawLastTwo_B14 at hf
      refine lv_iload hx hb dX2_drawLastTwo_14 (lv_at hl 3 rfl) ?_
      refine lv_aload_n hx hb dX2_drawLastTwo_16 rfl (lv_at hl 0 rfl) ?_
      refine gX_Odds_has F h hinX2 (hts (.fieldLink RX2 18 "ElectionHouse$Odds" "has" "[I") (by decide +kernel)) dX2_drawLastTwo_17 ?_
      refine lv_iconst (v := (2 : Int32)) hx hb dX2_drawLastTwo_20 (by decide) ?_
      obtain ⟨gi1, hf⟩ := og hf
      refine lX_ohas F h gi1 dX2_drawLastTwo_21 ?_
      refine lv_iload_n hx hb dX2_drawLastTwo_22 rfl (lv_at hl 1 rfl) ?_
      refine va_mmin hx hb (by rw [hml]; exact hl.1.symm) hown (hts (.methodLink RX2 116 Lib.Math.min.name) (by decide +kernel)) (hts (.static Lib.Math.min.name) (by decide +kernel)) (hts (.initialized "java/lang/Math") (by decide +kernel)) (hts (.code Lib.Math.min.name Lib.Math.min.code 2 (some .int)) (by decide +kernel)) (Nat.le_of_ble_eq_true rfl) (Nat.le_of_ble_eq_true rfl) (Nat.zero_le _) (Nat.zero_le _) dX2_drawLastTwo_23 ?_
      refine lv_icmp_gt (tgt := 88) hx hb dX2_drawLastTwo_26 (by decide) (fun c_2 => ?_) (fun c_2 => ?_)
      · have hf := ip c_2 hf
        refine lv_iconst (v := (1 : Int32)) hx hb dX2_drawLastTwo_88 (by decide) ?_
        exact retE_Z F hr hlk (by decide) h hf dX2_drawLastTwo_89
      · have hf := im c_2 hf
        refine lv_aload_n hx hb dX2_drawLastTwo_29 rfl (lv_at hl 0 rfl) ?_
        refine gX_Odds_gets F h hinX2 (hts (.fieldLink RX2 22 "ElectionHouse$Odds" "gets" "[I") (by decide +kernel)) dX2_drawLastTwo_30 ?_
        refine lv_iconst (v := (2 : Int32)) hx hb dX2_drawLastTwo_33 (by decide) ?_
        refine lv_iload hx hb dX2_drawLastTwo_34 (lv_at hl 3 rfl) ?_
        obtain ⟨gi3, hf⟩ := og hf
        refine sX_ogets F h gi3 dX2_drawLastTwo_36 (fun H locs h => ?_)
        obtain ⟨s4, es, hf⟩ := olq hf
        rw [← es] at h
        refine lv_aload_n hx hb dX2_drawLastTwo_37 rfl (lv_at hl 0 rfl) ?_
        refine gX_Odds_behind F h hinX2 (hts (.fieldLink RX2 51 "ElectionHouse$Odds" "behind" "LElectionHouse$Tally;") (by decide +kernel)) dX2_drawLastTwo_38 ?_
        have hb5 : (gG s4 29 14) < 2 := h.2.2.2.2.2.1 _ _
        refine lv_aload_n hx hb dX2_drawLastTwo_41 rfl (lv_at hl 0 rfl) ?_
        obtain ⟨r7, hc6, hf⟩ := ob1 hf
        refine call_VI F (c_Odds_keyOfGets l Z Q s4 hc6) (cwV 0 hts gX2_drawLastTwo_X2_keyOfGets rfl rfl rfl (by decide +kernel) ⟨Nat.le_of_ble_eq_true rfl, Nat.le_of_ble_eq_true rfl⟩) h (rcX_Odds h) rfl hl.1 rfl (Nat.le_of_ble_eq_true rfl) ⟨Nat.zero_le _, Nat.zero_le _⟩ dX2_drawLastTwo_42 (fun H locs h => ?_)
        refine lv_lload_n hx hb dX2_drawLastTwo_45 rfl (lv_at hl 2 rfl) ?_
        refine lv_aload_n hx hb dX2_drawLastTwo_46 rfl (lv_at hl 0 rfl) ?_
        refine lv_aload_n hx hb dX2_drawLastTwo_47 rfl (lv_at hl 0 rfl) ?_
        refine gX_Odds_has F h hinX2 (hts (.fieldLink RX2 18 "ElectionHouse$Odds" "has" "[I") (by decide +kernel)) dX2_drawLastTwo_48 ?_
        refine lv_iconst (v := (2 : Int32)) hx hb dX2_drawLastTwo_51 (by decide) ?_
        obtain ⟨gi9, hf⟩ := og hf
        refine lX_ohas F h gi9 dX2_drawLastTwo_52 ?_
        refine lv_iload hx hb dX2_drawLastTwo_53 (lv_at hl 3 rfl) ?_
        obtain ⟨r11, hc10, hf⟩ := ob1 hf
        refine call_VL F (c_Odds_setsOf l Z Q s4 (gM s4 32 (ix (2 : Int32))) x4 hc10) (cwV 2 hts gX2_drawLastTwo_X2_setsOf rfl rfl rfl (by decide +kernel) ⟨Nat.le_of_ble_eq_true rfl, Nat.le_of_ble_eq_true rfl⟩) h (rcX_Odds h) rfl hl.1 rfl (Nat.le_of_ble_eq_true rfl) ⟨Nat.zero_le _, Nat.zero_le _⟩ dX2_drawLastTwo_55 (fun H locs h => ?_)
        refine lv_lmul hx hb dX2_drawLastTwo_58 ?_
        refine lv_aload_n hx hb dX2_drawLastTwo_59 rfl (lv_at hl 0 rfl) ?_
        refine lv_aload_n hx hb dX2_drawLastTwo_60 rfl (lv_at hl 0 rfl) ?_
        refine gX_Odds_has F h hinX2 (hts (.fieldLink RX2 18 "ElectionHouse$Odds" "has" "[I") (by decide +kernel)) dX2_drawLastTwo_61 ?_
        refine lv_iconst (v := (3 : Int32)) hx hb dX2_drawLastTwo_64 (by decide) ?_
        obtain ⟨gi13, hf⟩ := og hf
        refine lX_ohas F h gi13 dX2_drawLastTwo_65 ?_
        refine lv_iload_n hx hb dX2_drawLastTwo_66 rfl (lv_at hl 1 rfl) ?_
        refine lv_iload hx hb dX2_drawLastTwo_67 (lv_at hl 3 rfl) ?_
        refine lv_isub hx hb dX2_drawLastTwo_69 ?_
        obtain ⟨r15, hc14, hf⟩ := ob1 hf
        refine call_VL F (c_Odds_setsOf l Z Q s4 (gM s4 32 (ix (3 : Int32))) (x1 - x4) hc14) (cwV 2 hts gX2_drawLastTwo_X2_setsOf rfl rfl rfl (by decide +kernel) ⟨Nat.le_of_ble_eq_true rfl, Nat.le_of_ble_eq_true rfl⟩) h (rcX_Odds h) rfl hl.1 rfl (Nat.le_of_ble_eq_true rfl) ⟨Nat.zero_le _, Nat.zero_le _⟩ dX2_drawLastTwo_70 (fun H locs h => ?_)
        refine lv_lmul hx hb dX2_drawLastTwo_73 ?_
        obtain ⟨r18, s19, hc17, hf⟩ := ob2 hf
        refine call_VI F (c_Tally_add l Z Q s4 (gG s4 29 14) r7 ((x2 * r11) * r15) hb5 hc17) (cwV 2 hts gX2_drawLastTwo_X7_add rfl rfl rfl (by decide +kernel) ⟨Nat.le_of_ble_eq_true rfl, Nat.le_of_ble_eq_true rfl⟩) h (rcX_Tally hb5 h) rfl hl.1 rfl (Nat.le_of_ble_eq_true rfl) ⟨Nat.zero_le _, Nat.zero_le _⟩ dX2_drawLastTwo_74 (fun H locs h => ?_)
        refine lv_if_ne (tgt := 82) hx hb dX2_drawLastTwo_77 (by decide) (fun c_20 => ?_) (fun c_20 => ?_)
        · have hf := im c_20 hf
          refine lv_iinc (v := (x4 + (1 : Int32))) (lv' := [(4, .int (x4 + (1 : Int32))), (0, .ref (Q 29)), (1, .int x1), (2, .long x2)]) hx hb dX2_drawLastTwo_82 hl (k := 3) rfl (congrArg (fun z => x4 + z) (by decide : Int32.ofInt (1) = (1 : Int32))) (by decide) rfl (fun ls hl => ?_)
          have hl := lv_sub (l' := [(0, .ref (Q 29)), (1, .int x1), (2, .long x2), (4, .int (x4 + (1 : Int32)))]) hl [1, 2, 3, 0] rfl
          refine lv_goto (tgt := 14) hx hb dX2_drawLastTwo_85 (by decide) ?_
          exact ih14 (x4 + (1 : Int32)) s19 H locs ls hf h (lv_sub hl [0, 1, 2, 3] rfl)
        · have hf := ip c_20 hf
          refine lv_iconst (v := (0 : Int32)) hx hb dX2_drawLastTwo_80 (by decide) ?_
          exact retE_Z F hr hlk (by decide) h hf dX2_drawLastTwo_81
  refine lv_iconst (v := (0 : Int32)) hx hb dX2_drawLastTwo_0 (by decide) ?_
  refine lv_iload_n hx hb dX2_drawLastTwo_1 rfl (lv_at hl 1 rfl) ?_
  refine lv_aload_n hx hb dX2_drawLastTwo_2 rfl (lv_at hl 0 rfl) ?_
  refine gX_Odds_has F h hinX2 (hts (.fieldLink RX2 18 "ElectionHouse$Odds" "has" "[I") (by decide +kernel)) dX2_drawLastTwo_3 ?_
  refine lv_iconst (v := (3 : Int32)) hx hb dX2_drawLastTwo_6 (by decide) ?_
  obtain ⟨gi21, hf⟩ := og hf
  refine lX_ohas F h gi21 dX2_drawLastTwo_7 ?_
  refine lv_isub hx hb dX2_drawLastTwo_8 ?_
  refine va_mmax hx hb (by rw [hml]; exact hl.1.symm) hown (hts (.methodLink RX2 204 Lib.Math.max.name) (by decide +kernel)) (hts (.static Lib.Math.max.name) (by decide +kernel)) (hts (.initialized "java/lang/Math") (by decide +kernel)) (hts (.code Lib.Math.max.name Lib.Math.max.code 2 (some .int)) (by decide +kernel)) (Nat.le_of_ble_eq_true rfl) (Nat.le_of_ble_eq_true rfl) (Nat.zero_le _) (Nat.zero_le _) dX2_drawLastTwo_9 ?_
  refine lv_istore (lv' := [(4, .int (if (0 : Int32) < (x1 - (gM s 32 (ix (3 : Int32)))) then (x1 - (gM s 32 (ix (3 : Int32)))) else (0 : Int32))), (0, .ref (Q 29)), (1, .int x1), (2, .long x2)]) hx hb dX2_drawLastTwo_12 hl (by decide) rfl (fun ls hl => ?_)
  have hl := lv_sub (l' := [(0, .ref (Q 29)), (1, .int x1), (2, .long x2), (4, .int (if (0 : Int32) < (x1 - (gM s 32 (ix (3 : Int32)))) then (x1 - (gM s 32 (ix (3 : Int32)))) else (0 : Int32)))]) hl [1, 2, 3, 0] rfl
  exact lab14 x1 x2 fuelN (if (0 : Int32) < (x1 - (gM s 32 (ix (3 : Int32)))) then (x1 - (gM s 32 (ix (3 : Int32)))) else (0 : Int32)) s H locs ls hf h (lv_sub hl [0, 1, 2, 3] rfl)

set_option maxHeartbeats 8000000 in
set_option maxRecDepth 100000 in
theorem c_Odds_drawSets (l : Launch) (Z : ZT) (Q : Nat → Nat) (s : XS) (x1 : Int32) (x2 : Int64) {r : Int32} {s' : XS} (hf : p_Odds_drawSets x1 x2 s = some (r, s')) : KI l Z (wX Z Q) yX2_drawSets wsX2_drawSets { frames := 2, cells := 0, slots := 0, locals := 50 } [.ref (Q 29), .int x1, .long x2] s r s' := by
  intro sz
  refine met_entry (cc := cX2_drawSets) (maxL := 11) (ret := (some .boolean)) (by decide) rfl (Nat.le_of_ble_eq_true rfl) sz rfl ?_
  generalize va_A (wX Z Q s) sz = A
  intro p e s0 m args below meth c ls F hr hlk h hl
  have hl : lv_has ls 11 [(0, .ref (Q 29)), (1, .int x1), (2, .long x2)] := hl
  obtain ⟨hx, hb, hml, hown, hts⟩ := id F
  have hinX2 : ∀ w ∈ wsX20, w ∈ wsX2_drawSets := by decide +kernel
  obtain ⟨H, eH⟩ : ∃ z, z = s0.heap := ⟨_, rfl⟩
  obtain ⟨locs, eL⟩ : ∃ z : List Loc, z = [] := ⟨_, rfl⟩
  rw [← eH, ← eL] at h ⊢
  unfold p_Odds_drawSets at hf
  have lab32 : ∀ (x1 : Int32) (x2 : Int64) (x4 : Int32) (n : Nat) (x5 : Int32) (s : XS) (H : Heap) (locs : List Loc) (ls : Array Slot), lo2 (p_Odds_drawSets_B32 x1 x2 x4) n x5 s = some (r, s') → HW Z (wX Z Q) A s0 H locs s → lv_has ls 11 [(0, .ref (Q 29)), (1, .int x1), (2, .long x2), (4, .int x4), (5, .int x5)] → W p l e { frames := 2, cells := 0, slots := 0, locals := 50 } s0 m args below meth c H locs 0 0 (MQ below (QcI Z (wX Z Q) A r s') args s0 0 0 A) (F0 m 32 ls []) := by
    intro x1 x2 x4 n
    induction n with
    | zero => intro x5 s H locs ls hf; exact absurd hf lo2_z
    | succ n ih32 =>
      intro x5 s H locs ls hf h hl
      have hf := lo2_s hf
      generalize lo2 (p_Odds_drawSets_B32 x1 x2 x4) n = c32 at hf ih32
      unfold p_Odds_drawSets_B32 at hf
      have lab76 : ∀ (x5 : Int32) (x6 : Int64) (n : Nat) (x8 : Int32) (s : XS) (H : Heap) (locs : List Loc) (ls : Array Slot), lo2 (p_Odds_drawSets_B76 x1 x2 x4 x5 x6 c32) n x8 s = some (r, s') → HW Z (wX Z Q) A s0 H locs s → lv_has ls 11 [(0, .ref (Q 29)), (1, .int x1), (2, .long x2), (4, .int x4), (5, .int x5), (6, .long x6), (8, .int x8)] → W p l e { frames := 2, cells := 0, slots := 0, locals := 50 } s0 m args below meth c H locs 0 0 (MQ below (QcI Z (wX Z Q) A r s') args s0 0 0 A) (F0 m 76 ls []) := by
        intro x5 x6 n
        induction n with
        | zero => intro x8 s H locs ls hf; exact absurd hf lo2_z
        | succ n ih76 =>
          intro x8 s H locs ls hf h hl
          have hf := lo2_s hf
          generalize lo2 (p_Odds_drawSets_B76 x1 x2 x4 x5 x6 c32) n = c76 at hf ih76
          unfold p_Odds_drawSets_B76 at hf
          refine lv_iload hx hb dX2_drawSets_76 (lv_at hl 6 rfl) ?_
          refine lv_aload_n hx hb dX2_drawSets_78 rfl (lv_at hl 0 rfl) ?_
          refine gX_Odds_has F h hinX2 (hts (.fieldLink RX2 18 "ElectionHouse$Odds" "has" "[I") (by decide +kernel)) dX2_drawSets_79 ?_
          refine lv_iconst (v := (1 : Int32)) hx hb dX2_drawSets_82 (by decide) ?_
          obtain ⟨gi1, hf⟩ := og hf
          refine lX_ohas F h gi1 dX2_drawSets_83 ?_
          refine lv_iload_n hx hb dX2_drawSets_84 rfl (lv_at hl 1 rfl) ?_
          refine lv_iload hx hb dX2_drawSets_85 (lv_at hl 4 rfl) ?_
          refine lv_isub hx hb dX2_drawSets_87 ?_
          refine va_mmin hx hb (by rw [hml]; exact hl.1.symm) hown (hts (.methodLink RX2 116 Lib.Math.min.name) (by decide +kernel)) (hts (.static Lib.Math.min.name) (by decide +kernel)) (hts (.initialized "java/lang/Math") (by decide +kernel)) (hts (.code Lib.Math.min.name Lib.Math.min.code 2 (some .int)) (by decide +kernel)) (Nat.le_of_ble_eq_true rfl) (Nat.le_of_ble_eq_true rfl) (Nat.zero_le _) (Nat.zero_le _) dX2_drawSets_88 ?_
          refine lv_icmp_gt (tgt := 151) hx hb dX2_drawSets_91 (by decide) (fun c_2 => ?_) (fun c_2 => ?_)
          · have hf := ip c_2 hf
            refine lv_iinc (v := (x5 + (1 : Int32))) (lv' := [(5, .int (x5 + (1 : Int32))), (0, .ref (Q 29)), (1, .int x1), (2, .long x2), (4, .int x4), (6, .long x6), (8, .int x8)]) hx hb dX2_drawSets_151 hl (k := 4) rfl (congrArg (fun z => x5 + z) (by decide : Int32.ofInt (1) = (1 : Int32))) (by decide) rfl (fun ls hl => ?_)
            have hl := lv_sub (l' := [(0, .ref (Q 29)), (1, .int x1), (2, .long x2), (4, .int x4), (5, .int (x5 + (1 : Int32))), (6, .long x6), (8, .int x8)]) hl [1, 2, 3, 4, 0, 5, 6] rfl
            refine lv_goto (tgt := 32) hx hb dX2_drawSets_154 (by decide) ?_
            exact ih32 (x5 + (1 : Int32)) s H locs ls hf h (lv_sub hl [0, 1, 2, 3, 4] rfl)
          · have hf := im c_2 hf
            refine lv_lload hx hb dX2_drawSets_94 (lv_at hl 5 rfl) ?_
            refine lv_aload_n hx hb dX2_drawSets_96 rfl (lv_at hl 0 rfl) ?_
            refine lv_aload_n hx hb dX2_drawSets_97 rfl (lv_at hl 0 rfl) ?_
            refine gX_Odds_has F h hinX2 (hts (.fieldLink RX2 18 "ElectionHouse$Odds" "has" "[I") (by decide +kernel)) dX2_drawSets_98 ?_
            refine lv_iconst (v := (1 : Int32)) hx hb dX2_drawSets_101 (by decide) ?_
            obtain ⟨gi3, hf⟩ := og hf
            refine lX_ohas F h gi3 dX2_drawSets_102 ?_
            refine lv_iload hx hb dX2_drawSets_103 (lv_at hl 6 rfl) ?_
            obtain ⟨r5, hc4, hf⟩ := ob1 hf
            refine call_VL F (c_Odds_setsOf l Z Q s (gM s 32 (ix (1 : Int32))) x8 hc4) (cwV 2 hts gX2_drawSets_X2_setsOf rfl rfl rfl (by decide +kernel) ⟨Nat.le_of_ble_eq_true rfl, Nat.le_of_ble_eq_true rfl⟩) h (rcX_Odds h) rfl hl.1 rfl (Nat.le_of_ble_eq_true rfl) ⟨Nat.zero_le _, Nat.zero_le _⟩ dX2_drawSets_105 (fun H locs h => ?_)
            refine lv_lmul hx hb dX2_drawSets_108 ?_
            refine lv_lstore (lv' := [(9, .long (x6 * r5)), (0, .ref (Q 29)), (1, .int x1), (2, .long x2), (4, .int x4), (5, .int x5), (6, .long x6), (8, .int x8)]) hx hb dX2_drawSets_109 hl (by decide) rfl (fun ls hl => ?_)
            have hl := lv_sub (l' := [(0, .ref (Q 29)), (1, .int x1), (2, .long x2), (4, .int x4), (5, .int x5), (6, .long x6), (8, .int x8), (9, .long (x6 * r5))]) hl [1, 2, 3, 4, 5, 6, 7, 0] rfl
            refine lv_aload_n hx hb dX2_drawSets_111 rfl (lv_at hl 0 rfl) ?_
            refine gX_Odds_gets F h hinX2 (hts (.fieldLink RX2 22 "ElectionHouse$Odds" "gets" "[I") (by decide +kernel)) dX2_drawSets_112 ?_
            refine lv_iconst (v := (0 : Int32)) hx hb dX2_drawSets_115 (by decide) ?_
            refine lv_iload hx hb dX2_drawSets_116 (lv_at hl 4 rfl) ?_
            obtain ⟨gi7, hf⟩ := og hf
            refine sX_ogets F h gi7 dX2_drawSets_118 (fun H locs h => ?_)
            obtain ⟨s8, es, hf⟩ := olq hf
            rw [← es] at h
            refine lv_aload_n hx hb dX2_drawSets_119 rfl (lv_at hl 0 rfl) ?_
            refine gX_Odds_gets F h hinX2 (hts (.fieldLink RX2 22 "ElectionHouse$Odds" "gets" "[I") (by decide +kernel)) dX2_drawSets_120 ?_
            refine lv_iconst (v := (1 : Int32)) hx hb dX2_drawSets_123 (by decide) ?_
            refine lv_iload hx hb dX2_drawSets_124 (lv_at hl 6 rfl) ?_
            obtain ⟨gi9, hf⟩ := og hf
            refine sX_ogets F h gi9 dX2_drawSets_126 (fun H locs h => ?_)
            obtain ⟨s10, es, hf⟩ := olq hf
            rw [← es] at h
            refine lv_aload_n hx hb dX2_drawSets_127 rfl (lv_at hl 0 rfl) ?_
            refine lv_iload_n hx hb dX2_drawSets_128 rfl (lv_at hl 1 rfl) ?_
            refine lv_iload hx hb dX2_drawSets_129 (lv_at hl 4 rfl) ?_
            refine lv_isub hx hb dX2_drawSets_131 ?_
            refine lv_iload hx hb dX2_drawSets_132 (lv_at hl 6 rfl) ?_
            refine lv_isub hx hb dX2_drawSets_134 ?_
            refine lv_lload hx hb dX2_drawSets_135 (lv_at hl 7 rfl) ?_
            obtain ⟨r12, s13, hc11, hf⟩ := ob2 hf
            refine call_VI F (c_Odds_drawLastTwo l Z Q s10 ((x1 - x5) - x8) (x6 * r5) hc11) (cwV 2 hts gX2_drawSets_X2_drawLastTwo rfl rfl rfl (by decide +kernel) ⟨Nat.le_of_ble_eq_true rfl, Nat.le_of_ble_eq_true rfl⟩) h (rcX_Odds h) rfl hl.1 rfl (Nat.le_of_ble_eq_true rfl) ⟨Nat.zero_le _, Nat.zero_le _⟩ dX2_drawSets_137 (fun H locs h => ?_)
            refine lv_if_ne (tgt := 145) hx hb dX2_drawSets_140 (by decide) (fun c_14 => ?_) (fun c_14 => ?_)
            · have hf := im c_14 hf
              refine lv_iinc (v := (x8 + (1 : Int32))) (lv' := [(8, .int (x8 + (1 : Int32))), (0, .ref (Q 29)), (1, .int x1), (2, .long x2), (4, .int x4), (5, .int x5), (6, .long x6), (9, .long (x6 * r5))]) hx hb dX2_drawSets_145 hl (k := 6) rfl (congrArg (fun z => x8 + z) (by decide : Int32.ofInt (1) = (1 : Int32))) (by decide) rfl (fun ls hl => ?_)
              have hl := lv_sub (l' := [(0, .ref (Q 29)), (1, .int x1), (2, .long x2), (4, .int x4), (5, .int x5), (6, .long x6), (8, .int (x8 + (1 : Int32))), (9, .long (x6 * r5))]) hl [1, 2, 3, 4, 5, 6, 0, 7] rfl
              refine lv_goto (tgt := 76) hx hb dX2_drawSets_148 (by decide) ?_
              exact ih76 (x8 + (1 : Int32)) s13 H locs ls hf h (lv_sub hl [0, 1, 2, 3, 4, 5, 6] rfl)
            · have hf := ip c_14 hf
              refine lv_iconst (v := (0 : Int32)) hx hb dX2_drawSets_143 (by decide) ?_
              exact retE_Z F hr hlk (by decide) h hf dX2_drawSets_144
      refine lv_iload hx hb dX2_drawSets_32 (lv_at hl 4 rfl) ?_
      refine lv_aload_n hx hb dX2_drawSets_34 rfl (lv_at hl 0 rfl) ?_
      refine gX_Odds_has F h hinX2 (hts (.fieldLink RX2 18 "ElectionHouse$Odds" "has" "[I") (by decide +kernel)) dX2_drawSets_35 ?_
      refine lv_iconst (v := (0 : Int32)) hx hb dX2_drawSets_38 (by decide) ?_
      obtain ⟨gi15, hf⟩ := og hf
      refine lX_ohas F h gi15 dX2_drawSets_39 ?_
      refine lv_iload_n hx hb dX2_drawSets_40 rfl (lv_at hl 1 rfl) ?_
      refine va_mmin hx hb (by rw [hml]; exact hl.1.symm) hown (hts (.methodLink RX2 116 Lib.Math.min.name) (by decide +kernel)) (hts (.static Lib.Math.min.name) (by decide +kernel)) (hts (.initialized "java/lang/Math") (by decide +kernel)) (hts (.code Lib.Math.min.name Lib.Math.min.code 2 (some .int)) (by decide +kernel)) (Nat.le_of_ble_eq_true rfl) (Nat.le_of_ble_eq_true rfl) (Nat.zero_le _) (Nat.zero_le _) dX2_drawSets_41 ?_
      refine lv_icmp_gt (tgt := 157) hx hb dX2_drawSets_44 (by decide) (fun c_16 => ?_) (fun c_16 => ?_)
      · have hf := ip c_16 hf
        refine lv_iconst (v := (1 : Int32)) hx hb dX2_drawSets_157 (by decide) ?_
        exact retE_Z F hr hlk (by decide) h hf dX2_drawSets_158
      · have hf := im c_16 hf
        refine lv_lload_n hx hb dX2_drawSets_47 rfl (lv_at hl 2 rfl) ?_
        refine lv_aload_n hx hb dX2_drawSets_48 rfl (lv_at hl 0 rfl) ?_
        refine lv_aload_n hx hb dX2_drawSets_49 rfl (lv_at hl 0 rfl) ?_
        refine gX_Odds_has F h hinX2 (hts (.fieldLink RX2 18 "ElectionHouse$Odds" "has" "[I") (by decide +kernel)) dX2_drawSets_50 ?_
        refine lv_iconst (v := (0 : Int32)) hx hb dX2_drawSets_53 (by decide) ?_
        obtain ⟨gi17, hf⟩ := og hf
        refine lX_ohas F h gi17 dX2_drawSets_54 ?_
        refine lv_iload hx hb dX2_drawSets_55 (lv_at hl 4 rfl) ?_
        obtain ⟨r19, hc18, hf⟩ := ob1 hf
        refine call_VL F (c_Odds_setsOf l Z Q s (gM s 32 (ix (0 : Int32))) x5 hc18) (cwV 2 hts gX2_drawSets_X2_setsOf rfl rfl rfl (by decide +kernel) ⟨Nat.le_of_ble_eq_true rfl, Nat.le_of_ble_eq_true rfl⟩) h (rcX_Odds h) rfl hl.1 rfl (Nat.le_of_ble_eq_true rfl) ⟨Nat.zero_le _, Nat.zero_le _⟩ dX2_drawSets_57 (fun H locs h => ?_)
        refine lv_lmul hx hb dX2_drawSets_60 ?_
        refine lv_lstore (lv' := [(6, .long (x2 * r19)), (0, .ref (Q 29)), (1, .int x1), (2, .long x2), (4, .int x4), (5, .int x5)]) hx hb dX2_drawSets_61 hl (by decide) rfl (fun ls hl => ?_)
        have hl := lv_sub (l' := [(0, .ref (Q 29)), (1, .int x1), (2, .long x2), (4, .int x4), (5, .int x5), (6, .long (x2 * r19))]) hl [1, 2, 3, 4, 5, 0] rfl
        refine lv_iconst (v := (0 : Int32)) hx hb dX2_drawSets_63 (by decide) ?_
        refine lv_iload_n hx hb dX2_drawSets_64 rfl (lv_at hl 1 rfl) ?_
        refine lv_iload hx hb dX2_drawSets_65 (lv_at hl 4 rfl) ?_
        refine lv_isub hx hb dX2_drawSets_67 ?_
        refine lv_iload hx hb dX2_drawSets_68 (lv_at hl 3 rfl) ?_
        refine lv_isub hx hb dX2_drawSets_70 ?_
        refine va_mmax hx hb (by rw [hml]; exact hl.1.symm) hown (hts (.methodLink RX2 204 Lib.Math.max.name) (by decide +kernel)) (hts (.static Lib.Math.max.name) (by decide +kernel)) (hts (.initialized "java/lang/Math") (by decide +kernel)) (hts (.code Lib.Math.max.name Lib.Math.max.code 2 (some .int)) (by decide +kernel)) (Nat.le_of_ble_eq_true rfl) (Nat.le_of_ble_eq_true rfl) (Nat.zero_le _) (Nat.zero_le _) dX2_drawSets_71 ?_
        refine lv_istore (lv' := [(8, .int (if (0 : Int32) < ((x1 - x5) - x4) then ((x1 - x5) - x4) else (0 : Int32))), (0, .ref (Q 29)), (1, .int x1), (2, .long x2), (4, .int x4), (5, .int x5), (6, .long (x2 * r19))]) hx hb dX2_drawSets_74 hl (by decide) rfl (fun ls hl => ?_)
        have hl := lv_sub (l' := [(0, .ref (Q 29)), (1, .int x1), (2, .long x2), (4, .int x4), (5, .int x5), (6, .long (x2 * r19)), (8, .int (if (0 : Int32) < ((x1 - x5) - x4) then ((x1 - x5) - x4) else (0 : Int32)))]) hl [1, 2, 3, 4, 5, 6, 0] rfl
        exact lab76 x5 (x2 * r19) fuelN (if (0 : Int32) < ((x1 - x5) - x4) then ((x1 - x5) - x4) else (0 : Int32)) s H locs ls hf h (lv_sub hl [0, 1, 2, 3, 4, 5, 6] rfl)
  refine lv_aload_n hx hb dX2_drawSets_0 rfl (lv_at hl 0 rfl) ?_
  refine gX_Odds_has F h hinX2 (hts (.fieldLink RX2 18 "ElectionHouse$Odds" "has" "[I") (by decide +kernel)) dX2_drawSets_1 ?_
  refine lv_iconst (v := (2 : Int32)) hx hb dX2_drawSets_4 (by decide) ?_
  obtain ⟨gi21, hf⟩ := og hf
  refine lX_ohas F h gi21 dX2_drawSets_5 ?_
  refine lv_aload_n hx hb dX2_drawSets_6 rfl (lv_at hl 0 rfl) ?_
  refine gX_Odds_has F h hinX2 (hts (.fieldLink RX2 18 "ElectionHouse$Odds" "has" "[I") (by decide +kernel)) dX2_drawSets_7 ?_
  refine lv_iconst (v := (3 : Int32)) hx hb dX2_drawSets_10 (by decide) ?_
  obtain ⟨gi22, hf⟩ := og hf
  refine lX_ohas F h gi22 dX2_drawSets_11 ?_
  refine lv_iadd hx hb dX2_drawSets_12 ?_
  refine lv_istore (lv' := [(4, .int ((gM s 32 (ix (2 : Int32))) + (gM s 32 (ix (3 : Int32))))), (0, .ref (Q 29)), (1, .int x1), (2, .long x2)]) hx hb dX2_drawSets_13 hl (by decide) rfl (fun ls hl => ?_)
  have hl := lv_sub (l' := [(0, .ref (Q 29)), (1, .int x1), (2, .long x2), (4, .int ((gM s 32 (ix (2 : Int32))) + (gM s 32 (ix (3 : Int32)))))]) hl [1, 2, 3, 0] rfl
  refine lv_iconst (v := (0 : Int32)) hx hb dX2_drawSets_15 (by decide) ?_
  refine lv_iload_n hx hb dX2_drawSets_16 rfl (lv_at hl 1 rfl) ?_
  refine lv_aload_n hx hb dX2_drawSets_17 rfl (lv_at hl 0 rfl) ?_
  refine gX_Odds_has F h hinX2 (hts (.fieldLink RX2 18 "ElectionHouse$Odds" "has" "[I") (by decide +kernel)) dX2_drawSets_18 ?_
  refine lv_iconst (v := (1 : Int32)) hx hb dX2_drawSets_21 (by decide) ?_
  obtain ⟨gi23, hf⟩ := og hf
  refine lX_ohas F h gi23 dX2_drawSets_22 ?_
  refine lv_isub hx hb dX2_drawSets_23 ?_
  refine lv_iload hx hb dX2_drawSets_24 (lv_at hl 3 rfl) ?_
  refine lv_isub hx hb dX2_drawSets_26 ?_
  refine va_mmax hx hb (by rw [hml]; exact hl.1.symm) hown (hts (.methodLink RX2 204 Lib.Math.max.name) (by decide +kernel)) (hts (.static Lib.Math.max.name) (by decide +kernel)) (hts (.initialized "java/lang/Math") (by decide +kernel)) (hts (.code Lib.Math.max.name Lib.Math.max.code 2 (some .int)) (by decide +kernel)) (Nat.le_of_ble_eq_true rfl) (Nat.le_of_ble_eq_true rfl) (Nat.zero_le _) (Nat.zero_le _) dX2_drawSets_27 ?_
  refine lv_istore (lv' := [(5, .int (if (0 : Int32) < ((x1 - (gM s 32 (ix (1 : Int32)))) - ((gM s 32 (ix (2 : Int32))) + (gM s 32 (ix (3 : Int32))))) then ((x1 - (gM s 32 (ix (1 : Int32)))) - ((gM s 32 (ix (2 : Int32))) + (gM s 32 (ix (3 : Int32))))) else (0 : Int32))), (0, .ref (Q 29)), (1, .int x1), (2, .long x2), (4, .int ((gM s 32 (ix (2 : Int32))) + (gM s 32 (ix (3 : Int32)))))]) hx hb dX2_drawSets_30 hl (by decide) rfl (fun ls hl => ?_)
  have hl := lv_sub (l' := [(0, .ref (Q 29)), (1, .int x1), (2, .long x2), (4, .int ((gM s 32 (ix (2 : Int32))) + (gM s 32 (ix (3 : Int32))))), (5, .int (if (0 : Int32) < ((x1 - (gM s 32 (ix (1 : Int32)))) - ((gM s 32 (ix (2 : Int32))) + (gM s 32 (ix (3 : Int32))))) then ((x1 - (gM s 32 (ix (1 : Int32)))) - ((gM s 32 (ix (2 : Int32))) + (gM s 32 (ix (3 : Int32))))) else (0 : Int32)))]) hl [1, 2, 3, 4, 0] rfl
  exact lab32 x1 x2 ((gM s 32 (ix (2 : Int32))) + (gM s 32 (ix (3 : Int32)))) fuelN (if (0 : Int32) < ((x1 - (gM s 32 (ix (1 : Int32)))) - ((gM s 32 (ix (2 : Int32))) + (gM s 32 (ix (3 : Int32))))) then ((x1 - (gM s 32 (ix (1 : Int32)))) - ((gM s 32 (ix (2 : Int32))) + (gM s 32 (ix (3 : Int32))))) else (0 : Int32)) s H locs ls hf h (lv_sub hl [0, 1, 2, 3, 4] rfl)

set_option maxHeartbeats 8000000 in
set_option maxRecDepth 100000 in
theorem c_Odds_missStep (l : Launch) (Z : ZT) (Q : Nat → Nat) (s : XS) (x1 : Int32) (x2 : Int64) {s' : XS} (hf : p_Odds_missStep x1 x2 s = some s') : KV l Z (wX Z Q) yX2_missStep wsX2_missStep { frames := 0, cells := 0, slots := 0, locals := 0 } [.ref (Q 29), .int x1, .long x2] s s' := by
  intro sz
  refine met_entry (cc := cX2_missStep) (maxL := 4) (ret := none) (by decide) rfl (Nat.le_of_ble_eq_true rfl) sz rfl ?_
  generalize va_A (wX Z Q s) sz = A
  intro p e s0 m args below meth c ls F hr hlk h hl
  have hl : lv_has ls 4 [(0, .ref (Q 29)), (1, .int x1), (2, .long x2)] := hl
  obtain ⟨hx, hb, hml, hown, hts⟩ := id F
  have hinX2 : ∀ w ∈ wsX20, w ∈ wsX2_missStep := by decide +kernel
  obtain ⟨H, eH⟩ : ∃ z, z = s0.heap := ⟨_, rfl⟩
  obtain ⟨locs, eL⟩ : ∃ z : List Loc, z = [] := ⟨_, rfl⟩
  rw [← eH, ← eL] at h ⊢
  unfold p_Odds_missStep at hf
  refine lv_iload_n hx hb dX2_missStep_0 rfl (lv_at hl 1 rfl) ?_
  refine lv_if_lt (tgt := 28) hx hb dX2_missStep_1 (by decide) (fun c_1 => ?_) (fun c_1 => ?_)
  · have hf := ip c_1 hf
    exact retE_V F hr hlk h hf dX2_missStep_28
  · have hf := im c_1 hf
    refine lv_iload_n hx hb dX2_missStep_4 rfl (lv_at hl 1 rfl) ?_
    refine lv_bipush (v := (12 : Int32)) hx hb dX2_missStep_5 (by decide) ?_
    refine lv_icmp_ge (tgt := 28) hx hb dX2_missStep_7 (by decide) (fun c_2 => ?_) (fun c_2 => ?_)
    · have hf := ip c_2 hf
      exact retE_V F hr hlk h hf dX2_missStep_28
    · have hf := im c_2 hf
      refine lv_aload_n hx hb dX2_missStep_10 rfl (lv_at hl 0 rfl) ?_
      refine gX_Odds_scratch F h hinX2 (hts (.fieldLink RX2 41 "ElectionHouse$Odds" "scratch" "[J") (by decide +kernel)) dX2_missStep_11 ?_
      have hb3 : (gG s 29 12) < 2 := h.2.2.2.2.2.1 _ _
      refine lv_bipush (v := (40 : Int32)) hx hb dX2_missStep_14 (by decide) ?_
      refine lv_dup2_11 hx hb dX2_missStep_16 rfl rfl ?_
      obtain ⟨gi4, hf⟩ := og hf
      refine lX_rs hb3 F h gi4 dX2_missStep_17 ?_
      refine lv_lload_n hx hb dX2_missStep_18 rfl (lv_at hl 2 rfl) ?_
      refine lv_aload_n hx hb dX2_missStep_19 rfl (lv_at hl 0 rfl) ?_
      refine gX_Odds_later F h hinX2 (hts (.fieldLink RX2 15 "ElectionHouse$Odds" "later" "[J") (by decide +kernel)) dX2_missStep_20 ?_
      refine lv_iload_n hx hb dX2_missStep_23 rfl (lv_at hl 1 rfl) ?_
      obtain ⟨gi5, hf⟩ := og hf
      refine lX_later F h gi5 dX2_missStep_24 ?_
      refine lv_lmul hx hb dX2_missStep_25 ?_
      refine lv_ladd hx hb dX2_missStep_26 ?_
      obtain ⟨gi6, hf⟩ := og hf
      refine sX_rs hb3 F h gi6 dX2_missStep_27 (fun H locs h => ?_)
      obtain ⟨s7, es, hf⟩ := olq hf
      rw [← es] at h
      exact retE_V F hr hlk h hf dX2_missStep_28

set_option maxHeartbeats 8000000 in
set_option maxRecDepth 100000 in
theorem c_Odds_findEnough (l : Launch) (Z : ZT) (Q : Nat → Nat) (s : XS) (x1 : Int32) {s' : XS} (hf : p_Odds_findEnough x1 s = some s') : KV l Z (wX Z Q) yX2_findEnough wsX2_findEnough { frames := 0, cells := 0, slots := 0, locals := 0 } [.ref (Q 29), .int x1] s s' := by
  intro sz
  refine met_entry (cc := cX2_findEnough) (maxL := 5) (ret := none) (by decide) rfl (Nat.le_of_ble_eq_true rfl) sz rfl ?_
  generalize va_A (wX Z Q s) sz = A
  intro p e s0 m args below meth c ls F hr hlk h hl
  have hl : lv_has ls 5 [(0, .ref (Q 29)), (1, .int x1)] := hl
  obtain ⟨hx, hb, hml, hown, hts⟩ := id F
  have hinX2 : ∀ w ∈ wsX20, w ∈ wsX2_findEnough := by decide +kernel
  obtain ⟨H, eH⟩ : ∃ z, z = s0.heap := ⟨_, rfl⟩
  obtain ⟨locs, eL⟩ : ∃ z : List Loc, z = [] := ⟨_, rfl⟩
  rw [← eH, ← eL] at h ⊢
  unfold p_Odds_findEnough at hf
  have lab2 : ∀ (x1 : Int32) (n : Nat) (x2 : Int32) (s : XS) (H : Heap) (locs : List Loc) (ls : Array Slot), lo2 (p_Odds_findEnough_B2 x1) n x2 s = some s' → HW Z (wX Z Q) A s0 H locs s → lv_has ls 5 [(0, .ref (Q 29)), (1, .int x1), (2, .int x2)] → W p l e { frames := 0, cells := 0, slots := 0, locals := 0 } s0 m args below meth c H locs 0 0 (MQ below (QcV Z (wX Z Q) A s') args s0 0 0 A) (F0 m 2 ls []) := by
    intro x1 n
    induction n with
    | zero => intro x2 s H locs ls hf; exact absurd hf lo2_z
    | succ n ih2 =>
      intro x2 s H locs ls hf h hl
      have hf := lo2_s hf
      generalize lo2 (p_Odds_findEnough_B2 x1) n = c2 at hf ih2
      unfold p_Odds_findEnough_B2 at hf
      have lab12 : ∀ (x2 : Int32) (s : XS) (n : Nat) (x3 : Int32) (x4 : Int32) (H : Heap) (locs : List Loc) (ls : Array Slot), lo2 (p_Odds_findEnough_B12 x1 x2 s c2) n x3 x4 = some s' → HW Z (wX Z Q) A s0 H locs s → lv_has ls 5 [(0, .ref (Q 29)), (1, .int x1), (2, .int x2), (3, .int x3), (4, .int x4)] → W p l e { frames := 0, cells := 0, slots := 0, locals := 0 } s0 m args below meth c H locs 0 0 (MQ below (QcV Z (wX Z Q) A s') args s0 0 0 A) (F0 m 12 ls []) := by
        intro x2 s n
        induction n with
        | zero => intro x3 x4 H locs ls hf; exact absurd hf lo2_z
        | succ n ih12 =>
          intro x3 x4 H locs ls hf h hl
          have hf := lo2_s hf
          generalize lo2 (p_Odds_findEnough_B12 x1 x2 s c2) n = c12 at hf ih12
          unfold p_Odds_findEnough_B12 at hf
          refine lv_iload hx hb dX2_findEnough_12 (lv_at hl 4 rfl) ?_
          refine lv_iconst (v := (4 : Int32)) hx hb dX2_findEnough_14 (by decide) ?_
          refine lv_icmp_ge (tgt := 46) hx hb dX2_findEnough_15 (by decide) (fun c_1 => ?_) (fun c_1 => ?_)
          · have hf := ip c_1 hf
            refine lv_aload_n hx hb dX2_findEnough_46 rfl (lv_at hl 0 rfl) ?_
            refine gX_Odds_enough F h hinX2 (hts (.fieldLink RX2 25 "ElectionHouse$Odds" "enough" "[Z") (by decide +kernel)) dX2_findEnough_47 ?_
            refine lv_iload_n hx hb dX2_findEnough_50 rfl (lv_at hl 2 rfl) ?_
            refine lv_iload_n hx hb dX2_findEnough_51 rfl (lv_at hl 3 rfl) ?_
            refine lv_iload_n hx hb dX2_findEnough_52 rfl (lv_at hl 1 rfl) ?_
            refine lv_icmp_lt (tgt := 60) hx hb dX2_findEnough_53 (by decide) (fun c_2 => ?_) (fun c_2 => ?_)
            · have hf := ip c_2 hf
              refine lv_iconst (v := (0 : Int32)) hx hb dX2_findEnough_60 (by decide) ?_
              obtain ⟨gi3, hf⟩ := og hf
              refine sX_enough F h gi3 dX2_findEnough_61 (fun H locs h => ?_)
              obtain ⟨s4, es, hf⟩ := olq hf
              rw [← es] at h
              refine lv_iinc (v := (x2 + (1 : Int32))) (lv' := [(2, .int (x2 + (1 : Int32))), (0, .ref (Q 29)), (1, .int x1), (3, .int x3), (4, .int x4)]) hx hb dX2_findEnough_62 hl (k := 2) rfl (congrArg (fun z => x2 + z) (by decide : Int32.ofInt (1) = (1 : Int32))) (by decide) rfl (fun ls hl => ?_)
              have hl := lv_sub (l' := [(0, .ref (Q 29)), (1, .int x1), (2, .int (x2 + (1 : Int32))), (3, .int x3), (4, .int x4)]) hl [1, 2, 0, 3, 4] rfl
              refine lv_goto (tgt := 2) hx hb dX2_findEnough_65 (by decide) ?_
              exact ih2 (x2 + (1 : Int32)) s4 H locs ls hf h (lv_sub hl [0, 1, 2] rfl)
            · have hf := im c_2 hf
              refine lv_iconst (v := (1 : Int32)) hx hb dX2_findEnough_56 (by decide) ?_
              refine lv_goto (tgt := 61) hx hb dX2_findEnough_57 (by decide) ?_
              obtain ⟨gi5, hf⟩ := og hf
              refine sX_enough F h gi5 dX2_findEnough_61 (fun H locs h => ?_)
              obtain ⟨s6, es, hf⟩ := olq hf
              rw [← es] at h
              refine lv_iinc (v := (x2 + (1 : Int32))) (lv' := [(2, .int (x2 + (1 : Int32))), (0, .ref (Q 29)), (1, .int x1), (3, .int x3), (4, .int x4)]) hx hb dX2_findEnough_62 hl (k := 2) rfl (congrArg (fun z => x2 + z) (by decide : Int32.ofInt (1) = (1 : Int32))) (by decide) rfl (fun ls hl => ?_)
              have hl := lv_sub (l' := [(0, .ref (Q 29)), (1, .int x1), (2, .int (x2 + (1 : Int32))), (3, .int x3), (4, .int x4)]) hl [1, 2, 0, 3, 4] rfl
              refine lv_goto (tgt := 2) hx hb dX2_findEnough_65 (by decide) ?_
              exact ih2 (x2 + (1 : Int32)) s6 H locs ls hf h (lv_sub hl [0, 1, 2] rfl)
          · have hf := im c_1 hf
            refine lv_iload_n hx hb dX2_findEnough_18 rfl (lv_at hl 3 rfl) ?_
            refine lv_aload_n hx hb dX2_findEnough_19 rfl (lv_at hl 0 rfl) ?_
            refine gX_Odds_yes F h hinX2 (hts (.fieldLink RX2 35 "ElectionHouse$Odds" "yes" "[I") (by decide +kernel)) dX2_findEnough_20 ?_
            refine lv_iload hx hb dX2_findEnough_23 (lv_at hl 4 rfl) ?_
            refine lv_iconst (v := (4 : Int32)) hx hb dX2_findEnough_25 (by decide) ?_
            refine lv_imul hx hb dX2_findEnough_26 ?_
            refine lv_iload_n hx hb dX2_findEnough_27 rfl (lv_at hl 2 rfl) ?_
            refine lv_iadd hx hb dX2_findEnough_28 ?_
            obtain ⟨gi7, hf⟩ := og hf
            refine lX_oyes F h gi7 dX2_findEnough_29 ?_
            refine lv_aload_n hx hb dX2_findEnough_30 rfl (lv_at hl 0 rfl) ?_
            refine gX_Odds_has F h hinX2 (hts (.fieldLink RX2 18 "ElectionHouse$Odds" "has" "[I") (by decide +kernel)) dX2_findEnough_31 ?_
            refine lv_iload hx hb dX2_findEnough_34 (lv_at hl 4 rfl) ?_
            obtain ⟨gi8, hf⟩ := og hf
            refine lX_ohas F h gi8 dX2_findEnough_36 ?_
            refine lv_imul hx hb dX2_findEnough_37 ?_
            refine lv_iadd hx hb dX2_findEnough_38 ?_
            refine lv_istore_n (lv' := [(3, .int (x3 + ((gM s 37 (ix ((x4 * (4 : Int32)) + x2))) * (gM s 32 (ix x4))))), (0, .ref (Q 29)), (1, .int x1), (2, .int x2), (4, .int x4)]) hx hb dX2_findEnough_39 rfl hl (by decide) rfl (fun ls hl => ?_)
            have hl := lv_sub (l' := [(0, .ref (Q 29)), (1, .int x1), (2, .int x2), (3, .int (x3 + ((gM s 37 (ix ((x4 * (4 : Int32)) + x2))) * (gM s 32 (ix x4))))), (4, .int x4)]) hl [1, 2, 3, 0, 4] rfl
            refine lv_iinc (v := (x4 + (1 : Int32))) (lv' := [(4, .int (x4 + (1 : Int32))), (0, .ref (Q 29)), (1, .int x1), (2, .int x2), (3, .int (x3 + ((gM s 37 (ix ((x4 * (4 : Int32)) + x2))) * (gM s 32 (ix x4)))))]) hx hb dX2_findEnough_40 hl (k := 4) rfl (congrArg (fun z => x4 + z) (by decide : Int32.ofInt (1) = (1 : Int32))) (by decide) rfl (fun ls hl => ?_)
            have hl := lv_sub (l' := [(0, .ref (Q 29)), (1, .int x1), (2, .int x2), (3, .int (x3 + ((gM s 37 (ix ((x4 * (4 : Int32)) + x2))) * (gM s 32 (ix x4))))), (4, .int (x4 + (1 : Int32)))]) hl [1, 2, 3, 4, 0] rfl
            refine lv_goto (tgt := 12) hx hb dX2_findEnough_43 (by decide) ?_
            exact ih12 (x3 + ((gM s 37 (ix ((x4 * (4 : Int32)) + x2))) * (gM s 32 (ix x4)))) (x4 + (1 : Int32)) H locs ls hf h (lv_sub hl [0, 1, 2, 3, 4] rfl)
      refine lv_iload_n hx hb dX2_findEnough_2 rfl (lv_at hl 2 rfl) ?_
      refine lv_iconst (v := (4 : Int32)) hx hb dX2_findEnough_3 (by decide) ?_
      refine lv_icmp_ge (tgt := 68) hx hb dX2_findEnough_4 (by decide) (fun c_9 => ?_) (fun c_9 => ?_)
      · have hf := ip c_9 hf
        exact retE_V F hr hlk h hf dX2_findEnough_68
      · have hf := im c_9 hf
        refine lv_iconst (v := (0 : Int32)) hx hb dX2_findEnough_7 (by decide) ?_
        refine lv_istore_n (lv' := [(3, .int (0 : Int32)), (0, .ref (Q 29)), (1, .int x1), (2, .int x2)]) hx hb dX2_findEnough_8 rfl hl (by decide) rfl (fun ls hl => ?_)
        have hl := lv_sub (l' := [(0, .ref (Q 29)), (1, .int x1), (2, .int x2), (3, .int (0 : Int32))]) hl [1, 2, 3, 0] rfl
        refine lv_iconst (v := (0 : Int32)) hx hb dX2_findEnough_9 (by decide) ?_
        refine lv_istore (lv' := [(4, .int (0 : Int32)), (0, .ref (Q 29)), (1, .int x1), (2, .int x2), (3, .int (0 : Int32))]) hx hb dX2_findEnough_10 hl (by decide) rfl (fun ls hl => ?_)
        have hl := lv_sub (l' := [(0, .ref (Q 29)), (1, .int x1), (2, .int x2), (3, .int (0 : Int32)), (4, .int (0 : Int32))]) hl [1, 2, 3, 4, 0] rfl
        exact lab12 x2 s fuelN (0 : Int32) (0 : Int32) H locs ls hf h (lv_sub hl [0, 1, 2, 3, 4] rfl)
  refine lv_iconst (v := (0 : Int32)) hx hb dX2_findEnough_0 (by decide) ?_
  refine lv_istore_n (lv' := [(2, .int (0 : Int32)), (0, .ref (Q 29)), (1, .int x1)]) hx hb dX2_findEnough_1 rfl hl (by decide) rfl (fun ls hl => ?_)
  have hl := lv_sub (l' := [(0, .ref (Q 29)), (1, .int x1), (2, .int (0 : Int32))]) hl [1, 2, 0] rfl
  exact lab2 x1 fuelN (0 : Int32) s H locs ls hf h (lv_sub hl [0, 1, 2] rfl)

set_option maxHeartbeats 8000000 in
set_option maxRecDepth 100000 in
theorem c_Odds_chooseFirst (l : Launch) (Z : ZT) (Q : Nat → Nat) (s : XS) (x1 : Int32) {r : Int32} {s' : XS} (hf : p_Odds_chooseFirst x1 s = some (r, s')) : KI l Z (wX Z Q) yX2_chooseFirst wsX2_chooseFirst { frames := 1, cells := 0, slots := 0, locals := 24 } [.ref (Q 29), .int x1] s r s' := by
  intro sz
  refine met_entry (cc := cX2_chooseFirst) (maxL := 5) (ret := (some .int)) (by decide) rfl (Nat.le_of_ble_eq_true rfl) sz rfl ?_
  generalize va_A (wX Z Q s) sz = A
  intro p e s0 m args below meth c ls F hr hlk h hl
  have hl : lv_has ls 5 [(0, .ref (Q 29)), (1, .int x1)] := hl
  obtain ⟨hx, hb, hml, hown, hts⟩ := id F
  have hinX2 : ∀ w ∈ wsX20, w ∈ wsX2_chooseFirst := by decide +kernel
  obtain ⟨H, eH⟩ : ∃ z, z = s0.heap := ⟨_, rfl⟩
  obtain ⟨locs, eL⟩ : ∃ z : List Loc, z = [] := ⟨_, rfl⟩
  rw [← eH, ← eL] at h ⊢
  unfold p_Odds_chooseFirst at hf
  have lab12 : ∀ (x1 : Int32) (n : Nat) (x2 : Int32) (x3 : Int32) (s : XS) (H : Heap) (locs : List Loc) (ls : Array Slot), lo3 (p_Odds_chooseFirst_B12 x1) n x2 x3 s = some (r, s') → HW Z (wX Z Q) A s0 H locs s → lv_has ls 5 [(0, .ref (Q 29)), (1, .int x1), (2, .int x2), (3, .int x3)] → W p l e { frames := 1, cells := 0, slots := 0, locals := 24 } s0 m args below meth c H locs 0 0 (MQ below (QcI Z (wX Z Q) A r s') args s0 0 0 A) (F0 m 12 ls []) := by
    intro x1 n
    induction n with
    | zero => intro x2 x3 s H locs ls hf; exact absurd hf lo3_z
    | succ n ih12 =>
      intro x2 x3 s H locs ls hf h hl
      have hf := lo3_s hf
      generalize lo3 (p_Odds_chooseFirst_B12 x1) n = c12 at hf ih12
      unfold p_Odds_chooseFirst_B12 at hf
      refine lv_iload_n hx hb dX2_chooseFirst_12 rfl (lv_at hl 3 rfl) ?_
      refine lv_aload_n hx hb dX2_chooseFirst_13 rfl (lv_at hl 0 rfl) ?_
      refine gX_Odds_candidateCount F h hinX2 (hts (.fieldLink RX2 135 "ElectionHouse$Odds" "candidateCount" "I") (by decide +kernel)) dX2_chooseFirst_14 ?_
      refine lv_icmp_ge (tgt := 78) hx hb dX2_chooseFirst_17 (by decide) (fun c_1 => ?_) (fun c_1 => ?_)
      · have hf := ip c_1 hf
        refine lv_iconst (v := (-1 : Int32)) hx hb dX2_chooseFirst_78 (by decide) ?_
        exact retE_I F hr hlk h hf dX2_chooseFirst_79
      · have hf := im c_1 hf
        refine lv_aload_n hx hb dX2_chooseFirst_20 rfl (lv_at hl 0 rfl) ?_
        refine gX_Odds_candidateParties F h hinX2 (hts (.fieldLink RX2 32 "ElectionHouse$Odds" "candidateParties" "[I") (by decide +kernel)) dX2_chooseFirst_21 ?_
        refine lv_iload_n hx hb dX2_chooseFirst_24 rfl (lv_at hl 3 rfl) ?_
        obtain ⟨gi2, hf⟩ := og hf
        refine lX_cparts F h gi2 dX2_chooseFirst_25 ?_
        refine lv_istore (lv' := [(4, .int (gM s 36 (ix x3))), (0, .ref (Q 29)), (1, .int x1), (2, .int x2), (3, .int x3)]) hx hb dX2_chooseFirst_26 hl (by decide) rfl (fun ls hl => ?_)
        have hl := lv_sub (l' := [(0, .ref (Q 29)), (1, .int x1), (2, .int x2), (3, .int x3), (4, .int (gM s 36 (ix x3)))]) hl [1, 2, 3, 4, 0] rfl
        refine lv_iload hx hb dX2_chooseFirst_28 (lv_at hl 4 rfl) ?_
        obtain ⟨r4, hc3, hf⟩ := ob1 hf
        refine call_SI F (c_City_isParty l Z (wX Z Q) s (gM s 36 (ix x3)) hc3) (va_cwS 1 hts gX2_chooseFirst_X0_isParty rfl rfl rfl (by decide +kernel) ⟨Nat.le_of_ble_eq_true rfl, Nat.le_of_ble_eq_true rfl⟩) h rfl hl.1 rfl (Nat.le_of_ble_eq_true rfl) ⟨Nat.zero_le _, Nat.zero_le _⟩ dX2_chooseFirst_30 (fun H locs h => ?_)
        refine lv_if_eq (tgt := 72) hx hb dX2_chooseFirst_33 (by decide) (fun c_6 => ?_) (fun c_6 => ?_)
        · have hf := ip c_6 hf
          refine lv_iinc (v := (x3 + (1 : Int32))) (lv' := [(3, .int (x3 + (1 : Int32))), (0, .ref (Q 29)), (1, .int x1), (2, .int x2), (4, .int (gM s 36 (ix x3)))]) hx hb dX2_chooseFirst_72 hl (k := 3) rfl (congrArg (fun z => x3 + z) (by decide : Int32.ofInt (1) = (1 : Int32))) (by decide) rfl (fun ls hl => ?_)
          have hl := lv_sub (l' := [(0, .ref (Q 29)), (1, .int x1), (2, .int x2), (3, .int (x3 + (1 : Int32))), (4, .int (gM s 36 (ix x3)))]) hl [1, 2, 3, 0, 4] rfl
          refine lv_goto (tgt := 12) hx hb dX2_chooseFirst_75 (by decide) ?_
          exact ih12 x2 (x3 + (1 : Int32)) s H locs ls hf h (lv_sub hl [0, 1, 2, 3] rfl)
        · have hf := im c_6 hf
          refine lv_aload_n hx hb dX2_chooseFirst_36 rfl (lv_at hl 0 rfl) ?_
          refine gX_Odds_enough F h hinX2 (hts (.fieldLink RX2 25 "ElectionHouse$Odds" "enough" "[Z") (by decide +kernel)) dX2_chooseFirst_37 ?_
          refine lv_iload hx hb dX2_chooseFirst_40 (lv_at hl 4 rfl) ?_
          obtain ⟨gi7, hf⟩ := og hf
          refine lX_enough F h gi7 dX2_chooseFirst_42 ?_
          refine lv_if_eq (tgt := 72) hx hb dX2_chooseFirst_43 (by decide) (fun c_8 => ?_) (fun c_8 => ?_)
          · have hf := ip c_8 hf
            refine lv_iinc (v := (x3 + (1 : Int32))) (lv' := [(3, .int (x3 + (1 : Int32))), (0, .ref (Q 29)), (1, .int x1), (2, .int x2), (4, .int (gM s 36 (ix x3)))]) hx hb dX2_chooseFirst_72 hl (k := 3) rfl (congrArg (fun z => x3 + z) (by decide : Int32.ofInt (1) = (1 : Int32))) (by decide) rfl (fun ls hl => ?_)
            have hl := lv_sub (l' := [(0, .ref (Q 29)), (1, .int x1), (2, .int x2), (3, .int (x3 + (1 : Int32))), (4, .int (gM s 36 (ix x3)))]) hl [1, 2, 3, 0, 4] rfl
            refine lv_goto (tgt := 12) hx hb dX2_chooseFirst_75 (by decide) ?_
            exact ih12 x2 (x3 + (1 : Int32)) s H locs ls hf h (lv_sub hl [0, 1, 2, 3] rfl)
          · have hf := im c_8 hf
            refine lv_aload_n hx hb dX2_chooseFirst_46 rfl (lv_at hl 0 rfl) ?_
            refine gX_Odds_gets F h hinX2 (hts (.fieldLink RX2 22 "ElectionHouse$Odds" "gets" "[I") (by decide +kernel)) dX2_chooseFirst_47 ?_
            refine lv_iload hx hb dX2_chooseFirst_50 (lv_at hl 4 rfl) ?_
            refine lv_dup2_11 hx hb dX2_chooseFirst_52 rfl rfl ?_
            obtain ⟨gi9, hf⟩ := og hf
            refine lX_ogets F h gi9 dX2_chooseFirst_53 ?_
            refine lv_iconst (v := (1 : Int32)) hx hb dX2_chooseFirst_54 (by decide) ?_
            refine lv_iadd hx hb dX2_chooseFirst_55 ?_
            obtain ⟨gi10, hf⟩ := og hf
            refine sX_ogets F h gi10 dX2_chooseFirst_56 (fun H locs h => ?_)
            obtain ⟨s11, es, hf⟩ := olq hf
            rw [← es] at h
            refine lv_iinc (v := (x2 + (1 : Int32))) (lv' := [(2, .int (x2 + (1 : Int32))), (0, .ref (Q 29)), (1, .int x1), (3, .int x3), (4, .int (gM s 36 (ix x3)))]) hx hb dX2_chooseFirst_57 hl (k := 2) rfl (congrArg (fun z => x2 + z) (by decide : Int32.ofInt (1) = (1 : Int32))) (by decide) rfl (fun ls hl => ?_)
            have hl := lv_sub (l' := [(0, .ref (Q 29)), (1, .int x1), (2, .int (x2 + (1 : Int32))), (3, .int x3), (4, .int (gM s 36 (ix x3)))]) hl [1, 2, 0, 3, 4] rfl
            refine lv_iload_n hx hb dX2_chooseFirst_60 rfl (lv_at hl 2 rfl) ?_
            refine lv_iload_n hx hb dX2_chooseFirst_61 rfl (lv_at hl 1 rfl) ?_
            refine lv_icmp_lt (tgt := 72) hx hb dX2_chooseFirst_62 (by decide) (fun c_12 => ?_) (fun c_12 => ?_)
            · have hf := ip c_12 hf
              refine lv_iinc (v := (x3 + (1 : Int32))) (lv' := [(3, .int (x3 + (1 : Int32))), (0, .ref (Q 29)), (1, .int x1), (2, .int (x2 + (1 : Int32))), (4, .int (gM s 36 (ix x3)))]) hx hb dX2_chooseFirst_72 hl (k := 3) rfl (congrArg (fun z => x3 + z) (by decide : Int32.ofInt (1) = (1 : Int32))) (by decide) rfl (fun ls hl => ?_)
              have hl := lv_sub (l' := [(0, .ref (Q 29)), (1, .int x1), (2, .int (x2 + (1 : Int32))), (3, .int (x3 + (1 : Int32))), (4, .int (gM s 36 (ix x3)))]) hl [1, 2, 3, 0, 4] rfl
              refine lv_goto (tgt := 12) hx hb dX2_chooseFirst_75 (by decide) ?_
              exact ih12 (x2 + (1 : Int32)) (x3 + (1 : Int32)) s11 H locs ls hf h (lv_sub hl [0, 1, 2, 3] rfl)
            · have hf := im c_12 hf
              refine lv_aload_n hx hb dX2_chooseFirst_65 rfl (lv_at hl 0 rfl) ?_
              refine gX_Odds_candidates F h hinX2 (hts (.fieldLink RX2 29 "ElectionHouse$Odds" "candidates" "[I") (by decide +kernel)) dX2_chooseFirst_66 ?_
              refine lv_iload_n hx hb dX2_chooseFirst_69 rfl (lv_at hl 3 rfl) ?_
              obtain ⟨gi13, hf⟩ := og hf
              refine lX_cands F h gi13 dX2_chooseFirst_70 ?_
              exact retE_I F hr hlk h hf dX2_chooseFirst_71
  refine lv_aload_n hx hb dX2_chooseFirst_0 rfl (lv_at hl 0 rfl) ?_
  refine gX_Odds_gets F h hinX2 (hts (.fieldLink RX2 22 "ElectionHouse$Odds" "gets" "[I") (by decide +kernel)) dX2_chooseFirst_1 ?_
  refine lv_iconst (v := (0 : Int32)) hx hb dX2_chooseFirst_4 (by decide) ?_
  obtain ⟨s16, hc14, hf⟩ := ob1 hf
  refine call_SV F (c_fill_ogets l Z Q s (0 : Int32) hc14) (va_cwS 2 hts gX2_chooseFirst_J7_fill_53178 rfl rfl rfl (by decide +kernel) ⟨Nat.le_of_ble_eq_true rfl, Nat.le_of_ble_eq_true rfl⟩) h rfl hl.1 rfl (Nat.le_of_ble_eq_true rfl) ⟨Nat.zero_le _, Nat.zero_le _⟩ dX2_chooseFirst_5 (fun H locs h => ?_)
  refine lv_iconst (v := (0 : Int32)) hx hb dX2_chooseFirst_8 (by decide) ?_
  refine lv_istore_n (lv' := [(2, .int (0 : Int32)), (0, .ref (Q 29)), (1, .int x1)]) hx hb dX2_chooseFirst_9 rfl hl (by decide) rfl (fun ls hl => ?_)
  have hl := lv_sub (l' := [(0, .ref (Q 29)), (1, .int x1), (2, .int (0 : Int32))]) hl [1, 2, 0] rfl
  refine lv_iconst (v := (0 : Int32)) hx hb dX2_chooseFirst_10 (by decide) ?_
  refine lv_istore_n (lv' := [(3, .int (0 : Int32)), (0, .ref (Q 29)), (1, .int x1), (2, .int (0 : Int32))]) hx hb dX2_chooseFirst_11 rfl hl (by decide) rfl (fun ls hl => ?_)
  have hl := lv_sub (l' := [(0, .ref (Q 29)), (1, .int x1), (2, .int (0 : Int32)), (3, .int (0 : Int32))]) hl [1, 2, 3, 0] rfl
  exact lab12 x1 fuelN (0 : Int32) (0 : Int32) s16 H locs ls hf h (lv_sub hl [0, 1, 2, 3] rfl)

set_option maxHeartbeats 8000000 in
set_option maxRecDepth 100000 in
theorem c_Odds_passBody (l : Launch) (Z : ZT) (Q : Nat → Nat) (s : XS) (k1 : Nat) (x2 : Int32) (x3 : Int32) (x4 : Int64) (hk1 : k1 < 2) {r : Int32} {s' : XS} (hf : p_Odds_passBody k1 x2 x3 x4 s = some (r, s')) : KI l Z (wX Z Q) yX2_passBody wsX2_passBody { frames := 3, cells := 0, slots := 0, locals := 80 } [.ref (Q 29), .ref (Q (19 + 5 * k1)), .int x2, .int x3, .long x4] s r s' := by
  intro sz
  refine met_entry (cc := cX2_passBody) (maxL := 8) (ret := (some .boolean)) (by decide) rfl (Nat.le_of_ble_eq_true rfl) sz rfl ?_
  generalize va_A (wX Z Q s) sz = A
  intro p e s0 m args below meth c ls F hr hlk h hl
  have hl : lv_has ls 8 [(0, .ref (Q 29)), (1, .ref (Q (19 + 5 * k1))), (2, .int x2), (3, .int x3), (4, .long x4)] := hl
  obtain ⟨hx, hb, hml, hown, hts⟩ := id F
  have hinX2 : ∀ w ∈ wsX20, w ∈ wsX2_passBody := by decide +kernel
  obtain ⟨H, eH⟩ : ∃ z, z = s0.heap := ⟨_, rfl⟩
  obtain ⟨locs, eL⟩ : ∃ z : List Loc, z = [] := ⟨_, rfl⟩
  rw [← eH, ← eL] at h ⊢
  unfold p_Odds_passBody at hf
  have lab69 : ∀ (x2 : Int32) (x4 : Int64) (s : XS) (H : Heap) (locs : List Loc) (ls : Array Slot), p_Odds_passBody_K69 x2 x4 s = some (r, s') → HW Z (wX Z Q) A s0 H locs s → lv_has ls 8 [(0, .ref (Q 29)), (2, .int x2), (4, .long x4)] → W p l e { frames := 3, cells := 0, slots := 0, locals := 80 } s0 m args below meth c H locs 0 0 (MQ below (QcI Z (wX Z Q) A r s') args s0 0 0 A) (F0 m 69 ls []) := by
    intro x2 x4 s H locs ls hf h hl
    unfold p_Odds_passBody_K69 at hf
    refine lv_aload_n hx hb dX2_passBody_69 rfl (lv_at hl 0 rfl) ?_
    refine lv_iload_n hx hb dX2_passBody_70 rfl (lv_at hl 1 rfl) ?_
    refine lv_lload hx hb dX2_passBody_71 (lv_at hl 2 rfl) ?_
    obtain ⟨s3, hc1, hf⟩ := ob1 hf
    refine call_VV F (c_Odds_missStep l Z Q s x2 x4 hc1) (cwV 2 hts gX2_passBody_X2_missStep rfl rfl rfl (by decide +kernel) ⟨Nat.le_of_ble_eq_true rfl, Nat.le_of_ble_eq_true rfl⟩) h (rcX_Odds h) rfl hl.1 rfl (Nat.le_of_ble_eq_true rfl) ⟨Nat.zero_le _, Nat.zero_le _⟩ dX2_passBody_73 (fun H locs h => ?_)
    refine lv_iconst (v := (1 : Int32)) hx hb dX2_passBody_76 (by decide) ?_
    exact retE_Z F hr hlk (by decide) h hf dX2_passBody_77
  refine lv_aload_n hx hb dX2_passBody_0 rfl (lv_at hl 1 rfl) ?_
  refine lv_iload_n hx hb dX2_passBody_1 rfl (lv_at hl 2 rfl) ?_
  obtain ⟨r5, hc4, hf⟩ := ob1 hf
  refine call_VI F (c_Plan_sizeOf l Z Q s k1 x2 hk1 hc4) (cwV 1 hts gX2_passBody_X3_sizeOf rfl rfl rfl (by decide +kernel) ⟨Nat.le_of_ble_eq_true rfl, Nat.le_of_ble_eq_true rfl⟩) h (rcX_Plan hk1 h) rfl hl.1 rfl (Nat.le_of_ble_eq_true rfl) ⟨Nat.zero_le _, Nat.zero_le _⟩ dX2_passBody_2 (fun H locs h => ?_)
  refine lv_istore (lv' := [(6, .int r5), (0, .ref (Q 29)), (1, .ref (Q (19 + 5 * k1))), (2, .int x2), (3, .int x3), (4, .long x4)]) hx hb dX2_passBody_5 hl (by decide) rfl (fun ls hl => ?_)
  have hl := lv_sub (l' := [(0, .ref (Q 29)), (1, .ref (Q (19 + 5 * k1))), (2, .int x2), (3, .int x3), (4, .long x4), (6, .int r5)]) hl [1, 2, 3, 4, 5, 0] rfl
  refine lv_aload_n hx hb dX2_passBody_7 rfl (lv_at hl 1 rfl) ?_
  refine lv_iload_n hx hb dX2_passBody_8 rfl (lv_at hl 2 rfl) ?_
  obtain ⟨r8, hc7, hf⟩ := ob1 hf
  refine call_VI F (c_Plan_kindOf l Z Q s k1 x2 hk1 hc7) (cwV 1 hts gX2_passBody_X3_kindOf rfl rfl rfl (by decide +kernel) ⟨Nat.le_of_ble_eq_true rfl, Nat.le_of_ble_eq_true rfl⟩) h (rcX_Plan hk1 h) rfl hl.1 rfl (Nat.le_of_ble_eq_true rfl) ⟨Nat.zero_le _, Nat.zero_le _⟩ dX2_passBody_9 (fun H locs h => ?_)
  refine lv_iconst (v := (1 : Int32)) hx hb dX2_passBody_12 (by decide) ?_
  refine lv_icmp_ne (tgt := 40) hx hb dX2_passBody_13 (by decide) (fun c_10 => ?_) (fun c_10 => ?_)
  · have hf := im c_10 hf
    refine lv_aload_n hx hb dX2_passBody_40 rfl (lv_at hl 0 rfl) ?_
    refine lv_aload_n hx hb dX2_passBody_41 rfl (lv_at hl 1 rfl) ?_
    refine lv_iload_n hx hb dX2_passBody_42 rfl (lv_at hl 2 rfl) ?_
    obtain ⟨r12, hc11, hf⟩ := ob1 hf
    refine call_VI F (c_Plan_votesOf l Z Q s k1 x2 hk1 hc11) (cwV 1 hts gX2_passBody_X3_votesOf rfl rfl rfl (by decide +kernel) ⟨Nat.le_of_ble_eq_true rfl, Nat.le_of_ble_eq_true rfl⟩) h (rcX_Plan hk1 h) rfl hl.1 rfl (Nat.le_of_ble_eq_true rfl) ⟨Nat.zero_le _, Nat.zero_le _⟩ dX2_passBody_43 (fun H locs h => ?_)
    obtain ⟨s16, hc14, hf⟩ := ob1 hf
    refine call_VV F (c_Odds_findEnough l Z Q s r12 hc14) (cwV 1 hts gX2_passBody_X2_findEnough rfl rfl rfl (by decide +kernel) ⟨Nat.le_of_ble_eq_true rfl, Nat.le_of_ble_eq_true rfl⟩) h (rcX_Odds h) rfl hl.1 rfl (Nat.le_of_ble_eq_true rfl) ⟨Nat.zero_le _, Nat.zero_le _⟩ dX2_passBody_46 (fun H locs h => ?_)
    refine lv_aload_n hx hb dX2_passBody_49 rfl (lv_at hl 0 rfl) ?_
    refine lv_iload hx hb dX2_passBody_50 (lv_at hl 5 rfl) ?_
    obtain ⟨r18, s19, hc17, hf⟩ := ob2 hf
    refine call_VI F (c_Odds_chooseFirst l Z Q s16 r5 hc17) (cwV 1 hts gX2_passBody_X2_chooseFirst rfl rfl rfl (by decide +kernel) ⟨Nat.le_of_ble_eq_true rfl, Nat.le_of_ble_eq_true rfl⟩) h (rcX_Odds h) rfl hl.1 rfl (Nat.le_of_ble_eq_true rfl) ⟨Nat.zero_le _, Nat.zero_le _⟩ dX2_passBody_52 (fun H locs h => ?_)
    refine lv_istore (lv' := [(7, .int r18), (0, .ref (Q 29)), (1, .ref (Q (19 + 5 * k1))), (2, .int x2), (3, .int x3), (4, .long x4), (6, .int r5)]) hx hb dX2_passBody_55 hl (by decide) rfl (fun ls hl => ?_)
    have hl := lv_sub (l' := [(0, .ref (Q 29)), (1, .ref (Q (19 + 5 * k1))), (2, .int x2), (3, .int x3), (4, .long x4), (6, .int r5), (7, .int r18)]) hl [1, 2, 3, 4, 5, 6, 0] rfl
    refine lv_iload hx hb dX2_passBody_57 (lv_at hl 6 rfl) ?_
    refine lv_if_lt (tgt := 69) hx hb dX2_passBody_59 (by decide) (fun c_20 => ?_) (fun c_20 => ?_)
    · have hf := ip c_20 hf
      exact lab69 x2 x4 s19 H locs ls hf h (lv_sub hl [0, 2, 4] rfl)
    · have hf := im c_20 hf
      refine lv_iload hx hb dX2_passBody_62 (lv_at hl 6 rfl) ?_
      refine lv_bipush (v := (40 : Int32)) hx hb dX2_passBody_64 (by decide) ?_
      refine lv_icmp_lt (tgt := 78) hx hb dX2_passBody_66 (by decide) (fun c_21 => ?_) (fun c_21 => ?_)
      · have hf := ip c_21 hf
        refine lv_aload_n hx hb dX2_passBody_78 rfl (lv_at hl 1 rfl) ?_
        refine lv_iload_n hx hb dX2_passBody_79 rfl (lv_at hl 2 rfl) ?_
        obtain ⟨r23, hc22, hf⟩ := ob1 hf
        refine call_VI F (c_Plan_kindOf l Z Q s19 k1 x2 hk1 hc22) (cwV 1 hts gX2_passBody_X3_kindOf rfl rfl rfl (by decide +kernel) ⟨Nat.le_of_ble_eq_true rfl, Nat.le_of_ble_eq_true rfl⟩) h (rcX_Plan hk1 h) rfl hl.1 rfl (Nat.le_of_ble_eq_true rfl) ⟨Nat.zero_le _, Nat.zero_le _⟩ dX2_passBody_80 (fun H locs h => ?_)
        refine lv_iconst (v := (3 : Int32)) hx hb dX2_passBody_83 (by decide) ?_
        refine lv_icmp_ne (tgt := 101) hx hb dX2_passBody_84 (by decide) (fun c_25 => ?_) (fun c_25 => ?_)
        · have hf := im c_25 hf
          refine lv_aload_n hx hb dX2_passBody_101 rfl (lv_at hl 0 rfl) ?_
          refine gX_Odds_behind F h hinX2 (hts (.fieldLink RX2 51 "ElectionHouse$Odds" "behind" "LElectionHouse$Tally;") (by decide +kernel)) dX2_passBody_102 ?_
          have hb26 : (gG s19 29 14) < 2 := h.2.2.2.2.2.1 _ _
          refine lv_aload_n hx hb dX2_passBody_105 rfl (lv_at hl 0 rfl) ?_
          obtain ⟨r28, hc27, hf⟩ := ob1 hf
          refine call_VI F (c_Odds_keyOfGets l Z Q s19 hc27) (cwV 0 hts gX2_passBody_X2_keyOfGets rfl rfl rfl (by decide +kernel) ⟨Nat.le_of_ble_eq_true rfl, Nat.le_of_ble_eq_true rfl⟩) h (rcX_Odds h) rfl hl.1 rfl (Nat.le_of_ble_eq_true rfl) ⟨Nat.zero_le _, Nat.zero_le _⟩ dX2_passBody_106 (fun H locs h => ?_)
          refine lv_lload hx hb dX2_passBody_109 (lv_at hl 4 rfl) ?_
          obtain ⟨r31, s32, hc30, hf⟩ := ob2 hf
          refine call_VI F (c_Tally_add l Z Q s19 (gG s19 29 14) r28 x4 hb26 hc30) (cwV 2 hts gX2_passBody_X7_add rfl rfl rfl (by decide +kernel) ⟨Nat.le_of_ble_eq_true rfl, Nat.le_of_ble_eq_true rfl⟩) h (rcX_Tally hb26 h) rfl hl.1 rfl (Nat.le_of_ble_eq_true rfl) ⟨Nat.zero_le _, Nat.zero_le _⟩ dX2_passBody_111 (fun H locs h => ?_)
          obtain ⟨gz, hf⟩ := og hf
          exact retE_Z F hr hlk gz h hf dX2_passBody_114
        · have hf := ip c_25 hf
          refine lv_aload_n hx hb dX2_passBody_87 rfl (lv_at hl 0 rfl) ?_
          refine gX_Odds_scratch F h hinX2 (hts (.fieldLink RX2 41 "ElectionHouse$Odds" "scratch" "[J") (by decide +kernel)) dX2_passBody_88 ?_
          have hb33 : (gG s19 29 12) < 2 := h.2.2.2.2.2.1 _ _
          refine lv_iload hx hb dX2_passBody_91 (lv_at hl 6 rfl) ?_
          refine lv_dup2_11 hx hb dX2_passBody_93 rfl rfl ?_
          obtain ⟨gi34, hf⟩ := og hf
          refine lX_rs hb33 F h gi34 dX2_passBody_94 ?_
          refine lv_lload hx hb dX2_passBody_95 (lv_at hl 4 rfl) ?_
          refine lv_ladd hx hb dX2_passBody_97 ?_
          obtain ⟨gi35, hf⟩ := og hf
          refine sX_rs hb33 F h gi35 dX2_passBody_98 (fun H locs h => ?_)
          obtain ⟨s36, es, hf⟩ := olq hf
          rw [← es] at h
          refine lv_iconst (v := (1 : Int32)) hx hb dX2_passBody_99 (by decide) ?_
          exact retE_Z F hr hlk (by decide) h hf dX2_passBody_100
      · have hf := im c_21 hf
        exact lab69 x2 x4 s19 H locs ls hf h (lv_sub hl [0, 2, 4] rfl)
  · have hf := ip c_10 hf
    refine lv_iload hx hb dX2_passBody_16 (lv_at hl 5 rfl) ?_
    refine lv_iload_n hx hb dX2_passBody_18 rfl (lv_at hl 3 rfl) ?_
    refine lv_icmp_gt (tgt := 31) hx hb dX2_passBody_19 (by decide) (fun c_37 => ?_) (fun c_37 => ?_)
    · have hf := ip c_37 hf
      refine lv_aload_n hx hb dX2_passBody_31 rfl (lv_at hl 0 rfl) ?_
      refine lv_iload_n hx hb dX2_passBody_32 rfl (lv_at hl 2 rfl) ?_
      refine lv_lload hx hb dX2_passBody_33 (lv_at hl 4 rfl) ?_
      obtain ⟨s40, hc38, hf⟩ := ob1 hf
      refine call_VV F (c_Odds_missStep l Z Q s x2 x4 hc38) (cwV 2 hts gX2_passBody_X2_missStep rfl rfl rfl (by decide +kernel) ⟨Nat.le_of_ble_eq_true rfl, Nat.le_of_ble_eq_true rfl⟩) h (rcX_Odds h) rfl hl.1 rfl (Nat.le_of_ble_eq_true rfl) ⟨Nat.zero_le _, Nat.zero_le _⟩ dX2_passBody_35 (fun H locs h => ?_)
      refine lv_iconst (v := (1 : Int32)) hx hb dX2_passBody_38 (by decide) ?_
      exact retE_Z F hr hlk (by decide) h hf dX2_passBody_39
    · have hf := im c_37 hf
      refine lv_aload_n hx hb dX2_passBody_22 rfl (lv_at hl 0 rfl) ?_
      refine lv_iload hx hb dX2_passBody_23 (lv_at hl 5 rfl) ?_
      refine lv_lload hx hb dX2_passBody_25 (lv_at hl 4 rfl) ?_
      obtain ⟨r42, s43, hc41, hf⟩ := ob2 hf
      refine call_VI F (c_Odds_drawSets l Z Q s r5 x4 hc41) (cwV 2 hts gX2_passBody_X2_drawSets rfl rfl rfl (by decide +kernel) ⟨Nat.le_of_ble_eq_true rfl, Nat.le_of_ble_eq_true rfl⟩) h (rcX_Odds h) rfl hl.1 rfl (Nat.le_of_ble_eq_true rfl) ⟨Nat.zero_le _, Nat.zero_le _⟩ dX2_passBody_27 (fun H locs h => ?_)
      obtain ⟨gz, hf⟩ := og hf
      exact retE_Z F hr hlk gz h hf dX2_passBody_30

set_option maxHeartbeats 8000000 in
set_option maxRecDepth 100000 in
theorem c_Odds_passStep (l : Launch) (Z : ZT) (Q : Nat → Nat) (s : XS) (k1 : Nat) (x2 : Int32) (x3 : Int32) (hk1 : k1 < 2) {r : Int32} {s' : XS} (hf : p_Odds_passStep k1 x2 x3 s = some (r, s')) : KI l Z (wX Z Q) yX2_passStep wsX2_passStep { frames := 4, cells := 0, slots := 0, locals := 107 } [.ref (Q 29), .ref (Q (19 + 5 * k1)), .int x2, .int x3] s r s' := by
  intro sz
  refine met_entry (cc := cX2_passStep) (maxL := 5) (ret := (some .boolean)) (by decide) rfl (Nat.le_of_ble_eq_true rfl) sz rfl ?_
  generalize va_A (wX Z Q s) sz = A
  intro p e s0 m args below meth c ls F hr hlk h hl
  have hl : lv_has ls 5 [(0, .ref (Q 29)), (1, .ref (Q (19 + 5 * k1))), (2, .int x2), (3, .int x3)] := hl
  obtain ⟨hx, hb, hml, hown, hts⟩ := id F
  have hinX2 : ∀ w ∈ wsX20, w ∈ wsX2_passStep := by decide +kernel
  obtain ⟨H, eH⟩ : ∃ z, z = s0.heap := ⟨_, rfl⟩
  obtain ⟨locs, eL⟩ : ∃ z : List Loc, z = [] := ⟨_, rfl⟩
  rw [← eH, ← eL] at h ⊢
  unfold p_Odds_passStep at hf
  have lab10 : ∀ (k1 : Nat) (x2 : Int32) (x3 : Int32) (n : Nat) (x4 : Int32) (s : XS) (H : Heap) (locs : List Loc) (ls : Array Slot), k1 < 2 → lo2 (p_Odds_passStep_B10 k1 x2 x3) n x4 s = some (r, s') → HW Z (wX Z Q) A s0 H locs s → lv_has ls 5 [(0, .ref (Q 29)), (1, .ref (Q (19 + 5 * k1))), (2, .int x2), (3, .int x3), (4, .int x4)] → W p l e { frames := 4, cells := 0, slots := 0, locals := 107 } s0 m args below meth c H locs 0 0 (MQ below (QcI Z (wX Z Q) A r s') args s0 0 0 A) (F0 m 10 ls []) := by
    intro k1 x2 x3 n
    induction n with
    | zero => intro x4 s H locs ls hk1 hf; exact absurd hf lo2_z
    | succ n ih10 =>
      intro x4 s H locs ls hk1 hf h hl
      have hf := lo2_s hf
      generalize lo2 (p_Odds_passStep_B10 k1 x2 x3) n = c10 at hf ih10
      unfold p_Odds_passStep_B10 at hf
      refine lv_iload hx hb dX2_passStep_10 (lv_at hl 4 rfl) ?_
      refine lv_aload_n hx hb dX2_passStep_12 rfl (lv_at hl 0 rfl) ?_
      refine gX_Odds_ahead F h hinX2 (hts (.fieldLink RX2 47 "ElectionHouse$Odds" "ahead" "LElectionHouse$Tally;") (by decide +kernel)) dX2_passStep_13 ?_
      have hb1 : (gG s 29 13) < 2 := h.2.2.2.2.2.1 _ _
      obtain ⟨r3, hc2, hf⟩ := ob1 hf
      refine call_VI F (c_Tally_length l Z Q s (gG s 29 13) hb1 hc2) (cwV 0 hts gX2_passStep_X7_length rfl rfl rfl (by decide +kernel) ⟨Nat.le_of_ble_eq_true rfl, Nat.le_of_ble_eq_true rfl⟩) h (rcX_Tally hb1 h) rfl hl.1 rfl (Nat.le_of_ble_eq_true rfl) ⟨Nat.zero_le _, Nat.zero_le _⟩ dX2_passStep_16 (fun H locs h => ?_)
      refine lv_icmp_ge (tgt := 63) hx hb dX2_passStep_19 (by decide) (fun c_5 => ?_) (fun c_5 => ?_)
      · have hf := ip c_5 hf
        refine lv_aload_n hx hb dX2_passStep_63 rfl (lv_at hl 0 rfl) ?_
        refine gX_Odds_ahead F h hinX2 (hts (.fieldLink RX2 47 "ElectionHouse$Odds" "ahead" "LElectionHouse$Tally;") (by decide +kernel)) dX2_passStep_64 ?_
        have hb6 : (gG s 29 13) < 2 := h.2.2.2.2.2.1 _ _
        refine lv_astore (lv' := [(4, .ref (Q (40 + 4 * (gG s 29 13)))), (0, .ref (Q 29)), (1, .ref (Q (19 + 5 * k1))), (2, .int x2), (3, .int x3)]) hx hb dX2_passStep_67 hl (by decide) rfl (fun ls hl => ?_)
        have hl := lv_sub (l' := [(0, .ref (Q 29)), (1, .ref (Q (19 + 5 * k1))), (2, .int x2), (3, .int x3), (4, .ref (Q (40 + 4 * (gG s 29 13))))]) hl [1, 2, 3, 4, 0] rfl
        refine lv_aload_n hx hb dX2_passStep_69 rfl (lv_at hl 0 rfl) ?_
        refine lv_aload_n hx hb dX2_passStep_70 rfl (lv_at hl 0 rfl) ?_
        refine gX_Odds_behind F h hinX2 (hts (.fieldLink RX2 51 "ElectionHouse$Odds" "behind" "LElectionHouse$Tally;") (by decide +kernel)) dX2_passStep_71 ?_
        have hb7 : (gG s 29 14) < 2 := h.2.2.2.2.2.1 _ _
        refine pX_Odds_ahead hb7 F h hinX2 (hts (.fieldLink RX2 47 "ElectionHouse$Odds" "ahead" "LElectionHouse$Tally;") (by decide +kernel)) dX2_passStep_74 (fun H locs h => ?_)
        obtain ⟨s8, es, hf⟩ := olq hf
        rw [← es] at h
        refine lv_aload_n hx hb dX2_passStep_77 rfl (lv_at hl 0 rfl) ?_
        refine lv_aload hx hb dX2_passStep_78 (lv_at hl 4 rfl) ?_
        refine pX_Odds_behind hb6 F h hinX2 (hts (.fieldLink RX2 51 "ElectionHouse$Odds" "behind" "LElectionHouse$Tally;") (by decide +kernel)) dX2_passStep_80 (fun H locs h => ?_)
        obtain ⟨s9, es, hf⟩ := olq hf
        rw [← es] at h
        refine lv_iconst (v := (1 : Int32)) hx hb dX2_passStep_83 (by decide) ?_
        exact retE_Z F hr hlk (by decide) h hf dX2_passStep_84
      · have hf := im c_5 hf
        refine lv_aload_n hx hb dX2_passStep_22 rfl (lv_at hl 0 rfl) ?_
        refine lv_aload_n hx hb dX2_passStep_23 rfl (lv_at hl 0 rfl) ?_
        refine gX_Odds_ahead F h hinX2 (hts (.fieldLink RX2 47 "ElectionHouse$Odds" "ahead" "LElectionHouse$Tally;") (by decide +kernel)) dX2_passStep_24 ?_
        have hb10 : (gG s 29 13) < 2 := h.2.2.2.2.2.1 _ _
        refine lv_iload hx hb dX2_passStep_27 (lv_at hl 4 rfl) ?_
        obtain ⟨r12, hc11, hf⟩ := ob1 hf
        refine call_VI F (c_Tally_keyAt l Z Q s (gG s 29 13) x4 hb10 hc11) (cwV 1 hts gX2_passStep_X7_keyAt rfl rfl rfl (by decide +kernel) ⟨Nat.le_of_ble_eq_true rfl, Nat.le_of_ble_eq_true rfl⟩) h (rcX_Tally hb10 h) rfl hl.1 rfl (Nat.le_of_ble_eq_true rfl) ⟨Nat.zero_le _, Nat.zero_le _⟩ dX2_passStep_29 (fun H locs h => ?_)
        refine lv_iload_n hx hb dX2_passStep_32 rfl (lv_at hl 3 rfl) ?_
        obtain ⟨s16, hc14, hf⟩ := ob1 hf
        refine call_VV F (c_Odds_spreadKey l Z Q s r12 x3 hc14) (cwV 2 hts gX2_passStep_X2_spreadKey rfl rfl rfl (by decide +kernel) ⟨Nat.le_of_ble_eq_true rfl, Nat.le_of_ble_eq_true rfl⟩) h (rcX_Odds h) rfl hl.1 rfl (Nat.le_of_ble_eq_true rfl) ⟨Nat.zero_le _, Nat.zero_le _⟩ dX2_passStep_33 (fun H locs h => ?_)
        refine lv_aload_n hx hb dX2_passStep_36 rfl (lv_at hl 0 rfl) ?_
        refine lv_aload_n hx hb dX2_passStep_37 rfl (lv_at hl 1 rfl) ?_
        refine lv_iload_n hx hb dX2_passStep_38 rfl (lv_at hl 2 rfl) ?_
        refine lv_iload_n hx hb dX2_passStep_39 rfl (lv_at hl 3 rfl) ?_
        refine lv_aload_n hx hb dX2_passStep_40 rfl (lv_at hl 0 rfl) ?_
        refine gX_Odds_ahead F h hinX2 (hts (.fieldLink RX2 47 "ElectionHouse$Odds" "ahead" "LElectionHouse$Tally;") (by decide +kernel)) dX2_passStep_41 ?_
        have hb17 : (gG s16 29 13) < 2 := h.2.2.2.2.2.1 _ _
        refine lv_iload hx hb dX2_passStep_44 (lv_at hl 4 rfl) ?_
        obtain ⟨r19, hc18, hf⟩ := ob1 hf
        refine call_VL F (c_Tally_waysAt l Z Q s16 (gG s16 29 13) x4 hb17 hc18) (cwV 1 hts gX2_passStep_X7_waysAt rfl rfl rfl (by decide +kernel) ⟨Nat.le_of_ble_eq_true rfl, Nat.le_of_ble_eq_true rfl⟩) h (rcX_Tally hb17 h) rfl hl.1 rfl (Nat.le_of_ble_eq_true rfl) ⟨Nat.zero_le _, Nat.zero_le _⟩ dX2_passStep_46 (fun H locs h => ?_)
        obtain ⟨r22, s23, hc21, hf⟩ := ob2 hf
        refine call_VI F (c_Odds_passBody l Z Q s16 k1 x2 x3 r19 hk1 hc21) (cwV 4 hts gX2_passStep_X2_passBody rfl rfl rfl (by decide +kernel) ⟨Nat.le_of_ble_eq_true rfl, Nat.le_of_ble_eq_true rfl⟩) h (rcX_Odds h) rfl hl.1 rfl (Nat.le_of_ble_eq_true rfl) ⟨Nat.zero_le _, Nat.zero_le _⟩ dX2_passStep_49 (fun H locs h => ?_)
        refine lv_if_ne (tgt := 57) hx hb dX2_passStep_52 (by decide) (fun c_24 => ?_) (fun c_24 => ?_)
        · have hf := im c_24 hf
          refine lv_iinc (v := (x4 + (1 : Int32))) (lv' := [(4, .int (x4 + (1 : Int32))), (0, .ref (Q 29)), (1, .ref (Q (19 + 5 * k1))), (2, .int x2), (3, .int x3)]) hx hb dX2_passStep_57 hl (k := 4) rfl (congrArg (fun z => x4 + z) (by decide : Int32.ofInt (1) = (1 : Int32))) (by decide) rfl (fun ls hl => ?_)
          have hl := lv_sub (l' := [(0, .ref (Q 29)), (1, .ref (Q (19 + 5 * k1))), (2, .int x2), (3, .int x3), (4, .int (x4 + (1 : Int32)))]) hl [1, 2, 3, 4, 0] rfl
          refine lv_goto (tgt := 10) hx hb dX2_passStep_60 (by decide) ?_
          exact ih10 (x4 + (1 : Int32)) s23 H locs ls hk1 hf h (lv_sub hl [0, 1, 2, 3, 4] rfl)
        · have hf := ip c_24 hf
          refine lv_iconst (v := (0 : Int32)) hx hb dX2_passStep_55 (by decide) ?_
          exact retE_Z F hr hlk (by decide) h hf dX2_passStep_56
  refine lv_aload_n hx hb dX2_passStep_0 rfl (lv_at hl 0 rfl) ?_
  refine gX_Odds_behind F h hinX2 (hts (.fieldLink RX2 51 "ElectionHouse$Odds" "behind" "LElectionHouse$Tally;") (by decide +kernel)) dX2_passStep_1 ?_
  have hb25 : (gG s 29 14) < 2 := h.2.2.2.2.2.1 _ _
  obtain ⟨s28, hc26, hf⟩ := ob1 hf
  refine call_VV F (c_Tally_clear l Z Q s (gG s 29 14) hb25 hc26) (cwV 0 hts gX2_passStep_X7_clear rfl rfl rfl (by decide +kernel) ⟨Nat.le_of_ble_eq_true rfl, Nat.le_of_ble_eq_true rfl⟩) h (rcX_Tally hb25 h) rfl hl.1 rfl (Nat.le_of_ble_eq_true rfl) ⟨Nat.zero_le _, Nat.zero_le _⟩ dX2_passStep_4 (fun H locs h => ?_)
  refine lv_iconst (v := (0 : Int32)) hx hb dX2_passStep_7 (by decide) ?_
  refine lv_istore (lv' := [(4, .int (0 : Int32)), (0, .ref (Q 29)), (1, .ref (Q (19 + 5 * k1))), (2, .int x2), (3, .int x3)]) hx hb dX2_passStep_8 hl (by decide) rfl (fun ls hl => ?_)
  have hl := lv_sub (l' := [(0, .ref (Q 29)), (1, .ref (Q (19 + 5 * k1))), (2, .int x2), (3, .int x3), (4, .int (0 : Int32))]) hl [1, 2, 3, 4, 0] rfl
  exact lab10 k1 x2 x3 fuelN (0 : Int32) s28 H locs ls hk1 hf h (lv_sub hl [0, 1, 2, 3, 4] rfl)

set_option maxHeartbeats 8000000 in
set_option maxRecDepth 100000 in
theorem c_Odds_reckon (l : Launch) (Z : ZT) (Q : Nat → Nat) (s : XS) {r : Int32} {s' : XS} (hf : p_Odds_reckon s = some (r, s')) : KI l Z (wX Z Q) yX2_reckon wsX2_reckon { frames := 6, cells := 0, slots := 0, locals := 131 } [.ref (Q 29)] s r s' := by
  intro sz
  refine met_entry (cc := cX2_reckon) (maxL := 5) (ret := (some .int)) (by decide) rfl (Nat.le_of_ble_eq_true rfl) sz rfl ?_
  generalize va_A (wX Z Q s) sz = A
  intro p e s0 m args below meth c ls F hr hlk h hl
  have hl : lv_has ls 5 [(0, .ref (Q 29))] := hl
  obtain ⟨hx, hb, hml, hown, hts⟩ := id F
  have hinX2 : ∀ w ∈ wsX20, w ∈ wsX2_reckon := by decide +kernel
  obtain ⟨H, eH⟩ : ∃ z, z = s0.heap := ⟨_, rfl⟩
  obtain ⟨locs, eL⟩ : ∃ z : List Loc, z = [] := ⟨_, rfl⟩
  rw [← eH, ← eL] at h ⊢
  unfold p_Odds_reckon at hf
  have lab65 : ∀ (k1 : Nat) (n : Nat) (x3 : Int32) (x4 : Int32) (s : XS) (H : Heap) (locs : List Loc) (ls : Array Slot), k1 < 2 → lo3 (p_Odds_reckon_B65 k1) n x3 x4 s = some (r, s') → HW Z (wX Z Q) A s0 H locs s → lv_has ls 5 [(0, .ref (Q 29)), (1, .ref (Q (19 + 5 * k1))), (3, .int x3), (4, .int x4)] → W p l e { frames := 6, cells := 0, slots := 0, locals := 131 } s0 m args below meth c H locs 0 0 (MQ below (QcI Z (wX Z Q) A r s') args s0 0 0 A) (F0 m 65 ls []) := by
    intro k1 n
    induction n with
    | zero => intro x3 x4 s H locs ls hk1 hf; exact absurd hf lo3_z
    | succ n ih65 =>
      intro x3 x4 s H locs ls hk1 hf h hl
      have hf := lo3_s hf
      generalize lo3 (p_Odds_reckon_B65 k1) n = c65 at hf ih65
      unfold p_Odds_reckon_B65 at hf
      refine lv_iload hx hb dX2_reckon_65 (lv_at hl 3 rfl) ?_
      refine lv_aload_n hx hb dX2_reckon_67 rfl (lv_at hl 1 rfl) ?_
      obtain ⟨r2, hc1, hf⟩ := ob1 hf
      refine call_VI F (c_Plan_length l Z Q s k1 hk1 hc1) (cwV 0 hts gX2_reckon_X3_length rfl rfl rfl (by decide +kernel) ⟨Nat.le_of_ble_eq_true rfl, Nat.le_of_ble_eq_true rfl⟩) h (rcX_Plan hk1 h) rfl hl.1 rfl (Nat.le_of_ble_eq_true rfl) ⟨Nat.zero_le _, Nat.zero_le _⟩ dX2_reckon_68 (fun H locs h => ?_)
      refine lv_icmp_ge (tgt := 101) hx hb dX2_reckon_71 (by decide) (fun c_4 => ?_) (fun c_4 => ?_)
      · have hf := ip c_4 hf
        refine lv_aload_n hx hb dX2_reckon_101 rfl (lv_at hl 0 rfl) ?_
        refine gX_Odds_result F h hinX2 (hts (.fieldLink RX2 38 "ElectionHouse$Odds" "result" "[J") (by decide +kernel)) dX2_reckon_102 ?_
        have hb5 : (gG s 29 11) < 2 := h.2.2.2.2.2.1 _ _
        refine lv_astore (lv' := [(4, .ref (Q (38 + (gG s 29 11)))), (0, .ref (Q 29)), (1, .ref (Q (19 + 5 * k1))), (3, .int x3)]) hx hb dX2_reckon_105 hl (by decide) rfl (fun ls hl => ?_)
        have hl := lv_sub (l' := [(0, .ref (Q 29)), (1, .ref (Q (19 + 5 * k1))), (3, .int x3), (4, .ref (Q (38 + (gG s 29 11))))]) hl [1, 2, 3, 0] rfl
        refine lv_aload_n hx hb dX2_reckon_107 rfl (lv_at hl 0 rfl) ?_
        refine lv_aload_n hx hb dX2_reckon_108 rfl (lv_at hl 0 rfl) ?_
        refine gX_Odds_scratch F h hinX2 (hts (.fieldLink RX2 41 "ElectionHouse$Odds" "scratch" "[J") (by decide +kernel)) dX2_reckon_109 ?_
        have hb6 : (gG s 29 12) < 2 := h.2.2.2.2.2.1 _ _
        refine pX_Odds_result hb6 F h hinX2 (hts (.fieldLink RX2 38 "ElectionHouse$Odds" "result" "[J") (by decide +kernel)) dX2_reckon_112 (fun H locs h => ?_)
        obtain ⟨s7, es, hf⟩ := olq hf
        rw [← es] at h
        refine lv_aload_n hx hb dX2_reckon_115 rfl (lv_at hl 0 rfl) ?_
        refine lv_aload hx hb dX2_reckon_116 (lv_at hl 3 rfl) ?_
        refine pX_Odds_scratch hb5 F h hinX2 (hts (.fieldLink RX2 41 "ElectionHouse$Odds" "scratch" "[J") (by decide +kernel)) dX2_reckon_118 (fun H locs h => ?_)
        obtain ⟨s8, es, hf⟩ := olq hf
        rw [← es] at h
        refine lv_aload_n hx hb dX2_reckon_121 rfl (lv_at hl 0 rfl) ?_
        refine lv_iconst (v := (1 : Int32)) hx hb dX2_reckon_122 (by decide) ?_
        refine pX_Odds_isCounted (by decide) F h hinX2 (hts (.fieldLink RX2 62 "ElectionHouse$Odds" "isCounted" "Z") (by decide +kernel)) dX2_reckon_123 (fun H locs h => ?_)
        obtain ⟨s9, es, hf⟩ := olq hf
        rw [← es] at h
        refine lv_iconst (v := (0 : Int32)) hx hb dX2_reckon_126 (by decide) ?_
        exact retE_I F hr hlk h hf dX2_reckon_127
      · have hf := im c_4 hf
        refine lv_aload_n hx hb dX2_reckon_74 rfl (lv_at hl 0 rfl) ?_
        refine lv_aload_n hx hb dX2_reckon_75 rfl (lv_at hl 1 rfl) ?_
        refine lv_iload hx hb dX2_reckon_76 (lv_at hl 3 rfl) ?_
        refine lv_iload_n hx hb dX2_reckon_78 rfl (lv_at hl 2 rfl) ?_
        obtain ⟨r11, s12, hc10, hf⟩ := ob2 hf
        refine call_VI F (c_Odds_passStep l Z Q s k1 x4 x3 hk1 hc10) (cwV 3 hts gX2_reckon_X2_passStep rfl rfl rfl (by decide +kernel) ⟨Nat.le_of_ble_eq_true rfl, Nat.le_of_ble_eq_true rfl⟩) h (rcX_Odds h) rfl hl.1 rfl (Nat.le_of_ble_eq_true rfl) ⟨Nat.zero_le _, Nat.zero_le _⟩ dX2_reckon_79 (fun H locs h => ?_)
        refine lv_if_ne (tgt := 88) hx hb dX2_reckon_82 (by decide) (fun c_13 => ?_) (fun c_13 => ?_)
        · have hf := im c_13 hf
          refine lv_aload_n hx hb dX2_reckon_88 rfl (lv_at hl 1 rfl) ?_
          refine lv_iload hx hb dX2_reckon_89 (lv_at hl 3 rfl) ?_
          obtain ⟨r15, hc14, hf⟩ := ob1 hf
          refine call_VI F (c_Plan_sizeOf l Z Q s12 k1 x4 hk1 hc14) (cwV 1 hts gX2_reckon_X3_sizeOf rfl rfl rfl (by decide +kernel) ⟨Nat.le_of_ble_eq_true rfl, Nat.le_of_ble_eq_true rfl⟩) h (rcX_Plan hk1 h) rfl hl.1 rfl (Nat.le_of_ble_eq_true rfl) ⟨Nat.zero_le _, Nat.zero_le _⟩ dX2_reckon_91 (fun H locs h => ?_)
          refine lv_istore_n (lv' := [(3, .int r15), (0, .ref (Q 29)), (1, .ref (Q (19 + 5 * k1))), (4, .int x4)]) hx hb dX2_reckon_94 rfl hl (by decide) rfl (fun ls hl => ?_)
          have hl := lv_sub (l' := [(0, .ref (Q 29)), (1, .ref (Q (19 + 5 * k1))), (3, .int r15), (4, .int x4)]) hl [1, 2, 0, 3] rfl
          refine lv_iinc (v := (x4 + (1 : Int32))) (lv' := [(4, .int (x4 + (1 : Int32))), (0, .ref (Q 29)), (1, .ref (Q (19 + 5 * k1))), (3, .int r15)]) hx hb dX2_reckon_95 hl (k := 3) rfl (congrArg (fun z => x4 + z) (by decide : Int32.ofInt (1) = (1 : Int32))) (by decide) rfl (fun ls hl => ?_)
          have hl := lv_sub (l' := [(0, .ref (Q 29)), (1, .ref (Q (19 + 5 * k1))), (3, .int r15), (4, .int (x4 + (1 : Int32)))]) hl [1, 2, 3, 0] rfl
          refine lv_goto (tgt := 65) hx hb dX2_reckon_98 (by decide) ?_
          exact ih65 r15 (x4 + (1 : Int32)) s12 H locs ls hk1 hf h (lv_sub hl [0, 1, 2, 3] rfl)
        · have hf := ip c_13 hf
          refine lv_bipush (v := (-2 : Int32)) hx hb dX2_reckon_85 (by decide) ?_
          exact retE_I F hr hlk h hf dX2_reckon_87
  refine lv_aload_n hx hb dX2_reckon_0 rfl (lv_at hl 0 rfl) ?_
  refine gX_Odds_session F h hinX2 (hts (.fieldLink RX2 58 "ElectionHouse$Odds" "session" "LElectionHouse$Session;") (by decide +kernel)) dX2_reckon_1 ?_
  obtain ⟨r18, hc17, hf⟩ := ob1 hf
  refine call_VR F (c_Sess_plan l Z Q s hc17) (cwV 0 hts gX2_reckon_X6_plan rfl rfl rfl (by decide +kernel) ⟨Nat.le_of_ble_eq_true rfl, Nat.le_of_ble_eq_true rfl⟩) h (rcX_Sess h) rfl hl.1 rfl (Nat.le_of_ble_eq_true rfl) ⟨Nat.zero_le _, Nat.zero_le _⟩ dX2_reckon_4 (fun H locs h => ?_)
  obtain ⟨hb20, hf⟩ := og hf
  have hb20 := of_decide_eq_true hb20
  refine lv_astore_n (lv' := [(1, .ref (Q (19 + 5 * r18))), (0, .ref (Q 29))]) hx hb dX2_reckon_7 rfl hl (by decide) rfl (fun ls hl => ?_)
  have hl := lv_sub (l' := [(0, .ref (Q 29)), (1, .ref (Q (19 + 5 * r18)))]) hl [1, 0] rfl
  refine lv_aload_n hx hb dX2_reckon_8 rfl (lv_at hl 0 rfl) ?_
  refine gX_Odds_session F h hinX2 (hts (.fieldLink RX2 58 "ElectionHouse$Odds" "session" "LElectionHouse$Session;") (by decide +kernel)) dX2_reckon_9 ?_
  obtain ⟨r22, hc21, hf⟩ := ob1 hf
  refine call_VI F (c_Sess_stepsDone l Z Q s hc21) (cwV 0 hts gX2_reckon_X6_stepsDone rfl rfl rfl (by decide +kernel) ⟨Nat.le_of_ble_eq_true rfl, Nat.le_of_ble_eq_true rfl⟩) h (rcX_Sess h) rfl hl.1 rfl (Nat.le_of_ble_eq_true rfl) ⟨Nat.zero_le _, Nat.zero_le _⟩ dX2_reckon_12 (fun H locs h => ?_)
  refine lv_istore_n (lv' := [(2, .int r22), (0, .ref (Q 29)), (1, .ref (Q (19 + 5 * r18)))]) hx hb dX2_reckon_15 rfl hl (by decide) rfl (fun ls hl => ?_)
  have hl := lv_sub (l' := [(0, .ref (Q 29)), (1, .ref (Q (19 + 5 * r18))), (2, .int r22)]) hl [1, 2, 0] rfl
  refine lv_iload_n hx hb dX2_reckon_16 rfl (lv_at hl 2 rfl) ?_
  refine lv_aload_n hx hb dX2_reckon_17 rfl (lv_at hl 1 rfl) ?_
  obtain ⟨r25, hc24, hf⟩ := ob1 hf
  refine call_VI F (c_Plan_length l Z Q s r18 hb20 hc24) (cwV 0 hts gX2_reckon_X3_length rfl rfl rfl (by decide +kernel) ⟨Nat.le_of_ble_eq_true rfl, Nat.le_of_ble_eq_true rfl⟩) h (rcX_Plan hb20 h) rfl hl.1 rfl (Nat.le_of_ble_eq_true rfl) ⟨Nat.zero_le _, Nat.zero_le _⟩ dX2_reckon_18 (fun H locs h => ?_)
  refine lv_icmp_lt (tgt := 26) hx hb dX2_reckon_21 (by decide) (fun c_27 => ?_) (fun c_27 => ?_)
  · have hf := ip c_27 hf
    refine lv_aload_n hx hb dX2_reckon_26 rfl (lv_at hl 0 rfl) ?_
    refine gX_Odds_scratch F h hinX2 (hts (.fieldLink RX2 41 "ElectionHouse$Odds" "scratch" "[J") (by decide +kernel)) dX2_reckon_27 ?_
    have hb28 : (gG s 29 12) < 2 := h.2.2.2.2.2.1 _ _
    refine lv_lconst (v := (0 : Int64)) hx hb dX2_reckon_30 (by decide) ?_
    obtain ⟨s31, hc29, hf⟩ := ob1 hf
    refine call_SV F (c_fill_rs l Z Q s (gG s 29 12) (0 : Int64) hb28 hc29) (va_cwS 2 hts gX2_reckon_J7_fill_d0a16 rfl rfl rfl (by decide +kernel) ⟨Nat.le_of_ble_eq_true rfl, Nat.le_of_ble_eq_true rfl⟩) h rfl hl.1 rfl (Nat.le_of_ble_eq_true rfl) ⟨Nat.zero_le _, Nat.zero_le _⟩ dX2_reckon_31 (fun H locs h => ?_)
    refine lv_aload_n hx hb dX2_reckon_34 rfl (lv_at hl 0 rfl) ?_
    refine lv_aload_n hx hb dX2_reckon_35 rfl (lv_at hl 1 rfl) ?_
    refine lv_iload_n hx hb dX2_reckon_36 rfl (lv_at hl 2 rfl) ?_
    obtain ⟨r33, s34, hc32, hf⟩ := ob2 hf
    refine call_VI F (c_Odds_countAllWays l Z Q s31 r18 r22 hb20 hc32) (cwV 2 hts gX2_reckon_X2_countAllWays rfl rfl rfl (by decide +kernel) ⟨Nat.le_of_ble_eq_true rfl, Nat.le_of_ble_eq_true rfl⟩) h (rcX_Odds h) rfl hl.1 rfl (Nat.le_of_ble_eq_true rfl) ⟨Nat.zero_le _, Nat.zero_le _⟩ dX2_reckon_37 (fun H locs h => ?_)
    refine lv_if_ne (tgt := 46) hx hb dX2_reckon_40 (by decide) (fun c_35 => ?_) (fun c_35 => ?_)
    · have hf := im c_35 hf
      refine lv_aload_n hx hb dX2_reckon_46 rfl (lv_at hl 0 rfl) ?_
      obtain ⟨s38, hc36, hf⟩ := ob1 hf
      refine call_VV F (c_Odds_lookAtCity l Z Q s34 hc36) (cwV 0 hts gX2_reckon_X2_lookAtCity rfl rfl rfl (by decide +kernel) ⟨Nat.le_of_ble_eq_true rfl, Nat.le_of_ble_eq_true rfl⟩) h (rcX_Odds h) rfl hl.1 rfl (Nat.le_of_ble_eq_true rfl) ⟨Nat.zero_le _, Nat.zero_le _⟩ dX2_reckon_47 (fun H locs h => ?_)
      refine lv_aload_n hx hb dX2_reckon_50 rfl (lv_at hl 0 rfl) ?_
      obtain ⟨s41, hc39, hf⟩ := ob1 hf
      refine call_VV F (c_Odds_startFromBody l Z Q s38 hc39) (cwV 0 hts gX2_reckon_X2_startFromBody rfl rfl rfl (by decide +kernel) ⟨Nat.le_of_ble_eq_true rfl, Nat.le_of_ble_eq_true rfl⟩) h (rcX_Odds h) rfl hl.1 rfl (Nat.le_of_ble_eq_true rfl) ⟨Nat.zero_le _, Nat.zero_le _⟩ dX2_reckon_51 (fun H locs h => ?_)
      refine lv_aload_n hx hb dX2_reckon_54 rfl (lv_at hl 0 rfl) ?_
      refine gX_Odds_session F h hinX2 (hts (.fieldLink RX2 58 "ElectionHouse$Odds" "session" "LElectionHouse$Session;") (by decide +kernel)) dX2_reckon_55 ?_
      obtain ⟨r43, s44, hc42, hf⟩ := ob2 hf
      refine call_VI F (c_Sess_bodySize l Z Q s41 hc42) (cwV 0 hts gX2_reckon_X6_bodySize rfl rfl rfl (by decide +kernel) ⟨Nat.le_of_ble_eq_true rfl, Nat.le_of_ble_eq_true rfl⟩) h (rcX_Sess h) rfl hl.1 rfl (Nat.le_of_ble_eq_true rfl) ⟨Nat.zero_le _, Nat.zero_le _⟩ dX2_reckon_58 (fun H locs h => ?_)
      refine lv_istore_n (lv' := [(3, .int r43), (0, .ref (Q 29)), (1, .ref (Q (19 + 5 * r18))), (2, .int r22)]) hx hb dX2_reckon_61 rfl hl (by decide) rfl (fun ls hl => ?_)
      have hl := lv_sub (l' := [(0, .ref (Q 29)), (1, .ref (Q (19 + 5 * r18))), (2, .int r22), (3, .int r43)]) hl [1, 2, 3, 0] rfl
      refine lv_iload_n hx hb dX2_reckon_62 rfl (lv_at hl 2 rfl) ?_
      refine lv_istore (lv' := [(4, .int r22), (0, .ref (Q 29)), (1, .ref (Q (19 + 5 * r18))), (2, .int r22), (3, .int r43)]) hx hb dX2_reckon_63 hl (by decide) rfl (fun ls hl => ?_)
      have hl := lv_sub (l' := [(0, .ref (Q 29)), (1, .ref (Q (19 + 5 * r18))), (2, .int r22), (3, .int r43), (4, .int r22)]) hl [1, 2, 3, 4, 0] rfl
      exact lab65 r18 fuelN r43 r22 s44 H locs ls hb20 hf h (lv_sub hl [0, 1, 3, 4] rfl)
    · have hf := ip c_35 hf
      refine lv_bipush (v := (-2 : Int32)) hx hb dX2_reckon_43 (by decide) ?_
      exact retE_I F hr hlk h hf dX2_reckon_45
  · have hf := im c_27 hf
    refine lv_iconst (v := (-1 : Int32)) hx hb dX2_reckon_24 (by decide) ?_
    exact retE_I F hr hlk h hf dX2_reckon_25

set_option maxHeartbeats 8000000 in
set_option maxRecDepth 100000 in
theorem c_Odds_answer (l : Launch) (Z : ZT) (Q : Nat → Nat) (s : XS) (x1 : Int32) {r : Int64} (hf : p_Odds_answer x1 s = some r) : KL l Z (wX Z Q) yX2_answer wsX2_answer { frames := 0, cells := 0, slots := 0, locals := 0 } [.ref (Q 29), .int x1] s r s := by
  intro sz
  refine met_entry (cc := cX2_answer) (maxL := 2) (ret := (some .long)) (by decide) rfl (Nat.le_of_ble_eq_true rfl) sz rfl ?_
  generalize va_A (wX Z Q s) sz = A
  intro p e s0 m args below meth c ls F hr hlk h hl
  have hl : lv_has ls 2 [(0, .ref (Q 29)), (1, .int x1)] := hl
  obtain ⟨hx, hb, hml, hown, hts⟩ := id F
  have hinX2 : ∀ w ∈ wsX20, w ∈ wsX2_answer := by decide +kernel
  obtain ⟨H, eH⟩ : ∃ z, z = s0.heap := ⟨_, rfl⟩
  obtain ⟨locs, eL⟩ : ∃ z : List Loc, z = [] := ⟨_, rfl⟩
  rw [← eH, ← eL] at h ⊢
  unfold p_Odds_answer at hf
  refine lv_aload_n hx hb dX2_answer_0 rfl (lv_at hl 0 rfl) ?_
  refine gX_Odds_isCounted F h hinX2 (hts (.fieldLink RX2 62 "ElectionHouse$Odds" "isCounted" "Z") (by decide +kernel)) dX2_answer_1 ?_
  refine lv_if_eq (tgt := 29) hx hb dX2_answer_4 (by decide) (fun c_1 => ?_) (fun c_1 => ?_)
  · have hf := ip c_1 hf
    refine lv_ldc2 (v := (-1 : Int64)) hx hb hown (hts (.constantLong RX2 66 (-1 : Int64)) (by decide +kernel)) dX2_answer_29 ?_
    exact retE_Lr F hr hlk h hf dX2_answer_32
  · have hf := im c_1 hf
    refine lv_iload_n hx hb dX2_answer_7 rfl (lv_at hl 1 rfl) ?_
    refine lv_if_lt (tgt := 29) hx hb dX2_answer_8 (by decide) (fun c_2 => ?_) (fun c_2 => ?_)
    · have hf := ip c_2 hf
      refine lv_ldc2 (v := (-1 : Int64)) hx hb hown (hts (.constantLong RX2 66 (-1 : Int64)) (by decide +kernel)) dX2_answer_29 ?_
      exact retE_Lr F hr hlk h hf dX2_answer_32
    · have hf := im c_2 hf
      refine lv_iload_n hx hb dX2_answer_11 rfl (lv_at hl 1 rfl) ?_
      refine lv_aload_n hx hb dX2_answer_12 rfl (lv_at hl 0 rfl) ?_
      refine gX_Odds_result F h hinX2 (hts (.fieldLink RX2 38 "ElectionHouse$Odds" "result" "[J") (by decide +kernel)) dX2_answer_13 ?_
      have hb3 : (gG s 29 11) < 2 := h.2.2.2.2.2.1 _ _
      refine nX_rs hb3 F h dX2_answer_16 ?_
      refine lv_icmp_ge (tgt := 29) hx hb dX2_answer_17 (by decide) (fun c_4 => ?_) (fun c_4 => ?_)
      · have hf := ip c_4 hf
        refine lv_ldc2 (v := (-1 : Int64)) hx hb hown (hts (.constantLong RX2 66 (-1 : Int64)) (by decide +kernel)) dX2_answer_29 ?_
        exact retE_Lr F hr hlk h hf dX2_answer_32
      · have hf := im c_4 hf
        refine lv_aload_n hx hb dX2_answer_20 rfl (lv_at hl 0 rfl) ?_
        refine gX_Odds_result F h hinX2 (hts (.fieldLink RX2 38 "ElectionHouse$Odds" "result" "[J") (by decide +kernel)) dX2_answer_21 ?_
        have hb5 : (gG s 29 11) < 2 := h.2.2.2.2.2.1 _ _
        refine lv_iload_n hx hb dX2_answer_24 rfl (lv_at hl 1 rfl) ?_
        obtain ⟨gi6, hf⟩ := og hf
        refine lX_rs hb5 F h gi6 dX2_answer_25 ?_
        refine lv_goto (tgt := 32) hx hb dX2_answer_26 (by decide) ?_
        exact retE_Lr F hr hlk h hf dX2_answer_32

