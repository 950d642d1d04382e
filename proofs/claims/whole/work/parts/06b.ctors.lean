def w1_City (Z : ZT) (h0 : Nat) (u : Nat → Nat) : va_W := [(h0, .inr (0, [.ref (u 0), .ref (u 1), .ref (u 2), .ref (u 3), .ref (u 4), .int 0, .int 0])), ((u 0), .inl (Z.2.1 1, 40, .inl (fun _ => 0))), ((u 1), .inl (Z.2.1 1, 40, .inl (fun _ => 0))), ((u 2), .inl (Z.2.1 3, 40, .inl (fun _ => 0))), ((u 3), .inl (Z.2.1 3, 16, .inl (upd (upd (upd (upd (fun _ => 0) ((0 : Int32)).toNatClampNeg (vp_nar .boolean (1 : Int32))) ((5 : Int32)).toNatClampNeg (vp_nar .boolean (1 : Int32))) ((10 : Int32)).toNatClampNeg (vp_nar .boolean (1 : Int32))) ((15 : Int32)).toNatClampNeg (vp_nar .boolean (1 : Int32))))), ((u 4), .inl (Z.2.1 2, 40, .inr (.inl (fun _ => 0))))]
set_option maxHeartbeats 8000000 in
set_option maxRecDepth 100000 in
theorem c_City_init (l : Launch) (Z : ZT) (h0 : Nat) : KC l Z yX0_init wsX0_init { frames := 1, cells := 5, slots := 176, locals := 20 } [.ref h0] [(h0, .inr (0, [.null, .null, .null, .null, .null, .int 0, .int 0]))] (w1_City Z h0) 5 176 := by
  intro sz
  refine ctor_entry (cc := cX0_init) (maxL := 2) (by decide) rfl rfl (Nat.le_of_ble_eq_true rfl) sz rfl ?_
  generalize va_A _ sz = A
  intro p e s0 m args below meth c ls F hr hlk hnn h hl
  have hl : lv_has ls 2 [(0, .ref h0)] := hl
  obtain ⟨hx, hb, hml, hown, hts⟩ := id F
  have hinX0 : ∀ w ∈ wsX00, w ∈ wsX0_init := by decide +kernel
  obtain ⟨H, eH⟩ : ∃ z, z = s0.heap := ⟨_, rfl⟩
  obtain ⟨locs, eL⟩ : ∃ z : List Loc, z = [] := ⟨_, rfl⟩
  rw [← eH, ← eL] at h ⊢
  refine lv_aload_n hx hb dX0_init_0 rfl (lv_at hl 0 rfl) ?_
  refine W.objInit hx hb hown (hts (.methodLink RX0 3 objectInit) (by decide +kernel)) (hts (.instanceMethod objectInit) (by decide +kernel)) (hts (.code objectInit ⟨#[0xb1]⟩ 1 none) (by decide +kernel)) rfl (by rw [hml]; exact hl.1) rfl dX0_init_1 (Nat.le_of_ble_eq_true rfl) (Nat.le_of_ble_eq_true rfl) ?_
  refine W.eq (g2 := F0 m 4 ls []) rfl ?_
  refine lv_aload_n hx hb dX0_init_4 rfl (lv_at hl 0 rfl) ?_
  refine lv_bipush (v := (40 : Int32)) hx hb dX0_init_5 (by decide) ?_
  refine e_newI (N := 40) F (hts (.arrayClass .int) (by decide +kernel)) h (by decide) (by decide) (by decide) (Nat.le_of_ble_eq_true rfl) (Nat.le_of_ble_eq_true rfl) dX0_init_7 (fun q0 H h => ?_)
  have h : HE Z A s0 H locs [(h0, .inr (0, [.null, .null, .null, .null, .null, .int 0, .int 0])), (q0, .inl (Z.2.1 1, 40, .inl (fun _ => 0)))] := h
  refine W.widen (k := 1) (n := 40) (Nat.le_refl _) (Nat.le_refl _) ?_
  refine e_putF (ci := 0) (ty := .array .int) (C := RX0) (T := TX0) (N := 7) F hnn hinX0 tyX0 tyX0_ok nmX0 h 0 rfl rfl 0 (by decide) (hts (.fieldLink RX0 9 "ElectionHouse$City" "houses" "[I") (by decide +kernel)) rfl rfl (by decide +kernel) rfl rfl (Nat.le_of_ble_eq_true rfl) dX0_init_9 (fun H locs h => ?_)
  have h : HE Z A s0 H locs [(h0, .inr (0, [.ref q0, .null, .null, .null, .null, .int 0, .int 0])), (q0, .inl (Z.2.1 1, 40, .inl (fun _ => 0)))] := h
  refine lv_aload_n hx hb dX0_init_12 rfl (lv_at hl 0 rfl) ?_
  refine lv_bipush (v := (40 : Int32)) hx hb dX0_init_13 (by decide) ?_
  refine e_newI (N := 40) F (hts (.arrayClass .int) (by decide +kernel)) h (by decide) (by decide) (by decide) (Nat.le_of_ble_eq_true rfl) (Nat.le_of_ble_eq_true rfl) dX0_init_15 (fun q1 H h => ?_)
  have h : HE Z A s0 H locs [(h0, .inr (0, [.ref q0, .null, .null, .null, .null, .int 0, .int 0])), (q0, .inl (Z.2.1 1, 40, .inl (fun _ => 0))), (q1, .inl (Z.2.1 1, 40, .inl (fun _ => 0)))] := h
  refine W.widen (k := 2) (n := 80) (Nat.le_refl _) (Nat.le_refl _) ?_
  refine e_putF (ci := 0) (ty := .array .int) (C := RX0) (T := TX0) (N := 7) F hnn hinX0 tyX0 tyX0_ok nmX0 h 0 rfl rfl 1 (by decide) (hts (.fieldLink RX0 15 "ElectionHouse$City" "parties" "[I") (by decide +kernel)) rfl rfl (by decide +kernel) rfl rfl (Nat.le_of_ble_eq_true rfl) dX0_init_17 (fun H locs h => ?_)
  have h : HE Z A s0 H locs [(h0, .inr (0, [.ref q0, .ref q1, .null, .null, .null, .int 0, .int 0])), (q0, .inl (Z.2.1 1, 40, .inl (fun _ => 0))), (q1, .inl (Z.2.1 1, 40, .inl (fun _ => 0)))] := h
  refine lv_aload_n hx hb dX0_init_20 rfl (lv_at hl 0 rfl) ?_
  refine lv_bipush (v := (40 : Int32)) hx hb dX0_init_21 (by decide) ?_
  refine e_newZ (N := 40) F (hts (.arrayClass .boolean) (by decide +kernel)) h (by decide) (by decide) (by decide) (Nat.le_of_ble_eq_true rfl) (Nat.le_of_ble_eq_true rfl) dX0_init_23 (fun q2 H h => ?_)
  have h : HE Z A s0 H locs [(h0, .inr (0, [.ref q0, .ref q1, .null, .null, .null, .int 0, .int 0])), (q0, .inl (Z.2.1 1, 40, .inl (fun _ => 0))), (q1, .inl (Z.2.1 1, 40, .inl (fun _ => 0))), (q2, .inl (Z.2.1 3, 40, .inl (fun _ => 0)))] := h
  refine W.widen (k := 3) (n := 120) (Nat.le_refl _) (Nat.le_refl _) ?_
  refine e_putF (ci := 0) (ty := .array .boolean) (C := RX0) (T := TX0) (N := 7) F hnn hinX0 tyX0 tyX0_ok nmX0 h 0 rfl rfl 2 (by decide) (hts (.fieldLink RX0 18 "ElectionHouse$City" "present" "[Z") (by decide +kernel)) rfl rfl (by decide +kernel) rfl rfl (Nat.le_of_ble_eq_true rfl) dX0_init_25 (fun H locs h => ?_)
  have h : HE Z A s0 H locs [(h0, .inr (0, [.ref q0, .ref q1, .ref q2, .null, .null, .int 0, .int 0])), (q0, .inl (Z.2.1 1, 40, .inl (fun _ => 0))), (q1, .inl (Z.2.1 1, 40, .inl (fun _ => 0))), (q2, .inl (Z.2.1 3, 40, .inl (fun _ => 0)))] := h
  refine lv_aload_n hx hb dX0_init_28 rfl (lv_at hl 0 rfl) ?_
  refine lv_bipush (v := (16 : Int32)) hx hb dX0_init_29 (by decide) ?_
  refine e_newZ (N := 16) F (hts (.arrayClass .boolean) (by decide +kernel)) h (by decide) (by decide) (by decide) (Nat.le_of_ble_eq_true rfl) (Nat.le_of_ble_eq_true rfl) dX0_init_31 (fun q3 H h => ?_)
  have h : HE Z A s0 H locs [(h0, .inr (0, [.ref q0, .ref q1, .ref q2, .null, .null, .int 0, .int 0])), (q0, .inl (Z.2.1 1, 40, .inl (fun _ => 0))), (q1, .inl (Z.2.1 1, 40, .inl (fun _ => 0))), (q2, .inl (Z.2.1 3, 40, .inl (fun _ => 0))), (q3, .inl (Z.2.1 3, 16, .inl (fun _ => 0)))] := h
  refine W.widen (k := 4) (n := 136) (Nat.le_refl _) (Nat.le_refl _) ?_
  refine e_putF (ci := 0) (ty := .array .boolean) (C := RX0) (T := TX0) (N := 7) F hnn hinX0 tyX0 tyX0_ok nmX0 h 0 rfl rfl 3 (by decide) (hts (.fieldLink RX0 22 "ElectionHouse$City" "yes" "[Z") (by decide +kernel)) rfl rfl (by decide +kernel) rfl rfl (Nat.le_of_ble_eq_true rfl) dX0_init_33 (fun H locs h => ?_)
  have h : HE Z A s0 H locs [(h0, .inr (0, [.ref q0, .ref q1, .ref q2, .ref q3, .null, .int 0, .int 0])), (q0, .inl (Z.2.1 1, 40, .inl (fun _ => 0))), (q1, .inl (Z.2.1 1, 40, .inl (fun _ => 0))), (q2, .inl (Z.2.1 3, 40, .inl (fun _ => 0))), (q3, .inl (Z.2.1 3, 16, .inl (fun _ => 0)))] := h
  refine lv_aload_n hx hb dX0_init_36 rfl (lv_at hl 0 rfl) ?_
  refine lv_bipush (v := (40 : Int32)) hx hb dX0_init_37 (by decide) ?_
  refine e_newJ (N := 40) F (hts (.arrayClass .long) (by decide +kernel)) h (by decide) (by decide) (by decide) (Nat.le_of_ble_eq_true rfl) (Nat.le_of_ble_eq_true rfl) dX0_init_39 (fun q4 H h => ?_)
  have h : HE Z A s0 H locs [(h0, .inr (0, [.ref q0, .ref q1, .ref q2, .ref q3, .null, .int 0, .int 0])), (q0, .inl (Z.2.1 1, 40, .inl (fun _ => 0))), (q1, .inl (Z.2.1 1, 40, .inl (fun _ => 0))), (q2, .inl (Z.2.1 3, 40, .inl (fun _ => 0))), (q3, .inl (Z.2.1 3, 16, .inl (fun _ => 0))), (q4, .inl (Z.2.1 2, 40, .inr (.inl (fun _ => 0))))] := h
  refine W.widen (k := 5) (n := 176) (Nat.le_refl _) (Nat.le_refl _) ?_
  refine e_putF (ci := 0) (ty := .array .long) (C := RX0) (T := TX0) (N := 7) F hnn hinX0 tyX0 tyX0_ok nmX0 h 0 rfl rfl 4 (by decide) (hts (.fieldLink RX0 25 "ElectionHouse$City" "told" "[J") (by decide +kernel)) rfl rfl (by decide +kernel) rfl rfl (Nat.le_of_ble_eq_true rfl) dX0_init_41 (fun H locs h => ?_)
  have h : HE Z A s0 H locs [(h0, .inr (0, [.ref q0, .ref q1, .ref q2, .ref q3, .ref q4, .int 0, .int 0])), (q0, .inl (Z.2.1 1, 40, .inl (fun _ => 0))), (q1, .inl (Z.2.1 1, 40, .inl (fun _ => 0))), (q2, .inl (Z.2.1 3, 40, .inl (fun _ => 0))), (q3, .inl (Z.2.1 3, 16, .inl (fun _ => 0))), (q4, .inl (Z.2.1 2, 40, .inr (.inl (fun _ => 0))))] := h
  refine lv_iconst (v := (0 : Int32)) hx hb dX0_init_44 (by decide) ?_
  refine lv_istore_n (lv' := [(1, .int (0 : Int32)), (0, .ref h0)]) hx hb dX0_init_45 rfl hl (by decide) rfl (fun ls hl => ?_)
  have hl := lv_sub (l' := [(0, .ref h0), (1, .int (0 : Int32))]) hl [1, 0] rfl
  refine lv_iload_n hx hb dX0_init_46 rfl (lv_at hl 1 rfl) ?_
  refine lv_iconst (v := (4 : Int32)) hx hb dX0_init_47 (by decide) ?_
  refine lv_icmp_ge (tgt := 68) hx hb dX0_init_48 (by decide) (fun q => absurd q (by decide)) (fun _ => ?_)
  refine lv_aload_n hx hb dX0_init_51 rfl (lv_at hl 0 rfl) ?_
  refine e_get (ci := 0) (v := .ref q3) (C := RX0) (T := TX0) (N := 7) F hinX0 h 0 rfl rfl 3 (by decide) (hts (.fieldLink RX0 22 "ElectionHouse$City" "yes" "[Z") (by decide +kernel)) rfl dX0_init_52 ?_
  refine lv_iload_n hx hb dX0_init_55 rfl (lv_at hl 1 rfl) ?_
  refine lv_iconst (v := (4 : Int32)) hx hb dX0_init_56 (by decide) ?_
  refine lv_imul hx hb dX0_init_57 ?_
  refine W.eq (g2 := F0 m 58 ls [.int (0 : Int32), .ref q3]) (by rfl) ?_
  refine lv_iload_n hx hb dX0_init_58 rfl (lv_at hl 1 rfl) ?_
  refine lv_iadd hx hb dX0_init_59 ?_
  refine W.eq (g2 := F0 m 60 ls [.int (0 : Int32), .ref q3]) (by rfl) ?_
  refine lv_iconst (v := (1 : Int32)) hx hb dX0_init_60 (by decide) ?_
  refine va_zast hx hb h.1 h.2.1 h.2.2.1 h.2.2.2.1 4 3 rfl rfl (by unfold vp_in; decide) dX0_init_61 (fun H locs hP hD hS => ?_)
  have h : HE Z A s0 H locs [(h0, .inr (0, [.ref q0, .ref q1, .ref q2, .ref q3, .ref q4, .int 0, .int 0])), (q0, .inl (Z.2.1 1, 40, .inl (fun _ => 0))), (q1, .inl (Z.2.1 1, 40, .inl (fun _ => 0))), (q2, .inl (Z.2.1 3, 40, .inl (fun _ => 0))), (q3, .inl (Z.2.1 3, 16, .inl (upd (fun _ => 0) ((0 : Int32)).toNatClampNeg (vp_nar .boolean (1 : Int32))))), (q4, .inl (Z.2.1 2, 40, .inr (.inl (fun _ => 0))))] := ⟨h.1, hP, hD, hS, h.2.2.2.2.1, h.2.2.2.2.2⟩
  refine lv_iinc (v := (1 : Int32)) (lv' := [(1, .int (1 : Int32)), (0, .ref h0)]) hx hb dX0_init_62 hl (k := 1) rfl (by decide) (by decide) rfl (fun ls hl => ?_)
  have hl := lv_sub (l' := [(0, .ref h0), (1, .int (1 : Int32))]) hl [1, 0] rfl
  refine lv_goto (tgt := 46) hx hb dX0_init_65 (by decide) ?_
  refine lv_iload_n hx hb dX0_init_46 rfl (lv_at hl 1 rfl) ?_
  refine lv_iconst (v := (4 : Int32)) hx hb dX0_init_47 (by decide) ?_
  refine lv_icmp_ge (tgt := 68) hx hb dX0_init_48 (by decide) (fun q => absurd q (by decide)) (fun _ => ?_)
  refine lv_aload_n hx hb dX0_init_51 rfl (lv_at hl 0 rfl) ?_
  refine e_get (ci := 0) (v := .ref q3) (C := RX0) (T := TX0) (N := 7) F hinX0 h 0 rfl rfl 3 (by decide) (hts (.fieldLink RX0 22 "ElectionHouse$City" "yes" "[Z") (by decide +kernel)) rfl dX0_init_52 ?_
  refine lv_iload_n hx hb dX0_init_55 rfl (lv_at hl 1 rfl) ?_
  refine lv_iconst (v := (4 : Int32)) hx hb dX0_init_56 (by decide) ?_
  refine lv_imul hx hb dX0_init_57 ?_
  refine W.eq (g2 := F0 m 58 ls [.int (4 : Int32), .ref q3]) (by rfl) ?_
  refine lv_iload_n hx hb dX0_init_58 rfl (lv_at hl 1 rfl) ?_
  refine lv_iadd hx hb dX0_init_59 ?_
  refine W.eq (g2 := F0 m 60 ls [.int (5 : Int32), .ref q3]) (by rfl) ?_
  refine lv_iconst (v := (1 : Int32)) hx hb dX0_init_60 (by decide) ?_
  refine va_zast hx hb h.1 h.2.1 h.2.2.1 h.2.2.2.1 4 3 rfl rfl (by unfold vp_in; decide) dX0_init_61 (fun H locs hP hD hS => ?_)
  have h : HE Z A s0 H locs [(h0, .inr (0, [.ref q0, .ref q1, .ref q2, .ref q3, .ref q4, .int 0, .int 0])), (q0, .inl (Z.2.1 1, 40, .inl (fun _ => 0))), (q1, .inl (Z.2.1 1, 40, .inl (fun _ => 0))), (q2, .inl (Z.2.1 3, 40, .inl (fun _ => 0))), (q3, .inl (Z.2.1 3, 16, .inl (upd (upd (fun _ => 0) ((0 : Int32)).toNatClampNeg (vp_nar .boolean (1 : Int32))) ((5 : Int32)).toNatClampNeg (vp_nar .boolean (1 : Int32))))), (q4, .inl (Z.2.1 2, 40, .inr (.inl (fun _ => 0))))] := ⟨h.1, hP, hD, hS, h.2.2.2.2.1, h.2.2.2.2.2⟩
  refine lv_iinc (v := (2 : Int32)) (lv' := [(1, .int (2 : Int32)), (0, .ref h0)]) hx hb dX0_init_62 hl (k := 1) rfl (by decide) (by decide) rfl (fun ls hl => ?_)
  have hl := lv_sub (l' := [(0, .ref h0), (1, .int (2 : Int32))]) hl [1, 0] rfl
  refine lv_goto (tgt := 46) hx hb dX0_init_65 (by decide) ?_
  refine lv_iload_n hx hb dX0_init_46 rfl (lv_at hl 1 rfl) ?_
  refine lv_iconst (v := (4 : Int32)) hx hb dX0_init_47 (by decide) ?_
  refine lv_icmp_ge (tgt := 68) hx hb dX0_init_48 (by decide) (fun q => absurd q (by decide)) (fun _ => ?_)
  refine lv_aload_n hx hb dX0_init_51 rfl (lv_at hl 0 rfl) ?_
  refine e_get (ci := 0) (v := .ref q3) (C := RX0) (T := TX0) (N := 7) F hinX0 h 0 rfl rfl 3 (by decide) (hts (.fieldLink RX0 22 "ElectionHouse$City" "yes" "[Z") (by decide +kernel)) rfl dX0_init_52 ?_
  refine lv_iload_n hx hb dX0_init_55 rfl (lv_at hl 1 rfl) ?_
  refine lv_iconst (v := (4 : Int32)) hx hb dX0_init_56 (by decide) ?_
  refine lv_imul hx hb dX0_init_57 ?_
  refine W.eq (g2 := F0 m 58 ls [.int (8 : Int32), .ref q3]) (by rfl) ?_
  refine lv_iload_n hx hb dX0_init_58 rfl (lv_at hl 1 rfl) ?_
  refine lv_iadd hx hb dX0_init_59 ?_
  refine W.eq (g2 := F0 m 60 ls [.int (10 : Int32), .ref q3]) (by rfl) ?_
  refine lv_iconst (v := (1 : Int32)) hx hb dX0_init_60 (by decide) ?_
  refine va_zast hx hb h.1 h.2.1 h.2.2.1 h.2.2.2.1 4 3 rfl rfl (by unfold vp_in; decide) dX0_init_61 (fun H locs hP hD hS => ?_)
  have h : HE Z A s0 H locs [(h0, .inr (0, [.ref q0, .ref q1, .ref q2, .ref q3, .ref q4, .int 0, .int 0])), (q0, .inl (Z.2.1 1, 40, .inl (fun _ => 0))), (q1, .inl (Z.2.1 1, 40, .inl (fun _ => 0))), (q2, .inl (Z.2.1 3, 40, .inl (fun _ => 0))), (q3, .inl (Z.2.1 3, 16, .inl (upd (upd (upd (fun _ => 0) ((0 : Int32)).toNatClampNeg (vp_nar .boolean (1 : Int32))) ((5 : Int32)).toNatClampNeg (vp_nar .boolean (1 : Int32))) ((10 : Int32)).toNatClampNeg (vp_nar .boolean (1 : Int32))))), (q4, .inl (Z.2.1 2, 40, .inr (.inl (fun _ => 0))))] := ⟨h.1, hP, hD, hS, h.2.2.2.2.1, h.2.2.2.2.2⟩
  refine lv_iinc (v := (3 : Int32)) (lv' := [(1, .int (3 : Int32)), (0, .ref h0)]) hx hb dX0_init_62 hl (k := 1) rfl (by decide) (by decide) rfl (fun ls hl => ?_)
  have hl := lv_sub (l' := [(0, .ref h0), (1, .int (3 : Int32))]) hl [1, 0] rfl
  refine lv_goto (tgt := 46) hx hb dX0_init_65 (by decide) ?_
  refine lv_iload_n hx hb dX0_init_46 rfl (lv_at hl 1 rfl) ?_
  refine lv_iconst (v := (4 : Int32)) hx hb dX0_init_47 (by decide) ?_
  refine lv_icmp_ge (tgt := 68) hx hb dX0_init_48 (by decide) (fun q => absurd q (by decide)) (fun _ => ?_)
  refine lv_aload_n hx hb dX0_init_51 rfl (lv_at hl 0 rfl) ?_
  refine e_get (ci := 0) (v := .ref q3) (C := RX0) (T := TX0) (N := 7) F hinX0 h 0 rfl rfl 3 (by decide) (hts (.fieldLink RX0 22 "ElectionHouse$City" "yes" "[Z") (by decide +kernel)) rfl dX0_init_52 ?_
  refine lv_iload_n hx hb dX0_init_55 rfl (lv_at hl 1 rfl) ?_
  refine lv_iconst (v := (4 : Int32)) hx hb dX0_init_56 (by decide) ?_
  refine lv_imul hx hb dX0_init_57 ?_
  refine W.eq (g2 := F0 m 58 ls [.int (12 : Int32), .ref q3]) (by rfl) ?_
  refine lv_iload_n hx hb dX0_init_58 rfl (lv_at hl 1 rfl) ?_
  refine lv_iadd hx hb dX0_init_59 ?_
  refine W.eq (g2 := F0 m 60 ls [.int (15 : Int32), .ref q3]) (by rfl) ?_
  refine lv_iconst (v := (1 : Int32)) hx hb dX0_init_60 (by decide) ?_
  refine va_zast hx hb h.1 h.2.1 h.2.2.1 h.2.2.2.1 4 3 rfl rfl (by unfold vp_in; decide) dX0_init_61 (fun H locs hP hD hS => ?_)
  have h : HE Z A s0 H locs [(h0, .inr (0, [.ref q0, .ref q1, .ref q2, .ref q3, .ref q4, .int 0, .int 0])), (q0, .inl (Z.2.1 1, 40, .inl (fun _ => 0))), (q1, .inl (Z.2.1 1, 40, .inl (fun _ => 0))), (q2, .inl (Z.2.1 3, 40, .inl (fun _ => 0))), (q3, .inl (Z.2.1 3, 16, .inl (upd (upd (upd (upd (fun _ => 0) ((0 : Int32)).toNatClampNeg (vp_nar .boolean (1 : Int32))) ((5 : Int32)).toNatClampNeg (vp_nar .boolean (1 : Int32))) ((10 : Int32)).toNatClampNeg (vp_nar .boolean (1 : Int32))) ((15 : Int32)).toNatClampNeg (vp_nar .boolean (1 : Int32))))), (q4, .inl (Z.2.1 2, 40, .inr (.inl (fun _ => 0))))] := ⟨h.1, hP, hD, hS, h.2.2.2.2.1, h.2.2.2.2.2⟩
  refine lv_iinc (v := (4 : Int32)) (lv' := [(1, .int (4 : Int32)), (0, .ref h0)]) hx hb dX0_init_62 hl (k := 1) rfl (by decide) (by decide) rfl (fun ls hl => ?_)
  have hl := lv_sub (l' := [(0, .ref h0), (1, .int (4 : Int32))]) hl [1, 0] rfl
  refine lv_goto (tgt := 46) hx hb dX0_init_65 (by decide) ?_
  refine lv_iload_n hx hb dX0_init_46 rfl (lv_at hl 1 rfl) ?_
  refine lv_iconst (v := (4 : Int32)) hx hb dX0_init_47 (by decide) ?_
  refine lv_icmp_ge (tgt := 68) hx hb dX0_init_48 (by decide) (fun _ => ?_) (fun q => absurd (by decide) q)
  exact ctor_ret (w1 := w1_City Z h0) (fun k => [q0, q1, q2, q3, q4].getD k 0) F hr hlk h dX0_init_68

def w1_Tape (Z : ZT) (h0 : Nat) (u : Nat → Nat) : va_W := [(h0, .inr (8, [.ref (u 0), .int 0])), ((u 0), .inl (Z.2.1 1, 300, .inl (fun _ => 0)))]
set_option maxHeartbeats 8000000 in
set_option maxRecDepth 100000 in
theorem c_Tape_init (l : Launch) (Z : ZT) (h0 : Nat) : KC l Z yX8_init wsX8_init { frames := 1, cells := 1, slots := 300, locals := 20 } [.ref h0] [(h0, .inr (8, [.null, .int 0]))] (w1_Tape Z h0) 1 300 := by
  intro sz
  refine ctor_entry (cc := cX8_init) (maxL := 1) (by decide) rfl rfl (Nat.le_of_ble_eq_true rfl) sz rfl ?_
  generalize va_A _ sz = A
  intro p e s0 m args below meth c ls F hr hlk hnn h hl
  have hl : lv_has ls 1 [(0, .ref h0)] := hl
  obtain ⟨hx, hb, hml, hown, hts⟩ := id F
  have hinX8 : ∀ w ∈ wsX80, w ∈ wsX8_init := by decide +kernel
  obtain ⟨H, eH⟩ : ∃ z, z = s0.heap := ⟨_, rfl⟩
  obtain ⟨locs, eL⟩ : ∃ z : List Loc, z = [] := ⟨_, rfl⟩
  rw [← eH, ← eL] at h ⊢
  refine lv_aload_n hx hb dX8_init_0 rfl (lv_at hl 0 rfl) ?_
  refine W.objInit hx hb hown (hts (.methodLink RX8 3 objectInit) (by decide +kernel)) (hts (.instanceMethod objectInit) (by decide +kernel)) (hts (.code objectInit ⟨#[0xb1]⟩ 1 none) (by decide +kernel)) rfl (by rw [hml]; exact hl.1) rfl dX8_init_1 (Nat.le_of_ble_eq_true rfl) (Nat.le_of_ble_eq_true rfl) ?_
  refine W.eq (g2 := F0 m 4 ls []) rfl ?_
  refine lv_aload_n hx hb dX8_init_4 rfl (lv_at hl 0 rfl) ?_
  refine lv_sipush (v := (300 : Int32)) hx hb dX8_init_5 (by decide) ?_
  refine e_newI (N := 300) F (hts (.arrayClass .int) (by decide +kernel)) h (by decide) (by decide) (by decide) (Nat.le_of_ble_eq_true rfl) (Nat.le_of_ble_eq_true rfl) dX8_init_8 (fun q0 H h => ?_)
  have h : HE Z A s0 H locs [(h0, .inr (8, [.null, .int 0])), (q0, .inl (Z.2.1 1, 300, .inl (fun _ => 0)))] := h
  refine W.widen (k := 1) (n := 300) (Nat.le_refl _) (Nat.le_refl _) ?_
  refine e_putF (ci := 8) (ty := .array .int) (C := RX8) (T := TX8) (N := 2) F hnn hinX8 tyX8 tyX8_ok nmX8 h 0 rfl rfl 0 (by decide) (hts (.fieldLink RX8 9 "ElectionHouse$Tape" "bytes" "[I") (by decide +kernel)) rfl rfl (by decide +kernel) rfl rfl (Nat.le_of_ble_eq_true rfl) dX8_init_10 (fun H locs h => ?_)
  have h : HE Z A s0 H locs [(h0, .inr (8, [.ref q0, .int 0])), (q0, .inl (Z.2.1 1, 300, .inl (fun _ => 0)))] := h
  exact ctor_ret (w1 := w1_Tape Z h0) (fun k => [q0].getD k 0) F hr hlk h dX8_init_13

def w1_Reader (Z : ZT) (h0 : Nat) (a1 : Nat) (u : Nat → Nat) : va_W := [(h0, .inr (5, [.ref a1, .int 0, .int 0, .int 0]))]
set_option maxHeartbeats 8000000 in
set_option maxRecDepth 100000 in
theorem c_Reader_init (l : Launch) (Z : ZT) (h0 : Nat) (a1 : Nat) : KC l Z yX5_init wsX5_init { frames := 1, cells := 0, slots := 0, locals := 20 } [.ref h0, .ref a1] [(h0, .inr (5, [.null, .int 0, .int 0, .int 0]))] (w1_Reader Z h0 a1) 0 0 := by
  intro sz
  refine ctor_entry (cc := cX5_init) (maxL := 2) (by decide) rfl rfl (Nat.le_of_ble_eq_true rfl) sz rfl ?_
  generalize va_A _ sz = A
  intro p e s0 m args below meth c ls F hr hlk hnn h hl
  have hl : lv_has ls 2 [(0, .ref h0), (1, .ref a1)] := hl
  obtain ⟨hx, hb, hml, hown, hts⟩ := id F
  have hinX5 : ∀ w ∈ wsX50, w ∈ wsX5_init := by decide +kernel
  obtain ⟨H, eH⟩ : ∃ z, z = s0.heap := ⟨_, rfl⟩
  obtain ⟨locs, eL⟩ : ∃ z : List Loc, z = [] := ⟨_, rfl⟩
  rw [← eH, ← eL] at h ⊢
  refine lv_aload_n hx hb dX5_init_0 rfl (lv_at hl 0 rfl) ?_
  refine W.objInit hx hb hown (hts (.methodLink RX5 3 objectInit) (by decide +kernel)) (hts (.instanceMethod objectInit) (by decide +kernel)) (hts (.code objectInit ⟨#[0xb1]⟩ 1 none) (by decide +kernel)) rfl (by rw [hml]; exact hl.1) rfl dX5_init_1 (Nat.le_of_ble_eq_true rfl) (Nat.le_of_ble_eq_true rfl) ?_
  refine W.eq (g2 := F0 m 4 ls []) rfl ?_
  refine lv_aload_n hx hb dX5_init_4 rfl (lv_at hl 0 rfl) ?_
  refine lv_aload_n hx hb dX5_init_5 rfl (lv_at hl 1 rfl) ?_
  refine e_putF (ci := 5) (ty := .object "ElectionHouse$Tape") (C := RX5) (T := TX5) (N := 4) F hnn hinX5 tyX5 tyX5_ok nmX5 h 0 rfl rfl 0 (by decide) (hts (.fieldLink RX5 9 "ElectionHouse$Reader" "tape" "LElectionHouse$Tape;") (by decide +kernel)) rfl rfl (by decide +kernel) rfl rfl (Nat.le_of_ble_eq_true rfl) dX5_init_6 (fun H locs h => ?_)
  have h : HE Z A s0 H locs [(h0, .inr (5, [.ref a1, .int 0, .int 0, .int 0]))] := h
  exact ctor_ret (w1 := w1_Reader Z h0 a1) (fun k => [].getD k 0) F hr hlk h dX5_init_9

def w1_Lot (Z : ZT) (h0 : Nat) (u : Nat → Nat) : va_W := [(h0, .inr (1, [.ref (u 0), .int 0, .int 0, .int 0])), ((u 0), .inl (Z.2.1 1, 500, .inl (fun _ => 0)))]
set_option maxHeartbeats 8000000 in
set_option maxRecDepth 100000 in
theorem c_Lot_init (l : Launch) (Z : ZT) (h0 : Nat) : KC l Z yX1_init wsX1_init { frames := 1, cells := 1, slots := 500, locals := 20 } [.ref h0] [(h0, .inr (1, [.null, .int 0, .int 0, .int 0]))] (w1_Lot Z h0) 1 500 := by
  intro sz
  refine ctor_entry (cc := cX1_init) (maxL := 1) (by decide) rfl rfl (Nat.le_of_ble_eq_true rfl) sz rfl ?_
  generalize va_A _ sz = A
  intro p e s0 m args below meth c ls F hr hlk hnn h hl
  have hl : lv_has ls 1 [(0, .ref h0)] := hl
  obtain ⟨hx, hb, hml, hown, hts⟩ := id F
  have hinX1 : ∀ w ∈ wsX10, w ∈ wsX1_init := by decide +kernel
  obtain ⟨H, eH⟩ : ∃ z, z = s0.heap := ⟨_, rfl⟩
  obtain ⟨locs, eL⟩ : ∃ z : List Loc, z = [] := ⟨_, rfl⟩
  rw [← eH, ← eL] at h ⊢
  refine lv_aload_n hx hb dX1_init_0 rfl (lv_at hl 0 rfl) ?_
  refine W.objInit hx hb hown (hts (.methodLink RX1 3 objectInit) (by decide +kernel)) (hts (.instanceMethod objectInit) (by decide +kernel)) (hts (.code objectInit ⟨#[0xb1]⟩ 1 none) (by decide +kernel)) rfl (by rw [hml]; exact hl.1) rfl dX1_init_1 (Nat.le_of_ble_eq_true rfl) (Nat.le_of_ble_eq_true rfl) ?_
  refine W.eq (g2 := F0 m 4 ls []) rfl ?_
  refine lv_aload_n hx hb dX1_init_4 rfl (lv_at hl 0 rfl) ?_
  refine lv_sipush (v := (500 : Int32)) hx hb dX1_init_5 (by decide) ?_
  refine e_newI (N := 500) F (hts (.arrayClass .int) (by decide +kernel)) h (by decide) (by decide) (by decide) (Nat.le_of_ble_eq_true rfl) (Nat.le_of_ble_eq_true rfl) dX1_init_8 (fun q0 H h => ?_)
  have h : HE Z A s0 H locs [(h0, .inr (1, [.null, .int 0, .int 0, .int 0])), (q0, .inl (Z.2.1 1, 500, .inl (fun _ => 0)))] := h
  refine W.widen (k := 1) (n := 500) (Nat.le_refl _) (Nat.le_refl _) ?_
  refine e_putF (ci := 1) (ty := .array .int) (C := RX1) (T := TX1) (N := 4) F hnn hinX1 tyX1 tyX1_ok nmX1 h 0 rfl rfl 0 (by decide) (hts (.fieldLink RX1 9 "ElectionHouse$LotRow" "ring" "[I") (by decide +kernel)) rfl rfl (by decide +kernel) rfl rfl (Nat.le_of_ble_eq_true rfl) dX1_init_10 (fun H locs h => ?_)
  have h : HE Z A s0 H locs [(h0, .inr (1, [.ref q0, .int 0, .int 0, .int 0])), (q0, .inl (Z.2.1 1, 500, .inl (fun _ => 0)))] := h
  exact ctor_ret (w1 := w1_Lot Z h0) (fun k => [q0].getD k 0) F hr hlk h dX1_init_13

def w1_Poll (Z : ZT) (h0 : Nat) (u : Nat → Nat) : va_W := [(h0, .inr (4, [.ref (u 0), .int 0, .int 0, .int 0, .int 0])), ((u 0), .inl (Z.2.1 1, 40, .inl (fun _ => 0)))]
set_option maxHeartbeats 8000000 in
set_option maxRecDepth 100000 in
theorem c_Poll_init (l : Launch) (Z : ZT) (h0 : Nat) : KC l Z yX4_init wsX4_init { frames := 1, cells := 1, slots := 40, locals := 20 } [.ref h0] [(h0, .inr (4, [.null, .int 0, .int 0, .int 0, .int 0]))] (w1_Poll Z h0) 1 40 := by
  intro sz
  refine ctor_entry (cc := cX4_init) (maxL := 1) (by decide) rfl rfl (Nat.le_of_ble_eq_true rfl) sz rfl ?_
  generalize va_A _ sz = A
  intro p e s0 m args below meth c ls F hr hlk hnn h hl
  have hl : lv_has ls 1 [(0, .ref h0)] := hl
  obtain ⟨hx, hb, hml, hown, hts⟩ := id F
  have hinX4 : ∀ w ∈ wsX40, w ∈ wsX4_init := by decide +kernel
  obtain ⟨H, eH⟩ : ∃ z, z = s0.heap := ⟨_, rfl⟩
  obtain ⟨locs, eL⟩ : ∃ z : List Loc, z = [] := ⟨_, rfl⟩
  rw [← eH, ← eL] at h ⊢
  refine lv_aload_n hx hb dX4_init_0 rfl (lv_at hl 0 rfl) ?_
  refine W.objInit hx hb hown (hts (.methodLink RX4 3 objectInit) (by decide +kernel)) (hts (.instanceMethod objectInit) (by decide +kernel)) (hts (.code objectInit ⟨#[0xb1]⟩ 1 none) (by decide +kernel)) rfl (by rw [hml]; exact hl.1) rfl dX4_init_1 (Nat.le_of_ble_eq_true rfl) (Nat.le_of_ble_eq_true rfl) ?_
  refine W.eq (g2 := F0 m 4 ls []) rfl ?_
  refine lv_aload_n hx hb dX4_init_4 rfl (lv_at hl 0 rfl) ?_
  refine lv_bipush (v := (40 : Int32)) hx hb dX4_init_5 (by decide) ?_
  refine e_newI (N := 40) F (hts (.arrayClass .int) (by decide +kernel)) h (by decide) (by decide) (by decide) (Nat.le_of_ble_eq_true rfl) (Nat.le_of_ble_eq_true rfl) dX4_init_7 (fun q0 H h => ?_)
  have h : HE Z A s0 H locs [(h0, .inr (4, [.null, .int 0, .int 0, .int 0, .int 0])), (q0, .inl (Z.2.1 1, 40, .inl (fun _ => 0)))] := h
  refine W.widen (k := 1) (n := 40) (Nat.le_refl _) (Nat.le_refl _) ?_
  refine e_putF (ci := 4) (ty := .array .int) (C := RX4) (T := TX4) (N := 5) F hnn hinX4 tyX4 tyX4_ok nmX4 h 0 rfl rfl 0 (by decide) (hts (.fieldLink RX4 9 "ElectionHouse$Poll" "votes" "[I") (by decide +kernel)) rfl rfl (by decide +kernel) rfl rfl (Nat.le_of_ble_eq_true rfl) dX4_init_9 (fun H locs h => ?_)
  have h : HE Z A s0 H locs [(h0, .inr (4, [.ref q0, .int 0, .int 0, .int 0, .int 0])), (q0, .inl (Z.2.1 1, 40, .inl (fun _ => 0)))] := h
  exact ctor_ret (w1 := w1_Poll Z h0) (fun k => [q0].getD k 0) F hr hlk h dX4_init_12

def w1_Plan (Z : ZT) (h0 : Nat) (u : Nat → Nat) : va_W := [(h0, .inr (3, [.ref (u 0), .ref (u 1), .ref (u 2), .ref (u 3), .int 0])), ((u 0), .inl (Z.2.1 1, 12, .inl (fun _ => 0))), ((u 1), .inl (Z.2.1 1, 12, .inl (fun _ => 0))), ((u 2), .inl (Z.2.1 1, 12, .inl (fun _ => 0))), ((u 3), .inl (Z.2.1 1, 12, .inl (fun _ => 0)))]
set_option maxHeartbeats 8000000 in
set_option maxRecDepth 100000 in
theorem c_Plan_init (l : Launch) (Z : ZT) (h0 : Nat) : KC l Z yX3_init wsX3_init { frames := 1, cells := 4, slots := 48, locals := 20 } [.ref h0] [(h0, .inr (3, [.null, .null, .null, .null, .int 0]))] (w1_Plan Z h0) 4 48 := by
  intro sz
  refine ctor_entry (cc := cX3_init) (maxL := 1) (by decide) rfl rfl (Nat.le_of_ble_eq_true rfl) sz rfl ?_
  generalize va_A _ sz = A
  intro p e s0 m args below meth c ls F hr hlk hnn h hl
  have hl : lv_has ls 1 [(0, .ref h0)] := hl
  obtain ⟨hx, hb, hml, hown, hts⟩ := id F
  have hinX3 : ∀ w ∈ wsX30, w ∈ wsX3_init := by decide +kernel
  obtain ⟨H, eH⟩ : ∃ z, z = s0.heap := ⟨_, rfl⟩
  obtain ⟨locs, eL⟩ : ∃ z : List Loc, z = [] := ⟨_, rfl⟩
  rw [← eH, ← eL] at h ⊢
  refine lv_aload_n hx hb dX3_init_0 rfl (lv_at hl 0 rfl) ?_
  refine W.objInit hx hb hown (hts (.methodLink RX3 3 objectInit) (by decide +kernel)) (hts (.instanceMethod objectInit) (by decide +kernel)) (hts (.code objectInit ⟨#[0xb1]⟩ 1 none) (by decide +kernel)) rfl (by rw [hml]; exact hl.1) rfl dX3_init_1 (Nat.le_of_ble_eq_true rfl) (Nat.le_of_ble_eq_true rfl) ?_
  refine W.eq (g2 := F0 m 4 ls []) rfl ?_
  refine lv_aload_n hx hb dX3_init_4 rfl (lv_at hl 0 rfl) ?_
  refine lv_bipush (v := (12 : Int32)) hx hb dX3_init_5 (by decide) ?_
  refine e_newI (N := 12) F (hts (.arrayClass .int) (by decide +kernel)) h (by decide) (by decide) (by decide) (Nat.le_of_ble_eq_true rfl) (Nat.le_of_ble_eq_true rfl) dX3_init_7 (fun q0 H h => ?_)
  have h : HE Z A s0 H locs [(h0, .inr (3, [.null, .null, .null, .null, .int 0])), (q0, .inl (Z.2.1 1, 12, .inl (fun _ => 0)))] := h
  refine W.widen (k := 1) (n := 12) (Nat.le_refl _) (Nat.le_refl _) ?_
  refine e_putF (ci := 3) (ty := .array .int) (C := RX3) (T := TX3) (N := 5) F hnn hinX3 tyX3 tyX3_ok nmX3 h 0 rfl rfl 0 (by decide) (hts (.fieldLink RX3 9 "ElectionHouse$Plan" "kinds" "[I") (by decide +kernel)) rfl rfl (by decide +kernel) rfl rfl (Nat.le_of_ble_eq_true rfl) dX3_init_9 (fun H locs h => ?_)
  have h : HE Z A s0 H locs [(h0, .inr (3, [.ref q0, .null, .null, .null, .int 0])), (q0, .inl (Z.2.1 1, 12, .inl (fun _ => 0)))] := h
  refine lv_aload_n hx hb dX3_init_12 rfl (lv_at hl 0 rfl) ?_
  refine lv_bipush (v := (12 : Int32)) hx hb dX3_init_13 (by decide) ?_
  refine e_newI (N := 12) F (hts (.arrayClass .int) (by decide +kernel)) h (by decide) (by decide) (by decide) (Nat.le_of_ble_eq_true rfl) (Nat.le_of_ble_eq_true rfl) dX3_init_15 (fun q1 H h => ?_)
  have h : HE Z A s0 H locs [(h0, .inr (3, [.ref q0, .null, .null, .null, .int 0])), (q0, .inl (Z.2.1 1, 12, .inl (fun _ => 0))), (q1, .inl (Z.2.1 1, 12, .inl (fun _ => 0)))] := h
  refine W.widen (k := 2) (n := 24) (Nat.le_refl _) (Nat.le_refl _) ?_
  refine e_putF (ci := 3) (ty := .array .int) (C := RX3) (T := TX3) (N := 5) F hnn hinX3 tyX3 tyX3_ok nmX3 h 0 rfl rfl 1 (by decide) (hts (.fieldLink RX3 15 "ElectionHouse$Plan" "sizes" "[I") (by decide +kernel)) rfl rfl (by decide +kernel) rfl rfl (Nat.le_of_ble_eq_true rfl) dX3_init_17 (fun H locs h => ?_)
  have h : HE Z A s0 H locs [(h0, .inr (3, [.ref q0, .ref q1, .null, .null, .int 0])), (q0, .inl (Z.2.1 1, 12, .inl (fun _ => 0))), (q1, .inl (Z.2.1 1, 12, .inl (fun _ => 0)))] := h
  refine lv_aload_n hx hb dX3_init_20 rfl (lv_at hl 0 rfl) ?_
  refine lv_bipush (v := (12 : Int32)) hx hb dX3_init_21 (by decide) ?_
  refine e_newI (N := 12) F (hts (.arrayClass .int) (by decide +kernel)) h (by decide) (by decide) (by decide) (Nat.le_of_ble_eq_true rfl) (Nat.le_of_ble_eq_true rfl) dX3_init_23 (fun q2 H h => ?_)
  have h : HE Z A s0 H locs [(h0, .inr (3, [.ref q0, .ref q1, .null, .null, .int 0])), (q0, .inl (Z.2.1 1, 12, .inl (fun _ => 0))), (q1, .inl (Z.2.1 1, 12, .inl (fun _ => 0))), (q2, .inl (Z.2.1 1, 12, .inl (fun _ => 0)))] := h
  refine W.widen (k := 3) (n := 36) (Nat.le_refl _) (Nat.le_refl _) ?_
  refine e_putF (ci := 3) (ty := .array .int) (C := RX3) (T := TX3) (N := 5) F hnn hinX3 tyX3 tyX3_ok nmX3 h 0 rfl rfl 2 (by decide) (hts (.fieldLink RX3 18 "ElectionHouse$Plan" "votes" "[I") (by decide +kernel)) rfl rfl (by decide +kernel) rfl rfl (Nat.le_of_ble_eq_true rfl) dX3_init_25 (fun H locs h => ?_)
  have h : HE Z A s0 H locs [(h0, .inr (3, [.ref q0, .ref q1, .ref q2, .null, .int 0])), (q0, .inl (Z.2.1 1, 12, .inl (fun _ => 0))), (q1, .inl (Z.2.1 1, 12, .inl (fun _ => 0))), (q2, .inl (Z.2.1 1, 12, .inl (fun _ => 0)))] := h
  refine lv_aload_n hx hb dX3_init_28 rfl (lv_at hl 0 rfl) ?_
  refine lv_bipush (v := (12 : Int32)) hx hb dX3_init_29 (by decide) ?_
  refine e_newI (N := 12) F (hts (.arrayClass .int) (by decide +kernel)) h (by decide) (by decide) (by decide) (Nat.le_of_ble_eq_true rfl) (Nat.le_of_ble_eq_true rfl) dX3_init_31 (fun q3 H h => ?_)
  have h : HE Z A s0 H locs [(h0, .inr (3, [.ref q0, .ref q1, .ref q2, .null, .int 0])), (q0, .inl (Z.2.1 1, 12, .inl (fun _ => 0))), (q1, .inl (Z.2.1 1, 12, .inl (fun _ => 0))), (q2, .inl (Z.2.1 1, 12, .inl (fun _ => 0))), (q3, .inl (Z.2.1 1, 12, .inl (fun _ => 0)))] := h
  refine W.widen (k := 4) (n := 48) (Nat.le_refl _) (Nat.le_refl _) ?_
  refine e_putF (ci := 3) (ty := .array .int) (C := RX3) (T := TX3) (N := 5) F hnn hinX3 tyX3 tyX3_ok nmX3 h 0 rfl rfl 3 (by decide) (hts (.fieldLink RX3 21 "ElectionHouse$Plan" "limits" "[I") (by decide +kernel)) rfl rfl (by decide +kernel) rfl rfl (Nat.le_of_ble_eq_true rfl) dX3_init_33 (fun H locs h => ?_)
  have h : HE Z A s0 H locs [(h0, .inr (3, [.ref q0, .ref q1, .ref q2, .ref q3, .int 0])), (q0, .inl (Z.2.1 1, 12, .inl (fun _ => 0))), (q1, .inl (Z.2.1 1, 12, .inl (fun _ => 0))), (q2, .inl (Z.2.1 1, 12, .inl (fun _ => 0))), (q3, .inl (Z.2.1 1, 12, .inl (fun _ => 0)))] := h
  exact ctor_ret (w1 := w1_Plan Z h0) (fun k => [q0, q1, q2, q3].getD k 0) F hr hlk h dX3_init_36

def w1_Tally (Z : ZT) (h0 : Nat) (u : Nat → Nat) : va_W := [(h0, .inr (7, [.ref (u 0), .ref (u 1), .ref (u 2), .int 0])), ((u 0), .inl (Z.2.1 1, 600, .inl (fun _ => 0))), ((u 1), .inl (Z.2.1 2, 600, .inr (.inl (fun _ => 0)))), ((u 2), .inl (Z.2.1 1, 1024, .inl (fun _ => 0)))]
set_option maxHeartbeats 8000000 in
set_option maxRecDepth 100000 in
theorem c_Tally_init (l : Launch) (Z : ZT) (h0 : Nat) : KC l Z yX7_init wsX7_init { frames := 1, cells := 3, slots := 2224, locals := 20 } [.ref h0] [(h0, .inr (7, [.null, .null, .null, .int 0]))] (w1_Tally Z h0) 3 2224 := by
  intro sz
  refine ctor_entry (cc := cX7_init) (maxL := 1) (by decide) rfl rfl (Nat.le_of_ble_eq_true rfl) sz rfl ?_
  generalize va_A _ sz = A
  intro p e s0 m args below meth c ls F hr hlk hnn h hl
  have hl : lv_has ls 1 [(0, .ref h0)] := hl
  obtain ⟨hx, hb, hml, hown, hts⟩ := id F
  have hinX7 : ∀ w ∈ wsX70, w ∈ wsX7_init := by decide +kernel
  obtain ⟨H, eH⟩ : ∃ z, z = s0.heap := ⟨_, rfl⟩
  obtain ⟨locs, eL⟩ : ∃ z : List Loc, z = [] := ⟨_, rfl⟩
  rw [← eH, ← eL] at h ⊢
  refine lv_aload_n hx hb dX7_init_0 rfl (lv_at hl 0 rfl) ?_
  refine W.objInit hx hb hown (hts (.methodLink RX7 3 objectInit) (by decide +kernel)) (hts (.instanceMethod objectInit) (by decide +kernel)) (hts (.code objectInit ⟨#[0xb1]⟩ 1 none) (by decide +kernel)) rfl (by rw [hml]; exact hl.1) rfl dX7_init_1 (Nat.le_of_ble_eq_true rfl) (Nat.le_of_ble_eq_true rfl) ?_
  refine W.eq (g2 := F0 m 4 ls []) rfl ?_
  refine lv_aload_n hx hb dX7_init_4 rfl (lv_at hl 0 rfl) ?_
  refine lv_sipush (v := (600 : Int32)) hx hb dX7_init_5 (by decide) ?_
  refine e_newI (N := 600) F (hts (.arrayClass .int) (by decide +kernel)) h (by decide) (by decide) (by decide) (Nat.le_of_ble_eq_true rfl) (Nat.le_of_ble_eq_true rfl) dX7_init_8 (fun q0 H h => ?_)
  have h : HE Z A s0 H locs [(h0, .inr (7, [.null, .null, .null, .int 0])), (q0, .inl (Z.2.1 1, 600, .inl (fun _ => 0)))] := h
  refine W.widen (k := 1) (n := 600) (Nat.le_refl _) (Nat.le_refl _) ?_
  refine e_putF (ci := 7) (ty := .array .int) (C := RX7) (T := TX7) (N := 4) F hnn hinX7 tyX7 tyX7_ok nmX7 h 0 rfl rfl 0 (by decide) (hts (.fieldLink RX7 9 "ElectionHouse$Tally" "keys" "[I") (by decide +kernel)) rfl rfl (by decide +kernel) rfl rfl (Nat.le_of_ble_eq_true rfl) dX7_init_10 (fun H locs h => ?_)
  have h : HE Z A s0 H locs [(h0, .inr (7, [.ref q0, .null, .null, .int 0])), (q0, .inl (Z.2.1 1, 600, .inl (fun _ => 0)))] := h
  refine lv_aload_n hx hb dX7_init_13 rfl (lv_at hl 0 rfl) ?_
  refine lv_sipush (v := (600 : Int32)) hx hb dX7_init_14 (by decide) ?_
  refine e_newJ (N := 600) F (hts (.arrayClass .long) (by decide +kernel)) h (by decide) (by decide) (by decide) (Nat.le_of_ble_eq_true rfl) (Nat.le_of_ble_eq_true rfl) dX7_init_17 (fun q1 H h => ?_)
  have h : HE Z A s0 H locs [(h0, .inr (7, [.ref q0, .null, .null, .int 0])), (q0, .inl (Z.2.1 1, 600, .inl (fun _ => 0))), (q1, .inl (Z.2.1 2, 600, .inr (.inl (fun _ => 0))))] := h
  refine W.widen (k := 2) (n := 1200) (Nat.le_refl _) (Nat.le_refl _) ?_
  refine e_putF (ci := 7) (ty := .array .long) (C := RX7) (T := TX7) (N := 4) F hnn hinX7 tyX7 tyX7_ok nmX7 h 0 rfl rfl 1 (by decide) (hts (.fieldLink RX7 15 "ElectionHouse$Tally" "ways" "[J") (by decide +kernel)) rfl rfl (by decide +kernel) rfl rfl (Nat.le_of_ble_eq_true rfl) dX7_init_19 (fun H locs h => ?_)
  have h : HE Z A s0 H locs [(h0, .inr (7, [.ref q0, .ref q1, .null, .int 0])), (q0, .inl (Z.2.1 1, 600, .inl (fun _ => 0))), (q1, .inl (Z.2.1 2, 600, .inr (.inl (fun _ => 0))))] := h
  refine lv_aload_n hx hb dX7_init_22 rfl (lv_at hl 0 rfl) ?_
  refine lv_sipush (v := (1024 : Int32)) hx hb dX7_init_23 (by decide) ?_
  refine e_newI (N := 1024) F (hts (.arrayClass .int) (by decide +kernel)) h (by decide) (by decide) (by decide) (Nat.le_of_ble_eq_true rfl) (Nat.le_of_ble_eq_true rfl) dX7_init_26 (fun q2 H h => ?_)
  have h : HE Z A s0 H locs [(h0, .inr (7, [.ref q0, .ref q1, .null, .int 0])), (q0, .inl (Z.2.1 1, 600, .inl (fun _ => 0))), (q1, .inl (Z.2.1 2, 600, .inr (.inl (fun _ => 0)))), (q2, .inl (Z.2.1 1, 1024, .inl (fun _ => 0)))] := h
  refine W.widen (k := 3) (n := 2224) (Nat.le_refl _) (Nat.le_refl _) ?_
  refine e_putF (ci := 7) (ty := .array .int) (C := RX7) (T := TX7) (N := 4) F hnn hinX7 tyX7 tyX7_ok nmX7 h 0 rfl rfl 2 (by decide) (hts (.fieldLink RX7 19 "ElectionHouse$Tally" "slots" "[I") (by decide +kernel)) rfl rfl (by decide +kernel) rfl rfl (Nat.le_of_ble_eq_true rfl) dX7_init_28 (fun H locs h => ?_)
  have h : HE Z A s0 H locs [(h0, .inr (7, [.ref q0, .ref q1, .ref q2, .int 0])), (q0, .inl (Z.2.1 1, 600, .inl (fun _ => 0))), (q1, .inl (Z.2.1 2, 600, .inr (.inl (fun _ => 0)))), (q2, .inl (Z.2.1 1, 1024, .inl (fun _ => 0)))] := h
  exact ctor_ret (w1 := w1_Tally Z h0) (fun k => [q0, q1, q2].getD k 0) F hr hlk h dX7_init_31

