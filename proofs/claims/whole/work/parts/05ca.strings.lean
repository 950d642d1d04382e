set_option maxHeartbeats 4000000 in
set_option maxRecDepth 100000 in
theorem c_coder (l : Launch) (Z : ZT) (V : XS → va_W) (s : XS) {i : Nat} (hi : i < 5) : KI l Z V yJ0_coder_7d493 wsJ0_coder_7d493 { frames := 0, cells := 0, slots := 0, locals := 0 } [.ref (Z.2.2.1 i)] s 0 s := by
  intro sz
  refine met_entry (cc := cJ0_coder_7d493) (maxL := 1) (ret := some .byte) (by decide) rfl (Nat.le_of_ble_eq_true rfl) sz rfl ?_
  generalize va_A (V s) sz = A
  intro p e s0 m args below meth c ls F hr hlk h hl
  obtain ⟨hx, hb, hml, hown, hts⟩ := id F
  have hl : lv_has ls 1 [(0, .ref (Z.2.2.1 i))] := hl
  have hS := h.2.2.2.1
  have hO := h.2.2.2.2.2.2
  refine va_gets hx hb hO.2.1 hS hown (hts (.fieldLink RJ0 38 "java/lang/String" "COMPACT_STRINGS" "Z") (by decide +kernel)) (fun _ h9 => h9) dJ0_coder_7d493_0 ?_
  refine lv_if_eq (tgt := 13) hx hb dJ0_coder_7d493_3 (by decide) (fun q => absurd q (by decide)) (fun _ => ?_)
  refine lv_aload_n hx hb dJ0_coder_7d493_6 rfl (lv_at hl 0 rfl) ?_
  refine vk_getf hx hb (hO.1.1 i hi).2.1 hS hown (hts (.fieldLink RJ0 15 "java/lang/String" "coder" "B") (by decide +kernel)) (fun _ h9 => h9) dJ0_coder_7d493_7 ?_
  refine lv_goto (tgt := 14) hx hb dJ0_coder_7d493_10 (by decide) ?_
  exact retN F hr hlk rfl h dJ0_coder_7d493_14
set_option maxHeartbeats 4000000 in
set_option maxRecDepth 100000 in
theorem c_isLatin1 (l : Launch) (Z : ZT) (V : XS → va_W) (s : XS) {i : Nat} (hi : i < 5) : KI l Z V yJ0_isLatin1_aae02 wsJ0_isLatin1_aae02 { frames := 0, cells := 0, slots := 0, locals := 0 } [.ref (Z.2.2.1 i)] s 1 s := by
  intro sz
  refine met_entry (cc := cJ0_isLatin1_aae02) (maxL := 1) (ret := some .boolean) (by decide) rfl (Nat.le_of_ble_eq_true rfl) sz rfl ?_
  generalize va_A (V s) sz = A
  intro p e s0 m args below meth c ls F hr hlk h hl
  obtain ⟨hx, hb, hml, hown, hts⟩ := id F
  have hl : lv_has ls 1 [(0, .ref (Z.2.2.1 i))] := hl
  have hS := h.2.2.2.1
  have hO := h.2.2.2.2.2.2
  refine va_gets hx hb hO.2.1 hS hown (hts (.fieldLink RJ0 38 "java/lang/String" "COMPACT_STRINGS" "Z") (by decide +kernel)) (fun _ h9 => h9) dJ0_isLatin1_aae02_0 ?_
  refine lv_if_eq (tgt := 17) hx hb dJ0_isLatin1_aae02_3 (by decide) (fun q => absurd q (by decide)) (fun _ => ?_)
  refine lv_aload_n hx hb dJ0_isLatin1_aae02_6 rfl (lv_at hl 0 rfl) ?_
  refine vk_getf hx hb (hO.1.1 i hi).2.1 hS hown (hts (.fieldLink RJ0 15 "java/lang/String" "coder" "B") (by decide +kernel)) (fun _ h9 => h9) dJ0_isLatin1_aae02_7 ?_
  refine lv_if_ne (tgt := 17) hx hb dJ0_isLatin1_aae02_10 (by decide) (fun q => absurd rfl q) (fun _ => ?_)
  refine lv_iconst (v := 1) hx hb dJ0_isLatin1_aae02_13 (by decide) ?_
  refine lv_goto (tgt := 18) hx hb dJ0_isLatin1_aae02_14 (by decide) ?_
  exact retN F hr hlk rfl h dJ0_isLatin1_aae02_18
set_option maxHeartbeats 4000000 in
set_option maxRecDepth 100000 in
theorem c_strlen (l : Launch) (Z : ZT) (V : XS → va_W) (s : XS) {i : Nat} (hi : i < 5) : KI l Z V yJ0_length_8abf5 wsJ0_length_8abf5 { frames := 1, cells := 0, slots := 0, locals := 20 } [.ref (Z.2.2.1 i)] s (strN i) s := by
  intro sz
  refine met_entry (cc := cJ0_length_8abf5) (maxL := 1) (ret := some .int) (by decide) rfl (Nat.le_of_ble_eq_true rfl) sz rfl ?_
  generalize va_A (V s) sz = A
  intro p e s0 m args below meth c ls F hr hlk h hl
  obtain ⟨hx, hb, hml, hown, hts⟩ := id F
  have hl : lv_has ls 1 [(0, .ref (Z.2.2.1 i))] := hl
  have hS := h.2.2.2.1
  have hO := h.2.2.2.2.2.2
  refine lv_aload_n hx hb dJ0_length_8abf5_0 rfl (lv_at hl 0 rfl) ?_
  refine vk_getf hx hb (hO.1.1 i hi).2.2.1 hS hown (hts (.fieldLink RJ0 9 "java/lang/String" "value" "[B") (by decide +kernel)) (fun _ h9 => h9) dJ0_length_8abf5_1 ?_
  refine va_tlen (v := strN i) hx hb (hO.1.1 i hi).2.2.2 hS rfl dJ0_length_8abf5_4 ?_
  refine lv_aload_n hx hb dJ0_length_8abf5_5 rfl (lv_at hl 0 rfl) ?_
  refine call_VI F (c_coder l Z V s hi) (cwV 0 hts gJ0_length_8abf5_J0_coder_7d493 rfl rfl rfl (by decide +kernel) ⟨Nat.le_of_ble_eq_true rfl, Nat.le_of_ble_eq_true rfl⟩) h (vk_recv hO.1 hi hS) rfl hl.1 rfl (Nat.le_of_ble_eq_true rfl) ⟨Nat.zero_le _, Nat.zero_le _⟩ dJ0_length_8abf5_6 (fun H locs h => ?_)
  refine lv_ishr hx hb dJ0_length_8abf5_9 ?_
  rw [sb_shr0]
  exact ret_I F hr hlk h dJ0_length_8abf5_10
set_option maxHeartbeats 4000000 in
set_option maxRecDepth 100000 in
theorem c_chk3 (l : Launch) (Z : ZT) (V : XS → va_W) (s : XS) {x n : Int32} {v : Value} (hv : v.category = 1) (h0 : ¬ x < 0) (h1 : x < n) : KI l Z V yJ3_checkIndex_8e157 wsJ3_checkIndex_8e157 { frames := 0, cells := 0, slots := 0, locals := 0 } [.int x, .int n, v] s x s := by
  have hc : v = .null ∨ True := Or.inr trivial
  intro sz
  refine met_entry (cc := cJ3_checkIndex_8e157) (maxL := 3) (ret := some .int) (by decide) rfl (by cases v <;> first | (exact Nat.le_of_ble_eq_true rfl) | (simp [Value.category] at hv)) sz rfl ?_
  generalize va_A (V s) sz = A
  intro p e s0 m args below meth c ls F hr hlk h hl
  obtain ⟨hx, hb, hml, hown, hts⟩ := id F
  have hl : lv_has ls 3 [(0, .int x), (1, .int n)] := by
    cases v <;> exact lv_sub hl [0, 1] rfl
  refine lv_iload_n hx hb dJ3_checkIndex_8e157_0 rfl (lv_at hl 0 rfl) ?_
  refine lv_if_lt (tgt := 9) hx hb dJ3_checkIndex_8e157_1 (by decide) (fun q => absurd q h0) (fun _ => ?_)
  refine lv_iload_n hx hb dJ3_checkIndex_8e157_4 rfl (lv_at hl 0 rfl) ?_
  refine lv_iload_n hx hb dJ3_checkIndex_8e157_5 rfl (lv_at hl 1 rfl) ?_
  refine lv_icmp_lt (tgt := 16) hx hb dJ3_checkIndex_8e157_6 (by decide) (fun _ => ?_) (fun q => absurd h1 q)
  refine lv_iload_n hx hb dJ3_checkIndex_8e157_16 rfl (lv_at hl 0 rfl) ?_
  exact ret_I F hr hlk h dJ3_checkIndex_8e157_17
set_option maxHeartbeats 4000000 in
set_option maxRecDepth 100000 in
theorem c_chk0 (l : Launch) (Z : ZT) (V : XS → va_W) (s : XS) {x n : Int32} (h0 : ¬ x < 0) (h1 : x < n) : KV l Z V yJ0_checkIndex_df160 wsJ0_checkIndex_df160 { frames := 1, cells := 0, slots := 0, locals := 22 } [.int x, .int n] s s := by
  intro sz
  refine met_entry (cc := cJ0_checkIndex_df160) (maxL := 2) (ret := none) (by decide) rfl (Nat.le_of_ble_eq_true rfl) sz rfl ?_
  generalize va_A (V s) sz = A
  intro p e s0 m args below meth c ls F hr hlk h hl
  obtain ⟨hx, hb, hml, hown, hts⟩ := id F
  have hl : lv_has ls 2 [(0, .int x), (1, .int n)] := hl
  have hS := h.2.2.2.1
  have hO := h.2.2.2.2.2.2
  refine lv_iload_n hx hb dJ0_checkIndex_df160_0 rfl (lv_at hl 0 rfl) ?_
  refine lv_iload_n hx hb dJ0_checkIndex_df160_1 rfl (lv_at hl 1 rfl) ?_
  rcases hO.2.2.1 with hZ | ⟨t, hZ⟩
  · refine va_gets hx hb hZ hS hown (hts (.fieldLink RJ0 1053 "jdk/internal/util/Preconditions" "SIOOBE_FORMATTER" "Ljava/util/function/BiFunction;") (by decide +kernel)) (fun _ h9 => h9) dJ0_checkIndex_df160_2 ?_
    refine call_SI F (c_chk3 l Z V s (v := .null) rfl h0 h1) (va_cwS 3 hts gJ0_checkIndex_df160_J3_checkIndex_8e157 rfl rfl rfl (by decide +kernel) ⟨Nat.le_of_ble_eq_true rfl, Nat.le_of_ble_eq_true rfl⟩) h rfl hl.1 rfl (Nat.le_of_ble_eq_true rfl) ⟨Nat.zero_le _, Nat.zero_le _⟩ dJ0_checkIndex_df160_5 (fun H locs h => ?_)
    refine lv_pop hx hb dJ0_checkIndex_df160_8 rfl ?_
    exact ret_V F hr hlk h dJ0_checkIndex_df160_9
  · refine va_gets hx hb hZ hS hown (hts (.fieldLink RJ0 1053 "jdk/internal/util/Preconditions" "SIOOBE_FORMATTER" "Ljava/util/function/BiFunction;") (by decide +kernel)) (fun _ h9 => h9) dJ0_checkIndex_df160_2 ?_
    refine call_SI F (c_chk3 l Z V s (v := .ref t) rfl h0 h1) (va_cwS 3 hts gJ0_checkIndex_df160_J3_checkIndex_8e157 rfl rfl rfl (by decide +kernel) ⟨Nat.le_of_ble_eq_true rfl, Nat.le_of_ble_eq_true rfl⟩) h rfl hl.1 rfl (Nat.le_of_ble_eq_true rfl) ⟨Nat.zero_le _, Nat.zero_le _⟩ dJ0_checkIndex_df160_5 (fun H locs h => ?_)
    refine lv_pop hx hb dJ0_checkIndex_df160_8 rfl ?_
    exact ret_V F hr hlk h dJ0_checkIndex_df160_9
theorem gIn_lt {k : Int32} {n : Nat} (h : gIn k n = true) (hn : n < 2 ^ 31) : ¬ k < 0 ∧ k < Int32.ofNat n := by
  have q := of_decide_eq_true h
  obtain ⟨j, hj, e⟩ := nI_of q.1
  subst e
  have q2 := q.2
  rw [nI_clamp hj] at q2
  exact ⟨q.1, nI_lt q2 hn⟩
theorem strLen_lt {i : Nat} (hi : i < 5) : strLen.getD i 0 < 2 ^ 31 := by
  rcases (show i = 0 ∨ i = 1 ∨ i = 2 ∨ i = 3 ∨ i = 4 by omega) with rfl | rfl | rfl | rfl | rfl <;> decide
set_option maxHeartbeats 4000000 in
set_option maxRecDepth 100000 in
theorem c_chL (l : Launch) (Z : ZT) (V : XS → va_W) (s : XS) {i : Nat} (hi : i < 5) {k : Int32} (hk : gIn k (strLen.getD i 0) = true) : KI l Z V yJ1_charAt_3b067 wsJ1_charAt_3b067 { frames := 2, cells := 0, slots := 0, locals := 43 } [.ref (Z.2.2.2 i), .int k] s (strCh i (ix k)) s := by
  intro sz
  refine met_entry (cc := cJ1_charAt_3b067) (maxL := 2) (ret := some .char) (by decide) rfl (Nat.le_of_ble_eq_true rfl) sz rfl ?_
  generalize va_A (V s) sz = A
  intro p e s0 m args below meth c ls F hr hlk h hl
  obtain ⟨hx, hb, hml, hown, hts⟩ := id F
  have hl : lv_has ls 2 [(0, .ref (Z.2.2.2 i)), (1, .int k)] := hl
  have hS := h.2.2.2.1
  have hO := h.2.2.2.2.2.2
  have hT := (hO.1.1 i hi).2.2.2
  have hq := gIn_lt hk (strLen_lt hi)
  refine lv_iload_n hx hb dJ1_charAt_3b067_0 rfl (lv_at hl 1 rfl) ?_
  refine lv_aload_n hx hb dJ1_charAt_3b067_1 rfl (lv_at hl 0 rfl) ?_
  refine va_tlen (v := strN i) hx hb hT hS rfl dJ1_charAt_3b067_2 ?_
  refine call_SV F (c_chk0 l Z V s hq.1 hq.2) (va_cwS 2 hts gJ1_charAt_3b067_J0_checkIndex_df160 rfl rfl rfl (by decide +kernel) ⟨Nat.le_of_ble_eq_true rfl, Nat.le_of_ble_eq_true rfl⟩) h rfl hl.1 rfl (Nat.le_of_ble_eq_true rfl) ⟨Nat.zero_le _, Nat.zero_le _⟩ dJ1_charAt_3b067_3 (fun H locs h => ?_)
  have hS := h.2.2.2.1
  refine lv_aload_n hx hb dJ1_charAt_3b067_6 rfl (lv_at hl 0 rfl) ?_
  refine lv_iload_n hx hb dJ1_charAt_3b067_7 rfl (lv_at hl 1 rfl) ?_
  refine va_tb hx hb hT hS (gIn_vp hk) rfl dJ1_charAt_3b067_8 ?_
  refine lv_sipush (v := 255) hx hb dJ1_charAt_3b067_9 (by decide) ?_
  refine lv_iand hx hb dJ1_charAt_3b067_12 ?_
  refine lv_i2c (v := strCh i (ix k)) hx hb dJ1_charAt_3b067_13 rfl ?_
  exact retN F hr hlk (pk_nc _) h dJ1_charAt_3b067_14
set_option maxHeartbeats 4000000 in
set_option maxRecDepth 100000 in
theorem c_charAt (l : Launch) (Z : ZT) (V : XS → va_W) (s : XS) {i : Nat} (hi : i < 5) {k : Int32} (hk : gIn k (strLen.getD i 0) = true) : KI l Z V yJ0_charAt_5068e wsJ0_charAt_5068e { frames := 3, cells := 0, slots := 0, locals := 64 } [.ref (Z.2.2.1 i), .int k] s (strCh i (ix k)) s := by
  intro sz
  refine met_entry (cc := cJ0_charAt_5068e) (maxL := 2) (ret := some .char) (by decide) rfl (Nat.le_of_ble_eq_true rfl) sz rfl ?_
  generalize va_A (V s) sz = A
  intro p e s0 m args below meth c ls F hr hlk h hl
  obtain ⟨hx, hb, hml, hown, hts⟩ := id F
  have hl : lv_has ls 2 [(0, .ref (Z.2.2.1 i)), (1, .int k)] := hl
  have hS := h.2.2.2.1
  have hO := h.2.2.2.2.2.2
  refine lv_aload_n hx hb dJ0_charAt_5068e_0 rfl (lv_at hl 0 rfl) ?_
  refine call_VI F (c_isLatin1 l Z V s hi) (cwV 0 hts gJ0_charAt_5068e_J0_isLatin1_aae02 rfl rfl rfl (by decide +kernel) ⟨Nat.le_of_ble_eq_true rfl, Nat.le_of_ble_eq_true rfl⟩) h (vk_recv hO.1 hi hS) rfl hl.1 rfl (Nat.le_of_ble_eq_true rfl) ⟨Nat.zero_le _, Nat.zero_le _⟩ dJ0_charAt_5068e_1 (fun H locs h => ?_)
  have hS := h.2.2.2.1
  refine lv_if_eq (tgt := 16) hx hb dJ0_charAt_5068e_4 (by decide) (fun q => absurd q (by decide)) (fun _ => ?_)
  refine lv_aload_n hx hb dJ0_charAt_5068e_7 rfl (lv_at hl 0 rfl) ?_
  refine vk_getf hx hb (hO.1.1 i hi).2.2.1 hS hown (hts (.fieldLink RJ0 9 "java/lang/String" "value" "[B") (by decide +kernel)) (fun _ h9 => h9) dJ0_charAt_5068e_8 ?_
  refine lv_iload_n hx hb dJ0_charAt_5068e_11 rfl (lv_at hl 1 rfl) ?_
  refine call_SI F (c_chL l Z V s hi hk) (va_cwS 2 hts gJ0_charAt_5068e_J1_charAt_3b067 rfl rfl rfl (by decide +kernel) ⟨Nat.le_of_ble_eq_true rfl, Nat.le_of_ble_eq_true rfl⟩) h rfl hl.1 rfl (Nat.le_of_ble_eq_true rfl) ⟨Nat.zero_le _, Nat.zero_le _⟩ dJ0_charAt_5068e_12 (fun H locs h => ?_)
  exact retN F hr hlk (pk_nc _) h dJ0_charAt_5068e_15
