theorem lg_cmp_self (x : Int64) : lg_cmp x x = 0 := by
  unfold lg_cmp
  simp
theorem ls_ld {p : Program} {l : Launch} {e : Env} {R : Room} {s : State} {m : MethodId} {args : Array Value} {below : List Frame} {meth : Method} {c : Code} {H : Heap} {locs : List Loc} {cells slots : Nat} {P : State → Prop} {cc : ByteArray} {pc : Nat} {ls : Array Slot} {rest : List Value} {A : Nat → Prop} {b L i : Nat} {xs : Nat → Int32} {k : Nat} {kk : Int32} (ek : kk = nI k) (hx : p.tables.exec = Jvm.exec) (hb : c.code = cc) (hX : va_X b L xs s s.heap) (hbl : b < s.heap.size) (hbA : ¬ A b) (hS : va_S A s.heap H locs) (hi : i + k < L) (hL : L < 2 ^ 31) (hdg : decode cc pc = .ok (.iaload, 1)) (kn : W p l e R s m args below meth c H locs cells slots P (F0 m (pc + 1) ls (.int (xs (i + k)) :: rest))) : W p l e R s m args below meth c H locs cells slots P (F0 m pc ls (.int (nI i + kk) :: .ref b :: rest)) := by
  subst ek
  rw [nI_add]
  refine va_sld hx hb hX hbl hbA hS (vp_in_nI hi hL) hdg ?_
  rw [nI_clamp (by omega)]
  exact kn
def sim_citizen (Rel : XS → XS → Prop) : Prop := ∀ (a b : XS) (x0 : Int32) (x1 : Int32), Rel a b → ∃ (r : Int32) (a' : XS) (b' : XS), p_House_citizen x0 x1 a = some (r, a') ∧ p_Model_citizen x0 x1 b = some (r, b') ∧ Rel a' b'
def sim_there (Rel : XS → XS → Prop) : Prop := ∀ (a b : XS) (x0 : Int32) (x1 : Int32), Rel a b → gZ x1 = true → ∃ (r : Int32) (a' : XS) (b' : XS), p_House_there x0 x1 a = some (r, a') ∧ p_Model_there x0 x1 b = some (r, b') ∧ Rel a' b'
def sim_kin (Rel : XS → XS → Prop) : Prop := ∀ (a b : XS) (x0 : Int32) (x1 : Int32), Rel a b → ∃ (r : Int32) (a' : XS) (b' : XS), p_House_kin x0 x1 a = some (r, a') ∧ p_Model_kin x0 x1 b = some (r, b') ∧ Rel a' b'
def sim_says (Rel : XS → XS → Prop) : Prop := ∀ (a b : XS) (x0 : Int32) (x1 : Int32) (x2 : Int32), Rel a b → gZ x2 = true → ∃ (r : Int32) (a' : XS) (b' : XS), p_House_says x0 x1 x2 a = some (r, a') ∧ p_Model_says x0 x1 x2 b = some (r, b') ∧ Rel a' b'
def sim_turn (Rel : XS → XS → Prop) : Prop := ∀ (a b : XS) (x0 : Int32) (x1 : Int32) (x2 : Int32), Rel a b → ∃ (r : Int32) (a' : XS) (b' : XS), p_House_turn x0 x1 x2 a = some (r, a') ∧ p_Model_turn x0 x1 x2 b = some (r, b') ∧ Rel a' b'
def sim_feed (Rel : XS → XS → Prop) : Prop := ∀ (a b : XS) (x0 : Int32) (x1 : Int32) (x2 : Int32) (x3 : Int32) (x4 : Int32), Rel a b → ∃ (r : Int32) (a' : XS) (b' : XS), p_House_feed x0 x1 x2 x3 x4 a = some (r, a') ∧ p_Model_feed x0 x1 x2 x3 x4 b = some (r, b') ∧ Rel a' b'
def sim_end (Rel : XS → XS → Prop) : Prop := ∀ (a b : XS) (x0 : Int32), Rel a b → ∃ (r : Int32) (a' : XS) (b' : XS), p_House_end x0 a = some (r, a') ∧ p_Model_end x0 b = some (r, b') ∧ Rel a' b'
def sim_procedure (Rel : XS → XS → Prop) : Prop := ∀ (a b : XS), Rel a b → ∃ (r : Int32) (a' : XS) (b' : XS), p_House_procedure a = some (r, a') ∧ p_Model_procedure b = some (r, b') ∧ Rel a' b'
def sim_lot (Rel : XS → XS → Prop) : Prop := ∀ (a b : XS) (x0 : Int32), Rel a b → ∃ (r : Int32) (a' : XS) (b' : XS), p_House_lot x0 a = some (r, a') ∧ p_Model_lot x0 b = some (r, b') ∧ Rel a' b'
def sim_step (Rel : XS → XS → Prop) : Prop := ∀ (a b : XS), Rel a b → ∃ (r : Int32) (a' : XS) (b' : XS), p_House_step a = some (r, a') ∧ p_Model_step b = some (r, b') ∧ Rel a' b'
def sim_protest (Rel : XS → XS → Prop) : Prop := ∀ (a b : XS) (x0 : Int32), Rel a b → ∃ (r : Int32) (a' : XS) (b' : XS), p_House_protest x0 a = some (r, a') ∧ p_Model_protest x0 b = some (r, b') ∧ Rel a' b'
def sim_body (Rel : XS → XS → Prop) : Prop := ∀ (a b : XS) (x0 : Int32), Rel a b → ∃ (r : Int32) (a' : XS), p_House_body x0 a = some (r, a') ∧ p_Model_body x0 b = some r ∧ Rel a' b
def sim_ballot (Rel : XS → XS → Prop) : Prop := ∀ (a b : XS) (x0 : Int32), Rel a b → ∃ (r : Int32), p_House_ballot x0 a = some r ∧ p_Model_ballot x0 b = some r ∧ Rel a b
def sim_elected (Rel : XS → XS → Prop) : Prop := ∀ (a b : XS), Rel a b → ∃ (r : Int32), p_House_elected a = some r ∧ p_Model_elected b = some r ∧ Rel a b
def sim_chances (Rel : XS → XS → Prop) : Prop := ∀ (a b : XS), Rel a b → ∃ (r : Int32) (a' : XS) (b' : XS), p_House_chances a = some (r, a') ∧ p_Model_chances b = some (r, b') ∧ Rel a' b'
def sim_ways (Rel : XS → XS → Prop) : Prop := ∀ (a b : XS) (x0 : Int32), Rel a b → ∃ (r : Int64), p_House_ways x0 a = some r ∧ p_Model_ways x0 b = some r ∧ Rel a b
def sim_about (Rel : XS → XS → Prop) : Prop := ∀ (a b : XS) (x0 : Int32) (x1 : Int32), Rel a b → ∃ (r : Int32), p_House_about x0 x1 a = some r ∧ p_Model_about x0 x1 b = some r ∧ Rel a b
def sim_count (Rel : XS → XS → Prop) : Prop := ∀ (a b : XS) (x0 : Int32), Rel a b → ∃ (r : Int32) (a' : XS), p_House_count x0 a = some (r, a') ∧ p_Model_count x0 b = some r ∧ Rel a' b
def SIM (Rel : XS → XS → Prop) : Prop := (∀ a b : XS, Rel a b → True) ∧ sim_citizen Rel ∧ sim_there Rel ∧ sim_kin Rel ∧ sim_says Rel ∧ sim_turn Rel ∧ sim_feed Rel ∧ sim_end Rel ∧ sim_procedure Rel ∧ sim_lot Rel ∧ sim_step Rel ∧ sim_protest Rel ∧ sim_body Rel ∧ sim_ballot Rel ∧ sim_elected Rel ∧ sim_chances Rel ∧ sim_ways Rel ∧ sim_about Rel ∧ sim_count Rel
set_option maxHeartbeats 4000000 in
set_option maxRecDepth 100000 in
theorem law_case_0 {p : Program} {l : Launch} {e : Env} {s : State} {m : MethodId} {below : List Frame} {meth : Method} {c : Code} {Z : ZT} {Q1 Q2 : Nat → Nat} {b0 L : Nat} {xs : Nat → Int32} {Rel : XS → XS → Prop} (hsim : SIM Rel) (hL : L ≤ 3072) (C0 : lw_At p s m meth c b0 L xs) (i : Nat) (hi : i + 6 ≤ L) (a b : XS) (hR : Rel a b) (H : Heap) (locs : List Loc) (ls : Array Slot) (h : HL Z (wX Z Q1) (wY Z Q2) (fun q : Nat => s.heap.size ≤ q) s H locs a b) (hl : lv_has ls 4 [(0, .ref b0), (1, .ref (Q1 0)), (2, .ref (Q2 0)), (3, .int (nI i))]) (tail : ∀ (a1 b1 : XS) (H : Heap) (locs : List Loc) (ls : Array Slot), Rel a1 b1 → HL Z (wX Z Q1) (wY Z Q2) (fun q : Nat => s.heap.size ≤ q) s H locs a1 b1 → lv_has ls 4 [(0, .ref b0), (1, .ref (Q1 0)), (2, .ref (Q2 0)), (3, .int (nI i))] → W p l e room_1 s m #[Value.ref b0] below meth c H locs 600000 7302250 (lw_Z below #[Value.ref b0] s) (F0 m 647 ls [])) : W p l e room_1 s m #[Value.ref b0] below meth c H locs 600000 7302250 (lw_Z below #[Value.ref b0] s) (F0 m 120 ls []) := by
  obtain ⟨hx, hb, hr, hml, hown, hts, hX, hbl, hlocks, hgv⟩ := id C0
  have F : CallFix p m c cL_law 4 s #[Value.ref b0] lw_tbl RL := ⟨hx, hb, hml, hown, hts⟩
  have hbA : ¬ (fun q : Nat => s.heap.size ≤ q) b0 := Nat.not_le.mpr hbl
  obtain ⟨r, a1, b1, e1, e2, hR1⟩ := hsim.2.1 a b (xs (i + 1)) (xs (i + 2)) hR
  refine lv_aload_n hx hb dL_law_120 rfl (lv_at hl 1 rfl) ?_
  refine lv_aload_n hx hb dL_law_121 rfl (lv_at hl 0 rfl) ?_
  refine lv_iload_n hx hb dL_law_122 rfl (lv_at hl 3 rfl) ?_
  refine lv_iconst (v := (1 : Int32)) hx hb dL_law_123 (by decide) ?_
  refine lv_iadd hx hb dL_law_124 ?_
  refine ls_ld (k := 1) rfl hx hb hX hbl hbA h.2.2.2.1 (by omega) (by omega) dL_law_125 ?_
  refine lv_aload_n hx hb dL_law_126 rfl (lv_at hl 0 rfl) ?_
  refine lv_iload_n hx hb dL_law_127 rfl (lv_at hl 3 rfl) ?_
  refine lv_iconst (v := (2 : Int32)) hx hb dL_law_128 (by decide) ?_
  refine lv_iadd hx hb dL_law_129 ?_
  refine ls_ld (k := 2) rfl hx hb hX hbl hbA h.2.2.2.1 (by omega) (by omega) dL_law_130 ?_
  have h := h.swap
  refine two_VI F (c_House_citizen l Z Q1 a (xs (i + 1)) (xs (i + 2)) e1) (cwV 2 hts hL_X9_citizen rfl rfl rfl (by decide +kernel) ⟨Nat.le_of_ble_eq_true rfl, Nat.le_of_ble_eq_true rfl⟩) h (rcX_House h.snd) rfl hl.1 rfl (Nat.le_of_ble_eq_true rfl) ⟨Nat.le_refl _, Nat.le_refl _⟩ dL_law_131 (fun H locs h => ?_)
  have h := h.swap
  refine lv_aload_n hx hb dL_law_134 rfl (lv_at hl 2 rfl) ?_
  refine lv_aload_n hx hb dL_law_135 rfl (lv_at hl 0 rfl) ?_
  refine lv_iload_n hx hb dL_law_136 rfl (lv_at hl 3 rfl) ?_
  refine lv_iconst (v := (1 : Int32)) hx hb dL_law_137 (by decide) ?_
  refine lv_iadd hx hb dL_law_138 ?_
  refine ls_ld (k := 1) rfl hx hb hX hbl hbA h.2.2.2.1 (by omega) (by omega) dL_law_139 ?_
  refine lv_aload_n hx hb dL_law_140 rfl (lv_at hl 0 rfl) ?_
  refine lv_iload_n hx hb dL_law_141 rfl (lv_at hl 3 rfl) ?_
  refine lv_iconst (v := (2 : Int32)) hx hb dL_law_142 (by decide) ?_
  refine lv_iadd hx hb dL_law_143 ?_
  refine ls_ld (k := 2) rfl hx hb hX hbl hbA h.2.2.2.1 (by omega) (by omega) dL_law_144 ?_
  refine two_VI F (c_Model_citizen l Z Q2 b (xs (i + 1)) (xs (i + 2)) e2) (cwV 2 hts hL_X10_citizen rfl rfl rfl (by decide +kernel) ⟨Nat.le_of_ble_eq_true rfl, Nat.le_of_ble_eq_true rfl⟩) h (rcY_Model h.snd) rfl hl.1 rfl (Nat.le_of_ble_eq_true rfl) ⟨Nat.le_refl _, Nat.le_refl _⟩ dL_law_145 (fun H locs h => ?_)
  refine lv_icmp_eq (tgt := 647) hx hb dL_law_148 (by decide) (fun _ => ?_) (fun q => absurd rfl q)
  exact tail a1 b1 H locs ls hR1 h hl
set_option maxHeartbeats 4000000 in
set_option maxRecDepth 100000 in
theorem law_case_1 {p : Program} {l : Launch} {e : Env} {s : State} {m : MethodId} {below : List Frame} {meth : Method} {c : Code} {Z : ZT} {Q1 Q2 : Nat → Nat} {b0 L : Nat} {xs : Nat → Int32} {Rel : XS → XS → Prop} (hsim : SIM Rel) (hL : L ≤ 3072) (C0 : lw_At p s m meth c b0 L xs) (i : Nat) (hi : i + 6 ≤ L) (a b : XS) (hR : Rel a b) (H : Heap) (locs : List Loc) (ls : Array Slot) (h : HL Z (wX Z Q1) (wY Z Q2) (fun q : Nat => s.heap.size ≤ q) s H locs a b) (hl : lv_has ls 4 [(0, .ref b0), (1, .ref (Q1 0)), (2, .ref (Q2 0)), (3, .int (nI i))]) (tail : ∀ (a1 b1 : XS) (H : Heap) (locs : List Loc) (ls : Array Slot), Rel a1 b1 → HL Z (wX Z Q1) (wY Z Q2) (fun q : Nat => s.heap.size ≤ q) s H locs a1 b1 → lv_has ls 4 [(0, .ref b0), (1, .ref (Q1 0)), (2, .ref (Q2 0)), (3, .int (nI i))] → W p l e room_1 s m #[Value.ref b0] below meth c H locs 600000 7302250 (lw_Z below #[Value.ref b0] s) (F0 m 647 ls [])) : W p l e room_1 s m #[Value.ref b0] below meth c H locs 600000 7302250 (lw_Z below #[Value.ref b0] s) (F0 m 153 ls []) := by
  obtain ⟨hx, hb, hr, hml, hown, hts, hX, hbl, hlocks, hgv⟩ := id C0
  have F : CallFix p m c cL_law 4 s #[Value.ref b0] lw_tbl RL := ⟨hx, hb, hml, hown, hts⟩
  have hbA : ¬ (fun q : Nat => s.heap.size ≤ q) b0 := Nat.not_le.mpr hbl
  by_cases hz : (xs (i + 2)) = 0
  · obtain ⟨r, a1, b1, e1, e2, hR1⟩ := hsim.2.2.1 a b (xs (i + 1)) (0 : Int32) hR (by decide)
    refine lv_aload_n hx hb dL_law_153 rfl (lv_at hl 1 rfl) ?_
    refine lv_aload_n hx hb dL_law_154 rfl (lv_at hl 0 rfl) ?_
    refine lv_iload_n hx hb dL_law_155 rfl (lv_at hl 3 rfl) ?_
    refine lv_iconst (v := (1 : Int32)) hx hb dL_law_156 (by decide) ?_
    refine lv_iadd hx hb dL_law_157 ?_
    refine ls_ld (k := 1) rfl hx hb hX hbl hbA h.2.2.2.1 (by omega) (by omega) dL_law_158 ?_
    refine lv_aload_n hx hb dL_law_159 rfl (lv_at hl 0 rfl) ?_
    refine lv_iload_n hx hb dL_law_160 rfl (lv_at hl 3 rfl) ?_
    refine lv_iconst (v := (2 : Int32)) hx hb dL_law_161 (by decide) ?_
    refine lv_iadd hx hb dL_law_162 ?_
    refine ls_ld (k := 2) rfl hx hb hX hbl hbA h.2.2.2.1 (by omega) (by omega) dL_law_163 ?_
    refine lv_if_eq (tgt := 171) hx hb dL_law_164 (by decide) (fun _ => ?_) (fun q => absurd hz q)
    refine lv_iconst (v := (0 : Int32)) hx hb dL_law_171 (by decide) ?_
    have h := h.swap
    refine two_VI F (c_House_there l Z Q1 a (xs (i + 1)) (0 : Int32) e1) (cwV 2 hts hL_X9_there rfl rfl rfl (by decide +kernel) ⟨Nat.le_of_ble_eq_true rfl, Nat.le_of_ble_eq_true rfl⟩) h (rcX_House h.snd) rfl hl.1 rfl (Nat.le_of_ble_eq_true rfl) ⟨Nat.le_refl _, Nat.le_refl _⟩ dL_law_172 (fun H locs h => ?_)
    have h := h.swap
    refine lv_aload_n hx hb dL_law_175 rfl (lv_at hl 2 rfl) ?_
    refine lv_aload_n hx hb dL_law_176 rfl (lv_at hl 0 rfl) ?_
    refine lv_iload_n hx hb dL_law_177 rfl (lv_at hl 3 rfl) ?_
    refine lv_iconst (v := (1 : Int32)) hx hb dL_law_178 (by decide) ?_
    refine lv_iadd hx hb dL_law_179 ?_
    refine ls_ld (k := 1) rfl hx hb hX hbl hbA h.2.2.2.1 (by omega) (by omega) dL_law_180 ?_
    refine lv_aload_n hx hb dL_law_181 rfl (lv_at hl 0 rfl) ?_
    refine lv_iload_n hx hb dL_law_182 rfl (lv_at hl 3 rfl) ?_
    refine lv_iconst (v := (2 : Int32)) hx hb dL_law_183 (by decide) ?_
    refine lv_iadd hx hb dL_law_184 ?_
    refine ls_ld (k := 2) rfl hx hb hX hbl hbA h.2.2.2.1 (by omega) (by omega) dL_law_185 ?_
    refine lv_if_eq (tgt := 193) hx hb dL_law_186 (by decide) (fun _ => ?_) (fun q => absurd hz q)
    refine lv_iconst (v := (0 : Int32)) hx hb dL_law_193 (by decide) ?_
    refine two_VI F (c_Model_there l Z Q2 b (xs (i + 1)) (0 : Int32) e2) (cwV 2 hts hL_X10_there rfl rfl rfl (by decide +kernel) ⟨Nat.le_of_ble_eq_true rfl, Nat.le_of_ble_eq_true rfl⟩) h (rcY_Model h.snd) rfl hl.1 rfl (Nat.le_of_ble_eq_true rfl) ⟨Nat.le_refl _, Nat.le_refl _⟩ dL_law_194 (fun H locs h => ?_)
    refine lv_icmp_eq (tgt := 647) hx hb dL_law_197 (by decide) (fun _ => ?_) (fun q => absurd rfl q)
    exact tail a1 b1 H locs ls hR1 h hl
  · obtain ⟨r, a1, b1, e1, e2, hR1⟩ := hsim.2.2.1 a b (xs (i + 1)) (1 : Int32) hR (by decide)
    refine lv_aload_n hx hb dL_law_153 rfl (lv_at hl 1 rfl) ?_
    refine lv_aload_n hx hb dL_law_154 rfl (lv_at hl 0 rfl) ?_
    refine lv_iload_n hx hb dL_law_155 rfl (lv_at hl 3 rfl) ?_
    refine lv_iconst (v := (1 : Int32)) hx hb dL_law_156 (by decide) ?_
    refine lv_iadd hx hb dL_law_157 ?_
    refine ls_ld (k := 1) rfl hx hb hX hbl hbA h.2.2.2.1 (by omega) (by omega) dL_law_158 ?_
    refine lv_aload_n hx hb dL_law_159 rfl (lv_at hl 0 rfl) ?_
    refine lv_iload_n hx hb dL_law_160 rfl (lv_at hl 3 rfl) ?_
    refine lv_iconst (v := (2 : Int32)) hx hb dL_law_161 (by decide) ?_
    refine lv_iadd hx hb dL_law_162 ?_
    refine ls_ld (k := 2) rfl hx hb hX hbl hbA h.2.2.2.1 (by omega) (by omega) dL_law_163 ?_
    refine lv_if_eq (tgt := 171) hx hb dL_law_164 (by decide) (fun q => absurd q hz) (fun _ => ?_)
    refine lv_iconst (v := (1 : Int32)) hx hb dL_law_167 (by decide) ?_
    refine lv_goto (tgt := 172) hx hb dL_law_168 (by decide) ?_
    have h := h.swap
    refine two_VI F (c_House_there l Z Q1 a (xs (i + 1)) (1 : Int32) e1) (cwV 2 hts hL_X9_there rfl rfl rfl (by decide +kernel) ⟨Nat.le_of_ble_eq_true rfl, Nat.le_of_ble_eq_true rfl⟩) h (rcX_House h.snd) rfl hl.1 rfl (Nat.le_of_ble_eq_true rfl) ⟨Nat.le_refl _, Nat.le_refl _⟩ dL_law_172 (fun H locs h => ?_)
    have h := h.swap
    refine lv_aload_n hx hb dL_law_175 rfl (lv_at hl 2 rfl) ?_
    refine lv_aload_n hx hb dL_law_176 rfl (lv_at hl 0 rfl) ?_
    refine lv_iload_n hx hb dL_law_177 rfl (lv_at hl 3 rfl) ?_
    refine lv_iconst (v := (1 : Int32)) hx hb dL_law_178 (by decide) ?_
    refine lv_iadd hx hb dL_law_179 ?_
    refine ls_ld (k := 1) rfl hx hb hX hbl hbA h.2.2.2.1 (by omega) (by omega) dL_law_180 ?_
    refine lv_aload_n hx hb dL_law_181 rfl (lv_at hl 0 rfl) ?_
    refine lv_iload_n hx hb dL_law_182 rfl (lv_at hl 3 rfl) ?_
    refine lv_iconst (v := (2 : Int32)) hx hb dL_law_183 (by decide) ?_
    refine lv_iadd hx hb dL_law_184 ?_
    refine ls_ld (k := 2) rfl hx hb hX hbl hbA h.2.2.2.1 (by omega) (by omega) dL_law_185 ?_
    refine lv_if_eq (tgt := 193) hx hb dL_law_186 (by decide) (fun q => absurd q hz) (fun _ => ?_)
    refine lv_iconst (v := (1 : Int32)) hx hb dL_law_189 (by decide) ?_
    refine lv_goto (tgt := 194) hx hb dL_law_190 (by decide) ?_
    refine two_VI F (c_Model_there l Z Q2 b (xs (i + 1)) (1 : Int32) e2) (cwV 2 hts hL_X10_there rfl rfl rfl (by decide +kernel) ⟨Nat.le_of_ble_eq_true rfl, Nat.le_of_ble_eq_true rfl⟩) h (rcY_Model h.snd) rfl hl.1 rfl (Nat.le_of_ble_eq_true rfl) ⟨Nat.le_refl _, Nat.le_refl _⟩ dL_law_194 (fun H locs h => ?_)
    refine lv_icmp_eq (tgt := 647) hx hb dL_law_197 (by decide) (fun _ => ?_) (fun q => absurd rfl q)
    exact tail a1 b1 H locs ls hR1 h hl
set_option maxHeartbeats 4000000 in
set_option maxRecDepth 100000 in
theorem law_case_2 {p : Program} {l : Launch} {e : Env} {s : State} {m : MethodId} {below : List Frame} {meth : Method} {c : Code} {Z : ZT} {Q1 Q2 : Nat → Nat} {b0 L : Nat} {xs : Nat → Int32} {Rel : XS → XS → Prop} (hsim : SIM Rel) (hL : L ≤ 3072) (C0 : lw_At p s m meth c b0 L xs) (i : Nat) (hi : i + 6 ≤ L) (a b : XS) (hR : Rel a b) (H : Heap) (locs : List Loc) (ls : Array Slot) (h : HL Z (wX Z Q1) (wY Z Q2) (fun q : Nat => s.heap.size ≤ q) s H locs a b) (hl : lv_has ls 4 [(0, .ref b0), (1, .ref (Q1 0)), (2, .ref (Q2 0)), (3, .int (nI i))]) (tail : ∀ (a1 b1 : XS) (H : Heap) (locs : List Loc) (ls : Array Slot), Rel a1 b1 → HL Z (wX Z Q1) (wY Z Q2) (fun q : Nat => s.heap.size ≤ q) s H locs a1 b1 → lv_has ls 4 [(0, .ref b0), (1, .ref (Q1 0)), (2, .ref (Q2 0)), (3, .int (nI i))] → W p l e room_1 s m #[Value.ref b0] below meth c H locs 600000 7302250 (lw_Z below #[Value.ref b0] s) (F0 m 647 ls [])) : W p l e room_1 s m #[Value.ref b0] below meth c H locs 600000 7302250 (lw_Z below #[Value.ref b0] s) (F0 m 202 ls []) := by
  obtain ⟨hx, hb, hr, hml, hown, hts, hX, hbl, hlocks, hgv⟩ := id C0
  have F : CallFix p m c cL_law 4 s #[Value.ref b0] lw_tbl RL := ⟨hx, hb, hml, hown, hts⟩
  have hbA : ¬ (fun q : Nat => s.heap.size ≤ q) b0 := Nat.not_le.mpr hbl
  obtain ⟨r, a1, b1, e1, e2, hR1⟩ := hsim.2.2.2.1 a b (xs (i + 1)) (xs (i + 2)) hR
  refine lv_aload_n hx hb dL_law_202 rfl (lv_at hl 1 rfl) ?_
  refine lv_aload_n hx hb dL_law_203 rfl (lv_at hl 0 rfl) ?_
  refine lv_iload_n hx hb dL_law_204 rfl (lv_at hl 3 rfl) ?_
  refine lv_iconst (v := (1 : Int32)) hx hb dL_law_205 (by decide) ?_
  refine lv_iadd hx hb dL_law_206 ?_
  refine ls_ld (k := 1) rfl hx hb hX hbl hbA h.2.2.2.1 (by omega) (by omega) dL_law_207 ?_
  refine lv_aload_n hx hb dL_law_208 rfl (lv_at hl 0 rfl) ?_
  refine lv_iload_n hx hb dL_law_209 rfl (lv_at hl 3 rfl) ?_
  refine lv_iconst (v := (2 : Int32)) hx hb dL_law_210 (by decide) ?_
  refine lv_iadd hx hb dL_law_211 ?_
  refine ls_ld (k := 2) rfl hx hb hX hbl hbA h.2.2.2.1 (by omega) (by omega) dL_law_212 ?_
  have h := h.swap
  refine two_VI F (c_House_kin l Z Q1 a (xs (i + 1)) (xs (i + 2)) e1) (cwV 2 hts hL_X9_kin rfl rfl rfl (by decide +kernel) ⟨Nat.le_of_ble_eq_true rfl, Nat.le_of_ble_eq_true rfl⟩) h (rcX_House h.snd) rfl hl.1 rfl (Nat.le_of_ble_eq_true rfl) ⟨Nat.le_refl _, Nat.le_refl _⟩ dL_law_213 (fun H locs h => ?_)
  have h := h.swap
  refine lv_aload_n hx hb dL_law_216 rfl (lv_at hl 2 rfl) ?_
  refine lv_aload_n hx hb dL_law_217 rfl (lv_at hl 0 rfl) ?_
  refine lv_iload_n hx hb dL_law_218 rfl (lv_at hl 3 rfl) ?_
  refine lv_iconst (v := (1 : Int32)) hx hb dL_law_219 (by decide) ?_
  refine lv_iadd hx hb dL_law_220 ?_
  refine ls_ld (k := 1) rfl hx hb hX hbl hbA h.2.2.2.1 (by omega) (by omega) dL_law_221 ?_
  refine lv_aload_n hx hb dL_law_222 rfl (lv_at hl 0 rfl) ?_
  refine lv_iload_n hx hb dL_law_223 rfl (lv_at hl 3 rfl) ?_
  refine lv_iconst (v := (2 : Int32)) hx hb dL_law_224 (by decide) ?_
  refine lv_iadd hx hb dL_law_225 ?_
  refine ls_ld (k := 2) rfl hx hb hX hbl hbA h.2.2.2.1 (by omega) (by omega) dL_law_226 ?_
  refine two_VI F (c_Model_kin l Z Q2 b (xs (i + 1)) (xs (i + 2)) e2) (cwV 2 hts hL_X10_kin rfl rfl rfl (by decide +kernel) ⟨Nat.le_of_ble_eq_true rfl, Nat.le_of_ble_eq_true rfl⟩) h (rcY_Model h.snd) rfl hl.1 rfl (Nat.le_of_ble_eq_true rfl) ⟨Nat.le_refl _, Nat.le_refl _⟩ dL_law_227 (fun H locs h => ?_)
  refine lv_icmp_eq (tgt := 647) hx hb dL_law_230 (by decide) (fun _ => ?_) (fun q => absurd rfl q)
  exact tail a1 b1 H locs ls hR1 h hl
set_option maxHeartbeats 4000000 in
set_option maxRecDepth 100000 in
theorem law_case_3 {p : Program} {l : Launch} {e : Env} {s : State} {m : MethodId} {below : List Frame} {meth : Method} {c : Code} {Z : ZT} {Q1 Q2 : Nat → Nat} {b0 L : Nat} {xs : Nat → Int32} {Rel : XS → XS → Prop} (hsim : SIM Rel) (hL : L ≤ 3072) (C0 : lw_At p s m meth c b0 L xs) (i : Nat) (hi : i + 6 ≤ L) (a b : XS) (hR : Rel a b) (H : Heap) (locs : List Loc) (ls : Array Slot) (h : HL Z (wX Z Q1) (wY Z Q2) (fun q : Nat => s.heap.size ≤ q) s H locs a b) (hl : lv_has ls 4 [(0, .ref b0), (1, .ref (Q1 0)), (2, .ref (Q2 0)), (3, .int (nI i))]) (tail : ∀ (a1 b1 : XS) (H : Heap) (locs : List Loc) (ls : Array Slot), Rel a1 b1 → HL Z (wX Z Q1) (wY Z Q2) (fun q : Nat => s.heap.size ≤ q) s H locs a1 b1 → lv_has ls 4 [(0, .ref b0), (1, .ref (Q1 0)), (2, .ref (Q2 0)), (3, .int (nI i))] → W p l e room_1 s m #[Value.ref b0] below meth c H locs 600000 7302250 (lw_Z below #[Value.ref b0] s) (F0 m 647 ls [])) : W p l e room_1 s m #[Value.ref b0] below meth c H locs 600000 7302250 (lw_Z below #[Value.ref b0] s) (F0 m 235 ls []) := by
  obtain ⟨hx, hb, hr, hml, hown, hts, hX, hbl, hlocks, hgv⟩ := id C0
  have F : CallFix p m c cL_law 4 s #[Value.ref b0] lw_tbl RL := ⟨hx, hb, hml, hown, hts⟩
  have hbA : ¬ (fun q : Nat => s.heap.size ≤ q) b0 := Nat.not_le.mpr hbl
  by_cases hz : (xs (i + 3)) = 0
  · obtain ⟨r, a1, b1, e1, e2, hR1⟩ := hsim.2.2.2.2.1 a b (xs (i + 1)) (xs (i + 2)) (0 : Int32) hR (by decide)
    refine lv_aload_n hx hb dL_law_235 rfl (lv_at hl 1 rfl) ?_
    refine lv_aload_n hx hb dL_law_236 rfl (lv_at hl 0 rfl) ?_
    refine lv_iload_n hx hb dL_law_237 rfl (lv_at hl 3 rfl) ?_
    refine lv_iconst (v := (1 : Int32)) hx hb dL_law_238 (by decide) ?_
    refine lv_iadd hx hb dL_law_239 ?_
    refine ls_ld (k := 1) rfl hx hb hX hbl hbA h.2.2.2.1 (by omega) (by omega) dL_law_240 ?_
    refine lv_aload_n hx hb dL_law_241 rfl (lv_at hl 0 rfl) ?_
    refine lv_iload_n hx hb dL_law_242 rfl (lv_at hl 3 rfl) ?_
    refine lv_iconst (v := (2 : Int32)) hx hb dL_law_243 (by decide) ?_
    refine lv_iadd hx hb dL_law_244 ?_
    refine ls_ld (k := 2) rfl hx hb hX hbl hbA h.2.2.2.1 (by omega) (by omega) dL_law_245 ?_
    refine lv_aload_n hx hb dL_law_246 rfl (lv_at hl 0 rfl) ?_
    refine lv_iload_n hx hb dL_law_247 rfl (lv_at hl 3 rfl) ?_
    refine lv_iconst (v := (3 : Int32)) hx hb dL_law_248 (by decide) ?_
    refine lv_iadd hx hb dL_law_249 ?_
    refine ls_ld (k := 3) rfl hx hb hX hbl hbA h.2.2.2.1 (by omega) (by omega) dL_law_250 ?_
    refine lv_if_eq (tgt := 258) hx hb dL_law_251 (by decide) (fun _ => ?_) (fun q => absurd hz q)
    refine lv_iconst (v := (0 : Int32)) hx hb dL_law_258 (by decide) ?_
    have h := h.swap
    refine two_VI F (c_House_says l Z Q1 a (xs (i + 1)) (xs (i + 2)) (0 : Int32) e1) (cwV 3 hts hL_X9_says rfl rfl rfl (by decide +kernel) ⟨Nat.le_of_ble_eq_true rfl, Nat.le_of_ble_eq_true rfl⟩) h (rcX_House h.snd) rfl hl.1 rfl (Nat.le_of_ble_eq_true rfl) ⟨Nat.le_refl _, Nat.le_refl _⟩ dL_law_259 (fun H locs h => ?_)
    have h := h.swap
    refine lv_aload_n hx hb dL_law_262 rfl (lv_at hl 2 rfl) ?_
    refine lv_aload_n hx hb dL_law_263 rfl (lv_at hl 0 rfl) ?_
    refine lv_iload_n hx hb dL_law_264 rfl (lv_at hl 3 rfl) ?_
    refine lv_iconst (v := (1 : Int32)) hx hb dL_law_265 (by decide) ?_
    refine lv_iadd hx hb dL_law_266 ?_
    refine ls_ld (k := 1) rfl hx hb hX hbl hbA h.2.2.2.1 (by omega) (by omega) dL_law_267 ?_
    refine lv_aload_n hx hb dL_law_268 rfl (lv_at hl 0 rfl) ?_
    refine lv_iload_n hx hb dL_law_269 rfl (lv_at hl 3 rfl) ?_
    refine lv_iconst (v := (2 : Int32)) hx hb dL_law_270 (by decide) ?_
    refine lv_iadd hx hb dL_law_271 ?_
    refine ls_ld (k := 2) rfl hx hb hX hbl hbA h.2.2.2.1 (by omega) (by omega) dL_law_272 ?_
    refine lv_aload_n hx hb dL_law_273 rfl (lv_at hl 0 rfl) ?_
    refine lv_iload_n hx hb dL_law_274 rfl (lv_at hl 3 rfl) ?_
    refine lv_iconst (v := (3 : Int32)) hx hb dL_law_275 (by decide) ?_
    refine lv_iadd hx hb dL_law_276 ?_
    refine ls_ld (k := 3) rfl hx hb hX hbl hbA h.2.2.2.1 (by omega) (by omega) dL_law_277 ?_
    refine lv_if_eq (tgt := 285) hx hb dL_law_278 (by decide) (fun _ => ?_) (fun q => absurd hz q)
    refine lv_iconst (v := (0 : Int32)) hx hb dL_law_285 (by decide) ?_
    refine two_VI F (c_Model_says l Z Q2 b (xs (i + 1)) (xs (i + 2)) (0 : Int32) e2) (cwV 3 hts hL_X10_says rfl rfl rfl (by decide +kernel) ⟨Nat.le_of_ble_eq_true rfl, Nat.le_of_ble_eq_true rfl⟩) h (rcY_Model h.snd) rfl hl.1 rfl (Nat.le_of_ble_eq_true rfl) ⟨Nat.le_refl _, Nat.le_refl _⟩ dL_law_286 (fun H locs h => ?_)
    refine lv_icmp_eq (tgt := 647) hx hb dL_law_289 (by decide) (fun _ => ?_) (fun q => absurd rfl q)
    exact tail a1 b1 H locs ls hR1 h hl
  · obtain ⟨r, a1, b1, e1, e2, hR1⟩ := hsim.2.2.2.2.1 a b (xs (i + 1)) (xs (i + 2)) (1 : Int32) hR (by decide)
    refine lv_aload_n hx hb dL_law_235 rfl (lv_at hl 1 rfl) ?_
    refine lv_aload_n hx hb dL_law_236 rfl (lv_at hl 0 rfl) ?_
    refine lv_iload_n hx hb dL_law_237 rfl (lv_at hl 3 rfl) ?_
    refine lv_iconst (v := (1 : Int32)) hx hb dL_law_238 (by decide) ?_
    refine lv_iadd hx hb dL_law_239 ?_
    refine ls_ld (k := 1) rfl hx hb hX hbl hbA h.2.2.2.1 (by omega) (by omega) dL_law_240 ?_
    refine lv_aload_n hx hb dL_law_241 rfl (lv_at hl 0 rfl) ?_
    refine lv_iload_n hx hb dL_law_242 rfl (lv_at hl 3 rfl) ?_
    refine lv_iconst (v := (2 : Int32)) hx hb dL_law_243 (by decide) ?_
    refine lv_iadd hx hb dL_law_244 ?_
    refine ls_ld (k := 2) rfl hx hb hX hbl hbA h.2.2.2.1 (by omega) (by omega) dL_law_245 ?_
    refine lv_aload_n hx hb dL_law_246 rfl (lv_at hl 0 rfl) ?_
    refine lv_iload_n hx hb dL_law_247 rfl (lv_at hl 3 rfl) ?_
    refine lv_iconst (v := (3 : Int32)) hx hb dL_law_248 (by decide) ?_
    refine lv_iadd hx hb dL_law_249 ?_
    refine ls_ld (k := 3) rfl hx hb hX hbl hbA h.2.2.2.1 (by omega) (by omega) dL_law_250 ?_
    refine lv_if_eq (tgt := 258) hx hb dL_law_251 (by decide) (fun q => absurd q hz) (fun _ => ?_)
    refine lv_iconst (v := (1 : Int32)) hx hb dL_law_254 (by decide) ?_
    refine lv_goto (tgt := 259) hx hb dL_law_255 (by decide) ?_
    have h := h.swap
    refine two_VI F (c_House_says l Z Q1 a (xs (i + 1)) (xs (i + 2)) (1 : Int32) e1) (cwV 3 hts hL_X9_says rfl rfl rfl (by decide +kernel) ⟨Nat.le_of_ble_eq_true rfl, Nat.le_of_ble_eq_true rfl⟩) h (rcX_House h.snd) rfl hl.1 rfl (Nat.le_of_ble_eq_true rfl) ⟨Nat.le_refl _, Nat.le_refl _⟩ dL_law_259 (fun H locs h => ?_)
    have h := h.swap
    refine lv_aload_n hx hb dL_law_262 rfl (lv_at hl 2 rfl) ?_
    refine lv_aload_n hx hb dL_law_263 rfl (lv_at hl 0 rfl) ?_
    refine lv_iload_n hx hb dL_law_264 rfl (lv_at hl 3 rfl) ?_
    refine lv_iconst (v := (1 : Int32)) hx hb dL_law_265 (by decide) ?_
    refine lv_iadd hx hb dL_law_266 ?_
    refine ls_ld (k := 1) rfl hx hb hX hbl hbA h.2.2.2.1 (by omega) (by omega) dL_law_267 ?_
    refine lv_aload_n hx hb dL_law_268 rfl (lv_at hl 0 rfl) ?_
    refine lv_iload_n hx hb dL_law_269 rfl (lv_at hl 3 rfl) ?_
    refine lv_iconst (v := (2 : Int32)) hx hb dL_law_270 (by decide) ?_
    refine lv_iadd hx hb dL_law_271 ?_
    refine ls_ld (k := 2) rfl hx hb hX hbl hbA h.2.2.2.1 (by omega) (by omega) dL_law_272 ?_
    refine lv_aload_n hx hb dL_law_273 rfl (lv_at hl 0 rfl) ?_
    refine lv_iload_n hx hb dL_law_274 rfl (lv_at hl 3 rfl) ?_
    refine lv_iconst (v := (3 : Int32)) hx hb dL_law_275 (by decide) ?_
    refine lv_iadd hx hb dL_law_276 ?_
    refine ls_ld (k := 3) rfl hx hb hX hbl hbA h.2.2.2.1 (by omega) (by omega) dL_law_277 ?_
    refine lv_if_eq (tgt := 285) hx hb dL_law_278 (by decide) (fun q => absurd q hz) (fun _ => ?_)
    refine lv_iconst (v := (1 : Int32)) hx hb dL_law_281 (by decide) ?_
    refine lv_goto (tgt := 286) hx hb dL_law_282 (by decide) ?_
    refine two_VI F (c_Model_says l Z Q2 b (xs (i + 1)) (xs (i + 2)) (1 : Int32) e2) (cwV 3 hts hL_X10_says rfl rfl rfl (by decide +kernel) ⟨Nat.le_of_ble_eq_true rfl, Nat.le_of_ble_eq_true rfl⟩) h (rcY_Model h.snd) rfl hl.1 rfl (Nat.le_of_ble_eq_true rfl) ⟨Nat.le_refl _, Nat.le_refl _⟩ dL_law_286 (fun H locs h => ?_)
    refine lv_icmp_eq (tgt := 647) hx hb dL_law_289 (by decide) (fun _ => ?_) (fun q => absurd rfl q)
    exact tail a1 b1 H locs ls hR1 h hl
set_option maxHeartbeats 4000000 in
set_option maxRecDepth 100000 in
theorem law_case_4 {p : Program} {l : Launch} {e : Env} {s : State} {m : MethodId} {below : List Frame} {meth : Method} {c : Code} {Z : ZT} {Q1 Q2 : Nat → Nat} {b0 L : Nat} {xs : Nat → Int32} {Rel : XS → XS → Prop} (hsim : SIM Rel) (hL : L ≤ 3072) (C0 : lw_At p s m meth c b0 L xs) (i : Nat) (hi : i + 6 ≤ L) (a b : XS) (hR : Rel a b) (H : Heap) (locs : List Loc) (ls : Array Slot) (h : HL Z (wX Z Q1) (wY Z Q2) (fun q : Nat => s.heap.size ≤ q) s H locs a b) (hl : lv_has ls 4 [(0, .ref b0), (1, .ref (Q1 0)), (2, .ref (Q2 0)), (3, .int (nI i))]) (tail : ∀ (a1 b1 : XS) (H : Heap) (locs : List Loc) (ls : Array Slot), Rel a1 b1 → HL Z (wX Z Q1) (wY Z Q2) (fun q : Nat => s.heap.size ≤ q) s H locs a1 b1 → lv_has ls 4 [(0, .ref b0), (1, .ref (Q1 0)), (2, .ref (Q2 0)), (3, .int (nI i))] → W p l e room_1 s m #[Value.ref b0] below meth c H locs 600000 7302250 (lw_Z below #[Value.ref b0] s) (F0 m 647 ls [])) : W p l e room_1 s m #[Value.ref b0] below meth c H locs 600000 7302250 (lw_Z below #[Value.ref b0] s) (F0 m 294 ls []) := by
  obtain ⟨hx, hb, hr, hml, hown, hts, hX, hbl, hlocks, hgv⟩ := id C0
  have F : CallFix p m c cL_law 4 s #[Value.ref b0] lw_tbl RL := ⟨hx, hb, hml, hown, hts⟩
  have hbA : ¬ (fun q : Nat => s.heap.size ≤ q) b0 := Nat.not_le.mpr hbl
  obtain ⟨r, a1, b1, e1, e2, hR1⟩ := hsim.2.2.2.2.2.1 a b (xs (i + 1)) (xs (i + 2)) (xs (i + 3)) hR
  refine lv_aload_n hx hb dL_law_294 rfl (lv_at hl 1 rfl) ?_
  refine lv_aload_n hx hb dL_law_295 rfl (lv_at hl 0 rfl) ?_
  refine lv_iload_n hx hb dL_law_296 rfl (lv_at hl 3 rfl) ?_
  refine lv_iconst (v := (1 : Int32)) hx hb dL_law_297 (by decide) ?_
  refine lv_iadd hx hb dL_law_298 ?_
  refine ls_ld (k := 1) rfl hx hb hX hbl hbA h.2.2.2.1 (by omega) (by omega) dL_law_299 ?_
  refine lv_aload_n hx hb dL_law_300 rfl (lv_at hl 0 rfl) ?_
  refine lv_iload_n hx hb dL_law_301 rfl (lv_at hl 3 rfl) ?_
  refine lv_iconst (v := (2 : Int32)) hx hb dL_law_302 (by decide) ?_
  refine lv_iadd hx hb dL_law_303 ?_
  refine ls_ld (k := 2) rfl hx hb hX hbl hbA h.2.2.2.1 (by omega) (by omega) dL_law_304 ?_
  refine lv_aload_n hx hb dL_law_305 rfl (lv_at hl 0 rfl) ?_
  refine lv_iload_n hx hb dL_law_306 rfl (lv_at hl 3 rfl) ?_
  refine lv_iconst (v := (3 : Int32)) hx hb dL_law_307 (by decide) ?_
  refine lv_iadd hx hb dL_law_308 ?_
  refine ls_ld (k := 3) rfl hx hb hX hbl hbA h.2.2.2.1 (by omega) (by omega) dL_law_309 ?_
  have h := h.swap
  refine two_VI F (c_House_turn l Z Q1 a (xs (i + 1)) (xs (i + 2)) (xs (i + 3)) e1) (cwV 3 hts hL_X9_turn rfl rfl rfl (by decide +kernel) ⟨Nat.le_of_ble_eq_true rfl, Nat.le_of_ble_eq_true rfl⟩) h (rcX_House h.snd) rfl hl.1 rfl (Nat.le_of_ble_eq_true rfl) ⟨Nat.le_refl _, Nat.le_refl _⟩ dL_law_310 (fun H locs h => ?_)
  have h := h.swap
  refine lv_aload_n hx hb dL_law_313 rfl (lv_at hl 2 rfl) ?_
  refine lv_aload_n hx hb dL_law_314 rfl (lv_at hl 0 rfl) ?_
  refine lv_iload_n hx hb dL_law_315 rfl (lv_at hl 3 rfl) ?_
  refine lv_iconst (v := (1 : Int32)) hx hb dL_law_316 (by decide) ?_
  refine lv_iadd hx hb dL_law_317 ?_
  refine ls_ld (k := 1) rfl hx hb hX hbl hbA h.2.2.2.1 (by omega) (by omega) dL_law_318 ?_
  refine lv_aload_n hx hb dL_law_319 rfl (lv_at hl 0 rfl) ?_
  refine lv_iload_n hx hb dL_law_320 rfl (lv_at hl 3 rfl) ?_
  refine lv_iconst (v := (2 : Int32)) hx hb dL_law_321 (by decide) ?_
  refine lv_iadd hx hb dL_law_322 ?_
  refine ls_ld (k := 2) rfl hx hb hX hbl hbA h.2.2.2.1 (by omega) (by omega) dL_law_323 ?_
  refine lv_aload_n hx hb dL_law_324 rfl (lv_at hl 0 rfl) ?_
  refine lv_iload_n hx hb dL_law_325 rfl (lv_at hl 3 rfl) ?_
  refine lv_iconst (v := (3 : Int32)) hx hb dL_law_326 (by decide) ?_
  refine lv_iadd hx hb dL_law_327 ?_
  refine ls_ld (k := 3) rfl hx hb hX hbl hbA h.2.2.2.1 (by omega) (by omega) dL_law_328 ?_
  refine two_VI F (c_Model_turn l Z Q2 b (xs (i + 1)) (xs (i + 2)) (xs (i + 3)) e2) (cwV 3 hts hL_X10_turn rfl rfl rfl (by decide +kernel) ⟨Nat.le_of_ble_eq_true rfl, Nat.le_of_ble_eq_true rfl⟩) h (rcY_Model h.snd) rfl hl.1 rfl (Nat.le_of_ble_eq_true rfl) ⟨Nat.le_refl _, Nat.le_refl _⟩ dL_law_329 (fun H locs h => ?_)
  refine lv_icmp_eq (tgt := 647) hx hb dL_law_332 (by decide) (fun _ => ?_) (fun q => absurd rfl q)
  exact tail a1 b1 H locs ls hR1 h hl
set_option maxHeartbeats 4000000 in
set_option maxRecDepth 100000 in
theorem law_case_5 {p : Program} {l : Launch} {e : Env} {s : State} {m : MethodId} {below : List Frame} {meth : Method} {c : Code} {Z : ZT} {Q1 Q2 : Nat → Nat} {b0 L : Nat} {xs : Nat → Int32} {Rel : XS → XS → Prop} (hsim : SIM Rel) (hL : L ≤ 3072) (C0 : lw_At p s m meth c b0 L xs) (i : Nat) (hi : i + 6 ≤ L) (a b : XS) (hR : Rel a b) (H : Heap) (locs : List Loc) (ls : Array Slot) (h : HL Z (wX Z Q1) (wY Z Q2) (fun q : Nat => s.heap.size ≤ q) s H locs a b) (hl : lv_has ls 4 [(0, .ref b0), (1, .ref (Q1 0)), (2, .ref (Q2 0)), (3, .int (nI i))]) (tail : ∀ (a1 b1 : XS) (H : Heap) (locs : List Loc) (ls : Array Slot), Rel a1 b1 → HL Z (wX Z Q1) (wY Z Q2) (fun q : Nat => s.heap.size ≤ q) s H locs a1 b1 → lv_has ls 4 [(0, .ref b0), (1, .ref (Q1 0)), (2, .ref (Q2 0)), (3, .int (nI i))] → W p l e room_1 s m #[Value.ref b0] below meth c H locs 600000 7302250 (lw_Z below #[Value.ref b0] s) (F0 m 647 ls [])) : W p l e room_1 s m #[Value.ref b0] below meth c H locs 600000 7302250 (lw_Z below #[Value.ref b0] s) (F0 m 337 ls []) := by
  obtain ⟨hx, hb, hr, hml, hown, hts, hX, hbl, hlocks, hgv⟩ := id C0
  have F : CallFix p m c cL_law 4 s #[Value.ref b0] lw_tbl RL := ⟨hx, hb, hml, hown, hts⟩
  have hbA : ¬ (fun q : Nat => s.heap.size ≤ q) b0 := Nat.not_le.mpr hbl
  obtain ⟨r, a1, b1, e1, e2, hR1⟩ := hsim.2.2.2.2.2.2.1 a b (xs (i + 1)) (xs (i + 2)) (xs (i + 3)) (xs (i + 4)) (xs (i + 5)) hR
  refine lv_aload_n hx hb dL_law_337 rfl (lv_at hl 1 rfl) ?_
  refine lv_aload_n hx hb dL_law_338 rfl (lv_at hl 0 rfl) ?_
  refine lv_iload_n hx hb dL_law_339 rfl (lv_at hl 3 rfl) ?_
  refine lv_iconst (v := (1 : Int32)) hx hb dL_law_340 (by decide) ?_
  refine lv_iadd hx hb dL_law_341 ?_
  refine ls_ld (k := 1) rfl hx hb hX hbl hbA h.2.2.2.1 (by omega) (by omega) dL_law_342 ?_
  refine lv_aload_n hx hb dL_law_343 rfl (lv_at hl 0 rfl) ?_
  refine lv_iload_n hx hb dL_law_344 rfl (lv_at hl 3 rfl) ?_
  refine lv_iconst (v := (2 : Int32)) hx hb dL_law_345 (by decide) ?_
  refine lv_iadd hx hb dL_law_346 ?_
  refine ls_ld (k := 2) rfl hx hb hX hbl hbA h.2.2.2.1 (by omega) (by omega) dL_law_347 ?_
  refine lv_aload_n hx hb dL_law_348 rfl (lv_at hl 0 rfl) ?_
  refine lv_iload_n hx hb dL_law_349 rfl (lv_at hl 3 rfl) ?_
  refine lv_iconst (v := (3 : Int32)) hx hb dL_law_350 (by decide) ?_
  refine lv_iadd hx hb dL_law_351 ?_
  refine ls_ld (k := 3) rfl hx hb hX hbl hbA h.2.2.2.1 (by omega) (by omega) dL_law_352 ?_
  refine lv_aload_n hx hb dL_law_353 rfl (lv_at hl 0 rfl) ?_
  refine lv_iload_n hx hb dL_law_354 rfl (lv_at hl 3 rfl) ?_
  refine lv_iconst (v := (4 : Int32)) hx hb dL_law_355 (by decide) ?_
  refine lv_iadd hx hb dL_law_356 ?_
  refine ls_ld (k := 4) rfl hx hb hX hbl hbA h.2.2.2.1 (by omega) (by omega) dL_law_357 ?_
  refine lv_aload_n hx hb dL_law_358 rfl (lv_at hl 0 rfl) ?_
  refine lv_iload_n hx hb dL_law_359 rfl (lv_at hl 3 rfl) ?_
  refine lv_iconst (v := (5 : Int32)) hx hb dL_law_360 (by decide) ?_
  refine lv_iadd hx hb dL_law_361 ?_
  refine ls_ld (k := 5) rfl hx hb hX hbl hbA h.2.2.2.1 (by omega) (by omega) dL_law_362 ?_
  have h := h.swap
  refine two_VI F (c_House_feed l Z Q1 a (xs (i + 1)) (xs (i + 2)) (xs (i + 3)) (xs (i + 4)) (xs (i + 5)) e1) (cwV 5 hts hL_X9_feed rfl rfl rfl (by decide +kernel) ⟨Nat.le_of_ble_eq_true rfl, Nat.le_of_ble_eq_true rfl⟩) h (rcX_House h.snd) rfl hl.1 rfl (Nat.le_of_ble_eq_true rfl) ⟨Nat.le_refl _, Nat.le_refl _⟩ dL_law_363 (fun H locs h => ?_)
  have h := h.swap
  refine lv_aload_n hx hb dL_law_366 rfl (lv_at hl 2 rfl) ?_
  refine lv_aload_n hx hb dL_law_367 rfl (lv_at hl 0 rfl) ?_
  refine lv_iload_n hx hb dL_law_368 rfl (lv_at hl 3 rfl) ?_
  refine lv_iconst (v := (1 : Int32)) hx hb dL_law_369 (by decide) ?_
  refine lv_iadd hx hb dL_law_370 ?_
  refine ls_ld (k := 1) rfl hx hb hX hbl hbA h.2.2.2.1 (by omega) (by omega) dL_law_371 ?_
  refine lv_aload_n hx hb dL_law_372 rfl (lv_at hl 0 rfl) ?_
  refine lv_iload_n hx hb dL_law_373 rfl (lv_at hl 3 rfl) ?_
  refine lv_iconst (v := (2 : Int32)) hx hb dL_law_374 (by decide) ?_
  refine lv_iadd hx hb dL_law_375 ?_
  refine ls_ld (k := 2) rfl hx hb hX hbl hbA h.2.2.2.1 (by omega) (by omega) dL_law_376 ?_
  refine lv_aload_n hx hb dL_law_377 rfl (lv_at hl 0 rfl) ?_
  refine lv_iload_n hx hb dL_law_378 rfl (lv_at hl 3 rfl) ?_
  refine lv_iconst (v := (3 : Int32)) hx hb dL_law_379 (by decide) ?_
  refine lv_iadd hx hb dL_law_380 ?_
  refine ls_ld (k := 3) rfl hx hb hX hbl hbA h.2.2.2.1 (by omega) (by omega) dL_law_381 ?_
  refine lv_aload_n hx hb dL_law_382 rfl (lv_at hl 0 rfl) ?_
  refine lv_iload_n hx hb dL_law_383 rfl (lv_at hl 3 rfl) ?_
  refine lv_iconst (v := (4 : Int32)) hx hb dL_law_384 (by decide) ?_
  refine lv_iadd hx hb dL_law_385 ?_
  refine ls_ld (k := 4) rfl hx hb hX hbl hbA h.2.2.2.1 (by omega) (by omega) dL_law_386 ?_
  refine lv_aload_n hx hb dL_law_387 rfl (lv_at hl 0 rfl) ?_
  refine lv_iload_n hx hb dL_law_388 rfl (lv_at hl 3 rfl) ?_
  refine lv_iconst (v := (5 : Int32)) hx hb dL_law_389 (by decide) ?_
  refine lv_iadd hx hb dL_law_390 ?_
  refine ls_ld (k := 5) rfl hx hb hX hbl hbA h.2.2.2.1 (by omega) (by omega) dL_law_391 ?_
  refine two_VI F (c_Model_feed l Z Q2 b (xs (i + 1)) (xs (i + 2)) (xs (i + 3)) (xs (i + 4)) (xs (i + 5)) e2) (cwV 5 hts hL_X10_feed rfl rfl rfl (by decide +kernel) ⟨Nat.le_of_ble_eq_true rfl, Nat.le_of_ble_eq_true rfl⟩) h (rcY_Model h.snd) rfl hl.1 rfl (Nat.le_of_ble_eq_true rfl) ⟨Nat.le_refl _, Nat.le_refl _⟩ dL_law_392 (fun H locs h => ?_)
  refine lv_icmp_eq (tgt := 647) hx hb dL_law_395 (by decide) (fun _ => ?_) (fun q => absurd rfl q)
  exact tail a1 b1 H locs ls hR1 h hl
set_option maxHeartbeats 4000000 in
set_option maxRecDepth 100000 in
theorem law_case_6 {p : Program} {l : Launch} {e : Env} {s : State} {m : MethodId} {below : List Frame} {meth : Method} {c : Code} {Z : ZT} {Q1 Q2 : Nat → Nat} {b0 L : Nat} {xs : Nat → Int32} {Rel : XS → XS → Prop} (hsim : SIM Rel) (hL : L ≤ 3072) (C0 : lw_At p s m meth c b0 L xs) (i : Nat) (hi : i + 6 ≤ L) (a b : XS) (hR : Rel a b) (H : Heap) (locs : List Loc) (ls : Array Slot) (h : HL Z (wX Z Q1) (wY Z Q2) (fun q : Nat => s.heap.size ≤ q) s H locs a b) (hl : lv_has ls 4 [(0, .ref b0), (1, .ref (Q1 0)), (2, .ref (Q2 0)), (3, .int (nI i))]) (tail : ∀ (a1 b1 : XS) (H : Heap) (locs : List Loc) (ls : Array Slot), Rel a1 b1 → HL Z (wX Z Q1) (wY Z Q2) (fun q : Nat => s.heap.size ≤ q) s H locs a1 b1 → lv_has ls 4 [(0, .ref b0), (1, .ref (Q1 0)), (2, .ref (Q2 0)), (3, .int (nI i))] → W p l e room_1 s m #[Value.ref b0] below meth c H locs 600000 7302250 (lw_Z below #[Value.ref b0] s) (F0 m 647 ls [])) : W p l e room_1 s m #[Value.ref b0] below meth c H locs 600000 7302250 (lw_Z below #[Value.ref b0] s) (F0 m 400 ls []) := by
  obtain ⟨hx, hb, hr, hml, hown, hts, hX, hbl, hlocks, hgv⟩ := id C0
  have F : CallFix p m c cL_law 4 s #[Value.ref b0] lw_tbl RL := ⟨hx, hb, hml, hown, hts⟩
  have hbA : ¬ (fun q : Nat => s.heap.size ≤ q) b0 := Nat.not_le.mpr hbl
  obtain ⟨r, a1, b1, e1, e2, hR1⟩ := hsim.2.2.2.2.2.2.2.1 a b (xs (i + 1)) hR
  refine lv_aload_n hx hb dL_law_400 rfl (lv_at hl 1 rfl) ?_
  refine lv_aload_n hx hb dL_law_401 rfl (lv_at hl 0 rfl) ?_
  refine lv_iload_n hx hb dL_law_402 rfl (lv_at hl 3 rfl) ?_
  refine lv_iconst (v := (1 : Int32)) hx hb dL_law_403 (by decide) ?_
  refine lv_iadd hx hb dL_law_404 ?_
  refine ls_ld (k := 1) rfl hx hb hX hbl hbA h.2.2.2.1 (by omega) (by omega) dL_law_405 ?_
  have h := h.swap
  refine two_VI F (c_House_end l Z Q1 a (xs (i + 1)) e1) (cwV 1 hts hL_X9_end rfl rfl rfl (by decide +kernel) ⟨Nat.le_of_ble_eq_true rfl, Nat.le_of_ble_eq_true rfl⟩) h (rcX_House h.snd) rfl hl.1 rfl (Nat.le_of_ble_eq_true rfl) ⟨Nat.le_refl _, Nat.le_refl _⟩ dL_law_406 (fun H locs h => ?_)
  have h := h.swap
  refine lv_aload_n hx hb dL_law_409 rfl (lv_at hl 2 rfl) ?_
  refine lv_aload_n hx hb dL_law_410 rfl (lv_at hl 0 rfl) ?_
  refine lv_iload_n hx hb dL_law_411 rfl (lv_at hl 3 rfl) ?_
  refine lv_iconst (v := (1 : Int32)) hx hb dL_law_412 (by decide) ?_
  refine lv_iadd hx hb dL_law_413 ?_
  refine ls_ld (k := 1) rfl hx hb hX hbl hbA h.2.2.2.1 (by omega) (by omega) dL_law_414 ?_
  refine two_VI F (c_Model_end l Z Q2 b (xs (i + 1)) e2) (cwV 1 hts hL_X10_end rfl rfl rfl (by decide +kernel) ⟨Nat.le_of_ble_eq_true rfl, Nat.le_of_ble_eq_true rfl⟩) h (rcY_Model h.snd) rfl hl.1 rfl (Nat.le_of_ble_eq_true rfl) ⟨Nat.le_refl _, Nat.le_refl _⟩ dL_law_415 (fun H locs h => ?_)
  refine lv_icmp_eq (tgt := 647) hx hb dL_law_418 (by decide) (fun _ => ?_) (fun q => absurd rfl q)
  exact tail a1 b1 H locs ls hR1 h hl
set_option maxHeartbeats 4000000 in
set_option maxRecDepth 100000 in
theorem law_case_7 {p : Program} {l : Launch} {e : Env} {s : State} {m : MethodId} {below : List Frame} {meth : Method} {c : Code} {Z : ZT} {Q1 Q2 : Nat → Nat} {b0 L : Nat} {xs : Nat → Int32} {Rel : XS → XS → Prop} (hsim : SIM Rel) (hL : L ≤ 3072) (C0 : lw_At p s m meth c b0 L xs) (i : Nat) (hi : i + 6 ≤ L) (a b : XS) (hR : Rel a b) (H : Heap) (locs : List Loc) (ls : Array Slot) (h : HL Z (wX Z Q1) (wY Z Q2) (fun q : Nat => s.heap.size ≤ q) s H locs a b) (hl : lv_has ls 4 [(0, .ref b0), (1, .ref (Q1 0)), (2, .ref (Q2 0)), (3, .int (nI i))]) (tail : ∀ (a1 b1 : XS) (H : Heap) (locs : List Loc) (ls : Array Slot), Rel a1 b1 → HL Z (wX Z Q1) (wY Z Q2) (fun q : Nat => s.heap.size ≤ q) s H locs a1 b1 → lv_has ls 4 [(0, .ref b0), (1, .ref (Q1 0)), (2, .ref (Q2 0)), (3, .int (nI i))] → W p l e room_1 s m #[Value.ref b0] below meth c H locs 600000 7302250 (lw_Z below #[Value.ref b0] s) (F0 m 647 ls [])) : W p l e room_1 s m #[Value.ref b0] below meth c H locs 600000 7302250 (lw_Z below #[Value.ref b0] s) (F0 m 423 ls []) := by
  obtain ⟨hx, hb, hr, hml, hown, hts, hX, hbl, hlocks, hgv⟩ := id C0
  have F : CallFix p m c cL_law 4 s #[Value.ref b0] lw_tbl RL := ⟨hx, hb, hml, hown, hts⟩
  have hbA : ¬ (fun q : Nat => s.heap.size ≤ q) b0 := Nat.not_le.mpr hbl
  obtain ⟨r, a1, b1, e1, e2, hR1⟩ := hsim.2.2.2.2.2.2.2.2.1 a b hR
  refine lv_aload_n hx hb dL_law_423 rfl (lv_at hl 1 rfl) ?_
  have h := h.swap
  refine two_VI F (c_House_procedure l Z Q1 a e1) (cwV 0 hts hL_X9_procedure rfl rfl rfl (by decide +kernel) ⟨Nat.le_of_ble_eq_true rfl, Nat.le_of_ble_eq_true rfl⟩) h (rcX_House h.snd) rfl hl.1 rfl (Nat.le_of_ble_eq_true rfl) ⟨Nat.le_refl _, Nat.le_refl _⟩ dL_law_424 (fun H locs h => ?_)
  have h := h.swap
  refine lv_aload_n hx hb dL_law_427 rfl (lv_at hl 2 rfl) ?_
  refine two_VI F (c_Model_procedure l Z Q2 b e2) (cwV 0 hts hL_X10_procedure rfl rfl rfl (by decide +kernel) ⟨Nat.le_of_ble_eq_true rfl, Nat.le_of_ble_eq_true rfl⟩) h (rcY_Model h.snd) rfl hl.1 rfl (Nat.le_of_ble_eq_true rfl) ⟨Nat.le_refl _, Nat.le_refl _⟩ dL_law_428 (fun H locs h => ?_)
  refine lv_icmp_eq (tgt := 647) hx hb dL_law_431 (by decide) (fun _ => ?_) (fun q => absurd rfl q)
  exact tail a1 b1 H locs ls hR1 h hl
set_option maxHeartbeats 4000000 in
set_option maxRecDepth 100000 in
theorem law_case_8 {p : Program} {l : Launch} {e : Env} {s : State} {m : MethodId} {below : List Frame} {meth : Method} {c : Code} {Z : ZT} {Q1 Q2 : Nat → Nat} {b0 L : Nat} {xs : Nat → Int32} {Rel : XS → XS → Prop} (hsim : SIM Rel) (hL : L ≤ 3072) (C0 : lw_At p s m meth c b0 L xs) (i : Nat) (hi : i + 6 ≤ L) (a b : XS) (hR : Rel a b) (H : Heap) (locs : List Loc) (ls : Array Slot) (h : HL Z (wX Z Q1) (wY Z Q2) (fun q : Nat => s.heap.size ≤ q) s H locs a b) (hl : lv_has ls 4 [(0, .ref b0), (1, .ref (Q1 0)), (2, .ref (Q2 0)), (3, .int (nI i))]) (tail : ∀ (a1 b1 : XS) (H : Heap) (locs : List Loc) (ls : Array Slot), Rel a1 b1 → HL Z (wX Z Q1) (wY Z Q2) (fun q : Nat => s.heap.size ≤ q) s H locs a1 b1 → lv_has ls 4 [(0, .ref b0), (1, .ref (Q1 0)), (2, .ref (Q2 0)), (3, .int (nI i))] → W p l e room_1 s m #[Value.ref b0] below meth c H locs 600000 7302250 (lw_Z below #[Value.ref b0] s) (F0 m 647 ls [])) : W p l e room_1 s m #[Value.ref b0] below meth c H locs 600000 7302250 (lw_Z below #[Value.ref b0] s) (F0 m 436 ls []) := by
  obtain ⟨hx, hb, hr, hml, hown, hts, hX, hbl, hlocks, hgv⟩ := id C0
  have F : CallFix p m c cL_law 4 s #[Value.ref b0] lw_tbl RL := ⟨hx, hb, hml, hown, hts⟩
  have hbA : ¬ (fun q : Nat => s.heap.size ≤ q) b0 := Nat.not_le.mpr hbl
  obtain ⟨r, a1, b1, e1, e2, hR1⟩ := hsim.2.2.2.2.2.2.2.2.2.1 a b (xs (i + 1)) hR
  refine lv_aload_n hx hb dL_law_436 rfl (lv_at hl 1 rfl) ?_
  refine lv_aload_n hx hb dL_law_437 rfl (lv_at hl 0 rfl) ?_
  refine lv_iload_n hx hb dL_law_438 rfl (lv_at hl 3 rfl) ?_
  refine lv_iconst (v := (1 : Int32)) hx hb dL_law_439 (by decide) ?_
  refine lv_iadd hx hb dL_law_440 ?_
  refine ls_ld (k := 1) rfl hx hb hX hbl hbA h.2.2.2.1 (by omega) (by omega) dL_law_441 ?_
  have h := h.swap
  refine two_VI F (c_House_lot l Z Q1 a (xs (i + 1)) e1) (cwV 1 hts hL_X9_lot rfl rfl rfl (by decide +kernel) ⟨Nat.le_of_ble_eq_true rfl, Nat.le_of_ble_eq_true rfl⟩) h (rcX_House h.snd) rfl hl.1 rfl (Nat.le_of_ble_eq_true rfl) ⟨Nat.le_refl _, Nat.le_refl _⟩ dL_law_442 (fun H locs h => ?_)
  have h := h.swap
  refine lv_aload_n hx hb dL_law_445 rfl (lv_at hl 2 rfl) ?_
  refine lv_aload_n hx hb dL_law_446 rfl (lv_at hl 0 rfl) ?_
  refine lv_iload_n hx hb dL_law_447 rfl (lv_at hl 3 rfl) ?_
  refine lv_iconst (v := (1 : Int32)) hx hb dL_law_448 (by decide) ?_
  refine lv_iadd hx hb dL_law_449 ?_
  refine ls_ld (k := 1) rfl hx hb hX hbl hbA h.2.2.2.1 (by omega) (by omega) dL_law_450 ?_
  refine two_VI F (c_Model_lot l Z Q2 b (xs (i + 1)) e2) (cwV 1 hts hL_X10_lot rfl rfl rfl (by decide +kernel) ⟨Nat.le_of_ble_eq_true rfl, Nat.le_of_ble_eq_true rfl⟩) h (rcY_Model h.snd) rfl hl.1 rfl (Nat.le_of_ble_eq_true rfl) ⟨Nat.le_refl _, Nat.le_refl _⟩ dL_law_451 (fun H locs h => ?_)
  refine lv_icmp_eq (tgt := 647) hx hb dL_law_454 (by decide) (fun _ => ?_) (fun q => absurd rfl q)
  exact tail a1 b1 H locs ls hR1 h hl
set_option maxHeartbeats 4000000 in
set_option maxRecDepth 100000 in
theorem law_case_9 {p : Program} {l : Launch} {e : Env} {s : State} {m : MethodId} {below : List Frame} {meth : Method} {c : Code} {Z : ZT} {Q1 Q2 : Nat → Nat} {b0 L : Nat} {xs : Nat → Int32} {Rel : XS → XS → Prop} (hsim : SIM Rel) (hL : L ≤ 3072) (C0 : lw_At p s m meth c b0 L xs) (i : Nat) (hi : i + 6 ≤ L) (a b : XS) (hR : Rel a b) (H : Heap) (locs : List Loc) (ls : Array Slot) (h : HL Z (wX Z Q1) (wY Z Q2) (fun q : Nat => s.heap.size ≤ q) s H locs a b) (hl : lv_has ls 4 [(0, .ref b0), (1, .ref (Q1 0)), (2, .ref (Q2 0)), (3, .int (nI i))]) (tail : ∀ (a1 b1 : XS) (H : Heap) (locs : List Loc) (ls : Array Slot), Rel a1 b1 → HL Z (wX Z Q1) (wY Z Q2) (fun q : Nat => s.heap.size ≤ q) s H locs a1 b1 → lv_has ls 4 [(0, .ref b0), (1, .ref (Q1 0)), (2, .ref (Q2 0)), (3, .int (nI i))] → W p l e room_1 s m #[Value.ref b0] below meth c H locs 600000 7302250 (lw_Z below #[Value.ref b0] s) (F0 m 647 ls [])) : W p l e room_1 s m #[Value.ref b0] below meth c H locs 600000 7302250 (lw_Z below #[Value.ref b0] s) (F0 m 459 ls []) := by
  obtain ⟨hx, hb, hr, hml, hown, hts, hX, hbl, hlocks, hgv⟩ := id C0
  have F : CallFix p m c cL_law 4 s #[Value.ref b0] lw_tbl RL := ⟨hx, hb, hml, hown, hts⟩
  have hbA : ¬ (fun q : Nat => s.heap.size ≤ q) b0 := Nat.not_le.mpr hbl
  obtain ⟨r, a1, b1, e1, e2, hR1⟩ := hsim.2.2.2.2.2.2.2.2.2.2.1 a b hR
  refine lv_aload_n hx hb dL_law_459 rfl (lv_at hl 1 rfl) ?_
  have h := h.swap
  refine two_VI F (c_House_step l Z Q1 a e1) (cwV 0 hts hL_X9_step rfl rfl rfl (by decide +kernel) ⟨Nat.le_of_ble_eq_true rfl, Nat.le_of_ble_eq_true rfl⟩) h (rcX_House h.snd) rfl hl.1 rfl (Nat.le_of_ble_eq_true rfl) ⟨Nat.le_refl _, Nat.le_refl _⟩ dL_law_460 (fun H locs h => ?_)
  have h := h.swap
  refine lv_aload_n hx hb dL_law_463 rfl (lv_at hl 2 rfl) ?_
  refine two_VI F (c_Model_step l Z Q2 b e2) (cwV 0 hts hL_X10_step rfl rfl rfl (by decide +kernel) ⟨Nat.le_of_ble_eq_true rfl, Nat.le_of_ble_eq_true rfl⟩) h (rcY_Model h.snd) rfl hl.1 rfl (Nat.le_of_ble_eq_true rfl) ⟨Nat.le_refl _, Nat.le_refl _⟩ dL_law_464 (fun H locs h => ?_)
  refine lv_icmp_eq (tgt := 647) hx hb dL_law_467 (by decide) (fun _ => ?_) (fun q => absurd rfl q)
  exact tail a1 b1 H locs ls hR1 h hl
set_option maxHeartbeats 4000000 in
set_option maxRecDepth 100000 in
theorem law_case_10 {p : Program} {l : Launch} {e : Env} {s : State} {m : MethodId} {below : List Frame} {meth : Method} {c : Code} {Z : ZT} {Q1 Q2 : Nat → Nat} {b0 L : Nat} {xs : Nat → Int32} {Rel : XS → XS → Prop} (hsim : SIM Rel) (hL : L ≤ 3072) (C0 : lw_At p s m meth c b0 L xs) (i : Nat) (hi : i + 6 ≤ L) (a b : XS) (hR : Rel a b) (H : Heap) (locs : List Loc) (ls : Array Slot) (h : HL Z (wX Z Q1) (wY Z Q2) (fun q : Nat => s.heap.size ≤ q) s H locs a b) (hl : lv_has ls 4 [(0, .ref b0), (1, .ref (Q1 0)), (2, .ref (Q2 0)), (3, .int (nI i))]) (tail : ∀ (a1 b1 : XS) (H : Heap) (locs : List Loc) (ls : Array Slot), Rel a1 b1 → HL Z (wX Z Q1) (wY Z Q2) (fun q : Nat => s.heap.size ≤ q) s H locs a1 b1 → lv_has ls 4 [(0, .ref b0), (1, .ref (Q1 0)), (2, .ref (Q2 0)), (3, .int (nI i))] → W p l e room_1 s m #[Value.ref b0] below meth c H locs 600000 7302250 (lw_Z below #[Value.ref b0] s) (F0 m 647 ls [])) : W p l e room_1 s m #[Value.ref b0] below meth c H locs 600000 7302250 (lw_Z below #[Value.ref b0] s) (F0 m 472 ls []) := by
  obtain ⟨hx, hb, hr, hml, hown, hts, hX, hbl, hlocks, hgv⟩ := id C0
  have F : CallFix p m c cL_law 4 s #[Value.ref b0] lw_tbl RL := ⟨hx, hb, hml, hown, hts⟩
  have hbA : ¬ (fun q : Nat => s.heap.size ≤ q) b0 := Nat.not_le.mpr hbl
  obtain ⟨r, a1, b1, e1, e2, hR1⟩ := hsim.2.2.2.2.2.2.2.2.2.2.2.1 a b (xs (i + 1)) hR
  refine lv_aload_n hx hb dL_law_472 rfl (lv_at hl 1 rfl) ?_
  refine lv_aload_n hx hb dL_law_473 rfl (lv_at hl 0 rfl) ?_
  refine lv_iload_n hx hb dL_law_474 rfl (lv_at hl 3 rfl) ?_
  refine lv_iconst (v := (1 : Int32)) hx hb dL_law_475 (by decide) ?_
  refine lv_iadd hx hb dL_law_476 ?_
  refine ls_ld (k := 1) rfl hx hb hX hbl hbA h.2.2.2.1 (by omega) (by omega) dL_law_477 ?_
  have h := h.swap
  refine two_VI F (c_House_protest l Z Q1 a (xs (i + 1)) e1) (cwV 1 hts hL_X9_protest rfl rfl rfl (by decide +kernel) ⟨Nat.le_of_ble_eq_true rfl, Nat.le_of_ble_eq_true rfl⟩) h (rcX_House h.snd) rfl hl.1 rfl (Nat.le_of_ble_eq_true rfl) ⟨Nat.le_refl _, Nat.le_refl _⟩ dL_law_478 (fun H locs h => ?_)
  have h := h.swap
  refine lv_aload_n hx hb dL_law_481 rfl (lv_at hl 2 rfl) ?_
  refine lv_aload_n hx hb dL_law_482 rfl (lv_at hl 0 rfl) ?_
  refine lv_iload_n hx hb dL_law_483 rfl (lv_at hl 3 rfl) ?_
  refine lv_iconst (v := (1 : Int32)) hx hb dL_law_484 (by decide) ?_
  refine lv_iadd hx hb dL_law_485 ?_
  refine ls_ld (k := 1) rfl hx hb hX hbl hbA h.2.2.2.1 (by omega) (by omega) dL_law_486 ?_
  refine two_VI F (c_Model_protest l Z Q2 b (xs (i + 1)) e2) (cwV 1 hts hL_X10_protest rfl rfl rfl (by decide +kernel) ⟨Nat.le_of_ble_eq_true rfl, Nat.le_of_ble_eq_true rfl⟩) h (rcY_Model h.snd) rfl hl.1 rfl (Nat.le_of_ble_eq_true rfl) ⟨Nat.le_refl _, Nat.le_refl _⟩ dL_law_487 (fun H locs h => ?_)
  refine lv_icmp_eq (tgt := 647) hx hb dL_law_490 (by decide) (fun _ => ?_) (fun q => absurd rfl q)
  exact tail a1 b1 H locs ls hR1 h hl
set_option maxHeartbeats 4000000 in
set_option maxRecDepth 100000 in
theorem law_case_11 {p : Program} {l : Launch} {e : Env} {s : State} {m : MethodId} {below : List Frame} {meth : Method} {c : Code} {Z : ZT} {Q1 Q2 : Nat → Nat} {b0 L : Nat} {xs : Nat → Int32} {Rel : XS → XS → Prop} (hsim : SIM Rel) (hL : L ≤ 3072) (C0 : lw_At p s m meth c b0 L xs) (i : Nat) (hi : i + 6 ≤ L) (a b : XS) (hR : Rel a b) (H : Heap) (locs : List Loc) (ls : Array Slot) (h : HL Z (wX Z Q1) (wY Z Q2) (fun q : Nat => s.heap.size ≤ q) s H locs a b) (hl : lv_has ls 4 [(0, .ref b0), (1, .ref (Q1 0)), (2, .ref (Q2 0)), (3, .int (nI i))]) (tail : ∀ (a1 b1 : XS) (H : Heap) (locs : List Loc) (ls : Array Slot), Rel a1 b1 → HL Z (wX Z Q1) (wY Z Q2) (fun q : Nat => s.heap.size ≤ q) s H locs a1 b1 → lv_has ls 4 [(0, .ref b0), (1, .ref (Q1 0)), (2, .ref (Q2 0)), (3, .int (nI i))] → W p l e room_1 s m #[Value.ref b0] below meth c H locs 600000 7302250 (lw_Z below #[Value.ref b0] s) (F0 m 647 ls [])) : W p l e room_1 s m #[Value.ref b0] below meth c H locs 600000 7302250 (lw_Z below #[Value.ref b0] s) (F0 m 495 ls []) := by
  obtain ⟨hx, hb, hr, hml, hown, hts, hX, hbl, hlocks, hgv⟩ := id C0
  have F : CallFix p m c cL_law 4 s #[Value.ref b0] lw_tbl RL := ⟨hx, hb, hml, hown, hts⟩
  have hbA : ¬ (fun q : Nat => s.heap.size ≤ q) b0 := Nat.not_le.mpr hbl
  obtain ⟨r, a1, e1, e2, hR1⟩ := hsim.2.2.2.2.2.2.2.2.2.2.2.2.1 a b (xs (i + 1)) hR
  refine lv_aload_n hx hb dL_law_495 rfl (lv_at hl 1 rfl) ?_
  refine lv_aload_n hx hb dL_law_496 rfl (lv_at hl 0 rfl) ?_
  refine lv_iload_n hx hb dL_law_497 rfl (lv_at hl 3 rfl) ?_
  refine lv_iconst (v := (1 : Int32)) hx hb dL_law_498 (by decide) ?_
  refine lv_iadd hx hb dL_law_499 ?_
  refine ls_ld (k := 1) rfl hx hb hX hbl hbA h.2.2.2.1 (by omega) (by omega) dL_law_500 ?_
  have h := h.swap
  refine two_VI F (c_House_body l Z Q1 a (xs (i + 1)) e1) (cwV 1 hts hL_X9_body rfl rfl rfl (by decide +kernel) ⟨Nat.le_of_ble_eq_true rfl, Nat.le_of_ble_eq_true rfl⟩) h (rcX_House h.snd) rfl hl.1 rfl (Nat.le_of_ble_eq_true rfl) ⟨Nat.le_refl _, Nat.le_refl _⟩ dL_law_501 (fun H locs h => ?_)
  have h := h.swap
  refine lv_aload_n hx hb dL_law_504 rfl (lv_at hl 2 rfl) ?_
  refine lv_aload_n hx hb dL_law_505 rfl (lv_at hl 0 rfl) ?_
  refine lv_iload_n hx hb dL_law_506 rfl (lv_at hl 3 rfl) ?_
  refine lv_iconst (v := (1 : Int32)) hx hb dL_law_507 (by decide) ?_
  refine lv_iadd hx hb dL_law_508 ?_
  refine ls_ld (k := 1) rfl hx hb hX hbl hbA h.2.2.2.1 (by omega) (by omega) dL_law_509 ?_
  refine two_VI F (c_Model_body l Z Q2 b (xs (i + 1)) e2) (cwV 1 hts hL_X10_body rfl rfl rfl (by decide +kernel) ⟨Nat.le_of_ble_eq_true rfl, Nat.le_of_ble_eq_true rfl⟩) h (rcY_Model h.snd) rfl hl.1 rfl (Nat.le_of_ble_eq_true rfl) ⟨Nat.le_refl _, Nat.le_refl _⟩ dL_law_510 (fun H locs h => ?_)
  refine lv_icmp_eq (tgt := 647) hx hb dL_law_513 (by decide) (fun _ => ?_) (fun q => absurd rfl q)
  exact tail a1 b H locs ls hR1 h hl
set_option maxHeartbeats 4000000 in
set_option maxRecDepth 100000 in
theorem law_case_12 {p : Program} {l : Launch} {e : Env} {s : State} {m : MethodId} {below : List Frame} {meth : Method} {c : Code} {Z : ZT} {Q1 Q2 : Nat → Nat} {b0 L : Nat} {xs : Nat → Int32} {Rel : XS → XS → Prop} (hsim : SIM Rel) (hL : L ≤ 3072) (C0 : lw_At p s m meth c b0 L xs) (i : Nat) (hi : i + 6 ≤ L) (a b : XS) (hR : Rel a b) (H : Heap) (locs : List Loc) (ls : Array Slot) (h : HL Z (wX Z Q1) (wY Z Q2) (fun q : Nat => s.heap.size ≤ q) s H locs a b) (hl : lv_has ls 4 [(0, .ref b0), (1, .ref (Q1 0)), (2, .ref (Q2 0)), (3, .int (nI i))]) (tail : ∀ (a1 b1 : XS) (H : Heap) (locs : List Loc) (ls : Array Slot), Rel a1 b1 → HL Z (wX Z Q1) (wY Z Q2) (fun q : Nat => s.heap.size ≤ q) s H locs a1 b1 → lv_has ls 4 [(0, .ref b0), (1, .ref (Q1 0)), (2, .ref (Q2 0)), (3, .int (nI i))] → W p l e room_1 s m #[Value.ref b0] below meth c H locs 600000 7302250 (lw_Z below #[Value.ref b0] s) (F0 m 647 ls [])) : W p l e room_1 s m #[Value.ref b0] below meth c H locs 600000 7302250 (lw_Z below #[Value.ref b0] s) (F0 m 518 ls []) := by
  obtain ⟨hx, hb, hr, hml, hown, hts, hX, hbl, hlocks, hgv⟩ := id C0
  have F : CallFix p m c cL_law 4 s #[Value.ref b0] lw_tbl RL := ⟨hx, hb, hml, hown, hts⟩
  have hbA : ¬ (fun q : Nat => s.heap.size ≤ q) b0 := Nat.not_le.mpr hbl
  obtain ⟨r, e1, e2, hR1⟩ := hsim.2.2.2.2.2.2.2.2.2.2.2.2.2.1 a b (xs (i + 1)) hR
  refine lv_aload_n hx hb dL_law_518 rfl (lv_at hl 1 rfl) ?_
  refine lv_aload_n hx hb dL_law_519 rfl (lv_at hl 0 rfl) ?_
  refine lv_iload_n hx hb dL_law_520 rfl (lv_at hl 3 rfl) ?_
  refine lv_iconst (v := (1 : Int32)) hx hb dL_law_521 (by decide) ?_
  refine lv_iadd hx hb dL_law_522 ?_
  refine ls_ld (k := 1) rfl hx hb hX hbl hbA h.2.2.2.1 (by omega) (by omega) dL_law_523 ?_
  have h := h.swap
  refine two_VI F (c_House_ballot l Z Q1 a (xs (i + 1)) e1) (cwV 1 hts hL_X9_ballot rfl rfl rfl (by decide +kernel) ⟨Nat.le_of_ble_eq_true rfl, Nat.le_of_ble_eq_true rfl⟩) h (rcX_House h.snd) rfl hl.1 rfl (Nat.le_of_ble_eq_true rfl) ⟨Nat.le_refl _, Nat.le_refl _⟩ dL_law_524 (fun H locs h => ?_)
  have h := h.swap
  refine lv_aload_n hx hb dL_law_527 rfl (lv_at hl 2 rfl) ?_
  refine lv_aload_n hx hb dL_law_528 rfl (lv_at hl 0 rfl) ?_
  refine lv_iload_n hx hb dL_law_529 rfl (lv_at hl 3 rfl) ?_
  refine lv_iconst (v := (1 : Int32)) hx hb dL_law_530 (by decide) ?_
  refine lv_iadd hx hb dL_law_531 ?_
  refine ls_ld (k := 1) rfl hx hb hX hbl hbA h.2.2.2.1 (by omega) (by omega) dL_law_532 ?_
  refine two_VI F (c_Model_ballot l Z Q2 b (xs (i + 1)) e2) (cwV 1 hts hL_X10_ballot rfl rfl rfl (by decide +kernel) ⟨Nat.le_of_ble_eq_true rfl, Nat.le_of_ble_eq_true rfl⟩) h (rcY_Model h.snd) rfl hl.1 rfl (Nat.le_of_ble_eq_true rfl) ⟨Nat.le_refl _, Nat.le_refl _⟩ dL_law_533 (fun H locs h => ?_)
  refine lv_icmp_eq (tgt := 647) hx hb dL_law_536 (by decide) (fun _ => ?_) (fun q => absurd rfl q)
  exact tail a b H locs ls hR1 h hl
set_option maxHeartbeats 4000000 in
set_option maxRecDepth 100000 in
theorem law_case_13 {p : Program} {l : Launch} {e : Env} {s : State} {m : MethodId} {below : List Frame} {meth : Method} {c : Code} {Z : ZT} {Q1 Q2 : Nat → Nat} {b0 L : Nat} {xs : Nat → Int32} {Rel : XS → XS → Prop} (hsim : SIM Rel) (hL : L ≤ 3072) (C0 : lw_At p s m meth c b0 L xs) (i : Nat) (hi : i + 6 ≤ L) (a b : XS) (hR : Rel a b) (H : Heap) (locs : List Loc) (ls : Array Slot) (h : HL Z (wX Z Q1) (wY Z Q2) (fun q : Nat => s.heap.size ≤ q) s H locs a b) (hl : lv_has ls 4 [(0, .ref b0), (1, .ref (Q1 0)), (2, .ref (Q2 0)), (3, .int (nI i))]) (tail : ∀ (a1 b1 : XS) (H : Heap) (locs : List Loc) (ls : Array Slot), Rel a1 b1 → HL Z (wX Z Q1) (wY Z Q2) (fun q : Nat => s.heap.size ≤ q) s H locs a1 b1 → lv_has ls 4 [(0, .ref b0), (1, .ref (Q1 0)), (2, .ref (Q2 0)), (3, .int (nI i))] → W p l e room_1 s m #[Value.ref b0] below meth c H locs 600000 7302250 (lw_Z below #[Value.ref b0] s) (F0 m 647 ls [])) : W p l e room_1 s m #[Value.ref b0] below meth c H locs 600000 7302250 (lw_Z below #[Value.ref b0] s) (F0 m 541 ls []) := by
  obtain ⟨hx, hb, hr, hml, hown, hts, hX, hbl, hlocks, hgv⟩ := id C0
  have F : CallFix p m c cL_law 4 s #[Value.ref b0] lw_tbl RL := ⟨hx, hb, hml, hown, hts⟩
  have hbA : ¬ (fun q : Nat => s.heap.size ≤ q) b0 := Nat.not_le.mpr hbl
  obtain ⟨r, e1, e2, hR1⟩ := hsim.2.2.2.2.2.2.2.2.2.2.2.2.2.2.1 a b hR
  refine lv_aload_n hx hb dL_law_541 rfl (lv_at hl 1 rfl) ?_
  have h := h.swap
  refine two_VI F (c_House_elected l Z Q1 a e1) (cwV 0 hts hL_X9_elected rfl rfl rfl (by decide +kernel) ⟨Nat.le_of_ble_eq_true rfl, Nat.le_of_ble_eq_true rfl⟩) h (rcX_House h.snd) rfl hl.1 rfl (Nat.le_of_ble_eq_true rfl) ⟨Nat.le_refl _, Nat.le_refl _⟩ dL_law_542 (fun H locs h => ?_)
  have h := h.swap
  refine lv_aload_n hx hb dL_law_545 rfl (lv_at hl 2 rfl) ?_
  refine two_VI F (c_Model_elected l Z Q2 b e2) (cwV 0 hts hL_X10_elected rfl rfl rfl (by decide +kernel) ⟨Nat.le_of_ble_eq_true rfl, Nat.le_of_ble_eq_true rfl⟩) h (rcY_Model h.snd) rfl hl.1 rfl (Nat.le_of_ble_eq_true rfl) ⟨Nat.le_refl _, Nat.le_refl _⟩ dL_law_546 (fun H locs h => ?_)
  refine lv_icmp_eq (tgt := 647) hx hb dL_law_549 (by decide) (fun _ => ?_) (fun q => absurd rfl q)
  exact tail a b H locs ls hR1 h hl
set_option maxHeartbeats 4000000 in
set_option maxRecDepth 100000 in
theorem law_case_14 {p : Program} {l : Launch} {e : Env} {s : State} {m : MethodId} {below : List Frame} {meth : Method} {c : Code} {Z : ZT} {Q1 Q2 : Nat → Nat} {b0 L : Nat} {xs : Nat → Int32} {Rel : XS → XS → Prop} (hsim : SIM Rel) (hL : L ≤ 3072) (C0 : lw_At p s m meth c b0 L xs) (i : Nat) (hi : i + 6 ≤ L) (a b : XS) (hR : Rel a b) (H : Heap) (locs : List Loc) (ls : Array Slot) (h : HL Z (wX Z Q1) (wY Z Q2) (fun q : Nat => s.heap.size ≤ q) s H locs a b) (hl : lv_has ls 4 [(0, .ref b0), (1, .ref (Q1 0)), (2, .ref (Q2 0)), (3, .int (nI i))]) (tail : ∀ (a1 b1 : XS) (H : Heap) (locs : List Loc) (ls : Array Slot), Rel a1 b1 → HL Z (wX Z Q1) (wY Z Q2) (fun q : Nat => s.heap.size ≤ q) s H locs a1 b1 → lv_has ls 4 [(0, .ref b0), (1, .ref (Q1 0)), (2, .ref (Q2 0)), (3, .int (nI i))] → W p l e room_1 s m #[Value.ref b0] below meth c H locs 600000 7302250 (lw_Z below #[Value.ref b0] s) (F0 m 647 ls [])) : W p l e room_1 s m #[Value.ref b0] below meth c H locs 600000 7302250 (lw_Z below #[Value.ref b0] s) (F0 m 554 ls []) := by
  obtain ⟨hx, hb, hr, hml, hown, hts, hX, hbl, hlocks, hgv⟩ := id C0
  have F : CallFix p m c cL_law 4 s #[Value.ref b0] lw_tbl RL := ⟨hx, hb, hml, hown, hts⟩
  have hbA : ¬ (fun q : Nat => s.heap.size ≤ q) b0 := Nat.not_le.mpr hbl
  obtain ⟨r, a1, b1, e1, e2, hR1⟩ := hsim.2.2.2.2.2.2.2.2.2.2.2.2.2.2.2.1 a b hR
  refine lv_aload_n hx hb dL_law_554 rfl (lv_at hl 1 rfl) ?_
  have h := h.swap
  refine two_VI F (c_House_chances l Z Q1 a e1) (cwV 0 hts hL_X9_chances rfl rfl rfl (by decide +kernel) ⟨Nat.le_of_ble_eq_true rfl, Nat.le_of_ble_eq_true rfl⟩) h (rcX_House h.snd) rfl hl.1 rfl (Nat.le_of_ble_eq_true rfl) ⟨Nat.le_refl _, Nat.le_refl _⟩ dL_law_555 (fun H locs h => ?_)
  have h := h.swap
  refine lv_aload_n hx hb dL_law_558 rfl (lv_at hl 2 rfl) ?_
  refine two_VI F (c_Model_chances l Z Q2 b e2) (cwV 0 hts hL_X10_chances rfl rfl rfl (by decide +kernel) ⟨Nat.le_of_ble_eq_true rfl, Nat.le_of_ble_eq_true rfl⟩) h (rcY_Model h.snd) rfl hl.1 rfl (Nat.le_of_ble_eq_true rfl) ⟨Nat.le_refl _, Nat.le_refl _⟩ dL_law_559 (fun H locs h => ?_)
  refine lv_icmp_eq (tgt := 647) hx hb dL_law_562 (by decide) (fun _ => ?_) (fun q => absurd rfl q)
  exact tail a1 b1 H locs ls hR1 h hl
set_option maxHeartbeats 4000000 in
set_option maxRecDepth 100000 in
theorem law_case_15 {p : Program} {l : Launch} {e : Env} {s : State} {m : MethodId} {below : List Frame} {meth : Method} {c : Code} {Z : ZT} {Q1 Q2 : Nat → Nat} {b0 L : Nat} {xs : Nat → Int32} {Rel : XS → XS → Prop} (hsim : SIM Rel) (hL : L ≤ 3072) (C0 : lw_At p s m meth c b0 L xs) (i : Nat) (hi : i + 6 ≤ L) (a b : XS) (hR : Rel a b) (H : Heap) (locs : List Loc) (ls : Array Slot) (h : HL Z (wX Z Q1) (wY Z Q2) (fun q : Nat => s.heap.size ≤ q) s H locs a b) (hl : lv_has ls 4 [(0, .ref b0), (1, .ref (Q1 0)), (2, .ref (Q2 0)), (3, .int (nI i))]) (tail : ∀ (a1 b1 : XS) (H : Heap) (locs : List Loc) (ls : Array Slot), Rel a1 b1 → HL Z (wX Z Q1) (wY Z Q2) (fun q : Nat => s.heap.size ≤ q) s H locs a1 b1 → lv_has ls 4 [(0, .ref b0), (1, .ref (Q1 0)), (2, .ref (Q2 0)), (3, .int (nI i))] → W p l e room_1 s m #[Value.ref b0] below meth c H locs 600000 7302250 (lw_Z below #[Value.ref b0] s) (F0 m 647 ls [])) : W p l e room_1 s m #[Value.ref b0] below meth c H locs 600000 7302250 (lw_Z below #[Value.ref b0] s) (F0 m 567 ls []) := by
  obtain ⟨hx, hb, hr, hml, hown, hts, hX, hbl, hlocks, hgv⟩ := id C0
  have F : CallFix p m c cL_law 4 s #[Value.ref b0] lw_tbl RL := ⟨hx, hb, hml, hown, hts⟩
  have hbA : ¬ (fun q : Nat => s.heap.size ≤ q) b0 := Nat.not_le.mpr hbl
  obtain ⟨r, e1, e2, hR1⟩ := hsim.2.2.2.2.2.2.2.2.2.2.2.2.2.2.2.2.1 a b (xs (i + 1)) hR
  refine lv_aload_n hx hb dL_law_567 rfl (lv_at hl 1 rfl) ?_
  refine lv_aload_n hx hb dL_law_568 rfl (lv_at hl 0 rfl) ?_
  refine lv_iload_n hx hb dL_law_569 rfl (lv_at hl 3 rfl) ?_
  refine lv_iconst (v := (1 : Int32)) hx hb dL_law_570 (by decide) ?_
  refine lv_iadd hx hb dL_law_571 ?_
  refine ls_ld (k := 1) rfl hx hb hX hbl hbA h.2.2.2.1 (by omega) (by omega) dL_law_572 ?_
  have h := h.swap
  refine two_VL F (c_House_ways l Z Q1 a (xs (i + 1)) e1) (cwV 1 hts hL_X9_ways rfl rfl rfl (by decide +kernel) ⟨Nat.le_of_ble_eq_true rfl, Nat.le_of_ble_eq_true rfl⟩) h (rcX_House h.snd) rfl hl.1 rfl (Nat.le_of_ble_eq_true rfl) ⟨Nat.le_refl _, Nat.le_refl _⟩ dL_law_573 (fun H locs h => ?_)
  have h := h.swap
  refine lv_aload_n hx hb dL_law_576 rfl (lv_at hl 2 rfl) ?_
  refine lv_aload_n hx hb dL_law_577 rfl (lv_at hl 0 rfl) ?_
  refine lv_iload_n hx hb dL_law_578 rfl (lv_at hl 3 rfl) ?_
  refine lv_iconst (v := (1 : Int32)) hx hb dL_law_579 (by decide) ?_
  refine lv_iadd hx hb dL_law_580 ?_
  refine ls_ld (k := 1) rfl hx hb hX hbl hbA h.2.2.2.1 (by omega) (by omega) dL_law_581 ?_
  refine two_VL F (c_Model_ways l Z Q2 b (xs (i + 1)) e2) (cwV 1 hts hL_X10_ways rfl rfl rfl (by decide +kernel) ⟨Nat.le_of_ble_eq_true rfl, Nat.le_of_ble_eq_true rfl⟩) h (rcY_Model h.snd) rfl hl.1 rfl (Nat.le_of_ble_eq_true rfl) ⟨Nat.le_refl _, Nat.le_refl _⟩ dL_law_582 (fun H locs h => ?_)
  refine W.lcmp hx hb dL_law_585 ?_
  refine lv_if_eq (tgt := 647) hx hb dL_law_586 (by decide) (fun _ => ?_) (fun q => absurd (lg_cmp_self r) q)
  exact tail a b H locs ls hR1 h hl
set_option maxHeartbeats 4000000 in
set_option maxRecDepth 100000 in
theorem law_case_16 {p : Program} {l : Launch} {e : Env} {s : State} {m : MethodId} {below : List Frame} {meth : Method} {c : Code} {Z : ZT} {Q1 Q2 : Nat → Nat} {b0 L : Nat} {xs : Nat → Int32} {Rel : XS → XS → Prop} (hsim : SIM Rel) (hL : L ≤ 3072) (C0 : lw_At p s m meth c b0 L xs) (i : Nat) (hi : i + 6 ≤ L) (a b : XS) (hR : Rel a b) (H : Heap) (locs : List Loc) (ls : Array Slot) (h : HL Z (wX Z Q1) (wY Z Q2) (fun q : Nat => s.heap.size ≤ q) s H locs a b) (hl : lv_has ls 4 [(0, .ref b0), (1, .ref (Q1 0)), (2, .ref (Q2 0)), (3, .int (nI i))]) (tail : ∀ (a1 b1 : XS) (H : Heap) (locs : List Loc) (ls : Array Slot), Rel a1 b1 → HL Z (wX Z Q1) (wY Z Q2) (fun q : Nat => s.heap.size ≤ q) s H locs a1 b1 → lv_has ls 4 [(0, .ref b0), (1, .ref (Q1 0)), (2, .ref (Q2 0)), (3, .int (nI i))] → W p l e room_1 s m #[Value.ref b0] below meth c H locs 600000 7302250 (lw_Z below #[Value.ref b0] s) (F0 m 647 ls [])) : W p l e room_1 s m #[Value.ref b0] below meth c H locs 600000 7302250 (lw_Z below #[Value.ref b0] s) (F0 m 591 ls []) := by
  obtain ⟨hx, hb, hr, hml, hown, hts, hX, hbl, hlocks, hgv⟩ := id C0
  have F : CallFix p m c cL_law 4 s #[Value.ref b0] lw_tbl RL := ⟨hx, hb, hml, hown, hts⟩
  have hbA : ¬ (fun q : Nat => s.heap.size ≤ q) b0 := Nat.not_le.mpr hbl
  obtain ⟨r, e1, e2, hR1⟩ := hsim.2.2.2.2.2.2.2.2.2.2.2.2.2.2.2.2.2.1 a b (xs (i + 1)) (xs (i + 2)) hR
  refine lv_aload_n hx hb dL_law_591 rfl (lv_at hl 1 rfl) ?_
  refine lv_aload_n hx hb dL_law_592 rfl (lv_at hl 0 rfl) ?_
  refine lv_iload_n hx hb dL_law_593 rfl (lv_at hl 3 rfl) ?_
  refine lv_iconst (v := (1 : Int32)) hx hb dL_law_594 (by decide) ?_
  refine lv_iadd hx hb dL_law_595 ?_
  refine ls_ld (k := 1) rfl hx hb hX hbl hbA h.2.2.2.1 (by omega) (by omega) dL_law_596 ?_
  refine lv_aload_n hx hb dL_law_597 rfl (lv_at hl 0 rfl) ?_
  refine lv_iload_n hx hb dL_law_598 rfl (lv_at hl 3 rfl) ?_
  refine lv_iconst (v := (2 : Int32)) hx hb dL_law_599 (by decide) ?_
  refine lv_iadd hx hb dL_law_600 ?_
  refine ls_ld (k := 2) rfl hx hb hX hbl hbA h.2.2.2.1 (by omega) (by omega) dL_law_601 ?_
  have h := h.swap
  refine two_VI F (c_House_about l Z Q1 a (xs (i + 1)) (xs (i + 2)) e1) (cwV 2 hts hL_X9_about rfl rfl rfl (by decide +kernel) ⟨Nat.le_of_ble_eq_true rfl, Nat.le_of_ble_eq_true rfl⟩) h (rcX_House h.snd) rfl hl.1 rfl (Nat.le_of_ble_eq_true rfl) ⟨Nat.le_refl _, Nat.le_refl _⟩ dL_law_602 (fun H locs h => ?_)
  have h := h.swap
  refine lv_aload_n hx hb dL_law_605 rfl (lv_at hl 2 rfl) ?_
  refine lv_aload_n hx hb dL_law_606 rfl (lv_at hl 0 rfl) ?_
  refine lv_iload_n hx hb dL_law_607 rfl (lv_at hl 3 rfl) ?_
  refine lv_iconst (v := (1 : Int32)) hx hb dL_law_608 (by decide) ?_
  refine lv_iadd hx hb dL_law_609 ?_
  refine ls_ld (k := 1) rfl hx hb hX hbl hbA h.2.2.2.1 (by omega) (by omega) dL_law_610 ?_
  refine lv_aload_n hx hb dL_law_611 rfl (lv_at hl 0 rfl) ?_
  refine lv_iload_n hx hb dL_law_612 rfl (lv_at hl 3 rfl) ?_
  refine lv_iconst (v := (2 : Int32)) hx hb dL_law_613 (by decide) ?_
  refine lv_iadd hx hb dL_law_614 ?_
  refine ls_ld (k := 2) rfl hx hb hX hbl hbA h.2.2.2.1 (by omega) (by omega) dL_law_615 ?_
  refine two_VI F (c_Model_about l Z Q2 b (xs (i + 1)) (xs (i + 2)) e2) (cwV 2 hts hL_X10_about rfl rfl rfl (by decide +kernel) ⟨Nat.le_of_ble_eq_true rfl, Nat.le_of_ble_eq_true rfl⟩) h (rcY_Model h.snd) rfl hl.1 rfl (Nat.le_of_ble_eq_true rfl) ⟨Nat.le_refl _, Nat.le_refl _⟩ dL_law_616 (fun H locs h => ?_)
  refine lv_icmp_eq (tgt := 647) hx hb dL_law_619 (by decide) (fun _ => ?_) (fun q => absurd rfl q)
  exact tail a b H locs ls hR1 h hl
set_option maxHeartbeats 4000000 in
set_option maxRecDepth 100000 in
theorem law_case_17 {p : Program} {l : Launch} {e : Env} {s : State} {m : MethodId} {below : List Frame} {meth : Method} {c : Code} {Z : ZT} {Q1 Q2 : Nat → Nat} {b0 L : Nat} {xs : Nat → Int32} {Rel : XS → XS → Prop} (hsim : SIM Rel) (hL : L ≤ 3072) (C0 : lw_At p s m meth c b0 L xs) (i : Nat) (hi : i + 6 ≤ L) (a b : XS) (hR : Rel a b) (H : Heap) (locs : List Loc) (ls : Array Slot) (h : HL Z (wX Z Q1) (wY Z Q2) (fun q : Nat => s.heap.size ≤ q) s H locs a b) (hl : lv_has ls 4 [(0, .ref b0), (1, .ref (Q1 0)), (2, .ref (Q2 0)), (3, .int (nI i))]) (tail : ∀ (a1 b1 : XS) (H : Heap) (locs : List Loc) (ls : Array Slot), Rel a1 b1 → HL Z (wX Z Q1) (wY Z Q2) (fun q : Nat => s.heap.size ≤ q) s H locs a1 b1 → lv_has ls 4 [(0, .ref b0), (1, .ref (Q1 0)), (2, .ref (Q2 0)), (3, .int (nI i))] → W p l e room_1 s m #[Value.ref b0] below meth c H locs 600000 7302250 (lw_Z below #[Value.ref b0] s) (F0 m 647 ls [])) : W p l e room_1 s m #[Value.ref b0] below meth c H locs 600000 7302250 (lw_Z below #[Value.ref b0] s) (F0 m 624 ls []) := by
  obtain ⟨hx, hb, hr, hml, hown, hts, hX, hbl, hlocks, hgv⟩ := id C0
  have F : CallFix p m c cL_law 4 s #[Value.ref b0] lw_tbl RL := ⟨hx, hb, hml, hown, hts⟩
  have hbA : ¬ (fun q : Nat => s.heap.size ≤ q) b0 := Nat.not_le.mpr hbl
  obtain ⟨r, a1, e1, e2, hR1⟩ := hsim.2.2.2.2.2.2.2.2.2.2.2.2.2.2.2.2.2.2 a b (xs (i + 1)) hR
  refine lv_aload_n hx hb dL_law_624 rfl (lv_at hl 1 rfl) ?_
  refine lv_aload_n hx hb dL_law_625 rfl (lv_at hl 0 rfl) ?_
  refine lv_iload_n hx hb dL_law_626 rfl (lv_at hl 3 rfl) ?_
  refine lv_iconst (v := (1 : Int32)) hx hb dL_law_627 (by decide) ?_
  refine lv_iadd hx hb dL_law_628 ?_
  refine ls_ld (k := 1) rfl hx hb hX hbl hbA h.2.2.2.1 (by omega) (by omega) dL_law_629 ?_
  have h := h.swap
  refine two_VI F (c_House_count l Z Q1 a (xs (i + 1)) e1) (cwV 1 hts hL_X9_count rfl rfl rfl (by decide +kernel) ⟨Nat.le_of_ble_eq_true rfl, Nat.le_of_ble_eq_true rfl⟩) h (rcX_House h.snd) rfl hl.1 rfl (Nat.le_of_ble_eq_true rfl) ⟨Nat.le_refl _, Nat.le_refl _⟩ dL_law_630 (fun H locs h => ?_)
  have h := h.swap
  refine lv_aload_n hx hb dL_law_633 rfl (lv_at hl 2 rfl) ?_
  refine lv_aload_n hx hb dL_law_634 rfl (lv_at hl 0 rfl) ?_
  refine lv_iload_n hx hb dL_law_635 rfl (lv_at hl 3 rfl) ?_
  refine lv_iconst (v := (1 : Int32)) hx hb dL_law_636 (by decide) ?_
  refine lv_iadd hx hb dL_law_637 ?_
  refine ls_ld (k := 1) rfl hx hb hX hbl hbA h.2.2.2.1 (by omega) (by omega) dL_law_638 ?_
  refine two_VI F (c_Model_count l Z Q2 b (xs (i + 1)) e2) (cwV 1 hts hL_X10_count rfl rfl rfl (by decide +kernel) ⟨Nat.le_of_ble_eq_true rfl, Nat.le_of_ble_eq_true rfl⟩) h (rcY_Model h.snd) rfl hl.1 rfl (Nat.le_of_ble_eq_true rfl) ⟨Nat.le_refl _, Nat.le_refl _⟩ dL_law_639 (fun H locs h => ?_)
  refine lv_icmp_eq (tgt := 647) hx hb dL_law_642 (by decide) (fun _ => ?_) (fun q => absurd rfl q)
  exact tail a1 b H locs ls hR1 h hl
set_option maxHeartbeats 4000000 in
set_option maxRecDepth 100000 in
theorem law_loop {p : Program} {l : Launch} {e : Env} {s : State} {m : MethodId} {below : List Frame} {meth : Method} {c : Code} {Z : ZT} {Q1 Q2 : Nat → Nat} {b0 L : Nat} {xs : Nat → Int32} {Rel : XS → XS → Prop} (hsim : SIM Rel) (hL : L ≤ 3072) (C0 : lw_At p s m meth c b0 L xs) : ∀ (n i : Nat), i ≤ L → L + 1 ≤ i + n → ∀ (a b : XS) (H : Heap) (locs : List Loc) (ls : Array Slot), Rel a b → HL Z (wX Z Q1) (wY Z Q2) (fun q : Nat => s.heap.size ≤ q) s H locs a b → lv_has ls 4 [(0, .ref b0), (1, .ref (Q1 0)), (2, .ref (Q2 0)), (3, .int (nI i))] → W p l e room_1 s m #[Value.ref b0] below meth c H locs 600000 7302250 (lw_Z below #[Value.ref b0] s) (F0 m 18 ls []) := by
  obtain ⟨hx, hb, hr, hml, hown, hts, hX, hbl, hlocks, hgv⟩ := id C0
  have F : CallFix p m c cL_law 4 s #[Value.ref b0] lw_tbl RL := ⟨hx, hb, hml, hown, hts⟩
  have hbA : ¬ (fun q : Nat => s.heap.size ≤ q) b0 := Nat.not_le.mpr hbl
  intro n
  induction n with
  | zero => intro i h1 h2; exact absurd h2 (by omega)
  | succ n ih =>
    intro i hi hn a b H locs ls hR h hl
    refine lv_iload_n hx hb dL_law_18 rfl (lv_at hl 3 rfl) ?_
    refine lv_aload_n hx hb dL_law_19 rfl (lv_at hl 0 rfl) ?_
    refine va_slen hx hb hX hbl hbA h.2.2.2.1 dL_law_20 ?_
    refine lv_bipush (v := (6 : Int32)) hx hb dL_law_21 (by decide) ?_
    refine lv_isub hx hb dL_law_23 ?_
    have eL : (nI L - (6 : Int32)).toInt = (L : Int) - 6 := by rw [show (6 : Int32) = nI 6 from rfl]; exact pk_sub_toInt (by omega) (by omega)
    refine lv_icmp_gt (tgt := 653) hx hb dL_law_24 (by decide) (fun _ => ?_) (fun q => ?_)
    · refine lv_iconst (v := 1) hx hb dL_law_653 (by decide) ?_
      refine va_forget (fun q hq => h.2.2.2.1.2.2 q hq) ?_
      exact lw_ret hx hb hr hlocks dL_law_654
    · have hi6 : i + 6 ≤ L := by
        have q2 : ¬ (nI L - (6 : Int32)).toInt < (nI i).toInt := fun z => q (Int32.lt_iff_toInt_lt.mpr z)
        rw [eL, nI_toInt (by omega)] at q2
        omega
      refine lv_aload_n hx hb dL_law_27 rfl (lv_at hl 0 rfl) ?_
      refine lv_iload_n hx hb dL_law_28 rfl (lv_at hl 3 rfl) ?_
      refine va_sld hx hb hX hbl hbA h.2.2.2.1 (vp_in_nI (by omega) (by omega)) dL_law_29 ?_
      refine lv_bipush (v := (31 : Int32)) hx hb dL_law_30 (by decide) ?_
      refine lv_iand hx hb dL_law_32 ?_
      generalize xs (nI i).toNatClampNeg &&& (31 : Int32) = o
      have tail : ∀ (a1 b1 : XS) (H : Heap) (locs : List Loc) (ls : Array Slot), Rel a1 b1 → HL Z (wX Z Q1) (wY Z Q2) (fun q : Nat => s.heap.size ≤ q) s H locs a1 b1 → lv_has ls 4 [(0, .ref b0), (1, .ref (Q1 0)), (2, .ref (Q2 0)), (3, .int (nI i))] → W p l e room_1 s m #[Value.ref b0] below meth c H locs 600000 7302250 (lw_Z below #[Value.ref b0] s) (F0 m 647 ls []) := by
        intro a1 b1 H locs ls hR h hl
        refine lv_iinc (v := nI (i + 6)) (lv' := [(3, .int (nI (i + 6))), (0, .ref b0), (1, .ref (Q1 0)), (2, .ref (Q2 0))]) hx hb dL_law_647 hl (k := 3) rfl (by rw [← nI_add]; rfl) (by decide) rfl (fun ls hl => ?_)
        refine lv_goto (tgt := 18) hx hb dL_law_650 (by decide) ?_
        exact ih (i + 6) hi6 (by omega) a1 b1 H locs ls hR h (lv_sub hl [1, 2, 3, 0] rfl)
      by_cases c0 : o = (0 : Int32)
      · refine lv_tableIn (off := 87) (tgt := 120) hx hb dL_law_33 (by rw [c0]; decide) (by rw [c0]; decide) (by rw [c0]; rfl) (by decide) ?_
        exact law_case_0 hsim hL C0 i hi6 a b hR H locs ls h hl tail
      by_cases c1 : o = (1 : Int32)
      · refine lv_tableIn (off := 120) (tgt := 153) hx hb dL_law_33 (by rw [c1]; decide) (by rw [c1]; decide) (by rw [c1]; rfl) (by decide) ?_
        exact law_case_1 hsim hL C0 i hi6 a b hR H locs ls h hl tail
      by_cases c2 : o = (2 : Int32)
      · refine lv_tableIn (off := 169) (tgt := 202) hx hb dL_law_33 (by rw [c2]; decide) (by rw [c2]; decide) (by rw [c2]; rfl) (by decide) ?_
        exact law_case_2 hsim hL C0 i hi6 a b hR H locs ls h hl tail
      by_cases c3 : o = (3 : Int32)
      · refine lv_tableIn (off := 202) (tgt := 235) hx hb dL_law_33 (by rw [c3]; decide) (by rw [c3]; decide) (by rw [c3]; rfl) (by decide) ?_
        exact law_case_3 hsim hL C0 i hi6 a b hR H locs ls h hl tail
      by_cases c4 : o = (4 : Int32)
      · refine lv_tableIn (off := 261) (tgt := 294) hx hb dL_law_33 (by rw [c4]; decide) (by rw [c4]; decide) (by rw [c4]; rfl) (by decide) ?_
        exact law_case_4 hsim hL C0 i hi6 a b hR H locs ls h hl tail
      by_cases c5 : o = (5 : Int32)
      · refine lv_tableIn (off := 304) (tgt := 337) hx hb dL_law_33 (by rw [c5]; decide) (by rw [c5]; decide) (by rw [c5]; rfl) (by decide) ?_
        exact law_case_5 hsim hL C0 i hi6 a b hR H locs ls h hl tail
      by_cases c6 : o = (6 : Int32)
      · refine lv_tableIn (off := 367) (tgt := 400) hx hb dL_law_33 (by rw [c6]; decide) (by rw [c6]; decide) (by rw [c6]; rfl) (by decide) ?_
        exact law_case_6 hsim hL C0 i hi6 a b hR H locs ls h hl tail
      by_cases c7 : o = (7 : Int32)
      · refine lv_tableIn (off := 390) (tgt := 423) hx hb dL_law_33 (by rw [c7]; decide) (by rw [c7]; decide) (by rw [c7]; rfl) (by decide) ?_
        exact law_case_7 hsim hL C0 i hi6 a b hR H locs ls h hl tail
      by_cases c8 : o = (8 : Int32)
      · refine lv_tableIn (off := 403) (tgt := 436) hx hb dL_law_33 (by rw [c8]; decide) (by rw [c8]; decide) (by rw [c8]; rfl) (by decide) ?_
        exact law_case_8 hsim hL C0 i hi6 a b hR H locs ls h hl tail
      by_cases c9 : o = (9 : Int32)
      · refine lv_tableIn (off := 426) (tgt := 459) hx hb dL_law_33 (by rw [c9]; decide) (by rw [c9]; decide) (by rw [c9]; rfl) (by decide) ?_
        exact law_case_9 hsim hL C0 i hi6 a b hR H locs ls h hl tail
      by_cases c10 : o = (10 : Int32)
      · refine lv_tableIn (off := 439) (tgt := 472) hx hb dL_law_33 (by rw [c10]; decide) (by rw [c10]; decide) (by rw [c10]; rfl) (by decide) ?_
        exact law_case_10 hsim hL C0 i hi6 a b hR H locs ls h hl tail
      by_cases c11 : o = (11 : Int32)
      · refine lv_tableIn (off := 462) (tgt := 495) hx hb dL_law_33 (by rw [c11]; decide) (by rw [c11]; decide) (by rw [c11]; rfl) (by decide) ?_
        exact law_case_11 hsim hL C0 i hi6 a b hR H locs ls h hl tail
      by_cases c12 : o = (12 : Int32)
      · refine lv_tableIn (off := 485) (tgt := 518) hx hb dL_law_33 (by rw [c12]; decide) (by rw [c12]; decide) (by rw [c12]; rfl) (by decide) ?_
        exact law_case_12 hsim hL C0 i hi6 a b hR H locs ls h hl tail
      by_cases c13 : o = (13 : Int32)
      · refine lv_tableIn (off := 508) (tgt := 541) hx hb dL_law_33 (by rw [c13]; decide) (by rw [c13]; decide) (by rw [c13]; rfl) (by decide) ?_
        exact law_case_13 hsim hL C0 i hi6 a b hR H locs ls h hl tail
      by_cases c14 : o = (14 : Int32)
      · refine lv_tableIn (off := 521) (tgt := 554) hx hb dL_law_33 (by rw [c14]; decide) (by rw [c14]; decide) (by rw [c14]; rfl) (by decide) ?_
        exact law_case_14 hsim hL C0 i hi6 a b hR H locs ls h hl tail
      by_cases c15 : o = (15 : Int32)
      · refine lv_tableIn (off := 534) (tgt := 567) hx hb dL_law_33 (by rw [c15]; decide) (by rw [c15]; decide) (by rw [c15]; rfl) (by decide) ?_
        exact law_case_15 hsim hL C0 i hi6 a b hR H locs ls h hl tail
      by_cases c16 : o = (16 : Int32)
      · refine lv_tableIn (off := 558) (tgt := 591) hx hb dL_law_33 (by rw [c16]; decide) (by rw [c16]; decide) (by rw [c16]; rfl) (by decide) ?_
        exact law_case_16 hsim hL C0 i hi6 a b hR H locs ls h hl tail
      by_cases c17 : o = (17 : Int32)
      · refine lv_tableIn (off := 591) (tgt := 624) hx hb dL_law_33 (by rw [c17]; decide) (by rw [c17]; decide) (by rw [c17]; rfl) (by decide) ?_
        exact law_case_17 hsim hL C0 i hi6 a b hR H locs ls h hl tail
      have n0 := lv_neT c0 (show (0 : Int32).toInt = 0 by decide)
      have n1 := lv_neT c1 (show (1 : Int32).toInt = 1 by decide)
      have n2 := lv_neT c2 (show (2 : Int32).toInt = 2 by decide)
      have n3 := lv_neT c3 (show (3 : Int32).toInt = 3 by decide)
      have n4 := lv_neT c4 (show (4 : Int32).toInt = 4 by decide)
      have n5 := lv_neT c5 (show (5 : Int32).toInt = 5 by decide)
      have n6 := lv_neT c6 (show (6 : Int32).toInt = 6 by decide)
      have n7 := lv_neT c7 (show (7 : Int32).toInt = 7 by decide)
      have n8 := lv_neT c8 (show (8 : Int32).toInt = 8 by decide)
      have n9 := lv_neT c9 (show (9 : Int32).toInt = 9 by decide)
      have n10 := lv_neT c10 (show (10 : Int32).toInt = 10 by decide)
      have n11 := lv_neT c11 (show (11 : Int32).toInt = 11 by decide)
      have n12 := lv_neT c12 (show (12 : Int32).toInt = 12 by decide)
      have n13 := lv_neT c13 (show (13 : Int32).toInt = 13 by decide)
      have n14 := lv_neT c14 (show (14 : Int32).toInt = 14 by decide)
      have n15 := lv_neT c15 (show (15 : Int32).toInt = 15 by decide)
      have n16 := lv_neT c16 (show (16 : Int32).toInt = 16 by decide)
      have n17 := lv_neT c17 (show (17 : Int32).toInt = 17 by decide)
      refine lv_tableOut (tgt := 647) hx hb dL_law_33 (by omega) (by decide) ?_
      exact tail a b H locs ls hR h hl
