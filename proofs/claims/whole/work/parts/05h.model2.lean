set_option maxHeartbeats 8000000 in
set_option maxRecDepth 100000 in
theorem c_Model_chooses (l : Launch) (Z : ZT) (Q : Nat → Nat) (s : XS) {r : Int32} {s' : XS} (hf : p_Model_chooses s = some (r, s')) : KI l Z (wY Z Q) yX10_chooses wsX10_chooses { frames := 1, cells := 0, slots := 0, locals := 24 } [.ref (Q 0)] s r s' := by
  intro sz
  refine met_entry (cc := cX10_chooses) (maxL := 4) (ret := (some .boolean)) (by decide) rfl (Nat.le_of_ble_eq_true rfl) sz rfl ?_
  generalize va_A (wY Z Q s) sz = A
  intro p e s0 m args below meth c ls F hr hlk h hl
  have hl : lv_has ls 4 [(0, .ref (Q 0))] := hl
  obtain ⟨hx, hb, hml, hown, hts⟩ := id F
  have hinX10 : ∀ w ∈ wsX100, w ∈ wsX10_chooses := by decide +kernel
  obtain ⟨H, eH⟩ : ∃ z, z = s0.heap := ⟨_, rfl⟩
  obtain ⟨locs, eL⟩ : ∃ z : List Loc, z = [] := ⟨_, rfl⟩
  rw [← eH, ← eL] at h ⊢
  unfold p_Model_chooses at hf
  have lab25 : ∀ (n : Nat) (x1 : Int32) (s : XS) (H : Heap) (locs : List Loc) (ls : Array Slot), lo2 (p_Model_chooses_B25) n x1 s = some (r, s') → HW Z (wY Z Q) A s0 H locs s → lv_has ls 4 [(0, .ref (Q 0)), (1, .int x1)] → W p l e { frames := 1, cells := 0, slots := 0, locals := 24 } s0 m args below meth c H locs 0 0 (MQ below (QcI Z (wY Z Q) A r s') args s0 0 0 A) (F0 m 25 ls []) := by
    intro n
    induction n with
    | zero => intro x1 s H locs ls hf; exact absurd hf lo2_z
    | succ n ih25 =>
      intro x1 s H locs ls hf h hl
      have hf := lo2_s hf
      generalize lo2 (p_Model_chooses_B25) n = c25 at hf ih25
      unfold p_Model_chooses_B25 at hf
      have lab46 : ∀ (n : Nat) (x1 : Int32) (s : XS) (H : Heap) (locs : List Loc) (ls : Array Slot), lo2 (p_Model_chooses_B46) n x1 s = some (r, s') → HW Z (wY Z Q) A s0 H locs s → lv_has ls 4 [(0, .ref (Q 0)), (1, .int x1)] → W p l e { frames := 1, cells := 0, slots := 0, locals := 24 } s0 m args below meth c H locs 0 0 (MQ below (QcI Z (wY Z Q) A r s') args s0 0 0 A) (F0 m 46 ls []) := by
        intro n
        induction n with
        | zero => intro x1 s H locs ls hf; exact absurd hf lo2_z
        | succ n ih46 =>
          intro x1 s H locs ls hf h hl
          have hf := lo2_s hf
          generalize lo2 (p_Model_chooses_B46) n = c46 at hf ih46
          unfold p_Model_chooses_B46 at hf
          have lab254 : ∀ (s : XS) (H : Heap) (locs : List Loc) (ls : Array Slot), p_Model_chooses_K254 s = some (r, s') → HW Z (wY Z Q) A s0 H locs s → lv_has ls 4 [(0, .ref (Q 0))] → W p l e { frames := 1, cells := 0, slots := 0, locals := 24 } s0 m args below meth c H locs 0 0 (MQ below (QcI Z (wY Z Q) A r s') args s0 0 0 A) (F0 m 254 ls []) := by
            intro s H locs ls hf h hl
            unfold p_Model_chooses_K254 at hf
            refine lv_aload_n hx hb dX10_chooses_254 rfl (lv_at hl 0 rfl) ?_
            refine gY_Model_chosen F h hinX10 (hts (.fieldLink RX10 186 "ElectionHouseModel" "chosen" "I") (by decide +kernel)) dX10_chooses_255 ?_
            refine lv_aload_n hx hb dX10_chooses_258 rfl (lv_at hl 0 rfl) ?_
            refine gY_Model_many F h hinX10 (hts (.fieldLink RX10 33 "ElectionHouseModel" "many" "[I") (by decide +kernel)) dX10_chooses_259 ?_
            refine lv_aload_n hx hb dX10_chooses_262 rfl (lv_at hl 0 rfl) ?_
            refine gY_Model_done F h hinX10 (hts (.fieldLink RX10 105 "ElectionHouseModel" "done" "I") (by decide +kernel)) dX10_chooses_263 ?_
            obtain ⟨gi1, hf⟩ := og hf
            refine lY_mmany F h gi1 dX10_chooses_266 ?_
            refine lv_icmp_ne (tgt := 274) hx hb dX10_chooses_267 (by decide) (fun c_2 => ?_) (fun c_2 => ?_)
            · have hf := im c_2 hf
              refine lv_iconst (v := (0 : Int32)) hx hb dX10_chooses_274 (by decide) ?_
              exact retE_Z F hr hlk (by decide) h hf dX10_chooses_275
            · have hf := ip c_2 hf
              refine lv_iconst (v := (1 : Int32)) hx hb dX10_chooses_270 (by decide) ?_
              refine lv_goto (tgt := 275) hx hb dX10_chooses_271 (by decide) ?_
              exact retE_Z F hr hlk (by decide) h hf dX10_chooses_275
          have lab86 : ∀ (x1 : Int32) (s : XS) (n : Nat) (x2 : Int32) (x3 : Int32) (H : Heap) (locs : List Loc) (ls : Array Slot), lo2 (p_Model_chooses_B86 x1 s c46) n x2 x3 = some (r, s') → HW Z (wY Z Q) A s0 H locs s → lv_has ls 4 [(0, .ref (Q 0)), (1, .int x1), (2, .int x2), (3, .int x3)] → W p l e { frames := 1, cells := 0, slots := 0, locals := 24 } s0 m args below meth c H locs 0 0 (MQ below (QcI Z (wY Z Q) A r s') args s0 0 0 A) (F0 m 86 ls []) := by
            intro x1 s n
            induction n with
            | zero => intro x2 x3 H locs ls hf; exact absurd hf lo2_z
            | succ n ih86 =>
              intro x2 x3 H locs ls hf h hl
              have hf := lo2_s hf
              generalize lo2 (p_Model_chooses_B86 x1 s c46) n = c86 at hf ih86
              unfold p_Model_chooses_B86 at hf
              have lab176 : ∀ (x1 : Int32) (s : XS) (H : Heap) (locs : List Loc) (ls : Array Slot), p_Model_chooses_K176 c46 x1 s = some (r, s') → HW Z (wY Z Q) A s0 H locs s → lv_has ls 4 [(0, .ref (Q 0)), (1, .int x1)] → W p l e { frames := 1, cells := 0, slots := 0, locals := 24 } s0 m args below meth c H locs 0 0 (MQ below (QcI Z (wY Z Q) A r s') args s0 0 0 A) (F0 m 176 ls []) := by
                intro x1 s H locs ls hf h hl
                unfold p_Model_chooses_K176 at hf
                refine lv_aload_n hx hb dX10_chooses_176 rfl (lv_at hl 0 rfl) ?_
                refine lv_dup hx hb dX10_chooses_177 rfl ?_
                refine gY_Model_asked F h hinX10 (hts (.fieldLink RX10 183 "ElectionHouseModel" "asked" "I") (by decide +kernel)) dX10_chooses_178 ?_
                refine lv_iconst (v := (1 : Int32)) hx hb dX10_chooses_181 (by decide) ?_
                refine lv_iadd hx hb dX10_chooses_182 ?_
                refine pY_Model_asked F h hinX10 (hts (.fieldLink RX10 183 "ElectionHouseModel" "asked" "I") (by decide +kernel)) dX10_chooses_183 (fun H locs h => ?_)
                obtain ⟨s3, es, hf⟩ := olq hf
                rw [← es] at h
                refine lv_aload_n hx hb dX10_chooses_186 rfl (lv_at hl 0 rfl) ?_
                refine gY_Model_ballot F h hinX10 (hts (.fieldLink RX10 73 "ElectionHouseModel" "ballot" "[I") (by decide +kernel)) dX10_chooses_187 ?_
                refine lv_iload_n hx hb dX10_chooses_190 rfl (lv_at hl 1 rfl) ?_
                refine lv_aload_n hx hb dX10_chooses_191 rfl (lv_at hl 0 rfl) ?_
                refine lv_iload_n hx hb dX10_chooses_192 rfl (lv_at hl 1 rfl) ?_
                obtain ⟨r5, hc4, hf⟩ := ob1 hf
                refine call_VI F (c_Model_votesFor l Z Q s3 x1 hc4) (cwV 1 hts gX10_chooses_X10_votesFor rfl rfl rfl (by decide +kernel) ⟨Nat.le_of_ble_eq_true rfl, Nat.le_of_ble_eq_true rfl⟩) h (rcY_Model h) rfl hl.1 rfl (Nat.le_of_ble_eq_true rfl) ⟨Nat.zero_le _, Nat.zero_le _⟩ dX10_chooses_193 (fun H locs h => ?_)
                obtain ⟨gi7, hf⟩ := og hf
                refine sY_mballot F h gi7 dX10_chooses_196 (fun H locs h => ?_)
                obtain ⟨s8, es, hf⟩ := olq hf
                rw [← es] at h
                refine lv_aload_n hx hb dX10_chooses_197 rfl (lv_at hl 0 rfl) ?_
                refine gY_Model_ballot F h hinX10 (hts (.fieldLink RX10 73 "ElectionHouseModel" "ballot" "[I") (by decide +kernel)) dX10_chooses_198 ?_
                refine lv_iload_n hx hb dX10_chooses_201 rfl (lv_at hl 1 rfl) ?_
                obtain ⟨gi9, hf⟩ := og hf
                refine lY_mballot F h gi9 dX10_chooses_202 ?_
                refine lv_aload_n hx hb dX10_chooses_203 rfl (lv_at hl 0 rfl) ?_
                refine gY_Model_votes F h hinX10 (hts (.fieldLink RX10 36 "ElectionHouseModel" "votes" "[I") (by decide +kernel)) dX10_chooses_204 ?_
                refine lv_aload_n hx hb dX10_chooses_207 rfl (lv_at hl 0 rfl) ?_
                refine gY_Model_done F h hinX10 (hts (.fieldLink RX10 105 "ElectionHouseModel" "done" "I") (by decide +kernel)) dX10_chooses_208 ?_
                obtain ⟨gi10, hf⟩ := og hf
                refine lY_mvotes F h gi10 dX10_chooses_211 ?_
                refine lv_icmp_ge (tgt := 218) hx hb dX10_chooses_212 (by decide) (fun c_11 => ?_) (fun c_11 => ?_)
                · have hf := ip c_11 hf
                  refine lv_aload_n hx hb dX10_chooses_218 rfl (lv_at hl 0 rfl) ?_
                  refine gY_Model_bodies F h hinX10 (hts (.fieldLink RX10 57 "ElectionHouseModel" "bodies" "[I") (by decide +kernel)) dX10_chooses_219 ?_
                  refine lv_bipush (v := (40 : Int32)) hx hb dX10_chooses_222 (by decide) ?_
                  refine lv_aload_n hx hb dX10_chooses_224 rfl (lv_at hl 0 rfl) ?_
                  refine gY_Model_done F h hinX10 (hts (.fieldLink RX10 105 "ElectionHouseModel" "done" "I") (by decide +kernel)) dX10_chooses_225 ?_
                  refine lv_iconst (v := (1 : Int32)) hx hb dX10_chooses_228 (by decide) ?_
                  refine lv_iadd hx hb dX10_chooses_229 ?_
                  refine lv_imul hx hb dX10_chooses_230 ?_
                  refine lv_aload_n hx hb dX10_chooses_231 rfl (lv_at hl 0 rfl) ?_
                  refine gY_Model_chosen F h hinX10 (hts (.fieldLink RX10 186 "ElectionHouseModel" "chosen" "I") (by decide +kernel)) dX10_chooses_232 ?_
                  refine lv_iadd hx hb dX10_chooses_235 ?_
                  refine lv_iload_n hx hb dX10_chooses_236 rfl (lv_at hl 1 rfl) ?_
                  obtain ⟨gi12, hf⟩ := og hf
                  refine sY_mbodies F h gi12 dX10_chooses_237 (fun H locs h => ?_)
                  obtain ⟨s13, es, hf⟩ := olq hf
                  rw [← es] at h
                  refine lv_aload_n hx hb dX10_chooses_238 rfl (lv_at hl 0 rfl) ?_
                  refine lv_dup hx hb dX10_chooses_239 rfl ?_
                  refine gY_Model_chosen F h hinX10 (hts (.fieldLink RX10 186 "ElectionHouseModel" "chosen" "I") (by decide +kernel)) dX10_chooses_240 ?_
                  refine lv_iconst (v := (1 : Int32)) hx hb dX10_chooses_243 (by decide) ?_
                  refine lv_iadd hx hb dX10_chooses_244 ?_
                  refine pY_Model_chosen F h hinX10 (hts (.fieldLink RX10 186 "ElectionHouseModel" "chosen" "I") (by decide +kernel)) dX10_chooses_245 (fun H locs h => ?_)
                  obtain ⟨s14, es, hf⟩ := olq hf
                  rw [← es] at h
                  refine lv_iinc (v := (x1 + (1 : Int32))) (lv' := [(1, .int (x1 + (1 : Int32))), (0, .ref (Q 0))]) hx hb dX10_chooses_248 hl (k := 1) rfl (congrArg (fun z => x1 + z) (by decide : Int32.ofInt (1) = (1 : Int32))) (by decide) rfl (fun ls hl => ?_)
                  have hl := lv_sub (l' := [(0, .ref (Q 0)), (1, .int (x1 + (1 : Int32)))]) hl [1, 0] rfl
                  refine lv_goto (tgt := 46) hx hb dX10_chooses_251 (by decide) ?_
                  exact ih46 (x1 + (1 : Int32)) s14 H locs ls hf h (lv_sub hl [0, 1] rfl)
                · have hf := im c_11 hf
                  refine lv_goto (tgt := 248) hx hb dX10_chooses_215 (by decide) ?_
                  refine lv_iinc (v := (x1 + (1 : Int32))) (lv' := [(1, .int (x1 + (1 : Int32))), (0, .ref (Q 0))]) hx hb dX10_chooses_248 hl (k := 1) rfl (congrArg (fun z => x1 + z) (by decide : Int32.ofInt (1) = (1 : Int32))) (by decide) rfl (fun ls hl => ?_)
                  have hl := lv_sub (l' := [(0, .ref (Q 0)), (1, .int (x1 + (1 : Int32)))]) hl [1, 0] rfl
                  refine lv_goto (tgt := 46) hx hb dX10_chooses_251 (by decide) ?_
                  exact ih46 (x1 + (1 : Int32)) s8 H locs ls hf h (lv_sub hl [0, 1] rfl)
              refine lv_iload_n hx hb dX10_chooses_86 rfl (lv_at hl 3 rfl) ?_
              refine lv_aload_n hx hb dX10_chooses_87 rfl (lv_at hl 0 rfl) ?_
              refine gY_Model_chosen F h hinX10 (hts (.fieldLink RX10 186 "ElectionHouseModel" "chosen" "I") (by decide +kernel)) dX10_chooses_88 ?_
              refine lv_icmp_ge (tgt := 138) hx hb dX10_chooses_91 (by decide) (fun c_15 => ?_) (fun c_15 => ?_)
              · have hf := ip c_15 hf
                refine lv_aload_n hx hb dX10_chooses_138 rfl (lv_at hl 0 rfl) ?_
                refine gY_Model_most F h hinX10 (hts (.fieldLink RX10 39 "ElectionHouseModel" "most" "[I") (by decide +kernel)) dX10_chooses_139 ?_
                refine lv_aload_n hx hb dX10_chooses_142 rfl (lv_at hl 0 rfl) ?_
                refine gY_Model_done F h hinX10 (hts (.fieldLink RX10 105 "ElectionHouseModel" "done" "I") (by decide +kernel)) dX10_chooses_143 ?_
                obtain ⟨gi16, hf⟩ := og hf
                refine lY_mmost F h gi16 dX10_chooses_146 ?_
                refine lv_if_le (tgt := 176) hx hb dX10_chooses_147 (by decide) (fun c_17 => ?_) (fun c_17 => ?_)
                · have hf := ip c_17 hf
                  exact lab176 x1 s H locs ls hf h (lv_sub hl [0, 1] rfl)
                · have hf := im c_17 hf
                  refine lv_iload_n hx hb dX10_chooses_150 rfl (lv_at hl 2 rfl) ?_
                  refine lv_aload_n hx hb dX10_chooses_151 rfl (lv_at hl 0 rfl) ?_
                  refine gY_Model_most F h hinX10 (hts (.fieldLink RX10 39 "ElectionHouseModel" "most" "[I") (by decide +kernel)) dX10_chooses_152 ?_
                  refine lv_aload_n hx hb dX10_chooses_155 rfl (lv_at hl 0 rfl) ?_
                  refine gY_Model_done F h hinX10 (hts (.fieldLink RX10 105 "ElectionHouseModel" "done" "I") (by decide +kernel)) dX10_chooses_156 ?_
                  obtain ⟨gi18, hf⟩ := og hf
                  refine lY_mmost F h gi18 dX10_chooses_159 ?_
                  refine lv_icmp_lt (tgt := 176) hx hb dX10_chooses_160 (by decide) (fun c_19 => ?_) (fun c_19 => ?_)
                  · have hf := ip c_19 hf
                    exact lab176 x1 s H locs ls hf h (lv_sub hl [0, 1] rfl)
                  · have hf := im c_19 hf
                    refine lv_aload_n hx hb dX10_chooses_163 rfl (lv_at hl 0 rfl) ?_
                    refine lv_dup hx hb dX10_chooses_164 rfl ?_
                    refine gY_Model_barred F h hinX10 (hts (.fieldLink RX10 180 "ElectionHouseModel" "barred" "I") (by decide +kernel)) dX10_chooses_165 ?_
                    refine lv_iconst (v := (1 : Int32)) hx hb dX10_chooses_168 (by decide) ?_
                    refine lv_iadd hx hb dX10_chooses_169 ?_
                    refine pY_Model_barred F h hinX10 (hts (.fieldLink RX10 180 "ElectionHouseModel" "barred" "I") (by decide +kernel)) dX10_chooses_170 (fun H locs h => ?_)
                    obtain ⟨s20, es, hf⟩ := olq hf
                    rw [← es] at h
                    refine lv_goto (tgt := 248) hx hb dX10_chooses_173 (by decide) ?_
                    refine lv_iinc (v := (x1 + (1 : Int32))) (lv' := [(1, .int (x1 + (1 : Int32))), (0, .ref (Q 0)), (2, .int x2), (3, .int x3)]) hx hb dX10_chooses_248 hl (k := 1) rfl (congrArg (fun z => x1 + z) (by decide : Int32.ofInt (1) = (1 : Int32))) (by decide) rfl (fun ls hl => ?_)
                    have hl := lv_sub (l' := [(0, .ref (Q 0)), (1, .int (x1 + (1 : Int32))), (2, .int x2), (3, .int x3)]) hl [1, 0, 2, 3] rfl
                    refine lv_goto (tgt := 46) hx hb dX10_chooses_251 (by decide) ?_
                    exact ih46 (x1 + (1 : Int32)) s20 H locs ls hf h (lv_sub hl [0, 1] rfl)
              · have hf := im c_15 hf
                refine lv_iload_n hx hb dX10_chooses_94 rfl (lv_at hl 2 rfl) ?_
                refine lv_aload_n hx hb dX10_chooses_95 rfl (lv_at hl 0 rfl) ?_
                refine gY_Model_house F h hinX10 (hts (.fieldLink RX10 7 "ElectionHouseModel" "house" "[I") (by decide +kernel)) dX10_chooses_96 ?_
                refine lv_aload_n hx hb dX10_chooses_99 rfl (lv_at hl 0 rfl) ?_
                refine gY_Model_bodies F h hinX10 (hts (.fieldLink RX10 57 "ElectionHouseModel" "bodies" "[I") (by decide +kernel)) dX10_chooses_100 ?_
                refine lv_bipush (v := (40 : Int32)) hx hb dX10_chooses_103 (by decide) ?_
                refine lv_aload_n hx hb dX10_chooses_105 rfl (lv_at hl 0 rfl) ?_
                refine gY_Model_done F h hinX10 (hts (.fieldLink RX10 105 "ElectionHouseModel" "done" "I") (by decide +kernel)) dX10_chooses_106 ?_
                refine lv_iconst (v := (1 : Int32)) hx hb dX10_chooses_109 (by decide) ?_
                refine lv_iadd hx hb dX10_chooses_110 ?_
                refine lv_imul hx hb dX10_chooses_111 ?_
                refine lv_iload_n hx hb dX10_chooses_112 rfl (lv_at hl 3 rfl) ?_
                refine lv_iadd hx hb dX10_chooses_113 ?_
                obtain ⟨gi21, hf⟩ := og hf
                refine lY_mbodies F h gi21 dX10_chooses_114 ?_
                obtain ⟨gi22, hf⟩ := og hf
                refine lY_mhouse F h gi22 dX10_chooses_115 ?_
                refine lv_aload_n hx hb dX10_chooses_116 rfl (lv_at hl 0 rfl) ?_
                refine gY_Model_house F h hinX10 (hts (.fieldLink RX10 7 "ElectionHouseModel" "house" "[I") (by decide +kernel)) dX10_chooses_117 ?_
                refine lv_iload_n hx hb dX10_chooses_120 rfl (lv_at hl 1 rfl) ?_
                obtain ⟨gi23, hf⟩ := og hf
                refine lY_mhouse F h gi23 dX10_chooses_121 ?_
                refine lv_icmp_ne (tgt := 129) hx hb dX10_chooses_122 (by decide) (fun c_24 => ?_) (fun c_24 => ?_)
                · have hf := im c_24 hf
                  refine lv_iconst (v := (0 : Int32)) hx hb dX10_chooses_129 (by decide) ?_
                  refine lv_iadd hx hb dX10_chooses_130 ?_
                  refine lv_istore_n (lv' := [(2, .int (x2 + (0 : Int32))), (0, .ref (Q 0)), (1, .int x1), (3, .int x3)]) hx hb dX10_chooses_131 rfl hl (by decide) rfl (fun ls hl => ?_)
                  have hl := lv_sub (l' := [(0, .ref (Q 0)), (1, .int x1), (2, .int (x2 + (0 : Int32))), (3, .int x3)]) hl [1, 2, 0, 3] rfl
                  refine lv_iinc (v := (x3 + (1 : Int32))) (lv' := [(3, .int (x3 + (1 : Int32))), (0, .ref (Q 0)), (1, .int x1), (2, .int (x2 + (0 : Int32)))]) hx hb dX10_chooses_132 hl (k := 3) rfl (congrArg (fun z => x3 + z) (by decide : Int32.ofInt (1) = (1 : Int32))) (by decide) rfl (fun ls hl => ?_)
                  have hl := lv_sub (l' := [(0, .ref (Q 0)), (1, .int x1), (2, .int (x2 + (0 : Int32))), (3, .int (x3 + (1 : Int32)))]) hl [1, 2, 3, 0] rfl
                  refine lv_goto (tgt := 86) hx hb dX10_chooses_135 (by decide) ?_
                  exact ih86 (x2 + (0 : Int32)) (x3 + (1 : Int32)) H locs ls hf h (lv_sub hl [0, 1, 2, 3] rfl)
                · have hf := ip c_24 hf
                  refine lv_iconst (v := (1 : Int32)) hx hb dX10_chooses_125 (by decide) ?_
                  refine lv_goto (tgt := 130) hx hb dX10_chooses_126 (by decide) ?_
                  refine lv_iadd hx hb dX10_chooses_130 ?_
                  refine lv_istore_n (lv' := [(2, .int (x2 + (1 : Int32))), (0, .ref (Q 0)), (1, .int x1), (3, .int x3)]) hx hb dX10_chooses_131 rfl hl (by decide) rfl (fun ls hl => ?_)
                  have hl := lv_sub (l' := [(0, .ref (Q 0)), (1, .int x1), (2, .int (x2 + (1 : Int32))), (3, .int x3)]) hl [1, 2, 0, 3] rfl
                  refine lv_iinc (v := (x3 + (1 : Int32))) (lv' := [(3, .int (x3 + (1 : Int32))), (0, .ref (Q 0)), (1, .int x1), (2, .int (x2 + (1 : Int32)))]) hx hb dX10_chooses_132 hl (k := 3) rfl (congrArg (fun z => x3 + z) (by decide : Int32.ofInt (1) = (1 : Int32))) (by decide) rfl (fun ls hl => ?_)
                  have hl := lv_sub (l' := [(0, .ref (Q 0)), (1, .int x1), (2, .int (x2 + (1 : Int32))), (3, .int (x3 + (1 : Int32)))]) hl [1, 2, 3, 0] rfl
                  refine lv_goto (tgt := 86) hx hb dX10_chooses_135 (by decide) ?_
                  exact ih86 (x2 + (1 : Int32)) (x3 + (1 : Int32)) H locs ls hf h (lv_sub hl [0, 1, 2, 3] rfl)
          refine lv_iload_n hx hb dX10_chooses_46 rfl (lv_at hl 1 rfl) ?_
          refine lv_aload_n hx hb dX10_chooses_47 rfl (lv_at hl 0 rfl) ?_
          refine gY_Model_citizens F h hinX10 (hts (.fieldLink RX10 98 "ElectionHouseModel" "citizens" "I") (by decide +kernel)) dX10_chooses_48 ?_
          refine lv_icmp_ge (tgt := 254) hx hb dX10_chooses_51 (by decide) (fun c_25 => ?_) (fun c_25 => ?_)
          · have hf := ip c_25 hf
            exact lab254 s H locs ls hf h (lv_sub hl [0] rfl)
          · have hf := im c_25 hf
            refine lv_aload_n hx hb dX10_chooses_54 rfl (lv_at hl 0 rfl) ?_
            refine gY_Model_chosen F h hinX10 (hts (.fieldLink RX10 186 "ElectionHouseModel" "chosen" "I") (by decide +kernel)) dX10_chooses_55 ?_
            refine lv_aload_n hx hb dX10_chooses_58 rfl (lv_at hl 0 rfl) ?_
            refine gY_Model_many F h hinX10 (hts (.fieldLink RX10 33 "ElectionHouseModel" "many" "[I") (by decide +kernel)) dX10_chooses_59 ?_
            refine lv_aload_n hx hb dX10_chooses_62 rfl (lv_at hl 0 rfl) ?_
            refine gY_Model_done F h hinX10 (hts (.fieldLink RX10 105 "ElectionHouseModel" "done" "I") (by decide +kernel)) dX10_chooses_63 ?_
            obtain ⟨gi26, hf⟩ := og hf
            refine lY_mmany F h gi26 dX10_chooses_66 ?_
            refine lv_icmp_ge (tgt := 254) hx hb dX10_chooses_67 (by decide) (fun c_27 => ?_) (fun c_27 => ?_)
            · have hf := ip c_27 hf
              exact lab254 s H locs ls hf h (lv_sub hl [0] rfl)
            · have hf := im c_27 hf
              refine lv_aload_n hx hb dX10_chooses_70 rfl (lv_at hl 0 rfl) ?_
              refine gY_Model_isThere F h hinX10 (hts (.fieldLink RX10 16 "ElectionHouseModel" "isThere" "[Z") (by decide +kernel)) dX10_chooses_71 ?_
              refine lv_iload_n hx hb dX10_chooses_74 rfl (lv_at hl 1 rfl) ?_
              obtain ⟨gi28, hf⟩ := og hf
              refine lY_misThere F h gi28 dX10_chooses_75 ?_
              refine lv_if_ne (tgt := 82) hx hb dX10_chooses_76 (by decide) (fun c_29 => ?_) (fun c_29 => ?_)
              · have hf := im c_29 hf
                refine lv_iconst (v := (0 : Int32)) hx hb dX10_chooses_82 (by decide) ?_
                refine lv_istore_n (lv' := [(2, .int (0 : Int32)), (0, .ref (Q 0)), (1, .int x1)]) hx hb dX10_chooses_83 rfl hl (by decide) rfl (fun ls hl => ?_)
                have hl := lv_sub (l' := [(0, .ref (Q 0)), (1, .int x1), (2, .int (0 : Int32))]) hl [1, 2, 0] rfl
                refine lv_iconst (v := (0 : Int32)) hx hb dX10_chooses_84 (by decide) ?_
                refine lv_istore_n (lv' := [(3, .int (0 : Int32)), (0, .ref (Q 0)), (1, .int x1), (2, .int (0 : Int32))]) hx hb dX10_chooses_85 rfl hl (by decide) rfl (fun ls hl => ?_)
                have hl := lv_sub (l' := [(0, .ref (Q 0)), (1, .int x1), (2, .int (0 : Int32)), (3, .int (0 : Int32))]) hl [1, 2, 3, 0] rfl
                exact lab86 x1 s fuelN (0 : Int32) (0 : Int32) H locs ls hf h (lv_sub hl [0, 1, 2, 3] rfl)
              · have hf := ip c_29 hf
                refine lv_goto (tgt := 248) hx hb dX10_chooses_79 (by decide) ?_
                refine lv_iinc (v := (x1 + (1 : Int32))) (lv' := [(1, .int (x1 + (1 : Int32))), (0, .ref (Q 0))]) hx hb dX10_chooses_248 hl (k := 1) rfl (congrArg (fun z => x1 + z) (by decide : Int32.ofInt (1) = (1 : Int32))) (by decide) rfl (fun ls hl => ?_)
                have hl := lv_sub (l' := [(0, .ref (Q 0)), (1, .int (x1 + (1 : Int32)))]) hl [1, 0] rfl
                refine lv_goto (tgt := 46) hx hb dX10_chooses_251 (by decide) ?_
                exact ih46 (x1 + (1 : Int32)) s H locs ls hf h (lv_sub hl [0, 1] rfl)
      refine lv_iload_n hx hb dX10_chooses_25 rfl (lv_at hl 1 rfl) ?_
      refine lv_bipush (v := (40 : Int32)) hx hb dX10_chooses_26 (by decide) ?_
      refine lv_icmp_ge (tgt := 44) hx hb dX10_chooses_28 (by decide) (fun c_30 => ?_) (fun c_30 => ?_)
      · have hf := ip c_30 hf
        refine lv_iconst (v := (0 : Int32)) hx hb dX10_chooses_44 (by decide) ?_
        refine lv_istore_n (lv' := [(1, .int (0 : Int32)), (0, .ref (Q 0))]) hx hb dX10_chooses_45 rfl hl (by decide) rfl (fun ls hl => ?_)
        have hl := lv_sub (l' := [(0, .ref (Q 0)), (1, .int (0 : Int32))]) hl [1, 0] rfl
        exact lab46 fuelN (0 : Int32) s H locs ls hf h (lv_sub hl [0, 1] rfl)
      · have hf := im c_30 hf
        refine lv_aload_n hx hb dX10_chooses_31 rfl (lv_at hl 0 rfl) ?_
        refine gY_Model_ballot F h hinX10 (hts (.fieldLink RX10 73 "ElectionHouseModel" "ballot" "[I") (by decide +kernel)) dX10_chooses_32 ?_
        refine lv_iload_n hx hb dX10_chooses_35 rfl (lv_at hl 1 rfl) ?_
        refine lv_iconst (v := (-1 : Int32)) hx hb dX10_chooses_36 (by decide) ?_
        obtain ⟨gi31, hf⟩ := og hf
        refine sY_mballot F h gi31 dX10_chooses_37 (fun H locs h => ?_)
        obtain ⟨s32, es, hf⟩ := olq hf
        rw [← es] at h
        refine lv_iinc (v := (x1 + (1 : Int32))) (lv' := [(1, .int (x1 + (1 : Int32))), (0, .ref (Q 0))]) hx hb dX10_chooses_38 hl (k := 1) rfl (congrArg (fun z => x1 + z) (by decide : Int32.ofInt (1) = (1 : Int32))) (by decide) rfl (fun ls hl => ?_)
        have hl := lv_sub (l' := [(0, .ref (Q 0)), (1, .int (x1 + (1 : Int32)))]) hl [1, 0] rfl
        refine lv_goto (tgt := 25) hx hb dX10_chooses_41 (by decide) ?_
        exact ih25 (x1 + (1 : Int32)) s32 H locs ls hf h (lv_sub hl [0, 1] rfl)
  refine lv_aload_n hx hb dX10_chooses_0 rfl (lv_at hl 0 rfl) ?_
  refine lv_aload_n hx hb dX10_chooses_1 rfl (lv_at hl 0 rfl) ?_
  refine gY_Model_done F h hinX10 (hts (.fieldLink RX10 105 "ElectionHouseModel" "done" "I") (by decide +kernel)) dX10_chooses_2 ?_
  refine pY_Model_balloted F h hinX10 (hts (.fieldLink RX10 70 "ElectionHouseModel" "balloted" "I") (by decide +kernel)) dX10_chooses_5 (fun H locs h => ?_)
  obtain ⟨s33, es, hf⟩ := olq hf
  rw [← es] at h
  refine lv_aload_n hx hb dX10_chooses_8 rfl (lv_at hl 0 rfl) ?_
  refine lv_iconst (v := (0 : Int32)) hx hb dX10_chooses_9 (by decide) ?_
  refine pY_Model_barred F h hinX10 (hts (.fieldLink RX10 180 "ElectionHouseModel" "barred" "I") (by decide +kernel)) dX10_chooses_10 (fun H locs h => ?_)
  obtain ⟨s34, es, hf⟩ := olq hf
  rw [← es] at h
  refine lv_aload_n hx hb dX10_chooses_13 rfl (lv_at hl 0 rfl) ?_
  refine lv_iconst (v := (0 : Int32)) hx hb dX10_chooses_14 (by decide) ?_
  refine pY_Model_asked F h hinX10 (hts (.fieldLink RX10 183 "ElectionHouseModel" "asked" "I") (by decide +kernel)) dX10_chooses_15 (fun H locs h => ?_)
  obtain ⟨s35, es, hf⟩ := olq hf
  rw [← es] at h
  refine lv_aload_n hx hb dX10_chooses_18 rfl (lv_at hl 0 rfl) ?_
  refine lv_iconst (v := (0 : Int32)) hx hb dX10_chooses_19 (by decide) ?_
  refine pY_Model_chosen F h hinX10 (hts (.fieldLink RX10 186 "ElectionHouseModel" "chosen" "I") (by decide +kernel)) dX10_chooses_20 (fun H locs h => ?_)
  obtain ⟨s36, es, hf⟩ := olq hf
  rw [← es] at h
  refine lv_iconst (v := (0 : Int32)) hx hb dX10_chooses_23 (by decide) ?_
  refine lv_istore_n (lv' := [(1, .int (0 : Int32)), (0, .ref (Q 0))]) hx hb dX10_chooses_24 rfl hl (by decide) rfl (fun ls hl => ?_)
  have hl := lv_sub (l' := [(0, .ref (Q 0)), (1, .int (0 : Int32))]) hl [1, 0] rfl
  exact lab25 fuelN (0 : Int32) s36 H locs ls hf h (lv_sub hl [0, 1] rfl)

set_option maxHeartbeats 8000000 in
set_option maxRecDepth 100000 in
theorem c_Model_step (l : Launch) (Z : ZT) (Q : Nat → Nat) (s : XS) {r : Int32} {s' : XS} (hf : p_Model_step s = some (r, s')) : KI l Z (wY Z Q) yX10_step wsX10_step { frames := 2, cells := 0, slots := 0, locals := 47 } [.ref (Q 0)] s r s' := by
  intro sz
  refine met_entry (cc := cX10_step) (maxL := 1) (ret := (some .int)) (by decide) rfl (Nat.le_of_ble_eq_true rfl) sz rfl ?_
  generalize va_A (wY Z Q s) sz = A
  intro p e s0 m args below meth c ls F hr hlk h hl
  have hl : lv_has ls 1 [(0, .ref (Q 0))] := hl
  obtain ⟨hx, hb, hml, hown, hts⟩ := id F
  have hinX10 : ∀ w ∈ wsX100, w ∈ wsX10_step := by decide +kernel
  obtain ⟨H, eH⟩ : ∃ z, z = s0.heap := ⟨_, rfl⟩
  obtain ⟨locs, eL⟩ : ∃ z : List Loc, z = [] := ⟨_, rfl⟩
  rw [← eH, ← eL] at h ⊢
  unfold p_Model_step at hf
  refine lv_aload_n hx hb dX10_step_0 rfl (lv_at hl 0 rfl) ?_
  refine gY_Model_steps F h hinX10 (hts (.fieldLink RX10 171 "ElectionHouseModel" "steps" "I") (by decide +kernel)) dX10_step_1 ?_
  refine lv_if_eq (tgt := 18) hx hb dX10_step_4 (by decide) (fun c_1 => ?_) (fun c_1 => ?_)
  · have hf := ip c_1 hf
    refine lv_iconst (v := (3 : Int32)) hx hb dX10_step_18 (by decide) ?_
    exact retE_I F hr hlk h hf dX10_step_19
  · have hf := im c_1 hf
    refine lv_aload_n hx hb dX10_step_7 rfl (lv_at hl 0 rfl) ?_
    refine gY_Model_done F h hinX10 (hts (.fieldLink RX10 105 "ElectionHouseModel" "done" "I") (by decide +kernel)) dX10_step_8 ?_
    refine lv_aload_n hx hb dX10_step_11 rfl (lv_at hl 0 rfl) ?_
    refine gY_Model_steps F h hinX10 (hts (.fieldLink RX10 171 "ElectionHouseModel" "steps" "I") (by decide +kernel)) dX10_step_12 ?_
    refine lv_icmp_ne (tgt := 20) hx hb dX10_step_15 (by decide) (fun c_2 => ?_) (fun c_2 => ?_)
    · have hf := im c_2 hf
      refine lv_aload_n hx hb dX10_step_20 rfl (lv_at hl 0 rfl) ?_
      refine gY_Model_kind F h hinX10 (hts (.fieldLink RX10 30 "ElectionHouseModel" "kind" "[I") (by decide +kernel)) dX10_step_21 ?_
      refine lv_aload_n hx hb dX10_step_24 rfl (lv_at hl 0 rfl) ?_
      refine gY_Model_done F h hinX10 (hts (.fieldLink RX10 105 "ElectionHouseModel" "done" "I") (by decide +kernel)) dX10_step_25 ?_
      obtain ⟨gi3, hf⟩ := og hf
      refine lY_mkind F h gi3 dX10_step_28 ?_
      refine lv_if_ne (tgt := 65) hx hb dX10_step_29 (by decide) (fun c_4 => ?_) (fun c_4 => ?_)
      · have hf := im c_4 hf
        refine lv_aload_n hx hb dX10_step_65 rfl (lv_at hl 0 rfl) ?_
        obtain ⟨r6, s7, hc5, hf⟩ := ob2 hf
        refine call_VI F (c_Model_chooses l Z Q s hc5) (cwV 0 hts gX10_step_X10_chooses rfl rfl rfl (by decide +kernel) ⟨Nat.le_of_ble_eq_true rfl, Nat.le_of_ble_eq_true rfl⟩) h (rcY_Model h) rfl hl.1 rfl (Nat.le_of_ble_eq_true rfl) ⟨Nat.zero_le _, Nat.zero_le _⟩ dX10_step_66 (fun H locs h => ?_)
        refine lv_if_ne (tgt := 74) hx hb dX10_step_69 (by decide) (fun c_8 => ?_) (fun c_8 => ?_)
        · have hf := im c_8 hf
          refine lv_aload_n hx hb dX10_step_74 rfl (lv_at hl 0 rfl) ?_
          refine gY_Model_bodyMany F h hinX10 (hts (.fieldLink RX10 54 "ElectionHouseModel" "bodyMany" "[I") (by decide +kernel)) dX10_step_75 ?_
          refine lv_aload_n hx hb dX10_step_78 rfl (lv_at hl 0 rfl) ?_
          refine gY_Model_done F h hinX10 (hts (.fieldLink RX10 105 "ElectionHouseModel" "done" "I") (by decide +kernel)) dX10_step_79 ?_
          refine lv_iconst (v := (1 : Int32)) hx hb dX10_step_82 (by decide) ?_
          refine lv_iadd hx hb dX10_step_83 ?_
          refine lv_aload_n hx hb dX10_step_84 rfl (lv_at hl 0 rfl) ?_
          refine gY_Model_chosen F h hinX10 (hts (.fieldLink RX10 186 "ElectionHouseModel" "chosen" "I") (by decide +kernel)) dX10_step_85 ?_
          obtain ⟨gi9, hf⟩ := og hf
          refine sY_mbodyMany F h gi9 dX10_step_88 (fun H locs h => ?_)
          obtain ⟨s10, es, hf⟩ := olq hf
          rw [← es] at h
          refine lv_aload_n hx hb dX10_step_89 rfl (lv_at hl 0 rfl) ?_
          refine gY_Model_kind F h hinX10 (hts (.fieldLink RX10 30 "ElectionHouseModel" "kind" "[I") (by decide +kernel)) dX10_step_90 ?_
          refine lv_aload_n hx hb dX10_step_93 rfl (lv_at hl 0 rfl) ?_
          refine gY_Model_done F h hinX10 (hts (.fieldLink RX10 105 "ElectionHouseModel" "done" "I") (by decide +kernel)) dX10_step_94 ?_
          obtain ⟨gi11, hf⟩ := og hf
          refine lY_mkind F h gi11 dX10_step_97 ?_
          refine lv_iconst (v := (2 : Int32)) hx hb dX10_step_98 (by decide) ?_
          refine lv_icmp_ne (tgt := 120) hx hb dX10_step_99 (by decide) (fun c_12 => ?_) (fun c_12 => ?_)
          · have hf := im c_12 hf
            refine lv_aload_n hx hb dX10_step_120 rfl (lv_at hl 0 rfl) ?_
            refine lv_dup hx hb dX10_step_121 rfl ?_
            refine gY_Model_done F h hinX10 (hts (.fieldLink RX10 105 "ElectionHouseModel" "done" "I") (by decide +kernel)) dX10_step_122 ?_
            refine lv_iconst (v := (1 : Int32)) hx hb dX10_step_125 (by decide) ?_
            refine lv_iadd hx hb dX10_step_126 ?_
            refine pY_Model_done F h hinX10 (hts (.fieldLink RX10 105 "ElectionHouseModel" "done" "I") (by decide +kernel)) dX10_step_127 (fun H locs h => ?_)
            obtain ⟨s13, es, hf⟩ := olq hf
            rw [← es] at h
            refine lv_iconst (v := (0 : Int32)) hx hb dX10_step_130 (by decide) ?_
            exact retE_I F hr hlk h hf dX10_step_131
          · have hf := ip c_12 hf
            refine lv_aload_n hx hb dX10_step_102 rfl (lv_at hl 0 rfl) ?_
            refine lv_aload_n hx hb dX10_step_103 rfl (lv_at hl 0 rfl) ?_
            refine gY_Model_bodies F h hinX10 (hts (.fieldLink RX10 57 "ElectionHouseModel" "bodies" "[I") (by decide +kernel)) dX10_step_104 ?_
            refine lv_bipush (v := (40 : Int32)) hx hb dX10_step_107 (by decide) ?_
            refine lv_aload_n hx hb dX10_step_109 rfl (lv_at hl 0 rfl) ?_
            refine gY_Model_done F h hinX10 (hts (.fieldLink RX10 105 "ElectionHouseModel" "done" "I") (by decide +kernel)) dX10_step_110 ?_
            refine lv_iconst (v := (1 : Int32)) hx hb dX10_step_113 (by decide) ?_
            refine lv_iadd hx hb dX10_step_114 ?_
            refine lv_imul hx hb dX10_step_115 ?_
            obtain ⟨gi14, hf⟩ := og hf
            refine lY_mbodies F h gi14 dX10_step_116 ?_
            refine pY_Model_elected F h hinX10 (hts (.fieldLink RX10 60 "ElectionHouseModel" "elected" "I") (by decide +kernel)) dX10_step_117 (fun H locs h => ?_)
            obtain ⟨s15, es, hf⟩ := olq hf
            rw [← es] at h
            refine lv_aload_n hx hb dX10_step_120 rfl (lv_at hl 0 rfl) ?_
            refine lv_dup hx hb dX10_step_121 rfl ?_
            refine gY_Model_done F h hinX10 (hts (.fieldLink RX10 105 "ElectionHouseModel" "done" "I") (by decide +kernel)) dX10_step_122 ?_
            refine lv_iconst (v := (1 : Int32)) hx hb dX10_step_125 (by decide) ?_
            refine lv_iadd hx hb dX10_step_126 ?_
            refine pY_Model_done F h hinX10 (hts (.fieldLink RX10 105 "ElectionHouseModel" "done" "I") (by decide +kernel)) dX10_step_127 (fun H locs h => ?_)
            obtain ⟨s16, es, hf⟩ := olq hf
            rw [← es] at h
            refine lv_iconst (v := (0 : Int32)) hx hb dX10_step_130 (by decide) ?_
            exact retE_I F hr hlk h hf dX10_step_131
        · have hf := ip c_8 hf
          refine lv_iconst (v := (2 : Int32)) hx hb dX10_step_72 (by decide) ?_
          exact retE_I F hr hlk h hf dX10_step_73
      · have hf := ip c_4 hf
        refine lv_aload_n hx hb dX10_step_32 rfl (lv_at hl 0 rfl) ?_
        refine gY_Model_bodyMany F h hinX10 (hts (.fieldLink RX10 54 "ElectionHouseModel" "bodyMany" "[I") (by decide +kernel)) dX10_step_33 ?_
        refine lv_aload_n hx hb dX10_step_36 rfl (lv_at hl 0 rfl) ?_
        refine gY_Model_done F h hinX10 (hts (.fieldLink RX10 105 "ElectionHouseModel" "done" "I") (by decide +kernel)) dX10_step_37 ?_
        obtain ⟨gi17, hf⟩ := og hf
        refine lY_mbodyMany F h gi17 dX10_step_40 ?_
        refine lv_aload_n hx hb dX10_step_41 rfl (lv_at hl 0 rfl) ?_
        refine gY_Model_many F h hinX10 (hts (.fieldLink RX10 33 "ElectionHouseModel" "many" "[I") (by decide +kernel)) dX10_step_42 ?_
        refine lv_aload_n hx hb dX10_step_45 rfl (lv_at hl 0 rfl) ?_
        refine gY_Model_done F h hinX10 (hts (.fieldLink RX10 105 "ElectionHouseModel" "done" "I") (by decide +kernel)) dX10_step_46 ?_
        obtain ⟨gi18, hf⟩ := og hf
        refine lY_mmany F h gi18 dX10_step_49 ?_
        refine lv_icmp_ge (tgt := 55) hx hb dX10_step_50 (by decide) (fun c_19 => ?_) (fun c_19 => ?_)
        · have hf := ip c_19 hf
          refine lv_aload_n hx hb dX10_step_55 rfl (lv_at hl 0 rfl) ?_
          obtain ⟨r21, s22, hc20, hf⟩ := ob2 hf
          refine call_VI F (c_Model_draws l Z Q s hc20) (cwV 0 hts gX10_step_X10_draws rfl rfl rfl (by decide +kernel) ⟨Nat.le_of_ble_eq_true rfl, Nat.le_of_ble_eq_true rfl⟩) h (rcY_Model h) rfl hl.1 rfl (Nat.le_of_ble_eq_true rfl) ⟨Nat.zero_le _, Nat.zero_le _⟩ dX10_step_56 (fun H locs h => ?_)
          refine lv_iconst (v := (1 : Int32)) hx hb dX10_step_59 (by decide) ?_
          refine lv_icmp_ne (tgt := 120) hx hb dX10_step_60 (by decide) (fun c_23 => ?_) (fun c_23 => ?_)
          · have hf := im c_23 hf
            refine lv_aload_n hx hb dX10_step_120 rfl (lv_at hl 0 rfl) ?_
            refine lv_dup hx hb dX10_step_121 rfl ?_
            refine gY_Model_done F h hinX10 (hts (.fieldLink RX10 105 "ElectionHouseModel" "done" "I") (by decide +kernel)) dX10_step_122 ?_
            refine lv_iconst (v := (1 : Int32)) hx hb dX10_step_125 (by decide) ?_
            refine lv_iadd hx hb dX10_step_126 ?_
            refine pY_Model_done F h hinX10 (hts (.fieldLink RX10 105 "ElectionHouseModel" "done" "I") (by decide +kernel)) dX10_step_127 (fun H locs h => ?_)
            obtain ⟨s24, es, hf⟩ := olq hf
            rw [← es] at h
            refine lv_iconst (v := (0 : Int32)) hx hb dX10_step_130 (by decide) ?_
            exact retE_I F hr hlk h hf dX10_step_131
          · have hf := ip c_23 hf
            refine lv_iconst (v := (1 : Int32)) hx hb dX10_step_63 (by decide) ?_
            exact retE_I F hr hlk h hf dX10_step_64
        · have hf := im c_19 hf
          refine lv_iconst (v := (2 : Int32)) hx hb dX10_step_53 (by decide) ?_
          exact retE_I F hr hlk h hf dX10_step_54
    · have hf := ip c_2 hf
      refine lv_iconst (v := (3 : Int32)) hx hb dX10_step_18 (by decide) ?_
      exact retE_I F hr hlk h hf dX10_step_19

set_option maxHeartbeats 8000000 in
set_option maxRecDepth 100000 in
theorem c_Model_protest (l : Launch) (Z : ZT) (Q : Nat → Nat) (s : XS) (x1 : Int32) {r : Int32} {s' : XS} (hf : p_Model_protest x1 s = some (r, s')) : KI l Z (wY Z Q) yX10_protest wsX10_protest { frames := 1, cells := 0, slots := 0, locals := 22 } [.ref (Q 0), .int x1] s r s' := by
  intro sz
  refine met_entry (cc := cX10_protest) (maxL := 2) (ret := (some .boolean)) (by decide) rfl (Nat.le_of_ble_eq_true rfl) sz rfl ?_
  generalize va_A (wY Z Q s) sz = A
  intro p e s0 m args below meth c ls F hr hlk h hl
  have hl : lv_has ls 2 [(0, .ref (Q 0)), (1, .int x1)] := hl
  obtain ⟨hx, hb, hml, hown, hts⟩ := id F
  have hinX10 : ∀ w ∈ wsX100, w ∈ wsX10_protest := by decide +kernel
  obtain ⟨H, eH⟩ : ∃ z, z = s0.heap := ⟨_, rfl⟩
  obtain ⟨locs, eL⟩ : ∃ z : List Loc, z = [] := ⟨_, rfl⟩
  rw [← eH, ← eL] at h ⊢
  unfold p_Model_protest at hf
  refine lv_iload_n hx hb dX10_protest_0 rfl (lv_at hl 1 rfl) ?_
  refine lv_iconst (v := (0 : Int32)) hx hb dX10_protest_1 (by decide) ?_
  refine lv_aload_n hx hb dX10_protest_2 rfl (lv_at hl 0 rfl) ?_
  refine gY_Model_done F h hinX10 (hts (.fieldLink RX10 105 "ElectionHouseModel" "done" "I") (by decide +kernel)) dX10_protest_3 ?_
  refine lv_iconst (v := (1 : Int32)) hx hb dX10_protest_6 (by decide) ?_
  refine lv_isub hx hb dX10_protest_7 ?_
  obtain ⟨r2, hc1, hf⟩ := ob1 hf
  refine call_SI F (c_Model_in l Z (wY Z Q) s x1 (0 : Int32) ((gM s 0 18) - (1 : Int32)) hc1) (va_cwS 3 hts gX10_protest_X10_in rfl rfl rfl (by decide +kernel) ⟨Nat.le_of_ble_eq_true rfl, Nat.le_of_ble_eq_true rfl⟩) h rfl hl.1 rfl (Nat.le_of_ble_eq_true rfl) ⟨Nat.zero_le _, Nat.zero_le _⟩ dX10_protest_8 (fun H locs h => ?_)
  refine lv_if_ne (tgt := 16) hx hb dX10_protest_11 (by decide) (fun c_4 => ?_) (fun c_4 => ?_)
  · have hf := im c_4 hf
    refine lv_aload_n hx hb dX10_protest_16 rfl (lv_at hl 0 rfl) ?_
    refine lv_iload_n hx hb dX10_protest_17 rfl (lv_at hl 1 rfl) ?_
    refine pY_Model_done F h hinX10 (hts (.fieldLink RX10 105 "ElectionHouseModel" "done" "I") (by decide +kernel)) dX10_protest_18 (fun H locs h => ?_)
    obtain ⟨s5, es, hf⟩ := olq hf
    rw [← es] at h
    refine lv_aload_n hx hb dX10_protest_21 rfl (lv_at hl 0 rfl) ?_
    refine lv_iconst (v := (-1 : Int32)) hx hb dX10_protest_22 (by decide) ?_
    refine pY_Model_elected F h hinX10 (hts (.fieldLink RX10 60 "ElectionHouseModel" "elected" "I") (by decide +kernel)) dX10_protest_23 (fun H locs h => ?_)
    obtain ⟨s6, es, hf⟩ := olq hf
    rw [← es] at h
    refine lv_aload_n hx hb dX10_protest_26 rfl (lv_at hl 0 rfl) ?_
    obtain ⟨s9, hc7, hf⟩ := ob1 hf
    refine call_VV F (c_Model_begins l Z Q s6 hc7) (cwV 0 hts gX10_protest_X10_begins rfl rfl rfl (by decide +kernel) ⟨Nat.le_of_ble_eq_true rfl, Nat.le_of_ble_eq_true rfl⟩) h (rcY_Model h) rfl hl.1 rfl (Nat.le_of_ble_eq_true rfl) ⟨Nat.zero_le _, Nat.zero_le _⟩ dX10_protest_27 (fun H locs h => ?_)
    refine lv_iconst (v := (1 : Int32)) hx hb dX10_protest_30 (by decide) ?_
    exact retE_Z F hr hlk (by decide) h hf dX10_protest_31
  · have hf := ip c_4 hf
    refine lv_iconst (v := (0 : Int32)) hx hb dX10_protest_14 (by decide) ?_
    exact retE_Z F hr hlk (by decide) h hf dX10_protest_15

set_option maxHeartbeats 8000000 in
set_option maxRecDepth 100000 in
theorem c_Model_row (l : Launch) (Z : ZT) (Q : Nat → Nat) (s : XS) {r : Int32} (hf : p_Model_row s = some r) : KI l Z (wY Z Q) yX10_row wsX10_row { frames := 0, cells := 0, slots := 0, locals := 0 } [.ref (Q 0)] s r s := by
  intro sz
  refine met_entry (cc := cX10_row) (maxL := 1) (ret := (some .int)) (by decide) rfl (Nat.le_of_ble_eq_true rfl) sz rfl ?_
  generalize va_A (wY Z Q s) sz = A
  intro p e s0 m args below meth c ls F hr hlk h hl
  have hl : lv_has ls 1 [(0, .ref (Q 0))] := hl
  obtain ⟨hx, hb, hml, hown, hts⟩ := id F
  have hinX10 : ∀ w ∈ wsX100, w ∈ wsX10_row := by decide +kernel
  obtain ⟨H, eH⟩ : ∃ z, z = s0.heap := ⟨_, rfl⟩
  obtain ⟨locs, eL⟩ : ∃ z : List Loc, z = [] := ⟨_, rfl⟩
  rw [← eH, ← eL] at h ⊢
  unfold p_Model_row at hf
  refine lv_aload_n hx hb dX10_row_0 rfl (lv_at hl 0 rfl) ?_
  refine gY_Model_done F h hinX10 (hts (.fieldLink RX10 105 "ElectionHouseModel" "done" "I") (by decide +kernel)) dX10_row_1 ?_
  refine lv_if_le (tgt := 31) hx hb dX10_row_4 (by decide) (fun c_1 => ?_) (fun c_1 => ?_)
  · have hf := ip c_1 hf
    refine lv_aload_n hx hb dX10_row_31 rfl (lv_at hl 0 rfl) ?_
    refine gY_Model_done F h hinX10 (hts (.fieldLink RX10 105 "ElectionHouseModel" "done" "I") (by decide +kernel)) dX10_row_32 ?_
    exact retE_Ir F hr hlk h hf dX10_row_35
  · have hf := im c_1 hf
    refine lv_aload_n hx hb dX10_row_7 rfl (lv_at hl 0 rfl) ?_
    refine gY_Model_kind F h hinX10 (hts (.fieldLink RX10 30 "ElectionHouseModel" "kind" "[I") (by decide +kernel)) dX10_row_8 ?_
    refine lv_aload_n hx hb dX10_row_11 rfl (lv_at hl 0 rfl) ?_
    refine gY_Model_done F h hinX10 (hts (.fieldLink RX10 105 "ElectionHouseModel" "done" "I") (by decide +kernel)) dX10_row_12 ?_
    refine lv_iconst (v := (1 : Int32)) hx hb dX10_row_15 (by decide) ?_
    refine lv_isub hx hb dX10_row_16 ?_
    obtain ⟨gi2, hf⟩ := og hf
    refine lY_mkind F h gi2 dX10_row_17 ?_
    refine lv_iconst (v := (2 : Int32)) hx hb dX10_row_18 (by decide) ?_
    refine lv_icmp_ne (tgt := 31) hx hb dX10_row_19 (by decide) (fun c_3 => ?_) (fun c_3 => ?_)
    · have hf := im c_3 hf
      refine lv_aload_n hx hb dX10_row_31 rfl (lv_at hl 0 rfl) ?_
      refine gY_Model_done F h hinX10 (hts (.fieldLink RX10 105 "ElectionHouseModel" "done" "I") (by decide +kernel)) dX10_row_32 ?_
      exact retE_Ir F hr hlk h hf dX10_row_35
    · have hf := ip c_3 hf
      refine lv_aload_n hx hb dX10_row_22 rfl (lv_at hl 0 rfl) ?_
      refine gY_Model_done F h hinX10 (hts (.fieldLink RX10 105 "ElectionHouseModel" "done" "I") (by decide +kernel)) dX10_row_23 ?_
      refine lv_iconst (v := (1 : Int32)) hx hb dX10_row_26 (by decide) ?_
      refine lv_isub hx hb dX10_row_27 ?_
      refine lv_goto (tgt := 35) hx hb dX10_row_28 (by decide) ?_
      exact retE_Ir F hr hlk h hf dX10_row_35

set_option maxHeartbeats 8000000 in
set_option maxRecDepth 100000 in
theorem c_Model_bodyNow (l : Launch) (Z : ZT) (Q : Nat → Nat) (s : XS) {r : Int32} (hf : p_Model_bodyNow s = some r) : KI l Z (wY Z Q) yX10_bodyNow wsX10_bodyNow { frames := 1, cells := 0, slots := 0, locals := 20 } [.ref (Q 0)] s r s := by
  intro sz
  refine met_entry (cc := cX10_bodyNow) (maxL := 1) (ret := (some .int)) (by decide) rfl (Nat.le_of_ble_eq_true rfl) sz rfl ?_
  generalize va_A (wY Z Q s) sz = A
  intro p e s0 m args below meth c ls F hr hlk h hl
  have hl : lv_has ls 1 [(0, .ref (Q 0))] := hl
  obtain ⟨hx, hb, hml, hown, hts⟩ := id F
  have hinX10 : ∀ w ∈ wsX100, w ∈ wsX10_bodyNow := by decide +kernel
  obtain ⟨H, eH⟩ : ∃ z, z = s0.heap := ⟨_, rfl⟩
  obtain ⟨locs, eL⟩ : ∃ z : List Loc, z = [] := ⟨_, rfl⟩
  rw [← eH, ← eL] at h ⊢
  unfold p_Model_bodyNow at hf
  refine lv_aload_n hx hb dX10_bodyNow_0 rfl (lv_at hl 0 rfl) ?_
  refine gY_Model_bodyMany F h hinX10 (hts (.fieldLink RX10 54 "ElectionHouseModel" "bodyMany" "[I") (by decide +kernel)) dX10_bodyNow_1 ?_
  refine lv_aload_n hx hb dX10_bodyNow_4 rfl (lv_at hl 0 rfl) ?_
  obtain ⟨r2, hc1, hf⟩ := ob1 hf
  refine call_VI F (c_Model_row l Z Q s hc1) (cwV 0 hts gX10_bodyNow_X10_row rfl rfl rfl (by decide +kernel) ⟨Nat.le_of_ble_eq_true rfl, Nat.le_of_ble_eq_true rfl⟩) h (rcY_Model h) rfl hl.1 rfl (Nat.le_of_ble_eq_true rfl) ⟨Nat.zero_le _, Nat.zero_le _⟩ dX10_bodyNow_5 (fun H locs h => ?_)
  obtain ⟨gi4, hf⟩ := og hf
  refine lY_mbodyMany F h gi4 dX10_bodyNow_8 ?_
  exact retE_Ir F hr hlk h hf dX10_bodyNow_9

set_option maxHeartbeats 8000000 in
set_option maxRecDepth 100000 in
theorem c_Model_body (l : Launch) (Z : ZT) (Q : Nat → Nat) (s : XS) (x1 : Int32) {r : Int32} (hf : p_Model_body x1 s = some r) : KI l Z (wY Z Q) yX10_body wsX10_body { frames := 2, cells := 0, slots := 0, locals := 40 } [.ref (Q 0), .int x1] s r s := by
  intro sz
  refine met_entry (cc := cX10_body) (maxL := 2) (ret := (some .int)) (by decide) rfl (Nat.le_of_ble_eq_true rfl) sz rfl ?_
  generalize va_A (wY Z Q s) sz = A
  intro p e s0 m args below meth c ls F hr hlk h hl
  have hl : lv_has ls 2 [(0, .ref (Q 0)), (1, .int x1)] := hl
  obtain ⟨hx, hb, hml, hown, hts⟩ := id F
  have hinX10 : ∀ w ∈ wsX100, w ∈ wsX10_body := by decide +kernel
  obtain ⟨H, eH⟩ : ∃ z, z = s0.heap := ⟨_, rfl⟩
  obtain ⟨locs, eL⟩ : ∃ z : List Loc, z = [] := ⟨_, rfl⟩
  rw [← eH, ← eL] at h ⊢
  unfold p_Model_body at hf
  refine lv_iload_n hx hb dX10_body_0 rfl (lv_at hl 1 rfl) ?_
  refine lv_iconst (v := (0 : Int32)) hx hb dX10_body_1 (by decide) ?_
  refine lv_aload_n hx hb dX10_body_2 rfl (lv_at hl 0 rfl) ?_
  obtain ⟨r2, hc1, hf⟩ := ob1 hf
  refine call_VI F (c_Model_bodyNow l Z Q s hc1) (cwV 0 hts gX10_body_X10_bodyNow rfl rfl rfl (by decide +kernel) ⟨Nat.le_of_ble_eq_true rfl, Nat.le_of_ble_eq_true rfl⟩) h (rcY_Model h) rfl hl.1 rfl (Nat.le_of_ble_eq_true rfl) ⟨Nat.zero_le _, Nat.zero_le _⟩ dX10_body_3 (fun H locs h => ?_)
  refine lv_iconst (v := (1 : Int32)) hx hb dX10_body_6 (by decide) ?_
  refine lv_isub hx hb dX10_body_7 ?_
  obtain ⟨r5, hc4, hf⟩ := ob1 hf
  refine call_SI F (c_Model_in l Z (wY Z Q) s x1 (0 : Int32) (r2 - (1 : Int32)) hc4) (va_cwS 3 hts gX10_body_X10_in rfl rfl rfl (by decide +kernel) ⟨Nat.le_of_ble_eq_true rfl, Nat.le_of_ble_eq_true rfl⟩) h rfl hl.1 rfl (Nat.le_of_ble_eq_true rfl) ⟨Nat.zero_le _, Nat.zero_le _⟩ dX10_body_8 (fun H locs h => ?_)
  refine lv_if_eq (tgt := 31) hx hb dX10_body_11 (by decide) (fun c_7 => ?_) (fun c_7 => ?_)
  · have hf := ip c_7 hf
    refine lv_iconst (v := (-1 : Int32)) hx hb dX10_body_31 (by decide) ?_
    exact retE_Ir F hr hlk h hf dX10_body_32
  · have hf := im c_7 hf
    refine lv_aload_n hx hb dX10_body_14 rfl (lv_at hl 0 rfl) ?_
    refine gY_Model_bodies F h hinX10 (hts (.fieldLink RX10 57 "ElectionHouseModel" "bodies" "[I") (by decide +kernel)) dX10_body_15 ?_
    refine lv_bipush (v := (40 : Int32)) hx hb dX10_body_18 (by decide) ?_
    refine lv_aload_n hx hb dX10_body_20 rfl (lv_at hl 0 rfl) ?_
    obtain ⟨r9, hc8, hf⟩ := ob1 hf
    refine call_VI F (c_Model_row l Z Q s hc8) (cwV 0 hts gX10_body_X10_row rfl rfl rfl (by decide +kernel) ⟨Nat.le_of_ble_eq_true rfl, Nat.le_of_ble_eq_true rfl⟩) h (rcY_Model h) rfl hl.1 rfl (Nat.le_of_ble_eq_true rfl) ⟨Nat.zero_le _, Nat.zero_le _⟩ dX10_body_21 (fun H locs h => ?_)
    refine lv_imul hx hb dX10_body_24 ?_
    refine lv_iload_n hx hb dX10_body_25 rfl (lv_at hl 1 rfl) ?_
    refine lv_iadd hx hb dX10_body_26 ?_
    obtain ⟨gi11, hf⟩ := og hf
    refine lY_mbodies F h gi11 dX10_body_27 ?_
    refine lv_goto (tgt := 32) hx hb dX10_body_28 (by decide) ?_
    exact retE_Ir F hr hlk h hf dX10_body_32

set_option maxHeartbeats 8000000 in
set_option maxRecDepth 100000 in
theorem c_Model_ballot (l : Launch) (Z : ZT) (Q : Nat → Nat) (s : XS) (x1 : Int32) {r : Int32} (hf : p_Model_ballot x1 s = some r) : KI l Z (wY Z Q) yX10_ballot wsX10_ballot { frames := 1, cells := 0, slots := 0, locals := 22 } [.ref (Q 0), .int x1] s r s := by
  intro sz
  refine met_entry (cc := cX10_ballot) (maxL := 2) (ret := (some .int)) (by decide) rfl (Nat.le_of_ble_eq_true rfl) sz rfl ?_
  generalize va_A (wY Z Q s) sz = A
  intro p e s0 m args below meth c ls F hr hlk h hl
  have hl : lv_has ls 2 [(0, .ref (Q 0)), (1, .int x1)] := hl
  obtain ⟨hx, hb, hml, hown, hts⟩ := id F
  have hinX10 : ∀ w ∈ wsX100, w ∈ wsX10_ballot := by decide +kernel
  obtain ⟨H, eH⟩ : ∃ z, z = s0.heap := ⟨_, rfl⟩
  obtain ⟨locs, eL⟩ : ∃ z : List Loc, z = [] := ⟨_, rfl⟩
  rw [← eH, ← eL] at h ⊢
  unfold p_Model_ballot at hf
  refine lv_aload_n hx hb dX10_ballot_0 rfl (lv_at hl 0 rfl) ?_
  refine gY_Model_balloted F h hinX10 (hts (.fieldLink RX10 70 "ElectionHouseModel" "balloted" "I") (by decide +kernel)) dX10_ballot_1 ?_
  refine lv_iconst (v := (-1 : Int32)) hx hb dX10_ballot_4 (by decide) ?_
  refine lv_icmp_ne (tgt := 10) hx hb dX10_ballot_5 (by decide) (fun c_1 => ?_) (fun c_1 => ?_)
  · have hf := im c_1 hf
    refine lv_iload_n hx hb dX10_ballot_10 rfl (lv_at hl 1 rfl) ?_
    refine lv_bipush (v := (100 : Int32)) hx hb dX10_ballot_11 (by decide) ?_
    refine lv_sipush (v := (139 : Int32)) hx hb dX10_ballot_13 (by decide) ?_
    obtain ⟨r3, hc2, hf⟩ := ob1 hf
    refine call_SI F (c_Model_in l Z (wY Z Q) s x1 (100 : Int32) (139 : Int32) hc2) (va_cwS 3 hts gX10_ballot_X10_in rfl rfl rfl (by decide +kernel) ⟨Nat.le_of_ble_eq_true rfl, Nat.le_of_ble_eq_true rfl⟩) h rfl hl.1 rfl (Nat.le_of_ble_eq_true rfl) ⟨Nat.zero_le _, Nat.zero_le _⟩ dX10_ballot_16 (fun H locs h => ?_)
    refine lv_if_eq (tgt := 32) hx hb dX10_ballot_19 (by decide) (fun c_5 => ?_) (fun c_5 => ?_)
    · have hf := ip c_5 hf
      refine lv_iload_n hx hb dX10_ballot_32 rfl (lv_at hl 1 rfl) ?_
      refine lv_if_ne (tgt := 43) hx hb dX10_ballot_33 (by decide) (fun c_6 => ?_) (fun c_6 => ?_)
      · have hf := im c_6 hf
        refine lv_iload_n hx hb dX10_ballot_43 rfl (lv_at hl 1 rfl) ?_
        refine lv_iconst (v := (1 : Int32)) hx hb dX10_ballot_44 (by decide) ?_
        refine lv_icmp_ne (tgt := 55) hx hb dX10_ballot_45 (by decide) (fun c_7 => ?_) (fun c_7 => ?_)
        · have hf := im c_7 hf
          refine lv_iload_n hx hb dX10_ballot_55 rfl (lv_at hl 1 rfl) ?_
          refine lv_iconst (v := (2 : Int32)) hx hb dX10_ballot_56 (by decide) ?_
          refine lv_icmp_ne (tgt := 67) hx hb dX10_ballot_57 (by decide) (fun c_8 => ?_) (fun c_8 => ?_)
          · have hf := im c_8 hf
            refine lv_iconst (v := (-1 : Int32)) hx hb dX10_ballot_67 (by decide) ?_
            exact retE_Ir F hr hlk h hf dX10_ballot_68
          · have hf := ip c_8 hf
            refine lv_aload_n hx hb dX10_ballot_60 rfl (lv_at hl 0 rfl) ?_
            refine gY_Model_chosen F h hinX10 (hts (.fieldLink RX10 186 "ElectionHouseModel" "chosen" "I") (by decide +kernel)) dX10_ballot_61 ?_
            refine lv_goto (tgt := 68) hx hb dX10_ballot_64 (by decide) ?_
            exact retE_Ir F hr hlk h hf dX10_ballot_68
        · have hf := ip c_7 hf
          refine lv_aload_n hx hb dX10_ballot_48 rfl (lv_at hl 0 rfl) ?_
          refine gY_Model_asked F h hinX10 (hts (.fieldLink RX10 183 "ElectionHouseModel" "asked" "I") (by decide +kernel)) dX10_ballot_49 ?_
          refine lv_goto (tgt := 68) hx hb dX10_ballot_52 (by decide) ?_
          exact retE_Ir F hr hlk h hf dX10_ballot_68
      · have hf := ip c_6 hf
        refine lv_aload_n hx hb dX10_ballot_36 rfl (lv_at hl 0 rfl) ?_
        refine gY_Model_barred F h hinX10 (hts (.fieldLink RX10 180 "ElectionHouseModel" "barred" "I") (by decide +kernel)) dX10_ballot_37 ?_
        refine lv_goto (tgt := 68) hx hb dX10_ballot_40 (by decide) ?_
        exact retE_Ir F hr hlk h hf dX10_ballot_68
    · have hf := im c_5 hf
      refine lv_aload_n hx hb dX10_ballot_22 rfl (lv_at hl 0 rfl) ?_
      refine gY_Model_ballot F h hinX10 (hts (.fieldLink RX10 73 "ElectionHouseModel" "ballot" "[I") (by decide +kernel)) dX10_ballot_23 ?_
      refine lv_iload_n hx hb dX10_ballot_26 rfl (lv_at hl 1 rfl) ?_
      refine lv_bipush (v := (100 : Int32)) hx hb dX10_ballot_27 (by decide) ?_
      refine lv_isub hx hb dX10_ballot_29 ?_
      obtain ⟨gi9, hf⟩ := og hf
      refine lY_mballot F h gi9 dX10_ballot_30 ?_
      exact retE_Ir F hr hlk h hf dX10_ballot_31
  · have hf := ip c_1 hf
    refine lv_iconst (v := (-1 : Int32)) hx hb dX10_ballot_8 (by decide) ?_
    exact retE_Ir F hr hlk h hf dX10_ballot_9

set_option maxHeartbeats 8000000 in
set_option maxRecDepth 100000 in
theorem c_Model_elected (l : Launch) (Z : ZT) (Q : Nat → Nat) (s : XS) {r : Int32} (hf : p_Model_elected s = some r) : KI l Z (wY Z Q) yX10_elected wsX10_elected { frames := 0, cells := 0, slots := 0, locals := 0 } [.ref (Q 0)] s r s := by
  intro sz
  refine met_entry (cc := cX10_elected) (maxL := 1) (ret := (some .int)) (by decide) rfl (Nat.le_of_ble_eq_true rfl) sz rfl ?_
  generalize va_A (wY Z Q s) sz = A
  intro p e s0 m args below meth c ls F hr hlk h hl
  have hl : lv_has ls 1 [(0, .ref (Q 0))] := hl
  obtain ⟨hx, hb, hml, hown, hts⟩ := id F
  have hinX10 : ∀ w ∈ wsX100, w ∈ wsX10_elected := by decide +kernel
  obtain ⟨H, eH⟩ : ∃ z, z = s0.heap := ⟨_, rfl⟩
  obtain ⟨locs, eL⟩ : ∃ z : List Loc, z = [] := ⟨_, rfl⟩
  rw [← eH, ← eL] at h ⊢
  unfold p_Model_elected at hf
  refine lv_aload_n hx hb dX10_elected_0 rfl (lv_at hl 0 rfl) ?_
  refine gY_Model_elected F h hinX10 (hts (.fieldLink RX10 60 "ElectionHouseModel" "elected" "I") (by decide +kernel)) dX10_elected_1 ?_
  exact retE_Ir F hr hlk h hf dX10_elected_4

set_option maxHeartbeats 8000000 in
set_option maxRecDepth 100000 in
theorem c_Model_partOf (l : Launch) (Z : ZT) (V : XS → va_W) (s : XS) (x0 : Int32) (x1 : Int32) {r : Int32} (hf : p_Model_partOf x0 x1 = some r) : KI l Z V yX10_partOf wsX10_partOf { frames := 0, cells := 0, slots := 0, locals := 0 } [.int x0, .int x1] s r s := by
  intro sz
  refine met_entry (cc := cX10_partOf) (maxL := 2) (ret := (some .int)) (by decide) rfl (Nat.le_of_ble_eq_true rfl) sz rfl ?_
  generalize va_A (V s) sz = A
  intro p e s0 m args below meth c ls F hr hlk h hl
  have hl : lv_has ls 2 [(0, .int x0), (1, .int x1)] := hl
  obtain ⟨hx, hb, hml, hown, hts⟩ := id F
  obtain ⟨H, eH⟩ : ∃ z, z = s0.heap := ⟨_, rfl⟩
  obtain ⟨locs, eL⟩ : ∃ z : List Loc, z = [] := ⟨_, rfl⟩
  rw [← eH, ← eL] at h ⊢
  unfold p_Model_partOf at hf
  refine lv_iload_n hx hb dX10_partOf_0 rfl (lv_at hl 0 rfl) ?_
  refine lv_bipush (v := (6 : Int32)) hx hb dX10_partOf_1 (by decide) ?_
  refine lv_iload_n hx hb dX10_partOf_3 rfl (lv_at hl 1 rfl) ?_
  refine lv_imul hx hb dX10_partOf_4 ?_
  refine lv_ishr hx hb dX10_partOf_5 ?_
  refine lv_bipush (v := (63 : Int32)) hx hb dX10_partOf_6 (by decide) ?_
  refine lv_iand hx hb dX10_partOf_8 ?_
  exact retE_Ir F hr hlk h hf dX10_partOf_9

set_option maxHeartbeats 8000000 in
set_option maxRecDepth 100000 in
theorem c_Model_sizeOf (l : Launch) (Z : ZT) (V : XS → va_W) (s : XS) (x0 : Int32) {r : Int32} (hf : p_Model_sizeOf x0 = some r) : KI l Z V yX10_sizeOf wsX10_sizeOf { frames := 1, cells := 0, slots := 0, locals := 21 } [.int x0] s r s := by
  intro sz
  refine met_entry (cc := cX10_sizeOf) (maxL := 1) (ret := (some .int)) (by decide) rfl (Nat.le_of_ble_eq_true rfl) sz rfl ?_
  generalize va_A (V s) sz = A
  intro p e s0 m args below meth c ls F hr hlk h hl
  have hl : lv_has ls 1 [(0, .int x0)] := hl
  obtain ⟨hx, hb, hml, hown, hts⟩ := id F
  obtain ⟨H, eH⟩ : ∃ z, z = s0.heap := ⟨_, rfl⟩
  obtain ⟨locs, eL⟩ : ∃ z : List Loc, z = [] := ⟨_, rfl⟩
  rw [← eH, ← eL] at h ⊢
  unfold p_Model_sizeOf at hf
  refine lv_iload_n hx hb dX10_sizeOf_0 rfl (lv_at hl 0 rfl) ?_
  refine lv_iconst (v := (0 : Int32)) hx hb dX10_sizeOf_1 (by decide) ?_
  obtain ⟨r2, hc1, hf⟩ := ob1 hf
  refine call_SI F (c_Model_partOf l Z V s x0 (0 : Int32) hc1) (va_cwS 2 hts gX10_sizeOf_X10_partOf rfl rfl rfl (by decide +kernel) ⟨Nat.le_of_ble_eq_true rfl, Nat.le_of_ble_eq_true rfl⟩) h rfl hl.1 rfl (Nat.le_of_ble_eq_true rfl) ⟨Nat.zero_le _, Nat.zero_le _⟩ dX10_sizeOf_2 (fun H locs h => ?_)
  refine lv_iload_n hx hb dX10_sizeOf_5 rfl (lv_at hl 0 rfl) ?_
  refine lv_iconst (v := (1 : Int32)) hx hb dX10_sizeOf_6 (by decide) ?_
  obtain ⟨r5, hc4, hf⟩ := ob1 hf
  refine call_SI F (c_Model_partOf l Z V s x0 (1 : Int32) hc4) (va_cwS 2 hts gX10_sizeOf_X10_partOf rfl rfl rfl (by decide +kernel) ⟨Nat.le_of_ble_eq_true rfl, Nat.le_of_ble_eq_true rfl⟩) h rfl hl.1 rfl (Nat.le_of_ble_eq_true rfl) ⟨Nat.zero_le _, Nat.zero_le _⟩ dX10_sizeOf_7 (fun H locs h => ?_)
  refine lv_iadd hx hb dX10_sizeOf_10 ?_
  refine lv_iload_n hx hb dX10_sizeOf_11 rfl (lv_at hl 0 rfl) ?_
  refine lv_iconst (v := (2 : Int32)) hx hb dX10_sizeOf_12 (by decide) ?_
  obtain ⟨r8, hc7, hf⟩ := ob1 hf
  refine call_SI F (c_Model_partOf l Z V s x0 (2 : Int32) hc7) (va_cwS 2 hts gX10_sizeOf_X10_partOf rfl rfl rfl (by decide +kernel) ⟨Nat.le_of_ble_eq_true rfl, Nat.le_of_ble_eq_true rfl⟩) h rfl hl.1 rfl (Nat.le_of_ble_eq_true rfl) ⟨Nat.zero_le _, Nat.zero_le _⟩ dX10_sizeOf_13 (fun H locs h => ?_)
  refine lv_iadd hx hb dX10_sizeOf_16 ?_
  refine lv_iload_n hx hb dX10_sizeOf_17 rfl (lv_at hl 0 rfl) ?_
  refine lv_iconst (v := (3 : Int32)) hx hb dX10_sizeOf_18 (by decide) ?_
  obtain ⟨r11, hc10, hf⟩ := ob1 hf
  refine call_SI F (c_Model_partOf l Z V s x0 (3 : Int32) hc10) (va_cwS 2 hts gX10_sizeOf_X10_partOf rfl rfl rfl (by decide +kernel) ⟨Nat.le_of_ble_eq_true rfl, Nat.le_of_ble_eq_true rfl⟩) h rfl hl.1 rfl (Nat.le_of_ble_eq_true rfl) ⟨Nat.zero_le _, Nat.zero_le _⟩ dX10_sizeOf_19 (fun H locs h => ?_)
  refine lv_iadd hx hb dX10_sizeOf_22 ?_
  exact retE_Ir F hr hlk h hf dX10_sizeOf_23

set_option maxHeartbeats 8000000 in
set_option maxRecDepth 100000 in
theorem c_Model_sets (l : Launch) (Z : ZT) (V : XS → va_W) (s : XS) (x0 : Int32) (x1 : Int32) {r : Int64} (hf : p_Model_sets x0 x1 = some r) : KL l Z V yX10_sets wsX10_sets { frames := 0, cells := 0, slots := 0, locals := 0 } [.int x0, .int x1] s r s := by
  intro sz
  refine met_entry (cc := cX10_sets) (maxL := 5) (ret := (some .long)) (by decide) rfl (Nat.le_of_ble_eq_true rfl) sz rfl ?_
  generalize va_A (V s) sz = A
  intro p e s0 m args below meth c ls F hr hlk h hl
  have hl : lv_has ls 5 [(0, .int x0), (1, .int x1)] := hl
  obtain ⟨hx, hb, hml, hown, hts⟩ := id F
  obtain ⟨H, eH⟩ : ∃ z, z = s0.heap := ⟨_, rfl⟩
  obtain ⟨locs, eL⟩ : ∃ z : List Loc, z = [] := ⟨_, rfl⟩
  rw [← eH, ← eL] at h ⊢
  unfold p_Model_sets at hf
  have lab12 : ∀ (x0 : Int32) (x1 : Int32) (n : Nat) (x2 : Int64) (x4 : Int32) (H : Heap) (locs : List Loc) (ls : Array Slot), lo2 (p_Model_sets_B12 x0 x1) n x2 x4 = some r → HW Z V A s0 H locs s → lv_has ls 5 [(0, .int x0), (1, .int x1), (2, .long x2), (4, .int x4)] → W p l e { frames := 0, cells := 0, slots := 0, locals := 0 } s0 m args below meth c H locs 0 0 (MQ below (QcL Z V A r s) args s0 0 0 A) (F0 m 12 ls []) := by
    intro x0 x1 n
    induction n with
    | zero => intro x2 x4 H locs ls hf; exact absurd hf lo2_z
    | succ n ih12 =>
      intro x2 x4 H locs ls hf h hl
      have hf := lo2_s hf
      generalize lo2 (p_Model_sets_B12 x0 x1) n = c12 at hf ih12
      unfold p_Model_sets_B12 at hf
      refine lv_iload hx hb dX10_sets_12 (lv_at hl 3 rfl) ?_
      refine lv_iload_n hx hb dX10_sets_14 rfl (lv_at hl 1 rfl) ?_
      refine lv_icmp_gt (tgt := 58) hx hb dX10_sets_15 (by decide) (fun c_1 => ?_) (fun c_1 => ?_)
      · have hf := ip c_1 hf
        refine lv_lload_n hx hb dX10_sets_58 rfl (lv_at hl 2 rfl) ?_
        refine lv_ldc2 (v := (1000000000000000 : Int64)) hx hb hown (hts (.constantLong RX10 213 (1000000000000000 : Int64)) (by decide +kernel)) dX10_sets_59 ?_
        refine W.lcmp hx hb dX10_sets_62 ?_
        refine lv_if_le (tgt := 72) hx hb dX10_sets_63 (by decide) (fun c_2 => ?_) (fun c_2 => ?_)
        · have hf := ip c_2 hf
          refine lv_lload_n hx hb dX10_sets_72 rfl (lv_at hl 2 rfl) ?_
          exact retE_Lr F hr hlk h hf dX10_sets_73
        · have hf := im c_2 hf
          refine lv_ldc2 (v := (1000000000000001 : Int64)) hx hb hown (hts (.constantLong RX10 211 (1000000000000001 : Int64)) (by decide +kernel)) dX10_sets_66 ?_
          refine lv_goto (tgt := 73) hx hb dX10_sets_69 (by decide) ?_
          exact retE_Lr F hr hlk h hf dX10_sets_73
      · have hf := im c_1 hf
        refine lv_lload_n hx hb dX10_sets_18 rfl (lv_at hl 2 rfl) ?_
        refine lv_ldc2 (v := (9000000000000000000 : Int64)) hx hb hown (hts (.constantLong RX10 209 (9000000000000000000 : Int64)) (by decide +kernel)) dX10_sets_19 ?_
        refine lv_iload_n hx hb dX10_sets_22 rfl (lv_at hl 0 rfl) ?_
        refine lv_iload_n hx hb dX10_sets_23 rfl (lv_at hl 1 rfl) ?_
        refine lv_isub hx hb dX10_sets_24 ?_
        refine lv_iload hx hb dX10_sets_25 (lv_at hl 3 rfl) ?_
        refine lv_iadd hx hb dX10_sets_27 ?_
        refine lv_i2l (v := (((x0 - x1) + x4)).toInt64) hx hb dX10_sets_28 rfl ?_
        obtain ⟨gd3, hf⟩ := og0l hf
        refine lv_ldiv hx hb dX10_sets_29 gd3 ?_
        refine W.lcmp hx hb dX10_sets_30 ?_
        refine lv_if_le (tgt := 38) hx hb dX10_sets_31 (by decide) (fun c_4 => ?_) (fun c_4 => ?_)
        · have hf := ip c_4 hf
          refine lv_lload_n hx hb dX10_sets_38 rfl (lv_at hl 2 rfl) ?_
          refine lv_iload_n hx hb dX10_sets_39 rfl (lv_at hl 0 rfl) ?_
          refine lv_iload_n hx hb dX10_sets_40 rfl (lv_at hl 1 rfl) ?_
          refine lv_isub hx hb dX10_sets_41 ?_
          refine lv_iload hx hb dX10_sets_42 (lv_at hl 3 rfl) ?_
          refine lv_iadd hx hb dX10_sets_44 ?_
          refine lv_i2l (v := (((x0 - x1) + x4)).toInt64) hx hb dX10_sets_45 rfl ?_
          refine lv_lmul hx hb dX10_sets_46 ?_
          refine lv_iload hx hb dX10_sets_47 (lv_at hl 3 rfl) ?_
          refine lv_i2l (v := (x4).toInt64) hx hb dX10_sets_49 rfl ?_
          obtain ⟨gd5, hf⟩ := og0l hf
          refine lv_ldiv hx hb dX10_sets_50 gd5 ?_
          refine lv_lstore_n (lv' := [(2, .long ((x2 * ((((x0 - x1) + x4)).toInt64)) / ((x4).toInt64))), (0, .int x0), (1, .int x1), (4, .int x4)]) hx hb dX10_sets_51 rfl hl (by decide) rfl (fun ls hl => ?_)
          have hl := lv_sub (l' := [(0, .int x0), (1, .int x1), (2, .long ((x2 * ((((x0 - x1) + x4)).toInt64)) / ((x4).toInt64))), (4, .int x4)]) hl [1, 2, 0, 3] rfl
          refine lv_iinc (v := (x4 + (1 : Int32))) (lv' := [(4, .int (x4 + (1 : Int32))), (0, .int x0), (1, .int x1), (2, .long ((x2 * ((((x0 - x1) + x4)).toInt64)) / ((x4).toInt64)))]) hx hb dX10_sets_52 hl (k := 3) rfl (congrArg (fun z => x4 + z) (by decide : Int32.ofInt (1) = (1 : Int32))) (by decide) rfl (fun ls hl => ?_)
          have hl := lv_sub (l' := [(0, .int x0), (1, .int x1), (2, .long ((x2 * ((((x0 - x1) + x4)).toInt64)) / ((x4).toInt64))), (4, .int (x4 + (1 : Int32)))]) hl [1, 2, 3, 0] rfl
          refine lv_goto (tgt := 12) hx hb dX10_sets_55 (by decide) ?_
          exact ih12 ((x2 * ((((x0 - x1) + x4)).toInt64)) / ((x4).toInt64)) (x4 + (1 : Int32)) H locs ls hf h (lv_sub hl [0, 1, 2, 3] rfl)
        · have hf := im c_4 hf
          refine lv_ldc2 (v := (1000000000000001 : Int64)) hx hb hown (hts (.constantLong RX10 211 (1000000000000001 : Int64)) (by decide +kernel)) dX10_sets_34 ?_
          exact retE_Lr F hr hlk h hf dX10_sets_37
  refine lv_iload_n hx hb dX10_sets_0 rfl (lv_at hl 1 rfl) ?_
  refine lv_iload_n hx hb dX10_sets_1 rfl (lv_at hl 0 rfl) ?_
  refine lv_icmp_le (tgt := 7) hx hb dX10_sets_2 (by decide) (fun c_6 => ?_) (fun c_6 => ?_)
  · have hf := ip c_6 hf
    refine lv_lconst (v := (1 : Int64)) hx hb dX10_sets_7 (by decide) ?_
    refine lv_lstore_n (lv' := [(2, .long (1 : Int64)), (0, .int x0), (1, .int x1)]) hx hb dX10_sets_8 rfl hl (by decide) rfl (fun ls hl => ?_)
    have hl := lv_sub (l' := [(0, .int x0), (1, .int x1), (2, .long (1 : Int64))]) hl [1, 2, 0] rfl
    refine lv_iconst (v := (1 : Int32)) hx hb dX10_sets_9 (by decide) ?_
    refine lv_istore (lv' := [(4, .int (1 : Int32)), (0, .int x0), (1, .int x1), (2, .long (1 : Int64))]) hx hb dX10_sets_10 hl (by decide) rfl (fun ls hl => ?_)
    have hl := lv_sub (l' := [(0, .int x0), (1, .int x1), (2, .long (1 : Int64)), (4, .int (1 : Int32))]) hl [1, 2, 3, 0] rfl
    exact lab12 x0 x1 fuelN (1 : Int64) (1 : Int32) H locs ls hf h (lv_sub hl [0, 1, 2, 3] rfl)
  · have hf := im c_6 hf
    refine lv_lconst (v := (0 : Int64)) hx hb dX10_sets_5 (by decide) ?_
    exact retE_Lr F hr hlk h hf dX10_sets_6

set_option maxHeartbeats 8000000 in
set_option maxRecDepth 100000 in
theorem c_Model_times (l : Launch) (Z : ZT) (V : XS → va_W) (s : XS) (x0 : Int64) (x2 : Int64) {r : Int64} (hf : p_Model_times x0 x2 = some r) : KL l Z V yX10_times wsX10_times { frames := 0, cells := 0, slots := 0, locals := 0 } [.long x0, .long x2] s r s := by
  intro sz
  refine met_entry (cc := cX10_times) (maxL := 4) (ret := (some .long)) (by decide) rfl (Nat.le_of_ble_eq_true rfl) sz rfl ?_
  generalize va_A (V s) sz = A
  intro p e s0 m args below meth c ls F hr hlk h hl
  have hl : lv_has ls 4 [(0, .long x0), (2, .long x2)] := hl
  obtain ⟨hx, hb, hml, hown, hts⟩ := id F
  obtain ⟨H, eH⟩ : ∃ z, z = s0.heap := ⟨_, rfl⟩
  obtain ⟨locs, eL⟩ : ∃ z : List Loc, z = [] := ⟨_, rfl⟩
  rw [← eH, ← eL] at h ⊢
  unfold p_Model_times at hf
  refine lv_lload_n hx hb dX10_times_0 rfl (lv_at hl 0 rfl) ?_
  refine lv_lconst (v := (0 : Int64)) hx hb dX10_times_1 (by decide) ?_
  refine W.lcmp hx hb dX10_times_2 ?_
  refine lv_if_eq (tgt := 12) hx hb dX10_times_3 (by decide) (fun c_1 => ?_) (fun c_1 => ?_)
  · have hf := ip c_1 hf
    refine lv_lconst (v := (0 : Int64)) hx hb dX10_times_12 (by decide) ?_
    exact retE_Lr F hr hlk h hf dX10_times_13
  · have hf := im c_1 hf
    refine lv_lload_n hx hb dX10_times_6 rfl (lv_at hl 1 rfl) ?_
    refine lv_lconst (v := (0 : Int64)) hx hb dX10_times_7 (by decide) ?_
    refine W.lcmp hx hb dX10_times_8 ?_
    refine lv_if_ne (tgt := 14) hx hb dX10_times_9 (by decide) (fun c_2 => ?_) (fun c_2 => ?_)
    · have hf := im c_2 hf
      refine lv_lload_n hx hb dX10_times_14 rfl (lv_at hl 0 rfl) ?_
      refine lv_ldc2 (v := (1000000000000000 : Int64)) hx hb hown (hts (.constantLong RX10 213 (1000000000000000 : Int64)) (by decide +kernel)) dX10_times_15 ?_
      refine lv_lload_n hx hb dX10_times_18 rfl (lv_at hl 1 rfl) ?_
      obtain ⟨gd3, hf⟩ := og0l hf
      refine lv_ldiv hx hb dX10_times_19 gd3 ?_
      refine W.lcmp hx hb dX10_times_20 ?_
      refine lv_if_le (tgt := 30) hx hb dX10_times_21 (by decide) (fun c_4 => ?_) (fun c_4 => ?_)
      · have hf := ip c_4 hf
        refine lv_lload_n hx hb dX10_times_30 rfl (lv_at hl 0 rfl) ?_
        refine lv_lload_n hx hb dX10_times_31 rfl (lv_at hl 1 rfl) ?_
        refine lv_lmul hx hb dX10_times_32 ?_
        exact retE_Lr F hr hlk h hf dX10_times_33
      · have hf := im c_4 hf
        refine lv_ldc2 (v := (1000000000000001 : Int64)) hx hb hown (hts (.constantLong RX10 211 (1000000000000001 : Int64)) (by decide +kernel)) dX10_times_24 ?_
        refine lv_goto (tgt := 33) hx hb dX10_times_27 (by decide) ?_
        exact retE_Lr F hr hlk h hf dX10_times_33
    · have hf := ip c_2 hf
      refine lv_lconst (v := (0 : Int64)) hx hb dX10_times_12 (by decide) ?_
      exact retE_Lr F hr hlk h hf dX10_times_13

set_option maxHeartbeats 8000000 in
set_option maxRecDepth 100000 in
theorem c_Model_comes (l : Launch) (Z : ZT) (Q : Nat → Nat) (s : XS) (x1 : Int32) (x2 : Int64) {r : Int32} {s' : XS} (hf : p_Model_comes x1 x2 s = some (r, s')) : KI l Z (wY Z Q) yX10_comes wsX10_comes { frames := 0, cells := 0, slots := 0, locals := 0 } [.ref (Q 0), .int x1, .long x2] s r s' := by
  intro sz
  refine met_entry (cc := cX10_comes) (maxL := 5) (ret := (some .boolean)) (by decide) rfl (Nat.le_of_ble_eq_true rfl) sz rfl ?_
  generalize va_A (wY Z Q s) sz = A
  intro p e s0 m args below meth c ls F hr hlk h hl
  have hl : lv_has ls 5 [(0, .ref (Q 0)), (1, .int x1), (2, .long x2)] := hl
  obtain ⟨hx, hb, hml, hown, hts⟩ := id F
  have hinX10 : ∀ w ∈ wsX100, w ∈ wsX10_comes := by decide +kernel
  obtain ⟨H, eH⟩ : ∃ z, z = s0.heap := ⟨_, rfl⟩
  obtain ⟨locs, eL⟩ : ∃ z : List Loc, z = [] := ⟨_, rfl⟩
  rw [← eH, ← eL] at h ⊢
  unfold p_Model_comes at hf
  have lab3 : ∀ (x1 : Int32) (x2 : Int64) (s : XS) (n : Nat) (x4 : Int32) (H : Heap) (locs : List Loc) (ls : Array Slot), lo1 (p_Model_comes_B3 x1 x2 s) n x4 = some (r, s') → HW Z (wY Z Q) A s0 H locs s → lv_has ls 5 [(0, .ref (Q 0)), (1, .int x1), (2, .long x2), (4, .int x4)] → W p l e { frames := 0, cells := 0, slots := 0, locals := 0 } s0 m args below meth c H locs 0 0 (MQ below (QcI Z (wY Z Q) A r s') args s0 0 0 A) (F0 m 3 ls []) := by
    intro x1 x2 s n
    induction n with
    | zero => intro x4 H locs ls hf; exact absurd hf lo1_z
    | succ n ih3 =>
      intro x4 H locs ls hf h hl
      have hf := lo1_s hf
      generalize lo1 (p_Model_comes_B3 x1 x2 s) n = c3 at hf ih3
      unfold p_Model_comes_B3 at hf
      have lab29 : ∀ (x1 : Int32) (x2 : Int64) (x4 : Int32) (s : XS) (H : Heap) (locs : List Loc) (ls : Array Slot), p_Model_comes_K29 x1 x2 x4 s = some (r, s') → HW Z (wY Z Q) A s0 H locs s → lv_has ls 5 [(0, .ref (Q 0)), (1, .int x1), (2, .long x2), (4, .int x4)] → W p l e { frames := 0, cells := 0, slots := 0, locals := 0 } s0 m args below meth c H locs 0 0 (MQ below (QcI Z (wY Z Q) A r s') args s0 0 0 A) (F0 m 29 ls []) := by
        intro x1 x2 x4 s H locs ls hf h hl
        unfold p_Model_comes_K29 at hf
        have lab76 : ∀ (x2 : Int64) (x4 : Int32) (s : XS) (H : Heap) (locs : List Loc) (ls : Array Slot), p_Model_comes_K76 x2 x4 s = some (r, s') → HW Z (wY Z Q) A s0 H locs s → lv_has ls 5 [(0, .ref (Q 0)), (2, .long x2), (4, .int x4)] → W p l e { frames := 0, cells := 0, slots := 0, locals := 0 } s0 m args below meth c H locs 0 0 (MQ below (QcI Z (wY Z Q) A r s') args s0 0 0 A) (F0 m 76 ls []) := by
          intro x2 x4 s H locs ls hf h hl
          unfold p_Model_comes_K76 at hf
          refine lv_aload_n hx hb dX10_comes_76 rfl (lv_at hl 0 rfl) ?_
          refine gY_Model_nextWay F h hinX10 (hts (.fieldLink RX10 89 "ElectionHouseModel" "nextWay" "[J") (by decide +kernel)) dX10_comes_77 ?_
          refine lv_iload hx hb dX10_comes_80 (lv_at hl 2 rfl) ?_
          refine lv_dup2_11 hx hb dX10_comes_82 rfl rfl ?_
          obtain ⟨gi1, hf⟩ := og hf
          refine lY_mnextWay F h gi1 dX10_comes_83 ?_
          refine lv_lload_n hx hb dX10_comes_84 rfl (lv_at hl 1 rfl) ?_
          refine lv_ladd hx hb dX10_comes_85 ?_
          obtain ⟨gi2, hf⟩ := og hf
          refine sY_mnextWay F h gi2 dX10_comes_86 (fun H locs h => ?_)
          obtain ⟨s3, es, hf⟩ := olq hf
          rw [← es] at h
          refine lv_iconst (v := (1 : Int32)) hx hb dX10_comes_87 (by decide) ?_
          exact retE_Z F hr hlk (by decide) h hf dX10_comes_88
        refine lv_iload hx hb dX10_comes_29 (lv_at hl 3 rfl) ?_
        refine lv_aload_n hx hb dX10_comes_31 rfl (lv_at hl 0 rfl) ?_
        refine gY_Model_nextRows F h hinX10 (hts (.fieldLink RX10 215 "ElectionHouseModel" "nextRows" "I") (by decide +kernel)) dX10_comes_32 ?_
        refine lv_icmp_ne (tgt := 76) hx hb dX10_comes_35 (by decide) (fun c_4 => ?_) (fun c_4 => ?_)
        · have hf := im c_4 hf
          exact lab76 x2 x4 s H locs ls hf h (lv_sub hl [0, 2, 3] rfl)
        · have hf := ip c_4 hf
          refine lv_aload_n hx hb dX10_comes_38 rfl (lv_at hl 0 rfl) ?_
          refine gY_Model_nextRows F h hinX10 (hts (.fieldLink RX10 215 "ElectionHouseModel" "nextRows" "I") (by decide +kernel)) dX10_comes_39 ?_
          refine lv_sipush (v := (600 : Int32)) hx hb dX10_comes_42 (by decide) ?_
          refine lv_icmp_ne (tgt := 50) hx hb dX10_comes_45 (by decide) (fun c_5 => ?_) (fun c_5 => ?_)
          · have hf := im c_5 hf
            refine lv_aload_n hx hb dX10_comes_50 rfl (lv_at hl 0 rfl) ?_
            refine gY_Model_nextKey F h hinX10 (hts (.fieldLink RX10 86 "ElectionHouseModel" "nextKey" "[I") (by decide +kernel)) dX10_comes_51 ?_
            refine lv_iload hx hb dX10_comes_54 (lv_at hl 3 rfl) ?_
            refine lv_iload_n hx hb dX10_comes_56 rfl (lv_at hl 1 rfl) ?_
            obtain ⟨gi6, hf⟩ := og hf
            refine sY_mnextKey F h gi6 dX10_comes_57 (fun H locs h => ?_)
            obtain ⟨s7, es, hf⟩ := olq hf
            rw [← es] at h
            refine lv_aload_n hx hb dX10_comes_58 rfl (lv_at hl 0 rfl) ?_
            refine gY_Model_nextWay F h hinX10 (hts (.fieldLink RX10 89 "ElectionHouseModel" "nextWay" "[J") (by decide +kernel)) dX10_comes_59 ?_
            refine lv_iload hx hb dX10_comes_62 (lv_at hl 3 rfl) ?_
            refine lv_lconst (v := (0 : Int64)) hx hb dX10_comes_64 (by decide) ?_
            obtain ⟨gi8, hf⟩ := og hf
            refine sY_mnextWay F h gi8 dX10_comes_65 (fun H locs h => ?_)
            obtain ⟨s9, es, hf⟩ := olq hf
            rw [← es] at h
            refine lv_aload_n hx hb dX10_comes_66 rfl (lv_at hl 0 rfl) ?_
            refine lv_dup hx hb dX10_comes_67 rfl ?_
            refine gY_Model_nextRows F h hinX10 (hts (.fieldLink RX10 215 "ElectionHouseModel" "nextRows" "I") (by decide +kernel)) dX10_comes_68 ?_
            refine lv_iconst (v := (1 : Int32)) hx hb dX10_comes_71 (by decide) ?_
            refine lv_iadd hx hb dX10_comes_72 ?_
            refine pY_Model_nextRows F h hinX10 (hts (.fieldLink RX10 215 "ElectionHouseModel" "nextRows" "I") (by decide +kernel)) dX10_comes_73 (fun H locs h => ?_)
            obtain ⟨s10, es, hf⟩ := olq hf
            rw [← es] at h
            exact lab76 x2 x4 s10 H locs ls hf h (lv_sub hl [0, 2, 3] rfl)
          · have hf := ip c_5 hf
            refine lv_iconst (v := (0 : Int32)) hx hb dX10_comes_48 (by decide) ?_
            exact retE_Z F hr hlk (by decide) h hf dX10_comes_49
      refine lv_iload hx hb dX10_comes_3 (lv_at hl 3 rfl) ?_
      refine lv_aload_n hx hb dX10_comes_5 rfl (lv_at hl 0 rfl) ?_
      refine gY_Model_nextRows F h hinX10 (hts (.fieldLink RX10 215 "ElectionHouseModel" "nextRows" "I") (by decide +kernel)) dX10_comes_6 ?_
      refine lv_icmp_ge (tgt := 29) hx hb dX10_comes_9 (by decide) (fun c_11 => ?_) (fun c_11 => ?_)
      · have hf := ip c_11 hf
        exact lab29 x1 x2 x4 s H locs ls hf h (lv_sub hl [0, 1, 2, 3] rfl)
      · have hf := im c_11 hf
        refine lv_aload_n hx hb dX10_comes_12 rfl (lv_at hl 0 rfl) ?_
        refine gY_Model_nextKey F h hinX10 (hts (.fieldLink RX10 86 "ElectionHouseModel" "nextKey" "[I") (by decide +kernel)) dX10_comes_13 ?_
        refine lv_iload hx hb dX10_comes_16 (lv_at hl 3 rfl) ?_
        obtain ⟨gi12, hf⟩ := og hf
        refine lY_mnextKey F h gi12 dX10_comes_18 ?_
        refine lv_iload_n hx hb dX10_comes_19 rfl (lv_at hl 1 rfl) ?_
        refine lv_icmp_eq (tgt := 29) hx hb dX10_comes_20 (by decide) (fun c_13 => ?_) (fun c_13 => ?_)
        · have hf := ip c_13 hf
          exact lab29 x1 x2 x4 s H locs ls hf h (lv_sub hl [0, 1, 2, 3] rfl)
        · have hf := im c_13 hf
          refine lv_iinc (v := (x4 + (1 : Int32))) (lv' := [(4, .int (x4 + (1 : Int32))), (0, .ref (Q 0)), (1, .int x1), (2, .long x2)]) hx hb dX10_comes_23 hl (k := 3) rfl (congrArg (fun z => x4 + z) (by decide : Int32.ofInt (1) = (1 : Int32))) (by decide) rfl (fun ls hl => ?_)
          have hl := lv_sub (l' := [(0, .ref (Q 0)), (1, .int x1), (2, .long x2), (4, .int (x4 + (1 : Int32)))]) hl [1, 2, 3, 0] rfl
          refine lv_goto (tgt := 3) hx hb dX10_comes_26 (by decide) ?_
          exact ih3 (x4 + (1 : Int32)) H locs ls hf h (lv_sub hl [0, 1, 2, 3] rfl)
  refine lv_iconst (v := (0 : Int32)) hx hb dX10_comes_0 (by decide) ?_
  refine lv_istore (lv' := [(4, .int (0 : Int32)), (0, .ref (Q 0)), (1, .int x1), (2, .long x2)]) hx hb dX10_comes_1 hl (by decide) rfl (fun ls hl => ?_)
  have hl := lv_sub (l' := [(0, .ref (Q 0)), (1, .int x1), (2, .long x2), (4, .int (0 : Int32))]) hl [1, 2, 3, 0] rfl
  exact lab3 x1 x2 s fuelN (0 : Int32) H locs ls hf h (lv_sub hl [0, 1, 2, 3] rfl)

set_option maxHeartbeats 8000000 in
set_option maxRecDepth 100000 in
theorem c_Model_drawn (l : Launch) (Z : ZT) (Q : Nat → Nat) (s : XS) (x1 : Int32) (x2 : Int64) (x4 : Int32) {r : Int32} {s' : XS} (hf : p_Model_drawn x1 x2 x4 s = some (r, s')) : KI l Z (wY Z Q) yX10_drawn wsX10_drawn { frames := 1, cells := 0, slots := 0, locals := 24 } [.ref (Q 0), .int x1, .long x2, .int x4] s r s' := by
  intro sz
  refine met_entry (cc := cX10_drawn) (maxL := 11) (ret := (some .boolean)) (by decide) rfl (Nat.le_of_ble_eq_true rfl) sz rfl ?_
  generalize va_A (wY Z Q s) sz = A
  intro p e s0 m args below meth c ls F hr hlk h hl
  have hl : lv_has ls 11 [(0, .ref (Q 0)), (1, .int x1), (2, .long x2), (4, .int x4)] := hl
  obtain ⟨hx, hb, hml, hown, hts⟩ := id F
  obtain ⟨H, eH⟩ : ∃ z, z = s0.heap := ⟨_, rfl⟩
  obtain ⟨locs, eL⟩ : ∃ z : List Loc, z = [] := ⟨_, rfl⟩
  rw [← eH, ← eL] at h ⊢
  unfold p_Model_drawn at hf
  have lab3 : ∀ (x1 : Int32) (x2 : Int64) (x4 : Int32) (n : Nat) (x5 : Int32) (s : XS) (H : Heap) (locs : List Loc) (ls : Array Slot), lo2 (p_Model_drawn_B3 x1 x2 x4) n x5 s = some (r, s') → HW Z (wY Z Q) A s0 H locs s → lv_has ls 11 [(0, .ref (Q 0)), (1, .int x1), (2, .long x2), (4, .int x4), (5, .int x5)] → W p l e { frames := 1, cells := 0, slots := 0, locals := 24 } s0 m args below meth c H locs 0 0 (MQ below (QcI Z (wY Z Q) A r s') args s0 0 0 A) (F0 m 3 ls []) := by
    intro x1 x2 x4 n
    induction n with
    | zero => intro x5 s H locs ls hf; exact absurd hf lo2_z
    | succ n ih3 =>
      intro x5 s H locs ls hf h hl
      have hf := lo2_s hf
      generalize lo2 (p_Model_drawn_B3 x1 x2 x4) n = c3 at hf ih3
      unfold p_Model_drawn_B3 at hf
      have lab23 : ∀ (x5 : Int32) (n : Nat) (x6 : Int32) (s : XS) (H : Heap) (locs : List Loc) (ls : Array Slot), lo2 (p_Model_drawn_B23 x1 x2 x4 x5 c3) n x6 s = some (r, s') → HW Z (wY Z Q) A s0 H locs s → lv_has ls 11 [(0, .ref (Q 0)), (1, .int x1), (2, .long x2), (4, .int x4), (5, .int x5), (6, .int x6)] → W p l e { frames := 1, cells := 0, slots := 0, locals := 24 } s0 m args below meth c H locs 0 0 (MQ below (QcI Z (wY Z Q) A r s') args s0 0 0 A) (F0 m 23 ls []) := by
        intro x5 n
        induction n with
        | zero => intro x6 s H locs ls hf; exact absurd hf lo2_z
        | succ n ih23 =>
          intro x6 s H locs ls hf h hl
          have hf := lo2_s hf
          generalize lo2 (p_Model_drawn_B23 x1 x2 x4 x5 c3) n = c23 at hf ih23
          unfold p_Model_drawn_B23 at hf
          have lab46 : ∀ (x6 : Int32) (n : Nat) (x7 : Int32) (s : XS) (H : Heap) (locs : List Loc) (ls : Array Slot), lo2 (p_Model_drawn_B46 x1 x2 x4 x5 x6 c23) n x7 s = some (r, s') → HW Z (wY Z Q) A s0 H locs s → lv_has ls 11 [(0, .ref (Q 0)), (1, .int x1), (2, .long x2), (4, .int x4), (5, .int x5), (6, .int x6), (7, .int x7)] → W p l e { frames := 1, cells := 0, slots := 0, locals := 24 } s0 m args below meth c H locs 0 0 (MQ below (QcI Z (wY Z Q) A r s') args s0 0 0 A) (F0 m 46 ls []) := by
            intro x6 n
            induction n with
            | zero => intro x7 s H locs ls hf; exact absurd hf lo2_z
            | succ n ih46 =>
              intro x7 s H locs ls hf h hl
              have hf := lo2_s hf
              generalize lo2 (p_Model_drawn_B46 x1 x2 x4 x5 x6 c23) n = c46 at hf ih46
              unfold p_Model_drawn_B46 at hf
              refine lv_iload hx hb dX10_drawn_46 (lv_at hl 6 rfl) ?_
              refine lv_iload_n hx hb dX10_drawn_48 rfl (lv_at hl 1 rfl) ?_
              refine lv_iconst (v := (2 : Int32)) hx hb dX10_drawn_49 (by decide) ?_
              obtain ⟨r2, hc1, hf⟩ := ob1 hf
              refine call_SI F (c_Model_partOf l Z (wY Z Q) s x1 (2 : Int32) hc1) (va_cwS 2 hts gX10_drawn_X10_partOf rfl rfl rfl (by decide +kernel) ⟨Nat.le_of_ble_eq_true rfl, Nat.le_of_ble_eq_true rfl⟩) h rfl hl.1 rfl (Nat.le_of_ble_eq_true rfl) ⟨Nat.zero_le _, Nat.zero_le _⟩ dX10_drawn_50 (fun H locs h => ?_)
              refine lv_icmp_gt (tgt := 187) hx hb dX10_drawn_53 (by decide) (fun c_4 => ?_) (fun c_4 => ?_)
              · have hf := ip c_4 hf
                refine lv_iinc (v := (x6 + (1 : Int32))) (lv' := [(6, .int (x6 + (1 : Int32))), (0, .ref (Q 0)), (1, .int x1), (2, .long x2), (4, .int x4), (5, .int x5), (7, .int x7)]) hx hb dX10_drawn_187 hl (k := 5) rfl (congrArg (fun z => x6 + z) (by decide : Int32.ofInt (1) = (1 : Int32))) (by decide) rfl (fun ls hl => ?_)
                have hl := lv_sub (l' := [(0, .ref (Q 0)), (1, .int x1), (2, .long x2), (4, .int x4), (5, .int x5), (6, .int (x6 + (1 : Int32))), (7, .int x7)]) hl [1, 2, 3, 4, 5, 0, 6] rfl
                refine lv_goto (tgt := 23) hx hb dX10_drawn_190 (by decide) ?_
                exact ih23 (x6 + (1 : Int32)) s H locs ls hf h (lv_sub hl [0, 1, 2, 3, 4, 5] rfl)
              · have hf := im c_4 hf
                refine lv_iload hx hb dX10_drawn_56 (lv_at hl 4 rfl) ?_
                refine lv_iload hx hb dX10_drawn_58 (lv_at hl 5 rfl) ?_
                refine lv_iadd hx hb dX10_drawn_60 ?_
                refine lv_iload hx hb dX10_drawn_61 (lv_at hl 6 rfl) ?_
                refine lv_iadd hx hb dX10_drawn_63 ?_
                refine lv_iload hx hb dX10_drawn_64 (lv_at hl 3 rfl) ?_
                refine lv_icmp_gt (tgt := 187) hx hb dX10_drawn_66 (by decide) (fun c_5 => ?_) (fun c_5 => ?_)
                · have hf := ip c_5 hf
                  refine lv_iinc (v := (x6 + (1 : Int32))) (lv' := [(6, .int (x6 + (1 : Int32))), (0, .ref (Q 0)), (1, .int x1), (2, .long x2), (4, .int x4), (5, .int x5), (7, .int x7)]) hx hb dX10_drawn_187 hl (k := 5) rfl (congrArg (fun z => x6 + z) (by decide : Int32.ofInt (1) = (1 : Int32))) (by decide) rfl (fun ls hl => ?_)
                  have hl := lv_sub (l' := [(0, .ref (Q 0)), (1, .int x1), (2, .long x2), (4, .int x4), (5, .int x5), (6, .int (x6 + (1 : Int32))), (7, .int x7)]) hl [1, 2, 3, 4, 5, 0, 6] rfl
                  refine lv_goto (tgt := 23) hx hb dX10_drawn_190 (by decide) ?_
                  exact ih23 (x6 + (1 : Int32)) s H locs ls hf h (lv_sub hl [0, 1, 2, 3, 4, 5] rfl)
                · have hf := im c_5 hf
                  refine lv_iload hx hb dX10_drawn_69 (lv_at hl 3 rfl) ?_
                  refine lv_iload hx hb dX10_drawn_71 (lv_at hl 4 rfl) ?_
                  refine lv_isub hx hb dX10_drawn_73 ?_
                  refine lv_iload hx hb dX10_drawn_74 (lv_at hl 5 rfl) ?_
                  refine lv_isub hx hb dX10_drawn_76 ?_
                  refine lv_iload hx hb dX10_drawn_77 (lv_at hl 6 rfl) ?_
                  refine lv_isub hx hb dX10_drawn_79 ?_
                  refine lv_istore (lv' := [(8, .int (((x4 - x5) - x6) - x7)), (0, .ref (Q 0)), (1, .int x1), (2, .long x2), (4, .int x4), (5, .int x5), (6, .int x6), (7, .int x7)]) hx hb dX10_drawn_80 hl (by decide) rfl (fun ls hl => ?_)
                  have hl := lv_sub (l' := [(0, .ref (Q 0)), (1, .int x1), (2, .long x2), (4, .int x4), (5, .int x5), (6, .int x6), (7, .int x7), (8, .int (((x4 - x5) - x6) - x7))]) hl [1, 2, 3, 4, 5, 6, 7, 0] rfl
                  refine lv_iload hx hb dX10_drawn_82 (lv_at hl 7 rfl) ?_
                  refine lv_iload_n hx hb dX10_drawn_84 rfl (lv_at hl 1 rfl) ?_
                  refine lv_iconst (v := (3 : Int32)) hx hb dX10_drawn_85 (by decide) ?_
                  obtain ⟨r7, hc6, hf⟩ := ob1 hf
                  refine call_SI F (c_Model_partOf l Z (wY Z Q) s x1 (3 : Int32) hc6) (va_cwS 2 hts gX10_drawn_X10_partOf rfl rfl rfl (by decide +kernel) ⟨Nat.le_of_ble_eq_true rfl, Nat.le_of_ble_eq_true rfl⟩) h rfl hl.1 rfl (Nat.le_of_ble_eq_true rfl) ⟨Nat.zero_le _, Nat.zero_le _⟩ dX10_drawn_86 (fun H locs h => ?_)
                  refine lv_icmp_le (tgt := 95) hx hb dX10_drawn_89 (by decide) (fun c_9 => ?_) (fun c_9 => ?_)
                  · have hf := ip c_9 hf
                    refine lv_iload_n hx hb dX10_drawn_95 rfl (lv_at hl 1 rfl) ?_
                    refine lv_iconst (v := (0 : Int32)) hx hb dX10_drawn_96 (by decide) ?_
                    obtain ⟨r11, hc10, hf⟩ := ob1 hf
                    refine call_SI F (c_Model_partOf l Z (wY Z Q) s x1 (0 : Int32) hc10) (va_cwS 2 hts gX10_drawn_X10_partOf rfl rfl rfl (by decide +kernel) ⟨Nat.le_of_ble_eq_true rfl, Nat.le_of_ble_eq_true rfl⟩) h rfl hl.1 rfl (Nat.le_of_ble_eq_true rfl) ⟨Nat.zero_le _, Nat.zero_le _⟩ dX10_drawn_97 (fun H locs h => ?_)
                    refine lv_iload hx hb dX10_drawn_100 (lv_at hl 4 rfl) ?_
                    obtain ⟨r14, hc13, hf⟩ := ob1 hf
                    refine call_SL F (c_Model_sets l Z (wY Z Q) s r11 x5 hc13) (va_cwS 2 hts gX10_drawn_X10_sets rfl rfl rfl (by decide +kernel) ⟨Nat.le_of_ble_eq_true rfl, Nat.le_of_ble_eq_true rfl⟩) h rfl hl.1 rfl (Nat.le_of_ble_eq_true rfl) ⟨Nat.zero_le _, Nat.zero_le _⟩ dX10_drawn_102 (fun H locs h => ?_)
                    refine lv_iload_n hx hb dX10_drawn_105 rfl (lv_at hl 1 rfl) ?_
                    refine lv_iconst (v := (1 : Int32)) hx hb dX10_drawn_106 (by decide) ?_
                    obtain ⟨r17, hc16, hf⟩ := ob1 hf
                    refine call_SI F (c_Model_partOf l Z (wY Z Q) s x1 (1 : Int32) hc16) (va_cwS 2 hts gX10_drawn_X10_partOf rfl rfl rfl (by decide +kernel) ⟨Nat.le_of_ble_eq_true rfl, Nat.le_of_ble_eq_true rfl⟩) h rfl hl.1 rfl (Nat.le_of_ble_eq_true rfl) ⟨Nat.zero_le _, Nat.zero_le _⟩ dX10_drawn_107 (fun H locs h => ?_)
                    refine lv_iload hx hb dX10_drawn_110 (lv_at hl 5 rfl) ?_
                    obtain ⟨r20, hc19, hf⟩ := ob1 hf
                    refine call_SL F (c_Model_sets l Z (wY Z Q) s r17 x6 hc19) (va_cwS 2 hts gX10_drawn_X10_sets rfl rfl rfl (by decide +kernel) ⟨Nat.le_of_ble_eq_true rfl, Nat.le_of_ble_eq_true rfl⟩) h rfl hl.1 rfl (Nat.le_of_ble_eq_true rfl) ⟨Nat.zero_le _, Nat.zero_le _⟩ dX10_drawn_112 (fun H locs h => ?_)
                    obtain ⟨r23, hc22, hf⟩ := ob1 hf
                    refine call_SL F (c_Model_times l Z (wY Z Q) s r14 r20 hc22) (va_cwS 2 hts gX10_drawn_X10_times rfl rfl rfl (by decide +kernel) ⟨Nat.le_of_ble_eq_true rfl, Nat.le_of_ble_eq_true rfl⟩) h rfl hl.1 rfl (Nat.le_of_ble_eq_true rfl) ⟨Nat.zero_le _, Nat.zero_le _⟩ dX10_drawn_115 (fun H locs h => ?_)
                    refine lv_iload_n hx hb dX10_drawn_118 rfl (lv_at hl 1 rfl) ?_
                    refine lv_iconst (v := (2 : Int32)) hx hb dX10_drawn_119 (by decide) ?_
                    obtain ⟨r26, hc25, hf⟩ := ob1 hf
                    refine call_SI F (c_Model_partOf l Z (wY Z Q) s x1 (2 : Int32) hc25) (va_cwS 2 hts gX10_drawn_X10_partOf rfl rfl rfl (by decide +kernel) ⟨Nat.le_of_ble_eq_true rfl, Nat.le_of_ble_eq_true rfl⟩) h rfl hl.1 rfl (Nat.le_of_ble_eq_true rfl) ⟨Nat.zero_le _, Nat.zero_le _⟩ dX10_drawn_120 (fun H locs h => ?_)
                    refine lv_iload hx hb dX10_drawn_123 (lv_at hl 6 rfl) ?_
                    obtain ⟨r29, hc28, hf⟩ := ob1 hf
                    refine call_SL F (c_Model_sets l Z (wY Z Q) s r26 x7 hc28) (va_cwS 2 hts gX10_drawn_X10_sets rfl rfl rfl (by decide +kernel) ⟨Nat.le_of_ble_eq_true rfl, Nat.le_of_ble_eq_true rfl⟩) h rfl hl.1 rfl (Nat.le_of_ble_eq_true rfl) ⟨Nat.zero_le _, Nat.zero_le _⟩ dX10_drawn_125 (fun H locs h => ?_)
                    refine lv_iload_n hx hb dX10_drawn_128 rfl (lv_at hl 1 rfl) ?_
                    refine lv_iconst (v := (3 : Int32)) hx hb dX10_drawn_129 (by decide) ?_
                    obtain ⟨r32, hc31, hf⟩ := ob1 hf
                    refine call_SI F (c_Model_partOf l Z (wY Z Q) s x1 (3 : Int32) hc31) (va_cwS 2 hts gX10_drawn_X10_partOf rfl rfl rfl (by decide +kernel) ⟨Nat.le_of_ble_eq_true rfl, Nat.le_of_ble_eq_true rfl⟩) h rfl hl.1 rfl (Nat.le_of_ble_eq_true rfl) ⟨Nat.zero_le _, Nat.zero_le _⟩ dX10_drawn_130 (fun H locs h => ?_)
                    refine lv_iload hx hb dX10_drawn_133 (lv_at hl 7 rfl) ?_
                    obtain ⟨r35, hc34, hf⟩ := ob1 hf
                    refine call_SL F (c_Model_sets l Z (wY Z Q) s r32 (((x4 - x5) - x6) - x7) hc34) (va_cwS 2 hts gX10_drawn_X10_sets rfl rfl rfl (by decide +kernel) ⟨Nat.le_of_ble_eq_true rfl, Nat.le_of_ble_eq_true rfl⟩) h rfl hl.1 rfl (Nat.le_of_ble_eq_true rfl) ⟨Nat.zero_le _, Nat.zero_le _⟩ dX10_drawn_135 (fun H locs h => ?_)
                    obtain ⟨r38, hc37, hf⟩ := ob1 hf
                    refine call_SL F (c_Model_times l Z (wY Z Q) s r29 r35 hc37) (va_cwS 2 hts gX10_drawn_X10_times rfl rfl rfl (by decide +kernel) ⟨Nat.le_of_ble_eq_true rfl, Nat.le_of_ble_eq_true rfl⟩) h rfl hl.1 rfl (Nat.le_of_ble_eq_true rfl) ⟨Nat.zero_le _, Nat.zero_le _⟩ dX10_drawn_138 (fun H locs h => ?_)
                    obtain ⟨r41, hc40, hf⟩ := ob1 hf
                    refine call_SL F (c_Model_times l Z (wY Z Q) s r23 r38 hc40) (va_cwS 2 hts gX10_drawn_X10_times rfl rfl rfl (by decide +kernel) ⟨Nat.le_of_ble_eq_true rfl, Nat.le_of_ble_eq_true rfl⟩) h rfl hl.1 rfl (Nat.le_of_ble_eq_true rfl) ⟨Nat.zero_le _, Nat.zero_le _⟩ dX10_drawn_141 (fun H locs h => ?_)
                    refine lv_lstore (lv' := [(9, .long r41), (0, .ref (Q 0)), (1, .int x1), (2, .long x2), (4, .int x4), (5, .int x5), (6, .int x6), (7, .int x7), (8, .int (((x4 - x5) - x6) - x7))]) hx hb dX10_drawn_144 hl (by decide) rfl (fun ls hl => ?_)
                    have hl := lv_sub (l' := [(0, .ref (Q 0)), (1, .int x1), (2, .long x2), (4, .int x4), (5, .int x5), (6, .int x6), (7, .int x7), (8, .int (((x4 - x5) - x6) - x7)), (9, .long r41)]) hl [1, 2, 3, 4, 5, 6, 7, 8, 0] rfl
                    refine lv_aload_n hx hb dX10_drawn_146 rfl (lv_at hl 0 rfl) ?_
                    refine lv_iload hx hb dX10_drawn_147 (lv_at hl 4 rfl) ?_
                    refine lv_iload hx hb dX10_drawn_149 (lv_at hl 5 rfl) ?_
                    refine lv_bipush (v := (6 : Int32)) hx hb dX10_drawn_151 (by decide) ?_
                    refine lv_ishl hx hb dX10_drawn_153 ?_
                    refine lv_ior hx hb dX10_drawn_154 ?_
                    refine lv_iload hx hb dX10_drawn_155 (lv_at hl 6 rfl) ?_
                    refine lv_bipush (v := (12 : Int32)) hx hb dX10_drawn_157 (by decide) ?_
                    refine lv_ishl hx hb dX10_drawn_159 ?_
                    refine lv_ior hx hb dX10_drawn_160 ?_
                    refine lv_iload hx hb dX10_drawn_161 (lv_at hl 7 rfl) ?_
                    refine lv_bipush (v := (18 : Int32)) hx hb dX10_drawn_163 (by decide) ?_
                    refine lv_ishl hx hb dX10_drawn_165 ?_
                    refine lv_ior hx hb dX10_drawn_166 ?_
                    refine lv_lload_n hx hb dX10_drawn_167 rfl (lv_at hl 2 rfl) ?_
                    refine lv_lload hx hb dX10_drawn_168 (lv_at hl 8 rfl) ?_
                    obtain ⟨r44, hc43, hf⟩ := ob1 hf
                    refine call_SL F (c_Model_times l Z (wY Z Q) s x2 r41 hc43) (va_cwS 2 hts gX10_drawn_X10_times rfl rfl rfl (by decide +kernel) ⟨Nat.le_of_ble_eq_true rfl, Nat.le_of_ble_eq_true rfl⟩) h rfl hl.1 rfl (Nat.le_of_ble_eq_true rfl) ⟨Nat.zero_le _, Nat.zero_le _⟩ dX10_drawn_170 (fun H locs h => ?_)
                    obtain ⟨r47, s48, hc46, hf⟩ := ob2 hf
                    refine call_VI F (c_Model_comes l Z Q s (((x5 ||| (x6 <<< ((6 : Int32) &&& 31))) ||| (x7 <<< ((12 : Int32) &&& 31))) ||| ((((x4 - x5) - x6) - x7) <<< ((18 : Int32) &&& 31))) r44 hc46) (cwV 2 hts gX10_drawn_X10_comes rfl rfl rfl (by decide +kernel) ⟨Nat.le_of_ble_eq_true rfl, Nat.le_of_ble_eq_true rfl⟩) h (rcY_Model h) rfl hl.1 rfl (Nat.le_of_ble_eq_true rfl) ⟨Nat.zero_le _, Nat.zero_le _⟩ dX10_drawn_173 (fun H locs h => ?_)
                    refine lv_if_ne (tgt := 181) hx hb dX10_drawn_176 (by decide) (fun c_49 => ?_) (fun c_49 => ?_)
                    · have hf := im c_49 hf
                      refine lv_iinc (v := (x7 + (1 : Int32))) (lv' := [(7, .int (x7 + (1 : Int32))), (0, .ref (Q 0)), (1, .int x1), (2, .long x2), (4, .int x4), (5, .int x5), (6, .int x6), (8, .int (((x4 - x5) - x6) - x7)), (9, .long r41)]) hx hb dX10_drawn_181 hl (k := 6) rfl (congrArg (fun z => x7 + z) (by decide : Int32.ofInt (1) = (1 : Int32))) (by decide) rfl (fun ls hl => ?_)
                      have hl := lv_sub (l' := [(0, .ref (Q 0)), (1, .int x1), (2, .long x2), (4, .int x4), (5, .int x5), (6, .int x6), (7, .int (x7 + (1 : Int32))), (8, .int (((x4 - x5) - x6) - x7)), (9, .long r41)]) hl [1, 2, 3, 4, 5, 6, 0, 7, 8] rfl
                      refine lv_goto (tgt := 46) hx hb dX10_drawn_184 (by decide) ?_
                      exact ih46 (x7 + (1 : Int32)) s48 H locs ls hf h (lv_sub hl [0, 1, 2, 3, 4, 5, 6] rfl)
                    · have hf := ip c_49 hf
                      refine lv_iconst (v := (0 : Int32)) hx hb dX10_drawn_179 (by decide) ?_
                      exact retE_Z F hr hlk (by decide) h hf dX10_drawn_180
                  · have hf := im c_9 hf
                    refine lv_goto (tgt := 181) hx hb dX10_drawn_92 (by decide) ?_
                    refine lv_iinc (v := (x7 + (1 : Int32))) (lv' := [(7, .int (x7 + (1 : Int32))), (0, .ref (Q 0)), (1, .int x1), (2, .long x2), (4, .int x4), (5, .int x5), (6, .int x6), (8, .int (((x4 - x5) - x6) - x7))]) hx hb dX10_drawn_181 hl (k := 6) rfl (congrArg (fun z => x7 + z) (by decide : Int32.ofInt (1) = (1 : Int32))) (by decide) rfl (fun ls hl => ?_)
                    have hl := lv_sub (l' := [(0, .ref (Q 0)), (1, .int x1), (2, .long x2), (4, .int x4), (5, .int x5), (6, .int x6), (7, .int (x7 + (1 : Int32))), (8, .int (((x4 - x5) - x6) - x7))]) hl [1, 2, 3, 4, 5, 6, 0, 7] rfl
                    refine lv_goto (tgt := 46) hx hb dX10_drawn_184 (by decide) ?_
                    exact ih46 (x7 + (1 : Int32)) s H locs ls hf h (lv_sub hl [0, 1, 2, 3, 4, 5, 6] rfl)
          refine lv_iload hx hb dX10_drawn_23 (lv_at hl 5 rfl) ?_
          refine lv_iload_n hx hb dX10_drawn_25 rfl (lv_at hl 1 rfl) ?_
          refine lv_iconst (v := (1 : Int32)) hx hb dX10_drawn_26 (by decide) ?_
          obtain ⟨r51, hc50, hf⟩ := ob1 hf
          refine call_SI F (c_Model_partOf l Z (wY Z Q) s x1 (1 : Int32) hc50) (va_cwS 2 hts gX10_drawn_X10_partOf rfl rfl rfl (by decide +kernel) ⟨Nat.le_of_ble_eq_true rfl, Nat.le_of_ble_eq_true rfl⟩) h rfl hl.1 rfl (Nat.le_of_ble_eq_true rfl) ⟨Nat.zero_le _, Nat.zero_le _⟩ dX10_drawn_27 (fun H locs h => ?_)
          refine lv_icmp_gt (tgt := 193) hx hb dX10_drawn_30 (by decide) (fun c_53 => ?_) (fun c_53 => ?_)
          · have hf := ip c_53 hf
            refine lv_iinc (v := (x5 + (1 : Int32))) (lv' := [(5, .int (x5 + (1 : Int32))), (0, .ref (Q 0)), (1, .int x1), (2, .long x2), (4, .int x4), (6, .int x6)]) hx hb dX10_drawn_193 hl (k := 4) rfl (congrArg (fun z => x5 + z) (by decide : Int32.ofInt (1) = (1 : Int32))) (by decide) rfl (fun ls hl => ?_)
            have hl := lv_sub (l' := [(0, .ref (Q 0)), (1, .int x1), (2, .long x2), (4, .int x4), (5, .int (x5 + (1 : Int32))), (6, .int x6)]) hl [1, 2, 3, 4, 0, 5] rfl
            refine lv_goto (tgt := 3) hx hb dX10_drawn_196 (by decide) ?_
            exact ih3 (x5 + (1 : Int32)) s H locs ls hf h (lv_sub hl [0, 1, 2, 3, 4] rfl)
          · have hf := im c_53 hf
            refine lv_iload hx hb dX10_drawn_33 (lv_at hl 4 rfl) ?_
            refine lv_iload hx hb dX10_drawn_35 (lv_at hl 5 rfl) ?_
            refine lv_iadd hx hb dX10_drawn_37 ?_
            refine lv_iload hx hb dX10_drawn_38 (lv_at hl 3 rfl) ?_
            refine lv_icmp_gt (tgt := 193) hx hb dX10_drawn_40 (by decide) (fun c_54 => ?_) (fun c_54 => ?_)
            · have hf := ip c_54 hf
              refine lv_iinc (v := (x5 + (1 : Int32))) (lv' := [(5, .int (x5 + (1 : Int32))), (0, .ref (Q 0)), (1, .int x1), (2, .long x2), (4, .int x4), (6, .int x6)]) hx hb dX10_drawn_193 hl (k := 4) rfl (congrArg (fun z => x5 + z) (by decide : Int32.ofInt (1) = (1 : Int32))) (by decide) rfl (fun ls hl => ?_)
              have hl := lv_sub (l' := [(0, .ref (Q 0)), (1, .int x1), (2, .long x2), (4, .int x4), (5, .int (x5 + (1 : Int32))), (6, .int x6)]) hl [1, 2, 3, 4, 0, 5] rfl
              refine lv_goto (tgt := 3) hx hb dX10_drawn_196 (by decide) ?_
              exact ih3 (x5 + (1 : Int32)) s H locs ls hf h (lv_sub hl [0, 1, 2, 3, 4] rfl)
            · have hf := im c_54 hf
              refine lv_iconst (v := (0 : Int32)) hx hb dX10_drawn_43 (by decide) ?_
              refine lv_istore (lv' := [(7, .int (0 : Int32)), (0, .ref (Q 0)), (1, .int x1), (2, .long x2), (4, .int x4), (5, .int x5), (6, .int x6)]) hx hb dX10_drawn_44 hl (by decide) rfl (fun ls hl => ?_)
              have hl := lv_sub (l' := [(0, .ref (Q 0)), (1, .int x1), (2, .long x2), (4, .int x4), (5, .int x5), (6, .int x6), (7, .int (0 : Int32))]) hl [1, 2, 3, 4, 5, 6, 0] rfl
              exact lab46 x6 fuelN (0 : Int32) s H locs ls hf h (lv_sub hl [0, 1, 2, 3, 4, 5, 6] rfl)
      refine lv_iload hx hb dX10_drawn_3 (lv_at hl 4 rfl) ?_
      refine lv_iload_n hx hb dX10_drawn_5 rfl (lv_at hl 1 rfl) ?_
      refine lv_iconst (v := (0 : Int32)) hx hb dX10_drawn_6 (by decide) ?_
      obtain ⟨r56, hc55, hf⟩ := ob1 hf
      refine call_SI F (c_Model_partOf l Z (wY Z Q) s x1 (0 : Int32) hc55) (va_cwS 2 hts gX10_drawn_X10_partOf rfl rfl rfl (by decide +kernel) ⟨Nat.le_of_ble_eq_true rfl, Nat.le_of_ble_eq_true rfl⟩) h rfl hl.1 rfl (Nat.le_of_ble_eq_true rfl) ⟨Nat.zero_le _, Nat.zero_le _⟩ dX10_drawn_7 (fun H locs h => ?_)
      refine lv_icmp_gt (tgt := 199) hx hb dX10_drawn_10 (by decide) (fun c_58 => ?_) (fun c_58 => ?_)
      · have hf := ip c_58 hf
        refine lv_iconst (v := (1 : Int32)) hx hb dX10_drawn_199 (by decide) ?_
        exact retE_Z F hr hlk (by decide) h hf dX10_drawn_200
      · have hf := im c_58 hf
        refine lv_iload hx hb dX10_drawn_13 (lv_at hl 4 rfl) ?_
        refine lv_iload hx hb dX10_drawn_15 (lv_at hl 3 rfl) ?_
        refine lv_icmp_gt (tgt := 199) hx hb dX10_drawn_17 (by decide) (fun c_59 => ?_) (fun c_59 => ?_)
        · have hf := ip c_59 hf
          refine lv_iconst (v := (1 : Int32)) hx hb dX10_drawn_199 (by decide) ?_
          exact retE_Z F hr hlk (by decide) h hf dX10_drawn_200
        · have hf := im c_59 hf
          refine lv_iconst (v := (0 : Int32)) hx hb dX10_drawn_20 (by decide) ?_
          refine lv_istore (lv' := [(6, .int (0 : Int32)), (0, .ref (Q 0)), (1, .int x1), (2, .long x2), (4, .int x4), (5, .int x5)]) hx hb dX10_drawn_21 hl (by decide) rfl (fun ls hl => ?_)
          have hl := lv_sub (l' := [(0, .ref (Q 0)), (1, .int x1), (2, .long x2), (4, .int x4), (5, .int x5), (6, .int (0 : Int32))]) hl [1, 2, 3, 4, 5, 0] rfl
          exact lab23 x5 fuelN (0 : Int32) s H locs ls hf h (lv_sub hl [0, 1, 2, 3, 4, 5] rfl)
  refine lv_iconst (v := (0 : Int32)) hx hb dX10_drawn_0 (by decide) ?_
  refine lv_istore (lv' := [(5, .int (0 : Int32)), (0, .ref (Q 0)), (1, .int x1), (2, .long x2), (4, .int x4)]) hx hb dX10_drawn_1 hl (by decide) rfl (fun ls hl => ?_)
  have hl := lv_sub (l' := [(0, .ref (Q 0)), (1, .int x1), (2, .long x2), (4, .int x4), (5, .int (0 : Int32))]) hl [1, 2, 3, 4, 0] rfl
  exact lab3 x1 x2 x4 fuelN (0 : Int32) s H locs ls hf h (lv_sub hl [0, 1, 2, 3, 4] rfl)

