set_option maxHeartbeats 8000000 in
set_option maxRecDepth 100000 in
theorem c_Model_oneStep (l : Launch) (Z : ZT) (Q : Nat → Nat) (s : XS) (x1 : Int32) {r : Int32} {s' : XS} (hf : p_Model_oneStep x1 s = some (r, s')) : KI l Z (wY Z Q) yX10_oneStep wsX10_oneStep { frames := 3, cells := 0, slots := 0, locals := 66 } [.ref (Q 0), .int x1] s r s' := by
  intro sz
  refine met_entry (cc := cX10_oneStep) (maxL := 5) (ret := (some .boolean)) (by decide) rfl (Nat.le_of_ble_eq_true rfl) sz rfl ?_
  generalize va_A (wY Z Q s) sz = A
  intro p e s0 m args below meth c ls F hr hlk h hl
  have hl : lv_has ls 5 [(0, .ref (Q 0)), (1, .int x1)] := hl
  obtain ⟨hx, hb, hml, hown, hts⟩ := id F
  have hinX10 : ∀ w ∈ wsX100, w ∈ wsX10_oneStep := by decide +kernel
  obtain ⟨H, eH⟩ : ∃ z, z = s0.heap := ⟨_, rfl⟩
  obtain ⟨locs, eL⟩ : ∃ z : List Loc, z = [] := ⟨_, rfl⟩
  rw [← eH, ← eL] at h ⊢
  unfold p_Model_oneStep at hf
  have lab74 : ∀ (s : XS) (H : Heap) (locs : List Loc) (ls : Array Slot), p_Model_oneStep_K74 s = some (r, s') → HW Z (wY Z Q) A s0 H locs s → lv_has ls 5 [(0, .ref (Q 0))] → W p l e { frames := 3, cells := 0, slots := 0, locals := 66 } s0 m args below meth c H locs 0 0 (MQ below (QcI Z (wY Z Q) A r s') args s0 0 0 A) (F0 m 74 ls []) := by
    intro s H locs ls hf h hl
    unfold p_Model_oneStep_K74 at hf
    refine lv_aload_n hx hb dX10_oneStep_74 rfl (lv_at hl 0 rfl) ?_
    refine lv_iconst (v := (0 : Int32)) hx hb dX10_oneStep_75 (by decide) ?_
    refine lv_aload_n hx hb dX10_oneStep_76 rfl (lv_at hl 0 rfl) ?_
    refine gY_Model_wordAt F h hinX10 (hts (.fieldLink RX10 135 "ElectionHouseModel" "wordAt" "I") (by decide +kernel)) dX10_oneStep_77 ?_
    obtain ⟨r2, s3, hc1, hf⟩ := ob2 hf
    refine call_VI F (c_Model_fails l Z Q s (0 : Int32) (gM s 0 29) hc1) (cwV 2 hts gX10_oneStep_X10_fails rfl rfl rfl (by decide +kernel) ⟨Nat.le_of_ble_eq_true rfl, Nat.le_of_ble_eq_true rfl⟩) h (rcY_Model h) rfl hl.1 rfl (Nat.le_of_ble_eq_true rfl) ⟨Nat.zero_le _, Nat.zero_le _⟩ dX10_oneStep_80 (fun H locs h => ?_)
    obtain ⟨gz, hf⟩ := og hf
    exact retE_Z F hr hlk gz h hf dX10_oneStep_83
  have lab66 : ∀ (x1 : Int32) (x2 : Int32) (x3 : Int32) (x4 : Int32) (s : XS) (H : Heap) (locs : List Loc) (ls : Array Slot), p_Model_oneStep_K66 x1 x2 x3 x4 s = some (r, s') → HW Z (wY Z Q) A s0 H locs s → lv_has ls 5 [(0, .ref (Q 0)), (1, .int x1), (2, .int x2), (3, .int x3), (4, .int x4)] → W p l e { frames := 3, cells := 0, slots := 0, locals := 66 } s0 m args below meth c H locs 0 0 (MQ below (QcI Z (wY Z Q) A r s') args s0 0 0 A) (F0 m 66 ls []) := by
    intro x1 x2 x3 x4 s H locs ls hf h hl
    unfold p_Model_oneStep_K66 at hf
    have lab84 : ∀ (x1 : Int32) (x2 : Int32) (x3 : Int32) (x4 : Int32) (s : XS) (H : Heap) (locs : List Loc) (ls : Array Slot), p_Model_oneStep_K84 x1 x2 x3 x4 s = some (r, s') → HW Z (wY Z Q) A s0 H locs s → lv_has ls 5 [(0, .ref (Q 0)), (1, .int x1), (2, .int x2), (3, .int x3), (4, .int x4)] → W p l e { frames := 3, cells := 0, slots := 0, locals := 66 } s0 m args below meth c H locs 0 0 (MQ below (QcI Z (wY Z Q) A r s') args s0 0 0 A) (F0 m 84 ls []) := by
      intro x1 x2 x3 x4 s H locs ls hf h hl
      unfold p_Model_oneStep_K84 at hf
      have lab135 : ∀ (x1 : Int32) (x2 : Int32) (x4 : Int32) (t0 : Int32) (t1 : Int32) (s : XS) (H : Heap) (locs : List Loc) (ls : Array Slot), p_Model_oneStep_K135 x1 x2 x4 t0 t1 s = some (r, s') → HW Z (wY Z Q) A s0 H locs s → lv_has ls 5 [(0, .ref (Q 0)), (1, .int x1), (2, .int x2), (4, .int x4)] → W p l e { frames := 3, cells := 0, slots := 0, locals := 66 } s0 m args below meth c H locs 0 0 (MQ below (QcI Z (wY Z Q) A r s') args s0 0 0 A) (F0 m 135 ls [.int t0, .int t1, .ref (Q 11)]) := by
        intro x1 x2 x4 t0 t1 s H locs ls hf h hl
        unfold p_Model_oneStep_K135 at hf
        have lab212 : ∀ (x1 : Int32) (x2 : Int32) (x4 : Int32) (s : XS) (H : Heap) (locs : List Loc) (ls : Array Slot), p_Model_oneStep_K212 x1 x2 x4 s = some (r, s') → HW Z (wY Z Q) A s0 H locs s → lv_has ls 5 [(0, .ref (Q 0)), (1, .int x1), (2, .int x2), (4, .int x4)] → W p l e { frames := 3, cells := 0, slots := 0, locals := 66 } s0 m args below meth c H locs 0 0 (MQ below (QcI Z (wY Z Q) A r s') args s0 0 0 A) (F0 m 212 ls []) := by
          intro x1 x2 x4 s H locs ls hf h hl
          unfold p_Model_oneStep_K212 at hf
          refine lv_iload_n hx hb dX10_oneStep_212 rfl (lv_at hl 2 rfl) ?_
          refine lv_if_eq (tgt := 226) hx hb dX10_oneStep_213 (by decide) (fun c_4 => ?_) (fun c_4 => ?_)
          · have hf := ip c_4 hf
            refine lv_aload_n hx hb dX10_oneStep_226 rfl (lv_at hl 0 rfl) ?_
            obtain ⟨r6, s7, hc5, hf⟩ := ob2 hf
            refine call_VI F (c_Model_by l Z Q s hc5) (cwV 0 hts gX10_oneStep_X10_by rfl rfl rfl (by decide +kernel) ⟨Nat.le_of_ble_eq_true rfl, Nat.le_of_ble_eq_true rfl⟩) h (rcY_Model h) rfl hl.1 rfl (Nat.le_of_ble_eq_true rfl) ⟨Nat.zero_le _, Nat.zero_le _⟩ dX10_oneStep_227 (fun H locs h => ?_)
            refine lv_if_ne (tgt := 235) hx hb dX10_oneStep_230 (by decide) (fun c_8 => ?_) (fun c_8 => ?_)
            · have hf := im c_8 hf
              refine lv_aload_n hx hb dX10_oneStep_235 rfl (lv_at hl 0 rfl) ?_
              refine gY_Model_said F h hinX10 (hts (.fieldLink RX10 148 "ElectionHouseModel" "said" "I") (by decide +kernel)) dX10_oneStep_236 ?_
              refine lv_aload_n hx hb dX10_oneStep_239 rfl (lv_at hl 0 rfl) ?_
              refine gY_Model_bodyByText F h hinX10 (hts (.fieldLink RX10 161 "ElectionHouseModel" "bodyByText" "I") (by decide +kernel)) dX10_oneStep_240 ?_
              refine lv_icmp_le (tgt := 256) hx hb dX10_oneStep_243 (by decide) (fun c_9 => ?_) (fun c_9 => ?_)
              · have hf := ip c_9 hf
                refine lv_aload_n hx hb dX10_oneStep_256 rfl (lv_at hl 0 rfl) ?_
                refine gY_Model_readVotes F h hinX10 (hts (.fieldLink RX10 48 "ElectionHouseModel" "readVotes" "[I") (by decide +kernel)) dX10_oneStep_257 ?_
                refine lv_iload_n hx hb dX10_oneStep_260 rfl (lv_at hl 1 rfl) ?_
                refine lv_aload_n hx hb dX10_oneStep_261 rfl (lv_at hl 0 rfl) ?_
                refine gY_Model_said F h hinX10 (hts (.fieldLink RX10 148 "ElectionHouseModel" "said" "I") (by decide +kernel)) dX10_oneStep_262 ?_
                obtain ⟨gi10, hf⟩ := og hf
                refine sY_mreadVotes F h gi10 dX10_oneStep_265 (fun H locs h => ?_)
                obtain ⟨s11, es, hf⟩ := olq hf
                rw [← es] at h
                refine lv_iload hx hb dX10_oneStep_266 (lv_at hl 3 rfl) ?_
                refine lv_if_eq (tgt := 273) hx hb dX10_oneStep_268 (by decide) (fun c_12 => ?_) (fun c_12 => ?_)
                · have hf := ip c_12 hf
                  refine lv_aload_n hx hb dX10_oneStep_273 rfl (lv_at hl 0 rfl) ?_
                  obtain ⟨s15, hc13, hf⟩ := ob1 hf
                  refine call_VV F (c_Model_looks l Z Q s11 hc13) (cwV 0 hts gX10_oneStep_X10_looks rfl rfl rfl (by decide +kernel) ⟨Nat.le_of_ble_eq_true rfl, Nat.le_of_ble_eq_true rfl⟩) h (rcY_Model h) rfl hl.1 rfl (Nat.le_of_ble_eq_true rfl) ⟨Nat.zero_le _, Nat.zero_le _⟩ dX10_oneStep_274 (fun H locs h => ?_)
                  refine lv_aload_n hx hb dX10_oneStep_277 rfl (lv_at hl 0 rfl) ?_
                  refine lv_bipush (v := (104 : Int32)) hx hb dX10_oneStep_278 (by decide) ?_
                  refine lv_bipush (v := (111 : Int32)) hx hb dX10_oneStep_280 (by decide) ?_
                  refine lv_bipush (v := (117 : Int32)) hx hb dX10_oneStep_282 (by decide) ?_
                  refine lv_bipush (v := (115 : Int32)) hx hb dX10_oneStep_284 (by decide) ?_
                  refine lv_bipush (v := (101 : Int32)) hx hb dX10_oneStep_286 (by decide) ?_
                  refine lv_iconst (v := (0 : Int32)) hx hb dX10_oneStep_288 (by decide) ?_
                  obtain ⟨r17, s18, hc16, hf⟩ := ob2 hf
                  refine call_VI F (c_Model_isWord l Z Q s15 (104 : Int32) (111 : Int32) (117 : Int32) (115 : Int32) (101 : Int32) (0 : Int32) hc16) (cwV 6 hts gX10_oneStep_X10_isWord rfl rfl rfl (by decide +kernel) ⟨Nat.le_of_ble_eq_true rfl, Nat.le_of_ble_eq_true rfl⟩) h (rcY_Model h) rfl hl.1 rfl (Nat.le_of_ble_eq_true rfl) ⟨Nat.zero_le _, Nat.zero_le _⟩ dX10_oneStep_289 (fun H locs h => ?_)
                  refine lv_if_eq (tgt := 329) hx hb dX10_oneStep_292 (by decide) (fun c_19 => ?_) (fun c_19 => ?_)
                  · have hf := ip c_19 hf
                    refine lv_aload_n hx hb dX10_oneStep_329 rfl (lv_at hl 0 rfl) ?_
                    refine lv_aload_n hx hb dX10_oneStep_330 rfl (lv_at hl 0 rfl) ?_
                    refine gY_Model_readMany F h hinX10 (hts (.fieldLink RX10 45 "ElectionHouseModel" "readMany" "[I") (by decide +kernel)) dX10_oneStep_331 ?_
                    refine lv_iload_n hx hb dX10_oneStep_334 rfl (lv_at hl 1 rfl) ?_
                    obtain ⟨gi20, hf⟩ := og hf
                    refine lY_mreadMany F h gi20 dX10_oneStep_335 ?_
                    refine pY_Model_bodyByText F h hinX10 (hts (.fieldLink RX10 161 "ElectionHouseModel" "bodyByText" "I") (by decide +kernel)) dX10_oneStep_336 (fun H locs h => ?_)
                    obtain ⟨s21, es, hf⟩ := olq hf
                    rw [← es] at h
                    refine lv_iconst (v := (1 : Int32)) hx hb dX10_oneStep_339 (by decide) ?_
                    exact retE_Z F hr hlk (by decide) h hf dX10_oneStep_340
                  · have hf := im c_19 hf
                    refine lv_aload_n hx hb dX10_oneStep_295 rfl (lv_at hl 0 rfl) ?_
                    refine lv_aload_n hx hb dX10_oneStep_296 rfl (lv_at hl 0 rfl) ?_
                    refine gY_Model_wordAt F h hinX10 (hts (.fieldLink RX10 135 "ElectionHouseModel" "wordAt" "I") (by decide +kernel)) dX10_oneStep_297 ?_
                    refine lv_aload_n hx hb dX10_oneStep_300 rfl (lv_at hl 0 rfl) ?_
                    refine gY_Model_wordSize F h hinX10 (hts (.fieldLink RX10 138 "ElectionHouseModel" "wordSize" "I") (by decide +kernel)) dX10_oneStep_301 ?_
                    refine lv_iadd hx hb dX10_oneStep_304 ?_
                    refine pY_Model_next F h hinX10 (hts (.fieldLink RX10 128 "ElectionHouseModel" "next" "I") (by decide +kernel)) dX10_oneStep_305 (fun H locs h => ?_)
                    obtain ⟨s22, es, hf⟩ := olq hf
                    rw [← es] at h
                    refine lv_aload_n hx hb dX10_oneStep_308 rfl (lv_at hl 0 rfl) ?_
                    refine lv_bipush (v := (9 : Int32)) hx hb dX10_oneStep_309 (by decide) ?_
                    obtain ⟨r24, s25, hc23, hf⟩ := ob2 hf
                    refine call_VI F (c_Model_number l Z Q s22 (9 : Int32) hc23) (cwV 1 hts gX10_oneStep_X10_number rfl rfl rfl (by decide +kernel) ⟨Nat.le_of_ble_eq_true rfl, Nat.le_of_ble_eq_true rfl⟩) h (rcY_Model h) rfl hl.1 rfl (Nat.le_of_ble_eq_true rfl) ⟨Nat.zero_le _, Nat.zero_le _⟩ dX10_oneStep_311 (fun H locs h => ?_)
                    refine lv_if_ne (tgt := 319) hx hb dX10_oneStep_314 (by decide) (fun c_26 => ?_) (fun c_26 => ?_)
                    · have hf := im c_26 hf
                      refine lv_aload_n hx hb dX10_oneStep_319 rfl (lv_at hl 0 rfl) ?_
                      refine gY_Model_readMost F h hinX10 (hts (.fieldLink RX10 51 "ElectionHouseModel" "readMost" "[I") (by decide +kernel)) dX10_oneStep_320 ?_
                      refine lv_iload_n hx hb dX10_oneStep_323 rfl (lv_at hl 1 rfl) ?_
                      refine lv_aload_n hx hb dX10_oneStep_324 rfl (lv_at hl 0 rfl) ?_
                      refine gY_Model_said F h hinX10 (hts (.fieldLink RX10 148 "ElectionHouseModel" "said" "I") (by decide +kernel)) dX10_oneStep_325 ?_
                      obtain ⟨gi27, hf⟩ := og hf
                      refine sY_mreadMost F h gi27 dX10_oneStep_328 (fun H locs h => ?_)
                      obtain ⟨s28, es, hf⟩ := olq hf
                      rw [← es] at h
                      refine lv_aload_n hx hb dX10_oneStep_329 rfl (lv_at hl 0 rfl) ?_
                      refine lv_aload_n hx hb dX10_oneStep_330 rfl (lv_at hl 0 rfl) ?_
                      refine gY_Model_readMany F h hinX10 (hts (.fieldLink RX10 45 "ElectionHouseModel" "readMany" "[I") (by decide +kernel)) dX10_oneStep_331 ?_
                      refine lv_iload_n hx hb dX10_oneStep_334 rfl (lv_at hl 1 rfl) ?_
                      obtain ⟨gi29, hf⟩ := og hf
                      refine lY_mreadMany F h gi29 dX10_oneStep_335 ?_
                      refine pY_Model_bodyByText F h hinX10 (hts (.fieldLink RX10 161 "ElectionHouseModel" "bodyByText" "I") (by decide +kernel)) dX10_oneStep_336 (fun H locs h => ?_)
                      obtain ⟨s30, es, hf⟩ := olq hf
                      rw [← es] at h
                      refine lv_iconst (v := (1 : Int32)) hx hb dX10_oneStep_339 (by decide) ?_
                      exact retE_Z F hr hlk (by decide) h hf dX10_oneStep_340
                    · have hf := ip c_26 hf
                      refine lv_iconst (v := (0 : Int32)) hx hb dX10_oneStep_317 (by decide) ?_
                      exact retE_Z F hr hlk (by decide) h hf dX10_oneStep_318
                · have hf := im c_12 hf
                  refine lv_iconst (v := (1 : Int32)) hx hb dX10_oneStep_271 (by decide) ?_
                  exact retE_Z F hr hlk (by decide) h hf dX10_oneStep_272
              · have hf := im c_9 hf
                refine lv_aload_n hx hb dX10_oneStep_246 rfl (lv_at hl 0 rfl) ?_
                refine lv_iconst (v := (3 : Int32)) hx hb dX10_oneStep_247 (by decide) ?_
                refine lv_aload_n hx hb dX10_oneStep_248 rfl (lv_at hl 0 rfl) ?_
                refine gY_Model_saidAt F h hinX10 (hts (.fieldLink RX10 145 "ElectionHouseModel" "saidAt" "I") (by decide +kernel)) dX10_oneStep_249 ?_
                obtain ⟨r32, s33, hc31, hf⟩ := ob2 hf
                refine call_VI F (c_Model_fails l Z Q s7 (3 : Int32) (gM s7 0 28) hc31) (cwV 2 hts gX10_oneStep_X10_fails rfl rfl rfl (by decide +kernel) ⟨Nat.le_of_ble_eq_true rfl, Nat.le_of_ble_eq_true rfl⟩) h (rcY_Model h) rfl hl.1 rfl (Nat.le_of_ble_eq_true rfl) ⟨Nat.zero_le _, Nat.zero_le _⟩ dX10_oneStep_252 (fun H locs h => ?_)
                obtain ⟨gz, hf⟩ := og hf
                exact retE_Z F hr hlk gz h hf dX10_oneStep_255
            · have hf := ip c_8 hf
              refine lv_iconst (v := (0 : Int32)) hx hb dX10_oneStep_233 (by decide) ?_
              exact retE_Z F hr hlk (by decide) h hf dX10_oneStep_234
          · have hf := im c_4 hf
            refine lv_aload_n hx hb dX10_oneStep_216 rfl (lv_at hl 0 rfl) ?_
            refine lv_aload_n hx hb dX10_oneStep_217 rfl (lv_at hl 0 rfl) ?_
            refine gY_Model_said F h hinX10 (hts (.fieldLink RX10 148 "ElectionHouseModel" "said" "I") (by decide +kernel)) dX10_oneStep_218 ?_
            refine pY_Model_bodyByText F h hinX10 (hts (.fieldLink RX10 161 "ElectionHouseModel" "bodyByText" "I") (by decide +kernel)) dX10_oneStep_221 (fun H locs h => ?_)
            obtain ⟨s34, es, hf⟩ := olq hf
            rw [← es] at h
            refine lv_iconst (v := (1 : Int32)) hx hb dX10_oneStep_224 (by decide) ?_
            exact retE_Z F hr hlk (by decide) h hf dX10_oneStep_225
        obtain ⟨gi35, hf⟩ := og hf
        refine sY_mreadKind F h gi35 dX10_oneStep_135 (fun H locs h => ?_)
        obtain ⟨s36, es, hf⟩ := olq hf
        rw [← es] at h
        refine lv_aload_n hx hb dX10_oneStep_136 rfl (lv_at hl 0 rfl) ?_
        refine gY_Model_readMany F h hinX10 (hts (.fieldLink RX10 45 "ElectionHouseModel" "readMany" "[I") (by decide +kernel)) dX10_oneStep_137 ?_
        refine lv_iload_n hx hb dX10_oneStep_140 rfl (lv_at hl 1 rfl) ?_
        refine lv_iconst (v := (1 : Int32)) hx hb dX10_oneStep_141 (by decide) ?_
        obtain ⟨gi37, hf⟩ := og hf
        refine sY_mreadMany F h gi37 dX10_oneStep_142 (fun H locs h => ?_)
        obtain ⟨s38, es, hf⟩ := olq hf
        rw [← es] at h
        refine lv_aload_n hx hb dX10_oneStep_143 rfl (lv_at hl 0 rfl) ?_
        refine gY_Model_readVotes F h hinX10 (hts (.fieldLink RX10 48 "ElectionHouseModel" "readVotes" "[I") (by decide +kernel)) dX10_oneStep_144 ?_
        refine lv_iload_n hx hb dX10_oneStep_147 rfl (lv_at hl 1 rfl) ?_
        refine lv_iconst (v := (0 : Int32)) hx hb dX10_oneStep_148 (by decide) ?_
        obtain ⟨gi39, hf⟩ := og hf
        refine sY_mreadVotes F h gi39 dX10_oneStep_149 (fun H locs h => ?_)
        obtain ⟨s40, es, hf⟩ := olq hf
        rw [← es] at h
        refine lv_aload_n hx hb dX10_oneStep_150 rfl (lv_at hl 0 rfl) ?_
        refine gY_Model_readMost F h hinX10 (hts (.fieldLink RX10 51 "ElectionHouseModel" "readMost" "[I") (by decide +kernel)) dX10_oneStep_151 ?_
        refine lv_iload_n hx hb dX10_oneStep_154 rfl (lv_at hl 1 rfl) ?_
        refine lv_iconst (v := (0 : Int32)) hx hb dX10_oneStep_155 (by decide) ?_
        obtain ⟨gi41, hf⟩ := og hf
        refine sY_mreadMost F h gi41 dX10_oneStep_156 (fun H locs h => ?_)
        obtain ⟨s42, es, hf⟩ := olq hf
        rw [← es] at h
        refine lv_iload hx hb dX10_oneStep_157 (lv_at hl 3 rfl) ?_
        refine lv_if_ne (tgt := 212) hx hb dX10_oneStep_159 (by decide) (fun c_43 => ?_) (fun c_43 => ?_)
        · have hf := im c_43 hf
          exact lab212 x1 x2 x4 s42 H locs ls hf h (lv_sub hl [0, 1, 2, 3] rfl)
        · have hf := ip c_43 hf
          refine lv_aload_n hx hb dX10_oneStep_162 rfl (lv_at hl 0 rfl) ?_
          refine lv_bipush (v := (40 : Int32)) hx hb dX10_oneStep_163 (by decide) ?_
          obtain ⟨r45, s46, hc44, hf⟩ := ob2 hf
          refine call_VI F (c_Model_number l Z Q s42 (40 : Int32) hc44) (cwV 1 hts gX10_oneStep_X10_number rfl rfl rfl (by decide +kernel) ⟨Nat.le_of_ble_eq_true rfl, Nat.le_of_ble_eq_true rfl⟩) h (rcY_Model h) rfl hl.1 rfl (Nat.le_of_ble_eq_true rfl) ⟨Nat.zero_le _, Nat.zero_le _⟩ dX10_oneStep_165 (fun H locs h => ?_)
          refine lv_if_ne (tgt := 173) hx hb dX10_oneStep_168 (by decide) (fun c_47 => ?_) (fun c_47 => ?_)
          · have hf := im c_47 hf
            refine lv_iload_n hx hb dX10_oneStep_173 rfl (lv_at hl 2 rfl) ?_
            refine lv_if_eq (tgt := 202) hx hb dX10_oneStep_174 (by decide) (fun c_48 => ?_) (fun c_48 => ?_)
            · have hf := ip c_48 hf
              refine lv_aload_n hx hb dX10_oneStep_202 rfl (lv_at hl 0 rfl) ?_
              refine gY_Model_readMany F h hinX10 (hts (.fieldLink RX10 45 "ElectionHouseModel" "readMany" "[I") (by decide +kernel)) dX10_oneStep_203 ?_
              refine lv_iload_n hx hb dX10_oneStep_206 rfl (lv_at hl 1 rfl) ?_
              refine lv_aload_n hx hb dX10_oneStep_207 rfl (lv_at hl 0 rfl) ?_
              refine gY_Model_said F h hinX10 (hts (.fieldLink RX10 148 "ElectionHouseModel" "said" "I") (by decide +kernel)) dX10_oneStep_208 ?_
              obtain ⟨gi49, hf⟩ := og hf
              refine sY_mreadMany F h gi49 dX10_oneStep_211 (fun H locs h => ?_)
              obtain ⟨s50, es, hf⟩ := olq hf
              rw [← es] at h
              exact lab212 x1 x2 x4 s50 H locs ls hf h (lv_sub hl [0, 1, 2, 3] rfl)
            · have hf := im c_48 hf
              refine lv_iload_n hx hb dX10_oneStep_177 rfl (lv_at hl 1 rfl) ?_
              refine lv_if_le (tgt := 202) hx hb dX10_oneStep_178 (by decide) (fun c_51 => ?_) (fun c_51 => ?_)
              · have hf := ip c_51 hf
                refine lv_aload_n hx hb dX10_oneStep_202 rfl (lv_at hl 0 rfl) ?_
                refine gY_Model_readMany F h hinX10 (hts (.fieldLink RX10 45 "ElectionHouseModel" "readMany" "[I") (by decide +kernel)) dX10_oneStep_203 ?_
                refine lv_iload_n hx hb dX10_oneStep_206 rfl (lv_at hl 1 rfl) ?_
                refine lv_aload_n hx hb dX10_oneStep_207 rfl (lv_at hl 0 rfl) ?_
                refine gY_Model_said F h hinX10 (hts (.fieldLink RX10 148 "ElectionHouseModel" "said" "I") (by decide +kernel)) dX10_oneStep_208 ?_
                obtain ⟨gi52, hf⟩ := og hf
                refine sY_mreadMany F h gi52 dX10_oneStep_211 (fun H locs h => ?_)
                obtain ⟨s53, es, hf⟩ := olq hf
                rw [← es] at h
                exact lab212 x1 x2 x4 s53 H locs ls hf h (lv_sub hl [0, 1, 2, 3] rfl)
              · have hf := im c_51 hf
                refine lv_aload_n hx hb dX10_oneStep_181 rfl (lv_at hl 0 rfl) ?_
                refine gY_Model_said F h hinX10 (hts (.fieldLink RX10 148 "ElectionHouseModel" "said" "I") (by decide +kernel)) dX10_oneStep_182 ?_
                refine lv_aload_n hx hb dX10_oneStep_185 rfl (lv_at hl 0 rfl) ?_
                refine gY_Model_bodyByText F h hinX10 (hts (.fieldLink RX10 161 "ElectionHouseModel" "bodyByText" "I") (by decide +kernel)) dX10_oneStep_186 ?_
                refine lv_icmp_le (tgt := 202) hx hb dX10_oneStep_189 (by decide) (fun c_54 => ?_) (fun c_54 => ?_)
                · have hf := ip c_54 hf
                  refine lv_aload_n hx hb dX10_oneStep_202 rfl (lv_at hl 0 rfl) ?_
                  refine gY_Model_readMany F h hinX10 (hts (.fieldLink RX10 45 "ElectionHouseModel" "readMany" "[I") (by decide +kernel)) dX10_oneStep_203 ?_
                  refine lv_iload_n hx hb dX10_oneStep_206 rfl (lv_at hl 1 rfl) ?_
                  refine lv_aload_n hx hb dX10_oneStep_207 rfl (lv_at hl 0 rfl) ?_
                  refine gY_Model_said F h hinX10 (hts (.fieldLink RX10 148 "ElectionHouseModel" "said" "I") (by decide +kernel)) dX10_oneStep_208 ?_
                  obtain ⟨gi55, hf⟩ := og hf
                  refine sY_mreadMany F h gi55 dX10_oneStep_211 (fun H locs h => ?_)
                  obtain ⟨s56, es, hf⟩ := olq hf
                  rw [← es] at h
                  exact lab212 x1 x2 x4 s56 H locs ls hf h (lv_sub hl [0, 1, 2, 3] rfl)
                · have hf := im c_54 hf
                  refine lv_aload_n hx hb dX10_oneStep_192 rfl (lv_at hl 0 rfl) ?_
                  refine lv_iconst (v := (3 : Int32)) hx hb dX10_oneStep_193 (by decide) ?_
                  refine lv_aload_n hx hb dX10_oneStep_194 rfl (lv_at hl 0 rfl) ?_
                  refine gY_Model_saidAt F h hinX10 (hts (.fieldLink RX10 145 "ElectionHouseModel" "saidAt" "I") (by decide +kernel)) dX10_oneStep_195 ?_
                  obtain ⟨r58, s59, hc57, hf⟩ := ob2 hf
                  refine call_VI F (c_Model_fails l Z Q s46 (3 : Int32) (gM s46 0 28) hc57) (cwV 2 hts gX10_oneStep_X10_fails rfl rfl rfl (by decide +kernel) ⟨Nat.le_of_ble_eq_true rfl, Nat.le_of_ble_eq_true rfl⟩) h (rcY_Model h) rfl hl.1 rfl (Nat.le_of_ble_eq_true rfl) ⟨Nat.zero_le _, Nat.zero_le _⟩ dX10_oneStep_198 (fun H locs h => ?_)
                  obtain ⟨gz, hf⟩ := og hf
                  exact retE_Z F hr hlk gz h hf dX10_oneStep_201
          · have hf := ip c_47 hf
            refine lv_iconst (v := (0 : Int32)) hx hb dX10_oneStep_171 (by decide) ?_
            exact retE_Z F hr hlk (by decide) h hf dX10_oneStep_172
      refine lv_iload_n hx hb dX10_oneStep_84 rfl (lv_at hl 1 rfl) ?_
      refine lv_bipush (v := (12 : Int32)) hx hb dX10_oneStep_85 (by decide) ?_
      refine lv_icmp_ne (tgt := 100) hx hb dX10_oneStep_87 (by decide) (fun c_60 => ?_) (fun c_60 => ?_)
      · have hf := im c_60 hf
        refine lv_aload_n hx hb dX10_oneStep_100 rfl (lv_at hl 0 rfl) ?_
        refine lv_aload_n hx hb dX10_oneStep_101 rfl (lv_at hl 0 rfl) ?_
        refine gY_Model_wordAt F h hinX10 (hts (.fieldLink RX10 135 "ElectionHouseModel" "wordAt" "I") (by decide +kernel)) dX10_oneStep_102 ?_
        refine lv_aload_n hx hb dX10_oneStep_105 rfl (lv_at hl 0 rfl) ?_
        refine gY_Model_wordSize F h hinX10 (hts (.fieldLink RX10 138 "ElectionHouseModel" "wordSize" "I") (by decide +kernel)) dX10_oneStep_106 ?_
        refine lv_iadd hx hb dX10_oneStep_109 ?_
        refine pY_Model_next F h hinX10 (hts (.fieldLink RX10 128 "ElectionHouseModel" "next" "I") (by decide +kernel)) dX10_oneStep_110 (fun H locs h => ?_)
        obtain ⟨s61, es, hf⟩ := olq hf
        rw [← es] at h
        refine lv_aload_n hx hb dX10_oneStep_113 rfl (lv_at hl 0 rfl) ?_
        refine gY_Model_readKind F h hinX10 (hts (.fieldLink RX10 42 "ElectionHouseModel" "readKind" "[I") (by decide +kernel)) dX10_oneStep_114 ?_
        refine lv_iload_n hx hb dX10_oneStep_117 rfl (lv_at hl 1 rfl) ?_
        refine lv_iload_n hx hb dX10_oneStep_118 rfl (lv_at hl 2 rfl) ?_
        refine lv_if_eq (tgt := 126) hx hb dX10_oneStep_119 (by decide) (fun c_62 => ?_) (fun c_62 => ?_)
        · have hf := ip c_62 hf
          refine lv_iload_n hx hb dX10_oneStep_126 rfl (lv_at hl 3 rfl) ?_
          refine lv_if_eq (tgt := 134) hx hb dX10_oneStep_127 (by decide) (fun c_63 => ?_) (fun c_63 => ?_)
          · have hf := ip c_63 hf
            refine lv_iconst (v := (2 : Int32)) hx hb dX10_oneStep_134 (by decide) ?_
            exact lab135 x1 x2 x4 (2 : Int32) x1 s61 H locs ls hf h (lv_sub hl [0, 1, 2, 4] rfl)
          · have hf := im c_63 hf
            refine lv_iconst (v := (1 : Int32)) hx hb dX10_oneStep_130 (by decide) ?_
            refine lv_goto (tgt := 135) hx hb dX10_oneStep_131 (by decide) ?_
            exact lab135 x1 x2 x4 (1 : Int32) x1 s61 H locs ls hf h (lv_sub hl [0, 1, 2, 4] rfl)
        · have hf := im c_62 hf
          refine lv_iconst (v := (0 : Int32)) hx hb dX10_oneStep_122 (by decide) ?_
          refine lv_goto (tgt := 135) hx hb dX10_oneStep_123 (by decide) ?_
          exact lab135 x1 x2 x4 (0 : Int32) x1 s61 H locs ls hf h (lv_sub hl [0, 1, 2, 4] rfl)
      · have hf := ip c_60 hf
        refine lv_aload_n hx hb dX10_oneStep_90 rfl (lv_at hl 0 rfl) ?_
        refine lv_iconst (v := (2 : Int32)) hx hb dX10_oneStep_91 (by decide) ?_
        refine lv_aload_n hx hb dX10_oneStep_92 rfl (lv_at hl 0 rfl) ?_
        refine gY_Model_wordAt F h hinX10 (hts (.fieldLink RX10 135 "ElectionHouseModel" "wordAt" "I") (by decide +kernel)) dX10_oneStep_93 ?_
        obtain ⟨r65, s66, hc64, hf⟩ := ob2 hf
        refine call_VI F (c_Model_fails l Z Q s (2 : Int32) (gM s 0 29) hc64) (cwV 2 hts gX10_oneStep_X10_fails rfl rfl rfl (by decide +kernel) ⟨Nat.le_of_ble_eq_true rfl, Nat.le_of_ble_eq_true rfl⟩) h (rcY_Model h) rfl hl.1 rfl (Nat.le_of_ble_eq_true rfl) ⟨Nat.zero_le _, Nat.zero_le _⟩ dX10_oneStep_96 (fun H locs h => ?_)
        obtain ⟨gz, hf⟩ := og hf
        exact retE_Z F hr hlk gz h hf dX10_oneStep_99
    refine lv_iload_n hx hb dX10_oneStep_66 rfl (lv_at hl 1 rfl) ?_
    refine lv_if_ne (tgt := 84) hx hb dX10_oneStep_67 (by decide) (fun c_67 => ?_) (fun c_67 => ?_)
    · have hf := im c_67 hf
      exact lab84 x1 x2 x3 x4 s H locs ls hf h (lv_sub hl [0, 1, 2, 3, 4] rfl)
    · have hf := ip c_67 hf
      refine lv_iload_n hx hb dX10_oneStep_70 rfl (lv_at hl 2 rfl) ?_
      refine lv_if_ne (tgt := 84) hx hb dX10_oneStep_71 (by decide) (fun c_68 => ?_) (fun c_68 => ?_)
      · have hf := im c_68 hf
        exact lab84 x1 x2 x3 x4 s H locs ls hf h (lv_sub hl [0, 1, 2, 3, 4] rfl)
      · have hf := ip c_68 hf
        exact lab74 s H locs ls hf h (lv_sub hl [0] rfl)
  refine lv_aload_n hx hb dX10_oneStep_0 rfl (lv_at hl 0 rfl) ?_
  obtain ⟨s71, hc69, hf⟩ := ob1 hf
  refine call_VV F (c_Model_looks l Z Q s hc69) (cwV 0 hts gX10_oneStep_X10_looks rfl rfl rfl (by decide +kernel) ⟨Nat.le_of_ble_eq_true rfl, Nat.le_of_ble_eq_true rfl⟩) h (rcY_Model h) rfl hl.1 rfl (Nat.le_of_ble_eq_true rfl) ⟨Nat.zero_le _, Nat.zero_le _⟩ dX10_oneStep_1 (fun H locs h => ?_)
  refine lv_aload_n hx hb dX10_oneStep_4 rfl (lv_at hl 0 rfl) ?_
  refine lv_bipush (v := (100 : Int32)) hx hb dX10_oneStep_5 (by decide) ?_
  refine lv_bipush (v := (114 : Int32)) hx hb dX10_oneStep_7 (by decide) ?_
  refine lv_bipush (v := (97 : Int32)) hx hb dX10_oneStep_9 (by decide) ?_
  refine lv_bipush (v := (119 : Int32)) hx hb dX10_oneStep_11 (by decide) ?_
  refine lv_iconst (v := (0 : Int32)) hx hb dX10_oneStep_13 (by decide) ?_
  refine lv_iconst (v := (0 : Int32)) hx hb dX10_oneStep_14 (by decide) ?_
  obtain ⟨r73, s74, hc72, hf⟩ := ob2 hf
  refine call_VI F (c_Model_isWord l Z Q s71 (100 : Int32) (114 : Int32) (97 : Int32) (119 : Int32) (0 : Int32) (0 : Int32) hc72) (cwV 6 hts gX10_oneStep_X10_isWord rfl rfl rfl (by decide +kernel) ⟨Nat.le_of_ble_eq_true rfl, Nat.le_of_ble_eq_true rfl⟩) h (rcY_Model h) rfl hl.1 rfl (Nat.le_of_ble_eq_true rfl) ⟨Nat.zero_le _, Nat.zero_le _⟩ dX10_oneStep_15 (fun H locs h => ?_)
  refine lv_istore_n (lv' := [(2, .int r73), (0, .ref (Q 0)), (1, .int x1)]) hx hb dX10_oneStep_18 rfl hl (by decide) rfl (fun ls hl => ?_)
  have hl := lv_sub (l' := [(0, .ref (Q 0)), (1, .int x1), (2, .int r73)]) hl [1, 2, 0] rfl
  refine lv_aload_n hx hb dX10_oneStep_19 rfl (lv_at hl 0 rfl) ?_
  refine lv_bipush (v := (99 : Int32)) hx hb dX10_oneStep_20 (by decide) ?_
  refine lv_bipush (v := (104 : Int32)) hx hb dX10_oneStep_22 (by decide) ?_
  refine lv_bipush (v := (111 : Int32)) hx hb dX10_oneStep_24 (by decide) ?_
  refine lv_bipush (v := (111 : Int32)) hx hb dX10_oneStep_26 (by decide) ?_
  refine lv_bipush (v := (115 : Int32)) hx hb dX10_oneStep_28 (by decide) ?_
  refine lv_bipush (v := (101 : Int32)) hx hb dX10_oneStep_30 (by decide) ?_
  obtain ⟨r76, s77, hc75, hf⟩ := ob2 hf
  refine call_VI F (c_Model_isWord l Z Q s74 (99 : Int32) (104 : Int32) (111 : Int32) (111 : Int32) (115 : Int32) (101 : Int32) hc75) (cwV 6 hts gX10_oneStep_X10_isWord rfl rfl rfl (by decide +kernel) ⟨Nat.le_of_ble_eq_true rfl, Nat.le_of_ble_eq_true rfl⟩) h (rcY_Model h) rfl hl.1 rfl (Nat.le_of_ble_eq_true rfl) ⟨Nat.zero_le _, Nat.zero_le _⟩ dX10_oneStep_32 (fun H locs h => ?_)
  refine lv_istore_n (lv' := [(3, .int r76), (0, .ref (Q 0)), (1, .int x1), (2, .int r73)]) hx hb dX10_oneStep_35 rfl hl (by decide) rfl (fun ls hl => ?_)
  have hl := lv_sub (l' := [(0, .ref (Q 0)), (1, .int x1), (2, .int r73), (3, .int r76)]) hl [1, 2, 3, 0] rfl
  refine lv_aload_n hx hb dX10_oneStep_36 rfl (lv_at hl 0 rfl) ?_
  refine lv_bipush (v := (101 : Int32)) hx hb dX10_oneStep_37 (by decide) ?_
  refine lv_bipush (v := (108 : Int32)) hx hb dX10_oneStep_39 (by decide) ?_
  refine lv_bipush (v := (101 : Int32)) hx hb dX10_oneStep_41 (by decide) ?_
  refine lv_bipush (v := (99 : Int32)) hx hb dX10_oneStep_43 (by decide) ?_
  refine lv_bipush (v := (116 : Int32)) hx hb dX10_oneStep_45 (by decide) ?_
  refine lv_iconst (v := (0 : Int32)) hx hb dX10_oneStep_47 (by decide) ?_
  obtain ⟨r79, s80, hc78, hf⟩ := ob2 hf
  refine call_VI F (c_Model_isWord l Z Q s77 (101 : Int32) (108 : Int32) (101 : Int32) (99 : Int32) (116 : Int32) (0 : Int32) hc78) (cwV 6 hts gX10_oneStep_X10_isWord rfl rfl rfl (by decide +kernel) ⟨Nat.le_of_ble_eq_true rfl, Nat.le_of_ble_eq_true rfl⟩) h (rcY_Model h) rfl hl.1 rfl (Nat.le_of_ble_eq_true rfl) ⟨Nat.zero_le _, Nat.zero_le _⟩ dX10_oneStep_48 (fun H locs h => ?_)
  refine lv_istore (lv' := [(4, .int r79), (0, .ref (Q 0)), (1, .int x1), (2, .int r73), (3, .int r76)]) hx hb dX10_oneStep_51 hl (by decide) rfl (fun ls hl => ?_)
  have hl := lv_sub (l' := [(0, .ref (Q 0)), (1, .int x1), (2, .int r73), (3, .int r76), (4, .int r79)]) hl [1, 2, 3, 4, 0] rfl
  refine lv_iload_n hx hb dX10_oneStep_53 rfl (lv_at hl 2 rfl) ?_
  refine lv_if_ne (tgt := 66) hx hb dX10_oneStep_54 (by decide) (fun c_81 => ?_) (fun c_81 => ?_)
  · have hf := im c_81 hf
    exact lab66 x1 r73 r76 r79 s80 H locs ls hf h (lv_sub hl [0, 1, 2, 3, 4] rfl)
  · have hf := ip c_81 hf
    refine lv_iload_n hx hb dX10_oneStep_57 rfl (lv_at hl 3 rfl) ?_
    refine lv_if_ne (tgt := 66) hx hb dX10_oneStep_58 (by decide) (fun c_82 => ?_) (fun c_82 => ?_)
    · have hf := im c_82 hf
      exact lab66 x1 r73 r76 r79 s80 H locs ls hf h (lv_sub hl [0, 1, 2, 3, 4] rfl)
    · have hf := ip c_82 hf
      refine lv_iload hx hb dX10_oneStep_61 (lv_at hl 4 rfl) ?_
      refine lv_if_eq (tgt := 74) hx hb dX10_oneStep_63 (by decide) (fun c_83 => ?_) (fun c_83 => ?_)
      · have hf := ip c_83 hf
        exact lab74 s80 H locs ls hf h (lv_sub hl [0] rfl)
      · have hf := im c_83 hf
        exact lab66 x1 r73 r76 r79 s80 H locs ls hf h (lv_sub hl [0, 1, 2, 3, 4] rfl)

set_option maxHeartbeats 8000000 in
set_option maxRecDepth 100000 in
theorem c_Model_procedure (l : Launch) (Z : ZT) (Q : Nat → Nat) (s : XS) {r : Int32} {s' : XS} (hf : p_Model_procedure s = some (r, s')) : KI l Z (wY Z Q) yX10_procedure wsX10_procedure { frames := 4, cells := 0, slots := 0, locals := 90 } [.ref (Q 0)] s r s' := by
  intro sz
  refine met_entry (cc := cX10_procedure) (maxL := 6) (ret := (some .int)) (by decide) rfl (Nat.le_of_ble_eq_true rfl) sz rfl ?_
  generalize va_A (wY Z Q s) sz = A
  intro p e s0 m args below meth c ls F hr hlk h hl
  have hl : lv_has ls 6 [(0, .ref (Q 0))] := hl
  obtain ⟨hx, hb, hml, hown, hts⟩ := id F
  have hinX10 : ∀ w ∈ wsX100, w ∈ wsX10_procedure := by decide +kernel
  obtain ⟨H, eH⟩ : ∃ z, z = s0.heap := ⟨_, rfl⟩
  obtain ⟨locs, eL⟩ : ∃ z : List Loc, z = [] := ⟨_, rfl⟩
  rw [← eH, ← eL] at h ⊢
  unfold p_Model_procedure at hf
  have lab22 : ∀ (n : Nat) (x1 : Int32) (x2 : Int32) (x3 : Int32) (s : XS) (H : Heap) (locs : List Loc) (ls : Array Slot), lo4 (p_Model_procedure_B22) n x1 x2 x3 s = some (r, s') → HW Z (wY Z Q) A s0 H locs s → lv_has ls 6 [(0, .ref (Q 0)), (1, .int x1), (2, .int x2), (3, .int x3)] → W p l e { frames := 4, cells := 0, slots := 0, locals := 90 } s0 m args below meth c H locs 0 0 (MQ below (QcI Z (wY Z Q) A r s') args s0 0 0 A) (F0 m 22 ls []) := by
    intro n
    induction n with
    | zero => intro x1 x2 x3 s H locs ls hf; exact absurd hf lo4_z
    | succ n ih22 =>
      intro x1 x2 x3 s H locs ls hf h hl
      have hf := lo4_s hf
      generalize lo4 (p_Model_procedure_B22) n = c22 at hf ih22
      unfold p_Model_procedure_B22 at hf
      have lab136 : ∀ (x1 : Int32) (x2 : Int32) (s : XS) (H : Heap) (locs : List Loc) (ls : Array Slot), p_Model_procedure_K136 x1 x2 s = some (r, s') → HW Z (wY Z Q) A s0 H locs s → lv_has ls 6 [(0, .ref (Q 0)), (1, .int x1), (2, .int x2)] → W p l e { frames := 4, cells := 0, slots := 0, locals := 90 } s0 m args below meth c H locs 0 0 (MQ below (QcI Z (wY Z Q) A r s') args s0 0 0 A) (F0 m 136 ls []) := by
        intro x1 x2 s H locs ls hf h hl
        unfold p_Model_procedure_K136 at hf
        have lab161 : ∀ (x1 : Int32) (n : Nat) (x4 : Int32) (s : XS) (H : Heap) (locs : List Loc) (ls : Array Slot), lo2 (p_Model_procedure_B161 x1) n x4 s = some (r, s') → HW Z (wY Z Q) A s0 H locs s → lv_has ls 6 [(0, .ref (Q 0)), (1, .int x1), (4, .int x4)] → W p l e { frames := 4, cells := 0, slots := 0, locals := 90 } s0 m args below meth c H locs 0 0 (MQ below (QcI Z (wY Z Q) A r s') args s0 0 0 A) (F0 m 161 ls []) := by
          intro x1 n
          induction n with
          | zero => intro x4 s H locs ls hf; exact absurd hf lo2_z
          | succ n ih161 =>
            intro x4 s H locs ls hf h hl
            have hf := lo2_s hf
            generalize lo2 (p_Model_procedure_B161 x1) n = c161 at hf ih161
            unfold p_Model_procedure_B161 at hf
            refine lv_iload hx hb dX10_procedure_161 (lv_at hl 2 rfl) ?_
            refine lv_iload_n hx hb dX10_procedure_163 rfl (lv_at hl 1 rfl) ?_
            refine lv_icmp_ge (tgt := 229) hx hb dX10_procedure_164 (by decide) (fun c_1 => ?_) (fun c_1 => ?_)
            · have hf := ip c_1 hf
              refine lv_aload_n hx hb dX10_procedure_229 rfl (lv_at hl 0 rfl) ?_
              refine lv_iconst (v := (0 : Int32)) hx hb dX10_procedure_230 (by decide) ?_
              refine pY_Model_done F h hinX10 (hts (.fieldLink RX10 105 "ElectionHouseModel" "done" "I") (by decide +kernel)) dX10_procedure_231 (fun H locs h => ?_)
              obtain ⟨s2, es, hf⟩ := olq hf
              rw [← es] at h
              refine lv_aload_n hx hb dX10_procedure_234 rfl (lv_at hl 0 rfl) ?_
              refine lv_iconst (v := (-1 : Int32)) hx hb dX10_procedure_235 (by decide) ?_
              refine pY_Model_elected F h hinX10 (hts (.fieldLink RX10 60 "ElectionHouseModel" "elected" "I") (by decide +kernel)) dX10_procedure_236 (fun H locs h => ?_)
              obtain ⟨s3, es, hf⟩ := olq hf
              rw [← es] at h
              refine lv_aload_n hx hb dX10_procedure_239 rfl (lv_at hl 0 rfl) ?_
              obtain ⟨s6, hc4, hf⟩ := ob1 hf
              refine call_VV F (c_Model_begins l Z Q s3 hc4) (cwV 0 hts gX10_procedure_X10_begins rfl rfl rfl (by decide +kernel) ⟨Nat.le_of_ble_eq_true rfl, Nat.le_of_ble_eq_true rfl⟩) h (rcY_Model h) rfl hl.1 rfl (Nat.le_of_ble_eq_true rfl) ⟨Nat.zero_le _, Nat.zero_le _⟩ dX10_procedure_240 (fun H locs h => ?_)
              refine lv_aload_n hx hb dX10_procedure_243 rfl (lv_at hl 0 rfl) ?_
              refine gY_Model_steps F h hinX10 (hts (.fieldLink RX10 171 "ElectionHouseModel" "steps" "I") (by decide +kernel)) dX10_procedure_244 ?_
              exact retE_I F hr hlk h hf dX10_procedure_247
            · have hf := im c_1 hf
              refine lv_aload_n hx hb dX10_procedure_167 rfl (lv_at hl 0 rfl) ?_
              refine gY_Model_kind F h hinX10 (hts (.fieldLink RX10 30 "ElectionHouseModel" "kind" "[I") (by decide +kernel)) dX10_procedure_168 ?_
              refine lv_iload hx hb dX10_procedure_171 (lv_at hl 2 rfl) ?_
              refine lv_aload_n hx hb dX10_procedure_173 rfl (lv_at hl 0 rfl) ?_
              refine gY_Model_readKind F h hinX10 (hts (.fieldLink RX10 42 "ElectionHouseModel" "readKind" "[I") (by decide +kernel)) dX10_procedure_174 ?_
              refine lv_iload hx hb dX10_procedure_177 (lv_at hl 2 rfl) ?_
              obtain ⟨gi7, hf⟩ := og hf
              refine lY_mreadKind F h gi7 dX10_procedure_179 ?_
              obtain ⟨gi8, hf⟩ := og hf
              refine sY_mkind F h gi8 dX10_procedure_180 (fun H locs h => ?_)
              obtain ⟨s9, es, hf⟩ := olq hf
              rw [← es] at h
              refine lv_aload_n hx hb dX10_procedure_181 rfl (lv_at hl 0 rfl) ?_
              refine gY_Model_many F h hinX10 (hts (.fieldLink RX10 33 "ElectionHouseModel" "many" "[I") (by decide +kernel)) dX10_procedure_182 ?_
              refine lv_iload hx hb dX10_procedure_185 (lv_at hl 2 rfl) ?_
              refine lv_aload_n hx hb dX10_procedure_187 rfl (lv_at hl 0 rfl) ?_
              refine gY_Model_readMany F h hinX10 (hts (.fieldLink RX10 45 "ElectionHouseModel" "readMany" "[I") (by decide +kernel)) dX10_procedure_188 ?_
              refine lv_iload hx hb dX10_procedure_191 (lv_at hl 2 rfl) ?_
              obtain ⟨gi10, hf⟩ := og hf
              refine lY_mreadMany F h gi10 dX10_procedure_193 ?_
              obtain ⟨gi11, hf⟩ := og hf
              refine sY_mmany F h gi11 dX10_procedure_194 (fun H locs h => ?_)
              obtain ⟨s12, es, hf⟩ := olq hf
              rw [← es] at h
              refine lv_aload_n hx hb dX10_procedure_195 rfl (lv_at hl 0 rfl) ?_
              refine gY_Model_votes F h hinX10 (hts (.fieldLink RX10 36 "ElectionHouseModel" "votes" "[I") (by decide +kernel)) dX10_procedure_196 ?_
              refine lv_iload hx hb dX10_procedure_199 (lv_at hl 2 rfl) ?_
              refine lv_aload_n hx hb dX10_procedure_201 rfl (lv_at hl 0 rfl) ?_
              refine gY_Model_readVotes F h hinX10 (hts (.fieldLink RX10 48 "ElectionHouseModel" "readVotes" "[I") (by decide +kernel)) dX10_procedure_202 ?_
              refine lv_iload hx hb dX10_procedure_205 (lv_at hl 2 rfl) ?_
              obtain ⟨gi13, hf⟩ := og hf
              refine lY_mreadVotes F h gi13 dX10_procedure_207 ?_
              obtain ⟨gi14, hf⟩ := og hf
              refine sY_mvotes F h gi14 dX10_procedure_208 (fun H locs h => ?_)
              obtain ⟨s15, es, hf⟩ := olq hf
              rw [← es] at h
              refine lv_aload_n hx hb dX10_procedure_209 rfl (lv_at hl 0 rfl) ?_
              refine gY_Model_most F h hinX10 (hts (.fieldLink RX10 39 "ElectionHouseModel" "most" "[I") (by decide +kernel)) dX10_procedure_210 ?_
              refine lv_iload hx hb dX10_procedure_213 (lv_at hl 2 rfl) ?_
              refine lv_aload_n hx hb dX10_procedure_215 rfl (lv_at hl 0 rfl) ?_
              refine gY_Model_readMost F h hinX10 (hts (.fieldLink RX10 51 "ElectionHouseModel" "readMost" "[I") (by decide +kernel)) dX10_procedure_216 ?_
              refine lv_iload hx hb dX10_procedure_219 (lv_at hl 2 rfl) ?_
              obtain ⟨gi16, hf⟩ := og hf
              refine lY_mreadMost F h gi16 dX10_procedure_221 ?_
              obtain ⟨gi17, hf⟩ := og hf
              refine sY_mmost F h gi17 dX10_procedure_222 (fun H locs h => ?_)
              obtain ⟨s18, es, hf⟩ := olq hf
              rw [← es] at h
              refine lv_iinc (v := (x4 + (1 : Int32))) (lv' := [(4, .int (x4 + (1 : Int32))), (0, .ref (Q 0)), (1, .int x1)]) hx hb dX10_procedure_223 hl (k := 2) rfl (congrArg (fun z => x4 + z) (by decide : Int32.ofInt (1) = (1 : Int32))) (by decide) rfl (fun ls hl => ?_)
              have hl := lv_sub (l' := [(0, .ref (Q 0)), (1, .int x1), (4, .int (x4 + (1 : Int32)))]) hl [1, 2, 0] rfl
              refine lv_goto (tgt := 161) hx hb dX10_procedure_226 (by decide) ?_
              exact ih161 (x4 + (1 : Int32)) s18 H locs ls hf h (lv_sub hl [0, 1, 2] rfl)
        refine lv_aload_n hx hb dX10_procedure_136 rfl (lv_at hl 0 rfl) ?_
        refine lv_iconst (v := (0 : Int32)) hx hb dX10_procedure_137 (by decide) ?_
        refine pY_Model_taped F h hinX10 (hts (.fieldLink RX10 118 "ElectionHouseModel" "taped" "I") (by decide +kernel)) dX10_procedure_138 (fun H locs h => ?_)
        obtain ⟨s19, es, hf⟩ := olq hf
        rw [← es] at h
        refine lv_iload_n hx hb dX10_procedure_141 rfl (lv_at hl 2 rfl) ?_
        refine lv_if_ne (tgt := 153) hx hb dX10_procedure_142 (by decide) (fun c_20 => ?_) (fun c_20 => ?_)
        · have hf := im c_20 hf
          refine lv_aload_n hx hb dX10_procedure_153 rfl (lv_at hl 0 rfl) ?_
          refine lv_iload_n hx hb dX10_procedure_154 rfl (lv_at hl 1 rfl) ?_
          refine pY_Model_steps F h hinX10 (hts (.fieldLink RX10 171 "ElectionHouseModel" "steps" "I") (by decide +kernel)) dX10_procedure_155 (fun H locs h => ?_)
          obtain ⟨s21, es, hf⟩ := olq hf
          rw [← es] at h
          refine lv_iconst (v := (0 : Int32)) hx hb dX10_procedure_158 (by decide) ?_
          refine lv_istore (lv' := [(4, .int (0 : Int32)), (0, .ref (Q 0)), (1, .int x1), (2, .int x2)]) hx hb dX10_procedure_159 hl (by decide) rfl (fun ls hl => ?_)
          have hl := lv_sub (l' := [(0, .ref (Q 0)), (1, .int x1), (2, .int x2), (4, .int (0 : Int32))]) hl [1, 2, 3, 0] rfl
          exact lab161 x1 fuelN (0 : Int32) s21 H locs ls hf h (lv_sub hl [0, 1, 3] rfl)
        · have hf := ip c_20 hf
          refine lv_bipush (v := (-2 : Int32)) hx hb dX10_procedure_145 (by decide) ?_
          refine lv_aload_n hx hb dX10_procedure_147 rfl (lv_at hl 0 rfl) ?_
          refine gY_Model_fault F h hinX10 (hts (.fieldLink RX10 125 "ElectionHouseModel" "fault" "I") (by decide +kernel)) dX10_procedure_148 ?_
          refine lv_isub hx hb dX10_procedure_151 ?_
          exact retE_I F hr hlk h hf dX10_procedure_152
      have lab58 : ∀ (x1 : Int32) (x2 : Int32) (x3 : Int32) (t0 : Int32) (s : XS) (H : Heap) (locs : List Loc) (ls : Array Slot), p_Model_procedure_K58 c22 x1 x2 x3 t0 s = some (r, s') → HW Z (wY Z Q) A s0 H locs s → lv_has ls 6 [(0, .ref (Q 0)), (1, .int x1), (2, .int x2), (3, .int x3)] → W p l e { frames := 4, cells := 0, slots := 0, locals := 90 } s0 m args below meth c H locs 0 0 (MQ below (QcI Z (wY Z Q) A r s') args s0 0 0 A) (F0 m 58 ls [.int t0]) := by
        intro x1 x2 x3 t0 s H locs ls hf h hl
        unfold p_Model_procedure_K58 at hf
        refine lv_istore (lv' := [(4, .int t0), (0, .ref (Q 0)), (1, .int x1), (2, .int x2), (3, .int x3)]) hx hb dX10_procedure_58 hl (by decide) rfl (fun ls hl => ?_)
        have hl := lv_sub (l' := [(0, .ref (Q 0)), (1, .int x1), (2, .int x2), (3, .int x3), (4, .int t0)]) hl [1, 2, 3, 4, 0] rfl
        refine lv_iinc (v := (x1 + (1 : Int32))) (lv' := [(1, .int (x1 + (1 : Int32))), (0, .ref (Q 0)), (2, .int x2), (3, .int x3), (4, .int t0)]) hx hb dX10_procedure_60 hl (k := 1) rfl (congrArg (fun z => x1 + z) (by decide : Int32.ofInt (1) = (1 : Int32))) (by decide) rfl (fun ls hl => ?_)
        have hl := lv_sub (l' := [(0, .ref (Q 0)), (1, .int (x1 + (1 : Int32))), (2, .int x2), (3, .int x3), (4, .int t0)]) hl [1, 0, 2, 3, 4] rfl
        refine lv_aload_n hx hb dX10_procedure_63 rfl (lv_at hl 0 rfl) ?_
        obtain ⟨r23, s24, hc22, hf⟩ := ob2 hf
        refine call_VI F (c_Model_see l Z Q s hc22) (cwV 0 hts gX10_procedure_X10_see rfl rfl rfl (by decide +kernel) ⟨Nat.le_of_ble_eq_true rfl, Nat.le_of_ble_eq_true rfl⟩) h (rcY_Model h) rfl hl.1 rfl (Nat.le_of_ble_eq_true rfl) ⟨Nat.zero_le _, Nat.zero_le _⟩ dX10_procedure_64 (fun H locs h => ?_)
        refine lv_istore (lv' := [(5, .int r23), (0, .ref (Q 0)), (1, .int (x1 + (1 : Int32))), (2, .int x2), (3, .int x3), (4, .int t0)]) hx hb dX10_procedure_67 hl (by decide) rfl (fun ls hl => ?_)
        have hl := lv_sub (l' := [(0, .ref (Q 0)), (1, .int (x1 + (1 : Int32))), (2, .int x2), (3, .int x3), (4, .int t0), (5, .int r23)]) hl [1, 2, 3, 4, 5, 0] rfl
        refine lv_iload hx hb dX10_procedure_69 (lv_at hl 4 rfl) ?_
        refine lv_if_eq (tgt := 103) hx hb dX10_procedure_71 (by decide) (fun c_25 => ?_) (fun c_25 => ?_)
        · have hf := ip c_25 hf
          refine lv_iload hx hb dX10_procedure_103 (lv_at hl 5 rfl) ?_
          refine lv_bipush (v := (59 : Int32)) hx hb dX10_procedure_105 (by decide) ?_
          refine lv_icmp_eq (tgt := 123) hx hb dX10_procedure_107 (by decide) (fun c_26 => ?_) (fun c_26 => ?_)
          · have hf := ip c_26 hf
            refine lv_aload_n hx hb dX10_procedure_123 rfl (lv_at hl 0 rfl) ?_
            refine lv_dup hx hb dX10_procedure_124 rfl ?_
            refine gY_Model_next F h hinX10 (hts (.fieldLink RX10 128 "ElectionHouseModel" "next" "I") (by decide +kernel)) dX10_procedure_125 ?_
            refine lv_iconst (v := (1 : Int32)) hx hb dX10_procedure_128 (by decide) ?_
            refine lv_iadd hx hb dX10_procedure_129 ?_
            refine pY_Model_next F h hinX10 (hts (.fieldLink RX10 128 "ElectionHouseModel" "next" "I") (by decide +kernel)) dX10_procedure_130 (fun H locs h => ?_)
            obtain ⟨s27, es, hf⟩ := olq hf
            rw [← es] at h
            refine lv_goto (tgt := 22) hx hb dX10_procedure_133 (by decide) ?_
            exact ih22 (x1 + (1 : Int32)) x2 x3 s27 H locs ls hf h (lv_sub hl [0, 1, 2, 3] rfl)
          · have hf := im c_26 hf
            refine lv_aload_n hx hb dX10_procedure_110 rfl (lv_at hl 0 rfl) ?_
            refine lv_iconst (v := (0 : Int32)) hx hb dX10_procedure_111 (by decide) ?_
            refine lv_aload_n hx hb dX10_procedure_112 rfl (lv_at hl 0 rfl) ?_
            refine gY_Model_next F h hinX10 (hts (.fieldLink RX10 128 "ElectionHouseModel" "next" "I") (by decide +kernel)) dX10_procedure_113 ?_
            obtain ⟨r29, s30, hc28, hf⟩ := ob2 hf
            refine call_VI F (c_Model_fails l Z Q s24 (0 : Int32) (gM s24 0 25) hc28) (cwV 2 hts gX10_procedure_X10_fails rfl rfl rfl (by decide +kernel) ⟨Nat.le_of_ble_eq_true rfl, Nat.le_of_ble_eq_true rfl⟩) h (rcY_Model h) rfl hl.1 rfl (Nat.le_of_ble_eq_true rfl) ⟨Nat.zero_le _, Nat.zero_le _⟩ dX10_procedure_116 (fun H locs h => ?_)
            refine lv_istore_n (lv' := [(2, .int r29), (0, .ref (Q 0)), (1, .int (x1 + (1 : Int32))), (3, .int x3), (4, .int t0), (5, .int r23)]) hx hb dX10_procedure_119 rfl hl (by decide) rfl (fun ls hl => ?_)
            have hl := lv_sub (l' := [(0, .ref (Q 0)), (1, .int (x1 + (1 : Int32))), (2, .int r29), (3, .int x3), (4, .int t0), (5, .int r23)]) hl [1, 2, 0, 3, 4, 5] rfl
            refine lv_goto (tgt := 133) hx hb dX10_procedure_120 (by decide) ?_
            refine lv_goto (tgt := 22) hx hb dX10_procedure_133 (by decide) ?_
            exact ih22 (x1 + (1 : Int32)) r29 x3 s30 H locs ls hf h (lv_sub hl [0, 1, 2, 3] rfl)
        · have hf := im c_25 hf
          refine lv_iload hx hb dX10_procedure_74 (lv_at hl 5 rfl) ?_
          refine lv_iconst (v := (-1 : Int32)) hx hb dX10_procedure_76 (by decide) ?_
          refine lv_icmp_eq (tgt := 92) hx hb dX10_procedure_77 (by decide) (fun c_31 => ?_) (fun c_31 => ?_)
          · have hf := ip c_31 hf
            refine lv_iconst (v := (1 : Int32)) hx hb dX10_procedure_92 (by decide) ?_
            refine lv_goto (tgt := 97) hx hb dX10_procedure_93 (by decide) ?_
            refine lv_istore_n (lv' := [(2, .int (1 : Int32)), (0, .ref (Q 0)), (1, .int (x1 + (1 : Int32))), (3, .int x3), (4, .int t0), (5, .int r23)]) hx hb dX10_procedure_97 rfl hl (by decide) rfl (fun ls hl => ?_)
            have hl := lv_sub (l' := [(0, .ref (Q 0)), (1, .int (x1 + (1 : Int32))), (2, .int (1 : Int32)), (3, .int x3), (4, .int t0), (5, .int r23)]) hl [1, 2, 0, 3, 4, 5] rfl
            refine lv_iconst (v := (0 : Int32)) hx hb dX10_procedure_98 (by decide) ?_
            refine lv_istore_n (lv' := [(3, .int (0 : Int32)), (0, .ref (Q 0)), (1, .int (x1 + (1 : Int32))), (2, .int (1 : Int32)), (4, .int t0), (5, .int r23)]) hx hb dX10_procedure_99 rfl hl (by decide) rfl (fun ls hl => ?_)
            have hl := lv_sub (l' := [(0, .ref (Q 0)), (1, .int (x1 + (1 : Int32))), (2, .int (1 : Int32)), (3, .int (0 : Int32)), (4, .int t0), (5, .int r23)]) hl [1, 2, 3, 0, 4, 5] rfl
            refine lv_goto (tgt := 133) hx hb dX10_procedure_100 (by decide) ?_
            refine lv_goto (tgt := 22) hx hb dX10_procedure_133 (by decide) ?_
            exact ih22 (x1 + (1 : Int32)) (1 : Int32) (0 : Int32) s24 H locs ls hf h (lv_sub hl [0, 1, 2, 3] rfl)
          · have hf := im c_31 hf
            refine lv_aload_n hx hb dX10_procedure_80 rfl (lv_at hl 0 rfl) ?_
            refine lv_iconst (v := (0 : Int32)) hx hb dX10_procedure_81 (by decide) ?_
            refine lv_aload_n hx hb dX10_procedure_82 rfl (lv_at hl 0 rfl) ?_
            refine gY_Model_next F h hinX10 (hts (.fieldLink RX10 128 "ElectionHouseModel" "next" "I") (by decide +kernel)) dX10_procedure_83 ?_
            obtain ⟨r33, s34, hc32, hf⟩ := ob2 hf
            refine call_VI F (c_Model_fails l Z Q s24 (0 : Int32) (gM s24 0 25) hc32) (cwV 2 hts gX10_procedure_X10_fails rfl rfl rfl (by decide +kernel) ⟨Nat.le_of_ble_eq_true rfl, Nat.le_of_ble_eq_true rfl⟩) h (rcY_Model h) rfl hl.1 rfl (Nat.le_of_ble_eq_true rfl) ⟨Nat.zero_le _, Nat.zero_le _⟩ dX10_procedure_86 (fun H locs h => ?_)
            refine lv_if_eq (tgt := 96) hx hb dX10_procedure_89 (by decide) (fun c_35 => ?_) (fun c_35 => ?_)
            · have hf := ip c_35 hf
              refine lv_iconst (v := (0 : Int32)) hx hb dX10_procedure_96 (by decide) ?_
              refine lv_istore_n (lv' := [(2, .int (0 : Int32)), (0, .ref (Q 0)), (1, .int (x1 + (1 : Int32))), (3, .int x3), (4, .int t0), (5, .int r23)]) hx hb dX10_procedure_97 rfl hl (by decide) rfl (fun ls hl => ?_)
              have hl := lv_sub (l' := [(0, .ref (Q 0)), (1, .int (x1 + (1 : Int32))), (2, .int (0 : Int32)), (3, .int x3), (4, .int t0), (5, .int r23)]) hl [1, 2, 0, 3, 4, 5] rfl
              refine lv_iconst (v := (0 : Int32)) hx hb dX10_procedure_98 (by decide) ?_
              refine lv_istore_n (lv' := [(3, .int (0 : Int32)), (0, .ref (Q 0)), (1, .int (x1 + (1 : Int32))), (2, .int (0 : Int32)), (4, .int t0), (5, .int r23)]) hx hb dX10_procedure_99 rfl hl (by decide) rfl (fun ls hl => ?_)
              have hl := lv_sub (l' := [(0, .ref (Q 0)), (1, .int (x1 + (1 : Int32))), (2, .int (0 : Int32)), (3, .int (0 : Int32)), (4, .int t0), (5, .int r23)]) hl [1, 2, 3, 0, 4, 5] rfl
              refine lv_goto (tgt := 133) hx hb dX10_procedure_100 (by decide) ?_
              refine lv_goto (tgt := 22) hx hb dX10_procedure_133 (by decide) ?_
              exact ih22 (x1 + (1 : Int32)) (0 : Int32) (0 : Int32) s34 H locs ls hf h (lv_sub hl [0, 1, 2, 3] rfl)
            · have hf := im c_35 hf
              refine lv_iconst (v := (1 : Int32)) hx hb dX10_procedure_92 (by decide) ?_
              refine lv_goto (tgt := 97) hx hb dX10_procedure_93 (by decide) ?_
              refine lv_istore_n (lv' := [(2, .int (1 : Int32)), (0, .ref (Q 0)), (1, .int (x1 + (1 : Int32))), (3, .int x3), (4, .int t0), (5, .int r23)]) hx hb dX10_procedure_97 rfl hl (by decide) rfl (fun ls hl => ?_)
              have hl := lv_sub (l' := [(0, .ref (Q 0)), (1, .int (x1 + (1 : Int32))), (2, .int (1 : Int32)), (3, .int x3), (4, .int t0), (5, .int r23)]) hl [1, 2, 0, 3, 4, 5] rfl
              refine lv_iconst (v := (0 : Int32)) hx hb dX10_procedure_98 (by decide) ?_
              refine lv_istore_n (lv' := [(3, .int (0 : Int32)), (0, .ref (Q 0)), (1, .int (x1 + (1 : Int32))), (2, .int (1 : Int32)), (4, .int t0), (5, .int r23)]) hx hb dX10_procedure_99 rfl hl (by decide) rfl (fun ls hl => ?_)
              have hl := lv_sub (l' := [(0, .ref (Q 0)), (1, .int (x1 + (1 : Int32))), (2, .int (1 : Int32)), (3, .int (0 : Int32)), (4, .int t0), (5, .int r23)]) hl [1, 2, 3, 0, 4, 5] rfl
              refine lv_goto (tgt := 133) hx hb dX10_procedure_100 (by decide) ?_
              refine lv_goto (tgt := 22) hx hb dX10_procedure_133 (by decide) ?_
              exact ih22 (x1 + (1 : Int32)) (1 : Int32) (0 : Int32) s34 H locs ls hf h (lv_sub hl [0, 1, 2, 3] rfl)
      refine lv_iload_n hx hb dX10_procedure_22 rfl (lv_at hl 2 rfl) ?_
      refine lv_if_eq (tgt := 136) hx hb dX10_procedure_23 (by decide) (fun c_36 => ?_) (fun c_36 => ?_)
      · have hf := ip c_36 hf
        exact lab136 x1 x2 s H locs ls hf h (lv_sub hl [0, 1, 2] rfl)
      · have hf := im c_36 hf
        refine lv_iload_n hx hb dX10_procedure_26 rfl (lv_at hl 3 rfl) ?_
        refine lv_if_eq (tgt := 136) hx hb dX10_procedure_27 (by decide) (fun c_37 => ?_) (fun c_37 => ?_)
        · have hf := ip c_37 hf
          exact lab136 x1 x2 s H locs ls hf h (lv_sub hl [0, 1, 2] rfl)
        · have hf := im c_37 hf
          refine lv_aload_n hx hb dX10_procedure_30 rfl (lv_at hl 0 rfl) ?_
          refine lv_iload_n hx hb dX10_procedure_31 rfl (lv_at hl 1 rfl) ?_
          obtain ⟨r39, s40, hc38, hf⟩ := ob2 hf
          refine call_VI F (c_Model_oneStep l Z Q s x1 hc38) (cwV 1 hts gX10_procedure_X10_oneStep rfl rfl rfl (by decide +kernel) ⟨Nat.le_of_ble_eq_true rfl, Nat.le_of_ble_eq_true rfl⟩) h (rcY_Model h) rfl hl.1 rfl (Nat.le_of_ble_eq_true rfl) ⟨Nat.zero_le _, Nat.zero_le _⟩ dX10_procedure_32 (fun H locs h => ?_)
          refine lv_istore_n (lv' := [(2, .int r39), (0, .ref (Q 0)), (1, .int x1), (3, .int x3)]) hx hb dX10_procedure_35 rfl hl (by decide) rfl (fun ls hl => ?_)
          have hl := lv_sub (l' := [(0, .ref (Q 0)), (1, .int x1), (2, .int r39), (3, .int x3)]) hl [1, 2, 0, 3] rfl
          refine lv_iload_n hx hb dX10_procedure_36 rfl (lv_at hl 2 rfl) ?_
          refine lv_if_ne (tgt := 43) hx hb dX10_procedure_37 (by decide) (fun c_41 => ?_) (fun c_41 => ?_)
          · have hf := im c_41 hf
            refine lv_aload_n hx hb dX10_procedure_43 rfl (lv_at hl 0 rfl) ?_
            refine gY_Model_readKind F h hinX10 (hts (.fieldLink RX10 42 "ElectionHouseModel" "readKind" "[I") (by decide +kernel)) dX10_procedure_44 ?_
            refine lv_iload_n hx hb dX10_procedure_47 rfl (lv_at hl 1 rfl) ?_
            obtain ⟨gi42, hf⟩ := og hf
            refine lY_mreadKind F h gi42 dX10_procedure_48 ?_
            refine lv_iconst (v := (2 : Int32)) hx hb dX10_procedure_49 (by decide) ?_
            refine lv_icmp_ne (tgt := 57) hx hb dX10_procedure_50 (by decide) (fun c_43 => ?_) (fun c_43 => ?_)
            · have hf := im c_43 hf
              refine lv_iconst (v := (0 : Int32)) hx hb dX10_procedure_57 (by decide) ?_
              exact lab58 x1 r39 x3 (0 : Int32) s40 H locs ls hf h (lv_sub hl [0, 1, 2, 3] rfl)
            · have hf := ip c_43 hf
              refine lv_iconst (v := (1 : Int32)) hx hb dX10_procedure_53 (by decide) ?_
              refine lv_goto (tgt := 58) hx hb dX10_procedure_54 (by decide) ?_
              exact lab58 x1 r39 x3 (1 : Int32) s40 H locs ls hf h (lv_sub hl [0, 1, 2, 3] rfl)
          · have hf := ip c_41 hf
            refine lv_goto (tgt := 136) hx hb dX10_procedure_40 (by decide) ?_
            exact lab136 x1 r39 s40 H locs ls hf h (lv_sub hl [0, 1, 2] rfl)
  refine lv_aload_n hx hb dX10_procedure_0 rfl (lv_at hl 0 rfl) ?_
  refine lv_iconst (v := (0 : Int32)) hx hb dX10_procedure_1 (by decide) ?_
  refine pY_Model_next F h hinX10 (hts (.fieldLink RX10 128 "ElectionHouseModel" "next" "I") (by decide +kernel)) dX10_procedure_2 (fun H locs h => ?_)
  obtain ⟨s44, es, hf⟩ := olq hf
  rw [← es] at h
  refine lv_aload_n hx hb dX10_procedure_5 rfl (lv_at hl 0 rfl) ?_
  refine lv_iconst (v := (0 : Int32)) hx hb dX10_procedure_6 (by decide) ?_
  refine pY_Model_fault F h hinX10 (hts (.fieldLink RX10 125 "ElectionHouseModel" "fault" "I") (by decide +kernel)) dX10_procedure_7 (fun H locs h => ?_)
  obtain ⟨s45, es, hf⟩ := olq hf
  rw [← es] at h
  refine lv_aload_n hx hb dX10_procedure_10 rfl (lv_at hl 0 rfl) ?_
  refine lv_bipush (v := (41 : Int32)) hx hb dX10_procedure_11 (by decide) ?_
  refine pY_Model_bodyByText F h hinX10 (hts (.fieldLink RX10 161 "ElectionHouseModel" "bodyByText" "I") (by decide +kernel)) dX10_procedure_13 (fun H locs h => ?_)
  obtain ⟨s46, es, hf⟩ := olq hf
  rw [← es] at h
  refine lv_iconst (v := (0 : Int32)) hx hb dX10_procedure_16 (by decide) ?_
  refine lv_istore_n (lv' := [(1, .int (0 : Int32)), (0, .ref (Q 0))]) hx hb dX10_procedure_17 rfl hl (by decide) rfl (fun ls hl => ?_)
  have hl := lv_sub (l' := [(0, .ref (Q 0)), (1, .int (0 : Int32))]) hl [1, 0] rfl
  refine lv_iconst (v := (1 : Int32)) hx hb dX10_procedure_18 (by decide) ?_
  refine lv_istore_n (lv' := [(2, .int (1 : Int32)), (0, .ref (Q 0)), (1, .int (0 : Int32))]) hx hb dX10_procedure_19 rfl hl (by decide) rfl (fun ls hl => ?_)
  have hl := lv_sub (l' := [(0, .ref (Q 0)), (1, .int (0 : Int32)), (2, .int (1 : Int32))]) hl [1, 2, 0] rfl
  refine lv_iconst (v := (1 : Int32)) hx hb dX10_procedure_20 (by decide) ?_
  refine lv_istore_n (lv' := [(3, .int (1 : Int32)), (0, .ref (Q 0)), (1, .int (0 : Int32)), (2, .int (1 : Int32))]) hx hb dX10_procedure_21 rfl hl (by decide) rfl (fun ls hl => ?_)
  have hl := lv_sub (l' := [(0, .ref (Q 0)), (1, .int (0 : Int32)), (2, .int (1 : Int32)), (3, .int (1 : Int32))]) hl [1, 2, 3, 0] rfl
  exact lab22 fuelN (0 : Int32) (1 : Int32) (1 : Int32) s46 H locs ls hf h (lv_sub hl [0, 1, 2, 3] rfl)

set_option maxHeartbeats 8000000 in
set_option maxRecDepth 100000 in
theorem c_Model_lot (l : Launch) (Z : ZT) (Q : Nat → Nat) (s : XS) (x1 : Int32) {r : Int32} {s' : XS} (hf : p_Model_lot x1 s = some (r, s')) : KI l Z (wY Z Q) yX10_lot wsX10_lot { frames := 1, cells := 0, slots := 0, locals := 22 } [.ref (Q 0), .int x1] s r s' := by
  intro sz
  refine met_entry (cc := cX10_lot) (maxL := 2) (ret := (some .int)) (by decide) rfl (Nat.le_of_ble_eq_true rfl) sz rfl ?_
  generalize va_A (wY Z Q s) sz = A
  intro p e s0 m args below meth c ls F hr hlk h hl
  have hl : lv_has ls 2 [(0, .ref (Q 0)), (1, .int x1)] := hl
  obtain ⟨hx, hb, hml, hown, hts⟩ := id F
  have hinX10 : ∀ w ∈ wsX100, w ∈ wsX10_lot := by decide +kernel
  obtain ⟨H, eH⟩ : ∃ z, z = s0.heap := ⟨_, rfl⟩
  obtain ⟨locs, eL⟩ : ∃ z : List Loc, z = [] := ⟨_, rfl⟩
  rw [← eH, ← eL] at h ⊢
  unfold p_Model_lot at hf
  refine lv_aload_n hx hb dX10_lot_0 rfl (lv_at hl 0 rfl) ?_
  refine gY_Model_waiting F h hinX10 (hts (.fieldLink RX10 174 "ElectionHouseModel" "waiting" "I") (by decide +kernel)) dX10_lot_1 ?_
  refine lv_sipush (v := (500 : Int32)) hx hb dX10_lot_4 (by decide) ?_
  refine lv_icmp_eq (tgt := 21) hx hb dX10_lot_7 (by decide) (fun c_1 => ?_) (fun c_1 => ?_)
  · have hf := ip c_1 hf
    refine lv_iconst (v := (-1 : Int32)) hx hb dX10_lot_21 (by decide) ?_
    exact retE_I F hr hlk h hf dX10_lot_22
  · have hf := im c_1 hf
    refine lv_iload_n hx hb dX10_lot_10 rfl (lv_at hl 1 rfl) ?_
    refine lv_iconst (v := (0 : Int32)) hx hb dX10_lot_11 (by decide) ?_
    refine lv_sipush (v := (9999 : Int32)) hx hb dX10_lot_12 (by decide) ?_
    obtain ⟨r3, hc2, hf⟩ := ob1 hf
    refine call_SI F (c_Model_in l Z (wY Z Q) s x1 (0 : Int32) (9999 : Int32) hc2) (va_cwS 3 hts gX10_lot_X10_in rfl rfl rfl (by decide +kernel) ⟨Nat.le_of_ble_eq_true rfl, Nat.le_of_ble_eq_true rfl⟩) h rfl hl.1 rfl (Nat.le_of_ble_eq_true rfl) ⟨Nat.zero_le _, Nat.zero_le _⟩ dX10_lot_15 (fun H locs h => ?_)
    refine lv_if_ne (tgt := 23) hx hb dX10_lot_18 (by decide) (fun c_5 => ?_) (fun c_5 => ?_)
    · have hf := im c_5 hf
      refine lv_aload_n hx hb dX10_lot_23 rfl (lv_at hl 0 rfl) ?_
      refine gY_Model_lots F h hinX10 (hts (.fieldLink RX10 64 "ElectionHouseModel" "lots" "[I") (by decide +kernel)) dX10_lot_24 ?_
      refine lv_aload_n hx hb dX10_lot_27 rfl (lv_at hl 0 rfl) ?_
      refine gY_Model_waiting F h hinX10 (hts (.fieldLink RX10 174 "ElectionHouseModel" "waiting" "I") (by decide +kernel)) dX10_lot_28 ?_
      refine lv_iload_n hx hb dX10_lot_31 rfl (lv_at hl 1 rfl) ?_
      obtain ⟨gi6, hf⟩ := og hf
      refine sY_mlots F h gi6 dX10_lot_32 (fun H locs h => ?_)
      obtain ⟨s7, es, hf⟩ := olq hf
      rw [← es] at h
      refine lv_aload_n hx hb dX10_lot_33 rfl (lv_at hl 0 rfl) ?_
      refine lv_dup hx hb dX10_lot_34 rfl ?_
      refine gY_Model_waiting F h hinX10 (hts (.fieldLink RX10 174 "ElectionHouseModel" "waiting" "I") (by decide +kernel)) dX10_lot_35 ?_
      refine lv_iconst (v := (1 : Int32)) hx hb dX10_lot_38 (by decide) ?_
      refine lv_iadd hx hb dX10_lot_39 ?_
      refine pY_Model_waiting F h hinX10 (hts (.fieldLink RX10 174 "ElectionHouseModel" "waiting" "I") (by decide +kernel)) dX10_lot_40 (fun H locs h => ?_)
      obtain ⟨s8, es, hf⟩ := olq hf
      rw [← es] at h
      refine lv_aload_n hx hb dX10_lot_43 rfl (lv_at hl 0 rfl) ?_
      refine gY_Model_waiting F h hinX10 (hts (.fieldLink RX10 174 "ElectionHouseModel" "waiting" "I") (by decide +kernel)) dX10_lot_44 ?_
      exact retE_I F hr hlk h hf dX10_lot_47
    · have hf := ip c_5 hf
      refine lv_iconst (v := (-1 : Int32)) hx hb dX10_lot_21 (by decide) ?_
      exact retE_I F hr hlk h hf dX10_lot_22

set_option maxHeartbeats 8000000 in
set_option maxRecDepth 100000 in
theorem c_Model_draws (l : Launch) (Z : ZT) (Q : Nat → Nat) (s : XS) {r : Int32} {s' : XS} (hf : p_Model_draws s = some (r, s')) : KI l Z (wY Z Q) yX10_draws wsX10_draws { frames := 0, cells := 0, slots := 0, locals := 0 } [.ref (Q 0)] s r s' := by
  intro sz
  refine met_entry (cc := cX10_draws) (maxL := 9) (ret := (some .int)) (by decide) rfl (Nat.le_of_ble_eq_true rfl) sz rfl ?_
  generalize va_A (wY Z Q s) sz = A
  intro p e s0 m args below meth c ls F hr hlk h hl
  have hl : lv_has ls 9 [(0, .ref (Q 0))] := hl
  obtain ⟨hx, hb, hml, hown, hts⟩ := id F
  have hinX10 : ∀ w ∈ wsX100, w ∈ wsX10_draws := by decide +kernel
  obtain ⟨H, eH⟩ : ∃ z, z = s0.heap := ⟨_, rfl⟩
  obtain ⟨locs, eL⟩ : ∃ z : List Loc, z = [] := ⟨_, rfl⟩
  rw [← eH, ← eL] at h ⊢
  unfold p_Model_draws at hf
  have lab31 : ∀ (x1 : Int32) (x2 : Int32) (x3 : Int32) (n : Nat) (x4 : Int32) (s : XS) (H : Heap) (locs : List Loc) (ls : Array Slot), lo2 (p_Model_draws_B31 x1 x2 x3) n x4 s = some (r, s') → HW Z (wY Z Q) A s0 H locs s → lv_has ls 9 [(0, .ref (Q 0)), (1, .int x1), (2, .int x2), (3, .int x3), (4, .int x4)] → W p l e { frames := 0, cells := 0, slots := 0, locals := 0 } s0 m args below meth c H locs 0 0 (MQ below (QcI Z (wY Z Q) A r s') args s0 0 0 A) (F0 m 31 ls []) := by
    intro x1 x2 x3 n
    induction n with
    | zero => intro x4 s H locs ls hf; exact absurd hf lo2_z
    | succ n ih31 =>
      intro x4 s H locs ls hf h hl
      have hf := lo2_s hf
      generalize lo2 (p_Model_draws_B31 x1 x2 x3) n = c31 at hf ih31
      unfold p_Model_draws_B31 at hf
      have lab65 : ∀ (x1 : Int32) (x2 : Int32) (x3 : Int32) (n : Nat) (x4 : Int32) (x5 : Int32) (s : XS) (H : Heap) (locs : List Loc) (ls : Array Slot), lo3 (p_Model_draws_B65 x1 x2 x3) n x4 x5 s = some (r, s') → HW Z (wY Z Q) A s0 H locs s → lv_has ls 9 [(0, .ref (Q 0)), (1, .int x1), (2, .int x2), (3, .int x3), (4, .int x4), (5, .int x5)] → W p l e { frames := 0, cells := 0, slots := 0, locals := 0 } s0 m args below meth c H locs 0 0 (MQ below (QcI Z (wY Z Q) A r s') args s0 0 0 A) (F0 m 65 ls []) := by
        intro x1 x2 x3 n
        induction n with
        | zero => intro x4 x5 s H locs ls hf; exact absurd hf lo3_z
        | succ n ih65 =>
          intro x4 x5 s H locs ls hf h hl
          have hf := lo3_s hf
          generalize lo3 (p_Model_draws_B65 x1 x2 x3) n = c65 at hf ih65
          unfold p_Model_draws_B65 at hf
          have lab213 : ∀ (x4 : Int32) (n : Nat) (x5 : Int32) (s : XS) (H : Heap) (locs : List Loc) (ls : Array Slot), lo2 (p_Model_draws_B213 x4) n x5 s = some (r, s') → HW Z (wY Z Q) A s0 H locs s → lv_has ls 9 [(0, .ref (Q 0)), (4, .int x4), (5, .int x5)] → W p l e { frames := 0, cells := 0, slots := 0, locals := 0 } s0 m args below meth c H locs 0 0 (MQ below (QcI Z (wY Z Q) A r s') args s0 0 0 A) (F0 m 213 ls []) := by
            intro x4 n
            induction n with
            | zero => intro x5 s H locs ls hf; exact absurd hf lo2_z
            | succ n ih213 =>
              intro x5 s H locs ls hf h hl
              have hf := lo2_s hf
              generalize lo2 (p_Model_draws_B213 x4) n = c213 at hf ih213
              unfold p_Model_draws_B213 at hf
              refine lv_iload hx hb dX10_draws_213 (lv_at hl 2 rfl) ?_
              refine lv_aload_n hx hb dX10_draws_215 rfl (lv_at hl 0 rfl) ?_
              refine gY_Model_waiting F h hinX10 (hts (.fieldLink RX10 174 "ElectionHouseModel" "waiting" "I") (by decide +kernel)) dX10_draws_216 ?_
              refine lv_icmp_ge (tgt := 245) hx hb dX10_draws_219 (by decide) (fun c_1 => ?_) (fun c_1 => ?_)
              · have hf := ip c_1 hf
                refine lv_aload_n hx hb dX10_draws_245 rfl (lv_at hl 0 rfl) ?_
                refine lv_dup hx hb dX10_draws_246 rfl ?_
                refine gY_Model_waiting F h hinX10 (hts (.fieldLink RX10 174 "ElectionHouseModel" "waiting" "I") (by decide +kernel)) dX10_draws_247 ?_
                refine lv_iload hx hb dX10_draws_250 (lv_at hl 1 rfl) ?_
                refine lv_isub hx hb dX10_draws_252 ?_
                refine pY_Model_waiting F h hinX10 (hts (.fieldLink RX10 174 "ElectionHouseModel" "waiting" "I") (by decide +kernel)) dX10_draws_253 (fun H locs h => ?_)
                obtain ⟨s2, es, hf⟩ := olq hf
                rw [← es] at h
                refine lv_aload_n hx hb dX10_draws_256 rfl (lv_at hl 0 rfl) ?_
                refine lv_dup hx hb dX10_draws_257 rfl ?_
                refine gY_Model_used F h hinX10 (hts (.fieldLink RX10 177 "ElectionHouseModel" "used" "I") (by decide +kernel)) dX10_draws_258 ?_
                refine lv_iload hx hb dX10_draws_261 (lv_at hl 1 rfl) ?_
                refine lv_iadd hx hb dX10_draws_263 ?_
                refine pY_Model_used F h hinX10 (hts (.fieldLink RX10 177 "ElectionHouseModel" "used" "I") (by decide +kernel)) dX10_draws_264 (fun H locs h => ?_)
                obtain ⟨s3, es, hf⟩ := olq hf
                rw [← es] at h
                refine lv_iconst (v := (0 : Int32)) hx hb dX10_draws_267 (by decide) ?_
                exact retE_I F hr hlk h hf dX10_draws_268
              · have hf := im c_1 hf
                refine lv_aload_n hx hb dX10_draws_222 rfl (lv_at hl 0 rfl) ?_
                refine gY_Model_lots F h hinX10 (hts (.fieldLink RX10 64 "ElectionHouseModel" "lots" "[I") (by decide +kernel)) dX10_draws_223 ?_
                refine lv_iload hx hb dX10_draws_226 (lv_at hl 2 rfl) ?_
                refine lv_iload hx hb dX10_draws_228 (lv_at hl 1 rfl) ?_
                refine lv_isub hx hb dX10_draws_230 ?_
                refine lv_aload_n hx hb dX10_draws_231 rfl (lv_at hl 0 rfl) ?_
                refine gY_Model_lots F h hinX10 (hts (.fieldLink RX10 64 "ElectionHouseModel" "lots" "[I") (by decide +kernel)) dX10_draws_232 ?_
                refine lv_iload hx hb dX10_draws_235 (lv_at hl 2 rfl) ?_
                obtain ⟨gi4, hf⟩ := og hf
                refine lY_mlots F h gi4 dX10_draws_237 ?_
                obtain ⟨gi5, hf⟩ := og hf
                refine sY_mlots F h gi5 dX10_draws_238 (fun H locs h => ?_)
                obtain ⟨s6, es, hf⟩ := olq hf
                rw [← es] at h
                refine lv_iinc (v := (x5 + (1 : Int32))) (lv' := [(5, .int (x5 + (1 : Int32))), (0, .ref (Q 0)), (4, .int x4)]) hx hb dX10_draws_239 hl (k := 2) rfl (congrArg (fun z => x5 + z) (by decide : Int32.ofInt (1) = (1 : Int32))) (by decide) rfl (fun ls hl => ?_)
                have hl := lv_sub (l' := [(0, .ref (Q 0)), (4, .int x4), (5, .int (x5 + (1 : Int32)))]) hl [1, 2, 0] rfl
                refine lv_goto (tgt := 213) hx hb dX10_draws_242 (by decide) ?_
                exact ih213 (x5 + (1 : Int32)) s6 H locs ls hf h (lv_sub hl [0, 1, 2] rfl)
          have lab77 : ∀ (x5 : Int32) (x6 : Int32) (s : XS) (n : Nat) (x4 : Int32) (H : Heap) (locs : List Loc) (ls : Array Slot), lo1 (p_Model_draws_B77 x1 x2 x3 x5 x6 s c65) n x4 = some (r, s') → HW Z (wY Z Q) A s0 H locs s → lv_has ls 9 [(0, .ref (Q 0)), (1, .int x1), (2, .int x2), (3, .int x3), (4, .int x4), (5, .int x5), (6, .int x6)] → W p l e { frames := 0, cells := 0, slots := 0, locals := 0 } s0 m args below meth c H locs 0 0 (MQ below (QcI Z (wY Z Q) A r s') args s0 0 0 A) (F0 m 77 ls []) := by
            intro x5 x6 s n
            induction n with
            | zero => intro x4 H locs ls hf; exact absurd hf lo1_z
            | succ n ih77 =>
              intro x4 H locs ls hf h hl
              have hf := lo1_s hf
              generalize lo1 (p_Model_draws_B77 x1 x2 x3 x5 x6 s c65) n = c77 at hf ih77
              unfold p_Model_draws_B77 at hf
              have lab111 : ∀ (x4 : Int32) (x5 : Int32) (x6 : Int32) (s : XS) (H : Heap) (locs : List Loc) (ls : Array Slot), p_Model_draws_K111 c65 x1 x2 x3 x4 x5 x6 s = some (r, s') → HW Z (wY Z Q) A s0 H locs s → lv_has ls 9 [(0, .ref (Q 0)), (1, .int x1), (2, .int x2), (3, .int x3), (4, .int x4), (5, .int x5), (6, .int x6)] → W p l e { frames := 0, cells := 0, slots := 0, locals := 0 } s0 m args below meth c H locs 0 0 (MQ below (QcI Z (wY Z Q) A r s') args s0 0 0 A) (F0 m 111 ls []) := by
                intro x4 x5 x6 s H locs ls hf h hl
                unfold p_Model_draws_K111 at hf
                have lab160 : ∀ (x4 : Int32) (x5 : Int32) (x6 : Int32) (n : Nat) (x8 : Int32) (s : XS) (H : Heap) (locs : List Loc) (ls : Array Slot), lo2 (p_Model_draws_B160 x1 x2 x3 x4 x5 x6 c65) n x8 s = some (r, s') → HW Z (wY Z Q) A s0 H locs s → lv_has ls 9 [(0, .ref (Q 0)), (1, .int x1), (2, .int x2), (3, .int x3), (4, .int x4), (5, .int x5), (6, .int x6), (8, .int x8)] → W p l e { frames := 0, cells := 0, slots := 0, locals := 0 } s0 m args below meth c H locs 0 0 (MQ below (QcI Z (wY Z Q) A r s') args s0 0 0 A) (F0 m 160 ls []) := by
                  intro x4 x5 x6 n
                  induction n with
                  | zero => intro x8 s H locs ls hf; exact absurd hf lo2_z
                  | succ n ih160 =>
                    intro x8 s H locs ls hf h hl
                    have hf := lo2_s hf
                    generalize lo2 (p_Model_draws_B160 x1 x2 x3 x4 x5 x6 c65) n = c160 at hf ih160
                    unfold p_Model_draws_B160 at hf
                    refine lv_iload hx hb dX10_draws_160 (lv_at hl 7 rfl) ?_
                    refine lv_iload hx hb dX10_draws_162 (lv_at hl 6 rfl) ?_
                    refine lv_iconst (v := (1 : Int32)) hx hb dX10_draws_164 (by decide) ?_
                    refine lv_isub hx hb dX10_draws_165 ?_
                    refine lv_icmp_ge (tgt := 191) hx hb dX10_draws_166 (by decide) (fun c_7 => ?_) (fun c_7 => ?_)
                    · have hf := ip c_7 hf
                      refine lv_iinc (v := (x5 + (1 : Int32))) (lv' := [(5, .int (x5 + (1 : Int32))), (0, .ref (Q 0)), (1, .int x1), (2, .int x2), (3, .int x3), (4, .int x4), (6, .int x6), (8, .int x8)]) hx hb dX10_draws_191 hl (k := 5) rfl (congrArg (fun z => x5 + z) (by decide : Int32.ofInt (1) = (1 : Int32))) (by decide) rfl (fun ls hl => ?_)
                      have hl := lv_sub (l' := [(0, .ref (Q 0)), (1, .int x1), (2, .int x2), (3, .int x3), (4, .int x4), (5, .int (x5 + (1 : Int32))), (6, .int x6), (8, .int x8)]) hl [1, 2, 3, 4, 5, 0, 6, 7] rfl
                      refine lv_goto (tgt := 65) hx hb dX10_draws_194 (by decide) ?_
                      exact ih65 x4 (x5 + (1 : Int32)) s H locs ls hf h (lv_sub hl [0, 1, 2, 3, 4, 5] rfl)
                    · have hf := im c_7 hf
                      refine lv_aload_n hx hb dX10_draws_169 rfl (lv_at hl 0 rfl) ?_
                      refine gY_Model_left F h hinX10 (hts (.fieldLink RX10 76 "ElectionHouseModel" "left" "[I") (by decide +kernel)) dX10_draws_170 ?_
                      refine lv_iload hx hb dX10_draws_173 (lv_at hl 7 rfl) ?_
                      refine lv_aload_n hx hb dX10_draws_175 rfl (lv_at hl 0 rfl) ?_
                      refine gY_Model_left F h hinX10 (hts (.fieldLink RX10 76 "ElectionHouseModel" "left" "[I") (by decide +kernel)) dX10_draws_176 ?_
                      refine lv_iload hx hb dX10_draws_179 (lv_at hl 7 rfl) ?_
                      refine lv_iconst (v := (1 : Int32)) hx hb dX10_draws_181 (by decide) ?_
                      refine lv_iadd hx hb dX10_draws_182 ?_
                      obtain ⟨gi8, hf⟩ := og hf
                      refine lY_mleft F h gi8 dX10_draws_183 ?_
                      obtain ⟨gi9, hf⟩ := og hf
                      refine sY_mleft F h gi9 dX10_draws_184 (fun H locs h => ?_)
                      obtain ⟨s10, es, hf⟩ := olq hf
                      rw [← es] at h
                      refine lv_iinc (v := (x8 + (1 : Int32))) (lv' := [(8, .int (x8 + (1 : Int32))), (0, .ref (Q 0)), (1, .int x1), (2, .int x2), (3, .int x3), (4, .int x4), (5, .int x5), (6, .int x6)]) hx hb dX10_draws_185 hl (k := 7) rfl (congrArg (fun z => x8 + z) (by decide : Int32.ofInt (1) = (1 : Int32))) (by decide) rfl (fun ls hl => ?_)
                      have hl := lv_sub (l' := [(0, .ref (Q 0)), (1, .int x1), (2, .int x2), (3, .int x3), (4, .int x4), (5, .int x5), (6, .int x6), (8, .int (x8 + (1 : Int32)))]) hl [1, 2, 3, 4, 5, 6, 7, 0] rfl
                      refine lv_goto (tgt := 160) hx hb dX10_draws_188 (by decide) ?_
                      exact ih160 (x8 + (1 : Int32)) s10 H locs ls hf h (lv_sub hl [0, 1, 2, 3, 4, 5, 6, 7] rfl)
                refine lv_iload hx hb dX10_draws_111 (lv_at hl 4 rfl) ?_
                refine lv_aload_n hx hb dX10_draws_113 rfl (lv_at hl 0 rfl) ?_
                refine gY_Model_waiting F h hinX10 (hts (.fieldLink RX10 174 "ElectionHouseModel" "waiting" "I") (by decide +kernel)) dX10_draws_114 ?_
                refine lv_icmp_ne (tgt := 122) hx hb dX10_draws_117 (by decide) (fun c_11 => ?_) (fun c_11 => ?_)
                · have hf := im c_11 hf
                  refine lv_aload_n hx hb dX10_draws_122 rfl (lv_at hl 0 rfl) ?_
                  refine gY_Model_lots F h hinX10 (hts (.fieldLink RX10 64 "ElectionHouseModel" "lots" "[I") (by decide +kernel)) dX10_draws_123 ?_
                  refine lv_iload hx hb dX10_draws_126 (lv_at hl 4 rfl) ?_
                  obtain ⟨gi12, hf⟩ := og hf
                  refine lY_mlots F h gi12 dX10_draws_128 ?_
                  refine lv_iload hx hb dX10_draws_129 (lv_at hl 6 rfl) ?_
                  obtain ⟨gd13, hf⟩ := og0 hf
                  refine lv_irem hx hb dX10_draws_131 gd13 ?_
                  refine lv_istore (lv' := [(7, .int ((gM s 17 (ix x4)) - (gM s 17 (ix x4)) / x6 * x6)), (0, .ref (Q 0)), (1, .int x1), (2, .int x2), (3, .int x3), (4, .int x4), (5, .int x5), (6, .int x6)]) hx hb dX10_draws_132 hl (by decide) rfl (fun ls hl => ?_)
                  have hl := lv_sub (l' := [(0, .ref (Q 0)), (1, .int x1), (2, .int x2), (3, .int x3), (4, .int x4), (5, .int x5), (6, .int x6), (7, .int ((gM s 17 (ix x4)) - (gM s 17 (ix x4)) / x6 * x6))]) hl [1, 2, 3, 4, 5, 6, 7, 0] rfl
                  refine lv_iinc (v := (x4 + (1 : Int32))) (lv' := [(4, .int (x4 + (1 : Int32))), (0, .ref (Q 0)), (1, .int x1), (2, .int x2), (3, .int x3), (5, .int x5), (6, .int x6), (7, .int ((gM s 17 (ix x4)) - (gM s 17 (ix x4)) / x6 * x6))]) hx hb dX10_draws_134 hl (k := 4) rfl (congrArg (fun z => x4 + z) (by decide : Int32.ofInt (1) = (1 : Int32))) (by decide) rfl (fun ls hl => ?_)
                  have hl := lv_sub (l' := [(0, .ref (Q 0)), (1, .int x1), (2, .int x2), (3, .int x3), (4, .int (x4 + (1 : Int32))), (5, .int x5), (6, .int x6), (7, .int ((gM s 17 (ix x4)) - (gM s 17 (ix x4)) / x6 * x6))]) hl [1, 2, 3, 4, 0, 5, 6, 7] rfl
                  refine lv_aload_n hx hb dX10_draws_137 rfl (lv_at hl 0 rfl) ?_
                  refine gY_Model_bodies F h hinX10 (hts (.fieldLink RX10 57 "ElectionHouseModel" "bodies" "[I") (by decide +kernel)) dX10_draws_138 ?_
                  refine lv_iload_n hx hb dX10_draws_141 rfl (lv_at hl 2 rfl) ?_
                  refine lv_bipush (v := (40 : Int32)) hx hb dX10_draws_142 (by decide) ?_
                  refine lv_iadd hx hb dX10_draws_144 ?_
                  refine lv_iload hx hb dX10_draws_145 (lv_at hl 5 rfl) ?_
                  refine lv_iadd hx hb dX10_draws_147 ?_
                  refine lv_aload_n hx hb dX10_draws_148 rfl (lv_at hl 0 rfl) ?_
                  refine gY_Model_left F h hinX10 (hts (.fieldLink RX10 76 "ElectionHouseModel" "left" "[I") (by decide +kernel)) dX10_draws_149 ?_
                  refine lv_iload hx hb dX10_draws_152 (lv_at hl 7 rfl) ?_
                  obtain ⟨gi14, hf⟩ := og hf
                  refine lY_mleft F h gi14 dX10_draws_154 ?_
                  obtain ⟨gi15, hf⟩ := og hf
                  refine sY_mbodies F h gi15 dX10_draws_155 (fun H locs h => ?_)
                  obtain ⟨s16, es, hf⟩ := olq hf
                  rw [← es] at h
                  refine lv_iload hx hb dX10_draws_156 (lv_at hl 7 rfl) ?_
                  refine lv_istore (lv' := [(8, .int ((gM s 17 (ix x4)) - (gM s 17 (ix x4)) / x6 * x6)), (0, .ref (Q 0)), (1, .int x1), (2, .int x2), (3, .int x3), (4, .int (x4 + (1 : Int32))), (5, .int x5), (6, .int x6), (7, .int ((gM s 17 (ix x4)) - (gM s 17 (ix x4)) / x6 * x6))]) hx hb dX10_draws_158 hl (by decide) rfl (fun ls hl => ?_)
                  have hl := lv_sub (l' := [(0, .ref (Q 0)), (1, .int x1), (2, .int x2), (3, .int x3), (4, .int (x4 + (1 : Int32))), (5, .int x5), (6, .int x6), (7, .int ((gM s 17 (ix x4)) - (gM s 17 (ix x4)) / x6 * x6)), (8, .int ((gM s 17 (ix x4)) - (gM s 17 (ix x4)) / x6 * x6))]) hl [1, 2, 3, 4, 5, 6, 7, 8, 0] rfl
                  exact lab160 (x4 + (1 : Int32)) x5 x6 fuelN ((gM s 17 (ix x4)) - (gM s 17 (ix x4)) / x6 * x6) s16 H locs ls hf h (lv_sub hl [0, 1, 2, 3, 4, 5, 6, 8] rfl)
                · have hf := ip c_11 hf
                  refine lv_iconst (v := (1 : Int32)) hx hb dX10_draws_120 (by decide) ?_
                  exact retE_I F hr hlk h hf dX10_draws_121
              refine lv_iload hx hb dX10_draws_77 (lv_at hl 4 rfl) ?_
              refine lv_aload_n hx hb dX10_draws_79 rfl (lv_at hl 0 rfl) ?_
              refine gY_Model_waiting F h hinX10 (hts (.fieldLink RX10 174 "ElectionHouseModel" "waiting" "I") (by decide +kernel)) dX10_draws_80 ?_
              refine lv_icmp_ge (tgt := 111) hx hb dX10_draws_83 (by decide) (fun c_17 => ?_) (fun c_17 => ?_)
              · have hf := ip c_17 hf
                exact lab111 x4 x5 x6 s H locs ls hf h (lv_sub hl [0, 1, 2, 3, 4, 5, 6] rfl)
              · have hf := im c_17 hf
                refine lv_aload_n hx hb dX10_draws_86 rfl (lv_at hl 0 rfl) ?_
                refine gY_Model_lots F h hinX10 (hts (.fieldLink RX10 64 "ElectionHouseModel" "lots" "[I") (by decide +kernel)) dX10_draws_87 ?_
                refine lv_iload hx hb dX10_draws_90 (lv_at hl 4 rfl) ?_
                obtain ⟨gi18, hf⟩ := og hf
                refine lY_mlots F h gi18 dX10_draws_92 ?_
                refine lv_iload hx hb dX10_draws_93 (lv_at hl 6 rfl) ?_
                refine lv_sipush (v := (10000 : Int32)) hx hb dX10_draws_95 (by decide) ?_
                refine lv_iload hx hb dX10_draws_98 (lv_at hl 6 rfl) ?_
                obtain ⟨gd19, hf⟩ := og0 hf
                refine lv_idiv hx hb dX10_draws_100 gd19 ?_
                refine lv_imul hx hb dX10_draws_101 ?_
                refine lv_icmp_lt (tgt := 111) hx hb dX10_draws_102 (by decide) (fun c_20 => ?_) (fun c_20 => ?_)
                · have hf := ip c_20 hf
                  exact lab111 x4 x5 x6 s H locs ls hf h (lv_sub hl [0, 1, 2, 3, 4, 5, 6] rfl)
                · have hf := im c_20 hf
                  refine lv_iinc (v := (x4 + (1 : Int32))) (lv' := [(4, .int (x4 + (1 : Int32))), (0, .ref (Q 0)), (1, .int x1), (2, .int x2), (3, .int x3), (5, .int x5), (6, .int x6)]) hx hb dX10_draws_105 hl (k := 4) rfl (congrArg (fun z => x4 + z) (by decide : Int32.ofInt (1) = (1 : Int32))) (by decide) rfl (fun ls hl => ?_)
                  have hl := lv_sub (l' := [(0, .ref (Q 0)), (1, .int x1), (2, .int x2), (3, .int x3), (4, .int (x4 + (1 : Int32))), (5, .int x5), (6, .int x6)]) hl [1, 2, 3, 4, 0, 5, 6] rfl
                  refine lv_goto (tgt := 77) hx hb dX10_draws_108 (by decide) ?_
                  exact ih77 (x4 + (1 : Int32)) H locs ls hf h (lv_sub hl [0, 1, 2, 3, 4, 5, 6] rfl)
          refine lv_iload hx hb dX10_draws_65 (lv_at hl 5 rfl) ?_
          refine lv_iload_n hx hb dX10_draws_67 rfl (lv_at hl 1 rfl) ?_
          refine lv_icmp_ge (tgt := 197) hx hb dX10_draws_68 (by decide) (fun c_21 => ?_) (fun c_21 => ?_)
          · have hf := ip c_21 hf
            refine lv_aload_n hx hb dX10_draws_197 rfl (lv_at hl 0 rfl) ?_
            refine gY_Model_bodyMany F h hinX10 (hts (.fieldLink RX10 54 "ElectionHouseModel" "bodyMany" "[I") (by decide +kernel)) dX10_draws_198 ?_
            refine lv_aload_n hx hb dX10_draws_201 rfl (lv_at hl 0 rfl) ?_
            refine gY_Model_done F h hinX10 (hts (.fieldLink RX10 105 "ElectionHouseModel" "done" "I") (by decide +kernel)) dX10_draws_202 ?_
            refine lv_iconst (v := (1 : Int32)) hx hb dX10_draws_205 (by decide) ?_
            refine lv_iadd hx hb dX10_draws_206 ?_
            refine lv_iload_n hx hb dX10_draws_207 rfl (lv_at hl 1 rfl) ?_
            obtain ⟨gi22, hf⟩ := og hf
            refine sY_mbodyMany F h gi22 dX10_draws_208 (fun H locs h => ?_)
            obtain ⟨s23, es, hf⟩ := olq hf
            rw [← es] at h
            refine lv_iload hx hb dX10_draws_209 (lv_at hl 4 rfl) ?_
            refine lv_istore (lv' := [(5, .int x4), (0, .ref (Q 0)), (1, .int x1), (2, .int x2), (3, .int x3), (4, .int x4)]) hx hb dX10_draws_211 hl (by decide) rfl (fun ls hl => ?_)
            have hl := lv_sub (l' := [(0, .ref (Q 0)), (1, .int x1), (2, .int x2), (3, .int x3), (4, .int x4), (5, .int x4)]) hl [1, 2, 3, 4, 5, 0] rfl
            exact lab213 x4 fuelN x4 s23 H locs ls hf h (lv_sub hl [0, 4, 5] rfl)
          · have hf := im c_21 hf
            refine lv_iload_n hx hb dX10_draws_71 rfl (lv_at hl 3 rfl) ?_
            refine lv_iload hx hb dX10_draws_72 (lv_at hl 5 rfl) ?_
            refine lv_isub hx hb dX10_draws_74 ?_
            refine lv_istore (lv' := [(6, .int (x3 - x5)), (0, .ref (Q 0)), (1, .int x1), (2, .int x2), (3, .int x3), (4, .int x4), (5, .int x5)]) hx hb dX10_draws_75 hl (by decide) rfl (fun ls hl => ?_)
            have hl := lv_sub (l' := [(0, .ref (Q 0)), (1, .int x1), (2, .int x2), (3, .int x3), (4, .int x4), (5, .int x5), (6, .int (x3 - x5))]) hl [1, 2, 3, 4, 5, 6, 0] rfl
            exact lab77 x5 (x3 - x5) s fuelN x4 H locs ls hf h (lv_sub hl [0, 1, 2, 3, 4, 5, 6] rfl)
      refine lv_iload hx hb dX10_draws_31 (lv_at hl 4 rfl) ?_
      refine lv_iload_n hx hb dX10_draws_33 rfl (lv_at hl 3 rfl) ?_
      refine lv_icmp_ge (tgt := 59) hx hb dX10_draws_34 (by decide) (fun c_24 => ?_) (fun c_24 => ?_)
      · have hf := ip c_24 hf
        refine lv_iconst (v := (0 : Int32)) hx hb dX10_draws_59 (by decide) ?_
        refine lv_istore (lv' := [(4, .int (0 : Int32)), (0, .ref (Q 0)), (1, .int x1), (2, .int x2), (3, .int x3)]) hx hb dX10_draws_60 hl (by decide) rfl (fun ls hl => ?_)
        have hl := lv_sub (l' := [(0, .ref (Q 0)), (1, .int x1), (2, .int x2), (3, .int x3), (4, .int (0 : Int32))]) hl [1, 2, 3, 4, 0] rfl
        refine lv_iconst (v := (0 : Int32)) hx hb dX10_draws_62 (by decide) ?_
        refine lv_istore (lv' := [(5, .int (0 : Int32)), (0, .ref (Q 0)), (1, .int x1), (2, .int x2), (3, .int x3), (4, .int (0 : Int32))]) hx hb dX10_draws_63 hl (by decide) rfl (fun ls hl => ?_)
        have hl := lv_sub (l' := [(0, .ref (Q 0)), (1, .int x1), (2, .int x2), (3, .int x3), (4, .int (0 : Int32)), (5, .int (0 : Int32))]) hl [1, 2, 3, 4, 5, 0] rfl
        exact lab65 x1 x2 x3 fuelN (0 : Int32) (0 : Int32) s H locs ls hf h (lv_sub hl [0, 1, 2, 3, 4, 5] rfl)
      · have hf := im c_24 hf
        refine lv_aload_n hx hb dX10_draws_37 rfl (lv_at hl 0 rfl) ?_
        refine gY_Model_left F h hinX10 (hts (.fieldLink RX10 76 "ElectionHouseModel" "left" "[I") (by decide +kernel)) dX10_draws_38 ?_
        refine lv_iload hx hb dX10_draws_41 (lv_at hl 4 rfl) ?_
        refine lv_aload_n hx hb dX10_draws_43 rfl (lv_at hl 0 rfl) ?_
        refine gY_Model_bodies F h hinX10 (hts (.fieldLink RX10 57 "ElectionHouseModel" "bodies" "[I") (by decide +kernel)) dX10_draws_44 ?_
        refine lv_iload_n hx hb dX10_draws_47 rfl (lv_at hl 2 rfl) ?_
        refine lv_iload hx hb dX10_draws_48 (lv_at hl 4 rfl) ?_
        refine lv_iadd hx hb dX10_draws_50 ?_
        obtain ⟨gi25, hf⟩ := og hf
        refine lY_mbodies F h gi25 dX10_draws_51 ?_
        obtain ⟨gi26, hf⟩ := og hf
        refine sY_mleft F h gi26 dX10_draws_52 (fun H locs h => ?_)
        obtain ⟨s27, es, hf⟩ := olq hf
        rw [← es] at h
        refine lv_iinc (v := (x4 + (1 : Int32))) (lv' := [(4, .int (x4 + (1 : Int32))), (0, .ref (Q 0)), (1, .int x1), (2, .int x2), (3, .int x3)]) hx hb dX10_draws_53 hl (k := 4) rfl (congrArg (fun z => x4 + z) (by decide : Int32.ofInt (1) = (1 : Int32))) (by decide) rfl (fun ls hl => ?_)
        have hl := lv_sub (l' := [(0, .ref (Q 0)), (1, .int x1), (2, .int x2), (3, .int x3), (4, .int (x4 + (1 : Int32)))]) hl [1, 2, 3, 4, 0] rfl
        refine lv_goto (tgt := 31) hx hb dX10_draws_56 (by decide) ?_
        exact ih31 (x4 + (1 : Int32)) s27 H locs ls hf h (lv_sub hl [0, 1, 2, 3, 4] rfl)
  refine lv_aload_n hx hb dX10_draws_0 rfl (lv_at hl 0 rfl) ?_
  refine gY_Model_many F h hinX10 (hts (.fieldLink RX10 33 "ElectionHouseModel" "many" "[I") (by decide +kernel)) dX10_draws_1 ?_
  refine lv_aload_n hx hb dX10_draws_4 rfl (lv_at hl 0 rfl) ?_
  refine gY_Model_done F h hinX10 (hts (.fieldLink RX10 105 "ElectionHouseModel" "done" "I") (by decide +kernel)) dX10_draws_5 ?_
  obtain ⟨gi28, hf⟩ := og hf
  refine lY_mmany F h gi28 dX10_draws_8 ?_
  refine lv_istore_n (lv' := [(1, .int (gM s 8 (ix (gM s 0 18)))), (0, .ref (Q 0))]) hx hb dX10_draws_9 rfl hl (by decide) rfl (fun ls hl => ?_)
  have hl := lv_sub (l' := [(0, .ref (Q 0)), (1, .int (gM s 8 (ix (gM s 0 18))))]) hl [1, 0] rfl
  refine lv_bipush (v := (40 : Int32)) hx hb dX10_draws_10 (by decide) ?_
  refine lv_aload_n hx hb dX10_draws_12 rfl (lv_at hl 0 rfl) ?_
  refine gY_Model_done F h hinX10 (hts (.fieldLink RX10 105 "ElectionHouseModel" "done" "I") (by decide +kernel)) dX10_draws_13 ?_
  refine lv_imul hx hb dX10_draws_16 ?_
  refine lv_istore_n (lv' := [(2, .int ((40 : Int32) * (gM s 0 18))), (0, .ref (Q 0)), (1, .int (gM s 8 (ix (gM s 0 18))))]) hx hb dX10_draws_17 rfl hl (by decide) rfl (fun ls hl => ?_)
  have hl := lv_sub (l' := [(0, .ref (Q 0)), (1, .int (gM s 8 (ix (gM s 0 18)))), (2, .int ((40 : Int32) * (gM s 0 18)))]) hl [1, 2, 0] rfl
  refine lv_aload_n hx hb dX10_draws_18 rfl (lv_at hl 0 rfl) ?_
  refine gY_Model_bodyMany F h hinX10 (hts (.fieldLink RX10 54 "ElectionHouseModel" "bodyMany" "[I") (by decide +kernel)) dX10_draws_19 ?_
  refine lv_aload_n hx hb dX10_draws_22 rfl (lv_at hl 0 rfl) ?_
  refine gY_Model_done F h hinX10 (hts (.fieldLink RX10 105 "ElectionHouseModel" "done" "I") (by decide +kernel)) dX10_draws_23 ?_
  obtain ⟨gi29, hf⟩ := og hf
  refine lY_mbodyMany F h gi29 dX10_draws_26 ?_
  refine lv_istore_n (lv' := [(3, .int (gM s 15 (ix (gM s 0 18)))), (0, .ref (Q 0)), (1, .int (gM s 8 (ix (gM s 0 18)))), (2, .int ((40 : Int32) * (gM s 0 18)))]) hx hb dX10_draws_27 rfl hl (by decide) rfl (fun ls hl => ?_)
  have hl := lv_sub (l' := [(0, .ref (Q 0)), (1, .int (gM s 8 (ix (gM s 0 18)))), (2, .int ((40 : Int32) * (gM s 0 18))), (3, .int (gM s 15 (ix (gM s 0 18))))]) hl [1, 2, 3, 0] rfl
  refine lv_iconst (v := (0 : Int32)) hx hb dX10_draws_28 (by decide) ?_
  refine lv_istore (lv' := [(4, .int (0 : Int32)), (0, .ref (Q 0)), (1, .int (gM s 8 (ix (gM s 0 18)))), (2, .int ((40 : Int32) * (gM s 0 18))), (3, .int (gM s 15 (ix (gM s 0 18))))]) hx hb dX10_draws_29 hl (by decide) rfl (fun ls hl => ?_)
  have hl := lv_sub (l' := [(0, .ref (Q 0)), (1, .int (gM s 8 (ix (gM s 0 18)))), (2, .int ((40 : Int32) * (gM s 0 18))), (3, .int (gM s 15 (ix (gM s 0 18)))), (4, .int (0 : Int32))]) hl [1, 2, 3, 4, 0] rfl
  exact lab31 (gM s 8 (ix (gM s 0 18))) ((40 : Int32) * (gM s 0 18)) (gM s 15 (ix (gM s 0 18))) fuelN (0 : Int32) s H locs ls hf h (lv_sub hl [0, 1, 2, 3, 4] rfl)

set_option maxHeartbeats 8000000 in
set_option maxRecDepth 100000 in
theorem c_Model_votesFor (l : Launch) (Z : ZT) (Q : Nat → Nat) (s : XS) (x1 : Int32) {r : Int32} (hf : p_Model_votesFor x1 s = some r) : KI l Z (wY Z Q) yX10_votesFor wsX10_votesFor { frames := 0, cells := 0, slots := 0, locals := 0 } [.ref (Q 0), .int x1] s r s := by
  intro sz
  refine met_entry (cc := cX10_votesFor) (maxL := 5) (ret := (some .int)) (by decide) rfl (Nat.le_of_ble_eq_true rfl) sz rfl ?_
  generalize va_A (wY Z Q s) sz = A
  intro p e s0 m args below meth c ls F hr hlk h hl
  have hl : lv_has ls 5 [(0, .ref (Q 0)), (1, .int x1)] := hl
  obtain ⟨hx, hb, hml, hown, hts⟩ := id F
  have hinX10 : ∀ w ∈ wsX100, w ∈ wsX10_votesFor := by decide +kernel
  obtain ⟨H, eH⟩ : ∃ z, z = s0.heap := ⟨_, rfl⟩
  obtain ⟨locs, eL⟩ : ∃ z : List Loc, z = [] := ⟨_, rfl⟩
  rw [← eH, ← eL] at h ⊢
  unfold p_Model_votesFor at hf
  have lab4 : ∀ (x1 : Int32) (n : Nat) (x2 : Int32) (x3 : Int32) (H : Heap) (locs : List Loc) (ls : Array Slot), lo2 (p_Model_votesFor_B4 x1 s) n x2 x3 = some r → HW Z (wY Z Q) A s0 H locs s → lv_has ls 5 [(0, .ref (Q 0)), (1, .int x1), (2, .int x2), (3, .int x3)] → W p l e { frames := 0, cells := 0, slots := 0, locals := 0 } s0 m args below meth c H locs 0 0 (MQ below (QcI Z (wY Z Q) A r s) args s0 0 0 A) (F0 m 4 ls []) := by
    intro x1 n
    induction n with
    | zero => intro x2 x3 H locs ls hf; exact absurd hf lo2_z
    | succ n ih4 =>
      intro x2 x3 H locs ls hf h hl
      have hf := lo2_s hf
      generalize lo2 (p_Model_votesFor_B4 x1 s) n = c4 at hf ih4
      unfold p_Model_votesFor_B4 at hf
      refine lv_iload_n hx hb dX10_votesFor_4 rfl (lv_at hl 3 rfl) ?_
      refine lv_aload_n hx hb dX10_votesFor_5 rfl (lv_at hl 0 rfl) ?_
      refine gY_Model_bodyMany F h hinX10 (hts (.fieldLink RX10 54 "ElectionHouseModel" "bodyMany" "[I") (by decide +kernel)) dX10_votesFor_6 ?_
      refine lv_aload_n hx hb dX10_votesFor_9 rfl (lv_at hl 0 rfl) ?_
      refine gY_Model_done F h hinX10 (hts (.fieldLink RX10 105 "ElectionHouseModel" "done" "I") (by decide +kernel)) dX10_votesFor_10 ?_
      obtain ⟨gi1, hf⟩ := og hf
      refine lY_mbodyMany F h gi1 dX10_votesFor_13 ?_
      refine lv_icmp_ge (tgt := 118) hx hb dX10_votesFor_14 (by decide) (fun c_2 => ?_) (fun c_2 => ?_)
      · have hf := ip c_2 hf
        refine lv_iload_n hx hb dX10_votesFor_118 rfl (lv_at hl 2 rfl) ?_
        exact retE_Ir F hr hlk h hf dX10_votesFor_119
      · have hf := im c_2 hf
        refine lv_aload_n hx hb dX10_votesFor_17 rfl (lv_at hl 0 rfl) ?_
        refine gY_Model_bodies F h hinX10 (hts (.fieldLink RX10 57 "ElectionHouseModel" "bodies" "[I") (by decide +kernel)) dX10_votesFor_18 ?_
        refine lv_bipush (v := (40 : Int32)) hx hb dX10_votesFor_21 (by decide) ?_
        refine lv_aload_n hx hb dX10_votesFor_23 rfl (lv_at hl 0 rfl) ?_
        refine gY_Model_done F h hinX10 (hts (.fieldLink RX10 105 "ElectionHouseModel" "done" "I") (by decide +kernel)) dX10_votesFor_24 ?_
        refine lv_imul hx hb dX10_votesFor_27 ?_
        refine lv_iload_n hx hb dX10_votesFor_28 rfl (lv_at hl 3 rfl) ?_
        refine lv_iadd hx hb dX10_votesFor_29 ?_
        obtain ⟨gi3, hf⟩ := og hf
        refine lY_mbodies F h gi3 dX10_votesFor_30 ?_
        refine lv_istore (lv' := [(4, .int (gM s 16 (ix (((40 : Int32) * (gM s 0 18)) + x3)))), (0, .ref (Q 0)), (1, .int x1), (2, .int x2), (3, .int x3)]) hx hb dX10_votesFor_31 hl (by decide) rfl (fun ls hl => ?_)
        have hl := lv_sub (l' := [(0, .ref (Q 0)), (1, .int x1), (2, .int x2), (3, .int x3), (4, .int (gM s 16 (ix (((40 : Int32) * (gM s 0 18)) + x3))))]) hl [1, 2, 3, 4, 0] rfl
        refine lv_iload_n hx hb dX10_votesFor_33 rfl (lv_at hl 2 rfl) ?_
        refine lv_aload_n hx hb dX10_votesFor_34 rfl (lv_at hl 0 rfl) ?_
        refine gY_Model_isThere F h hinX10 (hts (.fieldLink RX10 16 "ElectionHouseModel" "isThere" "[Z") (by decide +kernel)) dX10_votesFor_35 ?_
        refine lv_iload hx hb dX10_votesFor_38 (lv_at hl 4 rfl) ?_
        obtain ⟨gi4, hf⟩ := og hf
        refine lY_misThere F h gi4 dX10_votesFor_40 ?_
        refine lv_if_eq (tgt := 109) hx hb dX10_votesFor_41 (by decide) (fun c_5 => ?_) (fun c_5 => ?_)
        · have hf := ip c_5 hf
          refine lv_iconst (v := (0 : Int32)) hx hb dX10_votesFor_109 (by decide) ?_
          refine lv_iadd hx hb dX10_votesFor_110 ?_
          refine lv_istore_n (lv' := [(2, .int (x2 + (0 : Int32))), (0, .ref (Q 0)), (1, .int x1), (3, .int x3), (4, .int (gM s 16 (ix (((40 : Int32) * (gM s 0 18)) + x3))))]) hx hb dX10_votesFor_111 rfl hl (by decide) rfl (fun ls hl => ?_)
          have hl := lv_sub (l' := [(0, .ref (Q 0)), (1, .int x1), (2, .int (x2 + (0 : Int32))), (3, .int x3), (4, .int (gM s 16 (ix (((40 : Int32) * (gM s 0 18)) + x3))))]) hl [1, 2, 0, 3, 4] rfl
          refine lv_iinc (v := (x3 + (1 : Int32))) (lv' := [(3, .int (x3 + (1 : Int32))), (0, .ref (Q 0)), (1, .int x1), (2, .int (x2 + (0 : Int32))), (4, .int (gM s 16 (ix (((40 : Int32) * (gM s 0 18)) + x3))))]) hx hb dX10_votesFor_112 hl (k := 3) rfl (congrArg (fun z => x3 + z) (by decide : Int32.ofInt (1) = (1 : Int32))) (by decide) rfl (fun ls hl => ?_)
          have hl := lv_sub (l' := [(0, .ref (Q 0)), (1, .int x1), (2, .int (x2 + (0 : Int32))), (3, .int (x3 + (1 : Int32))), (4, .int (gM s 16 (ix (((40 : Int32) * (gM s 0 18)) + x3))))]) hl [1, 2, 3, 0, 4] rfl
          refine lv_goto (tgt := 4) hx hb dX10_votesFor_115 (by decide) ?_
          exact ih4 (x2 + (0 : Int32)) (x3 + (1 : Int32)) H locs ls hf h (lv_sub hl [0, 1, 2, 3] rfl)
        · have hf := im c_5 hf
          refine lv_iload hx hb dX10_votesFor_44 (lv_at hl 4 rfl) ?_
          refine lv_iload_n hx hb dX10_votesFor_46 rfl (lv_at hl 1 rfl) ?_
          refine lv_icmp_eq (tgt := 109) hx hb dX10_votesFor_47 (by decide) (fun c_6 => ?_) (fun c_6 => ?_)
          · have hf := ip c_6 hf
            refine lv_iconst (v := (0 : Int32)) hx hb dX10_votesFor_109 (by decide) ?_
            refine lv_iadd hx hb dX10_votesFor_110 ?_
            refine lv_istore_n (lv' := [(2, .int (x2 + (0 : Int32))), (0, .ref (Q 0)), (1, .int x1), (3, .int x3), (4, .int (gM s 16 (ix (((40 : Int32) * (gM s 0 18)) + x3))))]) hx hb dX10_votesFor_111 rfl hl (by decide) rfl (fun ls hl => ?_)
            have hl := lv_sub (l' := [(0, .ref (Q 0)), (1, .int x1), (2, .int (x2 + (0 : Int32))), (3, .int x3), (4, .int (gM s 16 (ix (((40 : Int32) * (gM s 0 18)) + x3))))]) hl [1, 2, 0, 3, 4] rfl
            refine lv_iinc (v := (x3 + (1 : Int32))) (lv' := [(3, .int (x3 + (1 : Int32))), (0, .ref (Q 0)), (1, .int x1), (2, .int (x2 + (0 : Int32))), (4, .int (gM s 16 (ix (((40 : Int32) * (gM s 0 18)) + x3))))]) hx hb dX10_votesFor_112 hl (k := 3) rfl (congrArg (fun z => x3 + z) (by decide : Int32.ofInt (1) = (1 : Int32))) (by decide) rfl (fun ls hl => ?_)
            have hl := lv_sub (l' := [(0, .ref (Q 0)), (1, .int x1), (2, .int (x2 + (0 : Int32))), (3, .int (x3 + (1 : Int32))), (4, .int (gM s 16 (ix (((40 : Int32) * (gM s 0 18)) + x3))))]) hl [1, 2, 3, 0, 4] rfl
            refine lv_goto (tgt := 4) hx hb dX10_votesFor_115 (by decide) ?_
            exact ih4 (x2 + (0 : Int32)) (x3 + (1 : Int32)) H locs ls hf h (lv_sub hl [0, 1, 2, 3] rfl)
          · have hf := im c_6 hf
            refine lv_aload_n hx hb dX10_votesFor_50 rfl (lv_at hl 0 rfl) ?_
            refine gY_Model_house F h hinX10 (hts (.fieldLink RX10 7 "ElectionHouseModel" "house" "[I") (by decide +kernel)) dX10_votesFor_51 ?_
            refine lv_iload hx hb dX10_votesFor_54 (lv_at hl 4 rfl) ?_
            obtain ⟨gi7, hf⟩ := og hf
            refine lY_mhouse F h gi7 dX10_votesFor_56 ?_
            refine lv_aload_n hx hb dX10_votesFor_57 rfl (lv_at hl 0 rfl) ?_
            refine gY_Model_house F h hinX10 (hts (.fieldLink RX10 7 "ElectionHouseModel" "house" "[I") (by decide +kernel)) dX10_votesFor_58 ?_
            refine lv_iload_n hx hb dX10_votesFor_61 rfl (lv_at hl 1 rfl) ?_
            obtain ⟨gi8, hf⟩ := og hf
            refine lY_mhouse F h gi8 dX10_votesFor_62 ?_
            refine lv_icmp_eq (tgt := 109) hx hb dX10_votesFor_63 (by decide) (fun c_9 => ?_) (fun c_9 => ?_)
            · have hf := ip c_9 hf
              refine lv_iconst (v := (0 : Int32)) hx hb dX10_votesFor_109 (by decide) ?_
              refine lv_iadd hx hb dX10_votesFor_110 ?_
              refine lv_istore_n (lv' := [(2, .int (x2 + (0 : Int32))), (0, .ref (Q 0)), (1, .int x1), (3, .int x3), (4, .int (gM s 16 (ix (((40 : Int32) * (gM s 0 18)) + x3))))]) hx hb dX10_votesFor_111 rfl hl (by decide) rfl (fun ls hl => ?_)
              have hl := lv_sub (l' := [(0, .ref (Q 0)), (1, .int x1), (2, .int (x2 + (0 : Int32))), (3, .int x3), (4, .int (gM s 16 (ix (((40 : Int32) * (gM s 0 18)) + x3))))]) hl [1, 2, 0, 3, 4] rfl
              refine lv_iinc (v := (x3 + (1 : Int32))) (lv' := [(3, .int (x3 + (1 : Int32))), (0, .ref (Q 0)), (1, .int x1), (2, .int (x2 + (0 : Int32))), (4, .int (gM s 16 (ix (((40 : Int32) * (gM s 0 18)) + x3))))]) hx hb dX10_votesFor_112 hl (k := 3) rfl (congrArg (fun z => x3 + z) (by decide : Int32.ofInt (1) = (1 : Int32))) (by decide) rfl (fun ls hl => ?_)
              have hl := lv_sub (l' := [(0, .ref (Q 0)), (1, .int x1), (2, .int (x2 + (0 : Int32))), (3, .int (x3 + (1 : Int32))), (4, .int (gM s 16 (ix (((40 : Int32) * (gM s 0 18)) + x3))))]) hl [1, 2, 3, 0, 4] rfl
              refine lv_goto (tgt := 4) hx hb dX10_votesFor_115 (by decide) ?_
              exact ih4 (x2 + (0 : Int32)) (x3 + (1 : Int32)) H locs ls hf h (lv_sub hl [0, 1, 2, 3] rfl)
            · have hf := im c_9 hf
              refine lv_aload_n hx hb dX10_votesFor_66 rfl (lv_at hl 0 rfl) ?_
              refine gY_Model_isKin F h hinX10 (hts (.fieldLink RX10 20 "ElectionHouseModel" "isKin" "[Z") (by decide +kernel)) dX10_votesFor_67 ?_
              refine lv_bipush (v := (40 : Int32)) hx hb dX10_votesFor_70 (by decide) ?_
              refine lv_iload hx hb dX10_votesFor_72 (lv_at hl 4 rfl) ?_
              refine lv_imul hx hb dX10_votesFor_74 ?_
              refine lv_iload_n hx hb dX10_votesFor_75 rfl (lv_at hl 1 rfl) ?_
              refine lv_iadd hx hb dX10_votesFor_76 ?_
              obtain ⟨gi10, hf⟩ := og hf
              refine lY_misKin F h gi10 dX10_votesFor_77 ?_
              refine lv_if_ne (tgt := 109) hx hb dX10_votesFor_78 (by decide) (fun c_11 => ?_) (fun c_11 => ?_)
              · have hf := im c_11 hf
                refine lv_iconst (v := (0 : Int32)) hx hb dX10_votesFor_109 (by decide) ?_
                refine lv_iadd hx hb dX10_votesFor_110 ?_
                refine lv_istore_n (lv' := [(2, .int (x2 + (0 : Int32))), (0, .ref (Q 0)), (1, .int x1), (3, .int x3), (4, .int (gM s 16 (ix (((40 : Int32) * (gM s 0 18)) + x3))))]) hx hb dX10_votesFor_111 rfl hl (by decide) rfl (fun ls hl => ?_)
                have hl := lv_sub (l' := [(0, .ref (Q 0)), (1, .int x1), (2, .int (x2 + (0 : Int32))), (3, .int x3), (4, .int (gM s 16 (ix (((40 : Int32) * (gM s 0 18)) + x3))))]) hl [1, 2, 0, 3, 4] rfl
                refine lv_iinc (v := (x3 + (1 : Int32))) (lv' := [(3, .int (x3 + (1 : Int32))), (0, .ref (Q 0)), (1, .int x1), (2, .int (x2 + (0 : Int32))), (4, .int (gM s 16 (ix (((40 : Int32) * (gM s 0 18)) + x3))))]) hx hb dX10_votesFor_112 hl (k := 3) rfl (congrArg (fun z => x3 + z) (by decide : Int32.ofInt (1) = (1 : Int32))) (by decide) rfl (fun ls hl => ?_)
                have hl := lv_sub (l' := [(0, .ref (Q 0)), (1, .int x1), (2, .int (x2 + (0 : Int32))), (3, .int (x3 + (1 : Int32))), (4, .int (gM s 16 (ix (((40 : Int32) * (gM s 0 18)) + x3))))]) hl [1, 2, 3, 0, 4] rfl
                refine lv_goto (tgt := 4) hx hb dX10_votesFor_115 (by decide) ?_
                exact ih4 (x2 + (0 : Int32)) (x3 + (1 : Int32)) H locs ls hf h (lv_sub hl [0, 1, 2, 3] rfl)
              · have hf := ip c_11 hf
                refine lv_aload_n hx hb dX10_votesFor_81 rfl (lv_at hl 0 rfl) ?_
                refine gY_Model_yes F h hinX10 (hts (.fieldLink RX10 23 "ElectionHouseModel" "yes" "[Z") (by decide +kernel)) dX10_votesFor_82 ?_
                refine lv_iconst (v := (4 : Int32)) hx hb dX10_votesFor_85 (by decide) ?_
                refine lv_aload_n hx hb dX10_votesFor_86 rfl (lv_at hl 0 rfl) ?_
                refine gY_Model_party F h hinX10 (hts (.fieldLink RX10 13 "ElectionHouseModel" "party" "[I") (by decide +kernel)) dX10_votesFor_87 ?_
                refine lv_iload hx hb dX10_votesFor_90 (lv_at hl 4 rfl) ?_
                obtain ⟨gi12, hf⟩ := og hf
                refine lY_mparty F h gi12 dX10_votesFor_92 ?_
                refine lv_imul hx hb dX10_votesFor_93 ?_
                refine lv_aload_n hx hb dX10_votesFor_94 rfl (lv_at hl 0 rfl) ?_
                refine gY_Model_party F h hinX10 (hts (.fieldLink RX10 13 "ElectionHouseModel" "party" "[I") (by decide +kernel)) dX10_votesFor_95 ?_
                refine lv_iload_n hx hb dX10_votesFor_98 rfl (lv_at hl 1 rfl) ?_
                obtain ⟨gi13, hf⟩ := og hf
                refine lY_mparty F h gi13 dX10_votesFor_99 ?_
                refine lv_iadd hx hb dX10_votesFor_100 ?_
                obtain ⟨gi14, hf⟩ := og hf
                refine lY_myes F h gi14 dX10_votesFor_101 ?_
                refine lv_if_eq (tgt := 109) hx hb dX10_votesFor_102 (by decide) (fun c_15 => ?_) (fun c_15 => ?_)
                · have hf := ip c_15 hf
                  refine lv_iconst (v := (0 : Int32)) hx hb dX10_votesFor_109 (by decide) ?_
                  refine lv_iadd hx hb dX10_votesFor_110 ?_
                  refine lv_istore_n (lv' := [(2, .int (x2 + (0 : Int32))), (0, .ref (Q 0)), (1, .int x1), (3, .int x3), (4, .int (gM s 16 (ix (((40 : Int32) * (gM s 0 18)) + x3))))]) hx hb dX10_votesFor_111 rfl hl (by decide) rfl (fun ls hl => ?_)
                  have hl := lv_sub (l' := [(0, .ref (Q 0)), (1, .int x1), (2, .int (x2 + (0 : Int32))), (3, .int x3), (4, .int (gM s 16 (ix (((40 : Int32) * (gM s 0 18)) + x3))))]) hl [1, 2, 0, 3, 4] rfl
                  refine lv_iinc (v := (x3 + (1 : Int32))) (lv' := [(3, .int (x3 + (1 : Int32))), (0, .ref (Q 0)), (1, .int x1), (2, .int (x2 + (0 : Int32))), (4, .int (gM s 16 (ix (((40 : Int32) * (gM s 0 18)) + x3))))]) hx hb dX10_votesFor_112 hl (k := 3) rfl (congrArg (fun z => x3 + z) (by decide : Int32.ofInt (1) = (1 : Int32))) (by decide) rfl (fun ls hl => ?_)
                  have hl := lv_sub (l' := [(0, .ref (Q 0)), (1, .int x1), (2, .int (x2 + (0 : Int32))), (3, .int (x3 + (1 : Int32))), (4, .int (gM s 16 (ix (((40 : Int32) * (gM s 0 18)) + x3))))]) hl [1, 2, 3, 0, 4] rfl
                  refine lv_goto (tgt := 4) hx hb dX10_votesFor_115 (by decide) ?_
                  exact ih4 (x2 + (0 : Int32)) (x3 + (1 : Int32)) H locs ls hf h (lv_sub hl [0, 1, 2, 3] rfl)
                · have hf := im c_15 hf
                  refine lv_iconst (v := (1 : Int32)) hx hb dX10_votesFor_105 (by decide) ?_
                  refine lv_goto (tgt := 110) hx hb dX10_votesFor_106 (by decide) ?_
                  refine lv_iadd hx hb dX10_votesFor_110 ?_
                  refine lv_istore_n (lv' := [(2, .int (x2 + (1 : Int32))), (0, .ref (Q 0)), (1, .int x1), (3, .int x3), (4, .int (gM s 16 (ix (((40 : Int32) * (gM s 0 18)) + x3))))]) hx hb dX10_votesFor_111 rfl hl (by decide) rfl (fun ls hl => ?_)
                  have hl := lv_sub (l' := [(0, .ref (Q 0)), (1, .int x1), (2, .int (x2 + (1 : Int32))), (3, .int x3), (4, .int (gM s 16 (ix (((40 : Int32) * (gM s 0 18)) + x3))))]) hl [1, 2, 0, 3, 4] rfl
                  refine lv_iinc (v := (x3 + (1 : Int32))) (lv' := [(3, .int (x3 + (1 : Int32))), (0, .ref (Q 0)), (1, .int x1), (2, .int (x2 + (1 : Int32))), (4, .int (gM s 16 (ix (((40 : Int32) * (gM s 0 18)) + x3))))]) hx hb dX10_votesFor_112 hl (k := 3) rfl (congrArg (fun z => x3 + z) (by decide : Int32.ofInt (1) = (1 : Int32))) (by decide) rfl (fun ls hl => ?_)
                  have hl := lv_sub (l' := [(0, .ref (Q 0)), (1, .int x1), (2, .int (x2 + (1 : Int32))), (3, .int (x3 + (1 : Int32))), (4, .int (gM s 16 (ix (((40 : Int32) * (gM s 0 18)) + x3))))]) hl [1, 2, 3, 0, 4] rfl
                  refine lv_goto (tgt := 4) hx hb dX10_votesFor_115 (by decide) ?_
                  exact ih4 (x2 + (1 : Int32)) (x3 + (1 : Int32)) H locs ls hf h (lv_sub hl [0, 1, 2, 3] rfl)
  refine lv_iconst (v := (0 : Int32)) hx hb dX10_votesFor_0 (by decide) ?_
  refine lv_istore_n (lv' := [(2, .int (0 : Int32)), (0, .ref (Q 0)), (1, .int x1)]) hx hb dX10_votesFor_1 rfl hl (by decide) rfl (fun ls hl => ?_)
  have hl := lv_sub (l' := [(0, .ref (Q 0)), (1, .int x1), (2, .int (0 : Int32))]) hl [1, 2, 0] rfl
  refine lv_iconst (v := (0 : Int32)) hx hb dX10_votesFor_2 (by decide) ?_
  refine lv_istore_n (lv' := [(3, .int (0 : Int32)), (0, .ref (Q 0)), (1, .int x1), (2, .int (0 : Int32))]) hx hb dX10_votesFor_3 rfl hl (by decide) rfl (fun ls hl => ?_)
  have hl := lv_sub (l' := [(0, .ref (Q 0)), (1, .int x1), (2, .int (0 : Int32)), (3, .int (0 : Int32))]) hl [1, 2, 3, 0] rfl
  exact lab4 x1 fuelN (0 : Int32) (0 : Int32) H locs ls hf h (lv_sub hl [0, 1, 2, 3] rfl)

