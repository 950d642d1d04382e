/-! THE PROCEDURE -/
section PROC
variable {s t : XS} {tl : Nat} {v : Nat → Nat}
theorem mid_sim {k i p B B' : Nat} (hX : TX s tl v) (hY : TY t tl v) (hi : i ≤ 12) (hp : p ≤ tl) (h91 : gM s 9 1 = nI p) (h93 : gM s 9 3 = nI 0) (hB : gM s 9 2 = nI B) (hB2 : B ≤ 40) (h25 : gM t 0 25 = nI p) (h26 : gM t 0 26 = 0) (h32 : gM t 0 32 = nI B') (hBB : 0 < i → B' = B) : (i < 12 ∧ MID k i s t tl v B (p_Reader_readStep k (nI i) s) (p_Model_oneStep (nI i) t)) ∨ (∃ F q t', ¬ F = 0 ∧ F < 3000 ∧ p_Reader_readStep k (nI i) s = some (0, rx s q F) ∧ p_Model_oneStep (nI i) t = some (0, t') ∧ QZ t t' ∧ gM t' 0 26 = nI F) := by
  have h3 := hX.1
  have h1 := skp_b (v := v) hp
  have h2 := wde_b (v := v) h1.2
  have hw := wc_le v (skp v tl p) (wde v tl (skp v tl p))
  have eX : p_Reader_readStep k (nI i) s = (if nI (wcode v (skp v tl p) (wde v tl (skp v tl p))) = (1 : Int32) then p_Reader_readStep_K42 k (nI i) (nI (skp v tl p)) (nI (wcode v (skp v tl p) (wde v tl (skp v tl p)))) (1 : Int32) (rx s (wde v tl (skp v tl p)) 0) else (if nI i ≤ 0 then p_Reader_readStep_K42 k (nI i) (nI (skp v tl p)) (nI (wcode v (skp v tl p) (wde v tl (skp v tl p)))) (0 : Int32) (rx s (wde v tl (skp v tl p)) 0) else (if nI (wcode v (skp v tl p) (wde v tl (skp v tl p))) = (2 : Int32) then p_Reader_readStep_K42 k (nI i) (nI (skp v tl p)) (nI (wcode v (skp v tl p) (wde v tl (skp v tl p)))) (1 : Int32) (rx s (wde v tl (skp v tl p)) 0) else (if nI (wcode v (skp v tl p) (wde v tl (skp v tl p))) = (3 : Int32) then p_Reader_readStep_K42 k (nI i) (nI (skp v tl p)) (nI (wcode v (skp v tl p) (wde v tl (skp v tl p)))) (1 : Int32) (rx s (wde v tl (skp v tl p)) 0) else p_Reader_readStep_K42 k (nI i) (nI (skp v tl p)) (nI (wcode v (skp v tl p) (wde v tl (skp v tl p)))) (0 : Int32) (rx s (wde v tl (skp v tl p)) 0))))) := by
    have e : p_Reader_readStep k (nI i) s = p_Reader_readStep k (nI i) (rx s p 0) := by rw [rx_id h91 h93]
    rw [e]
    unfold p_Reader_readStep
    rw [X_skip hX hp, bind1_s, X_word hX h1.2, bind2_s, rx_91]
  have eF : ∀ x4 : Int32, p_Reader_readStep_K42 k (nI i) (nI (skp v tl p)) x4 (0 : Int32) (rx s (wde v tl (skp v tl p)) 0) = some (0, rx s (wde v tl (skp v tl p)) (1 + 8 * skp v tl p + 0)) := by
    intro x4
    unfold p_Reader_readStep_K42
    rw [if_pos rfl, show (0 : Int32) = nI 0 from rfl, X_fail s _ 0 (skp v tl p) 0 (by omega), bind2_s, if_pos (by decide), fl_0]; rfl
  have eG : ∀ x4 : Int32, i = 12 → p_Reader_readStep_K42 k (nI i) (nI (skp v tl p)) x4 (1 : Int32) (rx s (wde v tl (skp v tl p)) 0) = some (0, rx s (wde v tl (skp v tl p)) (1 + 8 * skp v tl p + 2)) := by
    intro x4 e12
    unfold p_Reader_readStep_K42
    rw [if_neg one_ne, e12, if_neg (show ¬ nI 12 < (12 : Int32) by decide), show (2 : Int32) = nI 2 from rfl, X_fail s _ 0 (skp v tl p) 2 (by omega), bind2_s, if_pos (by decide), fl_0]
  obtain ⟨t1, q1, f25, f29, f30, eY⟩ : ∃ t1, QF t t1 ∧ gM t1 0 25 = nI (skp v tl p) ∧ gM t1 0 29 = nI (skp v tl p) ∧ gM t1 0 30 = nI (wde v tl (skp v tl p) - skp v tl p) ∧ p_Model_oneStep (nI i) t = (if nI (if isW v (skp v tl p) (wde v tl (skp v tl p)) 0 then 1 else 0) = 0 then (if nI (if isW v (skp v tl p) (wde v tl (skp v tl p)) 1 then 1 else 0) = 0 then (if nI (if isW v (skp v tl p) (wde v tl (skp v tl p)) 2 then 1 else 0) = 0 then p_Model_oneStep_K74 t1 else p_Model_oneStep_K66 (nI i) (nI (if isW v (skp v tl p) (wde v tl (skp v tl p)) 0 then 1 else 0)) (nI (if isW v (skp v tl p) (wde v tl (skp v tl p)) 1 then 1 else 0)) (nI (if isW v (skp v tl p) (wde v tl (skp v tl p)) 2 then 1 else 0)) t1) else p_Model_oneStep_K66 (nI i) (nI (if isW v (skp v tl p) (wde v tl (skp v tl p)) 0 then 1 else 0)) (nI (if isW v (skp v tl p) (wde v tl (skp v tl p)) 1 then 1 else 0)) (nI (if isW v (skp v tl p) (wde v tl (skp v tl p)) 2 then 1 else 0)) t1) else p_Model_oneStep_K66 (nI i) (nI (if isW v (skp v tl p) (wde v tl (skp v tl p)) 0 then 1 else 0)) (nI (if isW v (skp v tl p) (wde v tl (skp v tl p)) 1 then 1 else 0)) (nI (if isW v (skp v tl p) (wde v tl (skp v tl p)) 2 then 1 else 0)) t1) := by
    have q1 := QF_yl t (skp v tl p) (wde v tl (skp v tl p) - skp v tl p)
    have e25 : gM (yl t (skp v tl p) (wde v tl (skp v tl p) - skp v tl p)) 0 25 = nI (skp v tl p) := rfl
    have e29 : gM (yl t (skp v tl p) (wde v tl (skp v tl p) - skp v tl p)) 0 29 = nI (skp v tl p) := rfl
    have e30 : gM (yl t (skp v tl p) (wde v tl (skp v tl p) - skp v tl p)) 0 30 = nI (wde v tl (skp v tl p) - skp v tl p) := rfl
    unfold p_Model_oneStep
    rw [Y_looks hY h25 hp, bind1_s]
    generalize yl t (skp v tl p) (wde v tl (skp v tl p) - skp v tl p) = t2 at q1 e25 e29 e30 ⊢
    obtain ⟨t3, w1, w2, w3⟩ := Y_isWord (hY.q q1) e29 e30 h2.1 h2.2 (show 0 < 5 by omega) (x1 := 100) (x2 := 114) (x3 := 97) (x4 := 119) (x5 := 0) (x6 := 0) rfl rfl rfl rfl rfl rfl
    have q2 := q1.tr (QF_18 w2 w3)
    obtain ⟨t4, w4, w5, w6⟩ := Y_isWord (hY.q q2) (show gM t3 0 29 = _ by rw [w3 0 (by omega)]; exact e29) (show gM t3 0 30 = _ by rw [w3 0 (by omega)]; exact e30) h2.1 h2.2 (show 1 < 5 by omega) (x1 := 99) (x2 := 104) (x3 := 111) (x4 := 111) (x5 := 115) (x6 := 101) rfl rfl rfl rfl rfl rfl
    have q3 := q2.tr (QF_18 w5 w6)
    obtain ⟨t5, w7, w8, w9⟩ := Y_isWord (hY.q q3) (show gM t4 0 29 = _ by rw [w6 0 (by omega), w3 0 (by omega)]; exact e29) (show gM t4 0 30 = _ by rw [w6 0 (by omega), w3 0 (by omega)]; exact e30) h2.1 h2.2 (show 2 < 5 by omega) (x1 := 101) (x2 := 108) (x3 := 101) (x4 := 99) (x5 := 116) (x6 := 0) rfl rfl rfl rfl rfl rfl
    have q4 := q3.tr (QF_18 w8 w9)
    refine ⟨t5, q4, ?_, ?_, ?_, ?_⟩
    · rw [w9 0 (by omega), w6 0 (by omega), w3 0 (by omega)]; exact e25
    · rw [w9 0 (by omega), w6 0 (by omega), w3 0 (by omega)]; exact e29
    · rw [w9 0 (by omega), w6 0 (by omega), w3 0 (by omega)]; exact e30
    · rw [w1, bind2_s, w4, bind2_s, w7, bind2_s]
  have f26 : gM t1 0 26 = 0 := by rw [q1.2.2 26 (by omega)]; exact h26
  have f32 : gM t1 0 32 = nI B' := by rw [q1.2.2 32 (by omega)]; exact h32
  have eK74 : p_Model_oneStep_K74 t1 = some (0, sM t1 0 26 (nI (1 + 8 * skp v tl p + 0))) := by
    unfold p_Model_oneStep_K74
    rw [f29, show (0 : Int32) = nI 0 from rfl, Y_fails f26 0, bind2_s, if_pos gZ_z]; rfl
  have eK84 : ∀ x2 x3 x4 : Int32, i = 12 → p_Model_oneStep_K84 (nI i) x2 x3 x4 t1 = some (0, sM t1 0 26 (nI (1 + 8 * skp v tl p + 2))) := by
    intro x2 x3 x4 e12
    unfold p_Model_oneStep_K84
    rw [e12, if_pos (show nI 12 = (12 : Int32) from rfl), f29, show (2 : Int32) = nI 2 from rfl, Y_fails f26 2, bind2_s, if_pos gZ_z]
  have hbad : p_Reader_readStep k (nI i) s = some (0, rx s (wde v tl (skp v tl p)) (1 + 8 * skp v tl p + 0)) → p_Model_oneStep (nI i) t = some (0, sM t1 0 26 (nI (1 + 8 * skp v tl p + 0))) → (∃ F q t', ¬ F = 0 ∧ F < 3000 ∧ p_Reader_readStep k (nI i) s = some (0, rx s q F) ∧ p_Model_oneStep (nI i) t = some (0, t') ∧ QZ t t' ∧ gM t' 0 26 = nI F) :=
    fun z1 z2 => ⟨1 + 8 * skp v tl p + 0, _, _, by omega, by omega, z1, z2, (QF.r (QF_18 rfl (fun _ _ => rfl)) 0).trG (QG_f q1 _), rfl⟩
  have hbad2 : p_Reader_readStep k (nI i) s = some (0, rx s (wde v tl (skp v tl p)) (1 + 8 * skp v tl p + 2)) → p_Model_oneStep (nI i) t = some (0, sM t1 0 26 (nI (1 + 8 * skp v tl p + 2))) → (∃ F q t', ¬ F = 0 ∧ F < 3000 ∧ p_Reader_readStep k (nI i) s = some (0, rx s q F) ∧ p_Model_oneStep (nI i) t = some (0, t') ∧ QZ t t' ∧ gM t' 0 26 = nI F) :=
    fun z1 z2 => ⟨1 + 8 * skp v tl p + 2, _, _, by omega, by omega, z1, z2, (QF.r (QF_18 rfl (fun _ _ => rfl)) 0).trG (QG_f q1 _), rfl⟩
  have eK84g : ∀ x2 x3 x4 : Int32, i < 12 → p_Model_oneStep_K84 (nI i) x2 x3 x4 t1 = (if x2 = 0 then (if x3 = 0 then p_Model_oneStep_K135 (nI i) x2 x4 (2 : Int32) (nI i) (sM t1 0 25 (nI (wde v tl (skp v tl p)))) else p_Model_oneStep_K135 (nI i) x2 x4 (1 : Int32) (nI i) (sM t1 0 25 (nI (wde v tl (skp v tl p))))) else p_Model_oneStep_K135 (nI i) x2 x4 (0 : Int32) (nI i) (sM t1 0 25 (nI (wde v tl (skp v tl p))))) := by
    intro x2 x3 x4 hi12
    unfold p_Model_oneStep_K84
    rw [if_neg (show ¬ nI i = (12 : Int32) from fun z => by have := (nI_eq (b := 12) (by omega) (by omega)).mp z; omega), f29, f30, nI_add, show skp v tl p + (wde v tl (skp v tl p) - skp v tl p) = wde v tl (skp v tl p) by omega, lq_e]
  have q2 := q1.tr (QF_25 t1 (nI (wde v tl (skp v tl p))))
  have g25 : gM (sM t1 0 25 (nI (wde v tl (skp v tl p)))) 0 25 = nI (wde v tl (skp v tl p)) := rfl
  have g26 : gM (sM t1 0 25 (nI (wde v tl (skp v tl p)))) 0 26 = 0 := f26
  have g32 : gM (sM t1 0 25 (nI (wde v tl (skp v tl p)))) 0 32 = nI B' := f32
  generalize sM t1 0 25 (nI (wde v tl (skp v tl p))) = t2 at eK84g q2 g25 g26 g32
  have g13 : gIn (nI i) 13 = true := gIn_t (by omega) (by omega)
  rcases wcases v (skp v tl p) (wde v tl (skp v tl p)) with ⟨c1, c2, c3, c4⟩ | ⟨c1, c2, c3, c4⟩ | ⟨c1, c2, c3, c4⟩ | ⟨c1, c2, c3, c4⟩
  · -- draw
    rw [c1, if_pos (show nI 1 = (1 : Int32) from rfl)] at eX
    rw [c2, c3, c4, if_neg (show ¬ nI (if true = true then 1 else 0) = 0 by decide)] at eY
    have e66 : p_Model_oneStep_K66 (nI i) (nI (if true = true then 1 else 0)) (nI (if false = true then 1 else 0)) (nI (if false = true then 1 else 0)) t1 = p_Model_oneStep_K84 (nI i) (nI 1) (nI 0) (nI 0) t1 := by
      unfold p_Model_oneStep_K66
      rw [if_neg (show ¬ nI (if true = true then 1 else 0) = 0 by decide)]
      split <;> rfl
    rw [e66] at eY
    by_cases e12 : i = 12
    · exact Or.inr (hbad2 (by rw [eX]; exact eG _ e12) (by rw [eY]; exact eK84 _ _ _ e12))
    · refine Or.inl ⟨by omega, ?_⟩
      obtain ⟨r1, r2⟩ := row_init (i := i) (K := 0) t2
      rw [eK84g _ _ _ (by omega), if_neg (show ¬ nI 1 = 0 by decide), show (0 : Int32) = nI 0 from rfl, K135_h (by omega), if_pos (show nI 0 = 0 from rfl)] at eY
      have k25 : gM (sM (sM (sM (sM t2 11 i (nI 0)) 12 i (nI 1)) 13 i (nI 0)) 14 i (nI 0)) 0 25 = nI (wde v tl (skp v tl p)) := by rw [gM_o (by omega), gM_o (by omega), gM_o (by omega), gM_o (by omega)]; exact g25
      have k26 : gM (sM (sM (sM (sM t2 11 i (nI 0)) 12 i (nI 1)) 13 i (nI 0)) 14 i (nI 0)) 0 26 = 0 := by rw [r1.2.2.1 26 (by omega)]; exact g26
      have k32 : gM (sM (sM (sM (sM t2 11 i (nI 0)) 12 i (nI 1)) 13 i (nI 0)) 14 i (nI 0)) 0 32 = nI B' := by rw [gM_o (by omega), gM_o (by omega), gM_o (by omega), gM_o (by omega)]; exact g32
      generalize sM (sM (sM (sM t2 11 i (nI 0)) 12 i (nI 1)) 13 i (nI 0)) 14 i (nI 0) = t3 at eY r1 r2 k25 k26 k32
      have hQ3 : QR i t t3 := (q2.r i).tr r1
      have eX2 : p_Reader_readStep k (nI i) s = bind2 (p_Reader_takeNumber (nI 40) (nI (if i = 0 then 40 else B)) (rx s (wde v tl (skp v tl p)) 0)) (fun r22 s23 => p_Reader_readStep_K104 k (nI 1) r22 s23) := by
        rw [eX]
        unfold p_Reader_readStep_K42
        rw [if_neg one_ne, if_pos (show nI i < (12 : Int32) from nI_lt (b := 12) (by omega) (by omega)), if_neg (show ¬ nI 1 = (3 : Int32) by decide), if_pos (show nI 1 = (1 : Int32) from rfl), rx_92, hB]
        by_cases e0 : i = 0
        · rw [if_pos (show nI i ≤ 0 by rw [e0]; decide), if_pos e0]; rfl
        · rw [if_neg (nI_nle (by omega) (by omega)), if_neg e0]; rfl
      rcases num_sim (s := s) (t := t3) hX (hY.r hQ3) h2.2 k25 k26 (top := 40) (met := if i = 0 then 40 else B) (by omega) (by split <;> omega) with ⟨F, q, t', u1, u2, u3, u4, u5, u6, u7⟩ | ⟨N, pp, q, t', u1, u2, u3, u4, u5, u6, u7, u8, u9, u10⟩
      · have u5 : p_Model_number (40 : Int32) t3 = some (0, t') := u5
        rw [u5, bind2_s, if_pos rfl] at eY
        rw [u4, bind2_s] at eX2
        obtain ⟨q', e'⟩ := XF_104 hX k (nI 1) 0 u3 u1 u2 hB (by omega)
        exact Or.inl ⟨F, q', t', u1, u2, eX2.trans e', eY, hQ3.trG u6, u7⟩
      · have u6 : p_Model_number (40 : Int32) t3 = some (1, t') := u6
        have j32 : gM t' 0 32 = nI B' := by rw [u7.2.2 32 (by omega)]; exact k32
        have j26 : gM t' 0 26 = 0 := by rw [u7.2.2 26 (by omega)]; exact k26
        have rr := r2.q u7
        rw [u6, bind2_s, if_neg one_ne, if_neg (show ¬ nI 1 = 0 by decide), u9, j32, u10, if_pos g13, lq_e] at eY
        rw [u5] at eX2
        have hgood : N ≤ (if i = 0 then 40 else B) → p_Model_oneStep (nI i) t = p_Model_oneStep_K212 (nI i) (nI 1) (nI 0) (sM t' 12 i (nI N)) → MID k i s t tl v B (p_Reader_readStep k (nI i) s) (p_Model_oneStep (nI i) t) := by
          intro hle hy
          rw [if_pos hle, bind2_s] at eX2
          have e27 : gM (sM t' 12 i (nI N)) 0 27 = nI N := by rw [gM_o (by omega)]; exact u9
          have hy2 : p_Model_oneStep (nI i) t = some (1, sM (sM t' 12 i (nI N)) 0 32 (nI N)) := by
            rw [hy]
            unfold p_Model_oneStep_K212
            rw [if_neg (show ¬ nI 1 = 0 by decide), e27, lq_e]
          have hx2 : p_Reader_readStep k (nI i) s = p_Reader_readStep_K136 k (nI (0 + 1)) (nI N) (nI 0) (nI 0) (rx s q 0) := by
            rw [eX2]
            unfold p_Reader_readStep_K104 p_Reader_readStep_K120
            rw [if_pos (show nI 1 = (1 : Int32) from rfl), if_neg (show ¬ nI 1 = (2 : Int32) by decide)]; rfl
          refine Or.inr (Or.inr ⟨0, N, 0, 0, q, _, by omega, u1, u2, by omega, by omega, fun z => absurd z (by omega), fun _ => rfl, fun _ => rfl, u4, hx2, hy2, hQ3.tr ((u7.r i).tr ((QR_w t' (by omega) (by omega) _).tr (QR_32 _ _))), ?_, ?_, ?_, ?_, ?_, fun _ => rfl⟩)
          · show gM (sM t' 12 i (nI N)) 0 25 = _
            rw [gM_o (by omega)]; exact u8
          · rw [gM_o (by omega), gM_o (by omega)]; exact rr.1
          · rw [gM_o (by omega), gM_sM, if_pos rfl, if_pos rfl]
          · rw [gM_o (by omega), gM_o (by omega)]; exact rr.2.2.1
          · rw [gM_o (by omega), gM_o (by omega)]; exact rr.2.2.2
        by_cases e0 : i = 0
        · rw [if_pos (show nI i ≤ 0 by rw [e0]; decide)] at eY
          exact hgood (by rw [if_pos e0]; exact u2) eY
        · have eB : B' = B := hBB (by omega)
          rw [if_neg (nI_nle (by omega) (by omega)), eB] at eY
          by_cases eN : N ≤ B
          · rw [if_pos (nI_le eN (by omega))] at eY
            exact hgood (by rw [if_neg e0]; exact eN) eY
          · rw [if_neg (nI_ge (by omega) (by omega)), show (3 : Int32) = nI 3 from rfl, Y_fails j26 3 pp, bind2_s, if_pos gZ_z] at eY
            rw [if_neg e0, if_neg eN, bind2_s] at eX2
            obtain ⟨q', e'⟩ := XF_104 hX k (nI 1) 0 u4 (F := 1 + 8 * pp + 3) (by omega) (by omega) hB (by omega)
            exact Or.inl ⟨1 + 8 * pp + 3, q', _, by omega, by omega, eX2.trans e', eY, hQ3.trG (QG_f u7 _), rfl⟩
  · -- choose
    rw [c1, if_neg (show ¬ nI 2 = (1 : Int32) by decide)] at eX
    rw [c2, c3, c4, if_pos (show nI (if false = true then 1 else 0) = 0 by decide), if_neg (show ¬ nI (if true = true then 1 else 0) = 0 by decide)] at eY
    by_cases e0 : i = 0
    · rw [if_pos (show nI i ≤ 0 by rw [e0]; decide)] at eX
      refine Or.inr (hbad (by rw [eX]; exact eF _) ?_)
      rw [eY]
      unfold p_Model_oneStep_K66
      rw [if_pos (show nI i = 0 by rw [e0]; rfl), if_pos (show nI (if false = true then 1 else 0) = 0 by decide)]
      exact eK74
    · rw [if_neg (nI_nle (by omega) (by omega)), if_pos (show nI 2 = (2 : Int32) from rfl)] at eX
      have e66 : p_Model_oneStep_K66 (nI i) (nI (if false = true then 1 else 0)) (nI (if true = true then 1 else 0)) (nI (if false = true then 1 else 0)) t1 = p_Model_oneStep_K84 (nI i) (nI 0) (nI 1) (nI 0) t1 := by
        unfold p_Model_oneStep_K66
        rw [if_neg (nI_ne0 (by omega) (by omega))]; rfl
      rw [e66] at eY
      by_cases e12 : i = 12
      · exact Or.inr (hbad2 (by rw [eX]; exact eG _ e12) (by rw [eY]; exact eK84 _ _ _ e12))
      · refine Or.inl ⟨by omega, ?_⟩
        obtain ⟨r1, r2⟩ := row_init (i := i) (K := 1) t2
        rw [eK84g _ _ _ (by omega), if_pos (show nI 0 = 0 from rfl), if_neg (show ¬ nI 1 = 0 by decide), show (1 : Int32) = nI 1 from rfl, K135_h (by omega), if_pos (show nI 0 = 0 from rfl)] at eY
        have k25 : gM (sM (sM (sM (sM t2 11 i (nI 1)) 12 i (nI 1)) 13 i (nI 0)) 14 i (nI 0)) 0 25 = nI (wde v tl (skp v tl p)) := by rw [gM_o (by omega), gM_o (by omega), gM_o (by omega), gM_o (by omega)]; exact g25
        have k26 : gM (sM (sM (sM (sM t2 11 i (nI 1)) 12 i (nI 1)) 13 i (nI 0)) 14 i (nI 0)) 0 26 = 0 := by rw [r1.2.2.1 26 (by omega)]; exact g26
        have k32 : gM (sM (sM (sM (sM t2 11 i (nI 1)) 12 i (nI 1)) 13 i (nI 0)) 14 i (nI 0)) 0 32 = nI B' := by rw [gM_o (by omega), gM_o (by omega), gM_o (by omega), gM_o (by omega)]; exact g32
        generalize sM (sM (sM (sM t2 11 i (nI 1)) 12 i (nI 1)) 13 i (nI 0)) 14 i (nI 0) = t3 at eY r1 r2 k25 k26 k32
        have hQ3 : QR i t t3 := (q2.r i).tr r1
        have eX2 : p_Reader_readStep k (nI i) s = bind2 (p_Reader_takeNumber (nI 40) (nI 40) (rx s (wde v tl (skp v tl p)) 0)) (fun r22 s23 => p_Reader_readStep_K104 k (nI 2) r22 s23) := by
          rw [eX]
          unfold p_Reader_readStep_K42
          rw [if_neg one_ne, if_pos (show nI i < (12 : Int32) from nI_lt (b := 12) (by omega) (by omega)), if_neg (show ¬ nI 2 = (3 : Int32) by decide), if_neg (show ¬ nI 2 = (1 : Int32) by decide)]; rfl
        rcases num_sim (s := s) (t := t3) hX (hY.r hQ3) h2.2 k25 k26 (top := 40) (met := 40) (by omega) (by omega) with ⟨F, q, t', u1, u2, u3, u4, u5, u6, u7⟩ | ⟨N, pp, q, t', u1, u2, u3, u4, u5, u6, u7, u8, u9, u10⟩
        · have u5 : p_Model_number (40 : Int32) t3 = some (0, t') := u5
          rw [u5, bind2_s, if_pos rfl] at eY
          rw [u4, bind2_s] at eX2
          obtain ⟨q', e'⟩ := XF_104 hX k (nI 2) 0 u3 u1 u2 hB (by omega)
          exact Or.inl ⟨F, q', t', u1, u2, eX2.trans e', eY, hQ3.trG u6, u7⟩
        · have u6 : p_Model_number (40 : Int32) t3 = some (1, t') := u6
          have j32 : gM t' 0 32 = nI B := by rw [u7.2.2 32 (by omega), k32, hBB (by omega)]
          have j26 : gM t' 0 26 = 0 := by rw [u7.2.2 26 (by omega)]; exact k26
          have rr := r2.q u7
          rw [u6, bind2_s, if_neg one_ne, if_pos (show nI 0 = 0 from rfl), u9, if_pos g13, lq_e] at eY
          rw [u5, if_pos u2, bind2_s] at eX2
          rw [eX2, eY]
          exact mid_212 (s := s) (t := sM t' 12 i (nI N)) (K := 1) (Or.inl rfl) u1 u2 (by omega) (by omega) hX u4 (hQ3.tr ((u7.r i).tr (QR_w t' (by omega) (by omega) _))) hY (by rw [gM_o (by omega)]; exact u8) (by rw [gM_o (by omega)]; exact j26) hB hB2 (by rw [gM_o (by omega)]; exact j32) ⟨by rw [gM_o (by omega)]; exact rr.1, by rw [gM_sM, if_pos rfl, if_pos rfl], by rw [gM_o (by omega)]; exact rr.2.2.1, by rw [gM_o (by omega)]; exact rr.2.2.2⟩ (fun z => absurd z (by omega))
  · -- elect
    rw [c1, if_neg (show ¬ nI 3 = (1 : Int32) by decide)] at eX
    rw [c2, c3, c4, if_pos (show nI (if false = true then 1 else 0) = 0 by decide), if_pos (show nI (if false = true then 1 else 0) = 0 by decide), if_neg (show ¬ nI (if true = true then 1 else 0) = 0 by decide)] at eY
    by_cases e0 : i = 0
    · rw [if_pos (show nI i ≤ 0 by rw [e0]; decide)] at eX
      refine Or.inr (hbad (by rw [eX]; exact eF _) ?_)
      rw [eY]
      unfold p_Model_oneStep_K66
      rw [if_pos (show nI i = 0 by rw [e0]; rfl), if_pos (show nI (if false = true then 1 else 0) = 0 by decide)]
      exact eK74
    · rw [if_neg (nI_nle (by omega) (by omega)), if_neg (show ¬ nI 3 = (2 : Int32) by decide), if_pos (show nI 3 = (3 : Int32) from rfl)] at eX
      have e66 : p_Model_oneStep_K66 (nI i) (nI (if false = true then 1 else 0)) (nI (if false = true then 1 else 0)) (nI (if true = true then 1 else 0)) t1 = p_Model_oneStep_K84 (nI i) (nI 0) (nI 0) (nI 1) t1 := by
        unfold p_Model_oneStep_K66
        rw [if_neg (nI_ne0 (by omega) (by omega))]; rfl
      rw [e66] at eY
      by_cases e12 : i = 12
      · exact Or.inr (hbad2 (by rw [eX]; exact eG _ e12) (by rw [eY]; exact eK84 _ _ _ e12))
      · refine Or.inl ⟨by omega, ?_⟩
        obtain ⟨r1, r2⟩ := row_init (i := i) (K := 2) t2
        rw [eK84g _ _ _ (by omega), if_pos (show nI 0 = 0 from rfl), if_pos (show nI 0 = 0 from rfl), show (2 : Int32) = nI 2 from rfl, K135_h (by omega), if_neg (show ¬ nI 1 = 0 by decide)] at eY
        have k25 : gM (sM (sM (sM (sM t2 11 i (nI 2)) 12 i (nI 1)) 13 i (nI 0)) 14 i (nI 0)) 0 25 = nI (wde v tl (skp v tl p)) := by rw [gM_o (by omega), gM_o (by omega), gM_o (by omega), gM_o (by omega)]; exact g25
        have k26 : gM (sM (sM (sM (sM t2 11 i (nI 2)) 12 i (nI 1)) 13 i (nI 0)) 14 i (nI 0)) 0 26 = 0 := by rw [r1.2.2.1 26 (by omega)]; exact g26
        have k32 : gM (sM (sM (sM (sM t2 11 i (nI 2)) 12 i (nI 1)) 13 i (nI 0)) 14 i (nI 0)) 0 32 = nI B := by rw [gM_o (by omega), gM_o (by omega), gM_o (by omega), gM_o (by omega), g32, hBB (by omega)]
        generalize sM (sM (sM (sM t2 11 i (nI 2)) 12 i (nI 1)) 13 i (nI 0)) 14 i (nI 0) = t3 at eY r1 r2 k25 k26 k32
        have eX2 : p_Reader_readStep k (nI i) s = p_Reader_readStep_K104 k (nI 3) (nI 1) (rx s (wde v tl (skp v tl p)) 0) := by
          rw [eX]
          unfold p_Reader_readStep_K42
          rw [if_neg one_ne, if_pos (show nI i < (12 : Int32) from nI_lt (b := 12) (by omega) (by omega)), if_pos (show nI 3 = (3 : Int32) from rfl)]; rfl
        rw [eX2, eY]
        exact mid_212 (s := s) (t := t3) (K := 2) (N := 1) (Or.inr rfl) (by omega) (by omega) (by omega) (by omega) hX h2.2 ((q2.r i).tr r1) hY k25 k26 hB hB2 k32 r2 (fun _ => rfl)
  · -- no word that may begin a step
    have n1 : ¬ nI (wcode v (skp v tl p) (wde v tl (skp v tl p))) = (1 : Int32) := fun z => by have := (nI_eq (b := 1) (by omega) (by omega)).mp z; omega
    have n2 : ¬ nI (wcode v (skp v tl p) (wde v tl (skp v tl p))) = (2 : Int32) := fun z => by have := (nI_eq (b := 2) (by omega) (by omega)).mp z; omega
    have n3 : ¬ nI (wcode v (skp v tl p) (wde v tl (skp v tl p))) = (3 : Int32) := fun z => by have := (nI_eq (b := 3) (by omega) (by omega)).mp z; omega
    rw [if_neg n1, if_neg n2, if_neg n3, eF, ite_self] at eX
    rw [c2, c3, c4, if_pos (show nI (if false = true then 1 else 0) = 0 by decide), if_pos (show nI (if false = true then 1 else 0) = 0 by decide), if_pos (show nI (if false = true then 1 else 0) = 0 by decide), eK74] at eY
    exact Or.inr (hbad eX eY)
end PROC
