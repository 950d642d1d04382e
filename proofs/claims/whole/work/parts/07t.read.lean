/-! ONE STEP of the text, in lockstep -/
def RX (k : Nat) (s s' : XS) : Prop := gG s' = gG s ∧ gJ s' = gJ s ∧ ∀ c, ¬ c = 9 → ¬ (19 + 5 * k ≤ c ∧ c ≤ 23 + 5 * k) → gM s' c = gM s c
def QZ (t t' : XS) : Prop := gJ t' = gJ t ∧ (∀ c, ¬ c = 0 → ¬ (11 ≤ c ∧ c ≤ 14) → ¬ c = 18 → gM t' c = gM t c) ∧ ∀ j, j < 25 ∨ 32 < j → gM t' 0 j = gM t 0 j
def QR (i : Nat) (t t' : XS) : Prop := gJ t' = gJ t ∧ (∀ c, ¬ c = 0 → ¬ (11 ≤ c ∧ c ≤ 14) → ¬ c = 18 → gM t' c = gM t c) ∧ (∀ j, j < 25 ∨ j = 26 ∨ 32 < j → gM t' 0 j = gM t 0 j) ∧ ∀ c j, 11 ≤ c → c ≤ 14 → ¬ j = i → gM t' c j = gM t c j
theorem QR.tr {i : Nat} {a b c : XS} (h : QR i a b) (h2 : QR i b c) : QR i a c := ⟨h2.1.trans h.1, fun x z w u => (h2.2.1 x z w u).trans (h.2.1 x z w u), fun j hj => (h2.2.2.1 j hj).trans (h.2.2.1 j hj), fun x j z w u => (h2.2.2.2 x j z w u).trans (h.2.2.2 x j z w u)⟩
theorem QF.r {a b : XS} (h : QF a b) (i : Nat) : QR i a b := ⟨h.1, fun c z1 _ z3 => h.2.1 c z1 z3, fun j hj => h.2.2 j (by omega), fun c j z1 z2 _ => by rw [h.2.1 c (by omega) (by omega)]⟩
theorem QR.z {i : Nat} {a b : XS} (h : QR i a b) : QZ a b := ⟨h.1, h.2.1, fun j hj => h.2.2.1 j (by omega)⟩
theorem QR.trG {i : Nat} {a b c : XS} (h : QR i a b) (h2 : QG b c) : QZ a c := ⟨h2.1.trans h.1, fun x z w u => (h2.2.1 x z u).trans (h.2.1 x z w u), fun j hj => (h2.2.2 j (by omega)).trans (h.2.2.1 j (by omega))⟩
theorem QR_w {i : Nat} (t : XS) {c : Nat} (h1 : 11 ≤ c) (h2 : c ≤ 14) (x : Int32) : QR i t (sM t c i x) := ⟨rfl, fun c' z1 z2 z3 => gM_o (by omega), fun j _ => by rw [gM_o (by omega)], fun c' j z1 z2 z3 => by
  rw [gM_sM]
  by_cases e : c' = c
  · rw [if_pos e, if_neg z3]
  · rw [if_neg e]⟩
theorem QR_32 {i : Nat} (t : XS) (x : Int32) : QR i t (sM t 0 32 x) := ⟨rfl, fun c z1 z2 z3 => gM_o z1, fun j hj => by rw [gM_sM, if_pos rfl, if_neg (by omega)], fun c j z1 z2 z3 => by rw [gM_o (by omega)]⟩
theorem TY.r {b b' : XS} {t i : Nat} {v : Nat → Nat} (h : TY b t v) (hQ : QR i b b') : TY b' t v := ⟨h.1, by rw [hQ.2.2.1 8 (by omega)]; exact h.2.1, fun i hi => by rw [hQ.2.1 6 (by omega) (by omega) (by omega)]; exact h.2.2 i hi⟩
theorem RX_rx (k : Nat) (s : XS) (p F : Nat) : RX k s (rx s p F) := ⟨rfl, rfl, fun c z _ => (gM_o z).trans (gM_o z)⟩
/-- the plan's new row -/
def AX (k i K N V H : Nat) (s s' : XS) : Prop := RX k s s' ∧ gM s' (19 + 5 * k) 4 = nI (i + 1) ∧ ∀ j, gM s' (20 + 5 * k) j = (if j = i then nI (K + 1) else gM s (20 + 5 * k) j) ∧ gM s' (21 + 5 * k) j = (if j = i then nI N else gM s (21 + 5 * k) j) ∧ gM s' (22 + 5 * k) j = (if j = i then nI V else gM s (22 + 5 * k) j) ∧ gM s' (23 + 5 * k) j = (if j = i then nI H else gM s (23 + 5 * k) j)
theorem X_add {s : XS} {k i K N V H : Nat} (hk : k < 2) (hi : i < 12) (hpl : gM s (19 + 5 * k) 4 = nI i) (p : Nat) (t0 : Int32) (hz : gZ t0 = true) : ∃ s', p_Reader_readStep_K155 k (nI (K + 1)) (nI N) (nI V) (nI H) t0 (rx s p 0) = some (t0, s') ∧ AX k i K N V H s s' ∧ gM s' 9 1 = nI p ∧ gM s' 9 2 = nI N ∧ gM s' 9 3 = nI 0 := by
  have g12 : gIn (nI i) 12 = true := gIn_t hi (by omega)
  refine ⟨sM (sM (sM (sM (sM (sM (rx s p 0) (20 + 5 * k) i (nI (K + 1))) (21 + 5 * k) i (nI N)) (22 + 5 * k) i (nI V)) (23 + 5 * k) i (nI H)) (19 + 5 * k) 4 (nI (i + 1))) 9 2 (nI N), ?_, ⟨⟨rfl, rfl, fun c z1 z2 => ?_⟩, ?_, fun j => ⟨?_, ?_, ?_, ?_⟩⟩, ?_, ?_, ?_⟩
  · have r0 : gM (rx s p 0) (19 + 5 * k) 4 = nI i := by
      unfold rx
      rw [gM_o (by omega), gM_o (by omega)]; exact hpl
    unfold p_Reader_readStep_K155 p_Plan_add
    rw [rx_93, if_pos (show nI 0 = 0 from rfl), r0, if_neg (show ¬ (12 : Int32) ≤ nI i from nI_ge (b := 12) hi (by omega)), if_pos g12, ix_nI (by omega), lq_e]
    have r1 : gM (sM (rx s p 0) (20 + 5 * k) i (nI (K + 1))) (19 + 5 * k) 4 = nI i := by rw [gM_o (by omega)]; exact r0
    rw [r1, if_pos g12, ix_nI (by omega), lq_e]
    have r2 : gM (sM (sM (rx s p 0) (20 + 5 * k) i (nI (K + 1))) (21 + 5 * k) i (nI N)) (19 + 5 * k) 4 = nI i := by rw [gM_o (by omega)]; exact r1
    rw [r2, if_pos g12, ix_nI (by omega), lq_e]
    have r3 : gM (sM (sM (sM (rx s p 0) (20 + 5 * k) i (nI (K + 1))) (21 + 5 * k) i (nI N)) (22 + 5 * k) i (nI V)) (19 + 5 * k) 4 = nI i := by rw [gM_o (by omega)]; exact r2
    rw [r3, if_pos g12, ix_nI (by omega), lq_e]
    have r4 : gM (sM (sM (sM (sM (rx s p 0) (20 + 5 * k) i (nI (K + 1))) (21 + 5 * k) i (nI N)) (22 + 5 * k) i (nI V)) (23 + 5 * k) i (nI H)) (19 + 5 * k) 4 = nI i := by rw [gM_o (by omega)]; exact r3
    rw [r4, lq_e, bind1_s, lq_e, if_pos hz, nI_1]
  · rw [gM_o z1, gM_o (by omega), gM_o (by omega), gM_o (by omega), gM_o (by omega), gM_o (by omega)]
    unfold rx
    rw [gM_o z1, gM_o z1]
  · rw [gM_o (by omega), gM_sM, if_pos rfl, if_pos rfl]
  · rw [gM_o (by omega), gM_o (by omega), gM_o (by omega), gM_o (by omega), gM_o (by omega), gM_sM, if_pos rfl]
    unfold rx
    rw [gM_o (by omega), gM_o (by omega)]
  · rw [gM_o (by omega), gM_o (by omega), gM_o (by omega), gM_o (by omega), gM_sM, if_pos rfl, gM_o (by omega)]
    unfold rx
    rw [gM_o (by omega), gM_o (by omega)]
  · rw [gM_o (by omega), gM_o (by omega), gM_o (by omega), gM_sM, if_pos rfl, gM_o (by omega), gM_o (by omega)]
    unfold rx
    rw [gM_o (by omega), gM_o (by omega)]
  · rw [gM_o (by omega), gM_o (by omega), gM_sM, if_pos rfl, gM_o (by omega), gM_o (by omega), gM_o (by omega)]
    unfold rx
    rw [gM_o (by omega), gM_o (by omega)]
  · rw [gM_sM, if_pos rfl, if_neg (by omega), gM_o (by omega), gM_o (by omega), gM_o (by omega), gM_o (by omega), gM_o (by omega)]; rfl
  · rw [gM_sM, if_pos rfl, if_pos rfl]
  · rw [gM_sM, if_pos rfl, if_neg (by omega), gM_o (by omega), gM_o (by omega), gM_o (by omega), gM_o (by omega), gM_o (by omega)]; rfl
section READ
variable {s t : XS} {tl : Nat} {v : Nat → Nat}
theorem K136_f (x1 x3 : Int32) {t : XS} {F : Nat} (h : gM t 0 26 = nI F) : p_Model_procedure_K136 x1 0 t = some ((-2 : Int32) - nI F, sM t 0 8 0) := by
  unfold p_Model_procedure_K136
  rw [lq_e, if_pos rfl]
  have : gM (sM t 0 8 0) 0 26 = nI F := h
  rw [this]
theorem B22_f (f : Nat) (x1 x3 : Int32) {t : XS} {F : Nat} (h : gM t 0 26 = nI F) : lo4 (p_Model_procedure_B22) (f + 1) x1 0 x3 t = some ((-2 : Int32) - nI F, sM t 0 8 0) := by
  show p_Model_procedure_B22 _ x1 0 x3 t = _
  unfold p_Model_procedure_B22
  rw [if_pos rfl]
  exact K136_f x1 x3 h
theorem fin_sim {k i K N V H p : Nat} (hk : k < 2) (hX : TX s tl v) (hY : TY t tl v) (hp : p ≤ tl) (hi : i < 12) (hK : K ≤ 2) (hpl : gM s (19 + 5 * k) 4 = nI i) (h25 : gM t 0 25 = nI p) (h26 : gM t 0 26 = 0) (f : Nat) : (∃ F s' t', ¬ F = 0 ∧ F < 3000 ∧ p_Reader_readStep_K136 k (nI (K + 1)) (nI N) (nI V) (nI H) (rx s p 0) = some (0, s') ∧ gM s' 9 3 = nI F ∧ RX k s s' ∧ QG t t' ∧ p_Model_procedure_K58 (lo4 (p_Model_procedure_B22) (f + 1)) (nI i) 1 1 (nI (if K = 2 then 1 else 0)) t = some ((-2 : Int32) - nI F, sM t' 0 8 0)) ∨ (∃ p' s' t', p' ≤ tl ∧ p_Reader_readStep_K136 k (nI (K + 1)) (nI N) (nI V) (nI H) (rx s p 0) = some (nI (if K = 2 then 0 else 1), s') ∧ AX k i K N V H s s' ∧ gM s' 9 1 = nI p' ∧ gM s' 9 2 = nI N ∧ gM s' 9 3 = nI 0 ∧ QF t t' ∧ gM t' 0 25 = nI p' ∧ p_Model_procedure_K58 (lo4 (p_Model_procedure_B22) (f + 1)) (nI i) 1 1 (nI (if K = 2 then 1 else 0)) t = lo4 (p_Model_procedure_B22) (f + 1) (nI (i + 1)) 1 (nI (if K = 2 then 0 else 1)) t') := by
  have h3 := hX.1
  have h1 := skp_b (v := v) hp
  unfold p_Reader_readStep_K136 p_Model_procedure_K58
  rw [Y_see hY h25 hp, bind2_s, X_semi_eq hX hp (by omega), X_end_eq hX hp (by omega), fl_0, nI_1]
  generalize skp v tl p = q at h1 ⊢
  have hQ := QF_25 t (nI q)
  have e25 : gM (sM t 0 25 (nI q)) 0 25 = nI q := rfl
  have e26 : gM (sM t 0 25 (nI q)) 0 26 = 0 := h26
  have hY1 := hY.q hQ
  rw [e25]
  generalize sM t 0 25 (nI q) = t1 at hQ e25 e26 hY1 ⊢
  have hfail := Y_fails e26 0 q
  have hfail : p_Model_fails (0 : Int32) (nI q) t1 = some (0, sM t1 0 26 (nI (1 + 8 * q + 0))) := hfail
  by_cases k2 : K = 2
  · subst k2
    rw [if_pos rfl, if_pos rfl, if_neg (show ¬ nI 1 = 0 by decide), if_pos (show nI (2 + 1) = (3 : Int32) from rfl)]
    by_cases el : q < tl
    · have hv := (hY.2.2 q el).1
      refine Or.inl ⟨1 + 8 * q + 0, rx s q (1 + 8 * q + 0), sM t1 0 26 (nI (1 + 8 * q + 0)), by omega, by omega, ?_, rfl, RX_rx k s _ _, QG_f hQ _, ?_⟩
      · rw [if_pos el, bind2_s, XF_155 _ _ _ _ _ _ _ (by omega) (by omega)]
      · rw [if_pos el, if_neg (show ¬ nI (v q) = (-1 : Int32) from fun z => nI_pos (n := v q) (by omega) (by rw [z]; decide)), hfail, bind2_s, if_pos rfl]
        exact B22_f f _ _ rfl
    · obtain ⟨s', a1, a2, a3, a4, a5⟩ := X_add (s := s) (K := 2) (N := N) (V := V) (H := H) hk hi hpl q (nI 0) gZ_0
      refine Or.inr ⟨q, s', t1, h1.2, ?_, a2, a3, a4, a5, hQ, e25, ?_⟩
      · rw [if_neg el, bind2_s]; exact a1
      · rw [if_neg el, if_pos rfl]; rfl
  · rw [if_neg k2, if_neg k2, if_pos (show nI 0 = 0 from rfl), if_neg (show ¬ nI (K + 1) = (3 : Int32) from fun z => by have := (nI_eq (b := 3) (by omega) (by omega)).mp z; omega)]
    by_cases el : q < tl ∧ v q = 59
    · obtain ⟨s', a1, a2, a3, a4, a5⟩ := X_add (s := s) (K := K) (N := N) (V := V) (H := H) hk hi hpl (q + 1) (nI 1) gZ_1
      refine Or.inr ⟨q + 1, s', sM t1 0 25 (nI (q + 1)), by omega, ?_, a2, a3, a4, a5, hQ.tr (QF_25 t1 _), rfl, ?_⟩
      · rw [if_pos el, bind2_s]; exact a1
      · rw [if_pos el.1, el.2, if_pos (show nI 59 = (59 : Int32) from rfl), nI_1, lq_e]; rfl
    · refine Or.inl ⟨1 + 8 * q + 0, rx s q (1 + 8 * q + 0), sM t1 0 26 (nI (1 + 8 * q + 0)), by omega, by omega, ?_, rfl, RX_rx k s _ _, QG_f hQ _, ?_⟩
      · rw [if_neg el, bind2_s, XF_155 _ _ _ _ _ _ _ (by omega) (by omega)]
      · have hne : ¬ (if q < tl then nI (v q) else (-1 : Int32)) = (59 : Int32) := by
          by_cases e2 : q < tl
          · have hv := (hY.2.2 q e2).1
            rw [if_pos e2]
            exact fun z => el ⟨e2, (nI_eq (b := 59) (by omega) (by omega)).mp z⟩
          · rw [if_neg e2]; decide
        rw [if_neg hne, hfail, bind2_s]
        exact B22_f f _ _ rfl
/-- the reference's step behind its head: what it leaves -/
def MID (k i : Nat) (s t : XS) (tl : Nat) (v : Nat → Nat) (B : Nat) (XR YR : Option (Int32 × XS)) : Prop :=
  (∃ F q t', ¬ F = 0 ∧ F < 3000 ∧ XR = some (0, rx s q F) ∧ YR = some (0, t') ∧ QZ t t' ∧ gM t' 0 26 = nI F) ∨
  (∃ q q' t', q < tl ∧ lt (v q) = true ∧ XR = some (0, rx s q' (1 + 8 * q + 0)) ∧ YR = some (1, t') ∧ QR i t t' ∧ gM t' 0 25 = nI q ∧ gM t' 11 i = nI 1) ∨
  (∃ K N V H q t', K ≤ 2 ∧ 1 ≤ N ∧ N ≤ 40 ∧ V ≤ 40 ∧ H ≤ 9 ∧ (K = 2 → N = 1 ∧ H = 0) ∧ (K = 0 → V = 0) ∧ (i = 0 → K = 0) ∧ q ≤ tl ∧ XR = p_Reader_readStep_K136 k (nI (K + 1)) (nI N) (nI V) (nI H) (rx s q 0) ∧ YR = some (1, t') ∧ QR i t t' ∧ gM t' 0 25 = nI q ∧ gM t' 11 i = nI K ∧ gM t' 12 i = nI N ∧ gM t' 13 i = nI V ∧ gM t' 14 i = nI H ∧ (¬ K = 2 → gM t' 0 32 = nI N))
/-- the four cells of the new row -/
def rw4 (t : XS) (i K N V H : Nat) : Prop := gM t 11 i = nI K ∧ gM t 12 i = nI N ∧ gM t 13 i = nI V ∧ gM t 14 i = nI H
theorem rw4.q {t t' : XS} {i K N V H : Nat} (h : rw4 t i K N V H) (hQ : QF t t') : rw4 t' i K N V H := ⟨by rw [hQ.2.1 11 (by omega) (by omega)]; exact h.1, by rw [hQ.2.1 12 (by omega) (by omega)]; exact h.2.1, by rw [hQ.2.1 13 (by omega) (by omega)]; exact h.2.2.1, by rw [hQ.2.1 14 (by omega) (by omega)]; exact h.2.2.2⟩
theorem K135_h {i K : Nat} (hi : i < 12) (x2 x4 : Int32) (t : XS) : p_Model_oneStep_K135 (nI i) x2 x4 (nI K) (nI i) t = (if x4 = 0 then bind2 (p_Model_number (40 : Int32) (sM (sM (sM (sM t 11 i (nI K)) 12 i (nI 1)) 13 i (nI 0)) 14 i (nI 0))) (fun r45 s46 => (if r45 = 0 then some ((0 : Int32), s46) else (if x2 = 0 then if gIn (nI i) 13 = true then lq (sM s46 12 i (gM s46 0 27)) (fun s50 => p_Model_oneStep_K212 (nI i) x2 x4 s50) else none else (if nI i ≤ 0 then if gIn (nI i) 13 = true then lq (sM s46 12 i (gM s46 0 27)) (fun s53 => p_Model_oneStep_K212 (nI i) x2 x4 s53) else none else (if (gM s46 0 27) ≤ (gM s46 0 32) then if gIn (nI i) 13 = true then lq (sM s46 12 i (gM s46 0 27)) (fun s56 => p_Model_oneStep_K212 (nI i) x2 x4 s56) else none else bind2 (p_Model_fails (3 : Int32) (gM s46 0 28) s46) (fun r58 s59 => if gZ r58 = true then some (r58, s59) else none)))))) else p_Model_oneStep_K212 (nI i) x2 x4 (sM (sM (sM (sM t 11 i (nI K)) 12 i (nI 1)) 13 i (nI 0)) 14 i (nI 0))) := by
  have g13 : gIn (nI i) 13 = true := gIn_t (by omega) (by omega)
  unfold p_Model_oneStep_K135
  rw [if_pos g13, ix_nI (by omega), lq_e, if_pos g13, lq_e, if_pos g13, lq_e, if_pos g13, lq_e]; rfl
theorem row_init {i K : Nat} (t : XS) : QR i t (sM (sM (sM (sM t 11 i (nI K)) 12 i (nI 1)) 13 i (nI 0)) 14 i (nI 0)) ∧ rw4 (sM (sM (sM (sM t 11 i (nI K)) 12 i (nI 1)) 13 i (nI 0)) 14 i (nI 0)) i K 1 0 0 :=
  ⟨(((QR_w t (by omega) (by omega) _).tr (QR_w _ (by omega) (by omega) _)).tr (QR_w _ (by omega) (by omega) _)).tr (QR_w _ (by omega) (by omega) _), by
    refine ⟨?_, ?_, ?_, ?_⟩
    · rw [gM_o (by omega), gM_o (by omega), gM_o (by omega), gM_sM, if_pos rfl, if_pos rfl]
    · rw [gM_o (by omega), gM_o (by omega), gM_sM, if_pos rfl, if_pos rfl]
    · rw [gM_o (by omega), gM_sM, if_pos rfl, if_pos rfl]
    · rw [gM_sM, if_pos rfl, if_pos rfl]⟩
/-- by M, and what stands behind it in a choice -/
theorem mid_212 {k i K N B p : Nat} (hK : K = 1 ∨ K = 2) (hN1 : 1 ≤ N) (hN2 : N ≤ 40) (hi : i < 12) (hi0 : 0 < i) (hX : TX s tl v) (hp : p ≤ tl) {t0 : XS} (hQ0 : QR i t0 t) (hY0 : TY t0 tl v) (h25 : gM t 0 25 = nI p) (h26 : gM t 0 26 = 0) (hB : gM s 9 2 = nI B) (hB2 : B ≤ 40) (h32 : gM t 0 32 = nI B) (hr : rw4 t i K N 0 0) (hK2 : K = 2 → N = 1) : MID k i s t0 tl v B (p_Reader_readStep_K104 k (nI (K + 1)) (nI N) (rx s p 0)) (p_Model_oneStep_K212 (nI i) 0 (nI (if K = 2 then 1 else 0)) t) := by
  have h3 := hX.1
  have hY : TY t tl v := hY0.r hQ0
  have g13 : gIn (nI i) 13 = true := gIn_t (by omega) (by omega)
  have eX : p_Reader_readStep_K104 k (nI (K + 1)) (nI N) (rx s p 0) = bind2 (p_Reader_takeVotes (rx s p 0)) (fun r19 s20 => p_Reader_readStep_K120 k (nI (K + 1)) (nI N) r19 s20) := by
    unfold p_Reader_readStep_K104
    rw [if_neg (show ¬ nI (K + 1) = (1 : Int32) from fun z => by have := (nI_eq (b := 1) (by omega) (by omega)).mp z; omega)]
  rw [eX]
  unfold p_Model_oneStep_K212
  rw [if_pos rfl]
  rcases by_sim hX hY hp h25 h26 hB (by omega) with ⟨F, q, t', z1, z2, z3, z4, z5, z6, z7⟩ | ⟨M, p1, q, t', z1, z2, z3, z4, z5, z6, z7, z8, z9, z10⟩
  · rw [z4, bind2_s, z5, bind2_s, if_pos rfl]
    obtain ⟨q', e⟩ := XF_120 hX k (nI (K + 1)) (nI N) 0 z3 z1 z2
    exact Or.inl ⟨F, q', t', z1, z2, e, rfl, hQ0.trG z6, z7⟩
  · have f32 : gM t' 0 32 = nI B := by rw [z7.2.2 32 (by omega)]; exact h32
    have f26 : gM t' 0 26 = 0 := by rw [z7.2.2 26 (by omega)]; exact h26
    rw [z6, bind2_s, if_neg one_ne, z9, f32, z10, z5]
    by_cases eM : M ≤ B
    · rw [if_pos eM, bind2_s, if_pos (nI_le eM (by omega)), if_pos g13, ix_nI (by omega), lq_e]
      have hQ1 : QR i t (sM t' 13 i (nI M)) := (z7.r i).tr (QR_w t' (by omega) (by omega) _)
      have hr1 : rw4 (sM t' 13 i (nI M)) i K N M 0 := by
        have hq := hr.q z7
        refine ⟨?_, ?_, ?_, ?_⟩
        · rw [gM_o (by omega)]; exact hq.1
        · rw [gM_o (by omega)]; exact hq.2.1
        · rw [gM_sM, if_pos rfl, if_pos rfl]
        · rw [gM_o (by omega)]; exact hq.2.2.2
      have g25 : gM (sM t' 13 i (nI M)) 0 25 = nI q := z8
      have g26 : gM (sM t' 13 i (nI M)) 0 26 = 0 := f26
      generalize sM t' 13 i (nI M) = t1 at hQ1 hr1 g25 g26 ⊢
      have hY1 : TY t1 tl v := hY.r hQ1
      by_cases k2 : K = 2
      · subst k2
        rw [if_pos rfl, if_neg (show ¬ nI 1 = 0 by decide)]
        refine Or.inr (Or.inr ⟨2, N, M, 0, q, t1, by omega, hN1, hN2, z2, by omega, fun _ => ⟨hK2 rfl, rfl⟩, fun z => absurd z (by omega), fun z => absurd z (by omega), z4, ?_, rfl, hQ0.tr hQ1, g25, hr1.1, hr1.2.1, hr1.2.2.1, hr1.2.2.2, fun z => absurd rfl z⟩)
        unfold p_Reader_readStep_K120
        rw [if_neg (show ¬ nI (2 + 1) = (2 : Int32) by decide)]; rfl
      · have k1 : K = 1 := by omega
        subst k1
        rw [if_neg (show ¬ 1 = 2 by omega), if_pos (show nI 0 = 0 from rfl)]
        have h1 := skp_b (v := v) z4
        have h2 := wde_b (v := v) h1.2
        unfold p_Reader_readStep_K120
        rw [if_pos (show nI (1 + 1) = (2 : Int32) from rfl), X_house_eq hX z4 (by omega), fl_0, Y_looks hY1 g25 z4, bind1_s]
        have q1 := QF_yl t1 (skp v tl q) (wde v tl (skp v tl q) - skp v tl q)
        have e25 : gM (yl t1 (skp v tl q) (wde v tl (skp v tl q) - skp v tl q)) 0 25 = nI (skp v tl q) := rfl
        have e29 : gM (yl t1 (skp v tl q) (wde v tl (skp v tl q) - skp v tl q)) 0 29 = nI (skp v tl q) := rfl
        have e30 : gM (yl t1 (skp v tl q) (wde v tl (skp v tl q) - skp v tl q)) 0 30 = nI (wde v tl (skp v tl q) - skp v tl q) := rfl
        generalize yl t1 (skp v tl q) (wde v tl (skp v tl q) - skp v tl q) = t2 at q1 e25 e29 e30 ⊢
        obtain ⟨t3, w1, w2, w3⟩ := Y_isWord (hY1.q q1) e29 e30 h2.1 h2.2 (show 4 < 5 by omega) (x1 := 104) (x2 := 111) (x3 := 117) (x4 := 115) (x5 := 101) (x6 := 0) rfl rfl rfl rfl rfl rfl
        have q2 := q1.tr (QF_18 w2 w3)
        have r3 := hr1.q q2
        have f25 : gM t3 0 25 = nI (skp v tl q) := by rw [w3 0 (by omega)]; exact e25
        have f29 : gM t3 0 29 = nI (skp v tl q) := by rw [w3 0 (by omega)]; exact e29
        have f30 : gM t3 0 30 = nI (wde v tl (skp v tl q) - skp v tl q) := by rw [w3 0 (by omega)]; exact e30
        have f26 : gM t3 0 26 = 0 := by rw [q2.2.2 26 (by omega)]; exact g26
        rw [w1, bind2_s, f29, f30, nI_add, show skp v tl q + (wde v tl (skp v tl q) - skp v tl q) = wde v tl (skp v tl q) by omega, if_pos g13, lq_e, lq_e, r3.2.1]
        cases e : isW v (skp v tl q) (wde v tl (skp v tl q)) 4 with
        | false =>
          rw [if_pos (show nI (if false = true then 1 else 0) = 0 by decide)]
          have hQ3 : QR i t0 (sM t3 0 32 (nI N)) := (hQ0.tr hQ1).tr ((q2.r i).tr (QR_32 t3 _))
          by_cases el : wde v tl (skp v tl q) = skp v tl q
          · rw [if_pos el, bind2_s]
            exact Or.inr (Or.inr ⟨1, N, M, 0, skp v tl q, sM t3 0 32 (nI N), by omega, hN1, hN2, z2, by omega, fun z => absurd z (by omega), fun z => absurd z (by omega), fun z => absurd z (by omega), h1.2, rfl, rfl, hQ3, f25, r3.1, r3.2.1, r3.2.2.1, r3.2.2.2, fun _ => rfl⟩)
          · rw [if_neg el, if_neg (fun z => by have := wc5.mp z; rw [e] at this; cases this), bind2_s]
            obtain ⟨q', e'⟩ := XF_136 hX k (nI (1 + 1)) (nI N) (nI M) 0 (p := wde v tl (skp v tl q)) h2.2 (F := 1 + 8 * skp v tl q + 0) (by omega) (by omega)
            have hlt : skp v tl q < tl := by
              rcases Nat.lt_or_ge (skp v tl q) tl with z | z
              · exact z
              · exact absurd (by have : skp v tl q = tl := by omega
                                 rw [this]; exact spn_tt tl) el
            have hl : lt (v (skp v tl q)) = true := by
              cases z : lt (v (skp v tl q)) with
              | true => rfl
              | false => exact absurd ((spn_0 hlt).mpr z) el
            exact Or.inr (Or.inl ⟨skp v tl q, q', sM t3 0 32 (nI N), hlt, hl, e', rfl, hQ3, f25, r3.1⟩)
        | true =>
          have el : ¬ wde v tl (skp v tl q) = skp v tl q := fun z => by
            have := wc_len e
            rw [z, Nat.sub_self] at this
            exact absurd this (by decide)
          rw [if_neg (show ¬ nI (if true = true then 1 else 0) = 0 by decide), if_neg el, if_pos (wc5.mpr e)]
          have q3 := q2.tr (QF_25 t3 (nI (wde v tl (skp v tl q))))
          rcases num_sim (s := s) (t := sM t3 0 25 (nI (wde v tl (skp v tl q)))) hX (hY1.q q3) h2.2 rfl f26 (top := 9) (met := 9) (by omega) (by omega) with ⟨F, qq, t', u1, u2, u3, u4, u5, u6, u7⟩ | ⟨H, pp, qq, t', u1, u2, u3, u4, u5, u6, u7, u8, u9, u10⟩
          · have u5 : p_Model_number (9 : Int32) (sM t3 0 25 (nI (wde v tl (skp v tl q)))) = some (0, t') := u5
            rw [u4, bind2_s, u5, bind2_s, if_pos rfl]
            obtain ⟨q', e'⟩ := XF_136 hX k (nI (1 + 1)) (nI N) (nI M) 0 u3 u1 u2
            exact Or.inl ⟨F, q', t', u1, u2, e', rfl, ((hQ0.tr hQ1).tr (q3.r i)).trG u6, u7⟩
          · have u6 : p_Model_number (9 : Int32) (sM t3 0 25 (nI (wde v tl (skp v tl q)))) = some (1, t') := u6
            have r4 := (r3.q (QF_25 t3 (nI (wde v tl (skp v tl q))))).q u7
            rw [u5, if_pos u2, bind2_s, u6, bind2_s, if_neg one_ne, if_pos g13, lq_e, if_pos g13, lq_e, u9]
            have r12 : gM (sM t' 14 i (nI H)) 12 i = nI N := by rw [gM_o (by omega)]; exact r4.2.1
            rw [r12]
            refine Or.inr (Or.inr ⟨1, N, M, H, qq, sM (sM t' 14 i (nI H)) 0 32 (nI N), by omega, hN1, hN2, z2, u2, fun z => absurd z (by omega), fun z => absurd z (by omega), fun z => absurd z (by omega), u4, rfl, rfl, ((hQ0.tr hQ1).tr (q3.r i)).tr ((u7.r i).tr ((QR_w t' (by omega) (by omega) _).tr (QR_32 _ _))), u8, ?_, r12, ?_, ?_, fun _ => rfl⟩)
            · rw [gM_o (by omega), gM_o (by omega)]; exact r4.1
            · rw [gM_o (by omega), gM_o (by omega)]; exact r4.2.2.1
            · rw [gM_o (by omega), gM_sM, if_pos rfl, if_pos rfl]
    · rw [if_neg eM, bind2_s, if_neg (nI_ge (by omega) (by omega))]
      obtain ⟨q', e⟩ := XF_120 hX k (nI (K + 1)) (nI N) 0 z4 (F := 1 + 8 * p1 + 3) (by omega) (by omega)
      rw [show (3 : Int32) = nI 3 from rfl, Y_fails f26 3 p1, bind2_s, if_pos gZ_z]
      exact Or.inl ⟨1 + 8 * p1 + 3, q', _, by omega, by omega, e, rfl, hQ0.trG (QG_f z7 _), rfl⟩
end READ
