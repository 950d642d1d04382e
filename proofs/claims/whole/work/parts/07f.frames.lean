def bt (x : Int32) (i : Nat) : Bool := x.toBitVec.getLsbD i
theorem b_ext {x y : Int32} (h : ∀ i, i < 32 → bt x i = bt y i) : x = y := Int32.toBitVec_inj.mp (BitVec.eq_of_getLsbD_eq (fun i hi => h i hi))
theorem b_and (x y : Int32) (i : Nat) : bt (x &&& y) i = (bt x i && bt y i) := by unfold bt; rw [Int32.toBitVec_and, BitVec.getLsbD_and]
theorem b_big {x : Int32} {i : Nat} (h : 32 ≤ i) : bt x i = false := BitVec.getLsbD_of_ge _ _ h
theorem b_255 (i : Nat) : bt 255 i = decide (i < 8) := by
  rcases Nat.lt_or_ge i 32 with h | h
  · exact (by decide +kernel : ∀ i, i < 32 → bt 255 i = decide (i < 8)) i h
  · rw [b_big h, decide_eq_false (by omega)]
theorem s_l : ∀ n, n < 32 → ((nI n &&& 31).toBitVec.smod 32).toNat = n := by decide +kernel
theorem s_u : ∀ n, n < 32 → (((nI n).toUInt32 &&& Int32.toUInt32 31).toBitVec % 32).toNat = n := by decide +kernel
theorem b_ushr (n : Nat) (hn : n < 32) (x : Int32) (i : Nat) : bt ((x.toUInt32 >>> ((nI n).toUInt32 &&& Int32.toUInt32 31)).toInt32) i = bt x (n + i) := by
  show (x.toUInt32 >>> ((nI n).toUInt32 &&& Int32.toUInt32 31)).toBitVec.getLsbD i = x.toUInt32.toBitVec.getLsbD (n + i)
  rw [UInt32.toBitVec_shiftRight]
  show (x.toUInt32.toBitVec >>> (((nI n).toUInt32 &&& Int32.toUInt32 31).toBitVec % 32).toNat).getLsbD i = _
  rw [s_u n hn, BitVec.getLsbD_ushiftRight]
theorem b_sshr (n : Nat) (hn : n < 32) (x : Int32) {i : Nat} (hi : i < 32) : bt (x >>> (nI n &&& 31)) i = if n + i < 32 then bt x (n + i) else bt x 31 := by
  unfold bt
  rw [Int32.toBitVec_shiftRight]
  show (x.toBitVec.sshiftRight ((nI n &&& 31).toBitVec.smod 32).toNat).getLsbD i = _
  rw [s_l n hn, BitVec.getLsbD_sshiftRight, BitVec.msb_eq_getLsbD_last]
  simp [hi]
theorem bp_b (x : Int32) : x.toInt8.toInt32 &&& 255 = x &&& 255 := by
  apply Int32.toBitVec_inj.mp
  rw [Int32.toBitVec_and, Int32.toBitVec_and, Int8.toBitVec_toInt32, Int32.toBitVec_toInt8]
  apply BitVec.eq_of_getLsbD_eq
  intro i hi
  rw [BitVec.getLsbD_and, BitVec.getLsbD_and]
  have hm : ∀ i < 32, 8 ≤ i → (255 : Int32).toBitVec.getLsbD i = false := by decide
  rcases Nat.lt_or_ge i 8 with z | z
  · rw [BitVec.getLsbD_signExtend, BitVec.getLsbD_signExtend, if_pos z, if_pos hi]
    simp only [z, hi, decide_true, Bool.true_and]
  · rw [hm i hi z]; simp
theorem XC.fr {a a' : XS} {n : Nat} {ho pa pr ye : Nat → Nat} {ki : Nat → Nat → Bool} {np : Nat} (h : XC a n ho pa pr ye ki np) (hM : ∀ c, 1 ≤ c → c ≤ 5 → gM a' c = gM a c) (hJ : gJ a' 6 = gJ a 6) : XC a' n ho pa pr ye ki np := by
  unfold XC at h ⊢
  rw [hM 1 (by omega) (by omega), hM 2 (by omega) (by omega), hM 3 (by omega) (by omega), hM 4 (by omega) (by omega), hM 5 (by omega) (by omega), hJ]
  exact h
theorem YC.fr {b b' : XS} {n : Nat} {ho pa pr ye : Nat → Nat} {ki : Nat → Nat → Bool} {np : Nat} (h : YC b n ho pa pr ye ki np) (h0 : gM b' 0 0 = gM b 0 0) (h5 : gM b' 0 5 = gM b 0 5) (hM : ∀ c, 1 ≤ c → c ≤ 5 → gM b' c = gM b c) : YC b' n ho pa pr ye ki np := by
  unfold YC at h ⊢
  rw [h0, h5, hM 1 (by omega) (by omega), hM 2 (by omega) (by omega), hM 3 (by omega) (by omega), hM 4 (by omega) (by omega), hM 5 (by omega) (by omega)]
  exact h
theorem RT.fr {a b a' b' : XS} (h : RT a b) (h7 : gM a' 7 = gM a 7) (h8 : gM a' 8 = gM a 8) (k8 : gM b' 0 8 = gM b 0 8) (k6 : gM b' 6 = gM b 6) : RT a' b' := by
  unfold RT at h ⊢
  rw [h7, h8, k8, k6]; exact h
theorem RL_.fr {a b a' b' : XS} (h : RL_ a b) (h10 : gM a' 10 = gM a 10) (h11 : gM a' 11 = gM a 11) (k23 : gM b' 0 23 = gM b 0 23) (k24 : gM b' 0 24 = gM b 0 24) (k17 : gM b' 17 = gM b 17) : RL_ a' b' := by
  unfold RL_ at h ⊢
  rw [h10, h11, k23, k24, k17]; exact h
theorem RB.fr {a b a' b' : XS} (h : RB a b) (h12 : gM a' 12 = gM a 12) (h13 : gM a' 13 = gM a 13) (k33 : gM b' 0 33 = gM b 0 33) (k34 : gM b' 0 34 = gM b 0 34) (k35 : gM b' 0 35 = gM b 0 35) (k36 : gM b' 0 36 = gM b 0 36) (k19 : gM b' 19 = gM b 19) : RB a' b' := by
  unfold RB at h ⊢
  rw [h12, h13, k33, k34, k35, k36, k19]; exact h
theorem RO.fr {a b a' b' : XS} (h : RO a b) (hG : gG a' = gG a) (hJ : ∀ c, 30 ≤ c → c < 40 → gJ a' c = gJ a c) (h15 : gM a' 29 15 = gM a 29 15) (k46 : gM b' 0 46 = gM b 0 46) (k25 : gJ b' 25 = gJ b 25) : RO a' b' := by
  have h2 := h.2.1 29 11
  unfold RO at h ⊢
  rw [hG, hJ 30 (by omega) (by omega), hJ _ (by omega) (by omega), h15, k46, k25]; exact h
theorem sh_and (n : Nat) (hn : n ≤ 24) (x : Int32) : (x.toUInt32 >>> ((nI n).toUInt32 &&& Int32.toUInt32 31)).toInt32 &&& 255 = (x >>> (nI n &&& 31)) &&& 255 := by
  apply b_ext
  intro i hi
  rw [b_and, b_and, b_255]
  by_cases h : i < 8
  · rw [b_ushr n (by omega), b_sshr n (by omega) x hi, if_pos (by omega)]
  · simp [h]
theorem i8_ofNat (y : Int8) : Int8.ofNat y.toBitVec.toNat = y := by
  apply Int8.toBitVec_inj.mp
  show BitVec.ofNat 8 _ = _
  apply BitVec.eq_of_toNat_eq
  rw [BitVec.toNat_ofNat]
  exact Nat.mod_eq_of_lt y.toBitVec.isLt
theorem byte_eq (n : Nat) (hn : n ≤ 24) (x : Int32) : ∃ v, v < 256 ∧ (x.toUInt32 >>> ((nI n).toUInt32 &&& Int32.toUInt32 31)).toInt32 &&& 255 = nI v ∧ vp_nar .byte (x >>> (nI n &&& 31)).toInt8.toInt32 = (nI v).toInt8.toInt32 := by
  obtain ⟨v, hv, e⟩ := pk_andE (x >>> (nI n &&& 31)) (m := 255) 8 (by decide)
  refine ⟨v, hv, by rw [sh_and n hn]; exact e, ?_⟩
  rw [pk_vb, ← e, ← bp_b]
  have h := sc_b8 ((x >>> (nI n &&& 31)).toInt8.toBitVec.toNat) (by have := (x >>> (nI n &&& 31)).toInt8.toBitVec.isLt; omega)
  rw [i8_ofNat] at h
  exact h.symm
/-- the tape with its bytes told -/
def RTn (a b : XS) (t : Nat) (v : Nat → Nat) : Prop := t ≤ 300 ∧ gM a 7 1 = nI t ∧ gM b 0 8 = nI t ∧ ∀ i, i < t → v i < 256 ∧ gM a 8 i = nI (v i) ∧ gM b 6 i = (nI (v i)).toInt8.toInt32
def TpX (a a' : XS) : Prop := gG a' = gG a ∧ gJ a' = gJ a ∧ ∀ c, ¬ c = 7 → ¬ c = 8 → gM a' c = gM a c
def TpY (b b' : XS) : Prop := gJ b' = gJ b ∧ (∀ c, ¬ c = 0 → ¬ c = 6 → gM b' c = gM b c) ∧ ∀ j, ¬ j = 8 → gM b' 0 j = gM b 0 j
theorem TpX.tr {a a' a2 : XS} (h : TpX a a') (h2 : TpX a' a2) : TpX a a2 := ⟨h2.1.trans h.1, h2.2.1.trans h.2.1, fun c x y => (h2.2.2 c x y).trans (h.2.2 c x y)⟩
theorem TpY.tr {a a' a2 : XS} (h : TpY a a') (h2 : TpY a' a2) : TpY a a2 := ⟨h2.1.trans h.1, fun c x y => (h2.2.1 c x y).trans (h.2.1 c x y), fun j x => (h2.2.2 j x).trans (h.2.2 j x)⟩
theorem one_byte {a b : XS} {t : Nat} {v : Nat → Nat} (h : RTn a b t v) (ht : t < 300) (n : Nat) (hn : n ≤ 24) (x : Int32) (k1 k2 : Int32 → XS → Option XS) : ∃ (a' b' : XS) (v' : Nat → Nat), p_Tape_append_B3 x k1 (nI n) a = k1 (nI n + (-8 : Int32)) a' ∧ p_Model_four_B3 x k2 (nI n) b = k2 (nI n + (-8 : Int32)) b' ∧ RTn a' b' (t + 1) v' ∧ TpX a a' ∧ TpY b b' := by
  obtain ⟨w, hw, e1, e2⟩ := byte_eq n hn x
  obtain ⟨h0, h1, h2, h3⟩ := h
  refine ⟨sM (sM a 8 t (nI w)) 7 1 (nI (t + 1)), sM (sM b 6 t ((nI w).toInt8.toInt32)) 0 8 (nI (t + 1)), fun i => if i = t then w else v i, ?_, ?_, ⟨by omega, rfl, rfl, fun i hi => ?_⟩, ⟨rfl, rfl, fun c x y => (gM_o x).trans (gM_o y)⟩, ⟨rfl, fun c x y => (gM_o x).trans (gM_o y), fun j hj => ?_⟩⟩
  · unfold p_Tape_append_B3 p_Tape_hasRoom
    have hr : ¬ (300 : Int32) - nI t < 1 := by
      rw [show (300 : Int32) - nI t = nI (300 - t) from pk_sub (a := 300) (by omega)]
      exact nI_nlt (b := 1) (by omega) (by omega)
    rw [if_neg (nI_pos (by omega)), h1, if_neg hr, bind1_s, if_neg one_ne, if_pos (gIn_t ht (by omega)), ix_nI (by omega), lq_e, lq_e, e1]
    have e9 : gM (sM a 8 t (nI w)) 7 1 = nI t := h1
    rw [e9, nI_1]
  · unfold p_Model_four_B3
    rw [if_neg (nI_pos (by omega)), h2, if_pos (gIn_t ht (by omega)), ix_nI (by omega), lq_e, lq_e, e2]
    have e9 : gM (sM b 6 t ((nI w).toInt8.toInt32)) 0 8 = nI t := h2
    rw [e9, nI_1]
  · show _ ∧ gM (sM a 8 t (nI w)) 8 i = _ ∧ gM (sM b 6 t ((nI w).toInt8.toInt32)) 6 i = _
    rw [gM_sM, gM_sM, if_pos rfl, if_pos rfl]
    dsimp only
    by_cases e : i = t
    · rw [if_pos e, if_pos e, if_pos e]
      exact ⟨hw, rfl, rfl⟩
    · rw [if_neg e, if_neg e, if_neg e]
      exact h3 i (by omega)
  · show gM (sM (sM b 6 t ((nI w).toInt8.toInt32)) 0 8 (nI (t + 1))) 0 j = gM b 0 j
    rw [gM_sM, if_pos rfl, if_neg hj]; rfl
theorem four_bytes {a b : XS} {t : Nat} {v : Nat → Nat} (h : RTn a b t v) (ht : t + 4 ≤ 300) (x : Int32) : ∃ (a' b' : XS) (v' : Nat → Nat), p_Tape_append x a = some a' ∧ p_Model_four x b = some b' ∧ RTn a' b' (t + 4) v' ∧ TpX a a' ∧ TpY b b' := by
  obtain ⟨a1, b1, v1, x1, y1, h1, p1, q1⟩ := one_byte h (by omega) 24 (by omega) x (lo2 (p_Tape_append_B3 x) 4095) (lo2 (p_Model_four_B3 x) 4095)
  obtain ⟨a2, b2, v2, x2, y2, h2, p2, q2⟩ := one_byte h1 (by omega) 16 (by omega) x (lo2 (p_Tape_append_B3 x) 4094) (lo2 (p_Model_four_B3 x) 4094)
  obtain ⟨a3, b3, v3, x3, y3, h3, p3, q3⟩ := one_byte h2 (by omega) 8 (by omega) x (lo2 (p_Tape_append_B3 x) 4093) (lo2 (p_Model_four_B3 x) 4093)
  obtain ⟨a4, b4, v4, x4, y4, h4, p4, q4⟩ := one_byte h3 (by omega) 0 (by omega) x (lo2 (p_Tape_append_B3 x) 4092) (lo2 (p_Model_four_B3 x) 4092)
  refine ⟨a4, b4, v4, ?_, ?_, h4, ((p1.tr p2).tr p3).tr p4, ((q1.tr q2).tr q3).tr q4⟩
  · show lo2 (p_Tape_append_B3 x) (4095 + 1) (nI 24) a = _
    show p_Tape_append_B3 x (lo2 (p_Tape_append_B3 x) 4095) (nI 24) a = _
    rw [x1]
    show p_Tape_append_B3 x (lo2 (p_Tape_append_B3 x) 4094) (nI 16) a1 = _
    rw [x2]
    show p_Tape_append_B3 x (lo2 (p_Tape_append_B3 x) 4093) (nI 8) a2 = _
    rw [x3]
    show p_Tape_append_B3 x (lo2 (p_Tape_append_B3 x) 4092) (nI 0) a3 = _
    rw [x4]
    show p_Tape_append_B3 x (lo2 (p_Tape_append_B3 x) 4091) (-8) a4 = _
    unfold p_Tape_append_B3
    rw [if_pos (show (-8 : Int32) < 0 by decide)]
  · show p_Model_four_B3 x (lo2 (p_Model_four_B3 x) 4095) (nI 24) b = _
    rw [y1]
    show p_Model_four_B3 x (lo2 (p_Model_four_B3 x) 4094) (nI 16) b1 = _
    rw [y2]
    show p_Model_four_B3 x (lo2 (p_Model_four_B3 x) 4093) (nI 8) b2 = _
    rw [y3]
    show p_Model_four_B3 x (lo2 (p_Model_four_B3 x) 4092) (nI 0) b3 = _
    rw [y4]
    show p_Model_four_B3 x (lo2 (p_Model_four_B3 x) 4091) (-8) b4 = _
    unfold p_Model_four_B3
    rw [if_pos (show (-8 : Int32) < 0 by decide)]
theorem S_feed : sim_feed Rel := by
  intro a b x1 x2 x3 x4 x5 hR
  obtain ⟨n, ho, pa, pr, ye, ki, np, st, kd, sz, vt, lm, dn, BL, hc, hX, hY, hT, hL, hB, hO, hp, hP, hS⟩ := id hR
  obtain ⟨t, v, ht⟩ := hT
  have ht : RTn a b t v := ht
  by_cases h20 : t + 20 ≤ 300
  · obtain ⟨a1, b1, v1, e1, f1, h1, p1, q1⟩ := four_bytes ht (by omega) x1
    obtain ⟨a2, b2, v2, e2, f2, h2, p2, q2⟩ := four_bytes h1 (by omega) x2
    obtain ⟨a3, b3, v3, e3, f3, h3, p3, q3⟩ := four_bytes h2 (by omega) x3
    obtain ⟨a4, b4, v4, e4, f4, h4, p4, q4⟩ := four_bytes h3 (by omega) x4
    obtain ⟨a5, b5, v5, e5, f5, h5, p5, q5⟩ := four_bytes h4 (by omega) x5
    have P := (((p1.tr p2).tr p3).tr p4).tr p5
    have Q := (((q1.tr q2).tr q3).tr q4).tr q5
    refine ⟨gM b5 0 8, a5, b5, ?_, ?_, ?_⟩
    · unfold p_House_feed p_Tape_hasRoom
      rw [ht.2.1, if_neg (show ¬ (300 : Int32) - nI t < 20 by
        rw [show (300 : Int32) - nI t = nI (300 - t) from pk_sub (a := 300) (by omega)]
        exact nI_nlt (b := 20) (by omega) (by omega)), bind1_s, if_neg one_ne, e1, bind1_s, e2, bind1_s, e3, bind1_s, e4, bind1_s, e5, bind1_s]
      show some (gM a5 7 1, a5) = _
      rw [h5.2.1, h5.2.2.1]
    · unfold p_Model_feed
      rw [ht.2.2.1, if_pos (show nI t + (20 : Int32) ≤ 300 by rw [show (20 : Int32) = nI 20 from rfl, nI_add]; exact nI_le (b := 300) (by omega) (by omega)), f1, bind1_s, f2, bind1_s, f3, bind1_s, f4, bind1_s, f5, bind1_s]
    · exact ⟨n, ho, pa, pr, ye, ki, np, st, kd, sz, vt, lm, dn, BL, hc, hX.fr (fun c h1 h2 => P.2.2 c (by omega) (by omega)) (by rw [P.2.1]), hY.fr (Q.2.2 0 (by omega)) (Q.2.2 5 (by omega)) (fun c h1 h2 => Q.2.1 c (by omega) (by omega)), ⟨t + 4 + 4 + 4 + 4 + 4, v5, h5⟩, hL.fr (P.2.2 10 (by omega) (by omega)) (P.2.2 11 (by omega) (by omega)) (Q.2.2 23 (by omega)) (Q.2.2 24 (by omega)) (Q.2.1 17 (by omega) (by omega)), hB.fr (P.2.2 12 (by omega) (by omega)) (P.2.2 13 (by omega) (by omega)) (Q.2.2 33 (by omega)) (Q.2.2 34 (by omega)) (Q.2.2 35 (by omega)) (Q.2.2 36 (by omega)) (Q.2.1 19 (by omega) (by omega)), hO.fr P.1 (fun c _ _ => by rw [P.2.1]) (by rw [P.2.2 29 (by omega) (by omega)]) (Q.2.2 46 (by omega)) (by rw [Q.1]), hp, hP.fr hO.2.1 P.1 (fun c h1 h2 => P.2.2 c (by omega) (by omega)) (Q.2.2 9 (by omega)) (Q.2.1 7 (by omega) (by omega)) (Q.2.1 8 (by omega) (by omega)) (Q.2.1 9 (by omega) (by omega)) (Q.2.1 10 (by omega) (by omega)), hS.fr hP.2.1 (by rw [P.2.2 14 (by omega) (by omega)]) (by rw [P.2.2 14 (by omega) (by omega)]) (P.2.2 16 (by omega) (by omega)) (fun c h1 h2 => P.2.2 c (by omega) (by omega)) (Q.2.2 18 (by omega)) (Q.2.2 21 (by omega)) (Q.2.1 15 (by omega) (by omega)) (Q.2.1 16 (by omega) (by omega))⟩
  · refine ⟨-1, a, b, ?_, ?_, hR⟩
    · unfold p_House_feed p_Tape_hasRoom
      have h0 := ht.1
      rw [ht.2.1, if_pos (show (300 : Int32) - nI t < 20 by
        rw [show (300 : Int32) - nI t = nI (300 - t) from pk_sub (a := 300) (by omega)]
        exact nI_lt (b := 20) (by omega) (by omega)), bind1_s, if_pos (show (0 : Int32) = 0 from rfl)]
    · unfold p_Model_feed
      have h0 := ht.1
      rw [ht.2.2.1, if_neg (show ¬ nI t + (20 : Int32) ≤ 300 by rw [show (20 : Int32) = nI 20 from rfl, nI_add]; exact nI_ge (a := 300) (by omega) (by omega))]
