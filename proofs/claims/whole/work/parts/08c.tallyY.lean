/-! THE REFERENCE'S TALLY; parts of a code -/
theorem or_sum {a b k : Nat} (h : a < 2 ^ k) (h2 : 2 ^ k * b + a < 2 ^ 31) : nI a ||| nI (b * 2 ^ k) = nI (a + 2 ^ k * b) := by
  apply Int32.toBitVec_inj.mp
  apply BitVec.eq_of_toNat_eq
  have hb : b * 2 ^ k < 2 ^ 32 := by rw [Nat.mul_comm]; omega
  rw [Int32.toBitVec_or, BitVec.toNat_or, pk_tn (by omega), pk_tn hb, pk_tn (by omega), Nat.or_comm, Nat.mul_comm b, ← Nat.two_pow_add_eq_or_of_lt h]
  omega
theorem Y_part {x : Nat} (hx : x < 2 ^ 31) : p_Model_partOf (nI x) 0 = some (nI (x % 64)) ∧ p_Model_partOf (nI x) 1 = some (nI (x / 64 % 64)) ∧ p_Model_partOf (nI x) 2 = some (nI (x / 4096 % 64)) ∧ p_Model_partOf (nI x) 3 = some (nI (x / 262144 % 64)) := by
  have h1 := Nat.div_le_self x (2 ^ 0)
  have h2 := Nat.div_le_self x (2 ^ 6)
  have h3 := Nat.div_le_self x (2 ^ 12)
  have h4 := Nat.div_le_self x (2 ^ 18)
  unfold p_Model_partOf
  refine ⟨?_, ?_, ?_, ?_⟩
  · rw [pk_shrN hx _ 0 (by decide), pk_andN (by omega) 6 (by decide), Nat.pow_zero, Nat.div_one]
  · rw [pk_shrN hx _ 6 (by decide), pk_andN (by omega) 6 (by decide)]
  · rw [pk_shrN hx _ 12 (by decide), pk_andN (by omega) 6 (by decide)]
  · rw [pk_shrN hx _ 18 (by decide), pk_andN (by omega) 6 (by decide)]
theorem Y_parts {a b c d : Nat} (ha : a ≤ 40) (hb : b ≤ 40) (hc : c ≤ 40) (hd : d ≤ 40) : p_Model_partOf (nI (cd4 a b c d)) 0 = some (nI a) ∧ p_Model_partOf (nI (cd4 a b c d)) 1 = some (nI b) ∧ p_Model_partOf (nI (cd4 a b c d)) 2 = some (nI c) ∧ p_Model_partOf (nI (cd4 a b c d)) 3 = some (nI d) := by
  have h := Y_part (x := cd4 a b c d) (by unfold cd4; omega)
  have hp := cd_parts (a := a) (b := b) (c := c) (d := d) (by omega) (by omega) (by omega) (by omega)
  rw [hp.1, hp.2.1, hp.2.2.1, hp.2.2.2] at h
  exact h
theorem Y_code {a b c d : Nat} (ha : a ≤ 40) (hb : b ≤ 40) (hc : c ≤ 40) (hd : d ≤ 40) : ((nI a ||| (nI b <<< ((6 : Int32) &&& 31))) ||| (nI c <<< ((12 : Int32) &&& 31))) ||| (nI d <<< ((18 : Int32) &&& 31)) = nI (cd4 a b c d) := by
  rw [pk_shlN (n := b) _ 6 (by decide) (by omega), pk_shlN (n := c) _ 12 (by decide) (by omega), pk_shlN (n := d) _ 18 (by decide) (by omega), or_sum (k := 6) (by omega) (by omega), or_sum (k := 12) (by omega) (by omega), or_sum (k := 18) (by omega) (by omega)]
  rfl
def TYn (T : TT) (b : XS) : Prop := gM b 0 42 = nI T.1 ∧ ∀ i, i < T.1 → gM b 23 i = nI (T.2.1 i) ∧ gJ b 24 i = lN (T.2.2 i)
def FY2 (b b' : XS) : Prop := (∀ c, ¬ c = 0 → ¬ c = 23 → gM b' c = gM b c) ∧ (∀ j, ¬ j = 42 → gM b' 0 j = gM b 0 j) ∧ ∀ c, ¬ c = 24 → gJ b' c = gJ b c
theorem FY2.tr {a b c : XS} (h : FY2 a b) (h2 : FY2 b c) : FY2 a c := ⟨fun x z w => (h2.1 x z w).trans (h.1 x z w), fun j z => (h2.2.1 j z).trans (h.2.1 j z), fun x z => (h2.2.2 x z).trans (h.2.2 x z)⟩
theorem Y_comes {n : Nat} {T : TT} {b : XS} (hn : n ≤ 40) (hV : VT n T) (hT : TYn T b) {c : Nat} (hc : vc n c) (w : Nat) : (tadd T c w = none ∧ p_Model_comes (nI c) (lN w) b = some (0, b)) ∨ ∃ T' b', tadd T c w = some T' ∧ p_Model_comes (nI c) (lN w) b = some (1, b') ∧ TYn T' b' ∧ FY2 b b' := by
  obtain ⟨h1, h2⟩ := hT
  have h600 := hV.1
  have hcb := (ck_b hn hc).2
  have hkb : ∀ i, i < T.1 → T.2.1 i < 16777216 := fun i hi => (ck_b hn (hV.2.1 i hi)).2
  have hfb := fnd_b T.2.1 c T.1 0
  have key : ∀ (m i f : Nat), i + m = T.1 → m < f → lo1 (p_Model_comes_B3 (nI c) (lN w) b) f (nI i) = p_Model_comes_K29 (nI c) (lN w) (nI (fnd T.2.1 c m i)) b := by
    intro m
    induction m with
    | zero =>
      intro i f hi hf
      obtain ⟨f, rfl⟩ : ∃ g, f = g + 1 := ⟨f - 1, by omega⟩
      show p_Model_comes_B3 _ _ _ _ (nI i) = _
      unfold p_Model_comes_B3
      rw [h1, if_pos (nI_le (by omega) (by omega))]; rfl
    | succ m ih =>
      intro i f hi hf
      obtain ⟨f, rfl⟩ : ∃ g, f = g + 1 := ⟨f - 1, by omega⟩
      have ih := ih (i + 1) f (by omega) (by omega)
      have hk := hkb i (by omega)
      show p_Model_comes_B3 _ _ _ (lo1 (p_Model_comes_B3 (nI c) (lN w) b) f) (nI i) = _
      generalize lo1 (p_Model_comes_B3 (nI c) (lN w) b) f = K at ih ⊢
      unfold p_Model_comes_B3
      rw [h1, if_neg (nI_ge (by omega) (by omega)), if_pos (gIn_t (show i < 601 by omega) (by omega)), ix_nI (by omega), (h2 i (by omega)).1, nI_1]
      by_cases e : T.2.1 i = c
      · rw [if_pos (by rw [e]), show fnd T.2.1 c (m + 1) i = i from if_pos e]
      · rw [if_neg (fun z => e ((nI_eq (by omega) (by omega)).mp z)), show fnd T.2.1 c (m + 1) i = fnd T.2.1 c m (i + 1) from if_neg e]
        exact ih
  have k0 := key T.1 0 fuelN (by omega) (by unfold fuelN; omega)
  have k0 : p_Model_comes (nI c) (lN w) b = p_Model_comes_K29 (nI c) (lN w) (nI (fnd T.2.1 c T.1 0)) b := k0
  rw [k0]
  have g6 : gIn (nI (fnd T.2.1 c T.1 0)) 601 = true := gIn_t (by omega) (by omega)
  unfold p_Model_comes_K29 p_Model_comes_K76
  rw [h1, ix_nI (by omega)]
  by_cases e1 : fnd T.2.1 c T.1 0 < T.1
  · have e2 := h2 _ e1
    refine Or.inr ⟨_, sJ b 24 (fnd T.2.1 c T.1 0) (lN (T.2.2 (fnd T.2.1 c T.1 0) + w)), if_pos e1, ?_, ⟨h1, fun i hi => ⟨(h2 i hi).1, ?_⟩⟩, ⟨fun _ _ _ => rfl, fun _ _ => rfl, fun x hx => gJ_o hx⟩⟩
    · rw [if_neg (fun z => by have := (nI_eq (by omega) (by omega)).mp z; omega), if_pos g6, if_pos g6, e2.2, lN_add, lq_e]
    · show gJ (sJ b 24 (fnd T.2.1 c T.1 0) _) 24 i = lN (if i = fnd T.2.1 c T.1 0 then T.2.2 i + w else T.2.2 i)
      rw [gJ_sJ, if_pos rfl]
      by_cases ei : i = fnd T.2.1 c T.1 0
      · rw [if_pos ei, if_pos ei, ei]
      · rw [if_neg ei, if_neg ei]; exact (h2 i hi).2
  · have ef : fnd T.2.1 c T.1 0 = T.1 := by omega
    rw [ef] at g6
    rw [ef, if_pos rfl]
    by_cases e6 : T.1 = 600
    · exact Or.inl ⟨by unfold tadd; rw [if_neg e1, if_pos e6], by rw [if_pos (show nI T.1 = (600 : Int32) by rw [e6]; rfl)]⟩
    · refine Or.inr ⟨_, sJ (sM (sJ (sM b 23 T.1 (nI c)) 24 T.1 0) 0 42 (nI (T.1 + 1))) 24 T.1 (lN w), by unfold tadd; rw [if_neg e1, if_neg e6], ?_, ⟨rfl, fun i hi => ⟨?_, ?_⟩⟩, ⟨fun x z1 z2 => ?_, fun j hj => ?_, fun x hx => (gJ_o hx).trans (gJ_o (c0 := 24) hx)⟩⟩
      · rw [if_neg (show ¬ nI T.1 = (600 : Int32) from fun z => by have := (nI_eq (b := 600) (by omega) (by omega)).mp z; omega), if_pos g6, lq_e, if_pos g6, lq_e, lq_e, if_pos g6, if_pos g6]
        have r1 : gM (sJ (sM b 23 T.1 (nI c)) 24 T.1 0) 0 42 = nI T.1 := h1
        rw [r1, nI_1]
        have r2 : gJ (sM (sJ (sM b 23 T.1 (nI c)) 24 T.1 0) 0 42 (nI (T.1 + 1))) 24 T.1 = lN 0 := by
          show gJ (sJ (sM b 23 T.1 (nI c)) 24 T.1 0) 24 T.1 = _
          rw [gJ_sJ, if_pos rfl, if_pos rfl]; rfl
        rw [r2, lN_add, Nat.zero_add, lq_e]
      · have hi : i < T.1 + 1 := hi
        show gM (sM b 23 T.1 (nI c)) 23 i = nI (if i = T.1 then c else T.2.1 i)
        rw [gM_sM, if_pos rfl]
        by_cases ei : i = T.1
        · rw [if_pos ei, if_pos ei]
        · rw [if_neg ei, if_neg ei]; exact (h2 i (by omega)).1
      · have hi : i < T.1 + 1 := hi
        show gJ (sJ (sM (sJ (sM b 23 T.1 (nI c)) 24 T.1 0) 0 42 (nI (T.1 + 1))) 24 T.1 (lN w)) 24 i = lN (if i = T.1 then w else T.2.2 i)
        rw [gJ_sJ, if_pos rfl]
        by_cases ei : i = T.1
        · rw [if_pos ei, if_pos ei]
        · rw [if_neg ei, if_neg ei]
          show gJ (sJ (sM b 23 T.1 (nI c)) 24 T.1 0) 24 i = _
          rw [gJ_sJ, if_pos rfl, if_neg ei]; exact (h2 i (by omega)).2
      · show gM (sM (sJ (sM b 23 T.1 (nI c)) 24 T.1 0) 0 42 (nI (T.1 + 1))) x = _
        rw [gM_o z1]
        exact gM_o (c0 := 23) z2
      · show gM (sM (sJ (sM b 23 T.1 (nI c)) 24 T.1 0) 0 42 (nI (T.1 + 1))) 0 j = _
        rw [gM_sM, if_pos rfl, if_neg hj]; rfl
