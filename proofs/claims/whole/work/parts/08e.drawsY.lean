/-! ALL SETS OF A DRAW: the reference's run -/
section DRAWY
variable {n w0 : Nat} {h : Nat → Nat}
theorem pow_40 {x : Nat} (hx : x ≤ 40) : 2 ^ x ≤ 1099511627776 := Nat.le_trans (Nat.pow_le_pow_right (by omega) hx) (by decide)
theorem bin2 {x y p q : Nat} (hs : x + y ≤ 40) : bin x p * bin y q ≤ 1099511627776 := by
  have h1 := Nat.mul_le_mul (bin_2 x p) (bin_2 y q)
  rw [← Nat.pow_add] at h1
  exact Nat.le_trans h1 (pow_40 hs)
theorem bin4 {x y z u p q r t : Nat} (hs : x + y + z + u ≤ 40) : bin x p * bin y q * (bin z r * bin u t) ≤ 1099511627776 := by
  have h1 := Nat.mul_le_mul (Nat.mul_le_mul (bin_2 x p) (bin_2 y q)) (Nat.mul_le_mul (bin_2 z r) (bin_2 u t))
  rw [← Nat.pow_add, ← Nat.pow_add, ← Nat.pow_add] at h1
  exact Nat.le_trans h1 (pow_40 (by omega))
/-- one set's number of ways is below all -/
theorem term_le {h0 h1 h2 h3 n a b c : Nat} (habc : a + b + c ≤ n) : bin h0 a * bin h1 b * (bin h2 c * bin h3 (n - a - b - c)) ≤ bin (h0 + (h1 + (h2 + h3))) n := by
  have e1 := vand_t h2 h3 (n := n - a - b) (i := c) (by omega)
  have e2 := vand_t h1 (h2 + h3) (n := n - a) (i := b) (by omega)
  have e3 := vand_t h0 (h1 + (h2 + h3)) (n := n) (i := a) (by omega)
  have f1 := Nat.mul_le_mul_left (bin h1 b) e1
  have f2 := Nat.mul_le_mul_left (bin h0 a) (Nat.le_trans f1 e2)
  rw [Nat.mul_assoc]
  exact Nat.le_trans f2 e3
theorem Y_cloop {a b n' : Nat} (hn : n ≤ 40) (hs : h 0 + h 1 + h 2 + h 3 ≤ 40) (habn : a + b + n' = n) (hw0 : w0 ≤ 1000000000000000) (hw : w0 * bin (h 0 + (h 1 + (h 2 + h 3))) n ≤ 1000000000000000) (c23 : Int32 → XS → Option (Int32 × XS)) : ∀ (m c f : Nat) (T : TT) (t : XS), c + m = mn n' (h 2) + 1 → m < f → VT n T → TYn T t → ∃ t', FY2 t t' ∧ ((cloop a b (h 2) (h 3) n' (w0 * bin (h 0) a * bin (h 1) b) (mn n' (h 2) + 1 - (if c < n' - h 3 then n' - h 3 else c)) (if c < n' - h 3 then n' - h 3 else c) T = none ∧ lo2 (p_Model_drawn_B46 (nI (cd4 (h 0) (h 1) (h 2) (h 3))) (lN w0) (nI n) (nI a) (nI b) c23) f (nI c) t = some (0, t')) ∨ ∃ T', cloop a b (h 2) (h 3) n' (w0 * bin (h 0) a * bin (h 1) b) (mn n' (h 2) + 1 - (if c < n' - h 3 then n' - h 3 else c)) (if c < n' - h 3 then n' - h 3 else c) T = some T' ∧ lo2 (p_Model_drawn_B46 (nI (cd4 (h 0) (h 1) (h 2) (h 3))) (lN w0) (nI n) (nI a) (nI b) c23) f (nI c) t = c23 (nI (b + 1)) t' ∧ TYn T' t') := by
  have hp := Y_parts (a := h 0) (b := h 1) (c := h 2) (d := h 3) (by omega) (by omega) (by omega) (by omega)
  have hmn := mn_c n' (h 2)
  intro m
  induction m with
  | zero =>
    intro c f T t hm hf hV hT
    obtain ⟨f, rfl⟩ : ∃ g, f = g + 1 := ⟨f - 1, by omega⟩
    have e0 : mn n' (h 2) + 1 - (if c < n' - h 3 then n' - h 3 else c) = 0 := by split <;> omega
    refine ⟨t, ⟨fun _ _ _ => rfl, fun _ _ => rfl, fun _ _ => rfl⟩, Or.inr ⟨T, by rw [e0]; rfl, ?_, hT⟩⟩
    show p_Model_drawn_B46 _ _ _ _ _ _ _ (nI c) t = _
    unfold p_Model_drawn_B46
    rw [hp.2.2.1, bind1_s, nI_1]
    by_cases e1 : h 2 < c
    · rw [if_pos (nI_lt e1 (by omega))]
    · rw [if_neg (nI_nlt (by omega) (by omega)), nI_add, nI_add, if_pos (nI_lt (by omega) (by omega))]
  | succ m ih =>
    intro c f T t hm hf hV hT
    obtain ⟨f, rfl⟩ : ∃ g, f = g + 1 := ⟨f - 1, by omega⟩
    show ∃ t', _ ∧ ((_ ∧ p_Model_drawn_B46 (nI (cd4 (h 0) (h 1) (h 2) (h 3))) (lN w0) (nI n) (nI a) (nI b) c23 (lo2 (p_Model_drawn_B46 (nI (cd4 (h 0) (h 1) (h 2) (h 3))) (lN w0) (nI n) (nI a) (nI b) c23) f) (nI c) t = _) ∨ ∃ T', _ ∧ p_Model_drawn_B46 (nI (cd4 (h 0) (h 1) (h 2) (h 3))) (lN w0) (nI n) (nI a) (nI b) c23 (lo2 (p_Model_drawn_B46 (nI (cd4 (h 0) (h 1) (h 2) (h 3))) (lN w0) (nI n) (nI a) (nI b) c23) f) (nI c) t = _ ∧ _)
    have ih := fun T t => ih (c + 1) f T t (by omega) (by omega)
    generalize lo2 (p_Model_drawn_B46 (nI (cd4 (h 0) (h 1) (h 2) (h 3))) (lN w0) (nI n) (nI a) (nI b) c23) f = K at ih ⊢
    have ed : ((nI n - nI a) - nI b) - nI c = nI (n' - c) := by rw [nI_sub (by omega), nI_sub (by omega), nI_sub (by omega), show n - a - b - c = n' - c by omega]
    by_cases ec : c < n' - h 3
    · -- passed over
      have eB : p_Model_drawn_B46 (nI (cd4 (h 0) (h 1) (h 2) (h 3))) (lN w0) (nI n) (nI a) (nI b) c23 K (nI c) t = K (nI (c + 1)) t := by
        unfold p_Model_drawn_B46
        rw [hp.2.2.1, bind1_s, if_neg (nI_nlt (by omega) (by omega)), nI_add, nI_add, if_neg (nI_nlt (by omega) (by omega)), hp.2.2.2, bind1_s, ed, if_neg (nI_ge (by omega) (by omega)), nI_1]
      have h1 := ih T t hV hT
      have e2 : (if c + 1 < n' - h 3 then n' - h 3 else c + 1) = (if c < n' - h 3 then n' - h 3 else c) := by
        rw [if_pos ec]; split <;> omega
      rw [e2] at h1
      rw [eB]
      exact h1
    · have ein : (if c < n' - h 3 then n' - h 3 else c) = c := if_neg ec
      have e1n : (if c + 1 < n' - h 3 then n' - h 3 else c + 1) = c + 1 := if_neg (by omega)
      rw [ein]
      rw [e1n] at ih
      have hb0 := bin_40 (n := h 0) a (by omega)
      have hb1 := bin_40 (n := h 1) b (by omega)
      have hb2 := bin_40 (n := h 2) c (by omega)
      have hb3 := bin_40 (n := h 3) (n' - c) (by omega)
      have hb01 := bin2 (x := h 0) (y := h 1) (p := a) (q := b) (by omega)
      have hb23 := bin2 (x := h 2) (y := h 3) (p := c) (q := n' - c) (by omega)
      have hb4 := bin4 (x := h 0) (y := h 1) (z := h 2) (u := h 3) (p := a) (q := b) (r := c) (t := n' - c) (by omega)
      have ht : w0 * (bin (h 0) a * bin (h 1) b * (bin (h 2) c * bin (h 3) (n' - c))) ≤ 1000000000000000 := by
        have := term_le (h0 := h 0) (h1 := h 1) (h2 := h 2) (h3 := h 3) (n := n) (a := a) (b := b) (c := c) (by omega)
        rw [show n - a - b - c = n' - c by omega] at this
        exact Nat.le_trans (Nat.mul_le_mul_left w0 this) hw
      have eW : w0 * (bin (h 0) a * bin (h 1) b * (bin (h 2) c * bin (h 3) (n' - c))) = w0 * bin (h 0) a * bin (h 1) b * bin (h 2) c * bin (h 3) (n' - c) := by
        rw [← Nat.mul_assoc, ← Nat.mul_assoc, ← Nat.mul_assoc]
      have eB : p_Model_drawn_B46 (nI (cd4 (h 0) (h 1) (h 2) (h 3))) (lN w0) (nI n) (nI a) (nI b) c23 K (nI c) t = bind2 (p_Model_comes (nI (cd4 a b c (n' - c))) (lN (w0 * bin (h 0) a * bin (h 1) b * bin (h 2) c * bin (h 3) (n' - c))) t) (fun r47 s48 => (if r47 = 0 then some ((0 : Int32), s48) else K (nI c + (1 : Int32)) s48)) := by
        unfold p_Model_drawn_B46
        rw [hp.2.2.1, bind1_s, if_neg (nI_nlt (by omega) (by omega)), nI_add, nI_add, if_neg (nI_nlt (by omega) (by omega)), hp.2.2.2, bind1_s, ed, if_pos (nI_le (by omega) (by omega)), hp.1, bind1_s, Y_sets (by omega) (by omega), bind1_s, hp.2.1, bind1_s, Y_sets (by omega) (by omega), bind1_s, Y_times (by omega) (by omega), if_pos (by omega), bind1_s, bind1_s, Y_sets (by omega) (by omega), bind1_s, bind1_s, Y_sets (by omega) (by omega), bind1_s, Y_times (by omega) (by omega), if_pos (by omega), bind1_s, Y_times (by omega) (by omega), if_pos (by omega), bind1_s, Y_times hw0 (by omega), if_pos ht, bind1_s, Y_code (by omega) (by omega) (by omega) (by omega), eW]
      rw [eB, show mn n' (h 2) + 1 - c = m + 1 by omega]
      unfold cloop
      rcases Y_comes hn hV hT (c := cd4 a b c (n' - c)) ⟨a, b, c, n' - c, by omega, rfl⟩ (w0 * bin (h 0) a * bin (h 1) b * bin (h 2) c * bin (h 3) (n' - c)) with ⟨z1, z2⟩ | ⟨T1, t1, z1, z2, z3, z4⟩
      · rw [z1, z2, bind2_s, if_pos rfl]
        exact ⟨_, ⟨fun _ _ _ => rfl, fun _ _ => rfl, fun _ _ => rfl⟩, Or.inl ⟨rfl, rfl⟩⟩
      · rw [z1, z2, bind2_s, if_neg one_ne, nI_1]
        have hV1 := (tadd_v hV ⟨a, b, c, n' - c, by omega, rfl⟩ z1).1
        obtain ⟨t2, y1, y2⟩ := ih T1 t1 hV1 z3
        rw [show mn n' (h 2) + 1 - (c + 1) = m by omega] at y2
        exact ⟨t2, z4.tr y1, y2⟩
theorem Y_bloop {a n' : Nat} (hn : n ≤ 40) (hs : h 0 + h 1 + h 2 + h 3 ≤ 40) (han : a + n' = n) (hw0 : w0 ≤ 1000000000000000) (hw : w0 * bin (h 0 + (h 1 + (h 2 + h 3))) n ≤ 1000000000000000) (c3 : Int32 → XS → Option (Int32 × XS)) : ∀ (m b f : Nat) (T : TT) (t : XS), b + m = mn n' (h 1) + 1 → m < f → VT n T → TYn T t → ∃ t', FY2 t t' ∧ ((bloop a (h 1) (h 2) (h 3) n' (w0 * bin (h 0) a) m b T = none ∧ lo2 (p_Model_drawn_B23 (nI (cd4 (h 0) (h 1) (h 2) (h 3))) (lN w0) (nI n) (nI a) c3) f (nI b) t = some (0, t')) ∨ ∃ T', bloop a (h 1) (h 2) (h 3) n' (w0 * bin (h 0) a) m b T = some T' ∧ lo2 (p_Model_drawn_B23 (nI (cd4 (h 0) (h 1) (h 2) (h 3))) (lN w0) (nI n) (nI a) c3) f (nI b) t = c3 (nI (a + 1)) t' ∧ TYn T' t') := by
  have hp := Y_parts (a := h 0) (b := h 1) (c := h 2) (d := h 3) (by omega) (by omega) (by omega) (by omega)
  have hmn := mn_c n' (h 1)
  intro m
  induction m with
  | zero =>
    intro b f T t hm hf hV hT
    obtain ⟨f, rfl⟩ : ∃ g, f = g + 1 := ⟨f - 1, by omega⟩
    refine ⟨t, ⟨fun _ _ _ => rfl, fun _ _ => rfl, fun _ _ => rfl⟩, Or.inr ⟨T, rfl, ?_, hT⟩⟩
    show p_Model_drawn_B23 _ _ _ _ _ _ (nI b) t = _
    unfold p_Model_drawn_B23
    rw [hp.2.1, bind1_s, nI_1]
    by_cases e1 : h 1 < b
    · rw [if_pos (nI_lt e1 (by omega))]
    · rw [if_neg (nI_nlt (by omega) (by omega)), nI_add, if_pos (nI_lt (by omega) (by omega))]
  | succ m ih =>
    intro b f T t hm hf hV hT
    obtain ⟨f, rfl⟩ : ∃ g, f = g + 1 := ⟨f - 1, by omega⟩
    show ∃ t', _ ∧ ((_ ∧ p_Model_drawn_B23 (nI (cd4 (h 0) (h 1) (h 2) (h 3))) (lN w0) (nI n) (nI a) c3 (lo2 (p_Model_drawn_B23 (nI (cd4 (h 0) (h 1) (h 2) (h 3))) (lN w0) (nI n) (nI a) c3) f) (nI b) t = _) ∨ ∃ T', _ ∧ p_Model_drawn_B23 (nI (cd4 (h 0) (h 1) (h 2) (h 3))) (lN w0) (nI n) (nI a) c3 (lo2 (p_Model_drawn_B23 (nI (cd4 (h 0) (h 1) (h 2) (h 3))) (lN w0) (nI n) (nI a) c3) f) (nI b) t = _ ∧ _)
    have ih := fun T t => ih (b + 1) f T t (by omega) (by omega)
    generalize lo2 (p_Model_drawn_B23 (nI (cd4 (h 0) (h 1) (h 2) (h 3))) (lN w0) (nI n) (nI a) c3) f = K at ih ⊢
    have hm2 := mn_c (n' - b) (h 2)
    unfold p_Model_drawn_B23 bloop
    rw [hp.2.1, bind1_s, if_neg (nI_nlt (by omega) (by omega)), nI_add, if_neg (nI_nlt (by omega) (by omega))]
    obtain ⟨t1, y1, y4⟩ := Y_cloop (a := a) (b := b) (n' := n' - b) hn hs (by omega) hw0 hw K (mn (n' - b) (h 2) + 1) 0 fuelN T t (by omega) (by unfold fuelN; omega) hV hT
    have e2 : (if 0 < n' - b - h 3 then n' - b - h 3 else 0) = n' - b - h 3 := by split <;> omega
    rw [e2] at y4
    rcases y4 with ⟨z1, z2⟩ | ⟨T1, z1, z2, z3⟩
    · rw [z1]
      exact ⟨t1, y1, Or.inl ⟨rfl, z2⟩⟩
    · rw [z1]
      have hV1 := (cloop_s (n := n) (show a + b + (n' - b) = n by omega) (by omega) hV z1).1
      obtain ⟨t2, u1, u2⟩ := ih T1 t1 hV1 z3
      refine ⟨t2, y1.tr u1, ?_⟩
      rcases u2 with ⟨w1, w2⟩ | ⟨T2, w1, w2, w3⟩
      · exact Or.inl ⟨w1, z2.trans w2⟩
      · exact Or.inr ⟨T2, w1, z2.trans w2, w3⟩
theorem Y_aloop (hn : n ≤ 40) (hs : h 0 + h 1 + h 2 + h 3 ≤ 40) (hw0 : w0 ≤ 1000000000000000) (hw : w0 * bin (h 0 + (h 1 + (h 2 + h 3))) n ≤ 1000000000000000) : ∀ (m a f : Nat) (T : TT) (t : XS), a + m = mn n (h 0) + 1 → m < f → VT n T → TYn T t → ∃ t', FY2 t t' ∧ ((aloop (h 0) (h 1) (h 2) (h 3) n w0 m a T = none ∧ lo2 (p_Model_drawn_B3 (nI (cd4 (h 0) (h 1) (h 2) (h 3))) (lN w0) (nI n)) f (nI a) t = some (0, t')) ∨ ∃ T', aloop (h 0) (h 1) (h 2) (h 3) n w0 m a T = some T' ∧ lo2 (p_Model_drawn_B3 (nI (cd4 (h 0) (h 1) (h 2) (h 3))) (lN w0) (nI n)) f (nI a) t = some (1, t') ∧ TYn T' t') := by
  have hp := Y_parts (a := h 0) (b := h 1) (c := h 2) (d := h 3) (by omega) (by omega) (by omega) (by omega)
  have hmn := mn_c n (h 0)
  intro m
  induction m with
  | zero =>
    intro a f T t hm hf hV hT
    obtain ⟨f, rfl⟩ : ∃ g, f = g + 1 := ⟨f - 1, by omega⟩
    refine ⟨t, ⟨fun _ _ _ => rfl, fun _ _ => rfl, fun _ _ => rfl⟩, Or.inr ⟨T, rfl, ?_, hT⟩⟩
    show p_Model_drawn_B3 _ _ _ _ (nI a) t = _
    unfold p_Model_drawn_B3
    rw [hp.1, bind1_s]
    by_cases e1 : h 0 < a
    · rw [if_pos (nI_lt e1 (by omega))]
    · rw [if_neg (nI_nlt (by omega) (by omega)), if_pos (nI_lt (by omega) (by omega))]
  | succ m ih =>
    intro a f T t hm hf hV hT
    obtain ⟨f, rfl⟩ : ∃ g, f = g + 1 := ⟨f - 1, by omega⟩
    show ∃ t', _ ∧ ((_ ∧ p_Model_drawn_B3 (nI (cd4 (h 0) (h 1) (h 2) (h 3))) (lN w0) (nI n) (lo2 (p_Model_drawn_B3 (nI (cd4 (h 0) (h 1) (h 2) (h 3))) (lN w0) (nI n)) f) (nI a) t = _) ∨ ∃ T', _ ∧ p_Model_drawn_B3 (nI (cd4 (h 0) (h 1) (h 2) (h 3))) (lN w0) (nI n) (lo2 (p_Model_drawn_B3 (nI (cd4 (h 0) (h 1) (h 2) (h 3))) (lN w0) (nI n)) f) (nI a) t = _ ∧ _)
    have ih := fun T t => ih (a + 1) f T t (by omega) (by omega)
    generalize lo2 (p_Model_drawn_B3 (nI (cd4 (h 0) (h 1) (h 2) (h 3))) (lN w0) (nI n)) f = K at ih ⊢
    have hm2 := mn_c (n - a) (h 1)
    unfold p_Model_drawn_B3 aloop
    rw [hp.1, bind1_s, if_neg (nI_nlt (by omega) (by omega)), if_neg (nI_nlt (by omega) (by omega))]
    obtain ⟨t1, y1, y4⟩ := Y_bloop (a := a) (n' := n - a) hn hs (by omega) hw0 hw K (mn (n - a) (h 1) + 1) 0 fuelN T t (by omega) (by unfold fuelN; omega) hV hT
    rcases y4 with ⟨z1, z2⟩ | ⟨T1, z1, z2, z3⟩
    · rw [z1]
      exact ⟨t1, y1, Or.inl ⟨rfl, z2⟩⟩
    · rw [z1]
      have hV1 := (bloop_s (n := n) (show a + (n - a) = n by omega) (by omega) hV z1).1
      obtain ⟨t2, u1, u2⟩ := ih T1 t1 hV1 z3
      refine ⟨t2, y1.tr u1, ?_⟩
      rcases u2 with ⟨w1, w2⟩ | ⟨T2, w1, w2, w3⟩
      · exact Or.inl ⟨w1, z2.trans w2⟩
      · exact Or.inr ⟨T2, w1, z2.trans w2, w3⟩
theorem Y_drawn (hn : n ≤ 40) (hs : h 0 + h 1 + h 2 + h 3 ≤ 40) (hw0 : w0 ≤ 1000000000000000) (hw : w0 * bin (h 0 + (h 1 + (h 2 + h 3))) n ≤ 1000000000000000) {T : TT} {t : XS} (hV : VT n T) (hT : TYn T t) : ∃ t', FY2 t t' ∧ ((adraw h n w0 T = none ∧ p_Model_drawn (nI (cd4 (h 0) (h 1) (h 2) (h 3))) (lN w0) (nI n) t = some (0, t')) ∨ ∃ T', adraw h n w0 T = some T' ∧ p_Model_drawn (nI (cd4 (h 0) (h 1) (h 2) (h 3))) (lN w0) (nI n) t = some (1, t') ∧ TYn T' t') :=
  Y_aloop hn hs hw0 hw _ 0 fuelN T t (by omega) (by have := mn_c n (h 0); unfold fuelN; omega) hV hT
end DRAWY
