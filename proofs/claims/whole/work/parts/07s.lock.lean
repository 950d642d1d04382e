/-! READING in lockstep: words, numbers, faults -/
theorem bind2_id {α β : Type} (x : Option (α × β)) : bind2 x (fun r s => some (r, s)) = x := by cases x <;> rfl
theorem wc_len {v : Nat → Nat} {p q k : Nat} (h : isW v p q k = true) : q - p = gl k := by
  unfold isW at h
  rw [Bool.and_eq_true] at h
  exact of_decide_eq_true h.1
theorem wc_first {v : Nat → Nat} {p q k : Nat} (hk : k < 5) (h : isW v p q k = true) : v p = gw k 0 := by
  unfold isW at h
  rw [Bool.and_eq_true] at h
  have h2 := h.2
  have hg := gl_n k hk
  obtain ⟨m, hm⟩ : ∃ m, gl k = m + 1 := ⟨gl k - 1, by omega⟩
  rw [hm] at h2
  have h2 : ((v (p + 0) == gw k 0) && mt v (gw k) p m (0 + 1)) = true := h2
  rw [Bool.and_eq_true] at h2
  simpa using h2.1
theorem gl_ne : ∀ j, j < 5 → ∀ k, k < 5 → ¬ j = k → gl j = gl k → ¬ gw j 0 = gw k 0 := by decide +kernel
theorem wx {v : Nat → Nat} {p q j k : Nat} (hj : j < 5) (hk : k < 5) (h : ¬ j = k) (h1 : isW v p q j = true) : isW v p q k = false := by
  cases h2 : isW v p q k with
  | false => rfl
  | true =>
    have a := wc_len h1
    have b := wc_len h2
    exact absurd ((wc_first hj h1).symm.trans (wc_first hk h2)) (gl_ne j hj k hk h (by omega))
theorem wcases (v : Nat → Nat) (p q : Nat) : (wcode v p q = 1 ∧ isW v p q 0 = true ∧ isW v p q 1 = false ∧ isW v p q 2 = false) ∨ (wcode v p q = 2 ∧ isW v p q 0 = false ∧ isW v p q 1 = true ∧ isW v p q 2 = false) ∨ (wcode v p q = 3 ∧ isW v p q 0 = false ∧ isW v p q 1 = false ∧ isW v p q 2 = true) ∨ ((wcode v p q = 0 ∨ wcode v p q = 4 ∨ wcode v p q = 5) ∧ isW v p q 0 = false ∧ isW v p q 1 = false ∧ isW v p q 2 = false) := by
  unfold wcode
  cases h0 : isW v p q 0 with
  | true =>
    rw [wx (show 0 < 5 by omega) (show 1 < 5 by omega) (by omega) h0, wx (show 0 < 5 by omega) (show 2 < 5 by omega) (by omega) h0]
    exact Or.inl ⟨rfl, rfl, rfl, rfl⟩
  | false =>
    cases h1 : isW v p q 1 with
    | true =>
      rw [wx (show 1 < 5 by omega) (show 2 < 5 by omega) (by omega) h1]
      exact Or.inr (Or.inl ⟨rfl, rfl, rfl, rfl⟩)
    | false =>
      cases h2 : isW v p q 2 with
      | true => exact Or.inr (Or.inr (Or.inl ⟨rfl, rfl, rfl, rfl⟩))
      | false =>
        refine Or.inr (Or.inr (Or.inr ⟨?_, rfl, rfl, rfl⟩))
        cases h3 : isW v p q 3 <;> cases h4 : isW v p q 4 <;> simp
theorem wc4 {v : Nat → Nat} {p q : Nat} : wcode v p q = 4 ↔ isW v p q 3 = true := by
  unfold wcode
  cases h3 : isW v p q 3 with
  | true => rw [wx (show 3 < 5 by omega) (show 0 < 5 by omega) (by omega) h3, wx (show 3 < 5 by omega) (show 1 < 5 by omega) (by omega) h3, wx (show 3 < 5 by omega) (show 2 < 5 by omega) (by omega) h3]; simp
  | false => cases isW v p q 0 <;> cases isW v p q 1 <;> cases isW v p q 2 <;> cases isW v p q 4 <;> simp
theorem wc5 {v : Nat → Nat} {p q : Nat} : wcode v p q = 5 ↔ isW v p q 4 = true := by
  unfold wcode
  cases h3 : isW v p q 4 with
  | true => rw [wx (show 4 < 5 by omega) (show 0 < 5 by omega) (by omega) h3, wx (show 4 < 5 by omega) (show 1 < 5 by omega) (by omega) h3, wx (show 4 < 5 by omega) (show 2 < 5 by omega) (by omega) h3, wx (show 4 < 5 by omega) (show 3 < 5 by omega) (by omega) h3]; simp
  | false => cases isW v p q 0 <;> cases isW v p q 1 <;> cases isW v p q 2 <;> cases isW v p q 3 <;> simp
theorem wc_le (v : Nat → Nat) (p q : Nat) : wcode v p q ≤ 5 := by
  unfold wcode
  repeat' split
  all_goals omega
theorem fl_0 (p k : Nat) : fl 0 p k = 1 + 8 * p + k := if_pos rfl
theorem fl_n {F : Nat} (h : ¬ F = 0) (p k : Nat) : fl F p k = F := if_neg h
section LOCK
variable {s t : XS} {tl : Nat} {v : Nat → Nat}
theorem num_sim (hX : TX s tl v) (hY : TY t tl v) {p : Nat} (hp : p ≤ tl) (h25 : gM t 0 25 = nI p) (h26 : gM t 0 26 = 0) {top met : Nat} (htop : top ≤ 40) (hmet : met ≤ 100) : (∃ F q t', ¬ F = 0 ∧ F < 3000 ∧ q ≤ tl ∧ p_Reader_takeNumber (nI top) (nI met) (rx s p 0) = some (0, rx s q F) ∧ p_Model_number (nI top) t = some (0, t') ∧ QG t t' ∧ gM t' 0 26 = nI F) ∨ (∃ N p1 q t', 1 ≤ N ∧ N ≤ top ∧ p1 ≤ tl ∧ q ≤ tl ∧ p_Reader_takeNumber (nI top) (nI met) (rx s p 0) = (if N ≤ met then some (nI N, rx s q 0) else some (0, rx s q (1 + 8 * p1 + 3))) ∧ p_Model_number (nI top) t = some (1, t') ∧ QF t t' ∧ gM t' 0 25 = nI q ∧ gM t' 0 27 = nI N ∧ gM t' 0 28 = nI p1) := by
  have h3 := hX.1
  have e := X_number hX hp (F := 0) (by omega) htop hmet
  have h1 := skp_b (v := v) hp
  have h2 := dge_b (v := v) h1.2
  rcases Y_number hY h25 h26 hp htop with ⟨z, t', y1, y2, y3, y4, y5⟩ | ⟨z, t', y1, y2, y3⟩
  · rw [if_pos z, fl_0] at e
    have hz : ¬ nv v (skp v tl p) (dge v tl (skp v tl p) - skp v tl p) < 1 ∧ ¬ top < nv v (skp v tl p) (dge v tl (skp v tl p) - skp v tl p) := by
      unfold nk0 at z
      split at z
      · omega
      · split at z
        · omega
        · omega
    exact Or.inr ⟨_, _, _, t', by omega, by omega, h1.2, h2.2, e, y1, y2, y3, y4, y5⟩
  · rw [if_neg z, fl_0] at e
    have hz : nk0 v top (skp v tl p) (dge v tl (skp v tl p)) ≤ 2 := by
      unfold nk0
      repeat' split
      all_goals omega
    exact Or.inl ⟨_, _, t', by omega, by omega, h2.2, e, y1, y2, y3⟩
theorem XF_num (hX : TX s tl v) {p : Nat} (hp : p ≤ tl) {F : Nat} (hF0 : ¬ F = 0) (hF : F < 3000) {top met : Nat} (htop : top ≤ 40) (hmet : met ≤ 100) : ∃ r q, q ≤ tl ∧ p_Reader_takeNumber (nI top) (nI met) (rx s p F) = some (r, rx s q F) := by
  have e := X_number hX hp hF htop hmet
  have h1 := skp_b (v := v) hp
  have h2 := dge_b (v := v) h1.2
  rw [fl_n hF0, fl_n hF0] at e
  refine (fun (x : ∃ r, p_Reader_takeNumber (nI top) (nI met) (rx s p F) = some (r, rx s (dge v tl (skp v tl p)) F)) => ⟨x.choose, _, h2.2, x.choose_spec⟩) ?_
  rw [e]
  split
  · split
    · exact ⟨_, rfl⟩
    · exact ⟨_, rfl⟩
  · exact ⟨_, rfl⟩
theorem X_votes_eq (hX : TX s tl v) {p : Nat} (hp : p ≤ tl) {F : Nat} (hF : F < 3000) {B : Nat} (hB : gM s 9 2 = nI B) : p_Reader_takeVotes (rx s p F) = if wcode v (skp v tl p) (wde v tl (skp v tl p)) = 4 then p_Reader_takeNumber (nI 40) (nI B) (rx s (wde v tl (skp v tl p)) F) else some (0, rx s (wde v tl (skp v tl p)) (fl F (skp v tl p) 0)) := by
  have h1 := skp_b (v := v) hp
  have hw := wc_le v (skp v tl p) (wde v tl (skp v tl p))
  unfold p_Reader_takeVotes
  rw [X_skip hX hp, bind1_s, X_word hX h1.2, bind2_s, rx_91, rx_92, hB, bind2_id]
  by_cases e : wcode v (skp v tl p) (wde v tl (skp v tl p)) = 4
  · rw [if_pos e, if_pos (by rw [e]; rfl)]; rfl
  · rw [if_neg e, if_neg (show ¬ _ = (4 : Int32) from fun z => e ((nI_eq (b := 4) (by omega) (by omega)).mp z))]
    have := X_fail s (wde v tl (skp v tl p)) F (skp v tl p) 0 hF
    rw [show (0 : Int32) = nI 0 from rfl, this, bind2_s]
theorem XF_votes (hX : TX s tl v) {p : Nat} (hp : p ≤ tl) {F : Nat} (hF0 : ¬ F = 0) (hF : F < 3000) {B : Nat} (hB : gM s 9 2 = nI B) (hB2 : B ≤ 100) : ∃ r q, q ≤ tl ∧ p_Reader_takeVotes (rx s p F) = some (r, rx s q F) := by
  have h1 := skp_b (v := v) hp
  have h2 := wde_b (v := v) h1.2
  rw [X_votes_eq hX hp hF hB, fl_n hF0]
  split
  · exact XF_num hX h2.2 hF0 hF (by omega) hB2
  · exact ⟨_, _, h2.2, rfl⟩
theorem X_house_eq (hX : TX s tl v) {p : Nat} (hp : p ≤ tl) {F : Nat} (hF : F < 3000) : p_Reader_takeHouseLimit (rx s p F) = if wde v tl (skp v tl p) = skp v tl p then some (0, rx s (skp v tl p) F) else if wcode v (skp v tl p) (wde v tl (skp v tl p)) = 5 then p_Reader_takeNumber (nI 9) (nI 9) (rx s (wde v tl (skp v tl p)) F) else some (0, rx s (wde v tl (skp v tl p)) (fl F (skp v tl p) 0)) := by
  have h1 := skp_b (v := v) hp
  have hw := wc_le v (skp v tl p) (wde v tl (skp v tl p))
  unfold p_Reader_takeHouseLimit
  rw [X_skip hX hp, bind1_s, rx_91]
  by_cases el : skp v tl p < tl
  · have hv := (hX.2.2 _ el).1
    have h0 := spn_0 (P := lt) (v := v) el
    rw [X_tat hX el, bind1_s, X_isLetter _ hv, bind1_s]
    cases e0 : lt (v (skp v tl p)) with
    | false => rw [if_pos (h0.mpr e0), if_pos (by rfl)]
    | true =>
      rw [if_neg (show ¬ wde v tl (skp v tl p) = skp v tl p from fun z => (by have := h0.mp z; rw [e0] at this; exact absurd this (by decide))), if_neg (show ¬ nI (if true = true then 1 else 0) = 0 by decide), X_word hX h1.2, bind2_s, bind2_id]
      by_cases e : wcode v (skp v tl p) (wde v tl (skp v tl p)) = 5
      · rw [if_pos e, if_pos (by rw [e]; rfl)]; rfl
      · rw [if_neg e, if_neg (show ¬ _ = (5 : Int32) from fun z => e ((nI_eq (b := 5) (by omega) (by omega)).mp z))]
        have := X_fail s (wde v tl (skp v tl p)) F (skp v tl p) 0 hF
        rw [show (0 : Int32) = nI 0 from rfl, this, bind2_s]
  · have et : skp v tl p = tl := by omega
    rw [et, X_tat_e hX, bind1_s, show p_Reader_isLetter (-1) = some 0 by decide, bind1_s, if_pos rfl, if_pos (spn_tt tl)]
theorem XF_house (hX : TX s tl v) {p : Nat} (hp : p ≤ tl) {F : Nat} (hF0 : ¬ F = 0) (hF : F < 3000) : ∃ r q, q ≤ tl ∧ p_Reader_takeHouseLimit (rx s p F) = some (r, rx s q F) := by
  have h1 := skp_b (v := v) hp
  have h2 := wde_b (v := v) h1.2
  rw [X_house_eq hX hp hF, fl_n hF0]
  split
  · exact ⟨_, _, h1.2, rfl⟩
  · split
    · exact XF_num hX h2.2 hF0 hF (by omega) (by omega)
    · exact ⟨_, _, h2.2, rfl⟩
theorem X_semi_eq (hX : TX s tl v) {p : Nat} (hp : p ≤ tl) {F : Nat} (hF : F < 3000) : p_Reader_takeSemicolon (rx s p F) = if skp v tl p < tl ∧ v (skp v tl p) = 59 then some (1, rx s (skp v tl p + 1) F) else some (0, rx s (skp v tl p) (fl F (skp v tl p) 0)) := by
  have h1 := skp_b (v := v) hp
  have hf := X_fail s (skp v tl p) F (skp v tl p) 0 hF
  unfold p_Reader_takeSemicolon
  rw [X_skip hX hp, bind1_s, rx_91]
  have hf2 : bind2 (p_Reader_fail (nI (skp v tl p)) (0 : Int32) (rx s (skp v tl p) F)) (fun r10 s11 => if gZ r10 = true then some (r10, s11) else none) = some (0, rx s (skp v tl p) (fl F (skp v tl p) 0)) := by
    rw [show (0 : Int32) = nI 0 from rfl, hf, bind2_s, if_pos (by decide)]; rfl
  rw [hf2, nI_1, rx_p, lq_e]
  by_cases el : skp v tl p < tl
  · have hv := (hX.2.2 _ el).1
    rw [X_tat hX el, bind1_s]
    by_cases e : v (skp v tl p) = 59
    · rw [if_pos (show skp v tl p < tl ∧ v (skp v tl p) = 59 from ⟨el, e⟩), if_pos (show nI (v (skp v tl p)) = (59 : Int32) by rw [e]; rfl)]
    · rw [if_neg (show ¬ (skp v tl p < tl ∧ v (skp v tl p) = 59) from fun z => e z.2), if_neg (show ¬ nI (v (skp v tl p)) = (59 : Int32) from fun z => e ((nI_eq (b := 59) (by omega) (by omega)).mp z))]
  · have et : skp v tl p = tl := by omega
    rw [if_neg (fun z => el z.1), et, X_tat_e hX, bind1_s, if_neg (by decide)]
theorem X_end_eq (hX : TX s tl v) {p : Nat} (hp : p ≤ tl) {F : Nat} (hF : F < 3000) : p_Reader_takeEnd (rx s p F) = if skp v tl p < tl then some (0, rx s (skp v tl p) (fl F (skp v tl p) 0)) else some (0, rx s (skp v tl p) F) := by
  have h3 := hX.1
  have h1 := skp_b (v := v) hp
  have hf := X_fail s (skp v tl p) F (skp v tl p) 0 hF
  have e7 : gM (rx s (skp v tl p) F) 7 1 = nI tl := hX.2.1
  unfold p_Reader_takeEnd p_Tape_length
  rw [X_skip hX hp, bind1_s, bind1_s, e7, rx_91]
  by_cases el : skp v tl p < tl
  · rw [if_neg (nI_ge el (by omega)), if_pos el, show (0 : Int32) = nI 0 from rfl, hf, bind2_s, if_pos (show (0 : Int32) = nI 0 from rfl)]
  · rw [if_pos (nI_le (by omega) (by omega)), if_neg el]
theorem XF_155 (k : Nat) (x4 x6 x7 x8 t0 : Int32) (p : Nat) {F : Nat} (hF0 : ¬ F = 0) (hF : F < 3000) : p_Reader_readStep_K155 k x4 x6 x7 x8 t0 (rx s p F) = some (0, rx s p F) := by
  unfold p_Reader_readStep_K155
  rw [rx_93, if_neg (nI_ne0 (by omega) (by omega))]
theorem XF_136 (hX : TX s tl v) (k : Nat) (x4 x6 x7 x8 : Int32) {p : Nat} (hp : p ≤ tl) {F : Nat} (hF0 : ¬ F = 0) (hF : F < 3000) : ∃ q, p_Reader_readStep_K136 k x4 x6 x7 x8 (rx s p F) = some (0, rx s q F) := by
  unfold p_Reader_readStep_K136
  rw [X_semi_eq hX hp hF, X_end_eq hX hp hF, fl_n hF0]
  repeat' split
  all_goals rw [bind2_s, XF_155 _ _ _ _ _ _ _ hF0 hF]
  all_goals exact ⟨_, rfl⟩
theorem XF_120 (hX : TX s tl v) (k : Nat) (x4 x6 x7 : Int32) {p : Nat} (hp : p ≤ tl) {F : Nat} (hF0 : ¬ F = 0) (hF : F < 3000) : ∃ q, p_Reader_readStep_K120 k x4 x6 x7 (rx s p F) = some (0, rx s q F) := by
  unfold p_Reader_readStep_K120
  split
  · obtain ⟨r, q, h1, h2⟩ := XF_house hX hp hF0 hF
    rw [h2, bind2_s]
    exact XF_136 hX _ _ _ _ _ h1 hF0 hF
  · exact XF_136 hX _ _ _ _ _ hp hF0 hF
theorem XF_104 (hX : TX s tl v) (k : Nat) (x4 x6 : Int32) {p : Nat} (hp : p ≤ tl) {F : Nat} (hF0 : ¬ F = 0) (hF : F < 3000) {B : Nat} (hB : gM s 9 2 = nI B) (hB2 : B ≤ 100) : ∃ q, p_Reader_readStep_K104 k x4 x6 (rx s p F) = some (0, rx s q F) := by
  unfold p_Reader_readStep_K104
  split
  · exact XF_120 hX _ _ _ _ hp hF0 hF
  · obtain ⟨r, q, h1, h2⟩ := XF_votes hX hp hF0 hF hB hB2
    rw [h2, bind2_s]
    exact XF_120 hX _ _ _ _ h1 hF0 hF
theorem QF_yl (t : XS) (q w : Nat) : QF t (yl t q w) := ⟨rfl, fun c z1 z2 => (gM_o z1).trans ((gM_o z1).trans (gM_o z1)), fun j hj => by unfold yl; rw [gM_sM, if_pos rfl, if_neg (by omega), gM_sM, if_pos rfl, if_neg (by omega), gM_sM, if_pos rfl, if_neg (by omega)]⟩
theorem QF_18 {t t' : XS} (h1 : gJ t' = gJ t) (h2 : ∀ c, ¬ c = 18 → gM t' c = gM t c) : QF t t' := ⟨h1, fun c _ z => h2 c z, fun j _ => by rw [h2 0 (by omega)]⟩
theorem QF_25 (t : XS) (x : Int32) : QF t (sM t 0 25 x) := ⟨rfl, fun c z _ => gM_o z, fun j hj => by rw [gM_sM, if_pos rfl, if_neg (by omega)]⟩
theorem by_sim (hX : TX s tl v) (hY : TY t tl v) {p : Nat} (hp : p ≤ tl) (h25 : gM t 0 25 = nI p) (h26 : gM t 0 26 = 0) {B : Nat} (hB : gM s 9 2 = nI B) (hB2 : B ≤ 100) : (∃ F q t', ¬ F = 0 ∧ F < 3000 ∧ q ≤ tl ∧ p_Reader_takeVotes (rx s p 0) = some (0, rx s q F) ∧ p_Model_by t = some (0, t') ∧ QG t t' ∧ gM t' 0 26 = nI F) ∨ (∃ N p1 q t', 1 ≤ N ∧ N ≤ 40 ∧ p1 ≤ tl ∧ q ≤ tl ∧ p_Reader_takeVotes (rx s p 0) = (if N ≤ B then some (nI N, rx s q 0) else some (0, rx s q (1 + 8 * p1 + 3))) ∧ p_Model_by t = some (1, t') ∧ QF t t' ∧ gM t' 0 25 = nI q ∧ gM t' 0 27 = nI N ∧ gM t' 0 28 = nI p1) := by
  have h3 := hX.1
  have h1 := skp_b (v := v) hp
  have h2 := wde_b (v := v) h1.2
  rw [X_votes_eq hX hp (by omega) hB, fl_0]
  unfold p_Model_by
  rw [Y_looks hY h25 hp, bind1_s]
  have q1 := QF_yl t (skp v tl p) (wde v tl (skp v tl p) - skp v tl p)
  have e29 : gM (yl t (skp v tl p) (wde v tl (skp v tl p) - skp v tl p)) 0 29 = nI (skp v tl p) := rfl
  have e30 : gM (yl t (skp v tl p) (wde v tl (skp v tl p) - skp v tl p)) 0 30 = nI (wde v tl (skp v tl p) - skp v tl p) := rfl
  generalize yl t (skp v tl p) (wde v tl (skp v tl p) - skp v tl p) = t1 at q1 e29 e30 ⊢
  obtain ⟨t2, w1, w2, w3⟩ := Y_isWord (hY.q q1) e29 e30 h2.1 h2.2 (show 3 < 5 by omega) (x1 := 98) (x2 := 121) (x3 := 0) (x4 := 0) (x5 := 0) (x6 := 0) rfl rfl rfl rfl rfl rfl
  have q2 := q1.tr (QF_18 w2 w3)
  have f29 : gM t2 0 29 = nI (skp v tl p) := by rw [w3 0 (by omega)]; exact e29
  have f30 : gM t2 0 30 = nI (wde v tl (skp v tl p) - skp v tl p) := by rw [w3 0 (by omega)]; exact e30
  have f26 : gM t2 0 26 = 0 := by rw [q2.2.2 26 (by omega)]; exact h26
  rw [w1, bind2_s, f29, f30, nI_add, show skp v tl p + (wde v tl (skp v tl p) - skp v tl p) = wde v tl (skp v tl p) by omega, lq_e]
  cases e : isW v (skp v tl p) (wde v tl (skp v tl p)) 3 with
  | false =>
    rw [if_neg (fun z => by have := wc4.mp z; rw [e] at this; cases this), if_pos (by rfl), show (0 : Int32) = nI 0 from rfl, Y_fails f26 0, bind2_s, if_pos gZ_z]
    exact Or.inl ⟨_, _, _, by omega, by omega, h2.2, rfl, rfl, QG_f q2 _, rfl⟩
  | true =>
    rw [if_pos (wc4.mpr e), if_neg (by decide)]
    have q3 := q2.tr (QF_25 t2 (nI (wde v tl (skp v tl p))))
    rcases num_sim (s := s) (t := sM t2 0 25 (nI (wde v tl (skp v tl p)))) hX (hY.q q3) h2.2 rfl f26 (top := 40) (met := B) (by omega) hB2 with ⟨F, q, t', z1, z2, z3, z4, z5, z6, z7⟩ | ⟨N, p1, q, t', z1, z2, z3, z4, z5, z6, z7, z8, z9, z10⟩
    · have z5 : p_Model_number (40 : Int32) (sM t2 0 25 (nI (wde v tl (skp v tl p)))) = some (0, t') := z5
      rw [z5, bind2_s, if_pos (by decide)]
      exact Or.inl ⟨F, q, t', z1, z2, z3, z4, rfl, q3.trG z6, z7⟩
    · have z6 : p_Model_number (40 : Int32) (sM t2 0 25 (nI (wde v tl (skp v tl p)))) = some (1, t') := z6
      rw [z6, bind2_s, if_pos (by decide)]
      exact Or.inr ⟨N, p1, q, t', z1, z2, z3, z4, z5, rfl, q3.tr z7, z8, z9, z10⟩
end LOCK
