theorem sel_succ_t {pr : Nat → Nat} {i : Nat} (h : pr i = 1) : sel pr (i + 1) = sel pr i ++ [i] := by
  unfold sel
  rw [List.range_succ, List.filter_append]
  simp [h]
theorem sel_succ_f {pr : Nat → Nat} {i : Nat} (h : pr i = 0) : sel pr (i + 1) = sel pr i := by
  unfold sel
  rw [List.range_succ, List.filter_append]
  simp [h]
theorem sel_len (pr : Nat → Nat) (i : Nat) : (sel pr i).length ≤ i := by
  unfold sel
  have := List.length_filter_le (fun i => pr i == 1) (List.range i)
  rw [List.length_range] at this
  exact this
theorem sel_lt {pr : Nat → Nat} {n x : Nat} (h : x ∈ sel pr n) : x < n := by
  unfold sel at h
  exact List.mem_range.mp (List.mem_filter.mp h).1
theorem rowIs_push {f : Nat → Int32} {off : Nat} {L : List Nat} {x : Nat} (h : rowIs f off L) (g : Nat → Int32) (hg : ∀ j, j < L.length → g (off + j) = f (off + j)) (hx : g (off + L.length) = nI x) : rowIs g off (L ++ [x]) := by
  intro j hj
  rw [List.length_append] at hj
  by_cases e : j < L.length
  · rw [hg j e, h j e, List.getD_eq_getElem?_getD, List.getD_eq_getElem?_getD, List.getElem?_append_left e]
  · have : j = L.length := by simp at hj; omega
    subst this
    rw [hx, List.getD_eq_getElem?_getD, List.getElem?_append_right (Nat.le_refl _), Nat.sub_self]; rfl
/-- what gathering the first body changes -/
def GX (a s : XS) : Prop := gG s = gG a ∧ gJ s = gJ a ∧ (∀ c, ¬ c = 48 → ¬ c = 16 → gM s c = gM a c) ∧ ∀ r, ¬ r = 0 → gM s 16 r = gM a 16 r
def GY (b s : XS) : Prop := gJ s = gJ b ∧ (∀ c, ¬ c = 15 → ¬ c = 16 → gM s c = gM b c) ∧ (∀ r, ¬ r = 0 → gM s 15 r = gM b 15 r) ∧ ∀ j, 40 ≤ j → gM s 16 j = gM b 16 j
theorem g0_13 : gIn (0 : Int32) 13 = true := by decide
theorem ix_0 : ix (0 : Int32) = 0 := by decide
theorem X_gather {a : XS} {n : Nat} {ho pa pr ye : Nat → Nat} {ki : Nat → Nat → Bool} {np : Nat} (h : XC a n ho pa pr ye ki np) (hc : CC n ho pa pr ye ki np) : ∃ s, p_Sess_gatherFirstBody a = some s ∧ GX a s ∧ gM s 16 0 = nI (sel pr n).length ∧ rowIs (gM s 48) 0 (sel pr n) := by
  have hn := hc.1
  have key : ∀ (m i f : Nat) (s : XS), i + m = n → m < f → GX a s → rowIs (gM s 48) 0 (sel pr i) → ∃ s', lo3 (p_Sess_gatherFirstBody_B4) f (nI (sel pr i).length) (nI i) s = some s' ∧ GX a s' ∧ gM s' 16 0 = nI (sel pr n).length ∧ rowIs (gM s' 48) 0 (sel pr n) := by
    intro m
    induction m with
    | zero =>
      intro i f s hi hf hG hr
      obtain ⟨f, rfl⟩ : ∃ g, f = g + 1 := ⟨f - 1, by omega⟩
      have ein : i = n := by omega
      subst ein
      have hXs : XC s i ho pa pr ye ki np := h.fr (fun c h1 h2 => hG.2.2.1 c (by omega) (by omega)) (by rw [hG.2.1])
      refine ⟨sM s 16 0 (nI (sel pr i).length), ?_, ⟨hG.1, hG.2.1, fun c h1 h2 => (gM_o h2).trans (hG.2.2.1 c h1 h2), fun r hr0 => ?_⟩, rfl, fun j hj => ?_⟩
      · show p_Sess_gatherFirstBody_B4 _ _ (nI i) s = _
        unfold p_Sess_gatherFirstBody_B4 p_City_size
        rw [bind1_s, hXs.1, if_pos (nI_le (by omega) (by omega)), if_pos g0_13, ix_0]; rfl
      · rw [gM_sM, if_pos rfl, if_neg hr0]; exact hG.2.2.2 r hr0
      · rw [gM_o (by omega)]; exact hr j hj
    | succ m ih =>
      intro i f s hi hf hG hr
      obtain ⟨f, rfl⟩ : ∃ g, f = g + 1 := ⟨f - 1, by omega⟩
      have hXs : XC s n ho pa pr ye ki np := h.fr (fun c h1 h2 => hG.2.2.1 c (by omega) (by omega)) (by rw [hG.2.1])
      have hl := sel_len pr i
      have hp := (hc.2.2.1 i (by omega)).2.2
      show ∃ s', p_Sess_gatherFirstBody_B4 (lo3 (p_Sess_gatherFirstBody_B4) f) (nI (sel pr i).length) (nI i) s = some s' ∧ _
      have ih := ih (i + 1) f
      generalize lo3 (p_Sess_gatherFirstBody_B4) f = k at ih ⊢
      unfold p_Sess_gatherFirstBody_B4 p_City_size
      rw [bind1_s, hXs.1, if_neg (nI_ge (by omega) (by omega)), if_neg (show ¬ (40 : Int32) ≤ nI (sel pr i).length from nI_ge (b := 40) (by omega) (by omega)), X_isThere_t hXs hc (by omega), bind1_s, show nI i + (1 : Int32) = nI (i + 1) from nI_1 i, nI_1]
      rcases (show pr i = 0 ∨ pr i = 1 by omega) with e | e
      · rw [e, if_pos (show nI 0 = 0 from rfl)]
        have := ih s (by omega) (by omega) hG (by rw [sel_succ_f e]; exact hr)
        rw [sel_succ_f e] at this
        exact this
      · rw [e, if_neg (show ¬ nI 1 = 0 by decide), if_pos g0_13, if_pos (gIn_t (show (sel pr i).length < 40 by omega) (by omega)), ix_0, ix_nI (by omega), lq_e]
        have := ih (sM s 48 (sel pr i).length (nI i)) (by omega) (by omega) ⟨hG.1, hG.2.1, fun c h1 h2 => (gM_o h1).trans (hG.2.2.1 c h1 h2), fun r hr0 => by rw [gM_o (by omega)]; exact hG.2.2.2 r hr0⟩ (by
          rw [sel_succ_t e]
          refine rowIs_push hr _ (fun j hj => ?_) ?_
          · rw [gM_sM, if_pos rfl, if_neg (by omega)]
          · rw [gM_sM, if_pos rfl, if_pos (by omega)])
        rw [sel_succ_t e, List.length_append] at this
        exact this
  exact key n 0 fuelN a (by omega) (by unfold fuelN; omega) ⟨rfl, rfl, fun _ _ _ => rfl, fun _ _ => rfl⟩ (fun j hj => absurd hj (Nat.not_lt_zero j))
theorem Y_begins {b : XS} {n : Nat} {ho pa pr ye : Nat → Nat} {ki : Nat → Nat → Bool} {np : Nat} (h : YC b n ho pa pr ye ki np) (hc : CC n ho pa pr ye ki np) (h0 : gM b 0 18 = nI 0) : ∃ s, p_Model_begins b = some s ∧ GY b s ∧ gM s 15 0 = nI (sel pr n).length ∧ rowIs (gM s 16) 0 (sel pr n) := by
  have hn := hc.1
  have key : ∀ (m i f : Nat) (s : XS), i + m = n → m < f → GY b s → gM s 15 0 = nI (sel pr i).length → rowIs (gM s 16) 0 (sel pr i) → ∃ s', lo2 (p_Model_begins_B17) f (nI i) s = some s' ∧ GY b s' ∧ gM s' 15 0 = nI (sel pr n).length ∧ rowIs (gM s' 16) 0 (sel pr n) := by
    intro m
    induction m with
    | zero =>
      intro i f s hi hf hG hz hr
      obtain ⟨f, rfl⟩ : ∃ g, f = g + 1 := ⟨f - 1, by omega⟩
      have ein : i = n := by omega
      subst ein
      have hYs : YC s i ho pa pr ye ki np := h.fr (by rw [hG.2.1 0 (by omega) (by omega)]) (by rw [hG.2.1 0 (by omega) (by omega)]) (fun c h1 h2 => hG.2.1 c (by omega) (by omega))
      refine ⟨s, ?_, hG, hz, hr⟩
      show p_Model_begins_B17 _ (nI i) s = _
      unfold p_Model_begins_B17
      rw [hYs.1, if_pos (nI_le (by omega) (by omega))]
    | succ m ih =>
      intro i f s hi hf hG hz hr
      obtain ⟨f, rfl⟩ : ∃ g, f = g + 1 := ⟨f - 1, by omega⟩
      have hYs : YC s n ho pa pr ye ki np := h.fr (by rw [hG.2.1 0 (by omega) (by omega)]) (by rw [hG.2.1 0 (by omega) (by omega)]) (fun c h1 h2 => hG.2.1 c (by omega) (by omega))
      have hl := sel_len pr i
      have hp := (hc.2.2.1 i (by omega)).2.2
      show ∃ s', p_Model_begins_B17 (lo2 (p_Model_begins_B17) f) (nI i) s = some s' ∧ _
      have ih := ih (i + 1) f
      generalize lo2 (p_Model_begins_B17) f = k at ih ⊢
      unfold p_Model_begins_B17
      rw [hYs.1, if_neg (nI_ge (by omega) (by omega)), if_pos (gIn_t (show i < 40 by omega) (by omega)), ix_nI (by omega), (hYs.2.2.1 i (by omega)).2.2, show nI i + (1 : Int32) = nI (i + 1) from nI_1 i]
      rcases (show pr i = 0 ∨ pr i = 1 by omega) with e | e
      · rw [e, if_pos (show nI 0 = 0 from rfl)]
        exact ih s (by omega) (by omega) hG (by rw [sel_succ_f e]; exact hz) (by rw [sel_succ_f e]; exact hr)
      · rw [e, if_neg (show ¬ nI 1 = 0 by decide), if_pos g0_13, ix_0, hz, if_pos (gIn_t (show (sel pr i).length < 520 by omega) (by omega)), ix_nI (by omega), lq_e, if_pos g0_13, if_pos g0_13, lq_e]
        have e9 : gM (sM s 16 (sel pr i).length (nI i)) 15 0 = nI (sel pr i).length := hz
        rw [e9, nI_1]
        refine ih _ (by omega) (by omega) ⟨hG.1, fun c h1 h2 => (gM_o h1).trans ((gM_o h2).trans (hG.2.1 c h1 h2)), fun r hr0 => ?_, fun j hj => ?_⟩ ?_ ?_
        · rw [gM_sM, if_pos rfl, if_neg hr0, gM_o (by omega)]; exact hG.2.2.1 r hr0
        · rw [gM_o (by omega), gM_sM, if_pos rfl, if_neg (by omega)]; exact hG.2.2.2 j hj
        · rw [sel_succ_t e, List.length_append, gM_sM, if_pos rfl, if_pos rfl]; rfl
        · rw [sel_succ_t e]
          refine rowIs_push hr _ (fun j hj => ?_) ?_
          · rw [gM_o (by omega), gM_sM, if_pos rfl, if_neg (by omega)]
          · rw [gM_o (by omega), gM_sM, if_pos rfl, if_pos (by omega)]
  unfold p_Model_begins
  rw [h0, if_pos (show nI 0 ≤ 0 from by decide), if_pos g0_13, ix_0, lq_e]
  exact key n 0 fuelN (sM b 15 0 0) (by omega) (by unfold fuelN; omega) ⟨rfl, fun c h1 h2 => gM_o h1, fun r hr0 => by rw [gM_sM, if_pos rfl, if_neg hr0], fun j hj => by rw [gM_o (by omega)]⟩ rfl (fun j hj => absurd hj (Nat.not_lt_zero j))
theorem Y_begins_no {b : XS} {d : Nat} (h0 : gM b 0 18 = nI d) (hd : 0 < d) (hd2 : d < 2 ^ 31) : p_Model_begins b = some b := by
  unfold p_Model_begins
  rw [h0, if_neg (nI_nle hd hd2)]
