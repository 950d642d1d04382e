/-! VOTES FOR ONE, on both sides -/
def vq (ho pa pr ye : Nat → Nat) (ki : Nat → Nat → Bool) (c v : Nat) : Bool := decide (v ≠ c ∧ pr v = 1 ∧ ¬ ho v = ho c ∧ ki v c = false ∧ ye (pa v * 4 + pa c) = 1)
theorem cnt_t {P : Nat → Bool} {i : Nat} (h : P i = true) : cnt P (i + 1) = cnt P i + 1 := by
  show cnt P i + (if P i then 1 else 0) = _
  rw [h]; rfl
theorem cnt_f {P : Nat → Bool} {i : Nat} (h : P i = false) : cnt P (i + 1) = cnt P i := by
  show cnt P i + (if P i then 1 else 0) = _
  rw [h]; rfl
theorem K61_0 (c5 : Int32 → Int32 → Option Int32) (x1 x2 x3 x4 x5 : Int32) (s : XS) : p_Sess_votesFor_K61 c5 x1 x2 x3 x4 x5 0 s = c5 x3 (x4 + 1) := by
  unfold p_Sess_votesFor_K61
  rw [if_pos (show (0 : Int32) = 0 from rfl)]
theorem X_votes {s : XS} {n : Nat} {ho pa pr ye : Nat → Nat} {ki : Nat → Nat → Bool} {np dn c : Nat} {L : List Nat} (hX : XC s n ho pa pr ye ki np) (hc : CC n ho pa pr ye ki np) (hdn : dn < 13) (h14 : gM s 14 8 = nI dn) (hl : L.length ≤ 40) (hm : ∀ x ∈ L, x < n) (hr : rowIs (gM s (48 + dn)) 0 L) (hcn : c < n) : p_Sess_votesFor (nI c) (nI L.length) s = some (nI (cnt (fun j => vq ho pa pr ye ki c (L.getD j 0)) L.length)) := by
  have hn := hc.1
  have key : ∀ (m i f : Nat), i + m = L.length → m < f → lo2 (p_Sess_votesFor_B5 (nI c) (nI L.length) s) f (nI (cnt (fun j => vq ho pa pr ye ki c (L.getD j 0)) i)) (nI i) = some (nI (cnt (fun j => vq ho pa pr ye ki c (L.getD j 0)) L.length)) := by
    intro m
    induction m with
    | zero =>
      intro i f hi hf
      obtain ⟨f, rfl⟩ : ∃ g, f = g + 1 := ⟨f - 1, by omega⟩
      have ein : i = L.length := by omega
      show p_Sess_votesFor_B5 _ _ s _ _ (nI i) = _
      unfold p_Sess_votesFor_B5
      rw [if_pos (nI_le (by omega) (by omega)), ein]
    | succ m ih =>
      intro i f hi hf
      obtain ⟨f, rfl⟩ : ∃ g, f = g + 1 := ⟨f - 1, by omega⟩
      have ih := ih (i + 1) f (by omega) (by omega)
      show p_Sess_votesFor_B5 _ _ s (lo2 (p_Sess_votesFor_B5 (nI c) (nI L.length) s) f) _ (nI i) = _
      generalize lo2 (p_Sess_votesFor_B5 (nI c) (nI L.length) s) f = K at ih ⊢
      have e1 := hr i (by omega)
      rw [Nat.zero_add] at e1
      have hv : L.getD i 0 < n := hm _ (mem_getD (by omega))
      generalize eP : (fun j => vq ho pa pr ye ki c (L.getD j 0)) = P at ih ⊢
      have eQ : P i = vq ho pa pr ye ki c (L.getD i 0) := by rw [← eP]
      unfold p_Sess_votesFor_B5
      rw [if_neg (nI_ge (by omega) (by omega)), h14, if_pos (gIn_t hdn (by omega)), if_pos (gIn_t (show i < 40 by omega) (by omega)), ix_nI (by omega), ix_nI (by omega), e1, K61_0, nI_1]
      generalize L.getD i 0 = v at hv eQ
      have hpv := hc.2.2.1 v hv
      have hpc := hc.2.2.1 c hcn
      have hye := hc.2.2.2.1 (pa v * 4 + pa c) (by omega)
      have ff : vq ho pa pr ye ki c v = false → K (nI (cnt P i)) (nI (i + 1)) = some (nI (cnt P L.length)) := fun q => by
        rw [← ih, cnt_f (by rw [eQ, q])]
      by_cases e2 : v = c
      · rw [if_pos (by rw [e2])]
        exact ff (decide_eq_false (fun q => q.1 e2))
      · rw [if_neg (fun q => e2 ((nI_eq (by omega) (by omega)).mp q)), X_isThere_t hX hc hv, bind1_s]
        rcases (show pr v = 0 ∨ pr v = 1 by omega) with e3 | e3
        · rw [e3, if_pos (show nI 0 = 0 from rfl)]
          exact ff (decide_eq_false (fun q => by have := q.2.1; omega))
        · rw [e3, if_neg (show ¬ nI 1 = 0 by decide), X_areKin hX hc hv hcn, bind1_s]
          by_cases e4 : v ≠ c ∧ (ho v = ho c ∨ ki v c = true)
          · rw [if_pos e4, if_neg (show ¬ nI 1 = 0 by decide)]
            exact ff (decide_eq_false (fun q => by
              rcases e4.2 with z | z
              · exact q.2.2.1 z
              · rw [q.2.2.2.1] at z; cases z))
          · rw [if_neg e4, if_pos (show nI 0 = 0 from rfl)]
            unfold p_Sess_votesFor_K61
            rw [if_neg (show ¬ (1 : Int32) = 0 by decide), X_partyOf hX hc hv, bind1_s, X_partyOf hX hc hcn, bind1_s, X_saysYes hX hc hpv.2.1 hpc.2.1, bind1_s, nI_1, nI_1]
            rcases (show ye (pa v * 4 + pa c) = 0 ∨ ye (pa v * 4 + pa c) = 1 by omega) with e5 | e5
            · rw [e5, if_pos (show nI 0 = 0 from rfl)]
              exact ff (decide_eq_false (fun q => by have := q.2.2.2.2; omega))
            · rw [e5, if_neg (show ¬ nI 1 = 0 by decide), ← ih, cnt_t (show P i = true by
                rw [eQ]
                refine decide_eq_true ⟨e2, e3, fun z => e4 ⟨e2, Or.inl z⟩, ?_, e5⟩
                cases z : ki v c
                · rfl
                · exact absurd ⟨e2, Or.inr z⟩ e4)]
  exact key L.length 0 fuelN (by omega) (by unfold fuelN; omega)
theorem Y_votes {s : XS} {n : Nat} {ho pa pr ye : Nat → Nat} {ki : Nat → Nat → Bool} {np dn c : Nat} {L : List Nat} (hY : YC s n ho pa pr ye ki np) (hc : CC n ho pa pr ye ki np) (hdn : dn < 13) (h18 : gM s 0 18 = nI dn) (hl : L.length ≤ 40) (hm : ∀ x ∈ L, x < n) (h15 : gM s 15 dn = nI L.length) (hr : rowIs (gM s 16) (40 * dn) L) (hcn : c < n) : p_Model_votesFor (nI c) s = some (nI (cnt (fun j => vq ho pa pr ye ki c (L.getD j 0)) L.length)) := by
  have hn := hc.1
  have key : ∀ (m i f : Nat), i + m = L.length → m < f → lo2 (p_Model_votesFor_B4 (nI c) s) f (nI (cnt (fun j => vq ho pa pr ye ki c (L.getD j 0)) i)) (nI i) = some (nI (cnt (fun j => vq ho pa pr ye ki c (L.getD j 0)) L.length)) := by
    intro m
    induction m with
    | zero =>
      intro i f hi hf
      obtain ⟨f, rfl⟩ : ∃ g, f = g + 1 := ⟨f - 1, by omega⟩
      have ein : i = L.length := by omega
      show p_Model_votesFor_B4 _ s _ _ (nI i) = _
      unfold p_Model_votesFor_B4
      rw [h18, if_pos (gIn_t hdn (by omega)), ix_nI (by omega), h15, if_pos (nI_le (by omega) (by omega)), ein]
    | succ m ih =>
      intro i f hi hf
      obtain ⟨f, rfl⟩ : ∃ g, f = g + 1 := ⟨f - 1, by omega⟩
      have ih := ih (i + 1) f (by omega) (by omega)
      show p_Model_votesFor_B4 _ s (lo2 (p_Model_votesFor_B4 (nI c) s) f) _ (nI i) = _
      generalize lo2 (p_Model_votesFor_B4 (nI c) s) f = K at ih ⊢
      have e1 := hr i (by omega)
      have hv : L.getD i 0 < n := hm _ (mem_getD (by omega))
      generalize eP : (fun j => vq ho pa pr ye ki c (L.getD j 0)) = P at ih ⊢
      have eQ : P i = vq ho pa pr ye ki c (L.getD i 0) := by rw [← eP]
      have e40 : (40 : Int32) * nI dn + nI i = nI (40 * dn + i) := by rw [show (40 : Int32) = nI 40 from rfl, pk_mul, nI_add]
      unfold p_Model_votesFor_B4
      rw [h18, if_pos (gIn_t hdn (by omega)), ix_nI (j := dn) (by omega), h15, if_neg (nI_ge (by omega) (by omega)), e40, if_pos (gIn_t (show 40 * dn + i < 520 by omega) (by omega)), ix_nI (j := 40 * dn + i) (by omega), e1]
      generalize L.getD i 0 = v at hv eQ
      have hpv := hc.2.2.1 v hv
      have hpc := hc.2.2.1 c hcn
      have hye := hc.2.2.2.1 (pa v * 4 + pa c) (by omega)
      have q1 := hY.2.2.1 v hv
      have q2 := hY.2.2.1 c hcn
      have q3 := hY.2.2.2.2 v c (by omega) (by omega)
      have q4 := hY.2.2.2.1 (pa v * 4 + pa c) (by omega)
      have g1 : gIn (nI v) 40 = true := gIn_t (show v < 40 by omega) (by omega)
      have g2 : gIn (nI c) 40 = true := gIn_t (show c < 40 by omega) (by omega)
      have e4 : (40 : Int32) * nI v + nI c = nI (40 * v + c) := by rw [show (40 : Int32) = nI 40 from rfl, pk_mul, nI_add]
      have e5 : (4 : Int32) * nI (pa v) + nI (pa c) = nI (pa v * 4 + pa c) := by rw [show (4 : Int32) = nI 4 from rfl, pk_mul, nI_add, Nat.mul_comm]
      have ff : vq ho pa pr ye ki c v = false → K (nI (cnt P i) + 0) (nI i + 1) = some (nI (cnt P L.length)) := fun q => by
        rw [nI_1, ← ih, cnt_f (by rw [eQ, q]), show nI (cnt P i) + (0 : Int32) = nI (cnt P i + 0) from nI_add _ 0, Nat.add_zero]
      rw [if_pos g1, if_pos g1, if_pos g1, if_pos g2, if_pos g2, ix_nI (j := v) (by omega), ix_nI (j := c) (by omega), q1.1, q1.2.1, q1.2.2, q2.1, q2.2.1, e4, e5, if_pos (gIn_t (show 40 * v + c < 1600 by omega) (by omega)), if_pos (gIn_t (show pa v * 4 + pa c < 16 by omega) (by omega)), ix_nI (j := 40 * v + c) (by omega), ix_nI (j := pa v * 4 + pa c) (by omega), q3, q4]
      rcases (show pr v = 0 ∨ pr v = 1 by omega) with e3 | e3
      · rw [e3, if_pos (show nI 0 = 0 from rfl)]
        exact ff (decide_eq_false (fun q => by have := q.2.1; omega))
      · rw [e3, if_neg (show ¬ nI 1 = 0 by decide)]
        by_cases e2 : v = c
        · rw [if_pos (by rw [e2])]
          exact ff (decide_eq_false (fun q => q.1 e2))
        · rw [if_neg (fun q => e2 ((nI_eq (by omega) (by omega)).mp q))]
          by_cases e6 : ho v = ho c
          · rw [if_pos (by rw [e6])]
            exact ff (decide_eq_false (fun q => q.2.2.1 e6))
          · rw [if_neg (fun q => e6 ((nI_eq (by omega) (by omega)).mp q))]
            cases e7 : ki v c with
            | true =>
              rw [if_neg (show ¬ nI (if true = true then 1 else 0) = 0 by decide)]
              exact ff (decide_eq_false (fun q => by have := q.2.2.2.1; rw [e7] at this; cases this))
            | false =>
              rw [if_pos (show nI (if false = true then 1 else 0) = 0 by decide)]
              rcases (show ye (pa v * 4 + pa c) = 0 ∨ ye (pa v * 4 + pa c) = 1 by omega) with e5 | e5
              · rw [e5, if_pos (show nI 0 = 0 from rfl)]
                exact ff (decide_eq_false (fun q => by have := q.2.2.2.2; omega))
              · rw [e5, if_neg (show ¬ nI 1 = 0 by decide), nI_1, nI_1, ← ih, cnt_t (show P i = true by
                  rw [eQ]
                  exact decide_eq_true ⟨e2, e3, e6, e7, e5⟩)]
  exact key L.length 0 fuelN (by omega) (by unfold fuelN; omega)
